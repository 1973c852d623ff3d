theorem op_push {T S sN n h : Nat} {M N : Mem} (r : Rmid T S sN n h M N) (g : Rg M N) {b : Nat} (hb : b < 2) {v : Int32} :
    ok_X0_push M v (nI (56 + 6 * b)) ∧ ok_X6_push N (nI b) v ∧ Ok1 T S sN h M N (f_X0_push M v (nI (56 + 6 * b))) (f_X6_push N (nI b) v) := by
  have pq : pz (56 + 6 * b) := Or.inr (Or.inr (Or.inr (by omega)))
  have pq1 : pz (56 + 6 * b + 1) := Or.inr (Or.inr (Or.inr (by omega)))
  obtain ⟨o1, o2, o3, -, -, o4, -⟩ := rd (mid_pd r) pq
  obtain ⟨u1, u2, u3, -, -, -, u4⟩ := rd (mid_pd r) pq1
  obtain ⟨f, f1, f2⟩ := o4 (by omega)
  obtain ⟨m, m1, m2⟩ := u4 (by omega)
  have q6 : (56 : Int32) + (6 : Int32) * nI b = nI (56 + 6 * b) := by
    rw [show (56 : Int32) = nI 56 from rfl, show (6 : Int32) = nI 6 from rfl, pk_mul, nI_add]
  have k1 : nI (56 + 6 * b) + 1 = nI (56 + 6 * b + 1) := nI_1 _
  have k2 : nI (56 + 6 * b) + 2 = nI (56 + 6 * b + 2) := nI_add _ 2
  have fm : nI f + nI m = nI (f + m) := nI_add f m
  have a3 : nI (f + m) &&& 3 = nI ((f + m) % 4) := pk_andN (by omega) 2 (by decide)
  have r4 : nI (f + m) - nI (f + m) / 4 * 4 = nI ((f + m) % 4) := pk_rem (d := 4) (by omega) (by decide) (by decide)
  have k3 : nI (56 + 6 * b + 2) + nI ((f + m) % 4) = nI (56 + 6 * b + 2 + (f + m) % 4) := nI_add _ _
  have l4 := Nat.mod_lt (f + m) (show 0 < 4 by decide)
  generalize (f + m) % 4 = e at a3 r4 k3 l4
  have c4 : ((4 : Int32) ≤ nI m) ↔ 4 ≤ m := nI_leI (a := 4) (by decide) (by omega)
  have c4' : (nI m = (4 : Int32)) ↔ m = 4 := nI_eq (b := 4) (by omega) (by decide)
  unfold ok_X0_push ok_X6_push f_X0_push f_X6_push f_X0_placeOfQueue f_X0_push_54 f_X0_push_55
  simp only [q6, k1, k2, o3, u3, f2, m2, fm, a3, r4, k3, c4, c4', if_true, if_neg (show ¬ (1 : Int32) = 0 by decide)]
  by_cases d : 4 ≤ m
  · have d' : m = 4 := by omega
    simp only [if_pos d, if_pos d']
    exact ⟨⟨o1, u1, trivial⟩, ⟨u2, o2, trivial⟩, ok_reg r g rfl⟩
  · have d' : ¬ m = 4 := by omega
    simp only [if_neg d, if_neg d']
    have pe : pz (56 + 6 * b + 2 + e) := Or.inr (Or.inr (Or.inr (by omega)))
    have rr : Rmid T S sN n h M (ms N 25 (upd (N 25) 7 0)) := r
    obtain ⟨w1, w2, w3⟩ := mid_both rr (a := 56 + 6 * b + 2 + e) (b := 56 + 6 * b + 1) (by omega) pe (by omega) (u := v) (ve_any (by omega)) pq1 (by omega) (v := nI m + 1) ⟨fun q => by omega, fun q => by omega, fun q => by omega, fun _ => ⟨m + 1, by omega, nI_1 m⟩⟩
    rcases w3 with ⟨z1, z2⟩ | ⟨z1, M', z2, z3, z4, ⟨n', z5⟩, z6, z7, -⟩
    · simp only [if_pos z1, z2, bc, if_true]
      exact ⟨⟨o1, u1, w1⟩, ⟨u2, o2, w2, trivial⟩, ok_reg r g rfl⟩
    · simp only [if_neg z1, z2, bc, bv, if_neg (show ¬ (1 : Int32) = 0 by decide)]
      refine ⟨⟨o1, u1, w1⟩, ⟨u2, o2, w2, z3, z4⟩, n', mid_r z5 _ _, fun j hj => ?_, z6 16 (by decide) (by decide) (by decide) (by decide), z6 12 (by decide) (by decide) (by decide) (by decide), z6 13 (by decide) (by decide) (by decide) (by decide), z7 6 (by decide) (by decide) (by decide)⟩
      rw [ms_s, ms_s, z6 25 (by decide) (by decide) (by decide) (by decide), z7 25 (by decide) (by decide) (by decide), ms_s]
      by_cases e7 : j = 7
      · subst e7; rw [pk_us, pk_us]
      · rw [pk_un e7, pk_un e7, pk_un e7]; exact g j hj
theorem op_pop {T S sN n h : Nat} {M N : Mem} (r : Rmid T S sN n h M N) (g : Rg M N) {a b : Nat} (ha : a < 8) (hb : b < 2) :
    ok_X0_pop M (nI a) (nI (56 + 6 * b)) ∧ ok_X6_pop N (nI b) (nI a) ∧ Ok1 T S sN h M N (f_X0_pop M (nI a) (nI (56 + 6 * b))) (f_X6_pop N (nI b) (nI a)) := by
  have pq : pz (56 + 6 * b) := Or.inr (Or.inr (Or.inr (by omega)))
  have pq1 : pz (56 + 6 * b + 1) := Or.inr (Or.inr (Or.inr (by omega)))
  obtain ⟨o1, o2, o3, -, -, o4, -⟩ := rd (mid_pd r) pq
  obtain ⟨u1, u2, u3, -, -, -, u4⟩ := rd (mid_pd r) pq1
  obtain ⟨f, f1, f2⟩ := o4 (by omega)
  obtain ⟨m, m1, m2⟩ := u4 (by omega)
  have pf : pz (56 + 6 * b + 2 + f) := Or.inr (Or.inr (Or.inr (by omega)))
  obtain ⟨t1, t2, t3, -⟩ := rd (mid_pd r) pf
  have q6 : (56 : Int32) + (6 : Int32) * nI b = nI (56 + 6 * b) := by
    rw [show (56 : Int32) = nI 56 from rfl, show (6 : Int32) = nI 6 from rfl, pk_mul, nI_add]
  have k1 : nI (56 + 6 * b) + 1 = nI (56 + 6 * b + 1) := nI_1 _
  have k2 : nI (56 + 6 * b) + 2 = nI (56 + 6 * b + 2) := nI_add _ 2
  have a3 : nI (f + 1) &&& 3 = nI ((f + 1) % 4) := pk_andN (by omega) 2 (by decide)
  have af : nI f &&& 3 = nI f := by rw [pk_andN (by omega) 2 (by decide), Nat.mod_eq_of_lt (by omega)]
  have r4 : nI (f + 1) - nI (f + 1) / 4 * 4 = nI ((f + 1) % 4) := pk_rem (d := 4) (by omega) (by decide) (by decide)
  have k3 : nI (56 + 6 * b + 2) + nI f = nI (56 + 6 * b + 2 + f) := nI_add _ _
  have l4 := Nat.mod_lt (f + 1) (show 0 < 4 by decide)
  have ca : (nI a).toNatClampNeg = a := nI_clamp (by omega)
  have va : vp_in (nI a) 8 := vp_in_nI ha (by decide)
  have c0 : (nI m ≤ (0 : Int32)) ↔ m = 0 := by
    rw [show (0 : Int32) = nI 0 from rfl, nI_leI (by omega) (by decide)]; omega
  have c0' : (nI m = (0 : Int32)) ↔ m = 0 := nI_eq (b := 0) (by omega) (by decide)
  have f11 : nI f + 1 = nI (f + 1) := nI_1 f
  generalize (f + 1) % 4 = e at a3 r4 l4
  unfold ok_X0_pop ok_X6_pop f_X0_pop f_X6_pop f_X0_pop_50 f_X0_pop_51 ok_X0_pop_50 ok_X0_pop_51 f_X0_pop_91 f_X0_placeOfQueue
  simp only [q6, k1, k2, o3, u3, f2, m2, f11, a3, af, r4, k3, c0, c0', if_true, if_neg (show ¬ (1 : Int32) = 0 by decide), ca, t3]
  by_cases d : m = 0
  · simp only [if_pos d]
    refine ⟨⟨o1, u1, va⟩, ⟨o2, u2, va⟩, n, r, fun j hj => ?_, rfl, rfl, rfl, rfl⟩
    rw [ms_s, ms_s, ms_s]
    by_cases e7 : j = 7
    · subst e7; rw [pk_us, pk_us]
    · rw [pk_un e7, pk_un e7]
      by_cases ea : j = a
      · subst ea; rw [pk_us, pk_us]
      · rw [pk_un ea, pk_un ea]; exact g j hj
  · simp only [if_neg d]
    have em : nI m - 1 = nI (m - 1) := by rw [show (1 : Int32) = nI 1 from rfl, pk_sub (by omega)]
    have hu : ve (M 10 0) (M 12) sN (56 + 6 * b) (nI e) := ⟨fun q => by omega, fun q => by omega, fun _ => ⟨e, l4, rfl⟩, fun q => by omega⟩
    have hv : ve (M 10 0) (M 12) sN (56 + 6 * b + 1) (nI m - 1) := ⟨fun q => by omega, fun q => by omega, fun q => by omega, fun _ => ⟨m - 1, by omega, em⟩⟩
    obtain ⟨w1, w2, w3⟩ := mid_both r (a := 56 + 6 * b) (b := 56 + 6 * b + 1) (by omega) pq (by omega) hu pq1 (by omega) hv
    have rr : Rmid T S sN n h M (ms N 25 (upd (N 25) a (f_X2_read M (nI (56 + 6 * b + 2 + f))))) := r
    obtain ⟨w1', w2', w3'⟩ := mid_both rr (a := 56 + 6 * b) (b := 56 + 6 * b + 1) (by omega) pq (by omega) hu pq1 (by omega) hv
    have hsame : f_X6_hasRoom (ms N 25 (upd (N 25) a (f_X2_read M (nI (56 + 6 * b + 2 + f))))) (nI (56 + 6 * b)) (nI (56 + 6 * b + 1)) = f_X6_hasRoom N (nI (56 + 6 * b)) (nI (56 + 6 * b + 1)) := by
      obtain ⟨-, -, x1, -⟩ := proom2 (mid_pd r) (pz_lt pq) (pz_lt pq1) (show 56 + 6 * b ≠ 56 + 6 * b + 1 by omega)
      obtain ⟨-, -, x2, -⟩ := proom2 (mid_pd rr) (pz_lt pq) (pz_lt pq1) (show 56 + 6 * b ≠ 56 + 6 * b + 1 by omega)
      exact x2.trans x1.symm
    rcases w3 with ⟨z1, z2⟩ | ⟨z1, M', z2, -⟩
    · simp only [if_pos z1, z2, bc, if_true, if_neg d]
      exact ⟨⟨o1, u1, w1, trivial⟩, ⟨o2, u2, w2, trivial⟩, ok_reg r g rfl⟩
    · rcases w3' with ⟨y1, -⟩ | ⟨y1, M'', y2, y3, y4, ⟨n', y5⟩, y6, y7, y8⟩
      · rw [hsame] at y1; exact absurd y1 z1
      · simp only [if_neg z1, y2, bc, bv, if_neg (show ¬ (1 : Int32) = 0 by decide)]
        have rdn := y8 (56 + 6 * b + 2 + f) (by omega) (by omega) (by omega)
        obtain ⟨v1, -⟩ := rd (mid_pd y5) pf
        rw [rdn]
        refine ⟨⟨o1, u1, w1', v1, va⟩, ⟨o2, u2, w2, t2, va, y3, y4⟩, n', mid_r y5 _ _, fun j hj => ?_, y6 16 (by decide) (by decide) (by decide) (by decide), y6 12 (by decide) (by decide) (by decide) (by decide), y6 13 (by decide) (by decide) (by decide) (by decide), y7 6 (by decide) (by decide) (by decide)⟩
        rw [ms_s, ms_s, ms_s, y6 25 (by decide) (by decide) (by decide) (by decide), y7 25 (by decide) (by decide) (by decide), ms_s]
        by_cases e7 : j = 7
        · subst e7; rw [pk_us, pk_us]
        · rw [pk_un e7, pk_un e7]
          by_cases ea : j = a
          · subst ea; rw [pk_us, pk_us]
          · rw [pk_un ea, pk_un ea]; exact g j hj
theorem op_send {T S sN n h : Nat} (hT : T < 2 ^ 29) {M N : Mem} (r : Rmid T S sN n h M N) (g : Rg M N) {v : Int32} :
    ok_X0_send M v ∧ ok_X6_sendFrame N v ∧ Ok1 T S sN h M N (f_X0_send M v) (f_X6_sendFrame N v) := by
  have p3 : pz 3 := Or.inr (Or.inr (Or.inl rfl))
  obtain ⟨o1, o2, o3, -, o4, -⟩ := rd (mid_pd r) p3
  obtain ⟨d, d1, d2⟩ := o4 rfl
  have r' := r
  obtain ⟨⟨-, ⟨-, -, y2, -⟩, -, ⟨e4, e4', -⟩, -⟩, -⟩ := r'
  have n20 : N 20 4 = nI sN := by rw [← y2]; exact e4'
  rw [show nI 3 = (3 : Int32) from rfl] at o1 o2 o3 d2
  have sd : nI (sN + d) - nI sN = nI d := by rw [pk_sub (by omega)]; congr 1; omega
  have a15 : nI (sN + d) &&& 15 = nI ((sN + d) % 16) := pk_andN (by omega) 4 (by decide)
  have r16 : nI (sN + d) - nI (sN + d) / 16 * 16 = nI ((sN + d) % 16) := pk_rem (d := 16) (by omega) (by decide) (by decide)
  have k68 : (68 : Int32) + nI ((sN + d) % 16) = nI (68 + (sN + d) % 16) := nI_add 68 _
  have l16 := Nat.mod_lt (sN + d) (show 0 < 16 by decide)
  generalize (sN + d) % 16 = e at a15 r16 k68 l16
  have c16 : ((16 : Int32) ≤ nI d) ↔ 16 ≤ d := nI_leI (a := 16) (by decide) (by omega)
  have c16' : (nI d = (16 : Int32)) ↔ d = 16 := nI_eq (b := 16) (by omega) (by decide)
  unfold ok_X0_send ok_X6_sendFrame f_X0_send f_X6_sendFrame f_X0_send_45 f_X0_send_46 f_X4_payloadOf
  simp only [o3, d2, e4', n20, sd, a15, r16, k68, c16, c16', if_true, if_neg (show ¬ (1 : Int32) = 0 by decide)]
  by_cases c : 16 ≤ d
  · have c' : d = 16 := by omega
    simp only [if_pos c, if_pos c']
    exact ⟨⟨o1, trivial⟩, ⟨o2, trivial⟩, ok_reg r g rfl⟩
  · have c' : ¬ d = 16 := by omega
    simp only [if_neg c, if_neg c']
    have pe : pz (68 + e) := Or.inr (Or.inr (Or.inr (by omega)))
    have rr : Rmid T S sN n h M (ms N 25 (upd (N 25) 7 0)) := r
    obtain ⟨w1, w2, w3⟩ := mid_both rr (a := 68 + e) (b := 3) (by omega) pe (by omega) (u := v) (ve_any (by omega)) p3 (by omega) (v := nI (sN + d) + 1) ⟨fun q => by omega, fun _ => ⟨d + 1, by omega, nI_1 _⟩, fun q => by omega, fun q => by omega⟩
    rw [show nI 3 = (3 : Int32) from rfl] at w1 w2 w3
    rcases w3 with ⟨z1, z2⟩ | ⟨z1, M', z2, z3, z4, ⟨n', z5⟩, z6, z7, -⟩
    · simp only [if_pos z1, z2, bc, if_true]
      exact ⟨⟨o1, w1⟩, ⟨o2, w2, trivial⟩, ok_reg r g rfl⟩
    · simp only [if_neg z1, z2, bc, bv, if_neg (show ¬ (1 : Int32) = 0 by decide)]
      refine ⟨⟨o1, w1⟩, ⟨o2, w2, z3, z4⟩, n', mid_r z5 _ _, fun j hj => ?_, z6 16 (by decide) (by decide) (by decide) (by decide), z6 12 (by decide) (by decide) (by decide) (by decide), z6 13 (by decide) (by decide) (by decide) (by decide), z7 6 (by decide) (by decide) (by decide)⟩
      rw [ms_s, ms_s, z6 25 (by decide) (by decide) (by decide) (by decide), z7 25 (by decide) (by decide) (by decide), ms_s]
      by_cases e7 : j = 7
      · subst e7; rw [pk_us, pk_us]
      · rw [pk_un e7, pk_un e7, pk_un e7]; exact g j hj
