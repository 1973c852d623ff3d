/-- within an instruction: all but the registers and the next one's bounds -/
def Rmid (T S sN n h : Nat) (M N : Mem) : Prop := Rx T S sN n h M N ∧ M 10 0 = 1 ∧ M 4 0 = -1 ∧ M 0 0 = 3 ∧ M 13 2 = 0 ∧ M 9 0 = 0 ∧ M 17 0 = N 12 0 ∧ M 20 0 = N 14 0 ∧ M 15 0 = M 13 0 ∧ M 16 0 = N 11 0 ∧ Gw (M 10 0) (M 12) sN n (M 21) (M 22) ∧ ((M 19 0 = 0 ∧ N 13 0 = -1) ∨ (M 19 0 = 1 ∧ N 13 0 = M 18 0 ∧ ∃ q, q ≤ S ∧ N 13 0 = nI q))
def Rg (M N : Mem) : Prop := ∀ j, j < 8 → M 25 j = N 25 j
def Ok1 (T S sN h : Nat) (M N M' N' : Mem) : Prop := ∃ n', Rmid T S sN n' h M' N' ∧ Rg M' N' ∧ M' 16 = M 16 ∧ M' 12 = M 12 ∧ M' 13 = M 13 ∧ N' 6 = N 6
theorem mid_pd {T S sN n h : Nat} {M N : Mem} (r : Rmid T S sN n h M N) : Pd (M 10 0) (M 12) sN n M N := by
  obtain ⟨⟨-, ⟨-, -, y2, -, -, -, -, y7, y8, -⟩, -, ⟨-, e4⟩, ⟨e5, e5'⟩, -⟩, -, -, -, -, -, -, q20, -, -, gw, -⟩ := r
  exact ⟨y2, y7, y8, e5, q20.symm.trans e5, e5', e4, gw⟩
theorem frM_eq {M M' : Mem} (h : FrM M M') : M' = ms (ms (ms (ms M 20 (M' 20)) 21 (M' 21)) 22 (M' 22)) 23 (M' 23) := by
  funext k
  by_cases e3 : k = 23
  · subst e3; exact (ms_s _ 23 _).symm
  rw [ms_n _ _ e3]
  by_cases e2 : k = 22
  · subst e2; exact (ms_s _ 22 _).symm
  rw [ms_n _ _ e2]
  by_cases e1 : k = 21
  · subst e1; exact (ms_s _ 21 _).symm
  rw [ms_n _ _ e1]
  by_cases e0 : k = 20
  · subst e0; exact (ms_s _ 20 _).symm
  rw [ms_n _ _ e0]
  exact h k e0 e1 e2 e3
theorem frN_eq {N N' : Mem} (h : FrN N N') : N' = ms (ms (ms N 14 (N' 14)) 26 (N' 26)) 27 (N' 27) := by
  funext k
  by_cases e2 : k = 27
  · subst e2; exact (ms_s _ 27 _).symm
  rw [ms_n _ _ e2]
  by_cases e1 : k = 26
  · subst e1; exact (ms_s _ 26 _).symm
  rw [ms_n _ _ e1]
  by_cases e0 : k = 14
  · subst e0; exact (ms_s _ 14 _).symm
  rw [ms_n _ _ e0]
  exact h k e0 e1 e2
theorem mid_up {T S sN n n' h : Nat} {M N M' N' : Mem} (r : Rmid T S sN n h M N) (hM : FrM M M') (hN : FrN N N') (p : Pd (M 10 0) (M 12) sN n' M' N') : Rmid T S sN n' h M' N' := by
  have eM := frM_eq hM
  have eN := frN_eq hN
  generalize M' 20 = a20 at eM
  generalize M' 21 = a21 at eM
  generalize M' 22 = a22 at eM
  generalize M' 23 = a23 at eM
  generalize N' 14 = b14 at eN
  generalize N' 26 = b26 at eN
  generalize N' 27 = b27 at eN
  subst eM eN
  obtain ⟨p1, p2, p3, p4, p5, p6, p7, p8⟩ := p
  obtain ⟨⟨e1, ⟨y0, y1, y2, y3, y4, y5, y6, y7, y8, y9, y10, y11⟩, e3, e4, -, e6, e7⟩, q1, q2, q3, q4, q5, q6, -, q8, q9, -, q11⟩ := r
  exact ⟨⟨e1, ⟨y0, y1, y2, y3, y4, y5, y6, p2, p3, y9, y10, y11⟩, e3, e4, ⟨p4, p6⟩, e6, e7⟩, q1, q2, q3, q4, q5, q6, p4.trans p5.symm, q8, q9, p8, q11⟩
theorem mid_r {T S sN n h : Nat} {M N : Mem} (r : Rmid T S sN n h M N) (f g : Nat → Int32) : Rmid T S sN n h (ms M 25 f) (ms N 25 g) := r
theorem rg_u {M N : Mem} (g : Rg M N) {a : Nat} {v v' : Int32} (e : v = v') : Rg (ms M 25 (upd (M 25) a v)) (ms N 25 (upd (N 25) a v')) := by
  subst e
  intro j hj
  show upd (M 25) a v j = upd (N 25) a v j
  by_cases q : j = a
  · subst q; rw [pk_us, pk_us]
  · rw [pk_un q, pk_un q]; exact g j hj
theorem ok_reg {T S sN n h : Nat} {M N : Mem} (r : Rmid T S sN n h M N) (g : Rg M N) {a : Nat} {v v' : Int32} (e : v = v') : Ok1 T S sN h M N (ms M 25 (upd (M 25) a v)) (ms N 25 (upd (N 25) a v')) :=
  ⟨n, r, rg_u g e, rfl, rfl, rfl, rfl⟩
theorem ok_same {T S sN n h : Nat} {M N : Mem} (r : Rmid T S sN n h M N) (g : Rg M N) : Ok1 T S sN h M N M N := ⟨n, r, g, rfl, rfl, rfl, rfl⟩
theorem mid_w {T S sN n h : Nat} {M N : Mem} (r : Rmid T S sN n h M N) {a : Nat} (ha : pz a) (h3a : 3 ≤ a) {v : Int32} (hv : ve (M 10 0) (M 12) sN a v) (hroom : ¬ M 23 a = 0 ∨ n < 38) :
    ok_X2_write M (nI a) v ∧ ok_X6_put N (nI a) v ∧ Rmid T S sN (n + fr M a) h (f_X2_write M (nI a) v) (f_X6_put N (nI a) v) ∧ FrM M (f_X2_write M (nI a) v) ∧ FrN N (f_X6_put N (nI a) v) ∧ (∀ b, b < 164 → b ≠ a → fr (f_X2_write M (nI a) v) b = fr M b ∧ f_X2_read (f_X2_write M (nI a) v) (nI b) = f_X2_read M (nI b)) := by
  obtain ⟨p1, p2, p3, p4, p5, p6⟩ := pw (mid_pd r) ha h3a hv hroom
  exact ⟨p1, p2, mid_up r p4 p5 p3, p4, p5, p6⟩
theorem ve_any {sd : Int32} {cl : Nat → Int32} {sN a : Nat} {v : Int32} (h : a ≠ 0 ∧ a ≠ 3 ∧ a ≠ 56 ∧ a ≠ 57 ∧ a ≠ 62 ∧ a ≠ 63) : ve sd cl sN a v :=
  ⟨fun q => absurd q h.1, fun q => absurd q h.2.1, fun q => by omega, fun q => by omega⟩
theorem op_put {T S sN n h : Nat} {M N : Mem} (r : Rmid T S sN n h M N) (g : Rg M N) {a : Nat} (ha : pz a) (h3a : 3 ≤ a) {v : Int32} (hv : ve (M 10 0) (M 12) sN a v) :
    ok_X0_writeIfRoom M (nI a) v ∧ ok_X6_hasRoom N (nI a) (nI a) ∧ (f_X6_hasRoom N (nI a) (nI a) = 0 ∨ ok_X6_put N (nI a) v) ∧ Ok1 T S sN h M N (f_X0_writeIfRoom M (nI a) v) (if f_X6_hasRoom N (nI a) (nI a) = 0 then N else f_X6_put N (nI a) v) := by
  obtain ⟨o1, o2, o3, o4⟩ := proom1 (mid_pd r) (pz_lt ha)
  unfold ok_X0_writeIfRoom f_X0_writeIfRoom bv
  rw [o3]
  by_cases c : f_X2_hasRoomFor M (nI a) = 0
  · rw [if_pos c, if_pos c, if_pos c]
    exact ⟨⟨o1, trivial⟩, o2, Or.inl c, ok_same r g⟩
  · rw [if_neg c, if_neg c, if_neg c]
    obtain ⟨p1, p2, p3, p4, p5, p6⟩ := mid_w r ha h3a hv (o4 c)
    refine ⟨⟨o1, p1⟩, o2, Or.inr p2, _, p3, fun j hj => ?_, p4 16 (by decide) (by decide) (by decide) (by decide), p4 12 (by decide) (by decide) (by decide) (by decide), p4 13 (by decide) (by decide) (by decide) (by decide), p5 6 (by decide) (by decide) (by decide)⟩
    show f_X2_write M (nI a) v 25 j = f_X6_put N (nI a) v 25 j
    rw [p4 25 (by decide) (by decide) (by decide) (by decide), p5 25 (by decide) (by decide) (by decide)]
    exact g j hj
/-- both words or none of them -/
theorem mid_both {T S sN n h : Nat} {M N : Mem} (r : Rmid T S sN n h M N) {a b : Nat} (hab : a ≠ b) (ha : pz a) (h3a : 3 ≤ a) {u v : Int32} (hu : ve (M 10 0) (M 12) sN a u) (hb : pz b) (h3b : 3 ≤ b) (hv : ve (M 10 0) (M 12) sN b v) :
    ok_X0_writeBothIfRoom M (nI a) u (nI b) v ∧ ok_X6_hasRoom N (nI a) (nI b) ∧
    ((f_X6_hasRoom N (nI a) (nI b) = 0 ∧ f_X0_writeBothIfRoom M (nI a) u (nI b) v = (M, 0)) ∨
     (¬ f_X6_hasRoom N (nI a) (nI b) = 0 ∧ ∃ M', f_X0_writeBothIfRoom M (nI a) u (nI b) v = (M', 1) ∧ ok_X6_put N (nI a) u ∧ ok_X6_put (f_X6_put N (nI a) u) (nI b) v ∧ (∃ n', Rmid T S sN n' h M' (f_X6_put (f_X6_put N (nI a) u) (nI b) v)) ∧ FrM M M' ∧ FrN N (f_X6_put (f_X6_put N (nI a) u) (nI b) v) ∧ ∀ c, c < 164 → c ≠ a → c ≠ b → f_X2_read M' (nI c) = f_X2_read M (nI c))) := by
  obtain ⟨o1, o2, o3, o4⟩ := proom2 (mid_pd r) (pz_lt ha) (pz_lt hb) hab
  unfold ok_X0_writeBothIfRoom f_X0_writeBothIfRoom bv
  rw [o3]
  by_cases c : f_X2_hasRoomForBoth M (nI a) (nI b) = 0
  · rw [if_pos c, if_pos c]
    exact ⟨⟨o1, trivial⟩, o2, Or.inl ⟨c, rfl⟩⟩
  · rw [if_neg c, if_neg c]
    have rm := o4 c
    have fa : fr M a = 1 ∨ ¬ M 23 a = 0 := by
      by_cases q : M 23 a = 0
      · exact Or.inl (if_pos q)
      · exact Or.inr q
    obtain ⟨p1, p2, p3, p4, p5, p6⟩ := mid_w r ha h3a hu (by
      rcases fa with q | q
      · exact Or.inr (by omega)
      · exact Or.inl q)
    have f12 : f_X2_write M (nI a) u 12 = M 12 := p4 12 (by decide) (by decide) (by decide) (by decide)
    have f10 : f_X2_write M (nI a) u 10 = M 10 := p4 10 (by decide) (by decide) (by decide) (by decide)
    obtain ⟨q1, q2⟩ := p6 b (pz_lt hb) (Ne.symm hab)
    have fb : fr (f_X2_write M (nI a) u) b = 1 ∨ ¬ f_X2_write M (nI a) u 23 b = 0 := by
      by_cases q : f_X2_write M (nI a) u 23 b = 0
      · exact Or.inl (if_pos q)
      · exact Or.inr q
    obtain ⟨s1, s2, s3, s4, s5, s6⟩ := mid_w p3 hb h3b (v := v) (by rw [f12, f10]; exact hv) (by
      rcases fb with q | q
      · exact Or.inr (by omega)
      · exact Or.inl q)
    refine ⟨⟨o1, p1, s1⟩, o2, Or.inr ⟨c, _, rfl, p2, s2, ⟨_, s3⟩, fun k k0 k1 k2 k3 => ?_, fun k k0 k1 k2 => ?_, fun d d1 d2 d3 => ?_⟩⟩
    · rw [s4 k k0 k1 k2 k3, p4 k k0 k1 k2 k3]
    · rw [s5 k k0 k1 k2, p5 k k0 k1 k2]
    · rw [(s6 d d1 d3).2, (p6 d d1 d2).2]
theorem sx_lo (w : Int32) {b c : Nat} (hb : ush w 8 &&& 255 = nI b) (hc : w &&& 255 = nI c) (hb2 : b < 256) (hc2 : c < 256) : sx ((256 : Int32) * nI b + nI c) = sx w := by
  have h1 := pk_ushr w 8 8 (by decide)
  have h2 := pk_and (ush w 8) (m := 255) 8 (by decide)
  have h3 := pk_and w (m := 255) 8 (by decide)
  have h4 : (ush w 8).toBitVec.toNat = w.toBitVec.toNat / 2 ^ 8 := h1
  rw [h2, h4] at hb
  rw [h3] at hc
  have hW : w.toBitVec.toNat < 2 ^ 32 := w.toBitVec.isLt
  have eb : w.toBitVec.toNat / 2 ^ 8 % 2 ^ 8 = b := (nI_eq (by omega) (by omega)).mp hb
  have ec : w.toBitVec.toNat % 2 ^ 8 = c := (nI_eq (by omega) (by omega)).mp hc
  have e : (256 : Int32) * nI b + nI c = nI (w.toBitVec.toNat % 65536) := by
    rw [show (256 : Int32) = nI 256 from rfl, pk_mul, nI_add]
    congr 1
    omega
  have i16 : ∀ x : Int32, x.toInt16.toInt = (x.toBitVec.toNat : Int).bmod (2 ^ 16) := fun x => by
    rw [Int32.toInt_toInt16]
    have hx : x.toInt = (x.toBitVec.toNat : Int).bmod (2 ^ 32) := by
      unfold Int32.toInt
      exact BitVec.toInt_eq_toNat_bmod _
    rw [hx]
    exact Int.bmod_bmod_of_dvd (by decide)
  rw [e]
  unfold sx
  have k : (nI (w.toBitVec.toNat % 65536)).toInt16 = w.toInt16 := by
    apply Int16.toInt_inj.mp
    rw [i16, i16, pk_tn (by omega)]
    have : ((w.toBitVec.toNat % 65536 : Nat) : Int) = (w.toBitVec.toNat : Int) % 65536 := by omega
    rw [this]
    exact Int.emod_bmod _ _
  rw [k]
theorem okW_facts {cl : Nat → Int32} {w : Int32} {x L : Nat} (h : okW cl w (nI x) (nI L)) (hx : x < L) (hL : L ≤ 32) : ∃ q a b c : Nat, q ≤ 17 ∧ a < 256 ∧ b < 256 ∧ c < 256 ∧ ush w 24 = nI q ∧ ush w 16 &&& 255 = nI a ∧ ush w 8 &&& 255 = nI b ∧ w &&& 255 = nI c ∧ ¬ tab_MOST_A q < nI a ∧ ¬ tab_MOST_B q < nI b ∧ nI c ≤ tab_MOST_C q ∧ (q = 0 → a < 16 ∧ ¬ cl a = 0) ∧ (q = 6 ∨ q = 7 → b < L) ∧ (q ≠ 0 → q ≠ 7 → x + 1 < L) := by
  obtain ⟨q, hq, eo⟩ := ush24 w
  obtain ⟨a, ha, ea⟩ := by255 (ush w 16)
  obtain ⟨b, hb, eb⟩ := by255 (ush w 8)
  obtain ⟨c, hc, ec⟩ := by255 w
  have oo : (nI q ≤ (17 : Int32)) ↔ q ≤ 17 := by rw [show (17 : Int32) = nI 17 from rfl]; exact nI_leI (by omega) (by decide)
  have cq : (nI q).toNatClampNeg = q := nI_clamp (by omega)
  have e0 : (nI q = (0 : Int32)) ↔ q = 0 := nI_eq (b := 0) (by omega) (by decide)
  have e6 : (nI q = (6 : Int32)) ↔ q = 6 := nI_eq (b := 6) (by omega) (by decide)
  have e7 : (nI q = (7 : Int32)) ↔ q = 7 := nI_eq (b := 7) (by omega) (by decide)
  have bL : (nI b < nI L) ↔ b < L := nI_ltI (by omega) (by omega)
  have xL : (nI x = nI L - 1) ↔ x + 1 = L := by
    rw [show (1 : Int32) = nI 1 from rfl, pk_sub (by omega), nI_eq (by omega) (by omega)]; omega
  unfold okW f_X1_isFault f_X1_isFault_92 f_X1_isFault_102 f_X1_lengthOf f_X1_a f_X1_b f_X1_c f_X1_op at h
  rw [eo, ea, eb, ec] at h
  simp only [cq, oo, e0, e6, e7, bL, xL] at h
  have d1 : ¬ (1 : Int32) = 0 := by decide
  by_cases c17 : q ≤ 17
  · rw [if_pos c17] at h
    by_cases cA : tab_MOST_A q < nI a
    · rw [if_pos cA] at h; exact absurd h d1
    rw [if_neg cA] at h
    by_cases cB : tab_MOST_B q < nI b
    · rw [if_pos cB] at h; exact absurd h d1
    rw [if_neg cB] at h
    by_cases cC : nI c ≤ tab_MOST_C q
    · rw [if_pos cC] at h
      refine ⟨q, a, b, c, c17, ha, hb, hc, eo, ea, eb, ec, cA, cB, cC, fun z => ?_, fun z => ?_, fun z1 z2 => ?_⟩
      · rw [if_pos z] at h
        have na : ¬ nI a < 0 := by rw [show (0 : Int32) = nI 0 from rfl, nI_ltI (by omega) (by decide)]; omega
        have a16 : (nI a < (16 : Int32)) ↔ a < 16 := by rw [show (16 : Int32) = nI 16 from rfl]; exact nI_ltI (by omega) (by decide)
        have ca : (nI a).toNatClampNeg = a := nI_clamp (by omega)
        simp only [if_neg na, a16, ca] at h
        by_cases l : a < 16
        · rw [if_pos l] at h
          by_cases l2 : cl a = 0
          · exact absurd h (by
              show ¬ (if cl a = 0 then (1 : Int32) else 0) = 0
              rw [if_pos l2]; decide)
          · exact ⟨l, l2⟩
        · rw [if_neg l] at h
          exact absurd h (by decide)
      · by_cases bl : b < L
        · exact bl
        · rcases z with z | z <;> (subst z; simp [bl] at h)
      · by_cases xl : x + 1 = L
        · exfalso
          by_cases z6 : q = 6
          · subst z6
            by_cases bl : b < L <;> simp [bl, xl] at h
          · simp [z1, z2, z6, xl] at h
        · omega
    · rw [if_neg cC] at h; exact absurd h d1
  · rw [if_neg c17] at h; exact absurd h d1
