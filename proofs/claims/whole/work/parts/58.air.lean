def xwM (M : Mem) (a : Nat) (v : Int32) : Mem := ms (ms M 13 (upd (M 13) a v)) 14 (upd (M 14) a (M 14 a + 1))
def xwN (N : Mem) (a : Nat) (v : Int32) : Mem := ms (ms N 20 (upd (N 20) a v)) 21 (upd (N 21) a (N 21 a + 1))
theorem w4 (M : Mem) {a : Nat} (ha : a < 164) (v : Int32) : ok_X4_write M (nI a) v ∧ f_X4_write M (nI a) v = xwM M a v := by
  have c1 : ¬ nI a < 0 := by rw [show (0 : Int32) = nI 0 from rfl, nI_ltI (by omega) (by decide)]; omega
  have c2 : ¬ (164 : Int32) ≤ nI a := by rw [show (164 : Int32) = nI 164 from rfl, nI_leI (by decide) (by omega)]; omega
  have ca : (nI a).toNatClampNeg = a := nI_clamp (by omega)
  have va : vp_in (nI a) 164 := vp_in_nI ha (by decide)
  unfold ok_X4_write f_X4_write
  rw [if_neg c1, if_neg c2, if_neg c1, if_neg c2, ca]
  exact ⟨⟨va, va, va⟩, rfl⟩
theorem w6 (N : Mem) {a : Nat} (ha : a < 164) (v : Int32) : ok_X6_write N (nI a) v ∧ f_X6_write N (nI a) v = xwN N a v := by
  have ca : (nI a).toNatClampNeg = a := nI_clamp (by omega)
  have va : vp_in (nI a) 164 := vp_in_nI ha (by decide)
  unfold ok_X6_write f_X6_write
  rw [ca]
  exact ⟨⟨va, va, va⟩, rfl⟩
theorem le_i (r : Nat) : (84 : Int32) + (2 : Int32) * nI r = nI (84 + 2 * r) := by
  rw [show (84 : Int32) = nI 84 from rfl, show (2 : Int32) = nI 2 from rfl, pk_mul, nI_add]
theorem ap4 (M : Mem) {r a : Nat} (hr : r < 40) (ha : a < 164) (e : M 13 (84 + 2 * r) = nI a) : ok_X4_applyEntry M (nI r) ∧ f_X4_applyEntry M (nI r) = xwM M a (M 13 (85 + 2 * r)) := by
  have c1 : ¬ nI (84 + 2 * r) < (84 : Int32) := by rw [show (84 : Int32) = nI 84 from rfl, nI_ltI (by omega) (by decide)]; omega
  have c2 : ¬ (164 : Int32) ≤ nI (84 + 2 * r + 1) := by rw [show (164 : Int32) = nI 164 from rfl, nI_leI (by decide) (by omega)]; omega
  have k1 : (nI (84 + 2 * r)).toNatClampNeg = 84 + 2 * r := nI_clamp (by omega)
  have k2 : (nI (84 + 2 * r + 1)).toNatClampNeg = 85 + 2 * r := by rw [nI_clamp (by omega)]; omega
  have v1 : vp_in (nI (84 + 2 * r)) 164 := vp_in_nI (by omega) (by decide)
  have v2 : vp_in (nI (84 + 2 * r + 1)) 164 := vp_in_nI (by omega) (by decide)
  obtain ⟨w1, w2⟩ := w4 M ha (M 13 (85 + 2 * r))
  unfold ok_X4_applyEntry f_X4_applyEntry bv
  simp only [le_i, nI_1, if_neg c1, if_neg c2, k1, k2, e]
  exact ⟨⟨v1, v2, w1⟩, w2⟩
theorem pz4 {a : Nat} (h : pz a) : a ≠ 4 ∧ a ≠ 2 ∧ a < 84 := by unfold pz at h; omega
theorem Gk_w {sd : Int32} {cl w : Nat → Int32} {sN a : Nat} {v : Int32} (h : Gk sd cl w sN) (ha : pz a) (hv : ve sd cl sN a v) : Gk sd cl (upd w a v) sN := by
  obtain ⟨h1, h2⟩ := h
  refine ⟨?_, fun b hb => ?_⟩
  · rw [pk_un (pz4 ha).1.symm]; exact h1
  · by_cases e : b = a
    · subst e; rw [pk_us]; exact hv
    · rw [pk_un e]; exact h2 b hb
theorem Gk_n {sd : Int32} {cl w : Nat → Int32} {sN a : Nat} (v : Int32) (h : Gk sd cl w sN) (ha : ¬ pz a) (h4 : a ≠ 4) : Gk sd cl (upd w a v) sN := by
  obtain ⟨h1, h2⟩ := h
  refine ⟨?_, fun b hb => ?_⟩
  · rw [pk_un h4.symm]; exact h1
  · by_cases e : b = a
    · subst e; exact absurd hb ha
    · rw [pk_un e]; exact h2 b hb
theorem Gl_w {sd : Int32} {cl w : Nat → Int32} {sN m a : Nat} (v : Int32) (h : Gl sd cl w sN m) (ha : a < 84) : Gl sd cl (upd w a v) sN m := by
  obtain ⟨h1, h2⟩ := h
  refine ⟨h1, fun j hj => ?_⟩
  rw [pk_un (by omega), pk_un (by omega)]
  exact h2 j hj
theorem rx_w {T S sN n h : Nat} {M N : Mem} (hx : Rx T S sN n h M N) (h10 : M 10 0 = 1) (a : Nat) (v : Int32) (hk : Gk (M 10 0) (M 12) (upd (M 13) a v) sN) : Rx T S sN n h (xwM M a v) (xwN N a v) := by
  obtain ⟨e1, ⟨y0, y1, y2, y3, y4⟩, e3, ⟨e4, -⟩, e5, e6, r1, r2, r3, r4, -⟩ := hx
  refine ⟨e1, ⟨y0, y1, congrArg (fun f => upd f a v) y2, ?_, y4⟩, e3, ⟨e4, hk⟩, e5, e6, r1, r2, r3, r4, fun q => ?_⟩
  · show upd (M 14) a (M 14 a + 1) = upd (N 21) a (N 21 a + 1)
    rw [y3]
  · have q' : M 10 0 = 0 := q
    rw [h10] at q'; exact absurd q' (by decide)
theorem npz2 : ¬ pz 2 := by unfold pz; omega
theorem replay_do {T S : Nat} {M N : Mem} (hr : Rel T S M N) (h1 : M 0 0 = 1) : ok_X5_doReplayStep M ∧ og_rep N ∧ Rel T S (f_X5_doReplayStep M) (g_rep N) ∧ g_rep N 6 0 = N 6 0 ∧ ¬ f_X5_doReplayStep M 0 0 = 0 := by
  obtain ⟨sN, n, h, hx, ph⟩ := hr
  have hx' := hx
  obtain ⟨⟨x0, x1, x2, x3, x4, x5, x6, x7, x8, x9, x10⟩, ⟨y0, y1, y2, y3, y4⟩, e3, ⟨e4, e4'⟩, e5, e6, e7⟩ := hx'
  have p : M 10 0 = 1 ∧ M 4 0 = -1 ∧ M 9 0 = 0 ∧ ∃ m r, 0 < m ∧ r ≤ m ∧ M 13 2 = nI m ∧ M 7 0 = nI r ∧ Gl (M 10 0) (M 12) (M 13) sN m := by
    rcases ph with ⟨p, -⟩ | ⟨p1, p2, ⟨p, p3, p4⟩ | ⟨p, -⟩ | ⟨p, -⟩ | ⟨p, -⟩⟩
    · rw [p] at h1; exact absurd h1 (by decide)
    · exact ⟨p1, p2, p3, p4⟩
    · rw [p] at h1; exact absurd h1 (by decide)
    · rw [p] at h1; exact absurd h1 (by decide)
    · rw [p] at h1; exact absurd h1 (by decide)
  obtain ⟨p10, p4, p9, m, r, m1, m2, m3, m4, m5⟩ := p
  have m40 := m5.1
  unfold ok_X5_doReplayStep f_X5_doReplayStep og_rep g_rep
  rw [← y2, ← x7, m3, m4]
  by_cases c : m ≤ r
  · have c' : nI m ≤ nI r := nI_le c (by omega)
    obtain ⟨a1, a2⟩ := w4 M (a := 2) (by decide) 0
    obtain ⟨b1, b2⟩ := w6 N (a := 2) (by decide) 0
    simp only [if_pos c', bv]
    rw [show (2 : Int32) = nI 2 from rfl, a2, b2]
    refine ⟨a1, b1, ?_, rfl, (show ¬ (2 : Int32) = 0 by decide)⟩
    obtain ⟨⟨q0, q1, q2, q3, q4, q5, q6, q7, q8, q9⟩, q⟩ := rx_w hx p10 2 0 (Gk_n 0 e4' npz2 (by decide))
    exact ⟨sN, n, h, ⟨⟨rfl, q1, q2, q3, q4, q5, q6, q7, p9, q9⟩, q⟩, Or.inr ⟨p10, p4, Or.inr (Or.inl ⟨rfl, rfl, Or.inl p9⟩)⟩⟩
  · have c' : ¬ nI m ≤ nI r := by rw [nI_leI (by omega) (by omega)]; exact c
    obtain ⟨a, z1, z2, z3⟩ := m5.2 r (by omega)
    have za := pz_lt z1
    obtain ⟨a1, a2⟩ := ap4 M (r := r) (by omega) za z2
    obtain ⟨b1, b2⟩ := w6 N za (M 13 (85 + 2 * r))
    have k1 : (nI (84 + 2 * r)).toNatClampNeg = 84 + 2 * r := nI_clamp (by omega)
    have k2 : (nI (84 + 2 * r + 1)).toNatClampNeg = 85 + 2 * r := by rw [nI_clamp (by omega)]; omega
    have v1 : vp_in (nI (84 + 2 * r)) 164 := vp_in_nI (by omega) (by decide)
    have v2 : vp_in (nI (84 + 2 * r + 1)) 164 := vp_in_nI (by omega) (by decide)
    simp only [if_neg c', bv, le_i, nI_1, k1, k2, z2, a2, b2]
    refine ⟨a1, ⟨v1, v2, b1⟩, ?_, rfl, ?_⟩
    · obtain ⟨⟨q0, q1, q2, q3, q4, q5, q6, q7, q8, q9⟩, q⟩ := rx_w hx p10 a _ (Gk_w e4' z1 z3)
      refine ⟨sN, n, h, ⟨⟨q0, q1, q2, q3, q4, q5, q6, congrArg (· + 1) q7, q8, q9⟩, q⟩, Or.inr ⟨p10, p4, Or.inl ⟨h1, p9, m, r + 1, m1, by omega, ?_, ?_, Gl_w _ m5 (pz4 z1).2.2⟩⟩⟩
      · show upd (M 13) a _ 2 = nI m
        rw [pk_un (pz4 z1).2.1.symm]; exact m3
      · show M 7 0 + 1 = nI (r + 1)
        rw [m4, nI_1]
    · show ¬ M 0 0 = 0
      rw [h1]; decide
theorem Gr_up {fn : Nat → Int32} {h : Nat} (hh : h < 2 ^ 30) (hg : Gr fn h) : Gr (upd fn (h % 64) (nI h)) (h + 1) := by
  intro j hj
  by_cases e : j = h % 64
  · subst e; rw [pk_us]; exact Or.inr ⟨h, by omega, by omega, rfl, rfl⟩
  · rw [pk_un e]
    rcases hg j hj with ⟨a, b⟩ | ⟨q, q1, q2, q3, q4⟩
    · refine Or.inl ⟨a, ?_⟩
      have : h % 64 = h := Nat.mod_eq_of_lt (by omega)
      omega
    · refine Or.inr ⟨q, by omega, ?_, q3, q4⟩
      by_cases e2 : h = q + 64
      · subst e2; omega
      · omega
theorem Gr_has {fn : Nat → Int32} {h s : Nat} (hh : h < 2 ^ 30) (hg : Gr fn h) (hs : h = s + 1) : fn (s % 64) = nI s := by
  rcases hg (s % 64) (Nat.mod_lt _ (by decide)) with ⟨a, b⟩ | ⟨q, q1, q2, q3, q4⟩
  · have := Nat.mod_le s 64
    omega
  · have : q = s := by omega
    subst this; exact q4
theorem Gr_no {fn : Nat → Int32} {h : Nat} (hh : h < 2 ^ 30) (hg : Gr fn h) : ¬ fn (h % 64) = nI h := by
  rcases hg (h % 64) (Nat.mod_lt _ (by decide)) with ⟨a, b⟩ | ⟨q, q1, q2, q3, q4⟩
  · intro e
    rw [a] at e
    have := congrArg Int32.toInt e
    rw [nI_toInt (by omega)] at this
    have z : (-1 : Int32).toInt = -1 := rfl
    omega
  · rw [q4, nI_eq (by omega) (by omega)]; omega
theorem air_do {T S : Nat} {M N : Mem} (hT : T < 2 ^ 29) (hr : Rel T S M N) (h2 : M 0 0 = 2) (hf : ¬ M 13 3 ≤ M 13 4) : ok_X5_doAirStep M ∧ og_air N ∧ Rel (T + 1) S (f_X5_doAirStep M) (g_air N) ∧ g_air N 6 0 = N 6 0 ∧ ¬ f_X5_doAirStep M 0 0 = 0 := by
  obtain ⟨sN, n, h, hx, ph⟩ := hr
  have hx' := hx
  obtain ⟨⟨x0, x1, x2, x3, x4, x5, x6, x7, x8, x9, x10⟩, ⟨y0, y1, y2, y3, y4, y5, y6, y7, y8, y9, y10, y11⟩, e3, ⟨e4, e4', e4''⟩, e5, ⟨h27, hh, hg⟩, r1, ⟨r2, r2', r2''⟩, ⟨q, q1, q2⟩, r4, r5⟩ := hx'
  have p : M 10 0 = 1 ∧ M 4 0 = -1 ∧ M 13 2 = 0 ∧ (M 9 0 = 0 ∨ (M 9 0 = 1 ∧ h = sN + 1 ∧ ¬ M 13 3 = M 13 4)) := by
    rcases ph with ⟨p, -⟩ | ⟨p1, p2, ⟨p, -⟩ | ⟨p, p3, p4⟩ | ⟨p, -⟩ | ⟨p, -⟩⟩
    · rw [p] at h2; exact absurd h2 (by decide)
    · rw [p] at h2; exact absurd h2 (by decide)
    · exact ⟨p1, p2, p3, p4⟩
    · rw [p] at h2; exact absurd h2 (by decide)
    · rw [p] at h2; exact absurd h2 (by decide)
  obtain ⟨p10, p4, p13, p9⟩ := p
  obtain ⟨d, d1, d2⟩ := (e4'' 3 (Or.inr (Or.inr (Or.inl rfl)))).2.1 rfl
  have dpos : d ≠ 0 := fun e => by
    subst e
    rw [d2, e4'] at hf
    exact hf (nI_le (Nat.le_refl _) (by omega))
  have dd1 : d - 1 ≤ 16 := by omega
  have dd2 : sN + d = sN + 1 + (d - 1) := by omega
  have hne : ¬ M 13 3 = M 13 4 := by rw [d2, e4', nI_eq (by omega) (by omega)]; omega
  have s16 : nI sN &&& 15 = nI (sN % 16) := pk_andN (by omega) 4 (by decide)
  have s16' : nI sN - nI sN / 16 * 16 = nI (sN % 16) := pk_rem (by omega) (by decide) (by decide)
  have s64 : nI sN &&& 63 = nI (sN % 64) := pk_andN (by omega) 6 (by decide)
  have s64' : nI sN - nI sN / 64 * 64 = nI (sN % 64) := pk_rem (by omega) (by decide) (by decide)
  have q64 : nI q &&& 63 = nI (q % 64) := pk_andN (by omega) 6 (by decide)
  have q64' : nI q - nI q / 64 * 64 = nI (q % 64) := pk_rem (by omega) (by decide) (by decide)
  have l16 := Nat.mod_lt sN (show 0 < 16 by decide)
  have l64 := Nat.mod_lt sN (show 0 < 64 by decide)
  have m64 := Nat.mod_lt q (show 0 < 64 by decide)
  have k68 : (68 : Int32) + nI (sN % 16) = nI (68 + sN % 16) := nI_add 68 _
  have c68 : (nI (68 + sN % 16)).toNatClampNeg = 68 + sN % 16 := nI_clamp (by omega)
  have c64 : (nI (sN % 64)).toNatClampNeg = sN % 64 := nI_clamp (by omega)
  have cq : (nI (q % 64)).toNatClampNeg = q % 64 := nI_clamp (by omega)
  have v68 : vp_in (nI (68 + sN % 16)) 164 := vp_in_nI (by omega) (by decide)
  have v64 : vp_in (nI (sN % 64)) 64 := vp_in_nI (by omega) (by decide)
  have vq : vp_in (nI (q % 64)) 64 := vp_in_nI (by omega) (by decide)
  have n20 : N 20 4 = nI sN := by rw [← y2]; exact e4'
  rcases p9 with p9 | ⟨p9, p9', p9''⟩
  · have n10 : N 10 0 = 0 := by rw [← x8]; exact p9
    have sub : ok_X5_doAirStep M ∧ og_air N := by
      unfold ok_X5_doAirStep ok_X3_putOnAir og_air f_X4_payloadOf
      simp only [if_pos p9, if_pos n10, n20, ← x10, q2, q64, q64', s16', s64', k68, e4', s16, s64]
      refine ⟨⟨v68, vq, vq, ?_⟩, v68, vq, vq, v64, ?_⟩
      · by_cases c : nI sN = M 27 0
        · rw [if_pos c]; exact v64
        · rw [if_neg c]; trivial
      · by_cases c : N 30 (nI (sN % 64)).toNatClampNeg = nI sN
        · rw [if_pos c]; trivial
        · rw [if_neg c]; exact ⟨v64, v64⟩
    refine ⟨sub.1, sub.2, ?_⟩
    rcases hh with hh | hh
    · subst hh
      have c1 : nI h = M 27 0 := h27.symm
      have c2 : ¬ N 30 (h % 64) = nI h := Gr_no (by omega) hg
      have eM : f_X5_doAirStep M = (ms (ms (ms (ms (ms (ms M 28 (upd (M 28) (q % 64) (nI h))) 29 (upd (M 29) (q % 64) (M 13 (68 + h % 16)))) 26 (fun _ => nI q + 1)) 30 (upd (M 30) (h % 64) (M 13 (68 + h % 16)))) 27 (fun _ => M 27 0 + 1)) 9 (fun _ => 1)) := by
        unfold f_X5_doAirStep f_X3_putOnAir f_X4_payloadOf bv f_X5_doAirStep_51
        simp only [if_pos p9, e4', q2, q64, s16, k68, c68, s64, c64, cq, if_pos c1]
        exact if_pos p9
      have eN : g_air N = (ms (ms (ms (ms (ms (ms N 10 (fun _ => 1)) 28 (upd (N 28) (q % 64) (nI h))) 29 (upd (N 29) (q % 64) (N 20 (68 + h % 16)))) 16 (fun _ => nI q + 1)) 30 (upd (N 30) (h % 64) (nI h))) 31 (upd (N 31) (h % 64) (N 20 (68 + h % 16)))) := by
        unfold g_air
        simp only [if_pos n10, n20, ← x10, q2, q64', s16', k68, c68, s64', c64, cq, if_neg c2]
      rw [eM, eN, ← y2, ← y9, ← y10, ← y11]
      refine ⟨⟨h, n, h + 1, ⟨⟨x0, x1, x2, x3, x4, x5, x6, x7, rfl, x9, rfl⟩, ⟨y0, y1, y2, y3, y4, y5, y6, y7, y8, rfl, rfl, rfl⟩, e3, ⟨by omega, e4', e4''⟩, e5, ⟨?_, Or.inr rfl, Gr_up (by omega) hg⟩, r1, ⟨r2, r2', r2''⟩, ⟨q + 1, by omega, nI_1 q⟩, r4, r5⟩, Or.inr ⟨p10, p4, Or.inr (Or.inl ⟨h2, p13, Or.inr ⟨rfl, rfl, hne⟩⟩)⟩⟩, rfl, ?_⟩
      · show M 27 0 + 1 = nI (h + 1)
        rw [h27, nI_1]
      · show ¬ M 0 0 = 0
        rw [h2]; decide
    · have c1 : ¬ nI sN = M 27 0 := by rw [h27, nI_eq (by omega) (by omega)]; omega
      have c2 : N 30 (sN % 64) = nI sN := Gr_has (by omega) hg hh
      have eM : f_X5_doAirStep M = (ms (ms (ms (ms M 28 (upd (M 28) (q % 64) (nI sN))) 29 (upd (M 29) (q % 64) (M 13 (68 + sN % 16)))) 26 (fun _ => nI q + 1)) 9 (fun _ => 1)) := by
        unfold f_X5_doAirStep f_X3_putOnAir f_X4_payloadOf bv f_X5_doAirStep_51
        simp only [if_pos p9, e4', q2, q64, s16, k68, c68, cq, if_neg c1]
        exact if_pos p9
      have eN : g_air N = (ms (ms (ms (ms N 10 (fun _ => 1)) 28 (upd (N 28) (q % 64) (nI sN))) 29 (upd (N 29) (q % 64) (N 20 (68 + sN % 16)))) 16 (fun _ => nI q + 1)) := by
        unfold g_air
        simp only [if_pos n10, n20, ← x10, q2, q64', s16', k68, c68, s64', c64, cq, if_pos c2]
      rw [eM, eN, ← y2, ← y9, ← y10]
      refine ⟨⟨sN, n, h, ⟨⟨x0, x1, x2, x3, x4, x5, x6, x7, rfl, x9, rfl⟩, ⟨y0, y1, y2, y3, y4, y5, y6, y7, y8, rfl, rfl, y11⟩, e3, ⟨by omega, e4', e4''⟩, e5, ⟨h27, Or.inr hh, hg⟩, r1, ⟨r2, r2', r2''⟩, ⟨q + 1, by omega, nI_1 q⟩, r4, r5⟩, Or.inr ⟨p10, p4, Or.inr (Or.inl ⟨h2, p13, Or.inr ⟨rfl, hh, hne⟩⟩)⟩⟩, rfl, ?_⟩
      show ¬ M 0 0 = 0
      rw [h2]; decide
  · have c1 : ¬ M 9 0 = 0 := by rw [p9]; decide
    have c2 : ¬ N 10 0 = 0 := by rw [← x8]; exact c1
    obtain ⟨a1, a2⟩ := w4 M (a := 4) (by decide) (nI (sN + 1))
    obtain ⟨b1, b2⟩ := w6 (ms N 10 (fun _ => 0)) (a := 4) (by decide) (nI (sN + 1))
    have eM : f_X5_doAirStep M = ms (xwM M 4 (nI (sN + 1))) 9 (fun _ => 0) := by
      unfold f_X5_doAirStep bv f_X5_doAirStep_51
      rw [if_neg c1, e4', nI_1, show (4 : Int32) = nI 4 from rfl, a2]
      exact if_neg c1
    have eN : g_air N = xwN (ms N 10 (fun _ => 0)) 4 (nI (sN + 1)) := by
      unfold g_air bv
      rw [if_neg c2, n20, nI_1, show (4 : Int32) = nI 4 from rfl, b2]
    refine ⟨?_, ?_, ?_⟩
    · unfold ok_X5_doAirStep
      rw [if_neg c1, e4', nI_1]; exact a1
    · unfold og_air
      rw [if_neg c2, n20, nI_1]; exact b1
    · rw [eM, eN]
      have hk : Gk (M 10 0) (M 12) (upd (M 13) 4 (nI (sN + 1))) (sN + 1) := by
        refine ⟨pk_us, fun b hb => ?_⟩
        rw [pk_un (pz4 hb).1]
        obtain ⟨z1, z2, z3⟩ := e4'' b hb
        refine ⟨z1, fun e => ?_, z3⟩
        subst e
        exact ⟨d - 1, dd1, by rw [d2, dd2]⟩
      refine ⟨⟨sN + 1, n, h, ⟨⟨x0, x1, x2, x3, x4, x5, x6, x7, rfl, x9, x10⟩, ⟨y0, y1, ?_, ?_, y4, y5, y6, y7, y8, y9, y10, y11⟩, e3, ⟨by omega, hk⟩, e5, ⟨h27, Or.inl p9', hg⟩, r1, ⟨r2, r2', r2''⟩, ⟨q, by omega, q2⟩, r4, fun z => ?_⟩, Or.inr ⟨p10, p4, Or.inr (Or.inl ⟨h2, ?_, Or.inl rfl⟩)⟩⟩, rfl, ?_⟩
      · show upd (M 13) 4 (nI (sN + 1)) = upd (N 20) 4 (nI (sN + 1))
        rw [y2]
      · show upd (M 14) 4 (M 14 4 + 1) = upd (N 21) 4 (N 21 4 + 1)
        rw [y3]
      · have z' : M 10 0 = 0 := z
        rw [p10] at z'; exact absurd z' (by decide)
      · show upd (M 13) 4 (nI (sN + 1)) 2 = 0
        rw [pk_un (by decide)]; exact p13
      · show ¬ M 0 0 = 0
        rw [h2]; decide
