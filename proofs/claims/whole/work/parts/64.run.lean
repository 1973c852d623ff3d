theorem lt8 {a : Nat} (h : a < 256) (k : ¬ (7 : Int32) < nI a) : a < 8 := by
  rw [show (7 : Int32) = nI 7 from rfl, nI_ltI (by decide) (by omega)] at k; omega
theorem le8 {a : Nat} (h : a < 256) (k : nI a ≤ (7 : Int32)) : a < 8 := by
  rw [show (7 : Int32) = nI 7 from rfl, nI_leI (by omega) (by decide)] at k; omega
theorem lt16 {a : Nat} (h : a < 256) (k : ¬ (15 : Int32) < nI a) : a < 16 := by
  rw [show (15 : Int32) = nI 15 from rfl, nI_ltI (by decide) (by omega)] at k; omega
theorem lt4 {a : Nat} (h : a < 256) (k : ¬ (3 : Int32) < nI a) : a < 4 := by
  rw [show (3 : Int32) = nI 3 from rfl, nI_ltI (by decide) (by omega)] at k; omega
theorem lt2 {a : Nat} (h : a < 256) (k : ¬ (1 : Int32) < nI a) : a < 2 := by
  rw [show (1 : Int32) = nI 1 from rfl, nI_ltI (by decide) (by omega)] at k; omega
theorem cost_eq (N : Mem) : ∀ q : Nat, q ≤ 17 → f_X6_cost N (nI q) = tab_COSTS q
  | 0, _ => rfl | 1, _ => rfl | 2, _ => rfl | 3, _ => rfl | 4, _ => rfl | 5, _ => rfl | 6, _ => rfl | 7, _ => rfl | 8, _ => rfl | 9, _ => rfl | 10, _ => rfl | 11, _ => rfl | 12, _ => rfl | 13, _ => rfl | 14, _ => rfl | 15, _ => rfl | 16, _ => rfl | 17, _ => rfl
  | q + 18, h => by omega
/-- the word that is next -/
theorem next_w {T S : Nat} {M N : Mem} (hr : Rel T S M N) (h3 : M 0 0 = 3) : ∃ t x L, t < 16 ∧ M 13 0 = nI t ∧ M 16 0 = nI x ∧ M 12 t = nI L ∧ L ≤ 32 ∧ x < L ∧ f_X5_nextInstruction M = M 11 (32 * t + x) ∧ ok_X5_nextInstruction M ∧ N 18 ((32 : Int32) * N 20 0 + N 11 0).toNatClampNeg = M 11 (32 * t + x) ∧ vp_in ((32 : Int32) * N 20 0 + N 11 0) 512 ∧ okW (M 12) (M 11 (32 * t + x)) (nI x) (nI L) := by
  obtain ⟨sN, n, h, ⟨-, ⟨y0, y1, y2, -⟩, ⟨g1, g2⟩, -⟩, ph⟩ := hr
  have p : M 10 0 = 1 ∧ Rrun S sN n M N := by
    rcases ph with ⟨p, -⟩ | ⟨p1, p2, ⟨p, -⟩ | ⟨p, -⟩ | ⟨p, -, -, p5⟩ | ⟨p, -⟩⟩
    · rw [p] at h3; exact absurd h3 (by decide)
    · rw [p] at h3; exact absurd h3 (by decide)
    · rw [p] at h3; exact absurd h3 (by decide)
    · exact ⟨p1, p5⟩
    · rw [p] at h3; exact absurd h3 (by decide)
  obtain ⟨p10, -, p15, p16, ⟨t, x, L, t1, t2, t3, t4, t5, t6⟩, -⟩ := p
  have e15 : M 15 0 = nI t := p15.trans t2
  have n20 : N 20 0 = nI t := by rw [← y2]; exact t2
  have n11 : N 11 0 = nI x := p16.symm.trans t3
  have ct : (nI t).toNatClampNeg = t := nI_clamp (by omega)
  have c1 : ¬ nI x < 0 := by rw [show (0 : Int32) = nI 0 from rfl, nI_ltI (by omega) (by decide)]; omega
  have c2 : ¬ nI t < 0 := by rw [show (0 : Int32) = nI 0 from rfl, nI_ltI (by omega) (by decide)]; omega
  have c3 : nI t < (16 : Int32) := by rw [show (16 : Int32) = nI 16 from rfl, nI_ltI (by omega) (by decide)]; omega
  have c4 : nI x < nI L := by rw [nI_ltI (by omega) (by omega)]; omega
  have vt : vp_in (nI t) 16 := vp_in_nI t1 (by decide)
  have ix : nI t * (32 : Int32) + nI x = nI (32 * t + x) := by rw [show (32 : Int32) = nI 32 from rfl, pk_mul, nI_add, Nat.mul_comm]
  have ix2 : (32 : Int32) * nI t + nI x = nI (32 * t + x) := by rw [show (32 : Int32) = nI 32 from rfl, pk_mul, nI_add]
  have cx : (nI (32 * t + x)).toNatClampNeg = 32 * t + x := nI_clamp (by omega)
  have vx : vp_in (nI (32 * t + x)) 512 := vp_in_nI (by omega) (by decide)
  refine ⟨t, x, L, t1, t2, t3, t4, t5, t6, ?_, ?_, ?_, ?_, ?_⟩
  · unfold f_X5_nextInstruction f_X1_wordAt f_X1_lengthOf
    rw [e15, t3, if_neg c1, if_neg c2, if_pos c3, ct, t4, if_pos c4, ix, cx]
  · unfold ok_X5_nextInstruction ok_X1_wordAt ok_X1_lengthOf f_X1_lengthOf
    rw [e15, t3, if_neg c1, if_neg c2, if_pos c3, if_neg c2, if_pos c3, ct, t4, if_pos c4, ix]
    exact ⟨vt, vx⟩
  · rw [n20, n11, ix2, cx, ← y0]
  · rw [n20, n11, ix2]; exact vx
  · rcases g2 with g2 | ⟨-, -, g2⟩
    · rw [p10] at g2; exact absurd g2 (by decide)
    · exact g2 t L x t1 t4 t5 t6
theorem fin {T S sN n h : Nat} {M N : Mem} (r : Rmid T S sN n h M N) (g : Rg M N) {t y L : Nat} (t1 : t < 16) (t2 : M 13 0 = nI t) (t3 : M 16 0 = nI y) (t4 : M 12 t = nI L) (t5 : L ≤ 32) (t6 : y < L) : Rel T S M N ∧ ¬ M 0 0 = 0 := by
  obtain ⟨rx, q1, q2, q3, q4, q5, q6, q7, q8, q9, q10, q11⟩ := r
  exact ⟨⟨sN, n, h, rx, Or.inr ⟨q1, q2, Or.inr (Or.inr (Or.inl ⟨q3, q4, q5, ⟨g, q6, q7⟩, q8, q9, ⟨t, y, L, t1, t2, t3, t4, t5, t6⟩, q10, q11⟩))⟩⟩, by rw [q3]; decide⟩
theorem run_do {T S : Nat} {M N : Mem} (hT : T < 2 ^ 29) (hS : S < 2 ^ 29) (hr : Rel T S M N) (h3 : M 0 0 = 3) {t x L : Nat} {w : Int32} (t1 : t < 16) (t2 : M 13 0 = nI t) (t3 : M 16 0 = nI x) (t4 : M 12 t = nI L) (t5 : L ≤ 32) (t6 : x < L) (hW : okW (M 12) w (nI x) (nI L)) :
    ok_X5_doInstruction M w ∧ og_run w N ∧ Rel T S (f_X5_doInstruction M w) (g_run w N) ∧ g_run w N 6 0 = N 6 0 ∧ ¬ f_X5_doInstruction M w 0 0 = 0 := by
  obtain ⟨sN, n, h, hx, ph⟩ := hr
  have p : M 10 0 = 1 ∧ M 4 0 = -1 ∧ M 13 2 = 0 ∧ M 9 0 = 0 ∧ Rrun S sN n M N := by
    rcases ph with ⟨p, -⟩ | ⟨p1, p2, ⟨p, -⟩ | ⟨p, -⟩ | ⟨p, p3, p4, p5⟩ | ⟨p, -⟩⟩
    · rw [p] at h3; exact absurd h3 (by decide)
    · rw [p] at h3; exact absurd h3 (by decide)
    · rw [p] at h3; exact absurd h3 (by decide)
    · exact ⟨p1, p2, p3, p4, p5⟩
    · rw [p] at h3; exact absurd h3 (by decide)
  obtain ⟨p10, p4, p13, p9, ⟨g, q17, q20⟩, p15, p16, -, gw, bd⟩ := p
  have r : Rmid T S sN n h (nm M) (nx N) := ⟨hx, p10, p4, h3, p13, p9, q17, q20, p15, congrArg (· + 1) p16, gw, bd⟩
  have g' : Rg (nm M) (nx N) := g
  have n16 : nm M 16 0 = nI (x + 1) := by
    show M 16 0 + 1 = _
    rw [t3, nI_1]
  obtain ⟨q, a, b, c, hq, ha, hb, hc, eo, ea, eb, ec, mA, mB, mC, h0, h67, hlast⟩ := okW_facts hW t6 t5
  have ca : (nI a).toNatClampNeg = a := nI_clamp (by omega)
  have cb : (nI b).toNatClampNeg = b := nI_clamp (by omega)
  have cc : (nI c).toNatClampNeg = c := nI_clamp (by omega)
  have fin1 : q ≠ 0 → q ≠ 7 → ∀ {M' N' : Mem}, Ok1 T S sN h (nm M) (nx N) M' N' → Rel T S M' N' ∧ N' 6 0 = N 6 0 ∧ ¬ M' 0 0 = 0 := by
    intro z0 z7 M' N' ⟨n', k1, k2, k3, k4, k5, k6⟩
    obtain ⟨f1, f2⟩ := fin k1 k2 (t := t) (y := x + 1) (L := L) t1 (by rw [k5]; exact t2) (by rw [k3]; exact n16) (by rw [k4]; exact t4) t5 (hlast z0 z7)
    exact ⟨f1, by rw [k6]; rfl, f2⟩
  have W : ∀ j : Int32, nI q = j → ¬ j = 0 → ¬ j = 16 → ¬ j = 17 → (ok_X0_work (nm M) w ∧ og_run w N ∧ Rel T S (f_X0_work (nm M) w) (g_run w N) ∧ g_run w N 6 0 = N 6 0 ∧ ¬ f_X0_work (nm M) w 0 0 = 0) → ok_X5_doInstruction M w ∧ og_run w N ∧ Rel T S (f_X5_doInstruction M w) (g_run w N) ∧ g_run w N 6 0 = N 6 0 ∧ ¬ f_X5_doInstruction M w 0 0 = 0 := by
    intro j ej j0 j1 j2 hh
    have ew : ush w 24 = j := eo.trans ej
    rw [dk_w M w (by rw [ew]; exact j0) (by rw [ew]; exact j1) (by rw [ew]; exact j2), do_w M w (by rw [ew]; exact j0) (by rw [ew]; exact j1) (by rw [ew]; exact j2)]
    exact hh
  have W1 : ∀ j : Int32, nI q = j → ¬ j = 0 → ¬ j = 16 → ¬ j = 17 → q ≠ 0 → q ≠ 7 → (ok_X0_work (nm M) w ∧ og_run w N ∧ Ok1 T S sN h (nm M) (nx N) (f_X0_work (nm M) w) (g_run w N)) → ok_X5_doInstruction M w ∧ og_run w N ∧ Rel T S (f_X5_doInstruction M w) (g_run w N) ∧ g_run w N 6 0 = N 6 0 ∧ ¬ f_X5_doInstruction M w 0 0 = 0 := by
    intro j ej j0 j1 j2 z0 z7 ⟨k1, k2, k3⟩
    exact W j ej j0 j1 j2 ⟨k1, k2, fin1 z0 z7 k3⟩
  have hcases : q = 0 ∨ q = 1 ∨ q = 2 ∨ q = 3 ∨ q = 4 ∨ q = 5 ∨ q = 6 ∨ q = 7 ∨ q = 8 ∨ q = 9 ∨ q = 10 ∨ q = 11 ∨ q = 12 ∨ q = 13 ∨ q = 14 ∨ q = 15 ∨ q = 16 ∨ q = 17 := by omega
  have hx' := hx
  obtain ⟨⟨x0, x1, x2, x3, x4, x5, x6, x7, x8, x9, x10⟩, ⟨y0, y1, y2, y3, y4, y5, y6, y7, y8, y9, y10, y11⟩, e3, ⟨e4, e4'⟩, ⟨e5, e5'⟩, e6, r1, ⟨s, s1, s2⟩, r3, r4, r5⟩ := hx'
  have n38 := e5'.1
  rcases hcases with rfl | rfl | rfl | rfl | rfl | rfl | rfl | rfl | rfl | rfl | rfl | rfl | rfl | rfl | rfl | rfl | rfl | rfl
  · -- END
    obtain ⟨a16, acl⟩ := h0 rfl
    have cn : (nI n).toNatClampNeg = n := nI_clamp (by omega)
    have cn1 : (nI (n + 1)).toNatClampNeg = n + 1 := nI_clamp (by omega)
    have vn : vp_in (nI n) 40 := vp_in_nI (by omega) (by decide)
    have vn1 : vp_in (nI (n + 1)) 40 := vp_in_nI (by omega) (by decide)
    have nm20 : nm M 20 0 = nI n := e5
    have nx14 : nx N 14 0 = nI n := q20.symm.trans e5
    rw [dk_0 M w eo, do_0 M w eo, rk_0 N w eo, ro_0 N w eo]
    unfold f_X2_close ok_X2_close bv f_X1_a f_X6_a
    simp only [nm20, nx14, nI_1, cn, cn1, ea]
    refine ⟨⟨vn, vn, vn1, vn1⟩, ⟨vn, vn, vn1, vn1⟩, ⟨sN, n, h, ⟨⟨rfl, x1, x2, x3, x4, x5, x6, x7, x8, x9, x10⟩, ⟨y0, y1, y2, y3, y4, y5, y6, congrArg (fun f => upd (upd f n 0) (n + 1) 1) y7, ?_, y9, y10, y11⟩, e3, ⟨e4, e4'⟩, ⟨e5, n38, fun k hk => ?_, fun b' hb' => ?_⟩, e6, r1, ⟨s, s1, s2⟩, r3, r4, r5⟩, Or.inr ⟨p10, p4, Or.inr (Or.inr (Or.inr ⟨rfl, p9, ⟨g, q17, q20⟩, rfl, ⟨t, t1, p15.trans t2⟩, fun k hk => ?_, 0, by omega, rfl, fun j j1 => by omega, fun _ => p13, fun j1 => by omega, fun _ => p15, fun j1 => by omega⟩))⟩⟩, rfl, (show ¬ (4 : Int32) = 0 by decide)⟩
    · show upd (upd (M 22) n (nI a)) (n + 1) (M 13 1 + 1) = upd (upd (N 27) n (nI a)) (n + 1) (N 20 1 + 1)
      rw [y8, y2]
    · show ∃ a', pz a' ∧ 3 ≤ a' ∧ upd (upd (M 21) n 0) (n + 1) 1 k = nI a' ∧ M 23 a' = nI (k + 1)
      rw [pk_un (by omega), pk_un (by omega)]
      exact e5'.2.1 k hk
    · show M 23 b' = 0 ∨ ∃ k, k < n ∧ M 23 b' = nI (k + 1) ∧ upd (upd (M 21) n 0) (n + 1) 1 k = nI b'
      rcases e5'.2.2 b' hb' with z | ⟨k, k1, k2, k3⟩
      · exact Or.inl z
      · exact Or.inr ⟨k, k1, k2, by rw [pk_un (by omega), pk_un (by omega)]; exact k3⟩
    · show ∃ a', pz a' ∧ upd (upd (M 21) n 0) (n + 1) 1 k = nI a' ∧ ve (M 10 0) (M 12) sN a' (upd (upd (M 22) n (nI a)) (n + 1) (M 13 1 + 1) k)
      by_cases k1 : k = n + 1
      · subst k1
        exact ⟨1, Or.inr (Or.inl rfl), pk_us, ve_any (by omega)⟩
      · rw [pk_un k1, pk_un k1]
        by_cases k2 : k = n
        · subst k2
          rw [pk_us, pk_us]
          exact ⟨0, Or.inl rfl, rfl, fun _ => ⟨a, a16, rfl, fun _ => acl⟩, fun z => by omega, fun z => by omega, fun z => by omega⟩
        · rw [pk_un k2, pk_un k2]
          exact gw k (by omega)
  · -- SET
    have va : vp_in (nI a) 8 := vp_in_nI (lt8 ha mA) (by decide)
    refine W1 1 rfl (by decide) (by decide) (by decide) (by decide) (by decide) ?_
    rw [wk_1 (nm M) w eo, wo_1 (nm M) w eo, rk_1 N w eo, ro_1 N w eo]
    unfold f_X1_a f_X6_a f_X6_b f_X6_c
    rw [ea, eb, ec, ca]
    exact ⟨va, va, ok_reg r g' (sx_lo w eb ec hb hc).symm⟩
  · -- ADD
    have va : vp_in (nI a) 8 := vp_in_nI (lt8 ha mA) (by decide)
    have vb : vp_in (nI b) 8 := vp_in_nI (lt8 hb mB) (by decide)
    have vc : vp_in (nI c) 8 := vp_in_nI (le8 hc mC) (by decide)
    refine W1 2 rfl (by decide) (by decide) (by decide) (by decide) (by decide) ?_
    rw [wk_2 (nm M) w eo, wo_2 (nm M) w eo, rk_2 N w eo, ro_2 N w eo]
    unfold f_X1_a f_X6_a f_X1_b f_X6_b f_X1_c f_X6_c
    rw [ea, eb, ec, ca, cb, cc]
    exact ⟨⟨vb, vc, va⟩, ⟨vb, vc, va⟩, ok_reg r g' (by rw [g' b (lt8 hb mB), g' c (le8 hc mC)])⟩
  · -- SUB
    have va : vp_in (nI a) 8 := vp_in_nI (lt8 ha mA) (by decide)
    have vb : vp_in (nI b) 8 := vp_in_nI (lt8 hb mB) (by decide)
    have vc : vp_in (nI c) 8 := vp_in_nI (le8 hc mC) (by decide)
    refine W1 3 rfl (by decide) (by decide) (by decide) (by decide) (by decide) ?_
    rw [wk_3 (nm M) w eo, wo_3 (nm M) w eo, rk_3 N w eo, ro_3 N w eo]
    unfold f_X1_a f_X6_a f_X1_b f_X6_b f_X1_c f_X6_c
    rw [ea, eb, ec, ca, cb, cc]
    exact ⟨⟨vb, vc, va⟩, ⟨vb, vc, va⟩, ok_reg r g' (by rw [g' b (lt8 hb mB), g' c (le8 hc mC)])⟩
  · -- MUL
    have va : vp_in (nI a) 8 := vp_in_nI (lt8 ha mA) (by decide)
    have vb : vp_in (nI b) 8 := vp_in_nI (lt8 hb mB) (by decide)
    have vc : vp_in (nI c) 8 := vp_in_nI (le8 hc mC) (by decide)
    refine W1 4 rfl (by decide) (by decide) (by decide) (by decide) (by decide) ?_
    rw [wk_4 (nm M) w eo, wo_4 (nm M) w eo, rk_4 N w eo, ro_4 N w eo]
    unfold f_X1_a f_X6_a f_X1_b f_X6_b f_X1_c f_X6_c
    rw [ea, eb, ec, ca, cb, cc]
    exact ⟨⟨vb, vc, va⟩, ⟨vb, vc, va⟩, ok_reg r g' (by rw [g' b (lt8 hb mB), g' c (le8 hc mC)])⟩
  · -- XOR
    have va : vp_in (nI a) 8 := vp_in_nI (lt8 ha mA) (by decide)
    have vb : vp_in (nI b) 8 := vp_in_nI (lt8 hb mB) (by decide)
    have vc : vp_in (nI c) 8 := vp_in_nI (le8 hc mC) (by decide)
    refine W1 5 rfl (by decide) (by decide) (by decide) (by decide) (by decide) ?_
    rw [wk_5 (nm M) w eo, wo_5 (nm M) w eo, rk_5 N w eo, ro_5 N w eo]
    unfold f_X1_a f_X6_a f_X1_b f_X6_b f_X1_c f_X6_c
    rw [ea, eb, ec, ca, cb, cc]
    exact ⟨⟨vb, vc, va⟩, ⟨vb, vc, va⟩, ok_reg r g' (by rw [g' b (lt8 hb mB), g' c (le8 hc mC)])⟩
  · -- ZERO
    have va : vp_in (nI a) 8 := vp_in_nI (lt8 ha mA) (by decide)
    have bL := h67 (Or.inl rfl)
    refine W 6 rfl (by decide) (by decide) (by decide) ?_
    rw [wk_6 (nm M) w eo, wo_6 (nm M) w eo, rk_6 N w eo, ro_6 N w eo]
    unfold f_X1_a f_X6_a f_X1_b f_X6_b
    rw [ea, eb, ca, ← g' a (lt8 ha mA)]
    refine ⟨va, va, ?_⟩
    by_cases z : nm M 25 a = 0
    · rw [if_pos z, if_pos z]
      have r2 : Rmid T S sN n h (ms (nm M) 16 (fun _ => nI b)) (ms (nx N) 11 (fun _ => nI b)) := by
        obtain ⟨k0, k1, k2, k3, k4, k5, k6, k7, k8, k9, k10⟩ := r
        exact ⟨k0, k1, k2, k3, k4, k5, k6, k7, k8, rfl, k10⟩
      obtain ⟨f1, f2⟩ := fin r2 g (t := t) (y := b) (L := L) t1 t2 rfl t4 t5 bL
      exact ⟨f1, rfl, f2⟩
    · rw [if_neg z, if_neg z]
      have r2 : Rmid T S sN n h (ms (nm M) 16 (fun _ => nm M 16 0)) (nx N) := r
      obtain ⟨f1, f2⟩ := fin r2 g (t := t) (y := x + 1) (L := L) t1 t2 n16 t4 t5 (hlast (by decide) (by decide))
      exact ⟨f1, rfl, f2⟩
  · -- GO
    have bL := h67 (Or.inr rfl)
    refine W 7 rfl (by decide) (by decide) (by decide) ?_
    rw [wk_7 (nm M) w eo, wo_7 (nm M) w eo, rk_7 N w eo, ro_7 N w eo]
    unfold f_X1_b f_X6_b
    rw [eb]
    refine ⟨trivial, trivial, ?_⟩
    have r2 : Rmid T S sN n h (ms (nm M) 16 (fun _ => nI b)) (ms (nx N) 11 (fun _ => nI b)) := by
      obtain ⟨k0, k1, k2, k3, k4, k5, k6, k7, k8, k9, k10⟩ := r
      exact ⟨k0, k1, k2, k3, k4, k5, k6, k7, k8, rfl, k10⟩
    obtain ⟨f1, f2⟩ := fin r2 g (t := t) (y := b) (L := L) t1 t2 rfl t4 t5 bL
    exact ⟨f1, rfl, f2⟩
  · -- GET
    have va : vp_in (nI a) 8 := vp_in_nI (lt8 ha mA) (by decide)
    have b16 := lt16 hb mB
    have pb : pz (8 + b) := Or.inr (Or.inr (Or.inr (by omega)))
    have k8 : (8 : Int32) + nI b = nI (8 + b) := nI_add 8 b
    obtain ⟨o1, o2, o3, -⟩ := rd (mid_pd r) pb
    refine W1 8 rfl (by decide) (by decide) (by decide) (by decide) (by decide) ?_
    rw [wk_8 (nm M) w eo, wo_8 (nm M) w eo, rk_8 N w eo, ro_8 N w eo]
    unfold f_X1_a f_X6_a f_X1_b f_X6_b
    rw [ea, eb, ca, k8]
    exact ⟨⟨o1, va⟩, ⟨o2, va⟩, ok_reg r g' o3.symm⟩
  · -- PUT
    have va : vp_in (nI a) 8 := vp_in_nI (lt8 ha mA) (by decide)
    have b16 := lt16 hb mB
    have pb : pz (8 + b) := Or.inr (Or.inr (Or.inr (by omega)))
    have k8 : (8 : Int32) + nI b = nI (8 + b) := nI_add 8 b
    obtain ⟨o1, o2, o3, o4⟩ := op_put r g' pb (by omega) (v := nm M 25 a) (ve_any (by omega))
    refine W1 9 rfl (by decide) (by decide) (by decide) (by decide) (by decide) ?_
    rw [wk_9 (nm M) w eo, wo_9 (nm M) w eo, rk_9 N w eo, ro_9 N w eo]
    unfold f_X1_a f_X6_a f_X1_b f_X6_b bv
    rw [ea, eb, ca, k8, ← g' a (lt8 ha mA)]
    refine ⟨⟨va, o1⟩, ⟨o2, ?_⟩, o4⟩
    rcases o3 with z | z
    · rw [if_pos z]; trivial
    · by_cases z2 : f_X6_hasRoom (nx N) (nI (8 + b)) (nI (8 + b)) = 0
      · rw [if_pos z2]; trivial
      · rw [if_neg z2]; exact ⟨va, z⟩
  · -- LOAD
    have va : vp_in (nI a) 8 := vp_in_nI (lt8 ha mA) (by decide)
    have vc : vp_in (nI c) 8 := vp_in_nI (le8 hc mC) (by decide)
    have b4 := lt4 hb mB
    obtain ⟨e, he, ee⟩ := pk_andE (nm M 25 c) (m := 7) 3 (by decide)
    have pb : pz (24 + 8 * b + e) := Or.inr (Or.inr (Or.inr (by omega)))
    have k8 : (24 : Int32) + nI b * (8 : Int32) + nI e = nI (24 + 8 * b + e) := by
      rw [show (8 : Int32) = nI 8 from rfl, show (24 : Int32) = nI 24 from rfl, pk_mul, nI_add, nI_add, Nat.mul_comm]
    have k8' : (24 : Int32) + (8 : Int32) * nI b + nI e = nI (24 + 8 * b + e) := by
      rw [show (8 : Int32) = nI 8 from rfl, show (24 : Int32) = nI 24 from rfl, pk_mul, nI_add, nI_add]
    obtain ⟨o1, o2, o3, -⟩ := rd (mid_pd r) pb
    refine W1 10 rfl (by decide) (by decide) (by decide) (by decide) (by decide) ?_
    rw [wk_10 (nm M) w eo, wo_10 (nm M) w eo, rk_10 N w eo, ro_10 N w eo]
    unfold f_X1_a f_X6_a f_X1_b f_X6_b f_X1_c f_X6_c f_X0_wordOfRow
    rw [ea, eb, ec, ca, cc, ← g' c (le8 hc mC), ee, k8, k8']
    exact ⟨⟨vc, o1, va⟩, ⟨vc, o2, va⟩, ok_reg r g' o3.symm⟩
  · -- STORE
    have va : vp_in (nI a) 8 := vp_in_nI (lt8 ha mA) (by decide)
    have vc : vp_in (nI c) 8 := vp_in_nI (le8 hc mC) (by decide)
    have b4 := lt4 hb mB
    obtain ⟨e, he, ee⟩ := pk_andE (nm M 25 c) (m := 7) 3 (by decide)
    have pb : pz (24 + 8 * b + e) := Or.inr (Or.inr (Or.inr (by omega)))
    have k8 : (24 : Int32) + nI b * (8 : Int32) + nI e = nI (24 + 8 * b + e) := by
      rw [show (8 : Int32) = nI 8 from rfl, show (24 : Int32) = nI 24 from rfl, pk_mul, nI_add, nI_add, Nat.mul_comm]
    have k8' : (24 : Int32) + (8 : Int32) * nI b + nI e = nI (24 + 8 * b + e) := by
      rw [show (8 : Int32) = nI 8 from rfl, show (24 : Int32) = nI 24 from rfl, pk_mul, nI_add, nI_add]
    obtain ⟨o1, o2, o3, o4⟩ := op_put r g' pb (by omega) (v := nm M 25 a) (ve_any (by omega))
    refine W1 11 rfl (by decide) (by decide) (by decide) (by decide) (by decide) ?_
    rw [wk_11 (nm M) w eo, wo_11 (nm M) w eo, rk_11 N w eo, ro_11 N w eo]
    unfold f_X1_a f_X6_a f_X1_b f_X6_b f_X1_c f_X6_c f_X0_wordOfRow bv
    rw [ea, eb, ec, ca, cc, ← g' c (le8 hc mC), ee, k8, k8', ← g' a (lt8 ha mA)]
    refine ⟨⟨vc, va, o1⟩, ⟨vc, o2, ?_⟩, o4⟩
    rcases o3 with z | z
    · rw [if_pos z]; trivial
    · by_cases z2 : f_X6_hasRoom (nx N) (nI (24 + 8 * b + e)) (nI (24 + 8 * b + e)) = 0
      · rw [if_pos z2]; trivial
      · rw [if_neg z2]; exact ⟨va, z⟩
  · -- PUSH
    have va : vp_in (nI a) 8 := vp_in_nI (lt8 ha mA) (by decide)
    have k6 : (56 : Int32) + nI b * (6 : Int32) = nI (56 + 6 * b) := by
      rw [show (56 : Int32) = nI 56 from rfl, show (6 : Int32) = nI 6 from rfl, pk_mul, nI_add, Nat.mul_comm]
    obtain ⟨o1, o2, o3⟩ := op_push r g' (lt2 hb mB) (v := nm M 25 a)
    refine W1 12 rfl (by decide) (by decide) (by decide) (by decide) (by decide) ?_
    rw [wk_12 (nm M) w eo, wo_12 (nm M) w eo, rk_12 N w eo, ro_12 N w eo]
    unfold f_X1_a f_X6_a f_X1_b f_X6_b bv
    rw [ea, eb, ca, k6, ← g' a (lt8 ha mA)]
    exact ⟨⟨va, o1⟩, ⟨va, o2⟩, o3⟩
  · -- POP
    have k6 : (56 : Int32) + nI b * (6 : Int32) = nI (56 + 6 * b) := by
      rw [show (56 : Int32) = nI 56 from rfl, show (6 : Int32) = nI 6 from rfl, pk_mul, nI_add, Nat.mul_comm]
    obtain ⟨o1, o2, o3⟩ := op_pop r g' (lt8 ha mA) (lt2 hb mB)
    refine W1 13 rfl (by decide) (by decide) (by decide) (by decide) (by decide) ?_
    rw [wk_13 (nm M) w eo, wo_13 (nm M) w eo, rk_13 N w eo, ro_13 N w eo]
    unfold f_X1_a f_X6_a f_X1_b f_X6_b bv
    rw [ea, eb, k6]
    exact ⟨o1, o2, o3⟩
  · -- SENSE
    have va : vp_in (nI a) 8 := vp_in_nI (lt8 ha mA) (by decide)
    have vb : vp_in (nI b) 4 := vp_in_nI (lt4 hb mB) (by decide)
    refine W1 14 rfl (by decide) (by decide) (by decide) (by decide) (by decide) ?_
    rw [wk_14 (nm M) w eo, wo_14 (nm M) w eo, rk_14 N w eo, ro_14 N w eo]
    unfold f_X1_a f_X6_a f_X1_b f_X6_b
    rw [ea, eb, ca, cb]
    exact ⟨⟨vb, va⟩, ⟨vb, va⟩, ok_reg r g' (congrFun y4 b)⟩
  · -- SEND
    have va : vp_in (nI a) 8 := vp_in_nI (lt8 ha mA) (by decide)
    obtain ⟨o1, o2, o3⟩ := op_send hT r g' (v := nm M 25 a)
    refine W1 15 rfl (by decide) (by decide) (by decide) (by decide) (by decide) ?_
    rw [wk_15 (nm M) w eo, wo_15 (nm M) w eo, rk_15 N w eo, ro_15 N w eo]
    unfold f_X1_a f_X6_a bv
    rw [ea, ca, ← g' a (lt8 ha mA)]
    exact ⟨⟨va, o1⟩, ⟨va, o2⟩, o3⟩
  · -- BIND
    rw [dk_16 M w eo, do_16 M w eo, rk_16 N w eo, ro_16 N w eo]
    unfold f_X0_bind bv
    refine ⟨trivial, trivial, ?_⟩
    have r2 : Rmid T S sN n h (ms (ms (nm M) 19 (fun _ => 1)) 18 (fun _ => nm M 2 0)) (ms (nx N) 13 (fun _ => nx N 3 0)) := by
      obtain ⟨k0, k1, k2, k3, k4, k5, k6, k7, k8, k9, k10, -⟩ := r
      exact ⟨k0, k1, k2, k3, k4, k5, k6, k7, k8, k9, k10, Or.inr ⟨rfl, x2.symm, s, s1, x2.symm.trans s2⟩⟩
    obtain ⟨f1, f2⟩ := fin r2 g (t := t) (y := x + 1) (L := L) t1 t2 n16 t4 t5 (hlast (by decide) (by decide))
    exact ⟨f1, rfl, f2⟩
  · -- BOUND
    rw [dk_17 M w eo, do_17 M w eo, rk_17 N w eo, ro_17 N w eo]
    unfold f_X0_isTooLate f_X1_a f_X6_a bv
    rw [ea]
    have keep : Rel T S (nm M) (nx N) ∧ nx N 6 0 = N 6 0 ∧ ¬ nm M 0 0 = 0 := by
      obtain ⟨f1, f2⟩ := fin r g (t := t) (y := x + 1) (L := L) t1 t2 n16 t4 t5 (hlast (by decide) (by decide))
      exact ⟨f1, rfl, f2⟩
    rcases bd with ⟨b1, b2⟩ | ⟨b1, b2, q', b3, b4⟩
    · have c1 : nm M 19 0 = 0 := b1
      have c2 : nx N 13 0 = -1 := b2
      simp only [if_pos c1, if_pos c2, if_true]
      exact ⟨trivial, trivial, keep⟩
    · have c1 : ¬ nm M 19 0 = 0 := fun z => by
        have z' : M 19 0 = 0 := z
        rw [b1] at z'; exact absurd z' (by decide)
      have c2 : ¬ nx N 13 0 = -1 := fun z => by
        have z' : N 13 0 = -1 := z
        rw [b4] at z'; exact nm1 (by omega) z'
      have ed : nx N 3 0 - nx N 13 0 = nm M 2 0 - nm M 18 0 := by
        show N 3 0 - N 13 0 = M 2 0 - M 18 0
        rw [x2, b2]
      simp only [if_neg c1, if_neg c2, ed]
      by_cases c3 : nm M 2 0 - nm M 18 0 ≤ nI a
      · simp only [if_pos c3, if_true]
        exact ⟨trivial, trivial, keep⟩
      · simp only [if_neg c3, if_neg (show ¬ (1 : Int32) = 0 by decide)]
        obtain ⟨o, z, -, hz⟩ := endA (ms (ms (ms (nx N) 7 (fun _ => nx N 7 0 + 1)) 4 (fun _ => 2)) 10 (fun _ => 0))
        rw [hz]
        exact ⟨trivial, o, ⟨sN, n, h, ⟨⟨rfl, x1, x2, x3, x4, x5, congrArg (· + 1) x6, x7, p9, x9, x10⟩, ⟨y0, y1, y2, y3, y4, y5, y6, y7, y8, y9, y10, y11⟩, e3, ⟨e4, e4'⟩, ⟨e5, e5'⟩, e6, r1, ⟨s, s1, s2⟩, r3, r4, r5⟩, Or.inr ⟨p10, p4, Or.inr (Or.inl ⟨rfl, p13, Or.inl p9⟩)⟩⟩, rfl, (show ¬ (2 : Int32) = 0 by decide)⟩
