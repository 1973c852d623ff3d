theorem i_ext {x y : Int32} (h : x.toBitVec.toNat = y.toBitVec.toNat) : x = y := by
  have h1 : x.toBitVec = y.toBitVec := BitVec.eq_of_toNat_eq h
  have h2 : x.toInt = y.toInt := by unfold Int32.toInt; rw [h1]
  exact Int32.toInt_inj.mp h2
theorem ush24 (w : Int32) : ∃ q, q < 256 ∧ ush w 24 = nI q := by
  have h := pk_ushr w 24 24 (by decide)
  refine ⟨w.toBitVec.toNat / 2 ^ 24, ?_, i_ext ?_⟩
  · have : w.toBitVec.toNat < 2 ^ 32 := w.toBitVec.isLt
    omega
  · have h9 : w.toBitVec.toNat < 2 ^ 32 := w.toBitVec.isLt
    rw [pk_tn (by omega)]
    exact h
theorem by255 (x : Int32) : ∃ q, q < 256 ∧ x &&& 255 = nI q := by
  obtain ⟨j, h1, h2⟩ := pk_andE x (m := 255) 8 (by decide)
  exact ⟨j, h1, h2⟩
theorem nb_le {a : Nat} (h : a < 256) : nI a ≤ 255 := by
  rw [show (255 : Int32) = nI 255 from rfl]
  exact nI_le (by omega) (by decide)
theorem nb_nlt {a : Nat} (h : a < 256) : ¬ (255 : Int32) < nI a := Int32.not_lt.mpr (nb_le h)
theorem le_lt {a : Nat} (h : a < 256) (m k : Nat) (hm : m = k + 1) (hk : m < 256) {x y : Int32} (hx : x = nI m) (hy : y = nI k) : x ≤ nI a ↔ y < nI a := by
  subst hx; subst hy; subst hm
  rw [nI_leI (by omega) (by omega), nI_ltI (by omega) (by omega)]
  omega
theorem nle_le {a : Nat} (h : a < 256) (k : Nat) (hk : k < 256) {y : Int32} (hy : y = nI k) : nI a ≤ y ↔ ¬ y < nI a := by
  subst hy
  rw [nI_leI (by omega) (by omega), nI_ltI (by omega) (by omega)]
  omega
/-- what the seal asks, said by both alike -/
theorem right_iff {M N : Mem} (h11 : M 11 = N 18) (h12 : M 12 = N 19) (hc : ∀ t, t < 16 → ∃ n, n ≤ 32 ∧ M 12 t = nI n) {t i L : Nat} (ht : t < 16) (hL : M 12 t = nI L) (hL2 : L ≤ 32) (hi : i < L) :
    ok_X1_isFault M (M 11 (32 * t + i)) (nI i) (nI L) ∧ ok_X6_isRight N (nI t) (nI i) ∧ f_X6_isRight N (nI t) (nI i) = if f_X1_isFault M (M 11 (32 * t + i)) (nI i) (nI L) = 0 then 1 else 0 := by
  have ex : (32 : Int32) * nI t + nI i = nI (32 * t + i) := by rw [show (32 : Int32) = nI 32 from rfl, pk_mul, nI_add]
  have cx : (nI (32 * t + i)).toNatClampNeg = 32 * t + i := nI_clamp (by omega)
  have ct : (nI t).toNatClampNeg = t := nI_clamp (by omega)
  have v1 : vp_in (nI (32 * t + i)) 512 := vp_in_nI (by omega) (by decide)
  have v2 : vp_in (nI t) 16 := vp_in_nI ht (by decide)
  have hL' : N 19 t = nI L := by rw [← h12]; exact hL
  have lst : (nI i + 1 = nI L) ↔ (nI i = nI L - 1) := by
    rw [nI_1, show (1 : Int32) = nI 1 from rfl, pk_sub (by omega), nI_eq (by omega) (by omega), nI_eq (by omega) (by omega)]
    omega
  generalize hw : M 11 (32 * t + i) = w
  have hw' : N 18 (32 * t + i) = w := by rw [← h11]; exact hw
  obtain ⟨q, hq, eo⟩ := ush24 w
  obtain ⟨a, ha, ea⟩ := by255 (ush w 16)
  obtain ⟨b, hb, eb⟩ := by255 (ush w 8)
  obtain ⟨c, hc2, ec⟩ := by255 w
  have bL : (nI L ≤ nI b) ↔ ¬ nI b < nI L := by
    rw [nI_leI (by omega) (by omega), nI_ltI (by omega) (by omega)]
    omega
  have oo : (nI q ≤ (17 : Int32)) ↔ q ≤ 17 := by rw [show (17 : Int32) = nI 17 from rfl]; exact nI_leI (by omega) (by decide)
  simp only [ok_X1_isFault, ok_X6_isRight, f_X6_isRight, f_X1_isFault, f_X1_op, f_X1_a, f_X1_b, f_X1_c, f_X6_op, ex, cx, ct, hw', hL', eo, ea, eb, ec, lst]
  by_cases hq17 : q ≤ 17
  · have vq : vp_in (nI q) 18 := vp_in_nI (by omega) (by decide)
    rw [if_pos (oo.mpr hq17), if_pos (oo.mpr hq17)]
    have l0 : ok_X1_lengthOf M (nI a) := by
      unfold ok_X1_lengthOf
      split
      · trivial
      · rename_i h9
        split
        · rename_i h8
          exact in_lt rfl (by decide) h9 h8
        · trivial
    refine ⟨⟨vq, ?_⟩, ⟨v1, v2, ?_⟩, ?_⟩
    · split
      · trivial
      · refine ⟨vq, ?_⟩
        split
        · trivial
        · refine ⟨vq, ?_⟩
          split
          · split
            · exact l0
            · trivial
          · trivial
    · have z : ∀ t0 : Int32, ok_X6_isRight_35 N (nI t) w (nI q) t0 := by
        intro t0
        have y : ok_X6_isRight_56 N (nI t) w (nI q) := by
          unfold ok_X6_isRight_56
          repeat' split
          all_goals first
            | trivial
            | exact v2
            | (rename_i h9
               simp only [f_X6_a, ea] at h9 ⊢
               unfold f_X6_isTask at h9
               refine in_lt (b := 16) rfl (by decide) (fun h8 => h9 (by rw [if_pos h8])) ?_
               exact Int32.not_le.mp (fun h8 => h9 (by by_cases h7 : nI a < 0
                                                       · rw [if_pos h7]
                                                       · rw [if_neg h7, if_pos h8])))
        unfold ok_X6_isRight_35
        repeat' split
        all_goals first | exact y | trivial
      split
      · exact z 1
      · exact z 0
    · have a8 := le_lt ha 8 7 rfl (by decide) (x := 8) (y := 7) rfl rfl
      have b8 := le_lt hb 8 7 rfl (by decide) (x := 8) (y := 7) rfl rfl
      have b16 := le_lt hb 16 15 rfl (by decide) (x := 16) (y := 15) rfl rfl
      have b4 := le_lt hb 4 3 rfl (by decide) (x := 4) (y := 3) rfl rfl
      have b2 := le_lt hb 2 1 rfl (by decide) (x := 2) (y := 1) rfl rfl
      have c8 := le_lt hc2 8 7 rfl (by decide) (x := 8) (y := 7) rfl rfl
      have c7 := nle_le hc2 7 (by decide) (y := 7) rfl
      have cf := nb_le hc2
      have af := nb_nlt ha
      have bf := nb_nlt hb
      have ln : (f_X1_lengthOf M (nI a) = 0) ↔ (f_X6_isTask N (nI a) = 0 ∨ (¬ f_X6_isTask N (nI a) = 0 ∧ N 19 a ≤ 0)) := by
        have ca : (nI a).toNatClampNeg = a := nI_clamp (by omega)
        have n0 : ¬ nI a < 0 := nI_pos (by omega)
        simp only [f_X1_lengthOf, f_X6_isTask, if_neg n0, ca, h12]
        by_cases h16 : nI a < 16
        · have h16' : ¬ (16 : Int32) ≤ nI a := Int32.not_le.mpr h16
          have ha16 : a < 16 := by
            rw [show (16 : Int32) = nI 16 from rfl, nI_ltI (by omega) (by decide)] at h16
            exact h16
          obtain ⟨l, hl1, hl2⟩ := hc a ha16
          rw [h12] at hl2
          rw [if_pos h16, if_neg h16', hl2, show (0 : Int32) = nI 0 from rfl, nI_eq (by omega) (by decide), nI_leI (by omega) (by decide)]
          have h99 : ¬ (1 : Int32) = nI 0 := by decide
          exact ⟨fun h8 => Or.inr ⟨h99, by omega⟩, fun h8 => h8.elim (fun h7 => absurd h7 h99) (fun h7 => by have := h7.2; omega)⟩
        · have h16' : (16 : Int32) ≤ nI a := Int32.not_lt.mp h16
          rw [if_neg h16, if_pos h16']
          exact ⟨fun _ => Or.inl rfl, fun _ => rfl⟩
      have ca : (nI a).toNatClampNeg = a := nI_clamp (by omega)
      rcases (show q = 0 ∨ q = 1 ∨ q = 2 ∨ q = 3 ∨ q = 4 ∨ q = 5 ∨ q = 6 ∨ q = 7 ∨ q = 8 ∨ q = 9 ∨ q = 10 ∨ q = 11 ∨ q = 12 ∨ q = 13 ∨ q = 14 ∨ q = 15 ∨ q = 16 ∨ q = 17 by omega) with rfl | rfl | rfl | rfl | rfl | rfl | rfl | rfl | rfl | rfl | rfl | rfl | rfl | rfl | rfl | rfl | rfl | rfl
      · have e1 : (nI 0).toNatClampNeg = 0 := nI_clamp (by decide)
        have t1 : tab_MOST_A 0 = 255 := rfl
        have t2 : tab_MOST_B 0 = 255 := rfl
        have t3 : tab_MOST_C 0 = 255 := rfl
        simp only [e1, t1, t2, t3, f_X1_isFault_92, f_X1_isFault_102, f_X6_isRight_35, f_X6_isRight_56, f_X6_a, f_X6_b, f_X6_c, f_X1_b, ea, eb, ec, ct, ca, hL', a8, b8, b16, b4, b2, c8, c7, bL, if_neg af, if_neg bf, if_pos cf, if_pos (show nI 0 = 0 by decide), if_neg (show ¬ nI 0 = 7 by decide), if_neg (show ¬ nI 0 = 6 by decide), if_neg (show ¬ (1 : Int32) = 0 by decide), if_true]
        by_cases g1 : f_X6_isTask N (nI a) = 0
        · rw [if_pos (ln.mpr (Or.inl g1))]; simp [g1]
        · by_cases g2 : N 19 a ≤ 0
          · rw [if_pos (ln.mpr (Or.inr ⟨g1, g2⟩))]; simp [g1, g2]
          · rw [if_neg (fun h9 => (ln.mp h9).elim g1 (fun h8 => g2 h8.2))]; simp [g1, g2]
      · have e1 : (nI 1).toNatClampNeg = 1 := nI_clamp (by decide)
        have t1 : tab_MOST_A 1 = 7 := rfl
        have t2 : tab_MOST_B 1 = 255 := rfl
        have t3 : tab_MOST_C 1 = 255 := rfl
        simp only [e1, t1, t2, t3, f_X1_isFault_92, f_X1_isFault_102, f_X6_isRight_35, f_X6_isRight_56, f_X6_a, f_X6_b, f_X6_c, f_X1_b, ea, eb, ec, ct, ca, hL', a8, b8, b16, b4, b2, c8, c7, bL, if_neg af, if_neg bf, if_pos cf, if_neg (show ¬ nI 1 = 0 by decide), if_pos (show nI 1 = 1 by decide), if_neg (show ¬ nI 1 = 0 by decide), if_neg (show ¬ nI 1 = 7 by decide), if_neg (show ¬ nI 1 = 6 by decide), if_neg (show ¬ (1 : Int32) = 0 by decide), if_true]
        by_cases g0 : (7 : Int32) < nI a
        · by_cases g1 : nI i = nI L - 1
          · simp [g0, g1]
          · simp [g0, g1]
        · by_cases g1 : nI i = nI L - 1
          · simp [g0, g1]
          · simp [g0, g1]
      · have e1 : (nI 2).toNatClampNeg = 2 := nI_clamp (by decide)
        have t1 : tab_MOST_A 2 = 7 := rfl
        have t2 : tab_MOST_B 2 = 7 := rfl
        have t3 : tab_MOST_C 2 = 7 := rfl
        simp only [e1, t1, t2, t3, f_X1_isFault_92, f_X1_isFault_102, f_X6_isRight_35, f_X6_isRight_56, f_X6_a, f_X6_b, f_X6_c, f_X1_b, ea, eb, ec, ct, ca, hL', a8, b8, b16, b4, b2, c8, c7, bL, if_neg af, if_neg bf, if_pos cf, if_neg (show ¬ nI 2 = 0 by decide), if_neg (show ¬ nI 2 = 1 by decide), if_pos (show nI 2 = 2 by decide), if_neg (show ¬ nI 2 = 0 by decide), if_neg (show ¬ nI 2 = 7 by decide), if_neg (show ¬ nI 2 = 6 by decide), if_neg (show ¬ (1 : Int32) = 0 by decide), if_true]
        by_cases g0 : (7 : Int32) < nI a
        · by_cases g1 : (7 : Int32) < nI b
          · by_cases g2 : (7 : Int32) < nI c
            · by_cases g3 : nI i = nI L - 1
              · simp [g0, g1, g2, g3]
              · simp [g0, g1, g2, g3]
            · by_cases g3 : nI i = nI L - 1
              · simp [g0, g1, g2, g3]
              · simp [g0, g1, g2, g3]
          · by_cases g2 : (7 : Int32) < nI c
            · by_cases g3 : nI i = nI L - 1
              · simp [g0, g1, g2, g3]
              · simp [g0, g1, g2, g3]
            · by_cases g3 : nI i = nI L - 1
              · simp [g0, g1, g2, g3]
              · simp [g0, g1, g2, g3]
        · by_cases g1 : (7 : Int32) < nI b
          · by_cases g2 : (7 : Int32) < nI c
            · by_cases g3 : nI i = nI L - 1
              · simp [g0, g1, g2, g3]
              · simp [g0, g1, g2, g3]
            · by_cases g3 : nI i = nI L - 1
              · simp [g0, g1, g2, g3]
              · simp [g0, g1, g2, g3]
          · by_cases g2 : (7 : Int32) < nI c
            · by_cases g3 : nI i = nI L - 1
              · simp [g0, g1, g2, g3]
              · simp [g0, g1, g2, g3]
            · by_cases g3 : nI i = nI L - 1
              · simp [g0, g1, g2, g3]
              · simp [g0, g1, g2, g3]
      · have e1 : (nI 3).toNatClampNeg = 3 := nI_clamp (by decide)
        have t1 : tab_MOST_A 3 = 7 := rfl
        have t2 : tab_MOST_B 3 = 7 := rfl
        have t3 : tab_MOST_C 3 = 7 := rfl
        simp only [e1, t1, t2, t3, f_X1_isFault_92, f_X1_isFault_102, f_X6_isRight_35, f_X6_isRight_56, f_X6_a, f_X6_b, f_X6_c, f_X1_b, ea, eb, ec, ct, ca, hL', a8, b8, b16, b4, b2, c8, c7, bL, if_neg af, if_neg bf, if_pos cf, if_neg (show ¬ nI 3 = 0 by decide), if_neg (show ¬ nI 3 = 1 by decide), if_neg (show ¬ nI 3 = 2 by decide), if_pos (show nI 3 = 3 by decide), if_neg (show ¬ nI 3 = 0 by decide), if_neg (show ¬ nI 3 = 7 by decide), if_neg (show ¬ nI 3 = 6 by decide), if_neg (show ¬ (1 : Int32) = 0 by decide), if_true]
        by_cases g0 : (7 : Int32) < nI a
        · by_cases g1 : (7 : Int32) < nI b
          · by_cases g2 : (7 : Int32) < nI c
            · by_cases g3 : nI i = nI L - 1
              · simp [g0, g1, g2, g3]
              · simp [g0, g1, g2, g3]
            · by_cases g3 : nI i = nI L - 1
              · simp [g0, g1, g2, g3]
              · simp [g0, g1, g2, g3]
          · by_cases g2 : (7 : Int32) < nI c
            · by_cases g3 : nI i = nI L - 1
              · simp [g0, g1, g2, g3]
              · simp [g0, g1, g2, g3]
            · by_cases g3 : nI i = nI L - 1
              · simp [g0, g1, g2, g3]
              · simp [g0, g1, g2, g3]
        · by_cases g1 : (7 : Int32) < nI b
          · by_cases g2 : (7 : Int32) < nI c
            · by_cases g3 : nI i = nI L - 1
              · simp [g0, g1, g2, g3]
              · simp [g0, g1, g2, g3]
            · by_cases g3 : nI i = nI L - 1
              · simp [g0, g1, g2, g3]
              · simp [g0, g1, g2, g3]
          · by_cases g2 : (7 : Int32) < nI c
            · by_cases g3 : nI i = nI L - 1
              · simp [g0, g1, g2, g3]
              · simp [g0, g1, g2, g3]
            · by_cases g3 : nI i = nI L - 1
              · simp [g0, g1, g2, g3]
              · simp [g0, g1, g2, g3]
      · have e1 : (nI 4).toNatClampNeg = 4 := nI_clamp (by decide)
        have t1 : tab_MOST_A 4 = 7 := rfl
        have t2 : tab_MOST_B 4 = 7 := rfl
        have t3 : tab_MOST_C 4 = 7 := rfl
        simp only [e1, t1, t2, t3, f_X1_isFault_92, f_X1_isFault_102, f_X6_isRight_35, f_X6_isRight_56, f_X6_a, f_X6_b, f_X6_c, f_X1_b, ea, eb, ec, ct, ca, hL', a8, b8, b16, b4, b2, c8, c7, bL, if_neg af, if_neg bf, if_pos cf, if_neg (show ¬ nI 4 = 0 by decide), if_neg (show ¬ nI 4 = 1 by decide), if_neg (show ¬ nI 4 = 2 by decide), if_neg (show ¬ nI 4 = 3 by decide), if_pos (show nI 4 = 4 by decide), if_neg (show ¬ nI 4 = 0 by decide), if_neg (show ¬ nI 4 = 7 by decide), if_neg (show ¬ nI 4 = 6 by decide), if_neg (show ¬ (1 : Int32) = 0 by decide), if_true]
        by_cases g0 : (7 : Int32) < nI a
        · by_cases g1 : (7 : Int32) < nI b
          · by_cases g2 : (7 : Int32) < nI c
            · by_cases g3 : nI i = nI L - 1
              · simp [g0, g1, g2, g3]
              · simp [g0, g1, g2, g3]
            · by_cases g3 : nI i = nI L - 1
              · simp [g0, g1, g2, g3]
              · simp [g0, g1, g2, g3]
          · by_cases g2 : (7 : Int32) < nI c
            · by_cases g3 : nI i = nI L - 1
              · simp [g0, g1, g2, g3]
              · simp [g0, g1, g2, g3]
            · by_cases g3 : nI i = nI L - 1
              · simp [g0, g1, g2, g3]
              · simp [g0, g1, g2, g3]
        · by_cases g1 : (7 : Int32) < nI b
          · by_cases g2 : (7 : Int32) < nI c
            · by_cases g3 : nI i = nI L - 1
              · simp [g0, g1, g2, g3]
              · simp [g0, g1, g2, g3]
            · by_cases g3 : nI i = nI L - 1
              · simp [g0, g1, g2, g3]
              · simp [g0, g1, g2, g3]
          · by_cases g2 : (7 : Int32) < nI c
            · by_cases g3 : nI i = nI L - 1
              · simp [g0, g1, g2, g3]
              · simp [g0, g1, g2, g3]
            · by_cases g3 : nI i = nI L - 1
              · simp [g0, g1, g2, g3]
              · simp [g0, g1, g2, g3]
      · have e1 : (nI 5).toNatClampNeg = 5 := nI_clamp (by decide)
        have t1 : tab_MOST_A 5 = 7 := rfl
        have t2 : tab_MOST_B 5 = 7 := rfl
        have t3 : tab_MOST_C 5 = 7 := rfl
        simp only [e1, t1, t2, t3, f_X1_isFault_92, f_X1_isFault_102, f_X6_isRight_35, f_X6_isRight_56, f_X6_a, f_X6_b, f_X6_c, f_X1_b, ea, eb, ec, ct, ca, hL', a8, b8, b16, b4, b2, c8, c7, bL, if_neg af, if_neg bf, if_pos cf, if_neg (show ¬ nI 5 = 0 by decide), if_neg (show ¬ nI 5 = 1 by decide), if_neg (show ¬ nI 5 = 2 by decide), if_neg (show ¬ nI 5 = 3 by decide), if_neg (show ¬ nI 5 = 4 by decide), if_pos (show nI 5 = 5 by decide), if_neg (show ¬ nI 5 = 0 by decide), if_neg (show ¬ nI 5 = 7 by decide), if_neg (show ¬ nI 5 = 6 by decide), if_neg (show ¬ (1 : Int32) = 0 by decide), if_true]
        by_cases g0 : (7 : Int32) < nI a
        · by_cases g1 : (7 : Int32) < nI b
          · by_cases g2 : (7 : Int32) < nI c
            · by_cases g3 : nI i = nI L - 1
              · simp [g0, g1, g2, g3]
              · simp [g0, g1, g2, g3]
            · by_cases g3 : nI i = nI L - 1
              · simp [g0, g1, g2, g3]
              · simp [g0, g1, g2, g3]
          · by_cases g2 : (7 : Int32) < nI c
            · by_cases g3 : nI i = nI L - 1
              · simp [g0, g1, g2, g3]
              · simp [g0, g1, g2, g3]
            · by_cases g3 : nI i = nI L - 1
              · simp [g0, g1, g2, g3]
              · simp [g0, g1, g2, g3]
        · by_cases g1 : (7 : Int32) < nI b
          · by_cases g2 : (7 : Int32) < nI c
            · by_cases g3 : nI i = nI L - 1
              · simp [g0, g1, g2, g3]
              · simp [g0, g1, g2, g3]
            · by_cases g3 : nI i = nI L - 1
              · simp [g0, g1, g2, g3]
              · simp [g0, g1, g2, g3]
          · by_cases g2 : (7 : Int32) < nI c
            · by_cases g3 : nI i = nI L - 1
              · simp [g0, g1, g2, g3]
              · simp [g0, g1, g2, g3]
            · by_cases g3 : nI i = nI L - 1
              · simp [g0, g1, g2, g3]
              · simp [g0, g1, g2, g3]
      · have e1 : (nI 6).toNatClampNeg = 6 := nI_clamp (by decide)
        have t1 : tab_MOST_A 6 = 7 := rfl
        have t2 : tab_MOST_B 6 = 255 := rfl
        have t3 : tab_MOST_C 6 = 255 := rfl
        simp only [e1, t1, t2, t3, f_X1_isFault_92, f_X1_isFault_102, f_X6_isRight_35, f_X6_isRight_56, f_X6_a, f_X6_b, f_X6_c, f_X1_b, ea, eb, ec, ct, ca, hL', a8, b8, b16, b4, b2, c8, c7, bL, if_neg af, if_neg bf, if_pos cf, if_neg (show ¬ nI 6 = 0 by decide), if_neg (show ¬ nI 6 = 1 by decide), if_neg (show ¬ nI 6 = 2 by decide), if_neg (show ¬ nI 6 = 3 by decide), if_neg (show ¬ nI 6 = 4 by decide), if_neg (show ¬ nI 6 = 5 by decide), if_pos (show nI 6 = 6 by decide), if_neg (show ¬ nI 6 = 0 by decide), if_neg (show ¬ nI 6 = 7 by decide), if_neg (show ¬ (1 : Int32) = 0 by decide), if_true]
        by_cases g0 : (7 : Int32) < nI a
        · by_cases g1 : nI b < nI L
          · by_cases g2 : nI i = nI L - 1
            · simp [g0, g1, g2]
            · simp [g0, g1, g2]
          · by_cases g2 : nI i = nI L - 1
            · simp [g0, g1, g2]
            · simp [g0, g1, g2]
        · by_cases g1 : nI b < nI L
          · by_cases g2 : nI i = nI L - 1
            · simp [g0, g1, g2]
            · simp [g0, g1, g2]
          · by_cases g2 : nI i = nI L - 1
            · simp [g0, g1, g2]
            · simp [g0, g1, g2]
      · have e1 : (nI 7).toNatClampNeg = 7 := nI_clamp (by decide)
        have t1 : tab_MOST_A 7 = 255 := rfl
        have t2 : tab_MOST_B 7 = 255 := rfl
        have t3 : tab_MOST_C 7 = 255 := rfl
        simp only [e1, t1, t2, t3, f_X1_isFault_92, f_X1_isFault_102, f_X6_isRight_35, f_X6_isRight_56, f_X6_a, f_X6_b, f_X6_c, f_X1_b, ea, eb, ec, ct, ca, hL', a8, b8, b16, b4, b2, c8, c7, bL, if_neg af, if_neg bf, if_pos cf, if_neg (show ¬ nI 7 = 0 by decide), if_neg (show ¬ nI 7 = 1 by decide), if_neg (show ¬ nI 7 = 2 by decide), if_neg (show ¬ nI 7 = 3 by decide), if_neg (show ¬ nI 7 = 4 by decide), if_neg (show ¬ nI 7 = 5 by decide), if_neg (show ¬ nI 7 = 6 by decide), if_pos (show nI 7 = 7 by decide), if_neg (show ¬ nI 7 = 0 by decide), if_neg (show ¬ nI 7 = 6 by decide), if_neg (show ¬ (1 : Int32) = 0 by decide), if_true]
        by_cases g0 : nI b < nI L
        · by_cases g1 : nI i = nI L - 1
          · simp [g0, g1]
          · simp [g0, g1]
        · by_cases g1 : nI i = nI L - 1
          · simp [g0, g1]
          · simp [g0, g1]
      · have e1 : (nI 8).toNatClampNeg = 8 := nI_clamp (by decide)
        have t1 : tab_MOST_A 8 = 7 := rfl
        have t2 : tab_MOST_B 8 = 15 := rfl
        have t3 : tab_MOST_C 8 = 255 := rfl
        simp only [e1, t1, t2, t3, f_X1_isFault_92, f_X1_isFault_102, f_X6_isRight_35, f_X6_isRight_56, f_X6_a, f_X6_b, f_X6_c, f_X1_b, ea, eb, ec, ct, ca, hL', a8, b8, b16, b4, b2, c8, c7, bL, if_neg af, if_neg bf, if_pos cf, if_neg (show ¬ nI 8 = 0 by decide), if_neg (show ¬ nI 8 = 1 by decide), if_neg (show ¬ nI 8 = 2 by decide), if_neg (show ¬ nI 8 = 3 by decide), if_neg (show ¬ nI 8 = 4 by decide), if_neg (show ¬ nI 8 = 5 by decide), if_neg (show ¬ nI 8 = 6 by decide), if_neg (show ¬ nI 8 = 7 by decide), if_pos (show nI 8 = 8 by decide), if_neg (show ¬ nI 8 = 0 by decide), if_neg (show ¬ nI 8 = 7 by decide), if_neg (show ¬ nI 8 = 6 by decide), if_neg (show ¬ (1 : Int32) = 0 by decide), if_true]
        by_cases g0 : (7 : Int32) < nI a
        · by_cases g1 : (15 : Int32) < nI b
          · by_cases g2 : nI i = nI L - 1
            · simp [g0, g1, g2]
            · simp [g0, g1, g2]
          · by_cases g2 : nI i = nI L - 1
            · simp [g0, g1, g2]
            · simp [g0, g1, g2]
        · by_cases g1 : (15 : Int32) < nI b
          · by_cases g2 : nI i = nI L - 1
            · simp [g0, g1, g2]
            · simp [g0, g1, g2]
          · by_cases g2 : nI i = nI L - 1
            · simp [g0, g1, g2]
            · simp [g0, g1, g2]
      · have e1 : (nI 9).toNatClampNeg = 9 := nI_clamp (by decide)
        have t1 : tab_MOST_A 9 = 7 := rfl
        have t2 : tab_MOST_B 9 = 15 := rfl
        have t3 : tab_MOST_C 9 = 255 := rfl
        simp only [e1, t1, t2, t3, f_X1_isFault_92, f_X1_isFault_102, f_X6_isRight_35, f_X6_isRight_56, f_X6_a, f_X6_b, f_X6_c, f_X1_b, ea, eb, ec, ct, ca, hL', a8, b8, b16, b4, b2, c8, c7, bL, if_neg af, if_neg bf, if_pos cf, if_neg (show ¬ nI 9 = 0 by decide), if_neg (show ¬ nI 9 = 1 by decide), if_neg (show ¬ nI 9 = 2 by decide), if_neg (show ¬ nI 9 = 3 by decide), if_neg (show ¬ nI 9 = 4 by decide), if_neg (show ¬ nI 9 = 5 by decide), if_neg (show ¬ nI 9 = 6 by decide), if_neg (show ¬ nI 9 = 7 by decide), if_neg (show ¬ nI 9 = 8 by decide), if_pos (show nI 9 = 9 by decide), if_neg (show ¬ nI 9 = 0 by decide), if_neg (show ¬ nI 9 = 7 by decide), if_neg (show ¬ nI 9 = 6 by decide), if_neg (show ¬ (1 : Int32) = 0 by decide), if_true]
        by_cases g0 : (7 : Int32) < nI a
        · by_cases g1 : (15 : Int32) < nI b
          · by_cases g2 : nI i = nI L - 1
            · simp [g0, g1, g2]
            · simp [g0, g1, g2]
          · by_cases g2 : nI i = nI L - 1
            · simp [g0, g1, g2]
            · simp [g0, g1, g2]
        · by_cases g1 : (15 : Int32) < nI b
          · by_cases g2 : nI i = nI L - 1
            · simp [g0, g1, g2]
            · simp [g0, g1, g2]
          · by_cases g2 : nI i = nI L - 1
            · simp [g0, g1, g2]
            · simp [g0, g1, g2]
      · have e1 : (nI 10).toNatClampNeg = 10 := nI_clamp (by decide)
        have t1 : tab_MOST_A 10 = 7 := rfl
        have t2 : tab_MOST_B 10 = 3 := rfl
        have t3 : tab_MOST_C 10 = 7 := rfl
        simp only [e1, t1, t2, t3, f_X1_isFault_92, f_X1_isFault_102, f_X6_isRight_35, f_X6_isRight_56, f_X6_a, f_X6_b, f_X6_c, f_X1_b, ea, eb, ec, ct, ca, hL', a8, b8, b16, b4, b2, c8, c7, bL, if_neg af, if_neg bf, if_pos cf, if_neg (show ¬ nI 10 = 0 by decide), if_neg (show ¬ nI 10 = 1 by decide), if_neg (show ¬ nI 10 = 2 by decide), if_neg (show ¬ nI 10 = 3 by decide), if_neg (show ¬ nI 10 = 4 by decide), if_neg (show ¬ nI 10 = 5 by decide), if_neg (show ¬ nI 10 = 6 by decide), if_neg (show ¬ nI 10 = 7 by decide), if_neg (show ¬ nI 10 = 8 by decide), if_neg (show ¬ nI 10 = 9 by decide), if_pos (show nI 10 = 10 by decide), if_neg (show ¬ nI 10 = 0 by decide), if_neg (show ¬ nI 10 = 7 by decide), if_neg (show ¬ nI 10 = 6 by decide), if_neg (show ¬ (1 : Int32) = 0 by decide), if_true]
        by_cases g0 : (7 : Int32) < nI a
        · by_cases g1 : (3 : Int32) < nI b
          · by_cases g2 : (7 : Int32) < nI c
            · by_cases g3 : nI i = nI L - 1
              · simp [g0, g1, g2, g3]
              · simp [g0, g1, g2, g3]
            · by_cases g3 : nI i = nI L - 1
              · simp [g0, g1, g2, g3]
              · simp [g0, g1, g2, g3]
          · by_cases g2 : (7 : Int32) < nI c
            · by_cases g3 : nI i = nI L - 1
              · simp [g0, g1, g2, g3]
              · simp [g0, g1, g2, g3]
            · by_cases g3 : nI i = nI L - 1
              · simp [g0, g1, g2, g3]
              · simp [g0, g1, g2, g3]
        · by_cases g1 : (3 : Int32) < nI b
          · by_cases g2 : (7 : Int32) < nI c
            · by_cases g3 : nI i = nI L - 1
              · simp [g0, g1, g2, g3]
              · simp [g0, g1, g2, g3]
            · by_cases g3 : nI i = nI L - 1
              · simp [g0, g1, g2, g3]
              · simp [g0, g1, g2, g3]
          · by_cases g2 : (7 : Int32) < nI c
            · by_cases g3 : nI i = nI L - 1
              · simp [g0, g1, g2, g3]
              · simp [g0, g1, g2, g3]
            · by_cases g3 : nI i = nI L - 1
              · simp [g0, g1, g2, g3]
              · simp [g0, g1, g2, g3]
      · have e1 : (nI 11).toNatClampNeg = 11 := nI_clamp (by decide)
        have t1 : tab_MOST_A 11 = 7 := rfl
        have t2 : tab_MOST_B 11 = 3 := rfl
        have t3 : tab_MOST_C 11 = 7 := rfl
        simp only [e1, t1, t2, t3, f_X1_isFault_92, f_X1_isFault_102, f_X6_isRight_35, f_X6_isRight_56, f_X6_a, f_X6_b, f_X6_c, f_X1_b, ea, eb, ec, ct, ca, hL', a8, b8, b16, b4, b2, c8, c7, bL, if_neg af, if_neg bf, if_pos cf, if_neg (show ¬ nI 11 = 0 by decide), if_neg (show ¬ nI 11 = 1 by decide), if_neg (show ¬ nI 11 = 2 by decide), if_neg (show ¬ nI 11 = 3 by decide), if_neg (show ¬ nI 11 = 4 by decide), if_neg (show ¬ nI 11 = 5 by decide), if_neg (show ¬ nI 11 = 6 by decide), if_neg (show ¬ nI 11 = 7 by decide), if_neg (show ¬ nI 11 = 8 by decide), if_neg (show ¬ nI 11 = 9 by decide), if_neg (show ¬ nI 11 = 10 by decide), if_pos (show nI 11 = 11 by decide), if_neg (show ¬ nI 11 = 0 by decide), if_neg (show ¬ nI 11 = 7 by decide), if_neg (show ¬ nI 11 = 6 by decide), if_neg (show ¬ (1 : Int32) = 0 by decide), if_true]
        by_cases g0 : (7 : Int32) < nI a
        · by_cases g1 : (3 : Int32) < nI b
          · by_cases g2 : (7 : Int32) < nI c
            · by_cases g3 : nI i = nI L - 1
              · simp [g0, g1, g2, g3]
              · simp [g0, g1, g2, g3]
            · by_cases g3 : nI i = nI L - 1
              · simp [g0, g1, g2, g3]
              · simp [g0, g1, g2, g3]
          · by_cases g2 : (7 : Int32) < nI c
            · by_cases g3 : nI i = nI L - 1
              · simp [g0, g1, g2, g3]
              · simp [g0, g1, g2, g3]
            · by_cases g3 : nI i = nI L - 1
              · simp [g0, g1, g2, g3]
              · simp [g0, g1, g2, g3]
        · by_cases g1 : (3 : Int32) < nI b
          · by_cases g2 : (7 : Int32) < nI c
            · by_cases g3 : nI i = nI L - 1
              · simp [g0, g1, g2, g3]
              · simp [g0, g1, g2, g3]
            · by_cases g3 : nI i = nI L - 1
              · simp [g0, g1, g2, g3]
              · simp [g0, g1, g2, g3]
          · by_cases g2 : (7 : Int32) < nI c
            · by_cases g3 : nI i = nI L - 1
              · simp [g0, g1, g2, g3]
              · simp [g0, g1, g2, g3]
            · by_cases g3 : nI i = nI L - 1
              · simp [g0, g1, g2, g3]
              · simp [g0, g1, g2, g3]
      · have e1 : (nI 12).toNatClampNeg = 12 := nI_clamp (by decide)
        have t1 : tab_MOST_A 12 = 7 := rfl
        have t2 : tab_MOST_B 12 = 1 := rfl
        have t3 : tab_MOST_C 12 = 255 := rfl
        simp only [e1, t1, t2, t3, f_X1_isFault_92, f_X1_isFault_102, f_X6_isRight_35, f_X6_isRight_56, f_X6_a, f_X6_b, f_X6_c, f_X1_b, ea, eb, ec, ct, ca, hL', a8, b8, b16, b4, b2, c8, c7, bL, if_neg af, if_neg bf, if_pos cf, if_neg (show ¬ nI 12 = 0 by decide), if_neg (show ¬ nI 12 = 1 by decide), if_neg (show ¬ nI 12 = 2 by decide), if_neg (show ¬ nI 12 = 3 by decide), if_neg (show ¬ nI 12 = 4 by decide), if_neg (show ¬ nI 12 = 5 by decide), if_neg (show ¬ nI 12 = 6 by decide), if_neg (show ¬ nI 12 = 7 by decide), if_neg (show ¬ nI 12 = 8 by decide), if_neg (show ¬ nI 12 = 9 by decide), if_neg (show ¬ nI 12 = 10 by decide), if_neg (show ¬ nI 12 = 11 by decide), if_pos (show nI 12 = 12 by decide), if_neg (show ¬ nI 12 = 0 by decide), if_neg (show ¬ nI 12 = 7 by decide), if_neg (show ¬ nI 12 = 6 by decide), if_neg (show ¬ (1 : Int32) = 0 by decide), if_true]
        by_cases g0 : (7 : Int32) < nI a
        · by_cases g1 : (1 : Int32) < nI b
          · by_cases g2 : nI i = nI L - 1
            · simp [g0, g1, g2]
            · simp [g0, g1, g2]
          · by_cases g2 : nI i = nI L - 1
            · simp [g0, g1, g2]
            · simp [g0, g1, g2]
        · by_cases g1 : (1 : Int32) < nI b
          · by_cases g2 : nI i = nI L - 1
            · simp [g0, g1, g2]
            · simp [g0, g1, g2]
          · by_cases g2 : nI i = nI L - 1
            · simp [g0, g1, g2]
            · simp [g0, g1, g2]
      · have e1 : (nI 13).toNatClampNeg = 13 := nI_clamp (by decide)
        have t1 : tab_MOST_A 13 = 7 := rfl
        have t2 : tab_MOST_B 13 = 1 := rfl
        have t3 : tab_MOST_C 13 = 255 := rfl
        simp only [e1, t1, t2, t3, f_X1_isFault_92, f_X1_isFault_102, f_X6_isRight_35, f_X6_isRight_56, f_X6_a, f_X6_b, f_X6_c, f_X1_b, ea, eb, ec, ct, ca, hL', a8, b8, b16, b4, b2, c8, c7, bL, if_neg af, if_neg bf, if_pos cf, if_neg (show ¬ nI 13 = 0 by decide), if_neg (show ¬ nI 13 = 1 by decide), if_neg (show ¬ nI 13 = 2 by decide), if_neg (show ¬ nI 13 = 3 by decide), if_neg (show ¬ nI 13 = 4 by decide), if_neg (show ¬ nI 13 = 5 by decide), if_neg (show ¬ nI 13 = 6 by decide), if_neg (show ¬ nI 13 = 7 by decide), if_neg (show ¬ nI 13 = 8 by decide), if_neg (show ¬ nI 13 = 9 by decide), if_neg (show ¬ nI 13 = 10 by decide), if_neg (show ¬ nI 13 = 11 by decide), if_neg (show ¬ nI 13 = 12 by decide), if_pos (show nI 13 = 13 by decide), if_neg (show ¬ nI 13 = 0 by decide), if_neg (show ¬ nI 13 = 7 by decide), if_neg (show ¬ nI 13 = 6 by decide), if_neg (show ¬ (1 : Int32) = 0 by decide), if_true]
        by_cases g0 : (7 : Int32) < nI a
        · by_cases g1 : (1 : Int32) < nI b
          · by_cases g2 : nI i = nI L - 1
            · simp [g0, g1, g2]
            · simp [g0, g1, g2]
          · by_cases g2 : nI i = nI L - 1
            · simp [g0, g1, g2]
            · simp [g0, g1, g2]
        · by_cases g1 : (1 : Int32) < nI b
          · by_cases g2 : nI i = nI L - 1
            · simp [g0, g1, g2]
            · simp [g0, g1, g2]
          · by_cases g2 : nI i = nI L - 1
            · simp [g0, g1, g2]
            · simp [g0, g1, g2]
      · have e1 : (nI 14).toNatClampNeg = 14 := nI_clamp (by decide)
        have t1 : tab_MOST_A 14 = 7 := rfl
        have t2 : tab_MOST_B 14 = 3 := rfl
        have t3 : tab_MOST_C 14 = 255 := rfl
        simp only [e1, t1, t2, t3, f_X1_isFault_92, f_X1_isFault_102, f_X6_isRight_35, f_X6_isRight_56, f_X6_a, f_X6_b, f_X6_c, f_X1_b, ea, eb, ec, ct, ca, hL', a8, b8, b16, b4, b2, c8, c7, bL, if_neg af, if_neg bf, if_pos cf, if_neg (show ¬ nI 14 = 0 by decide), if_neg (show ¬ nI 14 = 1 by decide), if_neg (show ¬ nI 14 = 2 by decide), if_neg (show ¬ nI 14 = 3 by decide), if_neg (show ¬ nI 14 = 4 by decide), if_neg (show ¬ nI 14 = 5 by decide), if_neg (show ¬ nI 14 = 6 by decide), if_neg (show ¬ nI 14 = 7 by decide), if_neg (show ¬ nI 14 = 8 by decide), if_neg (show ¬ nI 14 = 9 by decide), if_neg (show ¬ nI 14 = 10 by decide), if_neg (show ¬ nI 14 = 11 by decide), if_neg (show ¬ nI 14 = 12 by decide), if_neg (show ¬ nI 14 = 13 by decide), if_pos (show nI 14 = 14 by decide), if_neg (show ¬ nI 14 = 0 by decide), if_neg (show ¬ nI 14 = 7 by decide), if_neg (show ¬ nI 14 = 6 by decide), if_neg (show ¬ (1 : Int32) = 0 by decide), if_true]
        by_cases g0 : (7 : Int32) < nI a
        · by_cases g1 : (3 : Int32) < nI b
          · by_cases g2 : nI i = nI L - 1
            · simp [g0, g1, g2]
            · simp [g0, g1, g2]
          · by_cases g2 : nI i = nI L - 1
            · simp [g0, g1, g2]
            · simp [g0, g1, g2]
        · by_cases g1 : (3 : Int32) < nI b
          · by_cases g2 : nI i = nI L - 1
            · simp [g0, g1, g2]
            · simp [g0, g1, g2]
          · by_cases g2 : nI i = nI L - 1
            · simp [g0, g1, g2]
            · simp [g0, g1, g2]
      · have e1 : (nI 15).toNatClampNeg = 15 := nI_clamp (by decide)
        have t1 : tab_MOST_A 15 = 7 := rfl
        have t2 : tab_MOST_B 15 = 255 := rfl
        have t3 : tab_MOST_C 15 = 255 := rfl
        simp only [e1, t1, t2, t3, f_X1_isFault_92, f_X1_isFault_102, f_X6_isRight_35, f_X6_isRight_56, f_X6_a, f_X6_b, f_X6_c, f_X1_b, ea, eb, ec, ct, ca, hL', a8, b8, b16, b4, b2, c8, c7, bL, if_neg af, if_neg bf, if_pos cf, if_neg (show ¬ nI 15 = 0 by decide), if_neg (show ¬ nI 15 = 1 by decide), if_neg (show ¬ nI 15 = 2 by decide), if_neg (show ¬ nI 15 = 3 by decide), if_neg (show ¬ nI 15 = 4 by decide), if_neg (show ¬ nI 15 = 5 by decide), if_neg (show ¬ nI 15 = 6 by decide), if_neg (show ¬ nI 15 = 7 by decide), if_neg (show ¬ nI 15 = 8 by decide), if_neg (show ¬ nI 15 = 9 by decide), if_neg (show ¬ nI 15 = 10 by decide), if_neg (show ¬ nI 15 = 11 by decide), if_neg (show ¬ nI 15 = 12 by decide), if_neg (show ¬ nI 15 = 13 by decide), if_neg (show ¬ nI 15 = 14 by decide), if_pos (show nI 15 = 15 by decide), if_neg (show ¬ nI 15 = 0 by decide), if_neg (show ¬ nI 15 = 7 by decide), if_neg (show ¬ nI 15 = 6 by decide), if_neg (show ¬ (1 : Int32) = 0 by decide), if_true]
        by_cases g0 : (7 : Int32) < nI a
        · by_cases g1 : nI i = nI L - 1
          · simp [g0, g1]
          · simp [g0, g1]
        · by_cases g1 : nI i = nI L - 1
          · simp [g0, g1]
          · simp [g0, g1]
      · have e1 : (nI 16).toNatClampNeg = 16 := nI_clamp (by decide)
        have t1 : tab_MOST_A 16 = 255 := rfl
        have t2 : tab_MOST_B 16 = 255 := rfl
        have t3 : tab_MOST_C 16 = 255 := rfl
        simp only [e1, t1, t2, t3, f_X1_isFault_92, f_X1_isFault_102, f_X6_isRight_35, f_X6_isRight_56, f_X6_a, f_X6_b, f_X6_c, f_X1_b, ea, eb, ec, ct, ca, hL', a8, b8, b16, b4, b2, c8, c7, bL, if_neg af, if_neg bf, if_pos cf, if_neg (show ¬ nI 16 = 0 by decide), if_neg (show ¬ nI 16 = 1 by decide), if_neg (show ¬ nI 16 = 2 by decide), if_neg (show ¬ nI 16 = 3 by decide), if_neg (show ¬ nI 16 = 4 by decide), if_neg (show ¬ nI 16 = 5 by decide), if_neg (show ¬ nI 16 = 6 by decide), if_neg (show ¬ nI 16 = 7 by decide), if_neg (show ¬ nI 16 = 8 by decide), if_neg (show ¬ nI 16 = 9 by decide), if_neg (show ¬ nI 16 = 10 by decide), if_neg (show ¬ nI 16 = 11 by decide), if_neg (show ¬ nI 16 = 12 by decide), if_neg (show ¬ nI 16 = 13 by decide), if_neg (show ¬ nI 16 = 14 by decide), if_neg (show ¬ nI 16 = 15 by decide), if_pos (show nI 16 = 16 by decide), if_neg (show ¬ nI 16 = 0 by decide), if_neg (show ¬ nI 16 = 7 by decide), if_neg (show ¬ nI 16 = 6 by decide), if_neg (show ¬ (1 : Int32) = 0 by decide), if_true]
        by_cases g0 : nI i = nI L - 1
        · simp [g0]
        · simp [g0]
      · have e1 : (nI 17).toNatClampNeg = 17 := nI_clamp (by decide)
        have t1 : tab_MOST_A 17 = 255 := rfl
        have t2 : tab_MOST_B 17 = 255 := rfl
        have t3 : tab_MOST_C 17 = 255 := rfl
        simp only [e1, t1, t2, t3, f_X1_isFault_92, f_X1_isFault_102, f_X6_isRight_35, f_X6_isRight_56, f_X6_a, f_X6_b, f_X6_c, f_X1_b, ea, eb, ec, ct, ca, hL', a8, b8, b16, b4, b2, c8, c7, bL, if_neg af, if_neg bf, if_pos cf, if_neg (show ¬ nI 17 = 0 by decide), if_neg (show ¬ nI 17 = 1 by decide), if_neg (show ¬ nI 17 = 2 by decide), if_neg (show ¬ nI 17 = 3 by decide), if_neg (show ¬ nI 17 = 4 by decide), if_neg (show ¬ nI 17 = 5 by decide), if_neg (show ¬ nI 17 = 6 by decide), if_neg (show ¬ nI 17 = 7 by decide), if_neg (show ¬ nI 17 = 8 by decide), if_neg (show ¬ nI 17 = 9 by decide), if_neg (show ¬ nI 17 = 10 by decide), if_neg (show ¬ nI 17 = 11 by decide), if_neg (show ¬ nI 17 = 12 by decide), if_neg (show ¬ nI 17 = 13 by decide), if_neg (show ¬ nI 17 = 14 by decide), if_neg (show ¬ nI 17 = 15 by decide), if_neg (show ¬ nI 17 = 16 by decide), if_pos (show nI 17 = 17 by decide), if_neg (show ¬ nI 17 = 0 by decide), if_neg (show ¬ nI 17 = 7 by decide), if_neg (show ¬ nI 17 = 6 by decide), if_neg (show ¬ (1 : Int32) = 0 by decide), if_true]
        by_cases g0 : nI i = nI L - 1
        · simp [g0]
        · simp [g0]
  · rw [if_neg (fun h9 => hq17 (oo.mp h9)), if_neg (fun h9 => hq17 (oo.mp h9))]
    have nq : ∀ j : Nat, j ≤ 17 → ∀ x : Int32, x = nI j → ¬ nI q = x := by
      intro j hj x hx h9
      subst hx
      have := (nI_eq (by omega) (by omega)).mp h9
      omega
    have y : f_X6_isRight_56 N (nI t) w (nI q) = 0 := by
      simp only [f_X6_isRight_56, if_neg (nq 0 (by decide) 0 rfl), if_neg (nq 1 (by decide) 1 rfl), if_neg (nq 2 (by decide) 2 rfl), if_neg (nq 3 (by decide) 3 rfl), if_neg (nq 4 (by decide) 4 rfl), if_neg (nq 5 (by decide) 5 rfl), if_neg (nq 6 (by decide) 6 rfl), if_neg (nq 7 (by decide) 7 rfl), if_neg (nq 8 (by decide) 8 rfl), if_neg (nq 9 (by decide) 9 rfl), if_neg (nq 10 (by decide) 10 rfl), if_neg (nq 11 (by decide) 11 rfl), if_neg (nq 12 (by decide) 12 rfl), if_neg (nq 13 (by decide) 13 rfl), if_neg (nq 14 (by decide) 14 rfl), if_neg (nq 15 (by decide) 15 rfl), if_neg (nq 16 (by decide) 16 rfl), if_neg (nq 17 (by decide) 17 rfl)]
    have y2 : ∀ t0 : Int32, f_X6_isRight_35 N (nI t) w (nI q) t0 = 0 := by
      intro t0
      simp only [f_X6_isRight_35, if_neg (nq 0 (by decide) 0 rfl), if_neg (nq 7 (by decide) 7 rfl), y]
      split <;> rfl
    have z : ∀ t0 : Int32, ok_X6_isRight_35 N (nI t) w (nI q) t0 := by
      intro t0
      simp only [ok_X6_isRight_35, ok_X6_isRight_56, if_neg (nq 0 (by decide) 0 rfl), if_neg (nq 1 (by decide) 1 rfl), if_neg (nq 2 (by decide) 2 rfl), if_neg (nq 3 (by decide) 3 rfl), if_neg (nq 4 (by decide) 4 rfl), if_neg (nq 5 (by decide) 5 rfl), if_neg (nq 6 (by decide) 6 rfl), if_neg (nq 7 (by decide) 7 rfl), if_neg (nq 8 (by decide) 8 rfl), if_neg (nq 9 (by decide) 9 rfl), if_neg (nq 10 (by decide) 10 rfl), if_neg (nq 11 (by decide) 11 rfl), if_neg (nq 12 (by decide) 12 rfl), if_neg (nq 13 (by decide) 13 rfl), if_neg (nq 14 (by decide) 14 rfl), if_neg (nq 15 (by decide) 15 rfl), if_neg (nq 16 (by decide) 16 rfl), if_neg (nq 17 (by decide) 17 rfl)]
      repeat' split
      all_goals trivial
    refine ⟨trivial, ⟨v1, v2, ?_⟩, ?_⟩
    · split
      · exact z 1
      · exact z 0
    · rw [y2, y2]
      simp
