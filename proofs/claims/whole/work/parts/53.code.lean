theorem ve_cl {sd : Int32} {cl cl2 : Nat → Int32} {sN a : Nat} {v : Int32} (h0 : sd = 0) (h : ve sd cl sN a v) : ve sd cl2 sN a v := by
  obtain ⟨h1, h2⟩ := h
  exact ⟨fun ha => by
    obtain ⟨t, t1, t2, -⟩ := h1 ha
    exact ⟨t, t1, t2, fun q => by rw [h0] at q; exact absurd q (by decide)⟩, h2⟩
/-- while it isn't sealed the phase is OFF: nothing else depends on the code -/
theorem rel_code {T S : Nat} {M N M2 N2 : Mem} (h : Rel T S M N) (h0 : M 10 0 = 0) (cw cl : Nat → Int32) (hM : M2 = ms (ms M 11 cw) 12 cl) (hN : N2 11 = N 11) (hGl : ∀ t, t < 16 → ∃ n, n ≤ 32 ∧ cl t = nI n) (hN18 : N2 18 = cw) (hN19 : N2 19 = cl) (hNo : ∀ k, 1 ≤ k → k ≠ 18 → k ≠ 19 → N2 k = N k) : Rel T S M2 N2 := by
  subst hM
  obtain ⟨sN, n, hh, ⟨⟨x0, x1, x2, x3, x4, x5, x6, x7, x8, x9, x10⟩, ⟨y0, y1, y2, y3, y4, y5, y6, y7, y8, y9, y10, y11⟩, e3, ⟨e4, e5, e6⟩, e7, ⟨e8, e9, e10⟩, e11⟩, ph⟩ := h
  have g : ∀ k, 1 ≤ k → k ≠ 18 → k ≠ 19 → N2 k = N k := hNo
  refine ⟨sN, n, hh, ⟨⟨?_, ?_, ?_, ?_, ?_, ?_, ?_, ?_, ?_, ?_, ?_⟩, ⟨hN18.symm, hN19.symm, ?_, ?_, ?_, ?_, ?_, ?_, ?_, ?_, ?_, ?_⟩, ⟨hGl, Or.inl h0⟩, ⟨e4, e5, fun a ha => ve_cl h0 (e6 a ha)⟩, e7, ⟨e8, e9, by rw [g 30 (by decide) (by decide) (by decide)]; exact e10⟩, e11⟩, ?_⟩
  · rw [g 4 (by decide) (by decide) (by decide)]; exact x0
  · rw [g 2 (by decide) (by decide) (by decide)]; exact x1
  · rw [g 3 (by decide) (by decide) (by decide)]; exact x2
  · rw [g 8 (by decide) (by decide) (by decide)]; exact x3
  · rw [g 5 (by decide) (by decide) (by decide)]; exact x4
  · rw [g 6 (by decide) (by decide) (by decide)]; exact x5
  · rw [g 7 (by decide) (by decide) (by decide)]; exact x6
  · rw [g 9 (by decide) (by decide) (by decide)]; exact x7
  · rw [g 10 (by decide) (by decide) (by decide)]; exact x8
  · rw [g 1 (by decide) (by decide) (by decide)]; exact x9
  · rw [g 16 (by decide) (by decide) (by decide)]; exact x10
  · rw [g 20 (by decide) (by decide) (by decide)]; exact y2
  · rw [g 21 (by decide) (by decide) (by decide)]; exact y3
  · rw [g 22 (by decide) (by decide) (by decide)]; exact y4
  · rw [g 23 (by decide) (by decide) (by decide)]; exact y5
  · rw [g 24 (by decide) (by decide) (by decide)]; exact y6
  · rw [g 26 (by decide) (by decide) (by decide)]; exact y7
  · rw [g 27 (by decide) (by decide) (by decide)]; exact y8
  · rw [g 28 (by decide) (by decide) (by decide)]; exact y9
  · rw [g 29 (by decide) (by decide) (by decide)]; exact y10
  · rw [g 31 (by decide) (by decide) (by decide)]; exact y11
  · rcases ph with ⟨p1, p2⟩ | ⟨p1, -⟩
    · refine Or.inl ⟨p1, ?_⟩
      rcases p2 with p2 | ⟨m, m1, m2, m3, m4⟩
      · exact Or.inl p2
      · refine Or.inr ⟨m, m1, m2, m3, fun j hj => ?_⟩
        obtain ⟨a, a1, a2, a3⟩ := m4 j hj
        exact ⟨a, a1, a2, ve_cl h0 a3⟩
    · rw [h0] at p1; exact absurd p1 (by decide)
theorem pf_program_ok : pf_program Sim := by
  intro k M N hk h a b c
  have h2 := Sim.next h
  have h3 := h2
  obtain ⟨sN, n, hh, ⟨⟨x0, x1, x2, x3, x4, x5, x6, x7, x8, x9, x10⟩, ⟨y0, y1, y2, y3, y4, y5, y6, y7, y8, y9, y10, y11⟩, ⟨g1, -⟩, -⟩, -⟩ := h
  simp only [f_X5_program, ok_X5_program, f_X1_put, ok_X1_put, f_X6_program, ok_X6_program, f_X6_isTask, bc, ← x9]
  by_cases c0 : M 10 0 = 0
  · simp only [if_pos c0]
    by_cases c1 : a < 0
    · simp only [if_pos c1, if_true]; exact ⟨trivial, trivial, trivial, h2.n0 _⟩
    · by_cases c2 : a < 16
      · have c2' : ¬ (16 : Int32) ≤ a := Int32.not_le.mpr c2
        simp only [if_neg c1, if_pos c2, if_neg c2', if_neg (show ¬ (1 : Int32) = 0 by decide)]
        obtain ⟨t, ht, rfl⟩ := nn_of c1
        have ht16 : t < 16 := by
          rw [show (16 : Int32) = nI 16 from rfl, nI_ltI ht (by decide)] at c2; exact c2
        have va : vp_in (nI t) 16 := vp_in_nI ht16 (by decide)
        have ca : (nI t).toNatClampNeg = t := nI_clamp ht
        obtain ⟨L, hL, eL⟩ := g1 t ht16
        by_cases c3 : b < 0
        · simp only [if_pos c3]; exact ⟨trivial, trivial, trivial, h2.n0 _⟩
        · obtain ⟨i, hi, rfl⟩ := nn_of c3
          simp only [if_neg c3, ca, ← y1, eL]
          have q1 : (nI L < nI i) ↔ L < i := nI_ltI (by omega) hi
          have q2 : (nI i ≤ nI L) ↔ i ≤ L := nI_leI hi (by omega)
          have q3 : ((32 : Int32) ≤ nI i) ↔ 32 ≤ i := by rw [show (32 : Int32) = nI 32 from rfl]; exact nI_leI (by decide) hi
          have q4 : (nI i < (32 : Int32)) ↔ i < 32 := by rw [show (32 : Int32) = nI 32 from rfl]; exact nI_ltI hi (by decide)
          have q5 : (nI i = nI L) ↔ i = L := nI_eq hi (by omega)
          simp only [q1, q2, q3, q4, q5]
          by_cases d1 : 32 ≤ i
          · rw [if_pos d1, if_pos d1]
            by_cases d2 : L < i
            · simp only [if_pos d2]; exact ⟨trivial, ⟨va, trivial⟩, trivial, h2.n0 _⟩
            · simp only [if_neg d2, if_neg (show ¬ i < 32 by omega)]; exact ⟨trivial, ⟨va, trivial⟩, trivial, h2.n0 _⟩
          · rw [if_neg d1, if_neg d1]
            by_cases d2 : L < i
            · simp only [if_pos d2, if_neg (show ¬ i ≤ L by omega)]; exact ⟨⟨va, trivial⟩, ⟨va, trivial⟩, trivial, h2.n0 _⟩
            · have ix : nI t * (32 : Int32) + nI i = nI (32 * t + i) := by rw [show (32 : Int32) = nI 32 from rfl, pk_mul, nI_add, Nat.mul_comm]
              have ix2 : (32 : Int32) * nI t + nI i = nI (32 * t + i) := by rw [show (32 : Int32) = nI 32 from rfl, pk_mul, nI_add]
              have vx : vp_in (nI (32 * t + i)) 512 := vp_in_nI (by omega) (by decide)
              simp only [if_neg d2, if_pos (show i < 32 by omega), if_pos (show i ≤ L by omega), ix, ix2]
              by_cases d3 : i = L
              · subst d3
                have lt : nI i < nI i + 1 := by rw [nI_1, nI_ltI (by omega) (by omega)]; omega
                simp only [if_true, if_pos lt]
                refine ⟨⟨va, vx, va, va⟩, ⟨va, vx, va, va, va⟩, trivial, ?_⟩
                exact rel_code h2 c0 _ _ rfl rfl (fun t2 ht2 => by
                  by_cases e : t2 = t
                  · subst e; exact ⟨i + 1, by omega, by simp [upd, nI_1]⟩
                  · obtain ⟨l, l1, l2⟩ := g1 t2 ht2
                    exact ⟨l, l1, by simp [upd, e, l2]⟩) (by rw [← y0]; rfl) rfl (fun j j1 j2 j3 => by rw [ms_n _ _ j3, ms_n _ _ j2, ms_n _ _ (by omega)])
              · have lt : ¬ nI L < nI i + 1 := by rw [nI_1, nI_ltI (by omega) (by omega)]; omega
                simp only [if_neg d3, if_neg lt]
                refine ⟨⟨va, vx, va, va⟩, ⟨va, vx, va, trivial⟩, trivial, ?_⟩
                have uid : upd (M 12) t (nI L) = M 12 := by rw [← eL]; exact upd_id _ _
                rw [uid]
                exact rel_code h2 c0 _ _ rfl rfl g1 (by rw [← y0]; rfl) y1.symm (fun j j1 j2 j3 => by rw [ms_n _ _ j2, ms_n _ _ (by omega)])
      · have c2' : (16 : Int32) ≤ a := Int32.not_lt.mp c2
        simp only [if_neg c1, if_neg c2, if_pos c2', if_true]; exact ⟨trivial, trivial, trivial, h2.n0 _⟩
  · simp only [if_neg c0]; exact ⟨trivial, trivial, trivial, h2.n0 _⟩
