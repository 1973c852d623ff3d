def Qs (M N : Mem) (n k1 k2 t i : Nat) : Prop := ok_X1_firstFault_L n k1 M (nI t) (nI i) ∧ ok_X6_seal_L n k2 N (nI t) (nI i) ∧ ((f_X1_firstFault_L n k1 M (nI t) (nI i) = -1 ∧ f_X6_seal_L n k2 N (nI t) (nI i) = (ms N 1 (fun _ => 1), 0) ∧ ∀ t' i' L', t' < 16 → M 12 t' = nI L' → L' ≤ 32 → i' < L' → (t < t' ∨ t = t' ∧ i ≤ i') → f_X1_isFault M (M 11 (32 * t' + i')) (nI i') (nI L') = 0) ∨ ∃ q, q < 512 ∧ f_X1_firstFault_L n k1 M (nI t) (nI i) = nI q ∧ f_X6_seal_L n k2 N (nI t) (nI i) = (N, nI (q + 1)))
theorem seal_loop {M N : Mem} (h11 : M 11 = N 18) (h12 : M 12 = N 19) (hc : ∀ t, t < 16 → ∃ n, n ≤ 32 ∧ M 12 t = nI n) : ∀ n : Nat,
    (∀ t, t ≤ 16 → 34 * (16 - t) + 1 ≤ n → Qs M N n 13 27 t 0) ∧ (∀ t i L, t < 16 → M 12 t = nI L → i ≤ L → L ≤ 32 → 34 * (16 - t) - i ≤ n → Qs M N n 21 35 t i) := by
  intro n
  induction n with
  | zero =>
    refine ⟨fun t h1 h2 => by omega, fun t i L h1 h2 h3 h4 h5 => by omega⟩
  | succ n ih =>
    obtain ⟨ih1, ih2⟩ := ih
    refine ⟨fun t h1 h2 => ?_, fun t i L h1 h2 h3 h4 h5 => ?_⟩
    · by_cases e : t = 16
      · subst e
        have c : (16 : Int32) ≤ nI 16 := by decide
        refine ⟨?_, ?_, Or.inl ⟨?_, ?_, fun t' i' L' a1 a2 a3 a4 a5 => by omega⟩⟩
        · simp only [ok_X1_firstFault_L, if_true, if_pos c]
        · simp only [ok_X6_seal_L, if_true, if_pos c]
        · simp only [f_X1_firstFault_L, if_true, if_pos c]
        · simp only [f_X6_seal_L, if_true, if_pos c]
      · have c : ¬ (16 : Int32) ≤ nI t := by
          rw [show (16 : Int32) = nI 16 from rfl, nI_leI (by decide) (by omega)]; omega
        obtain ⟨L, hL, eL⟩ := hc t (by omega)
        have hq := ih2 t 0 L (by omega) eL (by omega) hL (by omega)
        unfold Qs at hq ⊢
        simp only [ok_X1_firstFault_L, ok_X6_seal_L, f_X1_firstFault_L, f_X6_seal_L, if_true, if_neg c]
        exact hq
    · have ct : (nI t).toNatClampNeg = t := nI_clamp (by omega)
      have v2 : vp_in (nI t) 16 := vp_in_nI h1 (by decide)
      by_cases e : i = L
      · subst e
        have hq := ih1 (t + 1) (by omega) (by omega)
        unfold Qs at hq ⊢
        have c : nI i ≤ nI i := by rw [nI_leI (by omega) (by omega)]; omega
        simp only [ok_X1_firstFault_L, ok_X6_seal_L, f_X1_firstFault_L, f_X6_seal_L, if_neg (show ¬ (21 : Nat) = 13 by decide), if_neg (show ¬ (35 : Nat) = 27 by decide), ct, ← h12, h2, if_pos c, nI_1, v2, true_and]
        obtain ⟨q1, q2, q3⟩ := hq
        refine ⟨q1, q2, ?_⟩
        rcases q3 with ⟨r1, r2, r3⟩ | r
        · refine Or.inl ⟨r1, r2, fun t' i' L' a1 a2 a3 a4 a5 => ?_⟩
          rcases a5 with a5 | ⟨a5, a6⟩
          · exact r3 t' i' L' a1 a2 a3 a4 (by omega)
          · subst a5
            rw [h2] at a2
            have := (nI_eq (by omega) (by omega)).mp a2
            omega
        · exact Or.inr r
      · have hq := ih2 t (i + 1) L h1 h2 (by omega) h4 (by omega)
        have c : ¬ nI L ≤ nI i := by rw [nI_leI (by omega) (by omega)]; omega
        have ix : nI t * (32 : Int32) + nI i = nI (32 * t + i) := by rw [show (32 : Int32) = nI 32 from rfl, pk_mul, nI_add, Nat.mul_comm]
        have ix2 : (1 : Int32) + (32 : Int32) * nI t + nI i = nI (32 * t + i + 1) := by rw [show (32 : Int32) = nI 32 from rfl, show (1 : Int32) = nI 1 from rfl, pk_mul, nI_add, nI_add]; congr 1; omega
        have cx : (nI (32 * t + i)).toNatClampNeg = 32 * t + i := nI_clamp (by omega)
        have vx : vp_in (nI (32 * t + i)) 512 := vp_in_nI (by omega) (by decide)
        obtain ⟨o1, o2, o3⟩ := right_iff h11 h12 hc h1 h2 h4 (show i < L by omega)
        unfold Qs at hq ⊢
        simp only [ok_X1_firstFault_L, ok_X6_seal_L, f_X1_firstFault_L, f_X6_seal_L, if_neg (show ¬ (21 : Nat) = 13 by decide), if_neg (show ¬ (35 : Nat) = 27 by decide), ct, ← h12, h2, if_neg c, nI_1, v2, true_and, ix, ix2, cx, vx, o1, o2, o3]
        by_cases f : f_X1_isFault M (M 11 (32 * t + i)) (nI i) (nI L) = 0
        · simp only [if_pos f, if_neg (show ¬ (1 : Int32) = 0 by decide)]
          obtain ⟨q1, q2, q3⟩ := hq
          refine ⟨q1, q2, ?_⟩
          rcases q3 with ⟨r1, r2, r3⟩ | r
          · refine Or.inl ⟨r1, r2, fun t' i' L' a1 a2 a3 a4 a5 => ?_⟩
            by_cases z : t = t' ∧ i = i'
            · obtain ⟨rfl, rfl⟩ := z
              rw [h2] at a2
              have := (nI_eq (by omega) (by omega)).mp a2
              subst this
              exact f
            · exact r3 t' i' L' a1 a2 a3 a4 (by omega)
          · exact Or.inr r
        · simp only [if_neg f, if_true]
          exact ⟨trivial, trivial, Or.inr ⟨32 * t + i, by omega, rfl, rfl⟩⟩
theorem okW_of {M : Mem} {w i L : Int32} (h : f_X1_isFault M w i L = 0) : okW (M 12) w i L := h
theorem rel_seal {T S : Nat} {M N : Mem} (h : Rel T S M N) (h0 : M 10 0 = 0) (hl : ¬ M 12 0 = 0) (hr : ∀ t' i' L', t' < 16 → M 12 t' = nI L' → L' ≤ 32 → i' < L' → f_X1_isFault M (M 11 (32 * t' + i')) (nI i') (nI L') = 0) : Rel T S (ms M 10 (fun _ => 1)) (ms N 1 (fun _ => 1)) := by
  obtain ⟨sN, n, hh, ⟨⟨x0, x1, x2, x3, x4, x5, x6, x7, x8, x9, x10⟩, e2, ⟨g1, -⟩, ⟨e4, e5, e6⟩, e7, e8, r1, r2, r3, r4, r5⟩, ph⟩ := h
  obtain ⟨z0, z2⟩ := r5 h0
  refine ⟨sN, n, hh, ⟨⟨x0, x1, x2, x3, x4, x5, x6, x7, x8, rfl, x10⟩, e2, ⟨g1, Or.inr ⟨rfl, hl, fun t' n' i' a1 a2 a3 a4 => okW_of (hr t' i' n' a1 a2 a3 a4)⟩⟩, ⟨e4, e5, fun a ha => ?_⟩, e7, e8, r1, r2, r3, r4, fun q => absurd q (show ¬ (1 : Int32) = 0 by decide)⟩, ?_⟩
  · obtain ⟨v1, v2⟩ := e6 a ha
    refine ⟨fun q => ⟨0, by decide, ?_, fun _ => hl⟩, v2⟩
    subst q
    exact z0
  · rcases ph with ⟨p1, p2⟩ | ⟨p1, -⟩
    · exact Or.inl ⟨p1, Or.inl z2⟩
    · rw [h0] at p1; exact absurd p1 (by decide)
theorem rel_i10 {T S : Nat} {M N : Mem} (h : Rel T S M N) (h0 : M 10 0 = 0) : Rel T S (ms M 10 (fun _ => 0)) N := by
  obtain ⟨sN, n, hh, ⟨⟨x0, x1, x2, x3, x4, x5, x6, x7, x8, x9, x10⟩, e2, e3, ⟨e4, e5, e6⟩, e7, e8, r1, r2, r3, r4, r5⟩, ph⟩ := h
  rw [h0] at e3 e6 x9
  refine ⟨sN, n, hh, ⟨⟨x0, x1, x2, x3, x4, x5, x6, x7, x8, x9, x10⟩, e2, e3, ⟨e4, e5, e6⟩, e7, e8, r1, r2, r3, r4, fun _ => r5 h0⟩, ?_⟩
  rcases ph with ⟨p1, p2⟩ | ⟨p1, -⟩
  · rw [h0] at p2
    exact Or.inl ⟨p1, p2⟩
  · rw [h0] at p1; exact absurd p1 (by decide)
theorem pf_seal_ok : pf_seal Sim := by
  intro k M N hk h
  have h2 := Sim.next h
  obtain ⟨sN, n, hh, ⟨⟨x0, x1, x2, x3, x4, x5, x6, x7, x8, x9, x10⟩, ⟨y0, y1, -⟩, ⟨g1, -⟩, -⟩, -⟩ := h
  simp only [f_X5_seal, ok_X5_seal, f_X1_close, ok_X1_close, f_X6_seal, ok_X6_seal, f_X1_firstFault, ok_X1_firstFault, bc, ← x9, ← y1]
  by_cases c0 : M 10 0 = 0
  · simp only [if_pos c0]
    by_cases c1 : M 12 0 = 0
    · simp only [if_pos c1, if_neg (show ¬ (0 : Int32) = -1 by decide)]
      exact ⟨trivial, trivial, rfl, (rel_i10 h2 c0).n0 _⟩
    · simp only [if_neg c1]
      have y1' : M 12 = (ms N 0 (fun _ => 0)) 19 := y1
      have y0' : M 11 = (ms N 0 (fun _ => 0)) 18 := y0
      obtain ⟨q1, q2, q3⟩ := (seal_loop y0' y1' g1 600).1 0 (by decide) (by decide)
      refine ⟨q1, q2, ?_⟩
      rcases q3 with ⟨r1, r2, r3⟩ | ⟨q, hq, r1, r2⟩
      · rw [show nI 0 = 0 from rfl] at r1 r2
        rw [r1, r2, if_pos rfl]
        refine ⟨rfl, ?_⟩
        exact rel_seal (h2.n0 _) c0 c1 (fun t' i' L' a1 a2 a3 a4 => r3 t' i' L' a1 a2 a3 a4 (by omega))
      · rw [show nI 0 = 0 from rfl] at r1 r2
        have e : ¬ nI q = -1 := fun e => by
          have := congrArg Int32.toInt e
          rw [nI_toInt (by omega)] at this
          have z : (-1 : Int32).toInt = -1 := rfl
          omega
        rw [r1, r2, if_neg e]
        exact ⟨nI_1 q, (rel_i10 h2 c0).n0 _⟩
  · simp only [if_neg c0]; exact ⟨trivial, trivial, trivial, h2.n0 _⟩
