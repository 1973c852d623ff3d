theorem clear_loop {n : Nat} (hn : n ≤ 38) : ∀ (f j : Nat) (M : Mem), n + 1 ≤ f + j → j ≤ n → M 20 0 = nI n → (∀ k, k < n → ∃ a, a < 164 ∧ M 21 k = nI a) → ok_X2_clear_2 f M (nI j) ∧ ∃ z : Nat → Int32, (∀ a, z a = M 23 a ∨ z a = 0) ∧ (∀ k, j ≤ k → k < n → ∀ a, a < 164 → M 21 k = nI a → z a = 0) ∧ f_X2_clear_2 f M (nI j) = ms (ms M 23 z) 20 (fun _ => 0) := by
  intro f
  induction f with
  | zero => intro j M h1 h2; omega
  | succ f ih =>
    intro j M h1 h2 h3 h4
    by_cases e : j = n
    · subst e
      have c : nI j ≤ nI j := by rw [nI_leI (by omega) (by omega)]; omega
      refine ⟨?_, M 23, fun _ => Or.inl rfl, fun k a1 a2 => by omega, ?_⟩
      · unfold ok_X2_clear_2; rw [h3, if_pos c]; trivial
      · unfold f_X2_clear_2; rw [h3, if_pos c, ms_id]
    · have c : ¬ nI n ≤ nI j := by rw [nI_leI (by omega) (by omega)]; omega
      have cj : (nI j).toNatClampNeg = j := nI_clamp (by omega)
      have v : vp_in (nI j) 40 := vp_in_nI (by omega) (by decide)
      obtain ⟨a, ha, ea⟩ := h4 j (by omega)
      have ca : (nI a).toNatClampNeg = a := nI_clamp (by omega)
      have va : vp_in (nI a) 164 := vp_in_nI ha (by decide)
      obtain ⟨o, z, z1, z2, z3⟩ := ih (j + 1) (ms M 23 (upd (M 23) a 0)) (by omega) (by omega) h3 h4
      refine ⟨?_, z, fun b => ?_, fun k b1 b2 b hb eb => ?_, ?_⟩
      · unfold ok_X2_clear_2; rw [h3, if_neg c, cj, ea, ca, nI_1]; exact ⟨v, va, o⟩
      · rcases z1 b with q | q
        · rw [ms_s] at q
          by_cases e2 : b = a
          · subst e2; rw [pk_us] at q; exact Or.inr q
          · rw [pk_un e2] at q; exact Or.inl q
        · exact Or.inr q
      · by_cases e2 : k = j
        · subst e2
          rw [ea] at eb
          have : a = b := (nI_eq (by omega) (by omega)).mp eb
          subst this
          rcases z1 a with q | q
          · rw [ms_s, pk_us] at q; exact q
          · exact q
        · exact z2 k (by omega) b2 b hb eb
      · unfold f_X2_clear_2; rw [h3, if_neg c, cj, ea, ca, nI_1, z3, ms_ms]
theorem beg_loop : ∀ (d j : Nat) (M : Mem), j + d = 8 → ok_X0_begin_29 (d + 1) M (nI j) ∧ ∃ z : Nat → Int32, (∀ i, i < j → z i = M 25 i) ∧ (∀ i, j ≤ i → i < 8 → z i = 0) ∧ f_X0_begin_29 (d + 1) M (nI j) = ms M 25 z := by
  intro d
  induction d with
  | zero =>
    intro j M h
    have : j = 8 := by omega
    subst this
    have c : (8 : Int32) ≤ nI 8 := by decide
    refine ⟨?_, M 25, fun _ _ => rfl, fun i h1 h2 => by omega, ?_⟩
    · simp only [ok_X0_begin_29, if_pos c]
    · simp only [f_X0_begin_29, if_pos c]
      rw [ms_id]
  | succ d ih =>
    intro j M h
    have c : ¬ (8 : Int32) ≤ nI j := by
      rw [show (8 : Int32) = nI 8 from rfl, nI_leI (by decide) (by omega)]; omega
    have cj : (nI j).toNatClampNeg = j := nI_clamp (by omega)
    have v : vp_in (nI j) 8 := vp_in_nI (by omega) (by decide)
    obtain ⟨o, z, z1, z2, z3⟩ := ih (j + 1) (ms M 25 (upd (M 25) j 0)) (by omega)
    refine ⟨?_, z, fun i hi => ?_, fun i h1 h2 => ?_, ?_⟩
    · unfold ok_X0_begin_29
      rw [if_neg c, cj, nI_1]
      exact ⟨v, o⟩
    · rw [z1 i (by omega), ms_s, pk_un (by omega)]
    · by_cases e : i = j
      · subst e; rw [z1 i (by omega), ms_s, pk_us]
      · exact z2 i (by omega) h2
    · unfold f_X0_begin_29
      rw [if_neg c, cj, nI_1, z3, ms_ms]
theorem pz_lt {a : Nat} (h : pz a) : a < 164 := by unfold pz at h; omega
/-- the attempt's begin, over the groups -/
theorem begin_sim {T S : Nat} {M N : Mem} (hr : Rel T S M N) (h2 : M 0 0 = 2) (h9 : M 9 0 = 0) : ok_X0_begin M (f_X5_currentTask M) ∧ ok_X6_beginAttempt N ∧ Rel T S (ms (f_X0_begin M (f_X5_currentTask M)) 0 (fun _ => 3)) (f_X6_beginAttempt N) := by
  obtain ⟨sN, n, h, ⟨⟨x0, x1, x2, x3, x4, x5, x6, x7, x8, x9, x10⟩, e2, e3, ⟨e4, e4', e4''⟩, ⟨e5, e5'⟩, e6, e7⟩, ph⟩ := hr
  have phs : M 10 0 = 1 ∧ M 4 0 = -1 ∧ M 13 2 = 0 := by
    rcases ph with ⟨p, -⟩ | ⟨p1, p2, ⟨p, -⟩ | ⟨p, p3, -⟩ | ⟨p, -⟩ | ⟨p, -⟩⟩
    · rw [p] at h2; exact absurd h2 (by decide)
    · rw [p] at h2; exact absurd h2 (by decide)
    · exact ⟨p1, p2, p3⟩
    · rw [p] at h2; exact absurd h2 (by decide)
    · rw [p] at h2; exact absurd h2 (by decide)
  obtain ⟨p10, p4, p13⟩ := phs
  obtain ⟨t, t1, t2, t3⟩ := (e4'' 0 (Or.inl rfl)).1 rfl
  obtain ⟨L, l1, l2⟩ := e3.1 t t1
  have l3 : 0 < L := by
    have := t3 p10
    rw [l2] at this
    cases L with
    | zero => exact absurd rfl this
    | succ L => omega
  have ct : f_X5_currentTask M = nI t := by
    unfold f_X5_currentTask
    rw [t2, pk_andN (by omega) 4 (by decide), Nat.mod_eq_of_lt (by omega)]
  rw [ct]
  obtain ⟨g1, g2, g3⟩ := e5'
  obtain ⟨o, z, z1, z2, z3⟩ := clear_loop g1 41 0 (ms (ms (ms (ms M 15 (fun _ => nI t)) 16 (fun _ => (0 : Int32))) 17 (fun _ => (0 : Int32))) 19 (fun _ => (0 : Int32))) (by omega) (by omega) e5 (fun k hk => by
    obtain ⟨a, a1, -, a3, -⟩ := g2 k hk
    exact ⟨a, pz_lt a1, a3⟩)
  obtain ⟨o2, y, -, y2, y3⟩ := beg_loop 8 0 (ms (ms (ms (ms (ms (ms M 15 (fun _ => nI t)) 16 (fun _ => (0 : Int32))) 17 (fun _ => (0 : Int32))) 19 (fun _ => (0 : Int32))) 23 z) 20 (fun _ => 0)) rfl
  obtain ⟨o3, w, w1, w2⟩ := endA N
  rw [show nI 0 = 0 from rfl] at o z3 o2 y3
  refine ⟨⟨o, ?_⟩, o3, ?_⟩
  · show ok_X0_begin_29 9 (f_X2_clear_2 41 _ 0) 0
    rw [z3]; exact o2
  · unfold f_X0_begin f_X2_clear f_X6_beginAttempt bv
    rw [z3, w2]
    have y4 : f_X0_begin_29 9 (ms (ms (ms (ms (ms (ms M 15 (fun _ => nI t)) 16 (fun _ => (0 : Int32))) 17 (fun _ => (0 : Int32))) 19 (fun _ => (0 : Int32))) 23 z) 20 (fun _ => 0)) 0 = _ := y3
    dsimp only
    rw [y4]
    refine ⟨sN, 0, h, ⟨⟨rfl, x1, x2, x3, x4, x5, x6, x7, x8, x9, x10⟩, e2, e3, ⟨e4, e4', e4''⟩, ⟨rfl, by omega, fun k hk => by omega, fun a ha => Or.inl ?_⟩, e6, e7⟩, Or.inr ⟨p10, p4, Or.inr (Or.inr (Or.inl ⟨rfl, p13, h9, ⟨?_, rfl, rfl⟩, t2.symm, rfl, ⟨t, 0, L, t1, t2, rfl, l2, l1, l3⟩, fun k hk => by omega, Or.inl ⟨rfl, rfl⟩⟩))⟩⟩
    · show z a = 0
      rcases g3 a ha with q | ⟨k, k1, k2, k3⟩
      · rcases z1 a with q2 | q2
        · exact q2.trans q
        · exact q2
      · exact z2 k (by omega) k1 a ha k3
    · intro j hj
      exact (y2 j (by omega) hj).trans (w1 j hj).symm
theorem frames_iff {T S : Nat} {M N : Mem} (hT : T < 2 ^ 29) (hr : Rel T S M N) (h2 : M 0 0 = 2) : (M 13 3 ≤ M 13 4) ↔ (N 10 0 = 0 ∧ N 20 4 = N 20 3) := by
  obtain ⟨sN, n, h, ⟨⟨x0, x1, x2, x3, x4, x5, x6, x7, x8, x9, x10⟩, ⟨-, -, y2, -⟩, e3, ⟨e4, e4', e4''⟩, -⟩, ph⟩ := hr
  obtain ⟨d, d1, d2⟩ := (e4'' 3 (Or.inr (Or.inr (Or.inl rfl)))).2.1 rfl
  rw [← x8, ← y2, e4', d2, nI_leI (by omega) (by omega), nI_eq (by omega) (by omega)]
  constructor
  · intro q
    refine ⟨?_, by omega⟩
    rcases ph with ⟨p, -⟩ | ⟨p1, p2, ⟨p, -⟩ | ⟨p, p3, p4⟩ | ⟨p, -⟩ | ⟨p, -⟩⟩
    · rw [p] at h2; exact absurd h2 (by decide)
    · rw [p] at h2; exact absurd h2 (by decide)
    · rcases p4 with p4 | ⟨-, -, p4⟩
      · exact p4
      · rw [e4', d2, nI_eq (by omega) (by omega)] at p4; omega
    · rw [p] at h2; exact absurd h2 (by decide)
    · rw [p] at h2; exact absurd h2 (by decide)
  · rintro ⟨-, q⟩; omega
def pN (N : Mem) (c : Int32) : Mem := if (N 4 0) = (3 : Int32) then (ms (ms N 2 (fun _ => ((N 2 0) - c))) 12 (fun _ => ((N 12 0) + c))) else (if (N 4 0) = (4 : Int32) then (ms (ms N 2 (fun _ => ((N 2 0) - c))) 12 (fun _ => ((N 12 0) + c))) else (ms N 2 (fun _ => ((N 2 0) - c))))
theorem pays_y {N : Mem} {c : Int32} (h : c ≤ N 2 0) : f_X6_pays N c = (pN N c, 1) := by
  unfold f_X6_pays pN
  rw [if_pos h]
  by_cases h3 : N 4 0 = 3
  · simp only [if_pos h3]
  · by_cases h4 : N 4 0 = 4
    · simp only [if_neg h3, if_pos h4]
    · simp only [if_neg h3, if_neg h4]
theorem pays_n {N : Mem} {c : Int32} (h : ¬ c ≤ N 2 0) : f_X6_pays N c = (f_X6_fail N, 0) := by
  unfold f_X6_pays bv
  rw [if_neg h]
theorem pay_k (M : Mem) (c : Int32) : f_X5_pay M c = if (M 0 0) = (3 : Int32) then (ms (ms M 1 (fun _ => ((M 1 0) - c))) 17 (fun _ => ((M 17 0) + c))) else (if (M 0 0) = (4 : Int32) then (ms (ms M 1 (fun _ => ((M 1 0) - c))) 17 (fun _ => ((M 17 0) + c))) else (ms M 1 (fun _ => ((M 1 0) - c)))) := by
  unfold f_X5_pay f_X5_isInAttempt
  simp only [show ∀ f : Nat → Int32, ms M 1 f 0 = M 0 from fun _ => rfl]
  by_cases h3 : M 0 0 = 3
  · simp only [if_pos h3, if_neg (show ¬ (1 : Int32) = 0 by decide)]
  · by_cases h4 : M 0 0 = 4
    · simp only [if_neg h3, if_pos h4, if_neg (show ¬ (1 : Int32) = 0 by decide)]
    · simp only [if_neg h3, if_neg h4, if_true]
theorem pay_sim {T S : Nat} {M N : Mem} (hr : Rel T S M N) (c : Int32) : Rel T S (f_X5_pay M c) (pN N c) := by
  rw [pay_k]
  unfold pN
  obtain ⟨sN, n, h, ⟨⟨x0, x1, x2, x3, x4, x5, x6, x7, x8, x9, x10⟩, e2, e3, e4, e5, e6, e7⟩, ph⟩ := hr
  rw [← x0]
  by_cases h3 : M 0 0 = 3
  · rw [if_pos h3, if_pos h3]
    refine ⟨sN, n, h, ⟨⟨x0, congrArg (· - c) x1, x2, x3, x4, x5, x6, x7, x8, x9, x10⟩, e2, e3, e4, e5, e6, e7⟩, ?_⟩
    rcases ph with ⟨p, -⟩ | ⟨p1, p2, ⟨p, -⟩ | ⟨p, -⟩ | ⟨p, p3, p4, ⟨r1, r2, r3⟩, p6⟩ | ⟨p, -⟩⟩
    · rw [p] at h3; exact absurd h3 (by decide)
    · rw [p] at h3; exact absurd h3 (by decide)
    · rw [p] at h3; exact absurd h3 (by decide)
    · exact Or.inr ⟨p1, p2, Or.inr (Or.inr (Or.inl ⟨p, p3, p4, ⟨r1, congrArg (· + c) r2, r3⟩, p6⟩))⟩
    · rw [p] at h3; exact absurd h3 (by decide)
  · rw [if_neg h3, if_neg h3]
    by_cases h4 : M 0 0 = 4
    · rw [if_pos h4, if_pos h4]
      refine ⟨sN, n, h, ⟨⟨x0, congrArg (· - c) x1, x2, x3, x4, x5, x6, x7, x8, x9, x10⟩, e2, e3, e4, e5, e6, e7⟩, ?_⟩
      rcases ph with ⟨p, -⟩ | ⟨p1, p2, ⟨p, -⟩ | ⟨p, -⟩ | ⟨p, -⟩ | ⟨p, p3, ⟨r1, r2, r3⟩, p6⟩⟩
      · rw [p] at h4; exact absurd h4 (by decide)
      · rw [p] at h4; exact absurd h4 (by decide)
      · rw [p] at h4; exact absurd h4 (by decide)
      · rw [p] at h4; exact absurd h4 (by decide)
      · exact Or.inr ⟨p1, p2, Or.inr (Or.inr (Or.inr ⟨p, p3, ⟨r1, congrArg (· + c) r2, r3⟩, p6⟩))⟩
    · rw [if_neg h4, if_neg h4]
      exact ⟨sN, n, h, ⟨⟨x0, congrArg (· - c) x1, x2, x3, x4, x5, x6, x7, x8, x9, x10⟩, e2, e3, e4, e5, e6, e7⟩, ph⟩
theorem rel_3 {T S : Nat} {M N : Mem} (hr : Rel T S M N) {v : Int32} (hv : ¬ v < 0) : Rel T S (ms M 3 (fun _ => v)) (ms N 8 (fun _ => v)) := by
  obtain ⟨sN, n, h, ⟨⟨x0, x1, x2, x3, x4⟩, e2, e3, e4, e5, e6, r1, r2⟩, ph⟩ := hr
  exact ⟨sN, n, h, ⟨⟨x0, x1, x2, rfl, x4⟩, e2, e3, e4, e5, e6, hv, r2⟩, ph⟩
theorem cut_sim {T S : Nat} {M N : Mem} (hr : Rel T S M N) (h0 : ¬ M 0 0 = 0) : ok_X5_step_117 M ∧ ok_X6_stepOnce_93 N (N 6 0) ∧ (f_X5_step_117 M).2 = (f_X6_stepOnce_93 N (N 6 0)).2 ∧ Rel T S (f_X5_step_117 M).1 (f_X6_stepOnce_93 N (N 6 0)).1 := by
  have hr2 := hr
  obtain ⟨sN, n, h, ⟨⟨x0, x1, x2, x3, x4⟩, e2, e3, e4, e5, e6, r1, r2⟩, ph⟩ := hr2
  simp only [ok_X5_step_117, ok_X5_countTowardsCut, f_X5_step_117, f_X5_countTowardsCut, ok_X6_stepOnce_93, f_X6_stepOnce_93, bv, if_true, ← x3]
  obtain ⟨j, hj, ej⟩ := nI_of r1
  by_cases c : j = 0
  · subst c
    have c1 : M 3 0 = 0 := ej
    have c2 : M 3 0 ≤ 0 := by rw [c1]; decide
    simp only [if_pos c1, if_pos c2]
    exact ⟨trivial, trivial, trivial, hr⟩
  · have c1 : ¬ M 3 0 = 0 := by rw [ej, show (0 : Int32) = nI 0 from rfl, nI_eq hj (by decide)]; exact c
    have c2 : ¬ M 3 0 ≤ 0 := by rw [ej, show (0 : Int32) = nI 0 from rfl, nI_leI hj (by decide)]; omega
    have es : M 3 0 - 1 = nI (j - 1) := by rw [ej, show (1 : Int32) = nI 1 from rfl, pk_sub (by omega)]
    have hv : ¬ M 3 0 - 1 < 0 := by rw [es, show (0 : Int32) = nI 0 from rfl, nI_ltI (by omega) (by decide)]; omega
    simp only [if_neg c1, if_neg c2]
    by_cases c3 : M 3 0 - 1 = 0
    · simp only [if_pos c3]
      obtain ⟨f1, f2, f3, -⟩ := fail_sim (rel_3 hr hv) h0
      exact ⟨f1, f2, trivial, f3⟩
    · simp only [if_neg c3]
      exact ⟨trivial, trivial, trivial, rel_3 hr hv⟩
