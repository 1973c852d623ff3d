theorem ite0 {c : Prop} [Decidable c] {A B : Mem} {X : Nat → Int32} (h1 : A 0 = X) (h2 : B 0 = X) : (if c then A else B) 0 = X := by
  by_cases h : c
  · rw [if_pos h]; exact h1
  · rw [if_neg h]; exact h2
theorem itp0 {c : Prop} [Decidable c] {A B : Mem × Int32} {X : Nat → Int32} (h1 : A.1 0 = X) (h2 : B.1 0 = X) : (if c then A else B).1 0 = X := by
  by_cases h : c
  · rw [if_pos h]; exact h1
  · rw [if_neg h]; exact h2
theorem end0 (N : Mem) : f_X6_endAttempt N 0 = N 0 := by
  obtain ⟨-, z, -, hz⟩ := endA N
  rw [hz]; rfl
theorem put0 (N : Mem) (a v : Int32) : f_X6_put N a v 0 = N 0 := by
  unfold f_X6_put
  exact ite0 rfl rfl
theorem fail102_0 (N : Mem) (a b c : Int32) : f_X6_fail_102 N a b c 0 = N 0 := by
  unfold f_X6_fail_102 bv
  exact ite0 (end0 _) (end0 _)
theorem fail0 (N : Mem) : f_X6_fail N 0 = N 0 := by
  have k : ∀ N : Mem, f_X6_fail_35 N 0 = N 0 := fun N => by
    rw [fail35_eq]; exact fail102_0 _ _ _ _
  unfold f_X6_fail bv
  exact ite0 (k _) (ite0 (ite0 (k _) (end0 _)) (end0 _))
theorem pN0 (N : Mem) (c : Int32) : pN N c 0 = N 0 := by
  unfold pN
  exact ite0 rfl (ite0 rfl rfl)
theorem pays0 (N : Mem) (c : Int32) : (f_X6_pays N c).1 0 = N 0 := by
  by_cases h : c ≤ N 2 0
  · rw [pays_y h]; exact pN0 N c
  · rw [pays_n h]; exact fail0 N
theorem rep0 (N : Mem) : g_rep N 0 = N 0 := by
  unfold g_rep bv
  exact ite0 rfl rfl
theorem air0 (N : Mem) : g_air N 0 = N 0 := by
  unfold g_air bv
  exact ite0 (ite0 rfl rfl) rfl
theorem com180_0 (N : Mem) : f_X6_commitOne_180 N 0 = N 0 := by
  unfold f_X6_commitOne_180 bv
  exact end0 _
theorem com0 (N : Mem) : g_com N 0 = N 0 := by
  unfold g_com bv
  exact ite0 (ite0 rfl (ite0 (ite0 (com180_0 _) (com180_0 _)) (ite0 rfl rfl))) (ite0 rfl rfl)
theorem push0 (N : Mem) (a v : Int32) : f_X6_push N a v 0 = N 0 := by
  unfold f_X6_push bv
  exact ite0 rfl (ite0 rfl ((put0 _ _ _).trans (put0 _ _ _)))
theorem pop0 (N : Mem) (a v : Int32) : f_X6_pop N a v 0 = N 0 := by
  unfold f_X6_pop bv
  exact ite0 rfl (ite0 rfl ((put0 _ _ _).trans (put0 _ _ _)))
theorem send0 (N : Mem) (v : Int32) : f_X6_sendFrame N v 0 = N 0 := by
  unfold f_X6_sendFrame bv
  exact ite0 rfl (ite0 rfl ((put0 _ _ _).trans (put0 _ _ _)))
theorem run0 (w : Int32) (N : Mem) : g_run w N 0 = N 0 := by
  unfold g_run bv
  repeat' apply ite0
  all_goals first | exact rfl | exact put0 _ _ _ | exact push0 _ _ _ | exact pop0 _ _ _ | exact send0 _ _ | exact end0 _
theorem bc0 (N : Mem) (c : Int32) (G : Mem → Mem) (h : ∀ N, G N 0 = N 0) : bc (f_X6_pays N c) (fun M1 r1 => if r1 = 0 then M1 else G M1) 0 = N 0 := by
  unfold bc
  exact ite0 (pays0 N c) ((h _).trans (pays0 N c))
theorem s93_0 (N : Mem) (x : Int32) : (f_X6_stepOnce_93 N x).1 0 = N 0 := by
  unfold f_X6_stepOnce_93 bv
  exact itp0 (itp0 rfl (itp0 (fail0 _) rfl)) rfl
theorem s34_0 (N : Mem) : (f_X6_stepOnce_34 N).1 0 = N 0 := by
  unfold f_X6_stepOnce_34 bv
  refine itp0 ((s93_0 _ _).trans ?_) (itp0 ((s93_0 _ _).trans ?_) (itp0 ((s93_0 _ _).trans ?_) ((s93_0 _ _).trans ?_)))
  · rw [rep_e]; exact bc0 N 4 g_rep rep0
  · unfold f_X6_airStep
    refine ite0 ?_ ?_
    · rw [air_e]; exact bc0 N 20 g_air air0
    · rw [air_e]; exact bc0 N 4 g_air air0
  · rw [run_e N _ rfl]; exact bc0 N _ (g_run _) (run0 _)
  · rw [com_e]; exact bc0 N 4 g_com com0
theorem step0 (N : Mem) : (f_X6_stepOnce N).1 0 = N 0 := by
  unfold f_X6_stepOnce bv
  exact itp0 (itp0 (itp0 ((s34_0 _).trans (end0 N)) (s34_0 N)) (s34_0 N)) (s34_0 N)
theorem ne_succ (x : Int32) : ¬ x + 1 = x := by
  intro h
  have h2 := congrArg Int32.toBitVec h
  rw [Int32.toBitVec_add] at h2
  have h3 := congrArg BitVec.toNat h2
  rw [BitVec.toNat_add] at h3
  have h4 : (Int32.toBitVec 1).toNat = 1 := rfl
  have h5 := x.toBitVec.isLt
  omega
theorem pay_fr (M : Mem) (c : Int32) {k : Nat} (h1 : k ≠ 1) (h2 : k ≠ 17) : f_X5_pay M c k = M k := by
  rw [pay_k]
  by_cases h3 : M 0 0 = 3
  · rw [if_pos h3, ms_n _ _ h2, ms_n _ _ h1]
  · by_cases h4 : M 0 0 = 4
    · rw [if_neg h3, if_pos h4, ms_n _ _ h2, ms_n _ _ h1]
    · rw [if_neg h3, if_neg h4, ms_n _ _ h1]
theorem pN_fr (N : Mem) (c : Int32) {k : Nat} (h1 : k ≠ 2) (h2 : k ≠ 12) : pN N c k = N k := by
  unfold pN
  by_cases h3 : N 4 0 = 3
  · rw [if_pos h3, ms_n _ _ h2, ms_n _ _ h1]
  · by_cases h4 : N 4 0 = 4
    · rw [if_neg h3, if_pos h4, ms_n _ _ h2, ms_n _ _ h1]
    · rw [if_neg h3, if_neg h4, ms_n _ _ h1]
theorem pay_next (M : Mem) (c : Int32) : f_X5_nextInstruction (f_X5_pay M c) = f_X5_nextInstruction M := by
  unfold f_X5_nextInstruction f_X1_wordAt f_X1_lengthOf
  rw [pay_fr M c (k := 15) (by decide) (by decide), pay_fr M c (k := 16) (by decide) (by decide), pay_fr M c (k := 12) (by decide) (by decide), pay_fr M c (k := 11) (by decide) (by decide)]
/-- the two steps behind their payment -/
theorem after_do {T S : Nat} {D G : Mem} {x1 : Int32} (hr : Rel T S D G) (h6 : G 6 0 = x1) (h0 : ¬ D 0 0 = 0) : ok_X5_step_117 D ∧ ok_X6_stepOnce_93 G x1 ∧ (f_X5_step_117 D).2 = (f_X6_stepOnce_93 G x1).2 ∧ Rel T S (f_X5_step_117 D).1 (f_X6_stepOnce_93 G x1).1 := by
  subst h6
  exact cut_sim hr h0
/-- the payment that fails -/
theorem pay_bad {T S : Nat} {M N : Mem} (hr : Rel T S M N) (h0 : ¬ M 0 0 = 0) {c : Int32} (hc : ¬ c ≤ N 2 0) (G : Mem → Mem) (OG : Mem → Prop) :
    ok_X5_failPower M ∧ (ok_X6_pays N c ∧ bc (f_X6_pays N c) (fun M1 r1 => if r1 = 0 then True else OG M1)) ∧ ok_X6_stepOnce_93 (bc (f_X6_pays N c) (fun M1 r1 => if r1 = 0 then M1 else G M1)) (N 6 0) ∧ (0 : Int32) = (f_X6_stepOnce_93 (bc (f_X6_pays N c) (fun M1 r1 => if r1 = 0 then M1 else G M1)) (N 6 0)).2 ∧ Rel T S (f_X5_failPower M) (f_X6_stepOnce_93 (bc (f_X6_pays N c) (fun M1 r1 => if r1 = 0 then M1 else G M1)) (N 6 0)).1 := by
  obtain ⟨f1, f2, f3, f4, f5⟩ := fail_sim hr h0
  have e : bc (f_X6_pays N c) (fun M1 r1 => if r1 = 0 then M1 else G M1) = f_X6_fail N := by
    rw [pays_n hc]
    show (if (0 : Int32) = 0 then f_X6_fail N else G (f_X6_fail N)) = f_X6_fail N
    rw [if_pos rfl]
  have ne : ¬ f_X6_fail N 6 0 = N 6 0 := by rw [f4]; exact ne_succ _
  rw [e]
  have e2 : f_X6_stepOnce_93 (f_X6_fail N) (N 6 0) = (f_X6_fail N, 0) := by
    unfold f_X6_stepOnce_93
    rw [if_neg ne]
  rw [e2]
  refine ⟨f1, ⟨?_, ?_⟩, ?_, rfl, f3⟩
  · unfold ok_X6_pays; rw [if_neg hc]; exact f2
  · rw [pays_n hc]
    show if (0 : Int32) = 0 then True else OG (f_X6_fail N)
    rw [if_pos rfl]; trivial
  · unfold ok_X6_stepOnce_93; rw [if_neg ne]; trivial
/-- the payment that is made -/
theorem pay_good {T T' S : Nat} {M N : Mem} {c : Int32} (hc : c ≤ N 2 0) {D : Mem} {G : Mem → Mem} {OG : Mem → Prop} (ho : OG (pN N c)) (hr : Rel T' S D (G (pN N c))) (h6 : G (pN N c) 6 0 = pN N c 6 0) (h0 : ¬ D 0 0 = 0) :
    (ok_X6_pays N c ∧ bc (f_X6_pays N c) (fun M1 r1 => if r1 = 0 then True else OG M1)) ∧ ok_X5_step_117 D ∧ ok_X6_stepOnce_93 (bc (f_X6_pays N c) (fun M1 r1 => if r1 = 0 then M1 else G M1)) (N 6 0) ∧ (f_X5_step_117 D).2 = (f_X6_stepOnce_93 (bc (f_X6_pays N c) (fun M1 r1 => if r1 = 0 then M1 else G M1)) (N 6 0)).2 ∧ Rel T' S (f_X5_step_117 D).1 (f_X6_stepOnce_93 (bc (f_X6_pays N c) (fun M1 r1 => if r1 = 0 then M1 else G M1)) (N 6 0)).1 := by
  have e : bc (f_X6_pays N c) (fun M1 r1 => if r1 = 0 then M1 else G M1) = G (pN N c) := by
    rw [pays_y hc]
    show (if (1 : Int32) = 0 then pN N c else G (pN N c)) = G (pN N c)
    rw [if_neg (show ¬ (1 : Int32) = 0 by decide)]
  rw [e]
  have n6 : pN N c 6 = N 6 := pN_fr N c (by decide) (by decide)
  obtain ⟨a1, a2, a3, a4⟩ := after_do hr (x1 := N 6 0) (by rw [h6, n6]) h0
  refine ⟨⟨?_, ?_⟩, a1, a2, a3, a4⟩
  · unfold ok_X6_pays; rw [if_pos hc]; trivial
  · rw [pays_y hc]
    show if (1 : Int32) = 0 then True else OG (pN N c)
    rw [if_neg (show ¬ (1 : Int32) = 0 by decide)]; exact ho
theorem step34_sim {T S : Nat} {M N : Mem} (hT : T < 2 ^ 29) (hS : S < 2 ^ 29) (hr : Rel T S M N) (h0 : ¬ M 0 0 = 0) (hf : M 0 0 = 2 → ¬ M 13 3 ≤ M 13 4) : ok_X5_step_34 M ∧ ok_X6_stepOnce_34 N ∧ (f_X5_step_34 M).2 = (f_X6_stepOnce_34 N).2 ∧ Rel (T + 1) S (f_X5_step_34 M).1 (f_X6_stepOnce_34 N).1 := by
  have hr2 := hr
  obtain ⟨sN, n, h, ⟨⟨x0, x1, x2, x3, x4, x5, x6, x7, x8, x9, x10⟩, -⟩, ph⟩ := hr2
  have up : ∀ {A B : Mem}, Rel T S A B → Rel (T + 1) S A B := fun q => q.mono (by omega) (Nat.le_refl _)
  have hp : M 0 0 = 1 ∨ M 0 0 = 2 ∨ M 0 0 = 3 ∨ M 0 0 = 4 := by
    rcases ph with ⟨p, -⟩ | ⟨-, -, ⟨p, -⟩ | ⟨p, -⟩ | ⟨p, -⟩ | ⟨p, -⟩⟩
    · exact absurd p h0
    · exact Or.inl p
    · exact Or.inr (Or.inl p)
    · exact Or.inr (Or.inr (Or.inl p))
    · exact Or.inr (Or.inr (Or.inr p))
  have d12 : ¬ (1 : Int32) = 2 := by decide
  have d13 : ¬ (1 : Int32) = 3 := by decide
  have d21 : ¬ (2 : Int32) = 1 := by decide
  have d23 : ¬ (2 : Int32) = 3 := by decide
  have d31 : ¬ (3 : Int32) = 1 := by decide
  have d32 : ¬ (3 : Int32) = 2 := by decide
  have d41 : ¬ (4 : Int32) = 1 := by decide
  have d42 : ¬ (4 : Int32) = 2 := by decide
  have d43 : ¬ (4 : Int32) = 3 := by decide
  rcases hp with p | p | p | p
  · -- REPLAY
    have n4 : N 4 0 = 1 := x0.symm.trans p
    have cc : f_X5_costOfStep M = 4 := by
      unfold f_X5_costOfStep; rw [p, if_neg d13, if_neg d12]
    have oc : ok_X5_costOfStep M := by
      unfold ok_X5_costOfStep; rw [p, if_neg d13]; trivial
    have eN : f_X6_stepOnce_34 N = f_X6_stepOnce_93 (bc (f_X6_pays N 4) (fun M1 r1 => if r1 = 0 then M1 else g_rep M1)) (N 6 0) := by
      unfold f_X6_stepOnce_34 bv; rw [if_pos n4, rep_e]
    have oN : ok_X6_stepOnce_34 N = ((ok_X6_pays N 4 ∧ bc (f_X6_pays N 4) (fun M1 r1 => if r1 = 0 then True else og_rep M1)) ∧ ok_X6_stepOnce_93 (bc (f_X6_pays N 4) (fun M1 r1 => if r1 = 0 then M1 else g_rep M1)) (N 6 0)) := by
      unfold ok_X6_stepOnce_34 bv; rw [if_pos n4, rep_o, rep_e]
    rw [eN, oN]
    by_cases c : (4 : Int32) ≤ M 1 0
    · have c' : (4 : Int32) ≤ N 2 0 := by rw [← x1]; exact c
      have m0 : f_X5_pay M 4 0 0 = 1 := by rw [pay_fr M 4 (by decide) (by decide)]; exact p
      obtain ⟨a1, a2, a3, a4, a5⟩ := replay_do (pay_sim hr 4) m0
      obtain ⟨b1, b2, b3, b4, b5⟩ := pay_good (M := M) (T := T) c' a2 a3 a4 a5
      have eM : f_X5_step_34 M = f_X5_step_117 (f_X5_doReplayStep (f_X5_pay M 4)) := by
        unfold f_X5_step_34 bv; rw [cc, if_pos c]; dsimp only; rw [if_pos m0]
      have oM : ok_X5_step_34 M := by
        unfold ok_X5_step_34 bv; rw [cc, if_pos c]; dsimp only; rw [if_pos m0]; exact ⟨oc, a1, b2⟩
      rw [eM]
      exact ⟨oM, ⟨b1, b3⟩, b4, up b5⟩
    · have c' : ¬ (4 : Int32) ≤ N 2 0 := by rw [← x1]; exact c
      obtain ⟨b1, b2, b3, b4, b5⟩ := pay_bad hr h0 c' g_rep og_rep
      have eM : f_X5_step_34 M = (f_X5_failPower M, 0) := by
        unfold f_X5_step_34 bv; rw [cc, if_neg c]
      have oM : ok_X5_step_34 M := by
        unfold ok_X5_step_34 bv; rw [cc, if_neg c]; exact ⟨oc, b1⟩
      rw [eM]
      exact ⟨oM, ⟨b2, b3⟩, b4, up b5⟩
  · -- AIR
    have n4 : N 4 0 = 2 := x0.symm.trans p
    have key : ∀ cst : Int32, f_X5_costOfStep M = cst → f_X6_airStep N = f_X6_airStep_14 N cst → ok_X6_airStep N = ok_X6_airStep_14 N cst → ok_X5_step_34 M ∧ ok_X6_stepOnce_34 N ∧ (f_X5_step_34 M).2 = (f_X6_stepOnce_34 N).2 ∧ Rel (T + 1) S (f_X5_step_34 M).1 (f_X6_stepOnce_34 N).1 := by
      intro cst cc ea oa
      have oc : ok_X5_costOfStep M := by
        unfold ok_X5_costOfStep; rw [p, if_neg d23]; trivial
      have eN : f_X6_stepOnce_34 N = f_X6_stepOnce_93 (bc (f_X6_pays N cst) (fun M1 r1 => if r1 = 0 then M1 else g_air M1)) (N 6 0) := by
        unfold f_X6_stepOnce_34 bv; rw [n4, if_neg d21, if_pos rfl, ea, air_e]
      have oN : ok_X6_stepOnce_34 N = ((ok_X6_pays N cst ∧ bc (f_X6_pays N cst) (fun M1 r1 => if r1 = 0 then True else og_air M1)) ∧ ok_X6_stepOnce_93 (bc (f_X6_pays N cst) (fun M1 r1 => if r1 = 0 then M1 else g_air M1)) (N 6 0)) := by
        unfold ok_X6_stepOnce_34 bv; rw [n4, if_neg d21, if_pos rfl, oa, ea, air_o, air_e]
      rw [eN, oN]
      by_cases c : cst ≤ M 1 0
      · have c' : cst ≤ N 2 0 := by rw [← x1]; exact c
        have m0 : f_X5_pay M cst 0 0 = 2 := by rw [pay_fr M cst (by decide) (by decide)]; exact p
        have m13 : f_X5_pay M cst 13 = M 13 := pay_fr M cst (by decide) (by decide)
        obtain ⟨a1, a2, a3, a4, a5⟩ := air_do hT (pay_sim hr cst) m0 (by rw [m13]; exact hf p)
        obtain ⟨b1, b2, b3, b4, b5⟩ := pay_good (M := M) (T := T) c' a2 a3 a4 a5
        have eM : f_X5_step_34 M = f_X5_step_117 (f_X5_doAirStep (f_X5_pay M cst)) := by
          unfold f_X5_step_34 bv; rw [cc, if_pos c]; dsimp only; rw [m0, if_neg d21, if_pos rfl]
        have oM : ok_X5_step_34 M := by
          unfold ok_X5_step_34 bv; rw [cc, if_pos c]; dsimp only; rw [m0, if_neg d21, if_pos rfl]; exact ⟨oc, a1, b2⟩
        rw [eM]
        exact ⟨oM, ⟨b1, b3⟩, b4, b5⟩
      · have c' : ¬ cst ≤ N 2 0 := by rw [← x1]; exact c
        obtain ⟨b1, b2, b3, b4, b5⟩ := pay_bad hr h0 c' g_air og_air
        have eM : f_X5_step_34 M = (f_X5_failPower M, 0) := by
          unfold f_X5_step_34 bv; rw [cc, if_neg c]
        have oM : ok_X5_step_34 M := by
          unfold ok_X5_step_34 bv; rw [cc, if_neg c]; exact ⟨oc, b1⟩
        rw [eM]
        exact ⟨oM, ⟨b2, b3⟩, b4, up b5⟩
    by_cases c9 : M 9 0 = 0
    · have c10 : N 10 0 = 0 := x8.symm.trans c9
      refine key 20 ?_ ?_ ?_
      · unfold f_X5_costOfStep; rw [p, if_neg d23, if_pos rfl, if_pos c9]
      · unfold f_X6_airStep; rw [if_pos c10]
      · unfold ok_X6_airStep; rw [if_pos c10]
    · have c10 : ¬ N 10 0 = 0 := by rw [← x8]; exact c9
      refine key 4 ?_ ?_ ?_
      · unfold f_X5_costOfStep; rw [p, if_neg d23, if_pos rfl, if_neg c9]
      · unfold f_X6_airStep; rw [if_neg c10]
      · unfold ok_X6_airStep; rw [if_neg c10]
  · -- RUN
    have n4 : N 4 0 = 3 := x0.symm.trans p
    obtain ⟨t, x, L, t1, t2, t3, t4, t5, t6, w1, w2, w3, w4', w5⟩ := next_w hr p
    generalize hw : M 11 (32 * t + x) = w at w1 w3 w5
    obtain ⟨q, a, b, c', hq, -, -, -, eo, -⟩ := okW_facts w5 t6 t5
    have oo : nI q ≤ (17 : Int32) := by rw [show (17 : Int32) = nI 17 from rfl]; exact nI_le hq (by decide)
    have vq : vp_in (nI q) 18 := vp_in_nI (by omega) (by decide)
    have cq : (nI q).toNatClampNeg = q := nI_clamp (by omega)
    have cN : f_X6_cost N (f_X6_op N w) = tab_COSTS q := by
      unfold f_X6_op; rw [eo]; exact cost_eq N q hq
    have cc : f_X5_costOfStep M = tab_COSTS q := by
      unfold f_X5_costOfStep; rw [p, if_pos rfl, w1]
      unfold f_X1_costOf f_X1_op; rw [eo, if_pos oo, cq]
    have oc : ok_X5_costOfStep M := by
      unfold ok_X5_costOfStep; rw [p, if_pos rfl, w1]
      unfold ok_X1_costOf f_X1_op; rw [eo, if_pos oo]; exact ⟨w2, vq⟩
    have eN : f_X6_stepOnce_34 N = f_X6_stepOnce_93 (bc (f_X6_pays N (tab_COSTS q)) (fun M1 r1 => if r1 = 0 then M1 else g_run w M1)) (N 6 0) := by
      unfold f_X6_stepOnce_34 bv; rw [n4, if_neg d31, if_neg d32, if_pos rfl, run_e N w w3, cN]
    have oN : ok_X6_stepOnce_34 N = ((vp_in (((32 : Int32) * ((N 20) 0)) + (N 11 0)) 512 ∧ ok_X6_pays N (tab_COSTS q) ∧ bc (f_X6_pays N (tab_COSTS q)) (fun M1 r1 => if r1 = 0 then True else og_run w M1)) ∧ ok_X6_stepOnce_93 (bc (f_X6_pays N (tab_COSTS q)) (fun M1 r1 => if r1 = 0 then M1 else g_run w M1)) (N 6 0)) := by
      unfold ok_X6_stepOnce_34 bv; rw [n4, if_neg d31, if_neg d32, if_pos rfl, run_o N w w3, run_e N w w3, cN]
    rw [eN, oN]
    generalize tab_COSTS q = cst at cc
    by_cases c : cst ≤ M 1 0
    · have c' : cst ≤ N 2 0 := by rw [← x1]; exact c
      have m0 : f_X5_pay M cst 0 0 = 3 := by rw [pay_fr M cst (by decide) (by decide)]; exact p
      have m13 : f_X5_pay M cst 13 = M 13 := pay_fr M cst (by decide) (by decide)
      have m12 : f_X5_pay M cst 12 = M 12 := pay_fr M cst (by decide) (by decide)
      have m16 : f_X5_pay M cst 16 = M 16 := pay_fr M cst (by decide) (by decide)
      have hr3 := pay_sim hr cst
      obtain ⟨a1, a2, a3, a4, a5⟩ := run_do hT hS hr3 m0 (t := t) (x := x) (L := L) (w := w) t1 (by rw [m13]; exact t2) (by rw [m16]; exact t3) (by rw [m12]; exact t4) t5 t6 (by rw [m12]; exact w5)
      obtain ⟨-, -, -, -, -, -, -, -, -, -, w2', -⟩ := next_w hr3 m0
      obtain ⟨b1, b2, b3, b4, b5⟩ := pay_good (M := M) (T := T) c' (G := g_run w) (OG := og_run w) a2 a3 a4 a5
      have eM : f_X5_step_34 M = f_X5_step_117 (f_X5_doInstruction (f_X5_pay M cst) w) := by
        unfold f_X5_step_34 bv; rw [cc, if_pos c]; dsimp only; rw [m0, if_neg d31, if_neg d32, if_pos rfl, pay_next, w1]
      have oM : ok_X5_step_34 M := by
        unfold ok_X5_step_34 bv; rw [cc, if_pos c]; dsimp only; rw [m0, if_neg d31, if_neg d32, if_pos rfl, pay_next, w1]; exact ⟨oc, w2', a1, b2⟩
      rw [eM]
      exact ⟨oM, ⟨⟨w4', b1⟩, b3⟩, b4, up b5⟩
    · have c' : ¬ cst ≤ N 2 0 := by rw [← x1]; exact c
      obtain ⟨b1, b2, b3, b4, b5⟩ := pay_bad hr h0 c' (g_run w) (og_run w)
      have eM : f_X5_step_34 M = (f_X5_failPower M, 0) := by
        unfold f_X5_step_34 bv; rw [cc, if_neg c]
      have oM : ok_X5_step_34 M := by
        unfold ok_X5_step_34 bv; rw [cc, if_neg c]; exact ⟨oc, b1⟩
      rw [eM]
      exact ⟨oM, ⟨⟨w4', b2⟩, b3⟩, b4, up b5⟩
  · -- COMMIT
    have n4 : N 4 0 = 4 := x0.symm.trans p
    have cc : f_X5_costOfStep M = 4 := by
      unfold f_X5_costOfStep; rw [p, if_neg d43, if_neg d42]
    have oc : ok_X5_costOfStep M := by
      unfold ok_X5_costOfStep; rw [p, if_neg d43]; trivial
    have eN : f_X6_stepOnce_34 N = f_X6_stepOnce_93 (bc (f_X6_pays N 4) (fun M1 r1 => if r1 = 0 then M1 else g_com M1)) (N 6 0) := by
      unfold f_X6_stepOnce_34 bv; rw [n4, if_neg d41, if_neg d42, if_neg d43, com_e]
    have oN : ok_X6_stepOnce_34 N = ((ok_X6_pays N 4 ∧ bc (f_X6_pays N 4) (fun M1 r1 => if r1 = 0 then True else og_com M1)) ∧ ok_X6_stepOnce_93 (bc (f_X6_pays N 4) (fun M1 r1 => if r1 = 0 then M1 else g_com M1)) (N 6 0)) := by
      unfold ok_X6_stepOnce_34 bv; rw [n4, if_neg d41, if_neg d42, if_neg d43, com_o, com_e]
    rw [eN, oN]
    by_cases c : (4 : Int32) ≤ M 1 0
    · have c' : (4 : Int32) ≤ N 2 0 := by rw [← x1]; exact c
      have m0 : f_X5_pay M 4 0 0 = 4 := by rw [pay_fr M 4 (by decide) (by decide)]; exact p
      obtain ⟨a1, a2, a3, a4, a5⟩ := com_do (pay_sim hr 4) m0
      obtain ⟨b1, b2, b3, b4, b5⟩ := pay_good (M := M) (T := T) c' a2 a3 a4 a5
      have eM : f_X5_step_34 M = f_X5_step_117 (f_X5_doCommitStep (f_X5_pay M 4)) := by
        unfold f_X5_step_34 bv; rw [cc, if_pos c]; dsimp only; rw [m0, if_neg d41, if_neg d42, if_neg d43]
      have oM : ok_X5_step_34 M := by
        unfold ok_X5_step_34 bv; rw [cc, if_pos c]; dsimp only; rw [m0, if_neg d41, if_neg d42, if_neg d43]; exact ⟨oc, a1, b2⟩
      rw [eM]
      exact ⟨oM, ⟨b1, b3⟩, b4, up b5⟩
    · have c' : ¬ (4 : Int32) ≤ N 2 0 := by rw [← x1]; exact c
      obtain ⟨b1, b2, b3, b4, b5⟩ := pay_bad hr h0 c' g_com og_com
      have eM : f_X5_step_34 M = (f_X5_failPower M, 0) := by
        unfold f_X5_step_34 bv; rw [cc, if_neg c]
      have oM : ok_X5_step_34 M := by
        unfold ok_X5_step_34 bv; rw [cc, if_neg c]; exact ⟨oc, b1⟩
      rw [eM]
      exact ⟨oM, ⟨b2, b3⟩, b4, up b5⟩
