theorem step_sim {T S : Nat} {M N : Mem} (hT : T < 2 ^ 29) (hS : S < 2 ^ 29) (hr : Rel T S M N) (h0 : ¬ M 0 0 = 0) : ok_X5_step M ∧ ok_X6_stepOnce N ∧ (f_X5_step M).2 = (f_X6_stepOnce N).2 ∧ Rel (T + 1) S (f_X5_step M).1 (f_X6_stepOnce N).1 := by
  have x0 : M 0 0 = N 4 0 := by
    obtain ⟨sN, n, h, ⟨⟨x0, -⟩, -⟩, -⟩ := hr
    exact x0
  by_cases p : M 0 0 = 2
  · have n4 : N 4 0 = 2 := x0.symm.trans p
    have fi := frames_iff hT hr p
    have x8 : M 9 0 = N 10 0 := by
      obtain ⟨sN, n, h, ⟨⟨-, -, -, -, -, -, -, -, x8, -⟩, -⟩, -⟩ := hr
      exact x8
    by_cases f : M 13 3 ≤ M 13 4
    · obtain ⟨f1, f2⟩ := fi.mp f
      obtain ⟨a1, a2, a3⟩ := begin_sim hr p (x8.trans f1)
      have m3 : ms (f_X0_begin M (f_X5_currentTask M)) 0 (fun _ => (3 : Int32)) 0 0 = 3 := rfl
      obtain ⟨b1, b2, b3, b4⟩ := step34_sim hT hS a3 (by rw [m3]; decide) (fun q => by rw [m3] at q; exact absurd q (by decide))
      have hz : f_X4_hasFramesToAir M = 0 := by unfold f_X4_hasFramesToAir; rw [if_pos f]
      have eM : f_X5_step M = f_X5_step_34 (ms (f_X0_begin M (f_X5_currentTask M)) 0 (fun _ => (3 : Int32))) := by
        unfold f_X5_step bv; rw [if_pos p, if_pos hz]
      have oM : ok_X5_step M := by
        unfold ok_X5_step bv; rw [if_pos p, if_pos hz]; exact ⟨a1, b1⟩
      have eN : f_X6_stepOnce N = f_X6_stepOnce_34 (f_X6_beginAttempt N) := by
        unfold f_X6_stepOnce bv; rw [if_pos n4, if_pos f1, if_pos f2]
      have oN : ok_X6_stepOnce N := by
        unfold ok_X6_stepOnce bv; rw [if_pos n4, if_pos f1, if_pos f2]; exact ⟨a2, b2⟩
      rw [eM, eN]
      exact ⟨oM, oN, b3, b4⟩
    · obtain ⟨b1, b2, b3, b4⟩ := step34_sim hT hS hr h0 (fun _ => f)
      have hz : ¬ f_X4_hasFramesToAir M = 0 := by unfold f_X4_hasFramesToAir; rw [if_neg f]; decide
      have eM : f_X5_step M = f_X5_step_34 M := by
        unfold f_X5_step bv; rw [if_pos p, if_neg hz]
      have oM : ok_X5_step M := by
        unfold ok_X5_step bv; rw [if_pos p, if_neg hz]; exact b1
      have eN : f_X6_stepOnce N = f_X6_stepOnce_34 N := by
        unfold f_X6_stepOnce bv; rw [if_pos n4]
        by_cases f1 : N 10 0 = 0
        · rw [if_pos f1, if_neg (fun f2 => f (fi.mpr ⟨f1, f2⟩))]
        · rw [if_neg f1]
      have oN : ok_X6_stepOnce N := by
        unfold ok_X6_stepOnce bv; rw [if_pos n4]
        by_cases f1 : N 10 0 = 0
        · rw [if_pos f1, if_neg (fun f2 => f (fi.mpr ⟨f1, f2⟩))]; exact b2
        · rw [if_neg f1]; exact b2
      rw [eM, eN]
      exact ⟨oM, oN, b3, b4⟩
  · have n4 : ¬ N 4 0 = 2 := by rw [← x0]; exact p
    obtain ⟨b1, b2, b3, b4⟩ := step34_sim hT hS hr h0 (fun q => absurd q p)
    have eM : f_X5_step M = f_X5_step_34 M := by
      unfold f_X5_step bv; rw [if_neg p]
    have oM : ok_X5_step M := by
      unfold ok_X5_step bv; rw [if_neg p]; exact b1
    have eN : f_X6_stepOnce N = f_X6_stepOnce_34 N := by
      unfold f_X6_stepOnce bv; rw [if_neg n4]
    have oN : ok_X6_stepOnce N := by
      unfold ok_X6_stepOnce bv; rw [if_neg n4]; exact b2
    rw [eM, eN]
    exact ⟨oM, oN, b3, b4⟩
theorem slot_loop {S : Nat} (hS : S < 2 ^ 29) : ∀ (f j T : Nat) (x2 : Int32) (M N : Mem), T + (16 - j) < 2 ^ 29 → j ≤ 16 → 17 ≤ f + j → Rel T S M N → ok_X5_slot_87 f M x2 (nI j) ∧ ok_X6_slot_174 f N x2 (nI j) ∧ (f_X5_slot_87 f M x2 (nI j)).2 = (f_X6_slot_174 f N x2 (nI j)).2 ∧ Rel (T + (16 - j)) S (f_X5_slot_87 f M x2 (nI j)).1 (f_X6_slot_174 f N x2 (nI j)).1 ∧ (f_X6_slot_174 f N x2 (nI j)).1 0 = N 0 := by
  intro f
  induction f with
  | zero => intro j T x2 M N h1 h2 h3; omega
  | succ f ih =>
    intro j T x2 M N h1 h2 h3 hr
    have x0 : M 0 0 = N 4 0 := by
      obtain ⟨sN, n, h, ⟨⟨x0, -⟩, -⟩, -⟩ := hr
      exact x0
    unfold ok_X5_slot_87 ok_X6_slot_174 f_X5_slot_87 f_X6_slot_174
    by_cases e : j = 16
    · subst e
      have c : (16 : Int32) ≤ nI 16 := by decide
      rw [if_pos c, if_pos c, if_pos c, if_pos c]
      exact ⟨trivial, trivial, rfl, hr, rfl⟩
    · have c : ¬ (16 : Int32) ≤ nI j := by rw [show (16 : Int32) = nI 16 from rfl, nI_leI (by decide) (by omega)]; omega
      rw [if_neg c, if_neg c, if_neg c, if_neg c, ← x0]
      by_cases z : M 0 0 = 0
      · rw [if_pos z, if_pos z, if_pos z, if_pos z]
        exact ⟨trivial, trivial, rfl, hr.mono (by omega) (Nat.le_refl _), rfl⟩
      · rw [if_neg z, if_neg z, if_neg z, if_neg z, nI_1]
        obtain ⟨a1, a2, a3, a4⟩ := step_sim (by omega) hS hr z
        have s0 := step0 N
        unfold bc
        rw [a3]
        dsimp only
        by_cases q : (f_X6_stepOnce N).2 = 0
        · simp only [if_pos q]
          obtain ⟨b1, b2, b3, b4, b5⟩ := ih (j + 1) (T + 1) x2 _ _ (by omega) (by omega) (by omega) a4
          refine ⟨⟨a1, b1⟩, ⟨a2, b2⟩, b3, ?_, b5.trans s0⟩
          rw [show T + (16 - j) = T + 1 + (16 - (j + 1)) by omega]
          exact b4
        · simp only [if_neg q]
          obtain ⟨b1, b2, b3, b4, b5⟩ := ih (j + 1) (T + 1) (x2 + 1) _ _ (by omega) (by omega) (by omega) a4
          refine ⟨⟨a1, b1⟩, ⟨a2, b2⟩, b3, ?_, b5.trans s0⟩
          rw [show T + (16 - j) = T + 1 + (16 - (j + 1)) by omega]
          exact b4
