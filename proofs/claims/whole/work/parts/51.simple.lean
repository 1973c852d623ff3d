theorem if_pr {α β : Type} {q : Prop} {dq : Decidable q} (X : α) (v w : β) : (@ite (α × β) q dq (X, v) (X, w)) = (X, @ite β q dq v w) := by by_cases h : q <;> simp [h]
theorem i_lt (a b : Int32) : a < b ↔ a.toInt < b.toInt := Int32.lt_iff_toInt_lt
theorem i_le (a b : Int32) : a ≤ b ↔ a.toInt ≤ b.toInt := Int32.le_iff_toInt_le
theorem rel_ph {T S : Nat} {M N : Mem} (h : Rel T S M N) : (M 0 0 = 3 ∨ M 0 0 = 4) → Rt M N := by
  obtain ⟨sN, n, hh, -, ph⟩ := h
  intro hp
  rcases ph with ⟨p, -⟩ | ⟨-, -, ⟨p, -⟩ | ⟨p, -⟩ | ⟨-, -, -, p⟩ | ⟨-, -, p⟩⟩
  · rcases hp with q | q <;> (rw [p] at q; exact absurd q (by decide))
  · rcases hp with q | q <;> (rw [p] at q; exact absurd q (by decide))
  · rcases hp with q | q <;> (rw [p] at q; exact absurd q (by decide))
  · exact p.1
  · exact p.1
theorem rel_nx {T S : Nat} {M N : Mem} (h : Rel T S M N) : M 0 0 = 3 → M 16 0 = N 11 0 := by
  obtain ⟨sN, n, hh, -, ph⟩ := h
  intro q
  rcases ph with ⟨p, -⟩ | ⟨-, -, ⟨p, -⟩ | ⟨p, -⟩ | ⟨-, -, -, p⟩ | ⟨p, -⟩⟩
  · rw [p] at q; exact absurd q (by decide)
  · rw [p] at q; exact absurd q (by decide)
  · rw [p] at q; exact absurd q (by decide)
  · exact p.2.2.1
  · rw [p] at q; exact absurd q (by decide)
theorem pf_state_ok : pf_state Sim := by
  intro k M N hk h a
  have h2 := Sim.next h
  have hR := rel_ph h
  have hX := rel_nx h
  obtain ⟨sN, n, hh, ⟨⟨x0, x1, x2, x3, x4, x5, x6, x7, x8, x9, x10⟩, -⟩, -⟩ := h
  have key : f_X6_state N a = (ms N 0 (fun _ => (0 : Int32)), f_X5_state M a) := by
    by_cases p3 : M 0 0 = 3
    · obtain ⟨-, r1, r2⟩ := hR (Or.inl p3)
      have q3 : N 4 0 = 3 := x0.symm.trans p3
      simp only [f_X6_state, f_X6_state_21, f_X6_state_26, f_X5_state, f_X5_isInAttempt, p3, q3, if_true, ← x0, ← x1, ← x2, ← x4, ← x5, ← x6, ← x10, ← r1, ← r2, ← hX p3, ms, Nat.beq, cond_false, cond_true, if_neg (show ¬ (1 : Int32) = 0 by decide)]
      simp only [if_pr]
    · have q3 : ¬ N 4 0 = 3 := by rw [← x0]; exact p3
      by_cases p4 : M 0 0 = 4
      · obtain ⟨-, r1, r2⟩ := hR (Or.inr p4)
        have q4 : N 4 0 = 4 := x0.symm.trans p4
        simp only [f_X6_state, f_X6_state_21, f_X6_state_26, f_X5_state, f_X5_isInAttempt, p3, q3, p4, q4, if_true, if_false, ← x0, ← x1, ← x2, ← x4, ← x5, ← x6, ← x10, ← r1, ← r2, ms, Nat.beq, cond_false, cond_true, if_neg (show ¬ (1 : Int32) = 0 by decide), if_neg (show ¬ (4 : Int32) = 3 by decide)]
        simp only [if_pr]
      · have q4 : ¬ N 4 0 = 4 := by rw [← x0]; exact p4
        simp only [f_X6_state, f_X6_state_21, f_X6_state_26, f_X5_state, f_X5_isInAttempt, p3, q3, p4, q4, if_true, if_false, ← x0, ← x1, ← x2, ← x4, ← x5, ← x6, ← x10, ms, Nat.beq, cond_false, cond_true]
        simp only [if_pr]
  rw [key]
  exact ⟨rfl, h2.n0 _⟩
theorem pf_task_ok : pf_task Sim := by
  intro k M N hk h a b
  have h2 := Sim.next h
  obtain ⟨sN, n, hh, ⟨-, ⟨y0, y1, y2, y3, y4, y5, y6, y7⟩, -⟩, -⟩ := h
  by_cases c1 : a < 0
  · simp only [f_X5_task, ok_X5_task, f_X6_task, ok_X6_task, f_X6_isTask, if_pos c1, if_true]
    exact ⟨trivial, trivial, trivial, h2.n0 _⟩
  · by_cases c2 : a < 16
    · have c3 : ¬ (16 : Int32) ≤ a := Int32.not_le.mpr c2
      have hv := in_lt (a := a) (N := 16) (b := 16) rfl (by decide) c1 c2
      by_cases b0 : b = 0
      · subst b0
        simp only [f_X5_task, ok_X5_task, f_X6_task, ok_X6_task, f_X6_isTask, if_neg c1, if_pos c2, if_neg c3, if_neg (show ¬ (1 : Int32) = 0 by decide), if_neg (show ¬ (0 : Int32) < 0 by decide), if_pos (show (0 : Int32) ≤ 2 by decide), if_true]
        exact ⟨hv, hv, by rw [y5], h2.n0 _⟩
      · by_cases b1 : b = 1
        · subst b1
          simp only [f_X5_task, ok_X5_task, f_X6_task, ok_X6_task, f_X6_isTask, if_neg c1, if_pos c2, if_neg c3, if_neg (show ¬ (1 : Int32) = 0 by decide), if_neg (show ¬ (1 : Int32) < 0 by decide), if_pos (show (1 : Int32) ≤ 2 by decide), if_true]
          exact ⟨hv, hv, by rw [y6], h2.n0 _⟩
        · by_cases b2 : b = 2
          · subst b2
            simp only [f_X5_task, ok_X5_task, f_X6_task, ok_X6_task, f_X6_isTask, if_neg c1, if_pos c2, if_neg c3, if_neg (show ¬ (1 : Int32) = 0 by decide), if_neg (show ¬ (2 : Int32) = 0 by decide), if_neg (show ¬ (2 : Int32) = 1 by decide), if_neg (show ¬ (2 : Int32) < 0 by decide), if_pos (show (2 : Int32) ≤ 2 by decide), if_true]
            exact ⟨hv, hv, by rw [y1], h2.n0 _⟩
          · by_cases b3 : b < 0
            · simp only [f_X5_task, ok_X5_task, f_X6_task, ok_X6_task, f_X6_isTask, if_neg c1, if_pos c2, if_neg c3, if_neg (show ¬ (1 : Int32) = 0 by decide), if_neg b0, if_neg b1, if_neg b2, if_pos b3]
              exact ⟨trivial, trivial, trivial, h2.n0 _⟩
            · have b4 : ¬ b ≤ 2 := by
                intro h9
                have h8 : b.toInt = 0 ∨ b.toInt = 1 ∨ b.toInt = 2 := by
                  rw [i_le] at h9
                  rw [i_lt, Int32.toInt_zero] at b3
                  have : (2 : Int32).toInt = 2 := rfl
                  omega
                rcases h8 with q | q | q
                · exact b0 (Int32.toInt_inj.mp q)
                · exact b1 (Int32.toInt_inj.mp q)
                · exact b2 (Int32.toInt_inj.mp q)
              simp only [f_X5_task, ok_X5_task, f_X6_task, ok_X6_task, f_X6_isTask, if_neg c1, if_pos c2, if_neg c3, if_neg (show ¬ (1 : Int32) = 0 by decide), if_neg b0, if_neg b1, if_neg b2, if_neg b3, if_neg b4]
              exact ⟨trivial, trivial, trivial, h2.n0 _⟩
    · have c3 : (16 : Int32) ≤ a := Int32.not_lt.mp c2
      simp only [f_X5_task, ok_X5_task, f_X6_task, ok_X6_task, f_X6_isTask, if_neg c1, if_neg c2, if_pos c3, if_true]
      exact ⟨trivial, trivial, trivial, h2.n0 _⟩
theorem in_cl {a : Int32} {N : Nat} {b : Int32} (hb : b = nI N) (hN : N < 2 ^ 31) (h0 : ¬ a < 0) (h1 : a < b) : a.toNatClampNeg < N := by
  have := in_lt hb hN h0 h1
  exact Nat.not_le.mp fun q => this (Or.inr q)
theorem pf_register_ok : pf_register Sim := by
  intro k M N hk h a
  have h2 := Sim.next h
  have hR := rel_ph h
  obtain ⟨sN, n, hh, ⟨⟨x0, -⟩, -⟩, -⟩ := h
  by_cases p : M 0 0 = 3 ∨ M 0 0 = 4
  · obtain ⟨r0, -, -⟩ := hR p
    have g1 : f_X5_isInAttempt M = 1 := by
      rcases p with p | p
      · simp only [f_X5_isInAttempt, p, if_true]
      · simp only [f_X5_isInAttempt, p, if_true, if_neg (show ¬ (4 : Int32) = 3 by decide)]
    have g2 : f_X6_register N a = f_X6_register_21 (ms N 0 (fun _ => (0 : Int32))) a ∧ (ok_X6_register N a = ok_X6_register_21 (ms N 0 (fun _ => (0 : Int32))) a) := by
      rw [x0] at p
      rcases p with p | p
      · simp only [f_X6_register, ok_X6_register, p, if_true]; exact ⟨trivial, trivial⟩
      · simp only [f_X6_register, ok_X6_register, p, if_true, if_neg (show ¬ (4 : Int32) = 3 by decide)]; exact ⟨trivial, trivial⟩
    rw [g2.1, g2.2]
    by_cases c1 : a < 0
    · simp only [f_X5_register, ok_X5_register, g1, f_X6_register_21, ok_X6_register_21, if_neg (show ¬ (1 : Int32) = 0 by decide), if_pos c1]
      exact ⟨trivial, trivial, trivial, h2.n0 _⟩
    · by_cases c2 : a < 8
      · have c3 : ¬ (8 : Int32) ≤ a := Int32.not_le.mpr c2
        have hv := in_lt (a := a) (N := 8) (b := 8) rfl (by decide) c1 c2
        simp only [f_X5_register, ok_X5_register, g1, f_X6_register_21, ok_X6_register_21, if_neg (show ¬ (1 : Int32) = 0 by decide), if_neg c1, if_pos c2, if_neg c3]
        exact ⟨hv, hv, r0 _ (in_cl rfl (by decide) c1 c2), h2.n0 _⟩
      · have c3 : (8 : Int32) ≤ a := Int32.not_lt.mp c2
        simp only [f_X5_register, ok_X5_register, g1, f_X6_register_21, ok_X6_register_21, if_neg (show ¬ (1 : Int32) = 0 by decide), if_neg c1, if_neg c2, if_pos c3]
        exact ⟨trivial, trivial, trivial, h2.n0 _⟩
  · have p3 : ¬ M 0 0 = 3 := fun q => p (Or.inl q)
    have p4 : ¬ M 0 0 = 4 := fun q => p (Or.inr q)
    have q3 : ¬ N 4 0 = 3 := by rw [← x0]; exact p3
    have q4 : ¬ N 4 0 = 4 := by rw [← x0]; exact p4
    simp only [f_X5_register, ok_X5_register, f_X5_isInAttempt, f_X6_register, ok_X6_register, if_neg p3, if_neg p4, if_neg q3, if_neg q4, if_true]
    exact ⟨trivial, trivial, trivial, h2.n0 _⟩
/-- the lowest bits of a number that isn't below 0 -/
theorem rem_and {a : Nat} (h : a < 2 ^ 31) {d : Nat} (k : Nat) (hd : d = 2 ^ k) (hk : k ≤ 30) {m e : Int32} (hm : m.toBitVec.toNat = 2 ^ k - 1) (he : e = nI d) : nI a - nI a / e * e = nI a &&& m := by
  subst he
  have hd0 : 0 < d := by rw [hd]; exact Nat.two_pow_pos k
  have hd1 : d < 2 ^ 31 := by rw [hd]; exact Nat.pow_lt_pow_right (by decide) (by omega)
  rw [pk_rem h hd0 hd1, pk_andN (by omega) k hm, hd]
theorem nn_of {x : Int32} (h : ¬ x < 0) : ∃ j : Nat, j < 2 ^ 31 ∧ x = nI j := nI_of h
theorem pf_aired_ok : pf_aired Sim := by
  intro k M N hk h a b
  have h2 := Sim.next h
  obtain ⟨sN, n, hh, ⟨⟨x0, x1, x2, x3, x4, x5, x6, x7, x8, x9, x10⟩, ⟨y0, y1, y2, y3, y4, y5, y6, y7, y8, y9, y10, y11⟩, -, -, -, -, -, -, ⟨q, hq, hq2⟩, -⟩, -⟩ := h
  simp only [f_X5_aired, ok_X5_aired, f_X3_latest, ok_X3_latest, f_X6_aired, ok_X6_aired, ← x10]
  by_cases c1 : a < 0
  · simp only [if_pos c1]; exact ⟨trivial, trivial, trivial, h2.n0 _⟩
  · by_cases c2 : (64 : Int32) ≤ a
    · simp only [if_neg c1, if_pos c2]; exact ⟨trivial, trivial, trivial, h2.n0 _⟩
    · by_cases c3 : M 26 0 ≤ a
      · simp only [if_neg c1, if_neg c2, if_pos c3]; exact ⟨trivial, trivial, trivial, h2.n0 _⟩
      · obtain ⟨j, hj, rfl⟩ := nn_of c1
        have hjq : j < q := by
          rw [hq2, i_le, nI_toInt (by omega), nI_toInt hj] at c3
          omega
        have e1 : M 26 0 - 1 - nI j = nI (q - 1 - j) := by
          rw [hq2, show (1 : Int32) = nI 1 from rfl, pk_sub (by omega), pk_sub (by omega)]
        have e2 : nI (q - 1 - j) - nI (q - 1 - j) / 64 * 64 = nI (q - 1 - j) &&& 63 := rem_and (by omega) 6 rfl (by decide) (by decide) rfl
        have hv : vp_in (nI (q - 1 - j) &&& 63) 64 := pk_andIn _ 6 (by decide) (by decide)
        simp only [if_neg c1, if_neg c2, if_neg c3, e1, e2]
        by_cases c4 : b < 0
        · simp only [if_pos c4]; exact ⟨trivial, trivial, trivial, h2.n0 _⟩
        · by_cases c5 : b ≤ 1
          · simp only [if_neg c4, if_pos c5]
            by_cases c6 : b = 0
            · simp only [if_pos c6, y9]; exact ⟨hv, hv, trivial, h2.n0 _⟩
            · simp only [if_neg c6, y10]; exact ⟨hv, hv, trivial, h2.n0 _⟩
          · simp only [if_neg c4, if_neg c5]; exact ⟨trivial, trivial, trivial, h2.n0 _⟩
theorem pf_kept_ok : pf_kept Sim := by
  intro k M N hk h a b
  have h2 := Sim.next h
  obtain ⟨sN, n, hh, ⟨-, ⟨y0, y1, y2, y3, -⟩, -⟩, -⟩ := h
  constructor
  · intro c
    by_cases c1 : a < 0
    · simp only [f_X6_kept, ok_X6_kept, f_X6_raise, bc, if_pos c1]
      exact ⟨trivial, rfl, h2.n0 _⟩
    · have c2 : ¬ a < 164 := Int32.not_lt.mpr (c.elim (fun q => absurd q c1) id)
      simp only [f_X6_kept, ok_X6_kept, f_X6_raise, bc, if_neg c1, if_neg c2]
      exact ⟨trivial, rfl, h2.n0 _⟩
  · intro c
    have c1 : ¬ a < 0 := fun q => c (Or.inl q)
    have c2 : a < 164 := Int32.not_le.mp (fun q => c (Or.inr q))
    have hv := in_lt (a := a) (N := 164) (b := 164) rfl (by decide) c1 c2
    by_cases c3 : b = 0
    · simp only [f_X5_kept, ok_X5_kept, f_X6_kept, ok_X6_kept, if_neg c1, if_pos c2, if_pos c3, y2]
      exact ⟨hv, hv, rfl, trivial, h2.n0 _⟩
    · simp only [f_X5_kept, ok_X5_kept, f_X6_kept, ok_X6_kept, if_neg c1, if_pos c2, if_neg c3, y3]
      exact ⟨hv, hv, rfl, trivial, h2.n0 _⟩
theorem pf_heard_ok : pf_heard Sim := by
  intro k M N hk h a
  have h2 := Sim.next h
  obtain ⟨sN, n, hh, ⟨-, ⟨y0, y1, y2, y3, y4, y5, y6, y7, y8, y9, y10, y11⟩, -, ⟨hsT, -⟩, -, ⟨hn, hor, hG⟩, -⟩, -⟩ := h
  have hb : hh < 2 ^ 30 := by rcases hor with q | q <;> omega
  by_cases c1 : a < 0
  · constructor
    · intro _
      simp only [f_X6_heard, ok_X6_heard, f_X6_raise, bc, if_pos c1]
      exact ⟨trivial, rfl, h2.n0 _⟩
    · intro c
      exact absurd (by simp only [f_X3_farSideHas, if_pos c1]) c
  · obtain ⟨j, hj, rfl⟩ := nn_of c1
    have e2 : nI j - nI j / 64 * 64 = nI (j % 64) := pk_rem hj (by decide) (by decide)
    have e3 : (nI (j % 64)).toNatClampNeg = j % 64 := nI_clamp (by omega)
    have e4 : nI j &&& 63 = nI (j % 64) := pk_andN (by omega) 6 (by decide)
    have hv : vp_in (nI (j % 64)) 64 := vp_in_nI (Nat.mod_lt _ (by decide)) (by decide)
    have has : f_X3_farSideHas M (nI j) = if j < hh ∧ hh ≤ j + 64 then 1 else 0 := by
      have t1 : (M 27 0 ≤ nI j) ↔ hh ≤ j := by rw [hn]; exact nI_leI (by omega) hj
      have t2 : (nI j < M 27 0 - 64) ↔ j + 64 < hh := by
        rw [hn, i_lt, show (64 : Int32) = nI 64 from rfl, pk_sub_toInt hb (by decide), nI_toInt hj]
        omega
      simp only [f_X3_farSideHas, if_neg c1, t1, t2]
      by_cases d1 : hh ≤ j
      · rw [if_pos d1, if_neg (by omega)]
      · rw [if_neg d1]
        by_cases d2 : j + 64 < hh
        · rw [if_pos d2, if_neg (by omega)]
        · rw [if_neg d2, if_pos (by omega)]
    have fn : (N 30 (j % 64) = nI j) ↔ (j < hh ∧ hh ≤ j + 64) := by
      constructor
      · intro q
        rcases hG (j % 64) (Nat.mod_lt _ (by decide)) with ⟨g1, g2⟩ | ⟨r, g1, g2, g3, g4⟩
        · rw [g1] at q
          exact absurd (congrArg Int32.toInt q) (by rw [nI_toInt hj]; have : (-1 : Int32).toInt = -1 := rfl; omega)
        · rw [g4] at q
          have : r = j := (nI_eq (by omega) hj).mp q
          omega
      · intro ⟨q1, q2⟩
        rcases hG (j % 64) (Nat.mod_lt _ (by decide)) with ⟨g1, g2⟩ | ⟨r, g1, g2, g3, g4⟩
        · omega
        · rw [g4]
          have : r = j := by omega
          rw [this]
    constructor
    · intro c
      rw [has] at c
      have nf : ¬ N 30 (j % 64) = nI j := by
        intro q
        rw [if_pos (fn.mp q)] at c
        exact absurd c (by decide)
      simp only [f_X6_heard, ok_X6_heard, f_X6_raise, bc, if_neg c1, e2, e3, if_neg nf]
      exact ⟨⟨hv, trivial⟩, rfl, h2.n0 _⟩
    · intro c
      have yf : N 30 (j % 64) = nI j := by
        rw [has] at c
        apply fn.mpr
        by_cases d : j < hh ∧ hh ≤ j + 64
        · exact d
        · rw [if_neg d] at c; exact absurd rfl c
      simp only [f_X5_heard, ok_X5_heard, if_neg c, f_X3_payloadOfFarSide, ok_X3_payloadOfFarSide, f_X6_heard, ok_X6_heard, if_neg c1, e2, e3, e4, if_pos yf, y11]
      exact ⟨hv, ⟨hv, hv⟩, rfl, trivial, h2.n0 _⟩
