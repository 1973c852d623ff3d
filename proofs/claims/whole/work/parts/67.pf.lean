theorem mn2 (x k : Int32) : (if x < k then x else k) = if x ≤ k then x else k := by
  by_cases h : x < k
  · rw [if_pos h, if_pos (Int32.le_of_lt h)]
  · rw [if_neg h]
    by_cases h2 : x ≤ k
    · rw [if_pos h2]; exact (Int32.le_antisymm h2 (Int32.not_lt.mp h)).symm
    · rw [if_neg h2]
theorem rel_slot {k : Nat} {M N : Mem} (h : Rel (16 * k) k M N) (e : Int32) : Rel (16 * k) (k + 1) (ms (ms M 1 (fun _ => e)) 2 (fun _ => M 2 0 + 1)) (ms (ms (ms N 0 (fun _ => 0)) 2 (fun _ => e)) 3 (fun _ => N 3 0 + 1)) := by
  obtain ⟨sN, n, hh, ⟨⟨x0, x1, x2, x3, x4⟩, e2, e3, e4, e5, e6, r1, ⟨q, r2, r2'⟩, r3⟩, ph⟩ := h
  refine ⟨sN, n, hh, ⟨⟨x0, rfl, congrArg (· + 1) x2, x3, x4⟩, e2, e3, e4, e5, e6, r1, ⟨q + 1, by omega, ?_⟩, r3⟩, ?_⟩
  · show M 2 0 + 1 = nI (q + 1)
    rw [r2', nI_1]
  · rcases ph with p | ⟨p1, p2, p | p | ⟨p3, p4, p5, p6, p7, p8, p9, p10, p11⟩ | p⟩
    · exact Or.inl p
    · exact Or.inr ⟨p1, p2, Or.inl p⟩
    · exact Or.inr ⟨p1, p2, Or.inr (Or.inl p)⟩
    · refine Or.inr ⟨p1, p2, Or.inr (Or.inr (Or.inl ⟨p3, p4, p5, p6, p7, p8, p9, p10, ?_⟩))⟩
      rcases p11 with p | ⟨a, b, q, c, d⟩
      · exact Or.inl p
      · exact Or.inr ⟨a, b, q, by omega, d⟩
    · exact Or.inr ⟨p1, p2, Or.inr (Or.inr (Or.inr p))⟩
/-- the boot that comes through -/
theorem rel_boot {T S : Nat} {M N : Mem} (h : Rel T S M N) (h0 : M 0 0 = 0) (h10 : ¬ M 10 0 = 0) (h4 : M 4 0 = -1) (e : Int32) : Rel T S (ms (ms (ms (ms M 1 (fun _ => e)) 7 (fun _ => 0)) 9 (fun _ => 0)) 0 (fun _ => if M 13 2 = 0 then 2 else 1)) (ms (ms (ms (ms N 2 (fun _ => e)) 9 (fun _ => 0)) 10 (fun _ => 0)) 4 (fun _ => if M 13 2 = 0 then 2 else 1)) := by
  obtain ⟨sN, n, hh, ⟨⟨x0, x1, x2, x3, x4, x5, x6, x7, x8, x9, x10⟩, e2, e3, e4, e5, e6, e7⟩, ph⟩ := h
  have p10 : M 10 0 = 1 := by
    rcases e3.2 with q | ⟨q, -⟩
    · exact absurd q h10
    · exact q
  refine ⟨sN, n, hh, ⟨⟨rfl, rfl, x2, x3, x4, x5, x6, rfl, rfl, x9, x10⟩, e2, e3, e4, e5, e6, e7⟩, ?_⟩
  rcases ph with ⟨-, p⟩ | ⟨-, -, ⟨p, -⟩ | ⟨p, -⟩ | ⟨p, -⟩ | ⟨p, -⟩⟩
  · refine Or.inr ⟨p10, h4, ?_⟩
    by_cases c : M 13 2 = 0
    · rw [if_pos c]
      exact Or.inr (Or.inl ⟨rfl, c, Or.inl rfl⟩)
    · rw [if_neg c]
      rcases p with p | ⟨m, m1, m2, m3⟩
      · exact absurd p c
      · exact Or.inl ⟨rfl, rfl, m, 0, m1, by omega, m2, rfl, m3⟩
  · rw [h0] at p; exact absurd p (by decide)
  · rw [h0] at p; exact absurd p (by decide)
  · rw [h0] at p; exact absurd p (by decide)
  · rw [h0] at p; exact absurd p (by decide)
theorem loop_end {k : Nat} (hk : k < 512) {M N : Mem} (h : Rel (16 * k) (k + 1) M N) : ok_X5_slot_83 M ∧ ok_X6_slot_170 N ∧ (f_X6_slot_170 N).1 0 = N 0 ∧ (f_X5_slot_83 M).2 = (f_X6_slot_170 N).2 ∧ Sim (k + 1) (f_X5_slot_83 M).1 (f_X6_slot_170 N).1 := by
  obtain ⟨a1, a2, a3, a4, a5⟩ := slot_loop (S := k + 1) (by omega) 17 0 (16 * k) 0 M N (by omega) (by omega) (by omega) h
  exact ⟨a1, a2, a5, a3, a4.mono (by omega) (Nat.le_refl _)⟩
theorem pf_slot_ok : pf_slot Sim := by
  intro k M N hk h a
  have h2 := Sim.next h
  have hr : Rel (16 * k) k M N := h
  obtain ⟨sN, n, hh, ⟨⟨x0, x1, x2, x3, x4, x5, x6, x7, x8, x9, x10⟩, ⟨y0, y1, y2, y3, y4, y5, y6, y7, y8, y9, y10, y11⟩, e3, ⟨e4, e4', e4''⟩, -⟩, -⟩ := h
  have d1 : ¬ (1 : Int32) = 0 := by decide
  have d2 : ¬ (2 : Int32) = 0 := by decide
  refine ⟨fun c0 => ?_, fun c0 c1 => ?_, fun c0 c1 => ?_⟩
  · have n1 : N 1 0 = 0 := x9.symm.trans c0
    unfold ok_X6_slot f_X6_slot ok_X6_slot_28 f_X6_slot_28
    rw [if_pos n1, if_pos n1, if_neg d1, if_neg d1]
    exact ⟨trivial, rfl, h2.n0 _⟩
  · have n1 : ¬ N 1 0 = 0 := by rw [← x9]; exact c0
    unfold ok_X6_slot f_X6_slot
    rw [if_neg n1, if_neg n1]
    by_cases c : a < 0
    · rw [if_pos c, if_pos c]
      unfold ok_X6_slot_23 f_X6_slot_23 ok_X6_slot_28 f_X6_slot_28
      rw [if_neg d2, if_neg d2]
      exact ⟨trivial, rfl, h2.n0 _⟩
    · have c5 : ¬ a ≤ 500 := by
        rcases c1 with q | q
        · exact absurd q c
        · exact Int32.not_le.mpr q
      rw [if_neg c, if_neg c, if_neg c5, if_neg c5]
      unfold ok_X6_slot_23 f_X6_slot_23 ok_X6_slot_28 f_X6_slot_28
      rw [if_neg d2, if_neg d2]
      exact ⟨trivial, rfl, h2.n0 _⟩
  · have n1 : ¬ N 1 0 = 0 := by rw [← x9]; exact c0
    have c : ¬ a < 0 := fun q => c1 (Or.inl q)
    have c5 : a ≤ 500 := Int32.not_lt.mp (fun q => c1 (Or.inr q))
    obtain ⟨t, t1, t2, -⟩ := (e4'' 0 (Or.inl rfl)).1 rfl
    have ct : (nI t).toNatClampNeg = t := nI_clamp (by omega)
    have vt : vp_in (nI t) 16 := vp_in_nI t1 (by decide)
    have n20 : N 20 0 = nI t := by rw [← y2]; exact t2
    have h1 := rel_slot hr (if M 1 0 + a < 2000 then M 1 0 + a else 2000)
    have eN : f_X6_slot N a = f_X6_slot_65 (ms N 0 (fun _ => 0)) (if M 1 0 + a < 2000 then M 1 0 + a else 2000) := by
      unfold f_X6_slot f_X6_slot_28
      rw [if_neg n1, if_neg c, if_pos c5, if_pos rfl, mn2, ← x1]
      by_cases q : M 1 0 + a ≤ 2000
      · rw [if_pos q, if_pos q]
      · rw [if_neg q, if_neg q]
    have oN : ok_X6_slot N a = ok_X6_slot_65 (ms N 0 (fun _ => 0)) (if M 1 0 + a < 2000 then M 1 0 + a else 2000) := by
      unfold ok_X6_slot ok_X6_slot_28
      rw [if_neg n1, if_neg c, if_pos c5, if_pos rfl, mn2, ← x1]
      by_cases q : M 1 0 + a ≤ 2000
      · rw [if_pos q, if_pos q]
      · rw [if_neg q, if_neg q]
    rw [eN, oN]
    unfold f_X5_slot ok_X5_slot
    rw [if_neg c0, if_neg c, if_pos c5, if_neg c0, if_neg c, if_pos c5]
    generalize (if M 1 0 + a < 2000 then M 1 0 + a else 2000) = e at h1
    unfold f_X6_slot_65 ok_X6_slot_65
    by_cases p0 : M 0 0 = 0
    · have n4 : ms N 0 (fun _ => (0 : Int32)) 4 0 = 0 := x0.symm.trans p0
      rw [if_pos p0, if_pos p0, if_pos n4, if_pos n4]
      have ctk : f_X5_currentTask (ms (ms M 1 (fun _ => e)) 2 (fun _ => M 2 0 + 1)) = nI t := by
        show M 13 0 &&& 15 = nI t
        rw [t2, pk_andN (by omega) 4 (by decide), Nat.mod_eq_of_lt (by omega)]
      have ob : ok_X5_boot (ms (ms M 1 (fun _ => e)) 2 (fun _ => M 2 0 + 1)) := by
        unfold ok_X5_boot; rw [ctk]; exact vt
      have v20 : vp_in (ms N 0 (fun _ => (0 : Int32)) 20 0) 16 := by
        show vp_in (N 20 0) 16
        rw [n20]; exact vt
      by_cases p4 : M 4 0 = -1
      · have n5 : ms N 0 (fun _ => (0 : Int32)) 5 0 = -1 := x4.symm.trans p4
        have need : (60 : Int32) + ms N 0 (fun _ => (0 : Int32)) 23 (ms N 0 (fun _ => (0 : Int32)) 20 0).toNatClampNeg = M 31 t + 60 := by
          show (60 : Int32) + N 23 (N 20 0).toNatClampNeg = M 31 t + 60
          rw [n20, ct, ← y5, Int32.add_comm]
        have b1 : f_X5_boot (ms (ms M 1 (fun _ => e)) 2 (fun _ => M 2 0 + 1)) = if (if M 31 t + 60 < 2000 then M 31 t + 60 else 2000) ≤ e then (ms (ms (ms (ms (ms (ms M 1 (fun _ => e)) 2 (fun _ => M 2 0 + 1)) 1 (fun _ => e - 60)) 7 (fun _ => 0)) 9 (fun _ => 0)) 0 (fun _ => if M 13 2 = 0 then 2 else 1), 1) else (ms (ms M 1 (fun _ => e)) 2 (fun _ => M 2 0 + 1), 0) := by
          unfold f_X5_boot
          rw [ctk, ct]
          rw [if_pos (show ms (ms M 1 (fun _ => e)) 2 (fun _ => M 2 0 + 1) 4 0 = -1 from p4)]
          show (if (if M 31 t + 60 < 2000 then M 31 t + 60 else 2000) ≤ e then (if M 13 2 = 0 then _ else _) else _) = _
          by_cases q : M 13 2 = 0
          · rw [if_pos q, if_pos q]; rfl
          · rw [if_neg q, if_neg q]; rfl
        have key : ∀ nd : Int32, f_X6_slot_126 (ms (ms (ms N 0 (fun _ => 0)) 2 (fun _ => e)) 3 (fun _ => N 3 0 + 1)) nd e = if nd ≤ e then f_X6_slot_170 (ms (ms (ms (ms (ms (ms (ms N 0 (fun _ => 0)) 2 (fun _ => e)) 3 (fun _ => N 3 0 + 1)) 2 (fun _ => e - 60)) 9 (fun _ => 0)) 10 (fun _ => 0)) 4 (fun _ => if M 13 2 = 0 then 2 else 1)) else (ms (ms (ms N 0 (fun _ => 0)) 2 (fun _ => e)) 3 (fun _ => N 3 0 + 1), -1) := by
          intro nd
          unfold f_X6_slot_126 f_X6_slot_167
          show (if nd ≤ e then (if N 20 2 = 0 then _ else _) else _) = _
          rw [← y2]
          by_cases q : M 13 2 = 0
          · rw [if_pos q, if_pos q]; rfl
          · rw [if_neg q, if_neg q]; rfl
        have keyo : ∀ nd : Int32, ok_X6_slot_126 (ms (ms (ms N 0 (fun _ => 0)) 2 (fun _ => e)) 3 (fun _ => N 3 0 + 1)) nd e = if nd ≤ e then ok_X6_slot_170 (ms (ms (ms (ms (ms (ms (ms N 0 (fun _ => 0)) 2 (fun _ => e)) 3 (fun _ => N 3 0 + 1)) 2 (fun _ => e - 60)) 9 (fun _ => 0)) 10 (fun _ => 0)) 4 (fun _ => if M 13 2 = 0 then 2 else 1)) else True := by
          intro nd
          unfold ok_X6_slot_126 ok_X6_slot_167
          show (if nd ≤ e then (if N 20 2 = 0 then _ else _) else _) = _
          rw [← y2]
          by_cases q : M 13 2 = 0
          · rw [if_pos q, if_pos q]; rfl
          · rw [if_neg q, if_neg q]; rfl
        have join : (if M 31 t + 60 ≤ 2000 then f_X6_slot_126 (ms (ms (ms N 0 (fun _ => 0)) 2 (fun _ => e)) 3 (fun _ => N 3 0 + 1)) (M 31 t + 60) e else f_X6_slot_126 (ms (ms (ms N 0 (fun _ => 0)) 2 (fun _ => e)) 3 (fun _ => N 3 0 + 1)) 2000 e) = f_X6_slot_126 (ms (ms (ms N 0 (fun _ => 0)) 2 (fun _ => e)) 3 (fun _ => N 3 0 + 1)) (if M 31 t + 60 < 2000 then M 31 t + 60 else 2000) e := by
          rw [mn2]
          by_cases q : M 31 t + 60 ≤ 2000
          · rw [if_pos q, if_pos q]
          · rw [if_neg q, if_neg q]
        have joino : (if M 31 t + 60 ≤ 2000 then ok_X6_slot_126 (ms (ms (ms N 0 (fun _ => 0)) 2 (fun _ => e)) 3 (fun _ => N 3 0 + 1)) (M 31 t + 60) e else ok_X6_slot_126 (ms (ms (ms N 0 (fun _ => 0)) 2 (fun _ => e)) 3 (fun _ => N 3 0 + 1)) 2000 e) = ok_X6_slot_126 (ms (ms (ms N 0 (fun _ => 0)) 2 (fun _ => e)) 3 (fun _ => N 3 0 + 1)) (if M 31 t + 60 < 2000 then M 31 t + 60 else 2000) e := by
          rw [mn2]
          by_cases q : M 31 t + 60 ≤ 2000
          · rw [if_pos q, if_pos q]
          · rw [if_neg q, if_neg q]
        rw [if_pos n5, if_pos n5, need]
        change _ ∧ (vp_in _ 16 ∧ (if M 31 t + 60 ≤ 2000 then ok_X6_slot_126 (ms (ms (ms N 0 (fun _ => 0)) 2 (fun _ => e)) 3 (fun _ => N 3 0 + 1)) (M 31 t + 60) e else ok_X6_slot_126 (ms (ms (ms N 0 (fun _ => 0)) 2 (fun _ => e)) 3 (fun _ => N 3 0 + 1)) 2000 e)) ∧ (if M 31 t + 60 ≤ 2000 then f_X6_slot_126 (ms (ms (ms N 0 (fun _ => 0)) 2 (fun _ => e)) 3 (fun _ => N 3 0 + 1)) (M 31 t + 60) e else f_X6_slot_126 (ms (ms (ms N 0 (fun _ => 0)) 2 (fun _ => e)) 3 (fun _ => N 3 0 + 1)) 2000 e).1 0 0 = 0 ∧ _ = (if M 31 t + 60 ≤ 2000 then f_X6_slot_126 (ms (ms (ms N 0 (fun _ => 0)) 2 (fun _ => e)) 3 (fun _ => N 3 0 + 1)) (M 31 t + 60) e else f_X6_slot_126 (ms (ms (ms N 0 (fun _ => 0)) 2 (fun _ => e)) 3 (fun _ => N 3 0 + 1)) 2000 e).2 ∧ Sim (k + 1) _ (if M 31 t + 60 ≤ 2000 then f_X6_slot_126 (ms (ms (ms N 0 (fun _ => 0)) 2 (fun _ => e)) 3 (fun _ => N 3 0 + 1)) (M 31 t + 60) e else f_X6_slot_126 (ms (ms (ms N 0 (fun _ => 0)) 2 (fun _ => e)) 3 (fun _ => N 3 0 + 1)) 2000 e).1
        rw [join, joino, key, keyo, b1]
        generalize (if M 31 t + 60 < 2000 then M 31 t + 60 else 2000) = nd
        by_cases q : nd ≤ e
        · rw [if_pos q, if_pos q, if_pos q]
          obtain ⟨l1, l2, l3, l4, l5⟩ := loop_end hk (rel_boot h1 p0 c0 p4 (e - 60))
          refine ⟨⟨ob, ?_⟩, ⟨v20, l2⟩, ?_, ?_, ?_⟩
          · unfold bc
            dsimp only
            rw [if_neg d1]; exact l1
          · exact congrFun l3 0
          · unfold bc
            dsimp only
            rw [if_neg d1]; exact l4
          · unfold bc
            dsimp only
            rw [if_neg d1]; exact l5
        · rw [if_neg q, if_neg q, if_neg q]
          refine ⟨⟨ob, ?_⟩, ⟨v20, trivial⟩, rfl, ?_, ?_⟩
          · unfold bc
            dsimp only
            rw [if_pos rfl]; trivial
          · unfold bc
            dsimp only
            rw [if_pos rfl]
          · unfold bc
            dsimp only
            rw [if_pos rfl]
            exact h1.mono (by omega) (Nat.le_refl _)
      · have n5 : ¬ ms N 0 (fun _ => (0 : Int32)) 5 0 = -1 := fun q => p4 (x4.trans q)
        rw [if_neg n5, if_neg n5]
        have b1 : f_X5_boot (ms (ms M 1 (fun _ => e)) 2 (fun _ => M 2 0 + 1)) = (ms (ms M 1 (fun _ => e)) 2 (fun _ => M 2 0 + 1), 0) := by
          unfold f_X5_boot
          rw [if_neg (show ¬ ms (ms M 1 (fun _ => e)) 2 (fun _ => M 2 0 + 1) 4 0 = -1 from p4)]
        rw [b1]
        refine ⟨⟨ob, ?_⟩, ⟨v20, trivial⟩, rfl, ?_, ?_⟩
        · unfold bc
          dsimp only
          rw [if_pos rfl]; trivial
        · unfold bc
          dsimp only
          rw [if_pos rfl]
        · unfold bc
          dsimp only
          rw [if_pos rfl]
          exact h1.mono (by omega) (Nat.le_refl _)
    · have n4 : ¬ ms N 0 (fun _ => (0 : Int32)) 4 0 = 0 := fun q => p0 (x0.trans q)
      rw [if_neg p0, if_neg p0, if_neg n4, if_neg n4]
      obtain ⟨l1, l2, l3, l4, l5⟩ := loop_end hk h1
      exact ⟨l1, l2, by rw [show (ms N 0 fun x => (0 : Int32)) 3 0 = N 3 0 from rfl, l3]; rfl, l4, l5⟩
