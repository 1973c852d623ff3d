theorem ms_ms (M : Mem) (k : Nat) (f g : Nat → Int32) : ms (ms M k f) k g = ms M k g := by
  funext j
  simp only [ms]
  cases Nat.beq j k <;> rfl
theorem ms_id (M : Mem) (k : Nat) : ms M k (M k) = M := by
  funext j
  by_cases h : j = k
  · subst h; exact ms_s M j _
  · exact ms_n M _ h
def EN (N : Mem) : Mem := ms (ms (ms (ms (ms N 11 (fun _ => (0 : Int32))) 12 (fun _ => (0 : Int32))) 13 (fun _ => (-1 : Int32))) 14 (fun _ => (0 : Int32))) 15 (fun _ => (0 : Int32))
theorem end_loop : ∀ (d j : Nat) (N : Mem), j + d = 8 → ok_X6_endAttempt_2 (d + 1) N (nI j) ∧ ∃ z : Nat → Int32, (∀ i, i < j → z i = N 25 i) ∧ (∀ i, j ≤ i → i < 8 → z i = 0) ∧ f_X6_endAttempt_2 (d + 1) N (nI j) = EN (ms N 25 z) := by
  intro d
  induction d with
  | zero =>
    intro j N h
    have : j = 8 := by omega
    subst this
    have c : (8 : Int32) ≤ nI 8 := by decide
    refine ⟨?_, N 25, fun _ _ => rfl, fun i h1 h2 => by omega, ?_⟩
    · simp only [ok_X6_endAttempt_2, if_pos c]
    · simp only [f_X6_endAttempt_2, if_pos c]
      rw [ms_id]; rfl
  | succ d ih =>
    intro j N h
    have c : ¬ (8 : Int32) ≤ nI j := by
      rw [show (8 : Int32) = nI 8 from rfl, nI_leI (by decide) (by omega)]; omega
    have cj : (nI j).toNatClampNeg = j := nI_clamp (by omega)
    have v : vp_in (nI j) 8 := vp_in_nI (by omega) (by decide)
    obtain ⟨o, z, z1, z2, z3⟩ := ih (j + 1) (ms N 25 (upd (N 25) j 0)) (by omega)
    refine ⟨?_, z, fun i hi => ?_, fun i h1 h2 => ?_, ?_⟩
    · unfold ok_X6_endAttempt_2
      rw [if_neg c, cj, nI_1]
      exact ⟨v, o⟩
    · rw [z1 i (by omega), ms_s, pk_un (by omega)]
    · by_cases e : i = j
      · subst e; rw [z1 i (by omega), ms_s, pk_us]
      · exact z2 i (by omega) h2
    · unfold f_X6_endAttempt_2
      rw [if_neg c, cj, nI_1, z3, ms_ms]
theorem endA (N : Mem) : ok_X6_endAttempt N ∧ ∃ z : Nat → Int32, (∀ i, i < 8 → z i = 0) ∧ f_X6_endAttempt N = EN (ms N 25 z) := by
  obtain ⟨o, z, -, z2, z3⟩ := end_loop 8 0 N rfl
  exact ⟨o, z, fun i h => z2 i (by omega) h, z3⟩
theorem ph_mark {T S sN n h : Nat} {M N : Mem} (hx : Rx T S sN n h M N) (ph : Rph S sN n h M N) : M 13 2 = 0 ∨ ∃ m, 0 < m ∧ M 13 2 = nI m ∧ Gl (M 10 0) (M 12) (M 13) sN m := by
  obtain ⟨-, -, -, -, ⟨-, g1, -⟩, -⟩ := hx
  rcases ph with ⟨-, p⟩ | ⟨-, -, ⟨-, -, m, r, p1, p2, p3, p4, p5⟩ | ⟨-, p, -⟩ | ⟨-, p, -⟩ | ⟨-, -, -, -, -, w, k, k1, k2, k3, k4, k5, -⟩⟩
  · exact p
  · exact Or.inr ⟨m, p1, p3, p5⟩
  · exact Or.inl p
  · exact Or.inl p
  · by_cases e : k ≤ 2 * (n + 2)
    · exact Or.inl (k4 e)
    · refine Or.inr ⟨n + 2, by omega, k5 (by omega), by omega, fun j hj => ?_⟩
      obtain ⟨a, a1, a2, a3⟩ := w j hj
      have e1 := k3 (2 * j) (by omega) (by omega)
      have e2 := k3 (2 * j + 1) (by omega) (by omega)
      simp only [lwd, show 2 * j % 2 = 0 by omega, show 2 * j / 2 = j by omega, show ¬ (2 * j + 1) % 2 = 0 by omega, show (2 * j + 1) / 2 = j by omega, if_true, if_false] at e1 e2
      refine ⟨a, a1, e1.trans a2, ?_⟩
      rw [show 85 + 2 * j = 84 + (2 * j + 1) by omega, e2]
      exact a3
def cv (e s : Int32) : Int32 := if (2 : Int32) * (if e < s then s else e) < (1940 : Int32) then (2 : Int32) * (if e < s then s else e) else (1940 : Int32)
theorem mx_eq (e s : Int32) : (if e < s then s else e) = if e ≤ s then s else e := by
  by_cases h : e < s
  · rw [if_pos h, if_pos (Int32.le_of_lt h)]
  · rw [if_neg h]
    by_cases h2 : e ≤ s
    · rw [if_pos h2]; exact Int32.le_antisymm h2 (Int32.not_lt.mp h)
    · rw [if_neg h2]
theorem mn_eq (x : Int32) : (if x < (1940 : Int32) then x else 1940) = if x ≤ (1940 : Int32) then x else 1940 := by
  by_cases h : x < 1940
  · rw [if_pos h, if_pos (Int32.le_of_lt h)]
  · rw [if_neg h]
    by_cases h2 : x ≤ 1940
    · rw [if_pos h2]; exact (Int32.le_antisymm h2 (Int32.not_lt.mp h)).symm
    · rw [if_neg h2]
theorem cv_eq (e s : Int32) : cv e s = if (2 : Int32) * (if e ≤ s then s else e) ≤ 1940 then (2 : Int32) * (if e ≤ s then s else e) else 1940 := by
  unfold cv; rw [mx_eq, mn_eq]
theorem fail35_eq (N : Mem) : f_X6_fail_35 N = f_X6_fail_102 (ms N 24 (upd (N 24) ((N 20) 0).toNatClampNeg (((N 24) ((N 20) 0).toNatClampNeg) + (1 : Int32)))) ((N 20) 0) (cv ((N 23) ((N 20) 0).toNatClampNeg) (N 12 0)) ((N 20) 0) := by
  unfold f_X6_fail_35 f_X6_fail_78
  rw [cv_eq]
  by_cases h : ((N 23) ((N 20) 0).toNatClampNeg) ≤ (N 12 0)
  · simp only [if_pos h]
    by_cases h2 : (2 : Int32) * (N 12 0) ≤ 1940
    · simp only [if_pos h2]
    · simp only [if_neg h2]
  · simp only [if_neg h]
    by_cases h2 : (2 : Int32) * ((N 23) ((N 20) 0).toNatClampNeg) ≤ 1940
    · simp only [if_pos h2]
    · simp only [if_neg h2]
theorem fail35_ok {N : Mem} (v : vp_in (N 20 0) 16) : ok_X6_fail_35 N := by
  have k : ∀ (M : Mem) (t0 : Int32), ok_X6_fail_102 M (N 20 0) t0 (N 20 0) := fun M t0 => ⟨v, v, by
    by_cases h : (M 24) (N 20 0).toNatClampNeg = 12
    · rw [if_pos h]; exact (endA _).1
    · rw [if_neg h]; exact (endA _).1⟩
  have k2 : ∀ (M : Mem) (t0 : Int32), ok_X6_fail_78 M (N 20 0) t0 := fun M t0 => by
    unfold ok_X6_fail_78
    by_cases h : (2 : Int32) * t0 ≤ 1940
    · rw [if_pos h]; exact k _ _
    · rw [if_neg h]; exact k _ _
  refine ⟨v, v, v, ?_⟩
  by_cases h : ((N 23) ((N 20) 0).toNatClampNeg) ≤ (N 12 0)
  · rw [if_pos h]; exact k2 _ _
  · rw [if_neg h]; exact ⟨v, k2 _ _⟩
theorem lt12 {x : Int32} (h : x < 12) : (x + 1 < 12 ↔ ¬ x + 1 = 12) := by
  rw [Int32.lt_iff_toInt_lt] at h ⊢
  have e12 : (12 : Int32).toInt = 12 := rfl
  have e1 : (1 : Int32).toInt = 1 := rfl
  have b := Int32.le_toInt x
  have e : (x + 1).toInt = x.toInt + 1 := by
    rw [Int32.toInt_add, e1]
    rw [Int.bmod_eq_of_le] <;> omega
  rw [← Int32.toInt_inj, e, e12]
  rw [e12] at h
  omega
/-- what a failure that isn't an attempt's does -/
theorem fail_A {T S sN n h : Nat} {M N : Mem} (hx : Rx T S sN n h M N) (ph : Rph S sN n h M N) (z : Nat → Int32) : Rel T S (f_X5_failPower_32 M) (EN (ms (ms (ms N 6 (fun _ => N 6 0 + 1)) 4 (fun _ => 0)) 25 z)) := by
  have mk := ph_mark hx ph
  obtain ⟨⟨x0, x1, x2, x3, x4, x5, x6, x7, x8, x9, x10⟩, e2, e3, e4, e5, e6, e7⟩ := hx
  exact ⟨sN, n, h, ⟨⟨rfl, x1, x2, x3, x4, congrArg (· + 1) x5, x6, x7, x8, x9, x10⟩, e2, e3, e4, e5, e6, e7⟩, Or.inl ⟨rfl, mk⟩⟩
theorem fail_B {T S sN n h : Nat} {M N : Mem} (hx : Rx T S sN n h M N) (ph : Rph S sN n h M N) (h4 : M 4 0 = -1) (hs : M 17 0 = N 12 0) (t : Nat) (ht : t < 16) (e13 : M 13 0 = nI t) (e15 : M 15 0 = nI t) :
    ok_X5_countFailure M ∧ ok_X6_fail_35 (ms N 6 (fun _ => N 6 0 + 1)) ∧ Rel T S (f_X5_failPower_28 M) (f_X6_fail_35 (ms N 6 (fun _ => N 6 0 + 1))) ∧ f_X6_fail_35 (ms N 6 (fun _ => N 6 0 + 1)) 6 = (fun _ => N 6 0 + 1) ∧ f_X5_failPower_28 M 0 0 = 0 := by
  have mk := ph_mark hx ph
  obtain ⟨⟨x0, x1, x2, x3, x4, x5, x6, x7, x8, x9, x10⟩, ⟨y0, y1, y2, y3, y4, y5, y6, y7⟩, e3, e4, e5, e6, r1, r2, r3, r4, r5⟩ := hx
  have v : vp_in (nI t) 16 := vp_in_nI ht (by decide)
  have ct : (nI t).toNatClampNeg = t := nI_clamp (by omega)
  have n20 : N 20 0 = nI t := by rw [← y2]; exact e13
  have f12 := r4 h4
  have L := lt12 (f12 t ht)
  refine ⟨?_, fail35_ok (N := ms N 6 (fun _ => N 6 0 + 1)) (by show vp_in (N 20 0) 16; rw [n20]; exact v), ?_⟩
  · unfold ok_X5_countFailure
    rw [e15]; exact ⟨v, v, v, v, v⟩
  rw [fail35_eq]
  unfold f_X5_failPower_28 f_X5_failPower_32 f_X5_countFailure f_X6_fail_102 bv
  change Rel T S (ms (ms (ite ((upd (M 32) (M 15 0).toNatClampNeg (((M 32) (M 15 0).toNatClampNeg) + (1 : Int32))) (M 15 0).toNatClampNeg < 12) (ms (ms M 32 (upd (M 32) (M 15 0).toNatClampNeg (((M 32) (M 15 0).toNatClampNeg) + (1 : Int32)))) 31 (upd (M 31) (M 15 0).toNatClampNeg (cv ((M 31) (M 15 0).toNatClampNeg) (M 17 0)))) _) 5 _) 0 _) _ ∧ _
  simp only [show ∀ f : Nat → Int32, ms N 6 f 20 = N 20 from fun _ => rfl, show ∀ f : Nat → Int32, ms N 6 f 24 = N 24 from fun _ => rfl, show ∀ f : Nat → Int32, ms N 6 f 23 = N 23 from fun _ => rfl, show ∀ f : Nat → Int32, ms N 6 f 12 = N 12 from fun _ => rfl, n20, e15, ct, ms_s, pk_us]
  rw [← y6, ← y5, ← hs]
  by_cases c : M 32 t + 1 < 12
  · have c' := L.mp c
    simp only [if_pos c, if_neg c']
    obtain ⟨-, z, -, hz⟩ := endA (ms (ms (ms (ms N 6 fun _ => N 6 0 + 1) 24 (upd (M 32) t (M 32 t + 1))) 23 (upd (ms (ms N 6 fun _ => N 6 0 + 1) 24 (upd (M 32) t (M 32 t + 1)) 23) t (cv (M 31 t) (M 17 0)))) 4 fun _ => 0)
    rw [hz]
    refine ⟨⟨sN, n, h, ⟨⟨rfl, x1, x2, x3, x4, congrArg (· + 1) x5, x6, x7, x8, x9, x10⟩, ⟨y0, y1, y2, y3, y4, ?_, ?_, y7⟩, e3, e4, e5, e6, r1, r2, r3, fun _ t2 ht2 => ?_, r5⟩, Or.inl ⟨rfl, mk⟩⟩, rfl, trivial⟩
    · exact congrArg (fun f => upd f t (cv (M 31 t) (M 17 0))) y5
    · rfl
    · show upd (M 32) t (M 32 t + 1) t2 < 12
      by_cases e : t2 = t
      · subst e; rw [pk_us]; exact c
      · rw [pk_un e]; exact f12 t2 ht2
  · have c' : M 32 t + 1 = 12 := Classical.not_not.mp (fun q => c (L.mpr q))
    simp only [if_neg c, if_pos c']
    obtain ⟨-, z, -, hz⟩ := endA (ms (ms (ms (ms (ms N 6 fun _ => N 6 0 + 1) 24 (upd (M 32) t (M 32 t + 1))) 23 (upd (ms (ms N 6 fun _ => N 6 0 + 1) 24 (upd (M 32) t (M 32 t + 1)) 23) t (cv (M 31 t) (M 17 0)))) 5 fun _ => nI t) 4 fun _ => 0)
    rw [hz]
    refine ⟨⟨sN, n, h, ⟨⟨rfl, x1, x2, x3, rfl, congrArg (· + 1) x5, x6, x7, x8, x9, x10⟩, ⟨y0, y1, y2, y3, y4, ?_, ?_, y7⟩, e3, e4, e5, e6, r1, r2, r3, fun q => ?_, r5⟩, Or.inl ⟨rfl, mk⟩⟩, rfl, trivial⟩
    · exact congrArg (fun f => upd f t (cv (M 31 t) (M 17 0))) y5
    · rfl
    · have q' : nI t = -1 := q
      have := congrArg Int32.toInt q'
      rw [nI_toInt (by omega)] at this
      have z : (-1 : Int32).toInt = -1 := rfl
      omega
theorem fail_sim {T S : Nat} {M N : Mem} (h : Rel T S M N) (h0 : ¬ M 0 0 = 0) : ok_X5_failPower M ∧ ok_X6_fail N ∧ Rel T S (f_X5_failPower M) (f_X6_fail N) ∧ f_X6_fail N 6 0 = N 6 0 + 1 ∧ f_X5_failPower M 0 0 = 0 := by
  obtain ⟨sN, n, h, hx, ph⟩ := h
  have hx' := hx
  have ph' := ph
  obtain ⟨⟨x0, -⟩, ⟨-, -, y2, -⟩, -⟩ := hx'
  have A : ¬ M 0 0 = 3 → (¬ M 0 0 = 4 ∨ ¬ M 13 2 = 0) → ok_X5_failPower M ∧ ok_X6_fail N ∧ Rel T S (f_X5_failPower M) (f_X6_fail N) ∧ f_X6_fail N 6 0 = N 6 0 + 1 ∧ f_X5_failPower M 0 0 = 0 := by
    intro a1 a2
    obtain ⟨o, z, -, hz⟩ := endA (ms (ms N 6 (fun _ => N 6 0 + 1)) 4 (fun _ => 0))
    have e2 : f_X6_fail N = f_X6_endAttempt (ms (ms N 6 (fun _ => N 6 0 + 1)) 4 (fun _ => 0)) := by
      unfold f_X6_fail bv
      rw [← x0, ← y2, if_neg a1]
      rcases a2 with a2 | a2
      · rw [if_neg a2]
      · by_cases q : M 0 0 = 4
        · rw [if_pos q, if_neg a2]
        · rw [if_neg q]
    have e1 : f_X5_failPower M = f_X5_failPower_32 M := by
      unfold f_X5_failPower
      rw [if_neg a1]
      rcases a2 with a2 | a2
      · rw [if_neg a2]
      · by_cases q : M 0 0 = 4
        · rw [if_pos q, if_neg a2]
        · rw [if_neg q]
    have o1 : ok_X5_failPower M := by
      unfold ok_X5_failPower
      rw [if_neg a1]
      rcases a2 with a2 | a2
      · rw [if_neg a2]; trivial
      · by_cases q : M 0 0 = 4
        · rw [if_pos q, if_neg a2]; trivial
        · rw [if_neg q]; trivial
    have o2 : ok_X6_fail N := by
      unfold ok_X6_fail
      rw [← x0, ← y2, if_neg a1]
      rcases a2 with a2 | a2
      · rw [if_neg a2]; exact o
      · by_cases q : M 0 0 = 4
        · rw [if_pos q, if_neg a2]; exact o
        · rw [if_neg q]; exact o
    refine ⟨o1, o2, ?_, ?_, ?_⟩
    · rw [e1, e2, hz]; exact fail_A hx ph z
    · rw [e2, hz]; rfl
    · rw [e1]; rfl
  have B : (M 0 0 = 3 ∨ M 0 0 = 4 ∧ M 13 2 = 0) → ∀ t, M 4 0 = -1 → M 17 0 = N 12 0 → t < 16 → M 13 0 = nI t → M 15 0 = nI t → ok_X5_failPower M ∧ ok_X6_fail N ∧ Rel T S (f_X5_failPower M) (f_X6_fail N) ∧ f_X6_fail N 6 0 = N 6 0 + 1 ∧ f_X5_failPower M 0 0 = 0 := by
    intro a1 t a4 a17 ht a13 a15
    obtain ⟨b1, b2, b3, b4, b5⟩ := fail_B hx ph a4 a17 t ht a13 a15
    have e2 : f_X6_fail N = f_X6_fail_35 (ms N 6 (fun _ => N 6 0 + 1)) := by
      unfold f_X6_fail bv
      rw [← x0, ← y2]
      rcases a1 with a1 | ⟨a1, a2⟩
      · rw [if_pos a1]
      · rw [if_neg (show ¬ M 0 0 = 3 by rw [a1]; decide), if_pos a1, if_pos a2]
    have e1 : f_X5_failPower M = f_X5_failPower_28 M := by
      unfold f_X5_failPower
      rcases a1 with a1 | ⟨a1, a2⟩
      · rw [if_pos a1]
      · rw [if_neg (show ¬ M 0 0 = 3 by rw [a1]; decide), if_pos a1, if_pos a2]
    have o1 : ok_X5_failPower M := by
      unfold ok_X5_failPower
      rcases a1 with a1 | ⟨a1, a2⟩
      · rw [if_pos a1]; exact b1
      · rw [if_neg (show ¬ M 0 0 = 3 by rw [a1]; decide), if_pos a1, if_pos a2]; exact b1
    have o2 : ok_X6_fail N := by
      unfold ok_X6_fail
      rw [← x0, ← y2]
      rcases a1 with a1 | ⟨a1, a2⟩
      · rw [if_pos a1]; exact b2
      · rw [if_neg (show ¬ M 0 0 = 3 by rw [a1]; decide), if_pos a1, if_pos a2]; exact b2
    refine ⟨o1, o2, ?_, ?_, ?_⟩
    · rw [e1, e2]; exact b3
    · rw [e2, b4]
    · rw [e1]; exact b5
  rcases ph' with ⟨p, -⟩ | ⟨-, p4, ⟨p, -⟩ | ⟨p, -⟩ | ⟨p, -, -, ⟨-, r17, -⟩, q15, -, ⟨t, -, -, t1, t2, -⟩, -⟩ | ⟨p, -, ⟨-, r17, -⟩, -, ⟨t, t1, t2⟩, -, k, k1, k2, k3, k4, k5, k6, -⟩⟩
  · exact absurd p h0
  · exact A (by rw [p]; decide) (Or.inl (by rw [p]; decide))
  · exact A (by rw [p]; decide) (Or.inl (by rw [p]; decide))
  · exact B (Or.inl p) t p4 r17 t1 t2 (q15.trans t2)
  · by_cases e : k ≤ 2 * (n + 2)
    · exact B (Or.inr ⟨p, k4 e⟩) t p4 r17 t1 ((k6 (by omega)).symm.trans t2) t2
    · refine A (by rw [p]; decide) (Or.inr ?_)
      rw [k5 (by omega)]
      obtain ⟨-, -, -, -, ⟨-, g1, -⟩, -⟩ := hx
      rw [show (0 : Int32) = nI 0 from rfl, nI_eq (by omega) (by decide)]
      omega
