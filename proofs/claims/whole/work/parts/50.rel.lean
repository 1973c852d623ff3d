/-! PURE: the relation between the node's memory and the reference's -/
theorem ms_s (M : Mem) (k : Nat) (f : Nat → Int32) : ms M k f k = f := by simp [ms]
theorem ms_n (M : Mem) {k j : Nat} (f : Nat → Int32) (h : j ≠ k) : ms M k f j = M j := by
  have : Nat.beq j k = false := by
    cases hb : Nat.beq j k
    · rfl
    · exact absurd (Nat.eq_of_beq_eq_true hb) h
  simp [ms, this]
theorem upd_id (f : Nat → Int32) (k : Nat) : upd f k (f k) = f := by
  funext j
  by_cases h : j = k
  · subst h; simp [upd]
  · simp [upd, h]
def okW (cl : Nat → Int32) (w i L : Int32) : Prop := f_X1_isFault (fun k => bif Nat.beq k 12 then cl else fun _ => 0) w i L = 0
def Gc (sd : Int32) (cw cl : Nat → Int32) : Prop := (∀ t, t < 16 → ∃ n, n ≤ 32 ∧ cl t = nI n) ∧ (sd = 0 ∨ sd = 1 ∧ ¬ cl 0 = 0 ∧ ∀ t n i, t < 16 → cl t = nI n → n ≤ 32 → i < n → okW cl (cw (32 * t + i)) (nI i) (nI n))
def pz (a : Nat) : Prop := a = 0 ∨ a = 1 ∨ a = 3 ∨ (8 ≤ a ∧ a < 84)
def ve (sd : Int32) (cl : Nat → Int32) (sN a : Nat) (v : Int32) : Prop := (a = 0 → ∃ t, t < 16 ∧ v = nI t ∧ (sd = 1 → ¬ cl t = 0)) ∧ (a = 3 → ∃ d, d ≤ 16 ∧ v = nI (sN + d)) ∧ (a = 56 ∨ a = 62 → ∃ x, x < 4 ∧ v = nI x) ∧ (a = 57 ∨ a = 63 → ∃ x, x ≤ 4 ∧ v = nI x)
def Gk (sd : Int32) (cl w : Nat → Int32) (sN : Nat) : Prop := w 4 = nI sN ∧ ∀ a, pz a → ve sd cl sN a (w a)
def Gl (sd : Int32) (cl w : Nat → Int32) (sN m : Nat) : Prop := m ≤ 40 ∧ ∀ j, j < m → ∃ a, pz a ∧ w (84 + 2 * j) = nI a ∧ ve sd cl sN a (w (85 + 2 * j))
def Gp (n : Nat) (pp po : Nat → Int32) : Prop := n ≤ 38 ∧ (∀ k, k < n → ∃ a, pz a ∧ 3 ≤ a ∧ pp k = nI a ∧ po a = nI (k + 1)) ∧ ∀ a, a < 164 → po a = 0 ∨ ∃ k, k < n ∧ po a = nI (k + 1) ∧ pp k = nI a
def Gw (sd : Int32) (cl : Nat → Int32) (sN n : Nat) (pp pv : Nat → Int32) : Prop := ∀ k, k < n → ∃ a, pz a ∧ pp k = nI a ∧ ve sd cl sN a (pv k)
def Gr (fn : Nat → Int32) (h : Nat) : Prop := ∀ j, j < 64 → (fn j = -1 ∧ h ≤ j) ∨ ∃ q, q < h ∧ h ≤ q + 64 ∧ q % 64 = j ∧ fn j = nI q
def lwd (pp pv : Nat → Int32) (j : Nat) : Int32 := if j % 2 = 0 then pp (j / 2) else pv (j / 2)
/-- scalars that are equal at all times -/
def Re (M N : Mem) : Prop := M 0 0 = N 4 0 ∧ M 1 0 = N 2 0 ∧ M 2 0 = N 3 0 ∧ M 3 0 = N 8 0 ∧ M 4 0 = N 5 0 ∧ M 5 0 = N 6 0 ∧ M 6 0 = N 7 0 ∧ M 7 0 = N 9 0 ∧ M 9 0 = N 10 0 ∧ M 10 0 = N 1 0 ∧ M 26 0 = N 16 0
/-- arrays that are equal at all times -/
def Ra (M N : Mem) : Prop := M 11 = N 18 ∧ M 12 = N 19 ∧ M 13 = N 20 ∧ M 14 = N 21 ∧ M 24 = N 22 ∧ M 31 = N 23 ∧ M 32 = N 24 ∧ M 21 = N 26 ∧ M 22 = N 27 ∧ M 28 = N 28 ∧ M 29 = N 29 ∧ M 30 = N 31
def Rm (T S : Nat) (M : Mem) : Prop := ¬ M 3 0 < 0 ∧ (∃ q, q ≤ S ∧ M 2 0 = nI q) ∧ (∃ q, q ≤ T ∧ M 26 0 = nI q) ∧ (M 4 0 = -1 → ∀ t, t < 16 → M 32 t < 12) ∧ (M 10 0 = 0 → M 13 0 = 0 ∧ M 13 2 = 0)
def Rt (M N : Mem) : Prop := (∀ j, j < 8 → M 25 j = N 25 j) ∧ M 17 0 = N 12 0 ∧ M 20 0 = N 14 0
def Rrun (S sN n : Nat) (M N : Mem) : Prop := Rt M N ∧ M 15 0 = M 13 0 ∧ M 16 0 = N 11 0 ∧ (∃ t x L, t < 16 ∧ M 13 0 = nI t ∧ M 16 0 = nI x ∧ M 12 t = nI L ∧ L ≤ 32 ∧ x < L) ∧ Gw (M 10 0) (M 12) sN n (M 21) (M 22) ∧ ((M 19 0 = 0 ∧ N 13 0 = -1) ∨ (M 19 0 = 1 ∧ N 13 0 = M 18 0 ∧ ∃ q, q ≤ S ∧ N 13 0 = nI q))
def Rcom (sN n : Nat) (M N : Mem) : Prop := Rt M N ∧ M 8 0 = N 15 0 ∧ (∃ t, t < 16 ∧ M 15 0 = nI t) ∧ Gw (M 10 0) (M 12) sN (n + 2) (M 21) (M 22) ∧ ∃ k, k ≤ 3 * (n + 2) + 1 ∧ M 8 0 = nI k ∧ (∀ j, j < k → j < 2 * (n + 2) → M 13 (84 + j) = lwd (M 21) (M 22) j) ∧ (k ≤ 2 * (n + 2) → M 13 2 = 0) ∧ (2 * (n + 2) < k → M 13 2 = nI (n + 2)) ∧ (k ≤ 2 * (n + 2) + 1 → M 15 0 = M 13 0) ∧ (2 * (n + 2) + 1 < k → N 17 0 = M 15 0)
def Rph (S sN n h : Nat) (M N : Mem) : Prop :=
  (M 0 0 = 0 ∧ (M 13 2 = 0 ∨ ∃ m, 0 < m ∧ M 13 2 = nI m ∧ Gl (M 10 0) (M 12) (M 13) sN m)) ∨
  (M 10 0 = 1 ∧ M 4 0 = -1 ∧
    ((M 0 0 = 1 ∧ M 9 0 = 0 ∧ ∃ m r, 0 < m ∧ r ≤ m ∧ M 13 2 = nI m ∧ M 7 0 = nI r ∧ Gl (M 10 0) (M 12) (M 13) sN m) ∨
     (M 0 0 = 2 ∧ M 13 2 = 0 ∧ (M 9 0 = 0 ∨ (M 9 0 = 1 ∧ h = sN + 1 ∧ ¬ M 13 3 = M 13 4))) ∨
     (M 0 0 = 3 ∧ M 13 2 = 0 ∧ M 9 0 = 0 ∧ Rrun S sN n M N) ∨
     (M 0 0 = 4 ∧ M 9 0 = 0 ∧ Rcom sN n M N)))
def Rx (T S sN n h : Nat) (M N : Mem) : Prop := Re M N ∧ Ra M N ∧ Gc (M 10 0) (M 11) (M 12) ∧ (sN ≤ T ∧ Gk (M 10 0) (M 12) (M 13) sN) ∧ (M 20 0 = nI n ∧ Gp n (M 21) (M 23)) ∧ (M 27 0 = nI h ∧ (h = sN ∨ h = sN + 1) ∧ Gr (N 30) h) ∧ Rm T S M
def Rel (T S : Nat) (M N : Mem) : Prop := ∃ sN n h, Rx T S sN n h M N ∧ Rph S sN n h M N
def Sim (k : Nat) (M N : Mem) : Prop := Rel (16 * k) k M N
theorem Rel.mono {T S T2 S2 : Nat} {M N : Mem} (h : Rel T S M N) (h1 : T ≤ T2) (h2 : S ≤ S2) : Rel T2 S2 M N := by
  obtain ⟨sN, n, hh, ⟨e1, e2, e3, ⟨e4, e4'⟩, e5, e6, r1, ⟨q, r2, r2'⟩, ⟨q3, r3, r3'⟩, r4⟩, ph⟩ := h
  refine ⟨sN, n, hh, ⟨e1, e2, e3, ⟨Nat.le_trans e4 h1, e4'⟩, e5, e6, r1, ⟨q, Nat.le_trans r2 h2, r2'⟩, ⟨q3, Nat.le_trans r3 h1, r3'⟩, r4⟩, ?_⟩
  rcases ph with p | ⟨p1, p2, p | p | ⟨p3, p4, p5, p6, p7, p8, p9, p10, p11⟩ | p⟩
  · exact Or.inl p
  · exact Or.inr ⟨p1, p2, Or.inl p⟩
  · exact Or.inr ⟨p1, p2, Or.inr (Or.inl p)⟩
  · refine Or.inr ⟨p1, p2, Or.inr (Or.inr (Or.inl ⟨p3, p4, p5, p6, p7, p8, p9, p10, ?_⟩))⟩
    rcases p11 with p | ⟨a, b, q, c, d⟩
    · exact Or.inl p
    · exact Or.inr ⟨a, b, q, Nat.le_trans c h2, d⟩
  · exact Or.inr ⟨p1, p2, Or.inr (Or.inr (Or.inr p))⟩
theorem Rel.n0 {T S : Nat} {M N : Mem} (h : Rel T S M N) (f : Nat → Int32) : Rel T S M (ms N 0 f) := h
theorem Sim.next {k : Nat} {M N : Mem} (h : Sim k M N) : Sim (k + 1) M N := Rel.mono h (by omega) (by omega)
theorem Sim.next0 {k : Nat} {M N : Mem} (h : Sim k M N) (f : Nat → Int32) : Sim (k + 1) M (ms N 0 f) := (Sim.next h).n0 f
/-- numbers below a bound are in range -/
theorem in_lt {a : Int32} {N : Nat} {b : Int32} (hb : b = nI N) (hN : N < 2 ^ 31) (h0 : ¬ a < 0) (h1 : a < b) : vp_in a N := by
  subst hb
  rw [vp_in_iff]
  rw [Int32.lt_iff_toInt_lt, Int32.toInt_zero] at h0
  rw [Int32.lt_iff_toInt_lt, nI_toInt hN] at h1
  omega
theorem pf_cut_ok : pf_cut Sim := by
  intro k M N hk h a
  obtain ⟨sN, n, hh, ⟨e1, e2, e3, e4, e5, e6, r1, r2⟩, ph⟩ := Sim.next h
  by_cases c1 : a < 0
  · simp only [f_X5_cut, f_X6_cut, if_pos c1]
    exact ⟨trivial, Sim.next0 h _⟩
  · by_cases c2 : a ≤ 10000
    · simp only [f_X5_cut, f_X6_cut, if_neg c1, if_pos c2]
      obtain ⟨x0, x1, x2, x3, x4⟩ := e1
      exact ⟨trivial, sN, n, hh, ⟨⟨x0, x1, x2, rfl, x4⟩, e2, e3, e4, e5, e6, c1, r2⟩, ph⟩
    · simp only [f_X5_cut, f_X6_cut, if_neg c1, if_neg c2]
      exact ⟨trivial, Sim.next0 h _⟩
theorem pf_sense_ok : pf_sense Sim := by
  intro k M N hk h a b
  obtain ⟨sN, n, hh, ⟨e1, e2, e3, e4, e5, e6, r1, r2⟩, ph⟩ := Sim.next h
  by_cases c1 : a < 0
  · simp only [f_X5_sense, f_X6_sense, ok_X5_sense, ok_X6_sense, if_pos c1]
    exact ⟨trivial, trivial, trivial, Sim.next0 h _⟩
  · by_cases c2 : a < 4
    · have c3 : a ≤ 3 := by
        rw [Int32.lt_iff_toInt_lt] at c2
        rw [Int32.le_iff_toInt_le]
        have : (4 : Int32).toInt = 4 := rfl
        have : (3 : Int32).toInt = 3 := rfl
        omega
      simp only [f_X5_sense, f_X6_sense, ok_X5_sense, ok_X6_sense, if_neg c1, if_pos c2, if_pos c3]
      obtain ⟨y0, y1, y2, y3, y4, y5⟩ := e2
      exact ⟨in_lt rfl (by decide) c1 c2, in_lt rfl (by decide) c1 c2, trivial, sN, n, hh, ⟨e1, ⟨y0, y1, y2, y3, congrArg (fun z => upd z a.toNatClampNeg b) y4, y5⟩, e3, e4, e5, e6, r1, r2⟩, ph⟩
    · have c3 : ¬ a ≤ 3 := by
        rw [Int32.lt_iff_toInt_lt] at c2
        rw [Int32.le_iff_toInt_le]
        have : (4 : Int32).toInt = 4 := rfl
        have : (3 : Int32).toInt = 3 := rfl
        omega
      simp only [f_X5_sense, f_X6_sense, ok_X5_sense, ok_X6_sense, if_neg c1, if_neg c2, if_neg c3]
      exact ⟨trivial, trivial, trivial, Sim.next0 h _⟩
