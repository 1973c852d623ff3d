def Pd (sd : Int32) (cl : Nat → Int32) (sN n : Nat) (M N : Mem) : Prop := M 13 = N 20 ∧ M 21 = N 26 ∧ M 22 = N 27 ∧ M 20 0 = nI n ∧ N 14 0 = nI n ∧ Gp n (M 21) (M 23) ∧ Gk sd cl (M 13) sN ∧ Gw sd cl sN n (M 21) (M 22)
theorem place_loop {n a : Nat} {N : Mem} (hn : n ≤ 38) (hN : N 14 0 = nI n) : ∀ (f j : Nat), n + 1 ≤ f + j → j ≤ n → (∀ i, i < j → ¬ N 26 i = nI a) → ok_X6_place_2 f N (nI a) (nI j) ∧ ((f_X6_place_2 f N (nI a) (nI j) = -1 ∧ ∀ i, i < n → ¬ N 26 i = nI a) ∨ ∃ k, k < n ∧ f_X6_place_2 f N (nI a) (nI j) = nI k ∧ N 26 k = nI a) := by
  intro f
  induction f with
  | zero => intro j h1 h2; omega
  | succ f ih =>
    intro j h1 h2 h3
    unfold ok_X6_place_2 f_X6_place_2
    rw [hN]
    by_cases e : j = n
    · subst e
      have c : nI j ≤ nI j := nI_le (Nat.le_refl _) (by omega)
      rw [if_pos c, if_pos c]
      exact ⟨trivial, Or.inl ⟨rfl, h3⟩⟩
    · have c : ¬ nI n ≤ nI j := by rw [nI_leI (by omega) (by omega)]; omega
      have cj : (nI j).toNatClampNeg = j := nI_clamp (by omega)
      have v : vp_in (nI j) 40 := vp_in_nI (by omega) (by decide)
      rw [if_neg c, if_neg c, cj]
      by_cases q : N 26 j = nI a
      · rw [if_pos q, if_pos q]
        exact ⟨⟨v, trivial⟩, Or.inr ⟨j, by omega, rfl, q⟩⟩
      · rw [if_neg q, if_neg q, nI_1]
        obtain ⟨o, r⟩ := ih (j + 1) (by omega) (by omega) (fun i hi => by
          by_cases e2 : i = j
          · subst e2; exact q
          · exact h3 i (by omega))
        exact ⟨⟨v, o⟩, r⟩
theorem nm1 {k : Nat} (h : k < 2 ^ 31) : ¬ nI k = -1 := fun e => by
  have := congrArg Int32.toInt e
  rw [nI_toInt h] at this
  have z : (-1 : Int32).toInt = -1 := rfl
  omega
theorem pl {sd : Int32} {cl : Nat → Int32} {sN n : Nat} {M N : Mem} (h : Pd sd cl sN n M N) {a : Nat} (ha : a < 164) : ok_X6_place N (nI a) ∧ ((M 23 a = 0 ∧ f_X6_place N (nI a) = -1) ∨ ∃ k, k < n ∧ M 23 a = nI (k + 1) ∧ M 21 k = nI a ∧ f_X6_place N (nI a) = nI k) := by
  obtain ⟨h1, h2, h3, h4, h5, ⟨g1, g2, g3⟩, h7, h8⟩ := h
  obtain ⟨o, r⟩ := place_loop (a := a) g1 h5 41 0 (by omega) (by omega) (fun i hi => by omega)
  refine ⟨o, ?_⟩
  rcases r with ⟨r1, r2⟩ | ⟨k, k1, k2, k3⟩
  · refine Or.inl ⟨?_, r1⟩
    rcases g3 a ha with q | ⟨k, k1, k2, k3⟩
    · exact q
    · rw [h2] at k3; exact absurd k3 (r2 k k1)
  · refine Or.inr ⟨k, k1, ?_, by rw [h2]; exact k3, k2⟩
    obtain ⟨b, b1, b2, b3, b4⟩ := g2 k k1
    rw [h2, k3] at b3
    have := pz_lt b1
    have e : a = b := (nI_eq (by omega) (by omega)).mp b3
    subst e; exact b4
theorem rd {sd : Int32} {cl : Nat → Int32} {sN n : Nat} {M N : Mem} (h : Pd sd cl sN n M N) {a : Nat} (ha : pz a) : ok_X2_read M (nI a) ∧ ok_X6_see N (nI a) ∧ f_X6_see N (nI a) = f_X2_read M (nI a) ∧ ve sd cl sN a (f_X2_read M (nI a)) := by
  have hl := pz_lt ha
  obtain ⟨o, r⟩ := pl h hl
  obtain ⟨h1, h2, h3, h4, h5, ⟨g1, g2, g3⟩, h7, h8⟩ := h
  have ca : (nI a).toNatClampNeg = a := nI_clamp (by omega)
  have va : vp_in (nI a) 164 := vp_in_nI hl (by decide)
  unfold ok_X2_read ok_X6_see f_X6_see f_X2_read
  rw [ca]
  rcases r with ⟨r1, r2⟩ | ⟨k, k1, k2, k3, k4⟩
  · have c : M 23 a - 1 < 0 := by rw [r1]; decide
    rw [if_pos c, if_pos c, if_pos r2, if_pos r2, h1]
    exact ⟨⟨va, va⟩, ⟨o, va⟩, rfl, by rw [← h1]; exact h7.2 a ha⟩
  · have e : M 23 a - 1 = nI k := by rw [k2, show (1 : Int32) = nI 1 from rfl, pk_sub (by omega)]; rfl
    have c : ¬ M 23 a - 1 < 0 := by rw [e, show (0 : Int32) = nI 0 from rfl, nI_ltI (by omega) (by decide)]; omega
    have vk : vp_in (nI k) 40 := vp_in_nI (by omega) (by decide)
    have ck : (nI k).toNatClampNeg = k := nI_clamp (by omega)
    have n1 : ¬ nI k = -1 := nm1 (by omega)
    rw [if_neg c, if_neg c, k4, if_neg n1, if_neg n1, e, ck, ← h3]
    refine ⟨⟨va, vk⟩, ⟨o, vk⟩, rfl, ?_⟩
    obtain ⟨b, b1, b2, b3⟩ := h8 k k1
    rw [k3] at b2
    have := pz_lt b1
    have e : a = b := (nI_eq (by omega) (by omega)).mp b2
    subst e; exact b3
theorem proom1 {sd : Int32} {cl : Nat → Int32} {sN n : Nat} {M N : Mem} (h : Pd sd cl sN n M N) {a : Nat} (ha : a < 164) : ok_X2_hasRoomFor M (nI a) ∧ ok_X6_hasRoom N (nI a) (nI a) ∧ f_X6_hasRoom N (nI a) (nI a) = f_X2_hasRoomFor M (nI a) ∧ (¬ f_X2_hasRoomFor M (nI a) = 0 → ¬ M 23 a = 0 ∨ n < 38) := by
  obtain ⟨o, r⟩ := pl h ha
  obtain ⟨h1, h2, h3, h4, h5, ⟨g1, g2, g3⟩, h7, h8⟩ := h
  have ca : (nI a).toNatClampNeg = a := nI_clamp (by omega)
  have va : vp_in (nI a) 164 := vp_in_nI ha (by decide)
  unfold ok_X2_hasRoomFor ok_X6_hasRoom f_X6_hasRoom f_X2_hasRoomFor ok_X6_hasRoom_14 f_X6_hasRoom_14 f_X6_hasRoom_32
  simp only [if_true, ca, h4, h5]
  rcases r with ⟨r1, r2⟩ | ⟨k, k1, k2, k3, k4⟩
  · simp only [if_pos r1, if_pos r2]
    refine ⟨va, ⟨o, trivial⟩, ?_⟩
    by_cases c : n < 38
    · rw [nI_1, if_neg (show ¬ (38 : Int32) < nI (n + 1) by rw [show (38 : Int32) = nI 38 from rfl, nI_ltI (by decide) (by omega)]; omega), if_neg (show ¬ (38 : Int32) ≤ nI n by rw [show (38 : Int32) = nI 38 from rfl, nI_leI (by decide) (by omega)]; omega)]
      exact ⟨rfl, fun _ => Or.inr c⟩
    · rw [nI_1, if_pos (show (38 : Int32) < nI (n + 1) by rw [show (38 : Int32) = nI 38 from rfl, nI_ltI (by decide) (by omega)]; omega), if_pos (show (38 : Int32) ≤ nI n by rw [show (38 : Int32) = nI 38 from rfl, nI_leI (by decide) (by omega)]; omega)]
      exact ⟨rfl, fun q => absurd rfl q⟩
  · have n1 : ¬ f_X6_place N (nI a) = -1 := by rw [k4]; exact nm1 (by omega)
    have n0 : ¬ M 23 a = 0 := by rw [k2, show (0 : Int32) = nI 0 from rfl, nI_eq (by omega) (by decide)]; omega
    simp only [if_neg n1, if_neg n0]
    refine ⟨va, ⟨o, trivial⟩, ?_, fun _ => Or.inl n0⟩
    rw [show nI n + 0 = nI n from nI_add n 0, if_neg (show ¬ (38 : Int32) < nI n by rw [show (38 : Int32) = nI 38 from rfl, nI_ltI (by decide) (by omega)]; omega)]
def fr (M : Mem) (a : Nat) : Nat := if M 23 a = 0 then 1 else 0
theorem proom2 {sd : Int32} {cl : Nat → Int32} {sN n : Nat} {M N : Mem} (h : Pd sd cl sN n M N) {a b : Nat} (ha : a < 164) (hb : b < 164) (hab : a ≠ b) : ok_X2_hasRoomForBoth M (nI a) (nI b) ∧ ok_X6_hasRoom N (nI a) (nI b) ∧ f_X6_hasRoom N (nI a) (nI b) = f_X2_hasRoomForBoth M (nI a) (nI b) ∧ (¬ f_X2_hasRoomForBoth M (nI a) (nI b) = 0 → n + fr M a + fr M b ≤ 38) := by
  obtain ⟨oa, ra⟩ := pl h ha
  obtain ⟨ob, rb⟩ := pl h hb
  obtain ⟨h1, h2, h3, h4, h5, ⟨g1, g2, g3⟩, h7, h8⟩ := h
  have ca : (nI a).toNatClampNeg = a := nI_clamp (by omega)
  have cb : (nI b).toNatClampNeg = b := nI_clamp (by omega)
  have va : vp_in (nI a) 164 := vp_in_nI ha (by decide)
  have vb : vp_in (nI b) 164 := vp_in_nI hb (by decide)
  have ne : ¬ nI b = nI a := by rw [nI_eq (by omega) (by omega)]; omega
  have K : ∀ m : Nat, m ≤ 2 → (((38 : Int32) < nI n + nI m) ↔ 38 < n + m) := fun m hm => by
    rw [nI_add, show (38 : Int32) = nI 38 from rfl, nI_ltI (by decide) (by omega)]
  have K0 := K 0 (by decide)
  have K1 := K 1 (by decide)
  have K2 := K 2 (by decide)
  rw [show nI 0 = 0 from rfl] at K0
  rw [show nI 1 = 1 from rfl] at K1
  rw [show nI 2 = 2 from rfl] at K2
  have d11 : (1 : Int32) + 1 = 2 := by decide
  have d10 : (1 : Int32) + 0 = 1 := by decide
  have d01 : (0 : Int32) + 1 = 1 := by decide
  have d00 : (0 : Int32) + 0 = 0 := by decide
  unfold ok_X2_hasRoomForBoth ok_X6_hasRoom f_X6_hasRoom f_X2_hasRoomForBoth ok_X6_hasRoom_14 f_X6_hasRoom_14 f_X6_hasRoom_32 ok_X2_hasRoomForBoth_14 f_X2_hasRoomForBoth_14 f_X2_hasRoomForBoth_28 fr
  simp only [if_neg ne, ca, cb, h4, h5]
  have A : (M 23 a = 0 ∧ f_X6_place N (nI a) = -1) ∨ (¬ M 23 a = 0 ∧ ¬ f_X6_place N (nI a) = -1) := by
    rcases ra with r | ⟨k, k1, k2, k3, k4⟩
    · exact Or.inl r
    · exact Or.inr ⟨by rw [k2, show (0 : Int32) = nI 0 from rfl, nI_eq (by omega) (by decide)]; omega, by rw [k4]; exact nm1 (by omega)⟩
  have B : (M 23 b = 0 ∧ f_X6_place N (nI b) = -1) ∨ (¬ M 23 b = 0 ∧ ¬ f_X6_place N (nI b) = -1) := by
    rcases rb with r | ⟨k, k1, k2, k3, k4⟩
    · exact Or.inl r
    · exact Or.inr ⟨by rw [k2, show (0 : Int32) = nI 0 from rfl, nI_eq (by omega) (by decide)]; omega, by rw [k4]; exact nm1 (by omega)⟩
  have fin : ∀ (c : Prop) [Decidable c] (m : Nat), (c ↔ 38 < m) → (¬ (if c then (0 : Int32) else 1) = 0 → m ≤ 38) := fun c _ m hc q => by
    by_cases e : c
    · rw [if_pos e] at q; exact absurd rfl q
    · exact Nat.le_of_not_lt (fun z => e (hc.mpr z))
  rcases A with ⟨a1, a2⟩ | ⟨a1, a2⟩ <;> rcases B with ⟨b1, b2⟩ | ⟨b1, b2⟩
  · simp only [if_pos a1, if_pos a2, if_pos b1, if_pos b2, d11]
    exact ⟨⟨va, vb⟩, ⟨oa, ob⟩, trivial, fin _ _ K2⟩
  · simp only [if_pos a1, if_pos a2, if_neg b1, if_neg b2, d10]
    exact ⟨⟨va, vb⟩, ⟨oa, ob⟩, trivial, fin _ _ K1⟩
  · simp only [if_neg a1, if_neg a2, if_pos b1, if_pos b2, d01]
    exact ⟨⟨va, vb⟩, ⟨oa, ob⟩, trivial, fin _ _ K1⟩
  · simp only [if_neg a1, if_neg a2, if_neg b1, if_neg b2, d00]
    exact ⟨⟨va, vb⟩, ⟨oa, ob⟩, trivial, fin _ _ K0⟩
/-- what a pending write leaves as it was -/
def FrM (M M' : Mem) : Prop := ∀ k, k ≠ 20 → k ≠ 21 → k ≠ 22 → k ≠ 23 → M' k = M k
def FrN (N N' : Mem) : Prop := ∀ k, k ≠ 14 → k ≠ 26 → k ≠ 27 → N' k = N k
theorem pw {sd : Int32} {cl : Nat → Int32} {sN n : Nat} {M N : Mem} (h : Pd sd cl sN n M N) {a : Nat} (ha : pz a) (h3a : 3 ≤ a) {v : Int32} (hv : ve sd cl sN a v) (hroom : ¬ M 23 a = 0 ∨ n < 38) :
    ok_X2_write M (nI a) v ∧ ok_X6_put N (nI a) v ∧ Pd sd cl sN (n + fr M a) (f_X2_write M (nI a) v) (f_X6_put N (nI a) v) ∧ FrM M (f_X2_write M (nI a) v) ∧ FrN N (f_X6_put N (nI a) v) ∧ (∀ b, b < 164 → b ≠ a → fr (f_X2_write M (nI a) v) b = fr M b ∧ f_X2_read (f_X2_write M (nI a) v) (nI b) = f_X2_read M (nI b)) := by
  have hl := pz_lt ha
  obtain ⟨o, r⟩ := pl h hl
  obtain ⟨h1, h2, h3, h4, h5, ⟨g1, g2, g3⟩, h7, h8⟩ := h
  have ca : (nI a).toNatClampNeg = a := nI_clamp (by omega)
  have va : vp_in (nI a) 164 := vp_in_nI hl (by decide)
  have cn : (nI n).toNatClampNeg = n := nI_clamp (by omega)
  rcases r with ⟨r1, r2⟩ | ⟨k, k1, k2, k3, k4⟩
  · have hn : n < 38 := by
      rcases hroom with q | q
      · exact absurd r1 q
      · exact q
    have e1 : nI (n + 1) - 1 = nI n := by rw [show (1 : Int32) = nI 1 from rfl, pk_sub (by omega)]; rfl
    have vn : vp_in (nI n) 40 := vp_in_nI (by omega) (by decide)
    have eM : f_X2_write M (nI a) v = ms (ms (ms (ms M 21 (upd (M 21) n (nI a))) 20 (fun _ => nI (n + 1))) 23 (upd (M 23) a (nI (n + 1)))) 22 (upd (M 22) n v) := by
      unfold f_X2_write f_X2_write_39
      simp only [ca, if_pos r1, h4, cn, nI_1, ms_s, pk_us, e1]
      rfl
    have eN : f_X6_put N (nI a) v = ms (ms (ms N 14 (fun _ => nI (n + 1))) 26 (upd (N 26) n (nI a))) 27 (upd (N 27) n v) := by
      unfold f_X6_put
      simp only [if_pos r2, h5, cn, nI_1]
    have oM : ok_X2_write M (nI a) v := by
      unfold ok_X2_write ok_X2_write_39
      simp only [ca, if_pos r1, h4, cn, nI_1, ms_s, pk_us, e1]
      exact ⟨va, vn, va, va, vn⟩
    have oN : ok_X6_put N (nI a) v := by
      unfold ok_X6_put
      simp only [if_pos r2, h5]
      exact ⟨o, vn, vn⟩
    refine ⟨oM, oN, ?_⟩
    rw [eM, eN, show fr M a = 1 from if_pos r1]
    refine ⟨⟨h1, congrArg (fun f => upd f n (nI a)) h2, congrArg (fun f => upd f n v) h3, rfl, rfl, ⟨by omega, fun k hk => ?_, fun b hb => ?_⟩, h7, fun k hk => ?_⟩, fun k q1 q2 q3 q4 => ?_, fun k q1 q2 q3 => ?_, fun b hb hne => ⟨?_, ?_⟩⟩
    · show ∃ a', pz a' ∧ 3 ≤ a' ∧ upd (M 21) n (nI a) k = nI a' ∧ upd (M 23) a (nI (n + 1)) a' = nI (k + 1)
      by_cases e : k = n
      · subst e
        exact ⟨a, ha, h3a, pk_us, pk_us⟩
      · obtain ⟨b, b1, b2, b3, b4⟩ := g2 k (by omega)
        refine ⟨b, b1, b2, by rw [pk_un e]; exact b3, ?_⟩
        rw [pk_un (fun q => by
          subst q
          rw [r1, show (0 : Int32) = nI 0 from rfl, nI_eq (by decide) (by omega)] at b4
          omega)]
        exact b4
    · show upd (M 23) a (nI (n + 1)) b = 0 ∨ ∃ k, k < n + 1 ∧ upd (M 23) a (nI (n + 1)) b = nI (k + 1) ∧ upd (M 21) n (nI a) k = nI b
      by_cases e : b = a
      · subst e
        exact Or.inr ⟨n, by omega, pk_us, pk_us⟩
      · rw [pk_un e]
        rcases g3 b hb with q | ⟨k, k1, k2, k3⟩
        · exact Or.inl q
        · exact Or.inr ⟨k, by omega, k2, by rw [pk_un (by omega)]; exact k3⟩
    · show ∃ a', pz a' ∧ upd (M 21) n (nI a) k = nI a' ∧ ve sd cl sN a' (upd (M 22) n v k)
      by_cases e : k = n
      · subst e
        exact ⟨a, ha, pk_us, by rw [pk_us]; exact hv⟩
      · rw [pk_un e, pk_un e]
        exact h8 k (by omega)
    · rw [ms_n _ _ q3, ms_n _ _ q4, ms_n _ _ q1, ms_n _ _ q2]
    · rw [ms_n _ _ q3, ms_n _ _ q2, ms_n _ _ q1]
    · show (if upd (M 23) a (nI (n + 1)) b = 0 then 1 else 0) = fr M b
      rw [pk_un hne]; rfl
    · have cb : (nI b).toNatClampNeg = b := nI_clamp (by omega)
      unfold f_X2_read
      rw [cb]
      show (if upd (M 23) a (nI (n + 1)) b - 1 < 0 then M 13 b else upd (M 22) n v (upd (M 23) a (nI (n + 1)) b - 1).toNatClampNeg) = _
      rw [pk_un hne]
      rcases g3 b hb with q | ⟨k, k1, k2, k3⟩
      · have c : M 23 b - 1 < 0 := by rw [q]; decide
        rw [if_pos c, if_pos c]
      · have e : M 23 b - 1 = nI k := by rw [k2, show (1 : Int32) = nI 1 from rfl, pk_sub (by omega)]; rfl
        have ck : (nI k).toNatClampNeg = k := nI_clamp (by omega)
        rw [e, ck, pk_un (by omega)]
  · have n0 : ¬ M 23 a = 0 := by rw [k2, show (0 : Int32) = nI 0 from rfl, nI_eq (by omega) (by decide)]; omega
    have n1 : ¬ nI k = -1 := nm1 (by omega)
    have e1 : nI (k + 1) - 1 = nI k := by rw [show (1 : Int32) = nI 1 from rfl, pk_sub (by omega)]; rfl
    have vk : vp_in (nI k) 40 := vp_in_nI (by omega) (by decide)
    have ck : (nI k).toNatClampNeg = k := nI_clamp (by omega)
    have eM : f_X2_write M (nI a) v = ms M 22 (upd (M 22) k v) := by
      unfold f_X2_write f_X2_write_39
      simp only [ca, if_neg n0]
      rw [k2, e1, ck]
    have eN : f_X6_put N (nI a) v = ms N 27 (upd (N 27) k v) := by
      unfold f_X6_put
      simp only [k4, if_neg n1, ck]
    have oM : ok_X2_write M (nI a) v := by
      unfold ok_X2_write ok_X2_write_39
      simp only [ca, if_neg n0]
      rw [k2, e1]
      exact ⟨va, va, vk⟩
    have oN : ok_X6_put N (nI a) v := by
      unfold ok_X6_put
      rw [k4, if_neg n1]
      exact ⟨o, vk⟩
    refine ⟨oM, oN, ?_⟩
    rw [eM, eN, show fr M a = 0 from if_neg n0]
    refine ⟨⟨h1, h2, congrArg (fun f => upd f k v) h3, h4, h5, ⟨g1, g2, g3⟩, h7, fun j hj => ?_⟩, fun k q1 q2 q3 q4 => ?_, fun k q1 q2 q3 => ?_, fun b hb hne => ⟨rfl, ?_⟩⟩
    · show ∃ a', pz a' ∧ M 21 j = nI a' ∧ ve sd cl sN a' (upd (M 22) k v j)
      by_cases e : j = k
      · subst e
        exact ⟨a, ha, k3, by rw [pk_us]; exact hv⟩
      · rw [pk_un e]
        exact h8 j hj
    · rw [ms_n _ _ q3]
    · rw [ms_n _ _ q3]
    · have cb : (nI b).toNatClampNeg = b := nI_clamp (by omega)
      unfold f_X2_read
      rw [cb]
      show (if M 23 b - 1 < 0 then M 13 b else upd (M 22) k v (M 23 b - 1).toNatClampNeg) = _
      rcases g3 b hb with q | ⟨i, i1, i2, i3⟩
      · have c : M 23 b - 1 < 0 := by rw [q]; decide
        rw [if_pos c, if_pos c]
      · have e : M 23 b - 1 = nI i := by rw [i2, show (1 : Int32) = nI 1 from rfl, pk_sub (by omega)]; rfl
        have ci : (nI i).toNatClampNeg = i := nI_clamp (by omega)
        have ne : i ≠ k := fun q => by
          subst q
          rw [k3] at i3
          exact hne ((nI_eq (by omega) (by omega)).mp i3).symm
        rw [e, ci, pk_un ne]
