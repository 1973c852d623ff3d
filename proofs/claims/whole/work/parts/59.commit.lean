theorem com_do {T S : Nat} {M N : Mem} (hr : Rel T S M N) (h4 : M 0 0 = 4) : ok_X5_doCommitStep M ∧ og_com N ∧ Rel T S (f_X5_doCommitStep M) (g_com N) ∧ g_com N 6 0 = N 6 0 ∧ ¬ f_X5_doCommitStep M 0 0 = 0 := by
  obtain ⟨sN, n, h, hx, ph⟩ := hr
  have hx' := hx
  obtain ⟨⟨x0, x1, x2, x3, x4, x5, x6, x7, x8, x9, x10⟩, ⟨y0, y1, y2, y3, y4, y5, y6, y7, y8, y9, y10, y11⟩, e3, ⟨e4, e4'⟩, ⟨e5, e5'⟩, e6, r1, r2, r3, r4, r5⟩ := hx'
  have p : M 10 0 = 1 ∧ M 4 0 = -1 ∧ M 9 0 = 0 ∧ Rcom sN n M N := by
    rcases ph with ⟨p, -⟩ | ⟨p1, p2, ⟨p, -⟩ | ⟨p, -⟩ | ⟨p, -⟩ | ⟨p, p3⟩⟩
    · rw [p] at h4; exact absurd h4 (by decide)
    · rw [p] at h4; exact absurd h4 (by decide)
    · rw [p] at h4; exact absurd h4 (by decide)
    · rw [p] at h4; exact absurd h4 (by decide)
    · exact ⟨p1, p2, p3⟩
  obtain ⟨p10, p4, p9, ⟨R1, R2, R3⟩, R4, ⟨t, t1, t2⟩, R5, k, k1, k2, k3, k4, k5, k6, k7⟩ := p
  have n38 := e5'.1
  have hEM : M 20 0 + 2 = nI (n + 2) := by rw [e5]; exact nI_add n 2
  have hEN : N 14 0 + 2 = nI (n + 2) := by rw [← R3]; exact hEM
  have h2E : (2 : Int32) * nI (n + 2) = nI (2 * (n + 2)) := pk_mul 2 _
  have h3E : (3 : Int32) * nI (n + 2) = nI (3 * (n + 2)) := pk_mul 3 _
  have n15 : N 15 0 = nI k := by rw [← R4]; exact k2
  have c2E : (nI (2 * (n + 2)) ≤ nI k) ↔ 2 * (n + 2) ≤ k := nI_leI (by omega) (by omega)
  have q2E : (nI k = nI (2 * (n + 2))) ↔ k = 2 * (n + 2) := nI_eq (by omega) (by omega)
  have c3E : (nI (3 * (n + 2)) < nI k) ↔ 3 * (n + 2) < k := nI_ltI (by omega) (by omega)
  have ct : (nI t).toNatClampNeg = t := nI_clamp (by omega)
  have vt : vp_in (nI t) 16 := vp_in_nI t1 (by decide)
  by_cases d1 : 2 * (n + 2) ≤ k
  · by_cases d2 : k = 2 * (n + 2)
    · -- the mark
      obtain ⟨a1, a2⟩ := w4 M (a := 2) (by decide) (nI (n + 2))
      obtain ⟨b1, b2⟩ := w6 (ms N 15 (fun _ => nI (k + 1))) (a := 2) (by decide) (nI (n + 2))
      have eM : f_X5_doCommitStep M = ms (xwM M 2 (nI (n + 2))) 8 (fun _ => nI k + 1) := by
        unfold f_X5_doCommitStep f_X2_entries bv
        simp only [hEM, k2, h2E, c2E, q2E, if_pos d1, if_pos d2]
        rw [show (2 : Int32) = nI 2 from rfl, a2]
        show ms (xwM M 2 (nI (n + 2))) 8 (fun _ => M 8 0 + 1) = _
        rw [k2]
      have eN : g_com N = xwN (ms N 15 (fun _ => nI (k + 1))) 2 (nI (n + 2)) := by
        unfold g_com bv
        simp only [hEN, n15, h2E, c2E, q2E, if_pos d1, if_pos d2, nI_1]
        exact b2
      refine ⟨?_, ?_, ?_⟩
      · unfold ok_X5_doCommitStep f_X2_entries
        simp only [hEM, k2, h2E, c2E, q2E, if_pos d1, if_pos d2]
        exact a1
      · unfold og_com
        simp only [hEN, n15, h2E, c2E, q2E, if_pos d1, if_pos d2, nI_1]
        exact b1
      · rw [eM, eN]
        have W := rx_w hx p10 2 (nI (n + 2)) (Gk_n _ e4' npz2 (by decide))
        refine ⟨⟨sN, n, h, W, Or.inr ⟨p10, p4, Or.inr (Or.inr (Or.inr ⟨h4, p9, ⟨R1, R2, R3⟩, nI_1 k, ⟨t, t1, t2⟩, R5, k + 1, by omega, nI_1 k, fun j j1 j2 => ?_, fun j1 => by omega, fun _ => rfl, fun _ => k6 (by omega), fun j1 => by omega⟩))⟩⟩, rfl, ?_⟩
        · show upd (M 13) 2 (nI (n + 2)) (84 + j) = lwd (M 21) (M 22) j
          rw [pk_un (by omega)]
          exact k3 j (by omega) j2
        · show ¬ M 0 0 = 0
          rw [h4]; decide
    · have eb : nI k - nI (2 * (n + 2)) - 1 = nI (k - 2 * (n + 2) - 1) := by
        rw [pk_sub d1, show (1 : Int32) = nI 1 from rfl, pk_sub (by omega)]
      by_cases d3 : 3 * (n + 2) < k
      · -- the end
        have d3' : nI (n + 2) ≤ nI (k - 2 * (n + 2) - 1) := nI_le (by omega) (by omega)
        obtain ⟨a1, a2⟩ := w4 M (a := 2) (by decide) 0
        obtain ⟨b1, b2⟩ := w6 (ms N 15 (fun _ => nI (k + 1))) (a := 2) (by decide) 0
        rw [show nI 2 = 2 from rfl] at a1 a2 b1 b2
        have n17 : N 17 0 = nI t := by rw [k7 (by omega)]; exact t2
        have eM : f_X5_doCommitStep M = ms (ms (ms (ms (xwM M 2 0) 31 (upd (M 31) t (if M 31 t < M 17 0 then M 17 0 else M 31 t))) 32 (upd (M 32) t 0)) 0 (fun _ => 2)) 8 (fun _ => nI k + 1) := by
          unfold f_X5_doCommitStep f_X2_entries bv
          simp only [hEM, k2, h2E, c2E, q2E, if_pos d1, if_neg d2, eb, if_pos d3']
          rw [a2]
          unfold f_X5_finishAttempt
          simp only [show ∀ q : Nat, xwM M 2 0 15 q = M 15 q from fun _ => rfl, t2, ct]
          show ms (ms (ms (ms (xwM M 2 0) 31 (upd (M 31) t (if M 31 t < M 17 0 then M 17 0 else M 31 t))) 32 (upd (M 32) t 0)) 0 (fun _ => 2)) 8 (fun _ => M 8 0 + 1) = _
          rw [k2]
        have key : ∃ z : Nat → Int32, g_com N = EN (ms (ms (ms (ms (ms (xwN (ms N 15 (fun _ => nI (k + 1))) 2 0) 23 (upd (N 23) t (if M 31 t < M 17 0 then M 17 0 else M 31 t))) 24 (upd (N 24) t 0)) 4 (fun _ => 2)) 10 (fun _ => 0)) 25 z) := by
          unfold g_com bv
          simp only [hEN, n15, h2E, c2E, q2E, if_pos d1, if_neg d2, h3E, c3E, if_pos d3, nI_1]
          rw [b2]
          unfold f_X6_commitOne_180 bv
          simp only [show ∀ q : Nat, xwN (ms N 15 (fun _ => nI (k + 1))) 2 0 17 q = N 17 q from fun _ => rfl, show ∀ q : Nat, xwN (ms N 15 (fun _ => nI (k + 1))) 2 0 12 q = N 12 q from fun _ => rfl, show xwN (ms N 15 (fun _ => nI (k + 1))) 2 0 23 = N 23 from rfl, show xwN (ms N 15 (fun _ => nI (k + 1))) 2 0 24 = N 24 from rfl, show ∀ (q : Nat) (f : Nat → Int32), ms (xwN (ms N 15 (fun _ => nI (k + 1))) 2 0) 23 f 17 q = N 17 q from fun _ _ => rfl, show ∀ f : Nat → Int32, ms (xwN (ms N 15 (fun _ => nI (k + 1))) 2 0) 23 f 24 = N 24 from fun _ => rfl, n17, ct, ← R2, ← y5]
          by_cases c : M 17 0 ≤ M 31 t
          · obtain ⟨-, z, -, z2⟩ := endA (ms (ms (ms (xwN (ms N 15 (fun _ => nI (k + 1))) 2 0) 24 (upd (N 24) t 0)) 4 (fun _ => 2)) 10 (fun _ => 0))
            refine ⟨z, ?_⟩
            rw [if_pos c, if_neg (Int32.not_lt.mpr c), upd_id, z2]
            rw [show ms (xwN (ms N 15 (fun _ => nI (k + 1))) 2 0) 23 (M 31) = xwN (ms N 15 (fun _ => nI (k + 1))) 2 0 by
              rw [y5]; exact ms_id (xwN (ms N 15 (fun _ => nI (k + 1))) 2 0) 23]
          · obtain ⟨-, z, -, z2⟩ := endA (ms (ms (ms (ms (xwN (ms N 15 (fun _ => nI (k + 1))) 2 0) 23 (upd (M 31) t (M 17 0))) 24 (upd (N 24) t 0)) 4 (fun _ => 2)) 10 (fun _ => 0))
            refine ⟨z, ?_⟩
            rw [if_neg c, if_pos (Int32.not_le.mp c)]
            exact z2
        obtain ⟨z, eN⟩ := key
        refine ⟨?_, ?_, ?_⟩
        · unfold ok_X5_doCommitStep f_X2_entries bv
          simp only [hEM, k2, h2E, c2E, q2E, if_pos d1, if_neg d2, eb, if_pos d3']
          rw [a2]
          refine ⟨a1, ?_⟩
          show vp_in (M 15 0) 16 ∧ vp_in (M 15 0) 16 ∧ vp_in (M 15 0) 16
          rw [t2]; exact ⟨vt, vt, vt⟩
        · unfold og_com bv
          simp only [hEN, n15, h2E, c2E, q2E, if_pos d1, if_neg d2, h3E, c3E, if_pos d3, nI_1]
          rw [b2]
          unfold ok_X6_commitOne_180
          simp only [show ∀ q : Nat, xwN (ms N 15 (fun _ => nI (k + 1))) 2 0 17 q = N 17 q from fun _ => rfl, show ∀ (q : Nat) (f : Nat → Int32), ms (xwN (ms N 15 (fun _ => nI (k + 1))) 2 0) 23 f 17 q = N 17 q from fun _ _ => rfl, n17]
          refine ⟨b1, vt, ?_⟩
          by_cases c : (xwN (ms N 15 fun x => nI (k + 1)) 2 0 12 0 ≤ xwN (ms N 15 fun x => nI (k + 1)) 2 0 23 (nI t).toNatClampNeg)
          · rw [if_pos c]; exact ⟨vt, (endA _).1⟩
          · rw [if_neg c]; exact ⟨vt, vt, (endA _).1⟩
        · rw [eM, eN]
          obtain ⟨⟨q0, q1, q2, q3, q4, q5, q6, q7, q8, q9⟩, ⟨w0, w1, w2, w3, w4', w5, w6', w7⟩, g3, g4, g5, g6, s1, s2, s3, s4, s5⟩ := rx_w hx p10 2 0 (Gk_n _ e4' npz2 (by decide))
          refine ⟨⟨sN, n, h, ⟨⟨rfl, q1, q2, q3, q4, q5, q6, q7, p9, q9⟩, ⟨w0, w1, w2, w3, w4', ?_, ?_, w7⟩, g3, g4, g5, g6, s1, s2, s3, fun _ t' ht' => ?_, s5⟩, Or.inr ⟨p10, p4, Or.inr (Or.inl ⟨rfl, rfl, Or.inl p9⟩)⟩⟩, rfl, (show ¬ (2 : Int32) = 0 by decide)⟩
          · exact congrArg (fun f => upd f t (if M 31 t < M 17 0 then M 17 0 else M 31 t)) y5
          · exact congrArg (fun f => upd f t 0) y6
          · show upd (M 32) t 0 t' < 12
            by_cases e : t' = t
            · subst e; rw [pk_us]; decide
            · rw [pk_un e]; exact r4 p4 t' ht'
      · -- an entry
        have d3' : ¬ nI (n + 2) ≤ nI (k - 2 * (n + 2) - 1) := by rw [nI_leI (by omega) (by omega)]; omega
        generalize hj : k - 2 * (n + 2) - 1 = j at eb d3'
        have jE : j < n + 2 := by omega
        obtain ⟨a, z1, z2, z3⟩ := R5 j jE
        have za := pz_lt z1
        have l1 := k3 (2 * j) (by omega) (by omega)
        have l2 := k3 (2 * j + 1) (by omega) (by omega)
        simp only [lwd, show 2 * j % 2 = 0 by omega, show 2 * j / 2 = j by omega, show ¬ (2 * j + 1) % 2 = 0 by omega, show (2 * j + 1) / 2 = j by omega, if_true, if_false] at l1 l2
        rw [show 84 + (2 * j + 1) = 85 + 2 * j by omega] at l2
        obtain ⟨a1, a2⟩ := ap4 M (r := j) (by omega) za (l1.trans z2)
        rw [l2] at a2
        have cj : (nI j).toNatClampNeg = j := nI_clamp (by omega)
        have vj : vp_in (nI j) 40 := vp_in_nI (by omega) (by decide)
        have n26 : N 26 j = nI a := by rw [← y7]; exact z2
        have n27 : N 27 j = M 22 j := by rw [← y8]
        have j0 : (nI j = 0) ↔ j = 0 := nI_eq (b := 0) (by omega) (by decide)
        have key : g_com N = xwN (ms (ms N 15 (fun _ => nI (k + 1))) 17 (fun _ => nI t)) a (M 22 j) ∧ og_com N := by
          obtain ⟨b1, b2⟩ := w6 (ms (ms N 15 (fun _ => nI (k + 1))) 17 (fun _ => nI t)) za (M 22 j)
          unfold g_com og_com
          simp only [hEN, n15, h2E, c2E, q2E, if_pos d1, if_neg d2, h3E, c3E, if_neg d3, nI_1, eb]
          by_cases e : j = 0
          · have n20 : N 20 0 = nI t := by rw [← y2, ← k6 (by omega)]; exact t2
            simp only [if_pos (j0.mpr e)]
            unfold f_X6_commitOne_123 ok_X6_commitOne_123 bv
            rw [cj, n20]
            simp only [show ∀ q : Nat, ms N 15 (fun _ => nI (k + 1)) 26 q = N 26 q from fun _ => rfl, show ∀ q : Nat, ms N 15 (fun _ => nI (k + 1)) 27 q = N 27 q from fun _ => rfl, n26, n27]
            exact ⟨b2, vj, vj, b1⟩
          · have n17 : N 17 0 = nI t := by rw [k7 (by omega)]; exact t2
            simp only [if_neg (fun q => e (j0.mp q))]
            unfold f_X6_commitOne_123 ok_X6_commitOne_123 bv
            rw [cj, n17]
            simp only [show ∀ q : Nat, ms N 15 (fun _ => nI (k + 1)) 26 q = N 26 q from fun _ => rfl, show ∀ q : Nat, ms N 15 (fun _ => nI (k + 1)) 27 q = N 27 q from fun _ => rfl, n26, n27]
            exact ⟨b2, vj, vj, b1⟩
        have eM : f_X5_doCommitStep M = ms (xwM M a (M 22 j)) 8 (fun _ => nI k + 1) := by
          unfold f_X5_doCommitStep f_X2_entries bv
          simp only [hEM, k2, h2E, c2E, q2E, if_pos d1, if_neg d2, eb, if_neg d3', a2]
          show ms (xwM M a (M 22 j)) 8 (fun _ => M 8 0 + 1) = _
          rw [k2]
        refine ⟨?_, key.2, ?_⟩
        · unfold ok_X5_doCommitStep f_X2_entries bv
          simp only [hEM, k2, h2E, c2E, q2E, if_pos d1, if_neg d2, eb, if_neg d3']
          exact a1
        · rw [eM, key.1]
          have W := rx_w hx p10 a (M 22 j) (Gk_w e4' z1 z3)
          refine ⟨⟨sN, n, h, W, Or.inr ⟨p10, p4, Or.inr (Or.inr (Or.inr ⟨h4, p9, ⟨R1, R2, R3⟩, nI_1 k, ⟨t, t1, t2⟩, R5, k + 1, by omega, nI_1 k, fun i j1 j2 => ?_, fun j1 => by omega, fun _ => ?_, fun j1 => by omega, fun _ => t2.symm⟩))⟩⟩, rfl, ?_⟩
          · show upd (M 13) a _ (84 + i) = lwd (M 21) (M 22) i
            rw [pk_un (by have := (pz4 z1).2.2; omega)]
            exact k3 i (by omega) j2
          · show upd (M 13) a _ 2 = nI (n + 2)
            rw [pk_un (pz4 z1).2.1.symm]
            exact k5 (by omega)
          · show ¬ M 0 0 = 0
            rw [h4]; decide
  · -- a word of the list
    have vw : vp_in (nI (k / 2)) 40 := vp_in_nI (by omega) (by decide)
    have ck : (nI (k / 2)).toNatClampNeg = k / 2 := nI_clamp (by omega)
    have hd : nI k / 2 = nI (k / 2) := pk_div (d := 2) (by omega) (by decide) (by decide)
    have hm : nI k - nI k / 2 * 2 = nI (k % 2) := pk_rem (d := 2) (by omega) (by decide) (by decide)
    have hm2 : nI k - nI (k / 2) * 2 = nI (k % 2) := by rw [← hd]; exact hm
    have m0 : (nI (k % 2) = 0) ↔ k % 2 = 0 := nI_eq (b := 0) (by omega) (by decide)
    have k84 : (84 : Int32) + nI k = nI (84 + k) := nI_add 84 k
    obtain ⟨a1, a2⟩ := w4 M (a := 84 + k) (by omega) (lwd (M 21) (M 22) k)
    obtain ⟨b1, b2⟩ := w6 (ms N 15 (fun _ => nI (k + 1))) (a := 84 + k) (by omega) (lwd (M 21) (M 22) k)
    have lw : f_X2_listWord M (nI k) = lwd (M 21) (M 22) k ∧ ok_X2_listWord M (nI k) := by
      unfold f_X2_listWord ok_X2_listWord lwd
      rw [hm, hd, ck]
      by_cases e : k % 2 = 0
      · simp only [if_pos (m0.mpr e), if_pos e]; exact ⟨trivial, vw⟩
      · simp only [if_neg (fun q => e (m0.mp q)), if_neg e]; exact ⟨trivial, vw⟩
    have eM : f_X5_doCommitStep M = ms (xwM M (84 + k) (lwd (M 21) (M 22) k)) 8 (fun _ => nI k + 1) := by
      unfold f_X5_doCommitStep f_X2_entries bv
      simp only [hEM, k2, h2E, c2E, if_neg d1, lw.1, k84, a2]
      show ms (xwM M (84 + k) (lwd (M 21) (M 22) k)) 8 (fun _ => M 8 0 + 1) = _
      rw [k2]
    have key : g_com N = xwN (ms N 15 (fun _ => nI (k + 1))) (84 + k) (lwd (M 21) (M 22) k) ∧ og_com N := by
      unfold g_com og_com bv
      simp only [hEN, n15, h2E, c2E, if_neg d1, nI_1, hd, hm2, ck, k84, ← y7, ← y8]
      unfold lwd at b1 b2 ⊢
      by_cases e : k % 2 = 0
      · simp only [if_pos e] at b1 b2 ⊢
        simp only [if_pos (m0.mpr e)]
        exact ⟨b2, vw, b1⟩
      · simp only [if_neg e] at b1 b2 ⊢
        simp only [if_neg (fun q => e (m0.mp q))]
        exact ⟨b2, vw, b1⟩
    refine ⟨?_, key.2, ?_⟩
    · unfold ok_X5_doCommitStep f_X2_entries bv
      simp only [hEM, k2, h2E, c2E, if_neg d1, lw.1, k84]
      exact ⟨lw.2, a1⟩
    · rw [eM, key.1]
      have W := rx_w hx p10 (84 + k) (lwd (M 21) (M 22) k) (Gk_n _ e4' (by unfold pz; omega) (by omega))
      refine ⟨⟨sN, n, h, W, Or.inr ⟨p10, p4, Or.inr (Or.inr (Or.inr ⟨h4, p9, ⟨R1, R2, R3⟩, nI_1 k, ⟨t, t1, t2⟩, R5, k + 1, by omega, nI_1 k, fun i j1 j2 => ?_, fun _ => ?_, fun j1 => by omega, fun _ => ?_, fun j1 => by omega⟩))⟩⟩, rfl, ?_⟩
      · show upd (M 13) (84 + k) (lwd (M 21) (M 22) k) (84 + i) = lwd (M 21) (M 22) i
        by_cases e : i = k
        · subst e; rw [pk_us]
        · rw [pk_un (by omega)]; exact k3 i (by omega) j2
      · show upd (M 13) (84 + k) _ 2 = 0
        rw [pk_un (by omega)]; exact k4 (by omega)
      · show M 15 0 = upd (M 13) (84 + k) _ 0
        rw [pk_un (by omega)]; exact k6 (by omega)
      · show ¬ M 0 0 = 0
        rw [h4]; decide
