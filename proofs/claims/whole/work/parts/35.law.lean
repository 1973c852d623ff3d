/-! THE LAW: its world is the node, the reference and the array of one long -/
def wL (cI cJ : ClassId) (ad aR : Nat → Nat) (o : Nat) (M N : Mem) (f : Nat → Int64) : va_W := wN cI ad M ++ (wR cI aR N ++ [(o, .inl (cJ, 1, .inr (.inl f)))])
def LH (D : va_G) (cI cJ : ClassId) (ad aR : Nat → Nat) (o : Nat) (A : Nat → Prop) (s : State) (H : Heap) (locs : List Loc) (M N : Mem) (f : Nat → Int64) : Prop := va_K D vwCl [(cI, .int), (cJ, .long)] s ∧ va_P D vwCl (wL cI cJ ad aR o M N f) H ∧ va_D A (wL cI cJ ad aR o M N f) ∧ va_S A s.heap H locs ∧ (∀ q, s.heap.size ≤ q → A q) ∧ SF A s s.heap ∧ SX A s s.heap
section Lw
variable {p : Program} {l : Launch} {e : Env} {R : Room} {s : State} {m : MethodId} {args : Array Value} {below : List Frame} {meth : Method} {c : Code} {H : Heap} {locs : List Loc} {cells slots : Nat} {Q : State → Prop} {own : String} {cc : ByteArray} {nL : Nat} {rt : Option FieldType} {D : va_G} {cI cJ : ClassId} {ad aR : Nat → Nat} {o : Nat} {A : Nat → Prop} {M N : Mem} {f : Nat → Int64} {pc : Nat} {ls : Array Slot} {rest : List Value}
theorem lh_N (h : LH D cI cJ ad aR o A s H locs M N f) : WH D [(cI, .int)] (wN cI ad) A s H locs M := by
  obtain ⟨hK, hP, hD, hS, hA, hF, hX⟩ := h
  exact ⟨hK.sub [0] rfl, hP.sub [0, 1, 2, 3, 4, 5, 6, 7, 8, 9, 10, 11, 12, 13, 14, 15, 16, 17, 18, 19] rfl, hD.sub [0, 1, 2, 3, 4, 5, 6, 7, 8, 9, 10, 11, 12, 13, 14, 15, 16, 17, 18, 19] (by decide) rfl, hS, hA, hF⟩
theorem lh_R (h : LH D cI cJ ad aR o A s H locs M N f) : WH D [(cI, .int)] (wR cI aR) A s H locs N := by
  obtain ⟨hK, hP, hD, hS, hA, hF, hX⟩ := h
  exact ⟨hK.sub [0] rfl, hP.sub [20, 21, 22, 23, 24, 25, 26, 27, 28, 29, 30, 31, 32, 33, 34] rfl, hD.sub [20, 21, 22, 23, 24, 25, 26, 27, 28, 29, 30, 31, 32, 33, 34] (by decide) rfl, hS, hA, hF⟩
theorem lh_H (h : LH D cI cJ ad aR o A s H locs M N f) : HH D cI cJ ad o A s H locs (M, f) := by
  obtain ⟨hK, hP, hD, hS, hA, hF, hX⟩ := h
  exact ⟨hK, hP.sub (ws' := wH cI cJ ad o (M, f)) [0, 1, 2, 3, 4, 5, 6, 7, 8, 9, 10, 11, 12, 13, 14, 15, 16, 17, 18, 19, 35] rfl, hD.sub (ws' := wH cI cJ ad o (M, f)) [0, 1, 2, 3, 4, 5, 6, 7, 8, 9, 10, 11, 12, 13, 14, 15, 16, 17, 18, 19, 35] (by decide) rfl, hS, hA, hF, hX⟩
theorem lh_jN (h : LH D cI cJ ad aR o A s H locs M N f) {u : Mem} {H1 : Heap} {locs1 : List Loc} (h1 : WH D [(cI, .int)] (wN cI ad) A s H1 locs1 u) (hD1 : va_D (va_A (wN cI ad M) H.size) (wN cI ad u)) (hk : ∀ q : Nat, q < H.size → ¬ va_A (wN cI ad M) H.size q → H1[q]? = H[q]?) : LH D cI cJ ad aR o A s H1 locs1 u N f := by
  have hFc := wh_free (lh_N h)
  obtain ⟨hK, hP, hD, hS, hA, hF, hX⟩ := h
  obtain ⟨k1, k2, k3, k4, k5, k6⟩ := h1
  obtain ⟨j1, j2⟩ := va_join (wc := wN cI ad M) (wr := wR cI aR N ++ [(o, .inl (cJ, 1, .inr (.inl f)))]) (w1 := wN cI ad u) hP hD [0, 1, 2, 3, 4, 5, 6, 7, 8, 9, 10, 11, 12, 13, 14, 15, 16, 17, 18, 19] [20, 21, 22, 23, 24, 25, 26, 27, 28, 29, 30, 31, 32, 33, 34, 35] rfl rfl (by decide) (by decide) hk hFc k2 hD1
  exact ⟨hK, j1.sub (ws' := wL cI cJ ad aR o u N f) [16, 17, 18, 19, 20, 21, 22, 23, 24, 25, 26, 27, 28, 29, 30, 31, 32, 33, 34, 35, 0, 1, 2, 3, 4, 5, 6, 7, 8, 9, 10, 11, 12, 13, 14, 15] rfl, j2.sub (ws' := wL cI cJ ad aR o u N f) [16, 17, 18, 19, 20, 21, 22, 23, 24, 25, 26, 27, 28, 29, 30, 31, 32, 33, 34, 35, 0, 1, 2, 3, 4, 5, 6, 7, 8, 9, 10, 11, 12, 13, 14, 15] (by decide) rfl, k4, hA, hF, hX⟩
theorem lh_jR (h : LH D cI cJ ad aR o A s H locs M N f) {u : Mem} {H1 : Heap} {locs1 : List Loc} (h1 : WH D [(cI, .int)] (wR cI aR) A s H1 locs1 u) (hD1 : va_D (va_A (wR cI aR N) H.size) (wR cI aR u)) (hk : ∀ q : Nat, q < H.size → ¬ va_A (wR cI aR N) H.size q → H1[q]? = H[q]?) : LH D cI cJ ad aR o A s H1 locs1 M u f := by
  have hFc := wh_free (lh_R h)
  obtain ⟨hK, hP, hD, hS, hA, hF, hX⟩ := h
  obtain ⟨k1, k2, k3, k4, k5, k6⟩ := h1
  obtain ⟨j1, j2⟩ := va_join (wc := wR cI aR N) (wr := wN cI ad M ++ [(o, .inl (cJ, 1, .inr (.inl f)))]) (w1 := wR cI aR u) hP hD [20, 21, 22, 23, 24, 25, 26, 27, 28, 29, 30, 31, 32, 33, 34] [0, 1, 2, 3, 4, 5, 6, 7, 8, 9, 10, 11, 12, 13, 14, 15, 16, 17, 18, 19, 35] rfl rfl (by decide) (by decide) hk hFc k2 hD1
  exact ⟨hK, j1.sub (ws' := wL cI cJ ad aR o M u f) [0, 1, 2, 3, 4, 5, 6, 7, 8, 9, 10, 11, 12, 13, 14, 15, 16, 17, 18, 19, 21, 22, 23, 24, 25, 26, 27, 28, 29, 30, 31, 32, 33, 34, 35, 20] rfl, j2.sub (ws' := wL cI cJ ad aR o M u f) [0, 1, 2, 3, 4, 5, 6, 7, 8, 9, 10, 11, 12, 13, 14, 15, 16, 17, 18, 19, 21, 22, 23, 24, 25, 26, 27, 28, 29, 30, 31, 32, 33, 34, 35, 20] (by decide) rfl, k4, hA, hF, hX⟩
theorem lh_call (C : CX p s m args meth c RL cc nL rt) (h : LH D cI cJ ad aR o A s H locs M N f) {y : MethodName} {cy : ByteArray} {nLy idx n : Nat} {hh : List (Nat × Nat × Nat × Nat)} {As st0 : List Value} {res : (Mem × (Nat → Int64)) × Int32} (hM : KH l D cI cJ ad o y cy nLy hh rmH As (M, f) res) (hcode : Cond.codeWith y cy nLy (some .int) hh ∈ wG) (hst9 : Cond.static y ∈ wG) (hini : Cond.initialized y.cls ∈ wG) (hlink : Cond.methodLink RL idx y ∈ wG) (hy : y.cls ≠ "java/lang/invoke/MethodHandle" ∧ y.cls ≠ "java/lang/invoke/VarHandle" ∧ (parseMethodDescriptor y.desc).map (fun d => d.parameters.length) = some n) (hsz : ls.size = nL) (hn : As.length = n) (hst : st0 = As.reverse ++ rest) (hW : (rest.map fun v => v.category).sum ≤ 8) (hR : rmH.frames + 1 ≤ R.frames ∧ 8 + (nLy + 11) + rmH.locals ≤ R.locals) (hcs : cells + 1 ≤ R.cells ∧ slots + 6 ≤ R.slots) (hd : decode cc pc = .ok (.invokestatic idx, 3)) (kk : ∀ (u : Mem) (g : Nat → Int64) (r : Int32) (H1 : Heap) (locs1 : List Loc), res = ((u, g), r) → LH D cI cJ ad aR o A s H1 locs1 u N g → W p l e R s m args below meth c H1 locs1 (cells + 1) (slots + 6) Q (F0 m (pc + 3) ls (.int r :: rest))) : W p l e R s m args below meth c H locs cells slots Q (F0 m pc ls st0) := by
  have h2 := lh_H h
  obtain ⟨hx, hb, hr, hml, hown, hts, hlk⟩ := C
  obtain ⟨hK, hP, hD, hS, hA, hF, hX⟩ := h
  obtain ⟨gK, gP, gD, gS, gA, gF, gX⟩ := h2
  have hg : GoodIn wG (.codeWith y cy nLy (some .int) hh :: wG) := fun z hz => by
    rcases List.mem_cons.mp hz with rfl | hz
    · exact wG_good _ hcode
    · exact wG_good _ hz
  have cw : vx_CSW R s args RL idx y cy nLy (some .int) hh (.codeWith y cy nLy (some .int) hh :: wG) rmH 1 6 n := ⟨⟨rfl, rfl, hR.1, hR.2, pay_in hts hg, List.mem_cons_self⟩, hts _ hcode, hts _ hini, ⟨hy.1, hy.2.1⟩, fun sig hs => by have h9 := hy.2.2; rw [hs] at h9; exact (Option.some.inj h9).symm, hts _ hlink, hts _ hst9⟩
  have hFc : ∀ q, va_A (wH cI cJ ad o (M, f)) H.size q → A q := by
    intro q hq
    rcases hq with ⟨k, e9, hq⟩ | hq
    · exact gD.2 k (q, e9) hq
    · exact hA q (Nat.le_trans hS.1 hq)
  refine va_calli (vx_runSW (As := As) (rest := rest) ⟨hx, hb, hml, hown, hts⟩ (hM H.size) cw ⟨fun a U g mk q => by
      obtain ⟨q0, q1, qP, qK, qD, qF, qX⟩ := q
      exact ⟨q0, q1, qP, va_K.moved (u := U) (U := U.calling g mk a) (Vm.Alike.refl U.vm) qK, qD, SF.moved (u := U) (U := U.calling g mk a) (Vm.Alike.refl U.vm) qF, SX.same (u := U) (U := U.calling g mk a) rfl qX⟩, fun U hU hW9 => ⟨rfl, by rw [hU], by rw [hU]; exact gP, va_K.moved hW9.alike gK, gD.weaken (fun _ _ _ _ => trivial), by rw [hU]; exact SF.moved hW9.alike ((gF.kept gS.2.1).narrow hFc), by rw [hU]; exact SX.warm hW9 ((gX.kept gS.2.1).narrow hFc)⟩⟩ rfl hn hsz hst (lv_room hW) hd hcs) hS (fun q _ z => hFc q z) hFc (fun r u t H1 locs1 ht hvm hw hB hz1 hk1 hS1 => ?_)
  obtain ⟨u, g⟩ := u
  obtain ⟨b1, b2, b3⟩ := hB
  rw [ht] at b1
  obtain ⟨j1, j2⟩ := va_join (wc := wH cI cJ ad o (M, f)) (wr := wR cI aR N) (w1 := wH cI cJ ad o (u, g)) hP hD [0, 1, 2, 3, 4, 5, 6, 7, 8, 9, 10, 11, 12, 13, 14, 15, 16, 17, 18, 19, 35] [20, 21, 22, 23, 24, 25, 26, 27, 28, 29, 30, 31, 32, 33, 34] rfl rfl (by decide) (by decide) hk1 hFc b1 b3
  exact kk u g r H1 locs1 hw ⟨hK, j1.sub (ws' := wL cI cJ ad aR o u N g) [15, 16, 17, 18, 19, 20, 21, 22, 23, 24, 25, 26, 27, 28, 29, 30, 31, 32, 33, 34, 0, 1, 2, 3, 4, 5, 6, 7, 8, 9, 10, 11, 12, 13, 14, 35] rfl, j2.sub (ws' := wL cI cJ ad aR o u N g) [15, 16, 17, 18, 19, 20, 21, 22, 23, 24, 25, 26, 27, 28, 29, 30, 31, 32, 33, 34, 0, 1, 2, 3, 4, 5, 6, 7, 8, 9, 10, 11, 12, 13, 14, 35] (by decide) rfl, hS1, hA, hF, hX⟩
end Lw
theorem in_mL_26 : Cond.methodLink RL 26 yX5_init ∈ wG := wG_in (List.mem_append_right _ (List.mem_append_left _ (List.mem_of_getElem? (i := 17) rfl))) rfl
theorem in_mL_29 : Cond.methodLink RL 29 yX6_init ∈ wG := wG_in (List.mem_append_right _ (List.mem_append_right _ (List.mem_append_right _ (List.mem_append_left _ (List.mem_of_getElem? (i := 102) rfl))))) rfl
theorem in_mL_30 : Cond.methodLink RL 30 yX5_program ∈ wG := wG_in (List.mem_append_right _ (List.mem_append_left _ (List.mem_of_getElem? (i := 196) rfl))) rfl
theorem in_mL_34 : Cond.methodLink RL 34 yX6_program ∈ wG := wG_in (List.mem_append_right _ (List.mem_append_right _ (List.mem_append_right _ (List.mem_append_left _ (List.mem_of_getElem? (i := 207) rfl))))) rfl
theorem in_mL_35 : Cond.methodLink RL 35 yX5_seal ∈ wG := wG_in (List.mem_append_right _ (List.mem_append_left _ (List.mem_of_getElem? (i := 207) rfl))) rfl
theorem in_mL_39 : Cond.methodLink RL 39 yX6_seal ∈ wG := wG_in (List.mem_append_right _ (List.mem_append_right _ (List.mem_append_right _ (List.mem_append_left _ (List.mem_of_getElem? (i := 214) rfl))))) rfl
theorem in_mL_40 : Cond.methodLink RL 40 yL_slot ∈ wG := wG_in (List.mem_append_right _ (List.mem_append_right _ (List.mem_append_left _ (List.mem_of_getElem? (i := 37) rfl)))) rfl
theorem in_mL_45 : Cond.methodLink RL 45 yX6_slot ∈ wG := wG_in (List.mem_append_right _ (List.mem_append_right _ (List.mem_append_right _ (List.mem_append_left _ (List.mem_of_getElem? (i := 234) rfl))))) rfl
theorem in_mL_46 : Cond.methodLink RL 46 yX6_thrown ∈ wG := wG_in (List.mem_append_right _ (List.mem_append_right _ (List.mem_append_right _ (List.mem_append_left _ (List.mem_of_getElem? (i := 203) rfl))))) rfl
theorem in_mL_49 : Cond.methodLink RL 49 yX5_cut ∈ wG := wG_in (List.mem_append_right _ (List.mem_append_right _ (List.mem_append_left _ (List.mem_of_getElem? (i := 5) rfl)))) rfl
theorem in_mL_53 : Cond.methodLink RL 53 yX6_cut ∈ wG := wG_in (List.mem_append_right _ (List.mem_append_right _ (List.mem_append_right _ (List.mem_append_right _ (List.mem_of_getElem? (i := 69) rfl))))) rfl
theorem in_mL_54 : Cond.methodLink RL 54 yX5_sense ∈ wG := wG_in (List.mem_append_right _ (List.mem_append_right _ (List.mem_append_left _ (List.mem_of_getElem? (i := 9) rfl)))) rfl
theorem in_mL_58 : Cond.methodLink RL 58 yX6_sense ∈ wG := wG_in (List.mem_append_right _ (List.mem_append_right _ (List.mem_append_right _ (List.mem_append_right _ (List.mem_of_getElem? (i := 73) rfl))))) rfl
theorem in_mL_59 : Cond.methodLink RL 59 yL_kept ∈ wG := wG_in (List.mem_append_right _ (List.mem_append_right _ (List.mem_append_right _ (List.mem_append_left _ (List.mem_of_getElem? (i := 60) rfl))))) rfl
theorem in_mL_62 : Cond.methodLink RL 62 yX6_kept ∈ wG := wG_in (List.mem_append_right _ (List.mem_append_right _ (List.mem_append_right _ (List.mem_append_right _ (List.mem_of_getElem? (i := 77) rfl))))) rfl
theorem in_mL_63 : Cond.methodLink RL 63 yX5_aired ∈ wG := wG_in (List.mem_append_right _ (List.mem_append_right _ (List.mem_append_left _ (List.mem_of_getElem? (i := 13) rfl)))) rfl
theorem in_mL_67 : Cond.methodLink RL 67 yX6_aired ∈ wG := wG_in (List.mem_append_right _ (List.mem_append_right _ (List.mem_append_right _ (List.mem_append_right _ (List.mem_of_getElem? (i := 85) rfl))))) rfl
theorem in_mL_68 : Cond.methodLink RL 68 yL_heard ∈ wG := wG_in (List.mem_append_right _ (List.mem_append_right _ (List.mem_append_right _ (List.mem_append_left _ (List.mem_of_getElem? (i := 84) rfl))))) rfl
theorem in_mL_70 : Cond.methodLink RL 70 yX6_heard ∈ wG := wG_in (List.mem_append_right _ (List.mem_append_right _ (List.mem_append_right _ (List.mem_append_right _ (List.mem_of_getElem? (i := 89) rfl))))) rfl
theorem in_mL_71 : Cond.methodLink RL 71 yX5_state ∈ wG := wG_in (List.mem_append_right _ (List.mem_append_right _ (List.mem_append_left _ (List.mem_of_getElem? (i := 21) rfl)))) rfl
theorem in_mL_74 : Cond.methodLink RL 74 yX6_state ∈ wG := wG_in (List.mem_append_right _ (List.mem_append_right _ (List.mem_append_right _ (List.mem_append_right _ (List.mem_of_getElem? (i := 93) rfl))))) rfl
theorem in_mL_75 : Cond.methodLink RL 75 yX5_task ∈ wG := wG_in (List.mem_append_right _ (List.mem_append_right _ (List.mem_append_left _ (List.mem_of_getElem? (i := 29) rfl)))) rfl
theorem in_mL_78 : Cond.methodLink RL 78 yX6_task ∈ wG := wG_in (List.mem_append_right _ (List.mem_append_right _ (List.mem_append_right _ (List.mem_append_right _ (List.mem_of_getElem? (i := 97) rfl))))) rfl
theorem in_mL_79 : Cond.methodLink RL 79 yX5_register ∈ wG := wG_in (List.mem_append_right _ (List.mem_append_right _ (List.mem_append_left _ (List.mem_of_getElem? (i := 33) rfl)))) rfl
theorem in_mL_82 : Cond.methodLink RL 82 yX6_register ∈ wG := wG_in (List.mem_append_right _ (List.mem_append_right _ (List.mem_append_right _ (List.mem_append_right _ (List.mem_of_getElem? (i := 101) rfl))))) rfl
theorem in_cL_slot : Cond.codeWith yL_slot cL_slot 4 (some .int) [(0, 9, 12, 13), (0, 9, 15, 15)] ∈ wG := wG_in (List.mem_append_right _ (List.mem_append_right _ (List.mem_append_left _ (List.mem_of_getElem? (i := 39) rfl)))) rfl
theorem in_sL_slot : Cond.static yL_slot ∈ wG := wG_in (List.mem_append_right _ (List.mem_append_right _ (List.mem_append_left _ (List.mem_of_getElem? (i := 38) rfl)))) rfl
theorem in_cL_kept : Cond.codeWith yL_kept cL_kept 5 (some .int) [(0, 10, 13, 21)] ∈ wG := wG_in (List.mem_append_right _ (List.mem_append_right _ (List.mem_append_right _ (List.mem_append_left _ (List.mem_of_getElem? (i := 62) rfl))))) rfl
theorem in_sL_kept : Cond.static yL_kept ∈ wG := wG_in (List.mem_append_right _ (List.mem_append_right _ (List.mem_append_right _ (List.mem_append_left _ (List.mem_of_getElem? (i := 61) rfl))))) rfl
theorem in_cL_heard : Cond.codeWith yL_heard cL_heard 4 (some .int) [(0, 9, 12, 21)] ∈ wG := wG_in (List.mem_append_right _ (List.mem_append_right _ (List.mem_append_right _ (List.mem_append_left _ (List.mem_of_getElem? (i := 86) rfl))))) rfl
theorem in_sL_heard : Cond.static yL_heard ∈ wG := wG_in (List.mem_append_right _ (List.mem_append_right _ (List.mem_append_right _ (List.mem_append_left _ (List.mem_of_getElem? (i := 85) rfl))))) rfl
theorem in_iL : Cond.initialized RL ∈ wG := wG_in (List.mem_append_right _ (List.mem_append_left _ (List.mem_of_getElem? (i := 0) rfl))) rfl
def pf_program (I : Nat → Mem → Mem → Prop) : Prop := ∀ (k : Nat) (M N : Mem), k < 512 → I k M N → (∀ (a0 a1 a2 : Int32), ok_X5_program M a0 a1 a2 ∧ ok_X6_program N a0 a1 a2 ∧ (f_X5_program M a0 a1 a2).2 = (f_X6_program N a0 a1 a2).2 ∧ I (k + 1) (f_X5_program M a0 a1 a2).1 (f_X6_program N a0 a1 a2).1)
def pf_seal (I : Nat → Mem → Mem → Prop) : Prop := ∀ (k : Nat) (M N : Mem), k < 512 → I k M N → (ok_X5_seal M ∧ ok_X6_seal N ∧ (f_X5_seal M).2 = (f_X6_seal N).2 ∧ I (k + 1) (f_X5_seal M).1 (f_X6_seal N).1)
def pf_cut (I : Nat → Mem → Mem → Prop) : Prop := ∀ (k : Nat) (M N : Mem), k < 512 → I k M N → (∀ (a0 : Int32), (f_X5_cut M a0).2 = (f_X6_cut N a0).2 ∧ I (k + 1) (f_X5_cut M a0).1 (f_X6_cut N a0).1)
def pf_sense (I : Nat → Mem → Mem → Prop) : Prop := ∀ (k : Nat) (M N : Mem), k < 512 → I k M N → (∀ (a0 a1 : Int32), ok_X5_sense M a0 a1 ∧ ok_X6_sense N a0 a1 ∧ (f_X5_sense M a0 a1).2 = (f_X6_sense N a0 a1).2 ∧ I (k + 1) (f_X5_sense M a0 a1).1 (f_X6_sense N a0 a1).1)
def pf_aired (I : Nat → Mem → Mem → Prop) : Prop := ∀ (k : Nat) (M N : Mem), k < 512 → I k M N → (∀ (a0 a1 : Int32), ok_X5_aired M a0 a1 ∧ ok_X6_aired N a0 a1 ∧ f_X5_aired M a0 a1 = (f_X6_aired N a0 a1).2 ∧ I (k + 1) M (f_X6_aired N a0 a1).1)
def pf_state (I : Nat → Mem → Mem → Prop) : Prop := ∀ (k : Nat) (M N : Mem), k < 512 → I k M N → (∀ (a0 : Int32), f_X5_state M a0 = (f_X6_state N a0).2 ∧ I (k + 1) M (f_X6_state N a0).1)
def pf_task (I : Nat → Mem → Mem → Prop) : Prop := ∀ (k : Nat) (M N : Mem), k < 512 → I k M N → (∀ (a0 a1 : Int32), ok_X5_task M a0 a1 ∧ ok_X6_task N a0 a1 ∧ f_X5_task M a0 a1 = (f_X6_task N a0 a1).2 ∧ I (k + 1) M (f_X6_task N a0 a1).1)
def pf_register (I : Nat → Mem → Mem → Prop) : Prop := ∀ (k : Nat) (M N : Mem), k < 512 → I k M N → (∀ (a0 : Int32), ok_X5_register M a0 ∧ ok_X6_register N a0 ∧ f_X5_register M a0 = (f_X6_register N a0).2 ∧ I (k + 1) M (f_X6_register N a0).1)
def pf_slot (I : Nat → Mem → Mem → Prop) : Prop := ∀ (k : Nat) (M N : Mem), k < 512 → I k M N → (∀ (a0 : Int32), (M 10 0 = 0 → ok_X6_slot N a0 ∧ (f_X6_slot N a0).1 0 0 = 1 ∧ I (k + 1) M (f_X6_slot N a0).1) ∧ (¬ M 10 0 = 0 → (a0 < 0 ∨ 500 < a0) → ok_X6_slot N a0 ∧ (f_X6_slot N a0).1 0 0 = 2 ∧ I (k + 1) M (f_X6_slot N a0).1) ∧ (¬ M 10 0 = 0 → ¬ (a0 < 0 ∨ 500 < a0) → ok_X5_slot M a0 ∧ ok_X6_slot N a0 ∧ (f_X6_slot N a0).1 0 0 = 0 ∧ (f_X5_slot M a0).2 = (f_X6_slot N a0).2 ∧ I (k + 1) (f_X5_slot M a0).1 (f_X6_slot N a0).1))
def pf_kept (I : Nat → Mem → Mem → Prop) : Prop := ∀ (k : Nat) (M N : Mem), k < 512 → I k M N → (∀ (a0 a1 : Int32), ((a0 < 0 ∨ 164 ≤ a0) → ok_X6_kept N a0 a1 ∧ (f_X6_kept N a0 a1).1 0 0 = 1 ∧ I (k + 1) M (f_X6_kept N a0 a1).1) ∧ (¬ (a0 < 0 ∨ 164 ≤ a0) → ok_X5_kept M a0 a1 ∧ ok_X6_kept N a0 a1 ∧ (f_X6_kept N a0 a1).1 0 0 = 0 ∧ (f_X5_kept M a0 a1).2 = (f_X6_kept N a0 a1).2 ∧ I (k + 1) (f_X5_kept M a0 a1).1 (f_X6_kept N a0 a1).1))
def pf_heard (I : Nat → Mem → Mem → Prop) : Prop := ∀ (k : Nat) (M N : Mem), k < 512 → I k M N → (∀ (a0 : Int32), (f_X3_farSideHas M a0 = 0 → ok_X6_heard N a0 ∧ (f_X6_heard N a0).1 0 0 = 1 ∧ I (k + 1) M (f_X6_heard N a0).1) ∧ (¬ f_X3_farSideHas M a0 = 0 → ok_X5_heard M a0 ∧ ok_X6_heard N a0 ∧ (f_X6_heard N a0).1 0 0 = 0 ∧ (f_X5_heard M a0).2 = (f_X6_heard N a0).2 ∧ I (k + 1) (f_X5_heard M a0).1 (f_X6_heard N a0).1))
def PF (I : Nat → Mem → Mem → Prop) : Prop := (∀ (k : Nat) (M N : Mem), I k M N → I (k + 1) M N) ∧ pf_program I ∧ pf_seal I ∧ pf_cut I ∧ pf_sense I ∧ pf_aired I ∧ pf_state I ∧ pf_task I ∧ pf_register I ∧ pf_slot I ∧ pf_kept I ∧ pf_heard I
set_option maxHeartbeats 4000000 in
set_option maxRecDepth 100000 in
theorem law_loop {p : Program} {l : Launch} {e : Env} {s : State} {m : MethodId} {below : List Frame} {meth : Method} {c : Code} {D : va_G} {cI cJ : ClassId} {ad aR : Nat → Nat} {o b L : Nat} {xs : Nat → Int32} (hlt : l.stackTraces = false) (hL : L ≤ 2048) (hX : va_X b L xs s s.heap) (hbl : b < s.heap.size) (C : CX p s m #[Value.ref b] meth c RL cL_law 7 (some .boolean)) {I : Nat → Mem → Mem → Prop} (hI : PF I) :
    ∀ (n k : Nat) (x4 : Int32) (M N : Mem) (f : Nat → Int64) (H : Heap) (locs : List Loc) (ls : Array Slot), 4 * k ≤ L → L + 4 ≤ 4 * k + n → x4 = nI (4 * k) → I k M N → LH D cI cJ ad aR o (fun q : Nat => s.heap.size ≤ q) s H locs M N f → lv_has ls 7 [(0, .ref b), (1, .ref (ad 0)), (2, .ref (aR 0)), (3, .ref o), (4, .int x4)] → W p l e room_1 s m #[Value.ref b] below meth c H locs (36 + k) (2646 + 6 * k) (lw_Z below #[Value.ref b] s) (F0 m 23 ls []) := by
  have hx := C.1
  have hb := C.2.1
  have hr := C.2.2.1
  have hown := C.2.2.2.2.1
  have hts := C.2.2.2.2.2.1
  have hlocks := C.2.2.2.2.2.2
  have hbA : ¬ (fun q : Nat => s.heap.size ≤ q) b := Nat.not_le.mpr hbl
  intro n
  induction n with
  | zero =>
    intro k x4 M N f H locs ls h1 h2
    exact absurd h2 (by omega)
  | succ n ih =>
    intro k x4 M N f H locs ls hk4 hn ex4 hRel h hl
    have hS := h.2.2.2.1
    refine lv_iload hx hb dL_law_23 (lv_at hl 4 rfl) ?_
    refine lv_aload_n hx hb dL_law_25 rfl (lv_at hl 0 rfl) ?_
    refine va_slen hx hb hX hbl hbA hS dL_law_26 ?_
    refine lv_iconst (v := (4 : Int32)) hx hb dL_law_27 (by decide) ?_
    refine lv_isub hx hb dL_law_28 ?_
    refine lv_icmp_gt (tgt := 546) hx hb dL_law_29 (by decide) (fun c0 => ?_) (fun c0 => ?_)
    · refine lv_iconst (v := (1 : Int32)) hx hb dL_law_546 (by decide) ?_
      refine va_forget (fun q hq => hS.2.2 q hq) ?_
      refine W.widen (k := 1064) (n := 10862) (by omega) (by omega) ?_
      exact lw_ret hx hb hr hlocks dL_law_547
    · have hin : 4 * k + 3 < L := by
        have h9 := Int32.not_lt.mp c0
        rw [Int32.le_iff_toInt_le, ex4, nI_toInt (by omega)] at h9
        have h8 : (Int32.ofNat L - 4).toInt = (L : Int) - 4 := pk_sub_toInt (a := L) (b := 4) (by omega) (by omega)
        rw [h8] at h9
        omega
      have hkk : k < 512 := by omega
      have i0 : vp_in x4 L := by rw [ex4]; exact vp_in_nI (by omega) (by omega)
      have i1 : vp_in (x4 + (1 : Int32)) L := by rw [ex4]; exact (vp_in_nI (n := 4 * k + 1) (by omega) (by omega) : vp_in (nI (4 * k + 1)) L) |> (fun z => by rw [nI_1]; exact z)
      have i2 : vp_in (x4 + (2 : Int32)) L := by rw [ex4]; exact (vp_in_nI (n := 4 * k + 2) (by omega) (by omega) : vp_in (nI (4 * k + 2)) L) |> (fun z => by rw [show (2 : Int32) = nI 2 from rfl, nI_add]; exact z)
      have i3 : vp_in (x4 + (3 : Int32)) L := by rw [ex4]; exact (vp_in_nI (n := 4 * k + 3) (by omega) (by omega) : vp_in (nI (4 * k + 3)) L) |> (fun z => by rw [show (3 : Int32) = nI 3 from rfl, nI_add]; exact z)
      have hend : ∀ (M N : Mem) (f : Nat → Int64) (H : Heap) (locs : List Loc) (ls : Array Slot), I (k + 1) M N → LH D cI cJ ad aR o (fun q : Nat => s.heap.size ≤ q) s H locs M N f → lv_has ls 7 [(0, .ref b), (1, .ref (ad 0)), (2, .ref (aR 0)), (3, .ref o), (4, .int x4)] → W p l e room_1 s m #[Value.ref b] below meth c H locs (36 + (k + 1)) (2646 + 6 * (k + 1)) (lw_Z below #[Value.ref b] s) (F0 m 540 ls []) := by
        intro M N f H locs ls hRel h hl
        refine lv_iinc (v := nI (4 * (k + 1))) (lv' := [(4, .int (nI (4 * (k + 1)))), (0, .ref b), (1, .ref (ad 0)), (2, .ref (aR 0)), (3, .ref o)]) hx hb dL_law_540 hl (k := 4) rfl (by rw [ex4]; exact (nI_add (4 * k) 4)) (by decide) rfl (fun ls hl => ?_)
        refine lv_goto (tgt := 23) hx hb dL_law_543 (by decide) ?_
        exact ih (k + 1) _ M N f H locs ls (by omega) (by omega) rfl hRel h (lv_sub hl [1, 2, 3, 4, 0] rfl)
      have hcs : 36 + k ≤ room_1.cells ∧ 2646 + 6 * k ≤ room_1.slots := ⟨by show _ ≤ 1064; omega, by show _ ≤ 10862; omega⟩
      have hcs1 : 36 + k + 1 ≤ room_1.cells ∧ 2646 + 6 * k + 6 ≤ room_1.slots := ⟨by show _ ≤ 1064; omega, by show _ ≤ 10862; omega⟩
      refine lv_aload_n hx hb dL_law_32 rfl (lv_at hl 0 rfl) ?_
      refine lv_iload hx hb dL_law_33 (lv_at hl 4 rfl) ?_
      refine va_sld hx hb hX hbl hbA hS i0 dL_law_35 ?_
      refine lv_bipush (v := (15 : Int32)) hx hb dL_law_36 (by decide) ?_
      refine lv_iand hx hb dL_law_38 ?_
      refine (Classical.em (((xs x4.toNatClampNeg) &&& (15 : Int32)) = (0 : Int32))).elim (fun w0 => ?_) (fun w0 => ?_)
      · refine sw_in (k := (0 : Int32)) (tgt := 96) w0 hx hb dL_law_39 (by decide) (by decide) rfl (by decide) ?_
        obtain ⟨q1, q2, q3, q4⟩ := hI.2.1 k M N hkk hRel (xs (x4 + (1 : Int32)).toNatClampNeg) (xs (x4 + (2 : Int32)).toNatClampNeg) (xs (x4 + (3 : Int32)).toNatClampNeg)
        refine lv_aload_n hx hb dL_law_96 rfl (lv_at hl 1 rfl) ?_
        refine lv_aload_n hx hb dL_law_97 rfl (lv_at hl 0 rfl) ?_
        refine lv_iload hx hb dL_law_98 (lv_at hl 4 rfl) ?_
        refine lv_iconst (v := (1 : Int32)) hx hb dL_law_100 (by decide) ?_
        refine lv_iadd hx hb dL_law_101 ?_
        refine va_sld hx hb hX hbl hbA h.2.2.2.1 i1 dL_law_102 ?_
        refine lv_aload_n hx hb dL_law_103 rfl (lv_at hl 0 rfl) ?_
        refine lv_iload hx hb dL_law_104 (lv_at hl 4 rfl) ?_
        refine lv_iconst (v := (2 : Int32)) hx hb dL_law_106 (by decide) ?_
        refine lv_iadd hx hb dL_law_107 ?_
        refine va_sld hx hb hX hbl hbA h.2.2.2.1 i2 dL_law_108 ?_
        refine lv_aload_n hx hb dL_law_109 rfl (lv_at hl 0 rfl) ?_
        refine lv_iload hx hb dL_law_110 (lv_at hl 4 rfl) ?_
        refine lv_iconst (v := (3 : Int32)) hx hb dL_law_112 (by decide) ?_
        refine lv_iadd hx hb dL_law_113 ?_
        refine va_sld hx hb hX hbl hbA h.2.2.2.1 i3 dL_law_114 ?_
        refine wf_cvz (As := [.int (xs (x4 + (1 : Int32)).toNatClampNeg), .int (xs (x4 + (2 : Int32)).toNatClampNeg), .int (xs (x4 + (3 : Int32)).toNatClampNeg)]) (rest := []) hcs C (lh_N h) (c_X5_program M (xs (x4 + (1 : Int32)).toNatClampNeg) (xs (x4 + (2 : Int32)).toNatClampNeg) (xs (x4 + (3 : Int32)).toNatClampNeg) q1) yw_X5_program in_mL_30 hl.1 rfl rfl (Nat.le_of_ble_eq_true rfl) ⟨(Nat.le_of_ble_eq_true rfl), (Nat.le_of_ble_eq_true rfl)⟩ dL_law_115 (fun u r H1 locs1 e1 z1 h1 hD1 hk1 => ?_)
        have h := lh_jN h h1 hD1 hk1
        refine lv_aload_n hx hb dL_law_118 rfl (lv_at hl 2 rfl) ?_
        refine lv_aload_n hx hb dL_law_119 rfl (lv_at hl 0 rfl) ?_
        refine lv_iload hx hb dL_law_120 (lv_at hl 4 rfl) ?_
        refine lv_iconst (v := (1 : Int32)) hx hb dL_law_122 (by decide) ?_
        refine lv_iadd hx hb dL_law_123 ?_
        refine va_sld hx hb hX hbl hbA h.2.2.2.1 i1 dL_law_124 ?_
        refine lv_aload_n hx hb dL_law_125 rfl (lv_at hl 0 rfl) ?_
        refine lv_iload hx hb dL_law_126 (lv_at hl 4 rfl) ?_
        refine lv_iconst (v := (2 : Int32)) hx hb dL_law_128 (by decide) ?_
        refine lv_iadd hx hb dL_law_129 ?_
        refine va_sld hx hb hX hbl hbA h.2.2.2.1 i2 dL_law_130 ?_
        refine lv_aload_n hx hb dL_law_131 rfl (lv_at hl 0 rfl) ?_
        refine lv_iload hx hb dL_law_132 (lv_at hl 4 rfl) ?_
        refine lv_iconst (v := (3 : Int32)) hx hb dL_law_134 (by decide) ?_
        refine lv_iadd hx hb dL_law_135 ?_
        refine va_sld hx hb hX hbl hbA h.2.2.2.1 i3 dL_law_136 ?_
        refine wf_cvz (As := [.int (xs (x4 + (1 : Int32)).toNatClampNeg), .int (xs (x4 + (2 : Int32)).toNatClampNeg), .int (xs (x4 + (3 : Int32)).toNatClampNeg)]) (rest := [.int r]) hcs C (lh_R h) (c_X6_program N (xs (x4 + (1 : Int32)).toNatClampNeg) (xs (x4 + (2 : Int32)).toNatClampNeg) (xs (x4 + (3 : Int32)).toNatClampNeg) q2) yw_X6_program in_mL_34 hl.1 rfl rfl (Nat.le_of_ble_eq_true rfl) ⟨(Nat.le_of_ble_eq_true rfl), (Nat.le_of_ble_eq_true rfl)⟩ dL_law_137 (fun u2 r2 H2 locs2 e2 z2 h2 hD2 hk2 => ?_)
        have h := lh_jR h h2 hD2 hk2
        rw [e1, e2] at q3 q4
        refine lv_icmp_eq (tgt := 540) hx hb dL_law_140 (by decide) (fun _ => ?_) (fun c9 => absurd q3 c9)
        refine W.widen (k := 36 + (k + 1)) (n := 2646 + 6 * (k + 1)) (by omega) (by omega) ?_
        exact hend _ _ _ _ _ _ q4 h hl
      refine (Classical.em (((xs x4.toNatClampNeg) &&& (15 : Int32)) = (1 : Int32))).elim (fun w1 => ?_) (fun w1 => ?_)
      · refine sw_in (k := (1 : Int32)) (tgt := 145) w1 hx hb dL_law_39 (by decide) (by decide) rfl (by decide) ?_
        obtain ⟨q1, q2, q3, q4⟩ := hI.2.2.1 k M N hkk hRel 
        refine lv_aload_n hx hb dL_law_145 rfl (lv_at hl 1 rfl) ?_
        refine wf_cvi (As := []) (rest := []) hcs C (lh_N h) (c_X5_seal M  q1) yw_X5_seal in_mL_35 hl.1 rfl rfl (Nat.le_of_ble_eq_true rfl) ⟨(Nat.le_of_ble_eq_true rfl), (Nat.le_of_ble_eq_true rfl)⟩ dL_law_146 (fun u r H1 locs1 e1 h1 hD1 hk1 => ?_)
        have h := lh_jN h h1 hD1 hk1
        refine lv_aload_n hx hb dL_law_149 rfl (lv_at hl 2 rfl) ?_
        refine wf_cvi (As := []) (rest := [.int r]) hcs C (lh_R h) (c_X6_seal N  q2) yw_X6_seal in_mL_39 hl.1 rfl rfl (Nat.le_of_ble_eq_true rfl) ⟨(Nat.le_of_ble_eq_true rfl), (Nat.le_of_ble_eq_true rfl)⟩ dL_law_150 (fun u2 r2 H2 locs2 e2 h2 hD2 hk2 => ?_)
        have h := lh_jR h h2 hD2 hk2
        rw [e1, e2] at q3 q4
        refine lv_icmp_eq (tgt := 540) hx hb dL_law_153 (by decide) (fun _ => ?_) (fun c9 => absurd q3 c9)
        refine W.widen (k := 36 + (k + 1)) (n := 2646 + 6 * (k + 1)) (by omega) (by omega) ?_
        exact hend _ _ _ _ _ _ q4 h hl
      refine (Classical.em (((xs x4.toNatClampNeg) &&& (15 : Int32)) = (2 : Int32))).elim (fun w2 => ?_) (fun w2 => ?_)
      · refine sw_in (k := (2 : Int32)) (tgt := 158) w2 hx hb dL_law_39 (by decide) (by decide) rfl (by decide) ?_
        obtain ⟨s1, s2, s3⟩ := hI.2.2.2.2.2.2.2.2.2.1 k M N hkk hRel (xs (x4 + (1 : Int32)).toNatClampNeg)
        refine (Classical.em (M 10 0 = 0)).elim (fun d0 => ?_) (fun d0 => ?_)
        · obtain ⟨q2, q3, q4⟩ := s1 d0
          refine lv_aload_n hx hb dL_law_158 rfl (lv_at hl 1 rfl) ?_
          refine lv_aload_n hx hb dL_law_159 rfl (lv_at hl 0 rfl) ?_
          refine lv_iload hx hb dL_law_160 (lv_at hl 4 rfl) ?_
          refine lv_iconst (v := (1 : Int32)) hx hb dL_law_162 (by decide) ?_
          refine lv_iadd hx hb dL_law_163 ?_
          refine va_sld hx hb hX hbl hbA h.2.2.2.1 i1 dL_law_164 ?_
          refine lv_aload_n hx hb dL_law_165 rfl (lv_at hl 3 rfl) ?_
          refine lh_call (n := 3) (rest := []) C h (h_slot_1 M f (xs (x4 + (1 : Int32)).toNatClampNeg) hlt d0) in_cL_slot in_sL_slot in_iL in_mL_40 (by decide +kernel) hl.1 rfl rfl (Nat.le_of_ble_eq_true rfl) ⟨(Nat.le_of_ble_eq_true rfl), (Nat.le_of_ble_eq_true rfl)⟩ hcs1 dL_law_166 (fun u g r H1 locs1 e1 h => ?_)
          obtain ⟨e1a, e1b⟩ := Prod.mk.inj e1
          obtain ⟨e1c, e1d⟩ := Prod.mk.inj e1a
          subst e1b
          refine lv_istore (lv' := [(5, .int (1 : Int32)), (0, .ref b), (1, .ref (ad 0)), (2, .ref (aR 0)), (3, .ref o), (4, .int x4)]) hx hb dL_law_169 hl (by decide) rfl (fun ls hl => ?_)
          refine lv_aload_n hx hb dL_law_171 rfl (lv_at hl 3 rfl) ?_
          refine lv_aload_n hx hb dL_law_172 rfl (lv_at hl 1 rfl) ?_
          refine lv_iload hx hb dL_law_173 (lv_at hl 5 rfl) ?_
          refine lv_iconst (v := (1 : Int32)) hx hb dL_law_175 (by decide) ?_
          refine lv_iadd hx hb dL_law_176 ?_
          refine va_sld hx hb hX hbl hbA h.2.2.2.1 i1 dL_law_177 ?_
          refine wf_cvi (As := [.int (xs (x4 + (1 : Int32)).toNatClampNeg)]) (rest := []) hcs1 C (lh_R h) (c_X6_slot N (xs (x4 + (1 : Int32)).toNatClampNeg) q2) yw_X6_slot in_mL_45 hl.1 rfl rfl (Nat.le_of_ble_eq_true rfl) ⟨(Nat.le_of_ble_eq_true rfl), (Nat.le_of_ble_eq_true rfl)⟩ dL_law_178 (fun u2 r2 H2 locs2 e2 h2 hD2 hk2 => ?_)
          have h := lh_jR h h2 hD2 hk2
          refine lv_istore (lv' := [(6, .int r2), (5, .int (1 : Int32)), (0, .ref b), (1, .ref (ad 0)), (2, .ref (aR 0)), (3, .ref o), (4, .int x4)]) hx hb dL_law_181 hl (by decide) rfl (fun ls hl => ?_)
          refine lv_aload_n hx hb dL_law_183 rfl (lv_at hl 4 rfl) ?_
          refine wf_cvi (As := []) (rest := []) hcs1 C (lh_R h) (c_X6_thrown u2) yw_X6_thrown in_mL_46 hl.1 rfl rfl (Nat.le_of_ble_eq_true rfl) ⟨(Nat.le_of_ble_eq_true rfl), (Nat.le_of_ble_eq_true rfl)⟩ dL_law_184 (fun u3 r3 H3 locs3 e3 h3 hD3 hk3 => ?_)
          have h := lh_jR h h3 hD3 hk3
          obtain ⟨rfl, rfl⟩ := Prod.mk.inj e3
          rw [e2] at q3 q4
          refine lv_iload hx hb dL_law_187 (lv_at hl 1 rfl) ?_
          refine lv_icmp_eq (tgt := 194) hx hb dL_law_189 (by decide) (fun _ => ?_) (fun c9 => absurd q3 c9)
          refine lv_iload hx hb dL_law_194 (lv_at hl 1 rfl) ?_
          refine lv_if_ne (tgt := 211) hx hb dL_law_196 (by decide) (fun _ => ?_) (fun c9 => absurd c9 (by decide))
          refine lv_goto (tgt := 540) hx hb dL_law_211 (by decide) ?_
          subst e1c
          exact hend _ _ _ _ _ _ q4 h (lv_sub hl [2, 3, 4, 5, 6] rfl)
        · refine (Classical.em ((xs (x4 + (1 : Int32)).toNatClampNeg) < 0 ∨ 500 < (xs (x4 + (1 : Int32)).toNatClampNeg))).elim (fun d1 => ?_) (fun d1 => ?_)
          · obtain ⟨q2, q3, q4⟩ := s2 d0 d1
            refine lv_aload_n hx hb dL_law_158 rfl (lv_at hl 1 rfl) ?_
            refine lv_aload_n hx hb dL_law_159 rfl (lv_at hl 0 rfl) ?_
            refine lv_iload hx hb dL_law_160 (lv_at hl 4 rfl) ?_
            refine lv_iconst (v := (1 : Int32)) hx hb dL_law_162 (by decide) ?_
            refine lv_iadd hx hb dL_law_163 ?_
            refine va_sld hx hb hX hbl hbA h.2.2.2.1 i1 dL_law_164 ?_
            refine lv_aload_n hx hb dL_law_165 rfl (lv_at hl 3 rfl) ?_
            refine lh_call (n := 3) (rest := []) C h (h_slot_2 M f (xs (x4 + (1 : Int32)).toNatClampNeg) hlt d0 d1) in_cL_slot in_sL_slot in_iL in_mL_40 (by decide +kernel) hl.1 rfl rfl (Nat.le_of_ble_eq_true rfl) ⟨(Nat.le_of_ble_eq_true rfl), (Nat.le_of_ble_eq_true rfl)⟩ hcs1 dL_law_166 (fun u g r H1 locs1 e1 h => ?_)
            obtain ⟨e1a, e1b⟩ := Prod.mk.inj e1
            obtain ⟨e1c, e1d⟩ := Prod.mk.inj e1a
            subst e1b
            refine lv_istore (lv' := [(5, .int (2 : Int32)), (0, .ref b), (1, .ref (ad 0)), (2, .ref (aR 0)), (3, .ref o), (4, .int x4)]) hx hb dL_law_169 hl (by decide) rfl (fun ls hl => ?_)
            refine lv_aload_n hx hb dL_law_171 rfl (lv_at hl 3 rfl) ?_
            refine lv_aload_n hx hb dL_law_172 rfl (lv_at hl 1 rfl) ?_
            refine lv_iload hx hb dL_law_173 (lv_at hl 5 rfl) ?_
            refine lv_iconst (v := (1 : Int32)) hx hb dL_law_175 (by decide) ?_
            refine lv_iadd hx hb dL_law_176 ?_
            refine va_sld hx hb hX hbl hbA h.2.2.2.1 i1 dL_law_177 ?_
            refine wf_cvi (As := [.int (xs (x4 + (1 : Int32)).toNatClampNeg)]) (rest := []) hcs1 C (lh_R h) (c_X6_slot N (xs (x4 + (1 : Int32)).toNatClampNeg) q2) yw_X6_slot in_mL_45 hl.1 rfl rfl (Nat.le_of_ble_eq_true rfl) ⟨(Nat.le_of_ble_eq_true rfl), (Nat.le_of_ble_eq_true rfl)⟩ dL_law_178 (fun u2 r2 H2 locs2 e2 h2 hD2 hk2 => ?_)
            have h := lh_jR h h2 hD2 hk2
            refine lv_istore (lv' := [(6, .int r2), (5, .int (2 : Int32)), (0, .ref b), (1, .ref (ad 0)), (2, .ref (aR 0)), (3, .ref o), (4, .int x4)]) hx hb dL_law_181 hl (by decide) rfl (fun ls hl => ?_)
            refine lv_aload_n hx hb dL_law_183 rfl (lv_at hl 4 rfl) ?_
            refine wf_cvi (As := []) (rest := []) hcs1 C (lh_R h) (c_X6_thrown u2) yw_X6_thrown in_mL_46 hl.1 rfl rfl (Nat.le_of_ble_eq_true rfl) ⟨(Nat.le_of_ble_eq_true rfl), (Nat.le_of_ble_eq_true rfl)⟩ dL_law_184 (fun u3 r3 H3 locs3 e3 h3 hD3 hk3 => ?_)
            have h := lh_jR h h3 hD3 hk3
            obtain ⟨rfl, rfl⟩ := Prod.mk.inj e3
            rw [e2] at q3 q4
            refine lv_iload hx hb dL_law_187 (lv_at hl 1 rfl) ?_
            refine lv_icmp_eq (tgt := 194) hx hb dL_law_189 (by decide) (fun _ => ?_) (fun c9 => absurd q3 c9)
            refine lv_iload hx hb dL_law_194 (lv_at hl 1 rfl) ?_
            refine lv_if_ne (tgt := 211) hx hb dL_law_196 (by decide) (fun _ => ?_) (fun c9 => absurd c9 (by decide))
            refine lv_goto (tgt := 540) hx hb dL_law_211 (by decide) ?_
            subst e1c
            exact hend _ _ _ _ _ _ q4 h (lv_sub hl [2, 3, 4, 5, 6] rfl)
          · obtain ⟨q1, q2, q3, q4, q5⟩ := s3 d0 d1
            refine lv_aload_n hx hb dL_law_158 rfl (lv_at hl 1 rfl) ?_
            refine lv_aload_n hx hb dL_law_159 rfl (lv_at hl 0 rfl) ?_
            refine lv_iload hx hb dL_law_160 (lv_at hl 4 rfl) ?_
            refine lv_iconst (v := (1 : Int32)) hx hb dL_law_162 (by decide) ?_
            refine lv_iadd hx hb dL_law_163 ?_
            refine va_sld hx hb hX hbl hbA h.2.2.2.1 i1 dL_law_164 ?_
            refine lv_aload_n hx hb dL_law_165 rfl (lv_at hl 3 rfl) ?_
            refine lh_call (n := 3) (rest := []) C h (h_slot_0 M f (xs (x4 + (1 : Int32)).toNatClampNeg) q1) in_cL_slot in_sL_slot in_iL in_mL_40 (by decide +kernel) hl.1 rfl rfl (Nat.le_of_ble_eq_true rfl) ⟨(Nat.le_of_ble_eq_true rfl), (Nat.le_of_ble_eq_true rfl)⟩ hcs1 dL_law_166 (fun u g r H1 locs1 e1 h => ?_)
            obtain ⟨e1a, e1b⟩ := Prod.mk.inj e1
            obtain ⟨e1c, e1d⟩ := Prod.mk.inj e1a
            subst e1b
            refine lv_istore (lv' := [(5, .int (0 : Int32)), (0, .ref b), (1, .ref (ad 0)), (2, .ref (aR 0)), (3, .ref o), (4, .int x4)]) hx hb dL_law_169 hl (by decide) rfl (fun ls hl => ?_)
            refine lv_aload_n hx hb dL_law_171 rfl (lv_at hl 3 rfl) ?_
            refine lv_aload_n hx hb dL_law_172 rfl (lv_at hl 1 rfl) ?_
            refine lv_iload hx hb dL_law_173 (lv_at hl 5 rfl) ?_
            refine lv_iconst (v := (1 : Int32)) hx hb dL_law_175 (by decide) ?_
            refine lv_iadd hx hb dL_law_176 ?_
            refine va_sld hx hb hX hbl hbA h.2.2.2.1 i1 dL_law_177 ?_
            refine wf_cvi (As := [.int (xs (x4 + (1 : Int32)).toNatClampNeg)]) (rest := []) hcs1 C (lh_R h) (c_X6_slot N (xs (x4 + (1 : Int32)).toNatClampNeg) q2) yw_X6_slot in_mL_45 hl.1 rfl rfl (Nat.le_of_ble_eq_true rfl) ⟨(Nat.le_of_ble_eq_true rfl), (Nat.le_of_ble_eq_true rfl)⟩ dL_law_178 (fun u2 r2 H2 locs2 e2 h2 hD2 hk2 => ?_)
            have h := lh_jR h h2 hD2 hk2
            refine lv_istore (lv' := [(6, .int r2), (5, .int (0 : Int32)), (0, .ref b), (1, .ref (ad 0)), (2, .ref (aR 0)), (3, .ref o), (4, .int x4)]) hx hb dL_law_181 hl (by decide) rfl (fun ls hl => ?_)
            refine lv_aload_n hx hb dL_law_183 rfl (lv_at hl 4 rfl) ?_
            refine wf_cvi (As := []) (rest := []) hcs1 C (lh_R h) (c_X6_thrown u2) yw_X6_thrown in_mL_46 hl.1 rfl rfl (Nat.le_of_ble_eq_true rfl) ⟨(Nat.le_of_ble_eq_true rfl), (Nat.le_of_ble_eq_true rfl)⟩ dL_law_184 (fun u3 r3 H3 locs3 e3 h3 hD3 hk3 => ?_)
            have h := lh_jR h h3 hD3 hk3
            obtain ⟨rfl, rfl⟩ := Prod.mk.inj e3
            rw [e2] at q3 q4 q5
            refine lv_iload hx hb dL_law_187 (lv_at hl 1 rfl) ?_
            refine lv_icmp_eq (tgt := 194) hx hb dL_law_189 (by decide) (fun _ => ?_) (fun c9 => absurd q3 c9)
            refine lv_iload hx hb dL_law_194 (lv_at hl 1 rfl) ?_
            refine lv_if_ne (tgt := 211) hx hb dL_law_196 (by decide) (fun c9 => absurd rfl c9) (fun _ => ?_)
            refine lv_aload_n hx hb dL_law_199 rfl (lv_at hl 5 rfl) ?_
            refine lv_iconst (v := (0 : Int32)) hx hb dL_law_200 (by decide) ?_
            refine va_lald hx hb h.1 h.2.1 35 1 rfl rfl (i := (0 : Int32)) (vp_l (by decide)) dL_law_201 ?_
            refine lv_iload hx hb dL_law_202 (lv_at hl 0 rfl) ?_
            refine lv_i2l (v := r2.toInt64) hx hb dL_law_204 rfl ?_
            refine W.lcmp hx hb dL_law_205 ?_
            subst e1d
            subst e1c
            refine lv_if_eq (tgt := 211) hx hb dL_law_206 (by decide) (fun _ => ?_) (fun c9 => absurd (lg_q q4) c9)
            refine lv_goto (tgt := 540) hx hb dL_law_211 (by decide) ?_
            exact hend _ _ _ _ _ _ q5 h (lv_sub hl [2, 3, 4, 5, 6] rfl)
      refine (Classical.em (((xs x4.toNatClampNeg) &&& (15 : Int32)) = (3 : Int32))).elim (fun w3 => ?_) (fun w3 => ?_)
      · refine sw_in (k := (3 : Int32)) (tgt := 214) w3 hx hb dL_law_39 (by decide) (by decide) rfl (by decide) ?_
        obtain ⟨q3, q4⟩ := hI.2.2.2.1 k M N hkk hRel (xs (x4 + (1 : Int32)).toNatClampNeg)
        refine lv_aload_n hx hb dL_law_214 rfl (lv_at hl 1 rfl) ?_
        refine lv_aload_n hx hb dL_law_215 rfl (lv_at hl 0 rfl) ?_
        refine lv_iload hx hb dL_law_216 (lv_at hl 4 rfl) ?_
        refine lv_iconst (v := (1 : Int32)) hx hb dL_law_218 (by decide) ?_
        refine lv_iadd hx hb dL_law_219 ?_
        refine va_sld hx hb hX hbl hbA h.2.2.2.1 i1 dL_law_220 ?_
        refine wf_cvz (As := [.int (xs (x4 + (1 : Int32)).toNatClampNeg)]) (rest := []) hcs C (lh_N h) (c_X5_cut M (xs (x4 + (1 : Int32)).toNatClampNeg)) yw_X5_cut in_mL_49 hl.1 rfl rfl (Nat.le_of_ble_eq_true rfl) ⟨(Nat.le_of_ble_eq_true rfl), (Nat.le_of_ble_eq_true rfl)⟩ dL_law_221 (fun u r H1 locs1 e1 z1 h1 hD1 hk1 => ?_)
        have h := lh_jN h h1 hD1 hk1
        refine lv_aload_n hx hb dL_law_224 rfl (lv_at hl 2 rfl) ?_
        refine lv_aload_n hx hb dL_law_225 rfl (lv_at hl 0 rfl) ?_
        refine lv_iload hx hb dL_law_226 (lv_at hl 4 rfl) ?_
        refine lv_iconst (v := (1 : Int32)) hx hb dL_law_228 (by decide) ?_
        refine lv_iadd hx hb dL_law_229 ?_
        refine va_sld hx hb hX hbl hbA h.2.2.2.1 i1 dL_law_230 ?_
        refine wf_cvz (As := [.int (xs (x4 + (1 : Int32)).toNatClampNeg)]) (rest := [.int r]) hcs C (lh_R h) (c_X6_cut N (xs (x4 + (1 : Int32)).toNatClampNeg)) yw_X6_cut in_mL_53 hl.1 rfl rfl (Nat.le_of_ble_eq_true rfl) ⟨(Nat.le_of_ble_eq_true rfl), (Nat.le_of_ble_eq_true rfl)⟩ dL_law_231 (fun u2 r2 H2 locs2 e2 z2 h2 hD2 hk2 => ?_)
        have h := lh_jR h h2 hD2 hk2
        rw [e1, e2] at q3 q4
        refine lv_icmp_eq (tgt := 540) hx hb dL_law_234 (by decide) (fun _ => ?_) (fun c9 => absurd q3 c9)
        refine W.widen (k := 36 + (k + 1)) (n := 2646 + 6 * (k + 1)) (by omega) (by omega) ?_
        exact hend _ _ _ _ _ _ q4 h hl
      refine (Classical.em (((xs x4.toNatClampNeg) &&& (15 : Int32)) = (4 : Int32))).elim (fun w4 => ?_) (fun w4 => ?_)
      · refine sw_in (k := (4 : Int32)) (tgt := 239) w4 hx hb dL_law_39 (by decide) (by decide) rfl (by decide) ?_
        obtain ⟨q1, q2, q3, q4⟩ := hI.2.2.2.2.1 k M N hkk hRel (xs (x4 + (1 : Int32)).toNatClampNeg) (xs (x4 + (2 : Int32)).toNatClampNeg)
        refine lv_aload_n hx hb dL_law_239 rfl (lv_at hl 1 rfl) ?_
        refine lv_aload_n hx hb dL_law_240 rfl (lv_at hl 0 rfl) ?_
        refine lv_iload hx hb dL_law_241 (lv_at hl 4 rfl) ?_
        refine lv_iconst (v := (1 : Int32)) hx hb dL_law_243 (by decide) ?_
        refine lv_iadd hx hb dL_law_244 ?_
        refine va_sld hx hb hX hbl hbA h.2.2.2.1 i1 dL_law_245 ?_
        refine lv_aload_n hx hb dL_law_246 rfl (lv_at hl 0 rfl) ?_
        refine lv_iload hx hb dL_law_247 (lv_at hl 4 rfl) ?_
        refine lv_iconst (v := (2 : Int32)) hx hb dL_law_249 (by decide) ?_
        refine lv_iadd hx hb dL_law_250 ?_
        refine va_sld hx hb hX hbl hbA h.2.2.2.1 i2 dL_law_251 ?_
        refine wf_cvz (As := [.int (xs (x4 + (1 : Int32)).toNatClampNeg), .int (xs (x4 + (2 : Int32)).toNatClampNeg)]) (rest := []) hcs C (lh_N h) (c_X5_sense M (xs (x4 + (1 : Int32)).toNatClampNeg) (xs (x4 + (2 : Int32)).toNatClampNeg) q1) yw_X5_sense in_mL_54 hl.1 rfl rfl (Nat.le_of_ble_eq_true rfl) ⟨(Nat.le_of_ble_eq_true rfl), (Nat.le_of_ble_eq_true rfl)⟩ dL_law_252 (fun u r H1 locs1 e1 z1 h1 hD1 hk1 => ?_)
        have h := lh_jN h h1 hD1 hk1
        refine lv_aload_n hx hb dL_law_255 rfl (lv_at hl 2 rfl) ?_
        refine lv_aload_n hx hb dL_law_256 rfl (lv_at hl 0 rfl) ?_
        refine lv_iload hx hb dL_law_257 (lv_at hl 4 rfl) ?_
        refine lv_iconst (v := (1 : Int32)) hx hb dL_law_259 (by decide) ?_
        refine lv_iadd hx hb dL_law_260 ?_
        refine va_sld hx hb hX hbl hbA h.2.2.2.1 i1 dL_law_261 ?_
        refine lv_aload_n hx hb dL_law_262 rfl (lv_at hl 0 rfl) ?_
        refine lv_iload hx hb dL_law_263 (lv_at hl 4 rfl) ?_
        refine lv_iconst (v := (2 : Int32)) hx hb dL_law_265 (by decide) ?_
        refine lv_iadd hx hb dL_law_266 ?_
        refine va_sld hx hb hX hbl hbA h.2.2.2.1 i2 dL_law_267 ?_
        refine wf_cvz (As := [.int (xs (x4 + (1 : Int32)).toNatClampNeg), .int (xs (x4 + (2 : Int32)).toNatClampNeg)]) (rest := [.int r]) hcs C (lh_R h) (c_X6_sense N (xs (x4 + (1 : Int32)).toNatClampNeg) (xs (x4 + (2 : Int32)).toNatClampNeg) q2) yw_X6_sense in_mL_58 hl.1 rfl rfl (Nat.le_of_ble_eq_true rfl) ⟨(Nat.le_of_ble_eq_true rfl), (Nat.le_of_ble_eq_true rfl)⟩ dL_law_268 (fun u2 r2 H2 locs2 e2 z2 h2 hD2 hk2 => ?_)
        have h := lh_jR h h2 hD2 hk2
        rw [e1, e2] at q3 q4
        refine lv_icmp_eq (tgt := 540) hx hb dL_law_271 (by decide) (fun _ => ?_) (fun c9 => absurd q3 c9)
        refine W.widen (k := 36 + (k + 1)) (n := 2646 + 6 * (k + 1)) (by omega) (by omega) ?_
        exact hend _ _ _ _ _ _ q4 h hl
      refine (Classical.em (((xs x4.toNatClampNeg) &&& (15 : Int32)) = (5 : Int32))).elim (fun w5 => ?_) (fun w5 => ?_)
      · refine sw_in (k := (5 : Int32)) (tgt := 276) w5 hx hb dL_law_39 (by decide) (by decide) rfl (by decide) ?_
        refine (Classical.em ((xs (x4 + (2 : Int32)).toNatClampNeg) = 0)).elim (fun dz => ?_) (fun dz => ?_)
        · obtain ⟨s1, s2⟩ := hI.2.2.2.2.2.2.2.2.2.2.1 k M N hkk hRel (xs (x4 + (1 : Int32)).toNatClampNeg) (0 : Int32)
          refine (Classical.em ((xs (x4 + (1 : Int32)).toNatClampNeg) < 0 ∨ 164 ≤ (xs (x4 + (1 : Int32)).toNatClampNeg))).elim (fun d0 => ?_) (fun d0 => ?_)
          · obtain ⟨q2, q3, q4⟩ := s1 d0
            refine lv_aload_n hx hb dL_law_276 rfl (lv_at hl 1 rfl) ?_
            refine lv_aload_n hx hb dL_law_277 rfl (lv_at hl 0 rfl) ?_
            refine lv_iload hx hb dL_law_278 (lv_at hl 4 rfl) ?_
            refine lv_iconst (v := (1 : Int32)) hx hb dL_law_280 (by decide) ?_
            refine lv_iadd hx hb dL_law_281 ?_
            refine va_sld hx hb hX hbl hbA h.2.2.2.1 i1 dL_law_282 ?_
            refine lv_aload_n hx hb dL_law_283 rfl (lv_at hl 0 rfl) ?_
            refine lv_iload hx hb dL_law_284 (lv_at hl 4 rfl) ?_
            refine lv_iconst (v := (2 : Int32)) hx hb dL_law_286 (by decide) ?_
            refine lv_iadd hx hb dL_law_287 ?_
            refine va_sld hx hb hX hbl hbA h.2.2.2.1 i2 dL_law_288 ?_
            refine lv_if_eq (tgt := 296) hx hb dL_law_289 (by decide) (fun _ => ?_) (fun c9 => absurd dz c9)
            refine lv_iconst (v := (0 : Int32)) hx hb dL_law_296 (by decide) ?_
            refine lv_aload_n hx hb dL_law_297 rfl (lv_at hl 3 rfl) ?_
            refine lh_call (n := 4) (rest := []) C h (h_kept_1 M f (xs (x4 + (1 : Int32)).toNatClampNeg) (0 : Int32) hlt d0) in_cL_kept in_sL_kept in_iL in_mL_59 (by decide +kernel) hl.1 rfl rfl (Nat.le_of_ble_eq_true rfl) ⟨(Nat.le_of_ble_eq_true rfl), (Nat.le_of_ble_eq_true rfl)⟩ hcs1 dL_law_298 (fun u g r H1 locs1 e1 h => ?_)
            obtain ⟨e1a, e1b⟩ := Prod.mk.inj e1
            obtain ⟨e1c, e1d⟩ := Prod.mk.inj e1a
            subst e1b
            refine lv_istore (lv' := [(5, .int (1 : Int32)), (0, .ref b), (1, .ref (ad 0)), (2, .ref (aR 0)), (3, .ref o), (4, .int x4)]) hx hb dL_law_301 hl (by decide) rfl (fun ls hl => ?_)
            refine lv_aload_n hx hb dL_law_303 rfl (lv_at hl 3 rfl) ?_
            refine lv_aload_n hx hb dL_law_304 rfl (lv_at hl 1 rfl) ?_
            refine lv_iload hx hb dL_law_305 (lv_at hl 5 rfl) ?_
            refine lv_iconst (v := (1 : Int32)) hx hb dL_law_307 (by decide) ?_
            refine lv_iadd hx hb dL_law_308 ?_
            refine va_sld hx hb hX hbl hbA h.2.2.2.1 i1 dL_law_309 ?_
            refine lv_aload_n hx hb dL_law_310 rfl (lv_at hl 1 rfl) ?_
            refine lv_iload hx hb dL_law_311 (lv_at hl 5 rfl) ?_
            refine lv_iconst (v := (2 : Int32)) hx hb dL_law_313 (by decide) ?_
            refine lv_iadd hx hb dL_law_314 ?_
            refine va_sld hx hb hX hbl hbA h.2.2.2.1 i2 dL_law_315 ?_
            refine lv_if_eq (tgt := 323) hx hb dL_law_316 (by decide) (fun _ => ?_) (fun c9 => absurd dz c9)
            refine lv_iconst (v := (0 : Int32)) hx hb dL_law_323 (by decide) ?_
            refine wf_cvi (As := [.int (xs (x4 + (1 : Int32)).toNatClampNeg), .int (0 : Int32)]) (rest := []) hcs1 C (lh_R h) (c_X6_kept N (xs (x4 + (1 : Int32)).toNatClampNeg) (0 : Int32) q2) yw_X6_kept in_mL_62 hl.1 rfl rfl (Nat.le_of_ble_eq_true rfl) ⟨(Nat.le_of_ble_eq_true rfl), (Nat.le_of_ble_eq_true rfl)⟩ dL_law_324 (fun u2 r2 H2 locs2 e2 h2 hD2 hk2 => ?_)
            have h := lh_jR h h2 hD2 hk2
            refine lv_istore (lv' := [(6, .int r2), (5, .int (1 : Int32)), (0, .ref b), (1, .ref (ad 0)), (2, .ref (aR 0)), (3, .ref o), (4, .int x4)]) hx hb dL_law_327 hl (by decide) rfl (fun ls hl => ?_)
            refine lv_aload_n hx hb dL_law_329 rfl (lv_at hl 4 rfl) ?_
            refine wf_cvi (As := []) (rest := []) hcs1 C (lh_R h) (c_X6_thrown u2) yw_X6_thrown in_mL_46 hl.1 rfl rfl (Nat.le_of_ble_eq_true rfl) ⟨(Nat.le_of_ble_eq_true rfl), (Nat.le_of_ble_eq_true rfl)⟩ dL_law_330 (fun u3 r3 H3 locs3 e3 h3 hD3 hk3 => ?_)
            have h := lh_jR h h3 hD3 hk3
            obtain ⟨rfl, rfl⟩ := Prod.mk.inj e3
            rw [e2] at q3 q4
            refine lv_iload hx hb dL_law_333 (lv_at hl 1 rfl) ?_
            refine lv_icmp_eq (tgt := 340) hx hb dL_law_335 (by decide) (fun _ => ?_) (fun c9 => absurd q3 c9)
            refine lv_iload hx hb dL_law_340 (lv_at hl 1 rfl) ?_
            refine lv_if_ne (tgt := 357) hx hb dL_law_342 (by decide) (fun _ => ?_) (fun c9 => absurd c9 (by decide))
            refine lv_goto (tgt := 540) hx hb dL_law_357 (by decide) ?_
            subst e1c
            exact hend _ _ _ _ _ _ q4 h (lv_sub hl [2, 3, 4, 5, 6] rfl)
          · obtain ⟨q1, q2, q3, q4, q5⟩ := s2 d0
            refine lv_aload_n hx hb dL_law_276 rfl (lv_at hl 1 rfl) ?_
            refine lv_aload_n hx hb dL_law_277 rfl (lv_at hl 0 rfl) ?_
            refine lv_iload hx hb dL_law_278 (lv_at hl 4 rfl) ?_
            refine lv_iconst (v := (1 : Int32)) hx hb dL_law_280 (by decide) ?_
            refine lv_iadd hx hb dL_law_281 ?_
            refine va_sld hx hb hX hbl hbA h.2.2.2.1 i1 dL_law_282 ?_
            refine lv_aload_n hx hb dL_law_283 rfl (lv_at hl 0 rfl) ?_
            refine lv_iload hx hb dL_law_284 (lv_at hl 4 rfl) ?_
            refine lv_iconst (v := (2 : Int32)) hx hb dL_law_286 (by decide) ?_
            refine lv_iadd hx hb dL_law_287 ?_
            refine va_sld hx hb hX hbl hbA h.2.2.2.1 i2 dL_law_288 ?_
            refine lv_if_eq (tgt := 296) hx hb dL_law_289 (by decide) (fun _ => ?_) (fun c9 => absurd dz c9)
            refine lv_iconst (v := (0 : Int32)) hx hb dL_law_296 (by decide) ?_
            refine lv_aload_n hx hb dL_law_297 rfl (lv_at hl 3 rfl) ?_
            refine lh_call (n := 4) (rest := []) C h (h_kept_0 M f (xs (x4 + (1 : Int32)).toNatClampNeg) (0 : Int32) q1) in_cL_kept in_sL_kept in_iL in_mL_59 (by decide +kernel) hl.1 rfl rfl (Nat.le_of_ble_eq_true rfl) ⟨(Nat.le_of_ble_eq_true rfl), (Nat.le_of_ble_eq_true rfl)⟩ hcs1 dL_law_298 (fun u g r H1 locs1 e1 h => ?_)
            obtain ⟨e1a, e1b⟩ := Prod.mk.inj e1
            obtain ⟨e1c, e1d⟩ := Prod.mk.inj e1a
            subst e1b
            refine lv_istore (lv' := [(5, .int (0 : Int32)), (0, .ref b), (1, .ref (ad 0)), (2, .ref (aR 0)), (3, .ref o), (4, .int x4)]) hx hb dL_law_301 hl (by decide) rfl (fun ls hl => ?_)
            refine lv_aload_n hx hb dL_law_303 rfl (lv_at hl 3 rfl) ?_
            refine lv_aload_n hx hb dL_law_304 rfl (lv_at hl 1 rfl) ?_
            refine lv_iload hx hb dL_law_305 (lv_at hl 5 rfl) ?_
            refine lv_iconst (v := (1 : Int32)) hx hb dL_law_307 (by decide) ?_
            refine lv_iadd hx hb dL_law_308 ?_
            refine va_sld hx hb hX hbl hbA h.2.2.2.1 i1 dL_law_309 ?_
            refine lv_aload_n hx hb dL_law_310 rfl (lv_at hl 1 rfl) ?_
            refine lv_iload hx hb dL_law_311 (lv_at hl 5 rfl) ?_
            refine lv_iconst (v := (2 : Int32)) hx hb dL_law_313 (by decide) ?_
            refine lv_iadd hx hb dL_law_314 ?_
            refine va_sld hx hb hX hbl hbA h.2.2.2.1 i2 dL_law_315 ?_
            refine lv_if_eq (tgt := 323) hx hb dL_law_316 (by decide) (fun _ => ?_) (fun c9 => absurd dz c9)
            refine lv_iconst (v := (0 : Int32)) hx hb dL_law_323 (by decide) ?_
            refine wf_cvi (As := [.int (xs (x4 + (1 : Int32)).toNatClampNeg), .int (0 : Int32)]) (rest := []) hcs1 C (lh_R h) (c_X6_kept N (xs (x4 + (1 : Int32)).toNatClampNeg) (0 : Int32) q2) yw_X6_kept in_mL_62 hl.1 rfl rfl (Nat.le_of_ble_eq_true rfl) ⟨(Nat.le_of_ble_eq_true rfl), (Nat.le_of_ble_eq_true rfl)⟩ dL_law_324 (fun u2 r2 H2 locs2 e2 h2 hD2 hk2 => ?_)
            have h := lh_jR h h2 hD2 hk2
            refine lv_istore (lv' := [(6, .int r2), (5, .int (0 : Int32)), (0, .ref b), (1, .ref (ad 0)), (2, .ref (aR 0)), (3, .ref o), (4, .int x4)]) hx hb dL_law_327 hl (by decide) rfl (fun ls hl => ?_)
            refine lv_aload_n hx hb dL_law_329 rfl (lv_at hl 4 rfl) ?_
            refine wf_cvi (As := []) (rest := []) hcs1 C (lh_R h) (c_X6_thrown u2) yw_X6_thrown in_mL_46 hl.1 rfl rfl (Nat.le_of_ble_eq_true rfl) ⟨(Nat.le_of_ble_eq_true rfl), (Nat.le_of_ble_eq_true rfl)⟩ dL_law_330 (fun u3 r3 H3 locs3 e3 h3 hD3 hk3 => ?_)
            have h := lh_jR h h3 hD3 hk3
            obtain ⟨rfl, rfl⟩ := Prod.mk.inj e3
            rw [e2] at q3 q4 q5
            refine lv_iload hx hb dL_law_333 (lv_at hl 1 rfl) ?_
            refine lv_icmp_eq (tgt := 340) hx hb dL_law_335 (by decide) (fun _ => ?_) (fun c9 => absurd q3 c9)
            refine lv_iload hx hb dL_law_340 (lv_at hl 1 rfl) ?_
            refine lv_if_ne (tgt := 357) hx hb dL_law_342 (by decide) (fun c9 => absurd rfl c9) (fun _ => ?_)
            refine lv_aload_n hx hb dL_law_345 rfl (lv_at hl 5 rfl) ?_
            refine lv_iconst (v := (0 : Int32)) hx hb dL_law_346 (by decide) ?_
            refine va_lald hx hb h.1 h.2.1 35 1 rfl rfl (i := (0 : Int32)) (vp_l (by decide)) dL_law_347 ?_
            refine lv_iload hx hb dL_law_348 (lv_at hl 0 rfl) ?_
            refine lv_i2l (v := r2.toInt64) hx hb dL_law_350 rfl ?_
            refine W.lcmp hx hb dL_law_351 ?_
            subst e1d
            subst e1c
            refine lv_if_eq (tgt := 357) hx hb dL_law_352 (by decide) (fun _ => ?_) (fun c9 => absurd (lg_q q4) c9)
            refine lv_goto (tgt := 540) hx hb dL_law_357 (by decide) ?_
            exact hend _ _ _ _ _ _ q5 h (lv_sub hl [2, 3, 4, 5, 6] rfl)
        · obtain ⟨s1, s2⟩ := hI.2.2.2.2.2.2.2.2.2.2.1 k M N hkk hRel (xs (x4 + (1 : Int32)).toNatClampNeg) (1 : Int32)
          refine (Classical.em ((xs (x4 + (1 : Int32)).toNatClampNeg) < 0 ∨ 164 ≤ (xs (x4 + (1 : Int32)).toNatClampNeg))).elim (fun d0 => ?_) (fun d0 => ?_)
          · obtain ⟨q2, q3, q4⟩ := s1 d0
            refine lv_aload_n hx hb dL_law_276 rfl (lv_at hl 1 rfl) ?_
            refine lv_aload_n hx hb dL_law_277 rfl (lv_at hl 0 rfl) ?_
            refine lv_iload hx hb dL_law_278 (lv_at hl 4 rfl) ?_
            refine lv_iconst (v := (1 : Int32)) hx hb dL_law_280 (by decide) ?_
            refine lv_iadd hx hb dL_law_281 ?_
            refine va_sld hx hb hX hbl hbA h.2.2.2.1 i1 dL_law_282 ?_
            refine lv_aload_n hx hb dL_law_283 rfl (lv_at hl 0 rfl) ?_
            refine lv_iload hx hb dL_law_284 (lv_at hl 4 rfl) ?_
            refine lv_iconst (v := (2 : Int32)) hx hb dL_law_286 (by decide) ?_
            refine lv_iadd hx hb dL_law_287 ?_
            refine va_sld hx hb hX hbl hbA h.2.2.2.1 i2 dL_law_288 ?_
            refine lv_if_eq (tgt := 296) hx hb dL_law_289 (by decide) (fun c9 => absurd c9 dz) (fun _ => ?_)
            refine lv_iconst (v := (1 : Int32)) hx hb dL_law_292 (by decide) ?_
            refine lv_goto (tgt := 297) hx hb dL_law_293 (by decide) ?_
            refine lv_aload_n hx hb dL_law_297 rfl (lv_at hl 3 rfl) ?_
            refine lh_call (n := 4) (rest := []) C h (h_kept_1 M f (xs (x4 + (1 : Int32)).toNatClampNeg) (1 : Int32) hlt d0) in_cL_kept in_sL_kept in_iL in_mL_59 (by decide +kernel) hl.1 rfl rfl (Nat.le_of_ble_eq_true rfl) ⟨(Nat.le_of_ble_eq_true rfl), (Nat.le_of_ble_eq_true rfl)⟩ hcs1 dL_law_298 (fun u g r H1 locs1 e1 h => ?_)
            obtain ⟨e1a, e1b⟩ := Prod.mk.inj e1
            obtain ⟨e1c, e1d⟩ := Prod.mk.inj e1a
            subst e1b
            refine lv_istore (lv' := [(5, .int (1 : Int32)), (0, .ref b), (1, .ref (ad 0)), (2, .ref (aR 0)), (3, .ref o), (4, .int x4)]) hx hb dL_law_301 hl (by decide) rfl (fun ls hl => ?_)
            refine lv_aload_n hx hb dL_law_303 rfl (lv_at hl 3 rfl) ?_
            refine lv_aload_n hx hb dL_law_304 rfl (lv_at hl 1 rfl) ?_
            refine lv_iload hx hb dL_law_305 (lv_at hl 5 rfl) ?_
            refine lv_iconst (v := (1 : Int32)) hx hb dL_law_307 (by decide) ?_
            refine lv_iadd hx hb dL_law_308 ?_
            refine va_sld hx hb hX hbl hbA h.2.2.2.1 i1 dL_law_309 ?_
            refine lv_aload_n hx hb dL_law_310 rfl (lv_at hl 1 rfl) ?_
            refine lv_iload hx hb dL_law_311 (lv_at hl 5 rfl) ?_
            refine lv_iconst (v := (2 : Int32)) hx hb dL_law_313 (by decide) ?_
            refine lv_iadd hx hb dL_law_314 ?_
            refine va_sld hx hb hX hbl hbA h.2.2.2.1 i2 dL_law_315 ?_
            refine lv_if_eq (tgt := 323) hx hb dL_law_316 (by decide) (fun c9 => absurd c9 dz) (fun _ => ?_)
            refine lv_iconst (v := (1 : Int32)) hx hb dL_law_319 (by decide) ?_
            refine lv_goto (tgt := 324) hx hb dL_law_320 (by decide) ?_
            refine wf_cvi (As := [.int (xs (x4 + (1 : Int32)).toNatClampNeg), .int (1 : Int32)]) (rest := []) hcs1 C (lh_R h) (c_X6_kept N (xs (x4 + (1 : Int32)).toNatClampNeg) (1 : Int32) q2) yw_X6_kept in_mL_62 hl.1 rfl rfl (Nat.le_of_ble_eq_true rfl) ⟨(Nat.le_of_ble_eq_true rfl), (Nat.le_of_ble_eq_true rfl)⟩ dL_law_324 (fun u2 r2 H2 locs2 e2 h2 hD2 hk2 => ?_)
            have h := lh_jR h h2 hD2 hk2
            refine lv_istore (lv' := [(6, .int r2), (5, .int (1 : Int32)), (0, .ref b), (1, .ref (ad 0)), (2, .ref (aR 0)), (3, .ref o), (4, .int x4)]) hx hb dL_law_327 hl (by decide) rfl (fun ls hl => ?_)
            refine lv_aload_n hx hb dL_law_329 rfl (lv_at hl 4 rfl) ?_
            refine wf_cvi (As := []) (rest := []) hcs1 C (lh_R h) (c_X6_thrown u2) yw_X6_thrown in_mL_46 hl.1 rfl rfl (Nat.le_of_ble_eq_true rfl) ⟨(Nat.le_of_ble_eq_true rfl), (Nat.le_of_ble_eq_true rfl)⟩ dL_law_330 (fun u3 r3 H3 locs3 e3 h3 hD3 hk3 => ?_)
            have h := lh_jR h h3 hD3 hk3
            obtain ⟨rfl, rfl⟩ := Prod.mk.inj e3
            rw [e2] at q3 q4
            refine lv_iload hx hb dL_law_333 (lv_at hl 1 rfl) ?_
            refine lv_icmp_eq (tgt := 340) hx hb dL_law_335 (by decide) (fun _ => ?_) (fun c9 => absurd q3 c9)
            refine lv_iload hx hb dL_law_340 (lv_at hl 1 rfl) ?_
            refine lv_if_ne (tgt := 357) hx hb dL_law_342 (by decide) (fun _ => ?_) (fun c9 => absurd c9 (by decide))
            refine lv_goto (tgt := 540) hx hb dL_law_357 (by decide) ?_
            subst e1c
            exact hend _ _ _ _ _ _ q4 h (lv_sub hl [2, 3, 4, 5, 6] rfl)
          · obtain ⟨q1, q2, q3, q4, q5⟩ := s2 d0
            refine lv_aload_n hx hb dL_law_276 rfl (lv_at hl 1 rfl) ?_
            refine lv_aload_n hx hb dL_law_277 rfl (lv_at hl 0 rfl) ?_
            refine lv_iload hx hb dL_law_278 (lv_at hl 4 rfl) ?_
            refine lv_iconst (v := (1 : Int32)) hx hb dL_law_280 (by decide) ?_
            refine lv_iadd hx hb dL_law_281 ?_
            refine va_sld hx hb hX hbl hbA h.2.2.2.1 i1 dL_law_282 ?_
            refine lv_aload_n hx hb dL_law_283 rfl (lv_at hl 0 rfl) ?_
            refine lv_iload hx hb dL_law_284 (lv_at hl 4 rfl) ?_
            refine lv_iconst (v := (2 : Int32)) hx hb dL_law_286 (by decide) ?_
            refine lv_iadd hx hb dL_law_287 ?_
            refine va_sld hx hb hX hbl hbA h.2.2.2.1 i2 dL_law_288 ?_
            refine lv_if_eq (tgt := 296) hx hb dL_law_289 (by decide) (fun c9 => absurd c9 dz) (fun _ => ?_)
            refine lv_iconst (v := (1 : Int32)) hx hb dL_law_292 (by decide) ?_
            refine lv_goto (tgt := 297) hx hb dL_law_293 (by decide) ?_
            refine lv_aload_n hx hb dL_law_297 rfl (lv_at hl 3 rfl) ?_
            refine lh_call (n := 4) (rest := []) C h (h_kept_0 M f (xs (x4 + (1 : Int32)).toNatClampNeg) (1 : Int32) q1) in_cL_kept in_sL_kept in_iL in_mL_59 (by decide +kernel) hl.1 rfl rfl (Nat.le_of_ble_eq_true rfl) ⟨(Nat.le_of_ble_eq_true rfl), (Nat.le_of_ble_eq_true rfl)⟩ hcs1 dL_law_298 (fun u g r H1 locs1 e1 h => ?_)
            obtain ⟨e1a, e1b⟩ := Prod.mk.inj e1
            obtain ⟨e1c, e1d⟩ := Prod.mk.inj e1a
            subst e1b
            refine lv_istore (lv' := [(5, .int (0 : Int32)), (0, .ref b), (1, .ref (ad 0)), (2, .ref (aR 0)), (3, .ref o), (4, .int x4)]) hx hb dL_law_301 hl (by decide) rfl (fun ls hl => ?_)
            refine lv_aload_n hx hb dL_law_303 rfl (lv_at hl 3 rfl) ?_
            refine lv_aload_n hx hb dL_law_304 rfl (lv_at hl 1 rfl) ?_
            refine lv_iload hx hb dL_law_305 (lv_at hl 5 rfl) ?_
            refine lv_iconst (v := (1 : Int32)) hx hb dL_law_307 (by decide) ?_
            refine lv_iadd hx hb dL_law_308 ?_
            refine va_sld hx hb hX hbl hbA h.2.2.2.1 i1 dL_law_309 ?_
            refine lv_aload_n hx hb dL_law_310 rfl (lv_at hl 1 rfl) ?_
            refine lv_iload hx hb dL_law_311 (lv_at hl 5 rfl) ?_
            refine lv_iconst (v := (2 : Int32)) hx hb dL_law_313 (by decide) ?_
            refine lv_iadd hx hb dL_law_314 ?_
            refine va_sld hx hb hX hbl hbA h.2.2.2.1 i2 dL_law_315 ?_
            refine lv_if_eq (tgt := 323) hx hb dL_law_316 (by decide) (fun c9 => absurd c9 dz) (fun _ => ?_)
            refine lv_iconst (v := (1 : Int32)) hx hb dL_law_319 (by decide) ?_
            refine lv_goto (tgt := 324) hx hb dL_law_320 (by decide) ?_
            refine wf_cvi (As := [.int (xs (x4 + (1 : Int32)).toNatClampNeg), .int (1 : Int32)]) (rest := []) hcs1 C (lh_R h) (c_X6_kept N (xs (x4 + (1 : Int32)).toNatClampNeg) (1 : Int32) q2) yw_X6_kept in_mL_62 hl.1 rfl rfl (Nat.le_of_ble_eq_true rfl) ⟨(Nat.le_of_ble_eq_true rfl), (Nat.le_of_ble_eq_true rfl)⟩ dL_law_324 (fun u2 r2 H2 locs2 e2 h2 hD2 hk2 => ?_)
            have h := lh_jR h h2 hD2 hk2
            refine lv_istore (lv' := [(6, .int r2), (5, .int (0 : Int32)), (0, .ref b), (1, .ref (ad 0)), (2, .ref (aR 0)), (3, .ref o), (4, .int x4)]) hx hb dL_law_327 hl (by decide) rfl (fun ls hl => ?_)
            refine lv_aload_n hx hb dL_law_329 rfl (lv_at hl 4 rfl) ?_
            refine wf_cvi (As := []) (rest := []) hcs1 C (lh_R h) (c_X6_thrown u2) yw_X6_thrown in_mL_46 hl.1 rfl rfl (Nat.le_of_ble_eq_true rfl) ⟨(Nat.le_of_ble_eq_true rfl), (Nat.le_of_ble_eq_true rfl)⟩ dL_law_330 (fun u3 r3 H3 locs3 e3 h3 hD3 hk3 => ?_)
            have h := lh_jR h h3 hD3 hk3
            obtain ⟨rfl, rfl⟩ := Prod.mk.inj e3
            rw [e2] at q3 q4 q5
            refine lv_iload hx hb dL_law_333 (lv_at hl 1 rfl) ?_
            refine lv_icmp_eq (tgt := 340) hx hb dL_law_335 (by decide) (fun _ => ?_) (fun c9 => absurd q3 c9)
            refine lv_iload hx hb dL_law_340 (lv_at hl 1 rfl) ?_
            refine lv_if_ne (tgt := 357) hx hb dL_law_342 (by decide) (fun c9 => absurd rfl c9) (fun _ => ?_)
            refine lv_aload_n hx hb dL_law_345 rfl (lv_at hl 5 rfl) ?_
            refine lv_iconst (v := (0 : Int32)) hx hb dL_law_346 (by decide) ?_
            refine va_lald hx hb h.1 h.2.1 35 1 rfl rfl (i := (0 : Int32)) (vp_l (by decide)) dL_law_347 ?_
            refine lv_iload hx hb dL_law_348 (lv_at hl 0 rfl) ?_
            refine lv_i2l (v := r2.toInt64) hx hb dL_law_350 rfl ?_
            refine W.lcmp hx hb dL_law_351 ?_
            subst e1d
            subst e1c
            refine lv_if_eq (tgt := 357) hx hb dL_law_352 (by decide) (fun _ => ?_) (fun c9 => absurd (lg_q q4) c9)
            refine lv_goto (tgt := 540) hx hb dL_law_357 (by decide) ?_
            exact hend _ _ _ _ _ _ q5 h (lv_sub hl [2, 3, 4, 5, 6] rfl)
      refine (Classical.em (((xs x4.toNatClampNeg) &&& (15 : Int32)) = (6 : Int32))).elim (fun w6 => ?_) (fun w6 => ?_)
      · refine sw_in (k := (6 : Int32)) (tgt := 360) w6 hx hb dL_law_39 (by decide) (by decide) rfl (by decide) ?_
        obtain ⟨q1, q2, q3, q4⟩ := hI.2.2.2.2.2.1 k M N hkk hRel (xs (x4 + (1 : Int32)).toNatClampNeg) (xs (x4 + (2 : Int32)).toNatClampNeg)
        refine lv_aload_n hx hb dL_law_360 rfl (lv_at hl 1 rfl) ?_
        refine lv_aload_n hx hb dL_law_361 rfl (lv_at hl 0 rfl) ?_
        refine lv_iload hx hb dL_law_362 (lv_at hl 4 rfl) ?_
        refine lv_iconst (v := (1 : Int32)) hx hb dL_law_364 (by decide) ?_
        refine lv_iadd hx hb dL_law_365 ?_
        refine va_sld hx hb hX hbl hbA h.2.2.2.1 i1 dL_law_366 ?_
        refine lv_aload_n hx hb dL_law_367 rfl (lv_at hl 0 rfl) ?_
        refine lv_iload hx hb dL_law_368 (lv_at hl 4 rfl) ?_
        refine lv_iconst (v := (2 : Int32)) hx hb dL_law_370 (by decide) ?_
        refine lv_iadd hx hb dL_law_371 ?_
        refine va_sld hx hb hX hbl hbA h.2.2.2.1 i2 dL_law_372 ?_
        refine wf_cvi (As := [.int (xs (x4 + (1 : Int32)).toNatClampNeg), .int (xs (x4 + (2 : Int32)).toNatClampNeg)]) (rest := []) hcs C (lh_N h) (c_X5_aired M (xs (x4 + (1 : Int32)).toNatClampNeg) (xs (x4 + (2 : Int32)).toNatClampNeg) q1) yw_X5_aired in_mL_63 hl.1 rfl rfl (Nat.le_of_ble_eq_true rfl) ⟨(Nat.le_of_ble_eq_true rfl), (Nat.le_of_ble_eq_true rfl)⟩ dL_law_373 (fun u r H1 locs1 e1 h1 hD1 hk1 => ?_)
        have h := lh_jN h h1 hD1 hk1
        refine lv_aload_n hx hb dL_law_376 rfl (lv_at hl 2 rfl) ?_
        refine lv_aload_n hx hb dL_law_377 rfl (lv_at hl 0 rfl) ?_
        refine lv_iload hx hb dL_law_378 (lv_at hl 4 rfl) ?_
        refine lv_iconst (v := (1 : Int32)) hx hb dL_law_380 (by decide) ?_
        refine lv_iadd hx hb dL_law_381 ?_
        refine va_sld hx hb hX hbl hbA h.2.2.2.1 i1 dL_law_382 ?_
        refine lv_aload_n hx hb dL_law_383 rfl (lv_at hl 0 rfl) ?_
        refine lv_iload hx hb dL_law_384 (lv_at hl 4 rfl) ?_
        refine lv_iconst (v := (2 : Int32)) hx hb dL_law_386 (by decide) ?_
        refine lv_iadd hx hb dL_law_387 ?_
        refine va_sld hx hb hX hbl hbA h.2.2.2.1 i2 dL_law_388 ?_
        refine wf_cvi (As := [.int (xs (x4 + (1 : Int32)).toNatClampNeg), .int (xs (x4 + (2 : Int32)).toNatClampNeg)]) (rest := [.int r]) hcs C (lh_R h) (c_X6_aired N (xs (x4 + (1 : Int32)).toNatClampNeg) (xs (x4 + (2 : Int32)).toNatClampNeg) q2) yw_X6_aired in_mL_67 hl.1 rfl rfl (Nat.le_of_ble_eq_true rfl) ⟨(Nat.le_of_ble_eq_true rfl), (Nat.le_of_ble_eq_true rfl)⟩ dL_law_389 (fun u2 r2 H2 locs2 e2 h2 hD2 hk2 => ?_)
        have h := lh_jR h h2 hD2 hk2
        obtain ⟨rfl, rfl⟩ := Prod.mk.inj e1
        rw [e2] at q3 q4
        refine lv_icmp_eq (tgt := 540) hx hb dL_law_392 (by decide) (fun _ => ?_) (fun c9 => absurd q3 c9)
        refine W.widen (k := 36 + (k + 1)) (n := 2646 + 6 * (k + 1)) (by omega) (by omega) ?_
        exact hend _ _ _ _ _ _ q4 h hl
      refine (Classical.em (((xs x4.toNatClampNeg) &&& (15 : Int32)) = (7 : Int32))).elim (fun w7 => ?_) (fun w7 => ?_)
      · refine sw_in (k := (7 : Int32)) (tgt := 397) w7 hx hb dL_law_39 (by decide) (by decide) rfl (by decide) ?_
        obtain ⟨s1, s2⟩ := hI.2.2.2.2.2.2.2.2.2.2.2 k M N hkk hRel (xs (x4 + (1 : Int32)).toNatClampNeg)
        refine (Classical.em (f_X3_farSideHas M (xs (x4 + (1 : Int32)).toNatClampNeg) = 0)).elim (fun d0 => ?_) (fun d0 => ?_)
        · obtain ⟨q2, q3, q4⟩ := s1 d0
          refine lv_aload_n hx hb dL_law_397 rfl (lv_at hl 1 rfl) ?_
          refine lv_aload_n hx hb dL_law_398 rfl (lv_at hl 0 rfl) ?_
          refine lv_iload hx hb dL_law_399 (lv_at hl 4 rfl) ?_
          refine lv_iconst (v := (1 : Int32)) hx hb dL_law_401 (by decide) ?_
          refine lv_iadd hx hb dL_law_402 ?_
          refine va_sld hx hb hX hbl hbA h.2.2.2.1 i1 dL_law_403 ?_
          refine lv_aload_n hx hb dL_law_404 rfl (lv_at hl 3 rfl) ?_
          refine lh_call (n := 3) (rest := []) C h (h_heard_1 M f (xs (x4 + (1 : Int32)).toNatClampNeg) hlt d0) in_cL_heard in_sL_heard in_iL in_mL_68 (by decide +kernel) hl.1 rfl rfl (Nat.le_of_ble_eq_true rfl) ⟨(Nat.le_of_ble_eq_true rfl), (Nat.le_of_ble_eq_true rfl)⟩ hcs1 dL_law_405 (fun u g r H1 locs1 e1 h => ?_)
          obtain ⟨e1a, e1b⟩ := Prod.mk.inj e1
          obtain ⟨e1c, e1d⟩ := Prod.mk.inj e1a
          subst e1b
          refine lv_istore (lv' := [(5, .int (1 : Int32)), (0, .ref b), (1, .ref (ad 0)), (2, .ref (aR 0)), (3, .ref o), (4, .int x4)]) hx hb dL_law_408 hl (by decide) rfl (fun ls hl => ?_)
          refine lv_aload_n hx hb dL_law_410 rfl (lv_at hl 3 rfl) ?_
          refine lv_aload_n hx hb dL_law_411 rfl (lv_at hl 1 rfl) ?_
          refine lv_iload hx hb dL_law_412 (lv_at hl 5 rfl) ?_
          refine lv_iconst (v := (1 : Int32)) hx hb dL_law_414 (by decide) ?_
          refine lv_iadd hx hb dL_law_415 ?_
          refine va_sld hx hb hX hbl hbA h.2.2.2.1 i1 dL_law_416 ?_
          refine wf_cvi (As := [.int (xs (x4 + (1 : Int32)).toNatClampNeg)]) (rest := []) hcs1 C (lh_R h) (c_X6_heard N (xs (x4 + (1 : Int32)).toNatClampNeg) q2) yw_X6_heard in_mL_70 hl.1 rfl rfl (Nat.le_of_ble_eq_true rfl) ⟨(Nat.le_of_ble_eq_true rfl), (Nat.le_of_ble_eq_true rfl)⟩ dL_law_417 (fun u2 r2 H2 locs2 e2 h2 hD2 hk2 => ?_)
          have h := lh_jR h h2 hD2 hk2
          refine lv_istore (lv' := [(6, .int r2), (5, .int (1 : Int32)), (0, .ref b), (1, .ref (ad 0)), (2, .ref (aR 0)), (3, .ref o), (4, .int x4)]) hx hb dL_law_420 hl (by decide) rfl (fun ls hl => ?_)
          refine lv_aload_n hx hb dL_law_422 rfl (lv_at hl 4 rfl) ?_
          refine wf_cvi (As := []) (rest := []) hcs1 C (lh_R h) (c_X6_thrown u2) yw_X6_thrown in_mL_46 hl.1 rfl rfl (Nat.le_of_ble_eq_true rfl) ⟨(Nat.le_of_ble_eq_true rfl), (Nat.le_of_ble_eq_true rfl)⟩ dL_law_423 (fun u3 r3 H3 locs3 e3 h3 hD3 hk3 => ?_)
          have h := lh_jR h h3 hD3 hk3
          obtain ⟨rfl, rfl⟩ := Prod.mk.inj e3
          rw [e2] at q3 q4
          refine lv_iload hx hb dL_law_426 (lv_at hl 1 rfl) ?_
          refine lv_icmp_eq (tgt := 433) hx hb dL_law_428 (by decide) (fun _ => ?_) (fun c9 => absurd q3 c9)
          refine lv_iload hx hb dL_law_433 (lv_at hl 1 rfl) ?_
          refine lv_if_ne (tgt := 450) hx hb dL_law_435 (by decide) (fun _ => ?_) (fun c9 => absurd c9 (by decide))
          refine lv_goto (tgt := 540) hx hb dL_law_450 (by decide) ?_
          subst e1c
          exact hend _ _ _ _ _ _ q4 h (lv_sub hl [2, 3, 4, 5, 6] rfl)
        · obtain ⟨q1, q2, q3, q4, q5⟩ := s2 d0
          refine lv_aload_n hx hb dL_law_397 rfl (lv_at hl 1 rfl) ?_
          refine lv_aload_n hx hb dL_law_398 rfl (lv_at hl 0 rfl) ?_
          refine lv_iload hx hb dL_law_399 (lv_at hl 4 rfl) ?_
          refine lv_iconst (v := (1 : Int32)) hx hb dL_law_401 (by decide) ?_
          refine lv_iadd hx hb dL_law_402 ?_
          refine va_sld hx hb hX hbl hbA h.2.2.2.1 i1 dL_law_403 ?_
          refine lv_aload_n hx hb dL_law_404 rfl (lv_at hl 3 rfl) ?_
          refine lh_call (n := 3) (rest := []) C h (h_heard_0 M f (xs (x4 + (1 : Int32)).toNatClampNeg) q1) in_cL_heard in_sL_heard in_iL in_mL_68 (by decide +kernel) hl.1 rfl rfl (Nat.le_of_ble_eq_true rfl) ⟨(Nat.le_of_ble_eq_true rfl), (Nat.le_of_ble_eq_true rfl)⟩ hcs1 dL_law_405 (fun u g r H1 locs1 e1 h => ?_)
          obtain ⟨e1a, e1b⟩ := Prod.mk.inj e1
          obtain ⟨e1c, e1d⟩ := Prod.mk.inj e1a
          subst e1b
          refine lv_istore (lv' := [(5, .int (0 : Int32)), (0, .ref b), (1, .ref (ad 0)), (2, .ref (aR 0)), (3, .ref o), (4, .int x4)]) hx hb dL_law_408 hl (by decide) rfl (fun ls hl => ?_)
          refine lv_aload_n hx hb dL_law_410 rfl (lv_at hl 3 rfl) ?_
          refine lv_aload_n hx hb dL_law_411 rfl (lv_at hl 1 rfl) ?_
          refine lv_iload hx hb dL_law_412 (lv_at hl 5 rfl) ?_
          refine lv_iconst (v := (1 : Int32)) hx hb dL_law_414 (by decide) ?_
          refine lv_iadd hx hb dL_law_415 ?_
          refine va_sld hx hb hX hbl hbA h.2.2.2.1 i1 dL_law_416 ?_
          refine wf_cvi (As := [.int (xs (x4 + (1 : Int32)).toNatClampNeg)]) (rest := []) hcs1 C (lh_R h) (c_X6_heard N (xs (x4 + (1 : Int32)).toNatClampNeg) q2) yw_X6_heard in_mL_70 hl.1 rfl rfl (Nat.le_of_ble_eq_true rfl) ⟨(Nat.le_of_ble_eq_true rfl), (Nat.le_of_ble_eq_true rfl)⟩ dL_law_417 (fun u2 r2 H2 locs2 e2 h2 hD2 hk2 => ?_)
          have h := lh_jR h h2 hD2 hk2
          refine lv_istore (lv' := [(6, .int r2), (5, .int (0 : Int32)), (0, .ref b), (1, .ref (ad 0)), (2, .ref (aR 0)), (3, .ref o), (4, .int x4)]) hx hb dL_law_420 hl (by decide) rfl (fun ls hl => ?_)
          refine lv_aload_n hx hb dL_law_422 rfl (lv_at hl 4 rfl) ?_
          refine wf_cvi (As := []) (rest := []) hcs1 C (lh_R h) (c_X6_thrown u2) yw_X6_thrown in_mL_46 hl.1 rfl rfl (Nat.le_of_ble_eq_true rfl) ⟨(Nat.le_of_ble_eq_true rfl), (Nat.le_of_ble_eq_true rfl)⟩ dL_law_423 (fun u3 r3 H3 locs3 e3 h3 hD3 hk3 => ?_)
          have h := lh_jR h h3 hD3 hk3
          obtain ⟨rfl, rfl⟩ := Prod.mk.inj e3
          rw [e2] at q3 q4 q5
          refine lv_iload hx hb dL_law_426 (lv_at hl 1 rfl) ?_
          refine lv_icmp_eq (tgt := 433) hx hb dL_law_428 (by decide) (fun _ => ?_) (fun c9 => absurd q3 c9)
          refine lv_iload hx hb dL_law_433 (lv_at hl 1 rfl) ?_
          refine lv_if_ne (tgt := 450) hx hb dL_law_435 (by decide) (fun c9 => absurd rfl c9) (fun _ => ?_)
          refine lv_aload_n hx hb dL_law_438 rfl (lv_at hl 5 rfl) ?_
          refine lv_iconst (v := (0 : Int32)) hx hb dL_law_439 (by decide) ?_
          refine va_lald hx hb h.1 h.2.1 35 1 rfl rfl (i := (0 : Int32)) (vp_l (by decide)) dL_law_440 ?_
          refine lv_iload hx hb dL_law_441 (lv_at hl 0 rfl) ?_
          refine lv_i2l (v := r2.toInt64) hx hb dL_law_443 rfl ?_
          refine W.lcmp hx hb dL_law_444 ?_
          subst e1d
          subst e1c
          refine lv_if_eq (tgt := 450) hx hb dL_law_445 (by decide) (fun _ => ?_) (fun c9 => absurd (lg_q q4) c9)
          refine lv_goto (tgt := 540) hx hb dL_law_450 (by decide) ?_
          exact hend _ _ _ _ _ _ q5 h (lv_sub hl [2, 3, 4, 5, 6] rfl)
      refine (Classical.em (((xs x4.toNatClampNeg) &&& (15 : Int32)) = (8 : Int32))).elim (fun w8 => ?_) (fun w8 => ?_)
      · refine sw_in (k := (8 : Int32)) (tgt := 453) w8 hx hb dL_law_39 (by decide) (by decide) rfl (by decide) ?_
        obtain ⟨q3, q4⟩ := hI.2.2.2.2.2.2.1 k M N hkk hRel (xs (x4 + (1 : Int32)).toNatClampNeg)
        refine lv_aload_n hx hb dL_law_453 rfl (lv_at hl 1 rfl) ?_
        refine lv_aload_n hx hb dL_law_454 rfl (lv_at hl 0 rfl) ?_
        refine lv_iload hx hb dL_law_455 (lv_at hl 4 rfl) ?_
        refine lv_iconst (v := (1 : Int32)) hx hb dL_law_457 (by decide) ?_
        refine lv_iadd hx hb dL_law_458 ?_
        refine va_sld hx hb hX hbl hbA h.2.2.2.1 i1 dL_law_459 ?_
        refine wf_cvi (As := [.int (xs (x4 + (1 : Int32)).toNatClampNeg)]) (rest := []) hcs C (lh_N h) (c_X5_state M (xs (x4 + (1 : Int32)).toNatClampNeg)) yw_X5_state in_mL_71 hl.1 rfl rfl (Nat.le_of_ble_eq_true rfl) ⟨(Nat.le_of_ble_eq_true rfl), (Nat.le_of_ble_eq_true rfl)⟩ dL_law_460 (fun u r H1 locs1 e1 h1 hD1 hk1 => ?_)
        have h := lh_jN h h1 hD1 hk1
        refine lv_aload_n hx hb dL_law_463 rfl (lv_at hl 2 rfl) ?_
        refine lv_aload_n hx hb dL_law_464 rfl (lv_at hl 0 rfl) ?_
        refine lv_iload hx hb dL_law_465 (lv_at hl 4 rfl) ?_
        refine lv_iconst (v := (1 : Int32)) hx hb dL_law_467 (by decide) ?_
        refine lv_iadd hx hb dL_law_468 ?_
        refine va_sld hx hb hX hbl hbA h.2.2.2.1 i1 dL_law_469 ?_
        refine wf_cvi (As := [.int (xs (x4 + (1 : Int32)).toNatClampNeg)]) (rest := [.int r]) hcs C (lh_R h) (c_X6_state N (xs (x4 + (1 : Int32)).toNatClampNeg)) yw_X6_state in_mL_74 hl.1 rfl rfl (Nat.le_of_ble_eq_true rfl) ⟨(Nat.le_of_ble_eq_true rfl), (Nat.le_of_ble_eq_true rfl)⟩ dL_law_470 (fun u2 r2 H2 locs2 e2 h2 hD2 hk2 => ?_)
        have h := lh_jR h h2 hD2 hk2
        obtain ⟨rfl, rfl⟩ := Prod.mk.inj e1
        rw [e2] at q3 q4
        refine lv_icmp_eq (tgt := 540) hx hb dL_law_473 (by decide) (fun _ => ?_) (fun c9 => absurd q3 c9)
        refine W.widen (k := 36 + (k + 1)) (n := 2646 + 6 * (k + 1)) (by omega) (by omega) ?_
        exact hend _ _ _ _ _ _ q4 h hl
      refine (Classical.em (((xs x4.toNatClampNeg) &&& (15 : Int32)) = (9 : Int32))).elim (fun w9 => ?_) (fun w9 => ?_)
      · refine sw_in (k := (9 : Int32)) (tgt := 478) w9 hx hb dL_law_39 (by decide) (by decide) rfl (by decide) ?_
        obtain ⟨q1, q2, q3, q4⟩ := hI.2.2.2.2.2.2.2.1 k M N hkk hRel (xs (x4 + (1 : Int32)).toNatClampNeg) (xs (x4 + (2 : Int32)).toNatClampNeg)
        refine lv_aload_n hx hb dL_law_478 rfl (lv_at hl 1 rfl) ?_
        refine lv_aload_n hx hb dL_law_479 rfl (lv_at hl 0 rfl) ?_
        refine lv_iload hx hb dL_law_480 (lv_at hl 4 rfl) ?_
        refine lv_iconst (v := (1 : Int32)) hx hb dL_law_482 (by decide) ?_
        refine lv_iadd hx hb dL_law_483 ?_
        refine va_sld hx hb hX hbl hbA h.2.2.2.1 i1 dL_law_484 ?_
        refine lv_aload_n hx hb dL_law_485 rfl (lv_at hl 0 rfl) ?_
        refine lv_iload hx hb dL_law_486 (lv_at hl 4 rfl) ?_
        refine lv_iconst (v := (2 : Int32)) hx hb dL_law_488 (by decide) ?_
        refine lv_iadd hx hb dL_law_489 ?_
        refine va_sld hx hb hX hbl hbA h.2.2.2.1 i2 dL_law_490 ?_
        refine wf_cvi (As := [.int (xs (x4 + (1 : Int32)).toNatClampNeg), .int (xs (x4 + (2 : Int32)).toNatClampNeg)]) (rest := []) hcs C (lh_N h) (c_X5_task M (xs (x4 + (1 : Int32)).toNatClampNeg) (xs (x4 + (2 : Int32)).toNatClampNeg) q1) yw_X5_task in_mL_75 hl.1 rfl rfl (Nat.le_of_ble_eq_true rfl) ⟨(Nat.le_of_ble_eq_true rfl), (Nat.le_of_ble_eq_true rfl)⟩ dL_law_491 (fun u r H1 locs1 e1 h1 hD1 hk1 => ?_)
        have h := lh_jN h h1 hD1 hk1
        refine lv_aload_n hx hb dL_law_494 rfl (lv_at hl 2 rfl) ?_
        refine lv_aload_n hx hb dL_law_495 rfl (lv_at hl 0 rfl) ?_
        refine lv_iload hx hb dL_law_496 (lv_at hl 4 rfl) ?_
        refine lv_iconst (v := (1 : Int32)) hx hb dL_law_498 (by decide) ?_
        refine lv_iadd hx hb dL_law_499 ?_
        refine va_sld hx hb hX hbl hbA h.2.2.2.1 i1 dL_law_500 ?_
        refine lv_aload_n hx hb dL_law_501 rfl (lv_at hl 0 rfl) ?_
        refine lv_iload hx hb dL_law_502 (lv_at hl 4 rfl) ?_
        refine lv_iconst (v := (2 : Int32)) hx hb dL_law_504 (by decide) ?_
        refine lv_iadd hx hb dL_law_505 ?_
        refine va_sld hx hb hX hbl hbA h.2.2.2.1 i2 dL_law_506 ?_
        refine wf_cvi (As := [.int (xs (x4 + (1 : Int32)).toNatClampNeg), .int (xs (x4 + (2 : Int32)).toNatClampNeg)]) (rest := [.int r]) hcs C (lh_R h) (c_X6_task N (xs (x4 + (1 : Int32)).toNatClampNeg) (xs (x4 + (2 : Int32)).toNatClampNeg) q2) yw_X6_task in_mL_78 hl.1 rfl rfl (Nat.le_of_ble_eq_true rfl) ⟨(Nat.le_of_ble_eq_true rfl), (Nat.le_of_ble_eq_true rfl)⟩ dL_law_507 (fun u2 r2 H2 locs2 e2 h2 hD2 hk2 => ?_)
        have h := lh_jR h h2 hD2 hk2
        obtain ⟨rfl, rfl⟩ := Prod.mk.inj e1
        rw [e2] at q3 q4
        refine lv_icmp_eq (tgt := 540) hx hb dL_law_510 (by decide) (fun _ => ?_) (fun c9 => absurd q3 c9)
        refine W.widen (k := 36 + (k + 1)) (n := 2646 + 6 * (k + 1)) (by omega) (by omega) ?_
        exact hend _ _ _ _ _ _ q4 h hl
      refine (Classical.em (((xs x4.toNatClampNeg) &&& (15 : Int32)) = (10 : Int32))).elim (fun w10 => ?_) (fun w10 => ?_)
      · refine sw_in (k := (10 : Int32)) (tgt := 515) w10 hx hb dL_law_39 (by decide) (by decide) rfl (by decide) ?_
        obtain ⟨q1, q2, q3, q4⟩ := hI.2.2.2.2.2.2.2.2.1 k M N hkk hRel (xs (x4 + (1 : Int32)).toNatClampNeg)
        refine lv_aload_n hx hb dL_law_515 rfl (lv_at hl 1 rfl) ?_
        refine lv_aload_n hx hb dL_law_516 rfl (lv_at hl 0 rfl) ?_
        refine lv_iload hx hb dL_law_517 (lv_at hl 4 rfl) ?_
        refine lv_iconst (v := (1 : Int32)) hx hb dL_law_519 (by decide) ?_
        refine lv_iadd hx hb dL_law_520 ?_
        refine va_sld hx hb hX hbl hbA h.2.2.2.1 i1 dL_law_521 ?_
        refine wf_cvi (As := [.int (xs (x4 + (1 : Int32)).toNatClampNeg)]) (rest := []) hcs C (lh_N h) (c_X5_register M (xs (x4 + (1 : Int32)).toNatClampNeg) q1) yw_X5_register in_mL_79 hl.1 rfl rfl (Nat.le_of_ble_eq_true rfl) ⟨(Nat.le_of_ble_eq_true rfl), (Nat.le_of_ble_eq_true rfl)⟩ dL_law_522 (fun u r H1 locs1 e1 h1 hD1 hk1 => ?_)
        have h := lh_jN h h1 hD1 hk1
        refine lv_aload_n hx hb dL_law_525 rfl (lv_at hl 2 rfl) ?_
        refine lv_aload_n hx hb dL_law_526 rfl (lv_at hl 0 rfl) ?_
        refine lv_iload hx hb dL_law_527 (lv_at hl 4 rfl) ?_
        refine lv_iconst (v := (1 : Int32)) hx hb dL_law_529 (by decide) ?_
        refine lv_iadd hx hb dL_law_530 ?_
        refine va_sld hx hb hX hbl hbA h.2.2.2.1 i1 dL_law_531 ?_
        refine wf_cvi (As := [.int (xs (x4 + (1 : Int32)).toNatClampNeg)]) (rest := [.int r]) hcs C (lh_R h) (c_X6_register N (xs (x4 + (1 : Int32)).toNatClampNeg) q2) yw_X6_register in_mL_82 hl.1 rfl rfl (Nat.le_of_ble_eq_true rfl) ⟨(Nat.le_of_ble_eq_true rfl), (Nat.le_of_ble_eq_true rfl)⟩ dL_law_532 (fun u2 r2 H2 locs2 e2 h2 hD2 hk2 => ?_)
        have h := lh_jR h h2 hD2 hk2
        obtain ⟨rfl, rfl⟩ := Prod.mk.inj e1
        rw [e2] at q3 q4
        refine lv_icmp_eq (tgt := 540) hx hb dL_law_535 (by decide) (fun _ => ?_) (fun c9 => absurd q3 c9)
        refine W.widen (k := 36 + (k + 1)) (n := 2646 + 6 * (k + 1)) (by omega) (by omega) ?_
        exact hend _ _ _ _ _ _ q4 h hl
      refine lv_tableOut (tgt := 540) hx hb dL_law_39 (by have n0 := lv_neT w0 (a := 0) (by decide); have n1 := lv_neT w1 (a := 1) (by decide); have n2 := lv_neT w2 (a := 2) (by decide); have n3 := lv_neT w3 (a := 3) (by decide); have n4 := lv_neT w4 (a := 4) (by decide); have n5 := lv_neT w5 (a := 5) (by decide); have n6 := lv_neT w6 (a := 6) (by decide); have n7 := lv_neT w7 (a := 7) (by decide); have n8 := lv_neT w8 (a := 8) (by decide); have n9 := lv_neT w9 (a := 9) (by decide); have n10 := lv_neT w10 (a := 10) (by decide); omega) (by decide) ?_
      refine W.widen (k := 36 + (k + 1)) (n := 2646 + 6 * (k + 1)) (by omega) (by omega) ?_
      exact hend _ _ _ _ _ _ (hI.1 k M N hRel) h hl
