/-! Calls that tell what stayed: for a caller whose world is larger than the callee's -/
section Fr
variable {p : Program} {l : Launch} {e : Env} {R : Room} {s : State} {m : MethodId} {args : Array Value} {below : List Frame} {meth : Method} {c : Code} {H : Heap} {locs : List Loc} {cells slots : Nat} {Q : State → Prop} {own : String} {cc : ByteArray} {nL : Nat} {rt : Option FieldType} {D : va_G} {tys : List (ClassId × FieldType)} {w : Mem → va_W} {A : Nat → Prop} {M : Mem} {pc : Nat} {ls : Array Slot}
theorem wf_cvi {As rest st0 : List Value} {b idx n : Nat} {y : MethodName} {cy : ByteArray} {nLy : Nat} {rm : Room} (hcs : cells ≤ R.cells ∧ slots ≤ R.slots) (C : CX p s m args meth c own cc nL rt) (h : WH D tys w A s H locs M) {res : Mem × Int32} (hM : KI l D tys w y cy nLy rm (.ref b :: As) M res) (Y : YV w b y cy nLy (some .int) rm n) (hlink : Cond.methodLink own idx y ∈ wG) (hsz : ls.size = nL) (hn : As.length = n) (hst : st0 = As.reverse ++ .ref b :: rest) (hW : (rest.map fun v => v.category).sum ≤ 8) (hR : rm.frames + 1 ≤ R.frames ∧ 8 + (nLy + 11) + rm.locals ≤ R.locals) (hd : decode cc pc = .ok (.invokevirtual idx, 3)) (kk : ∀ (u : Mem) (r : Int32) (H1 : Heap) (locs1 : List Loc), res = (u, r) → WH D tys w A s H1 locs1 u → va_D (va_A (w M) H.size) (w u) → (∀ q : Nat, q < H.size → ¬ va_A (w M) H.size q → H1[q]? = H[q]?) → W p l e R s m args below meth c H1 locs1 cells slots Q (F0 m (pc + 3) ls (.int r :: rest))) : W p l e R s m args below meth c H locs cells slots Q (F0 m pc ls st0) := by
  have hFc := wh_free h
  have hx := C.1
  have hb := C.2.1
  have hml := C.2.2.2.1
  have hown := C.2.2.2.2.1
  have hts := C.2.2.2.2.2.1
  have hS := h.2.2.2.1
  refine va_calli (va_runV (As := As) (rest := rest) ⟨hx, hb, hml, hown, hts⟩ (hM H.size) (wh_cwV C Y hlink hR) ⟨wh_blind, wh_recv h Y, wh_pre h⟩ rfl hn hsz hst (lv_room hW) hd hcs) hS (fun q _ z => hFc q z) hFc (fun r u t H1 locs1 ht hvm hw hB hz1 hk1 hS1 => ?_)
  exact kk u r H1 locs1 hw (wh_back h ht hvm hB hS1) hB.2.2 hk1
theorem wf_cvz {As rest st0 : List Value} {b idx n : Nat} {y : MethodName} {cy : ByteArray} {nLy : Nat} {rm : Room} (hcs : cells ≤ R.cells ∧ slots ≤ R.slots) (C : CX p s m args meth c own cc nL rt) (h : WH D tys w A s H locs M) {res : Mem × Int32} (hM : KZ l D tys w y cy nLy rm (.ref b :: As) M res) (Y : YV w b y cy nLy (some .boolean) rm n) (hlink : Cond.methodLink own idx y ∈ wG) (hsz : ls.size = nL) (hn : As.length = n) (hst : st0 = As.reverse ++ .ref b :: rest) (hW : (rest.map fun v => v.category).sum ≤ 8) (hR : rm.frames + 1 ≤ R.frames ∧ 8 + (nLy + 11) + rm.locals ≤ R.locals) (hd : decode cc pc = .ok (.invokevirtual idx, 3)) (kk : ∀ (u : Mem) (r : Int32) (H1 : Heap) (locs1 : List Loc), res = (u, r) → nb r → WH D tys w A s H1 locs1 u → va_D (va_A (w M) H.size) (w u) → (∀ q : Nat, q < H.size → ¬ va_A (w M) H.size q → H1[q]? = H[q]?) → W p l e R s m args below meth c H1 locs1 cells slots Q (F0 m (pc + 3) ls (.int r :: rest))) : W p l e R s m args below meth c H locs cells slots Q (F0 m pc ls st0) := by
  have hFc := wh_free h
  have hx := C.1
  have hb := C.2.1
  have hml := C.2.2.2.1
  have hown := C.2.2.2.2.1
  have hts := C.2.2.2.2.2.1
  have hS := h.2.2.2.1
  refine va_calli (va_runV (As := As) (rest := rest) ⟨hx, hb, hml, hown, hts⟩ (hM H.size) (wh_cwV C Y hlink hR) ⟨wh_blind, wh_recv h Y, wh_pre h⟩ rfl hn hsz hst (lv_room hW) hd hcs) hS (fun q _ z => hFc q z) hFc (fun r u t H1 locs1 ht hvm hw hB hz1 hk1 hS1 => ?_)
  exact kk u r H1 locs1 hw.1 hw.2 (wh_back h ht hvm hB hS1) hB.2.2 hk1
theorem wf_blindX {av : List Value} {sz : Nat} : FrameBlind (va_Pc av (PreX D tys w M sz)) := fun a U g mk q => by
  obtain ⟨q0, ⟨q1, qP, qK, qD, qF⟩, qX⟩ := q
  exact ⟨q0, ⟨q1, qP, va_K.moved (u := U) (U := U.calling g mk a) (Vm.Alike.refl U.vm) qK, qD, SF.moved (u := U) (U := U.calling g mk a) (Vm.Alike.refl U.vm) qF⟩, SX.same (u := U) (U := U.calling g mk a) rfl qX⟩
theorem wf_preX (h : WH D tys w A s H locs M) (hsx : SX A s s.heap) {av : List Value} : ∀ U : State, U.heap = H → s.WarmedH U.vm → va_Pc av (PreX D tys w M H.size) av.toArray U := fun U hU hW => ⟨rfl, (wh_pre h (av := av) U hU hW).2, by rw [hU]; exact SX.warm hW ((hsx.kept h.2.2.2.1.2.1).narrow (wh_free h))⟩
theorem wf_cvt {As rest st0 : List Value} {b idx n : Nat} {y : MethodName} {cy : ByteArray} {nLy : Nat} {cls : String} {rm9 : Room} (C : CX p s m args meth c own cc nL rt) (h : WH D tys w A s H locs M) (hsx : SX A s s.heap) (hM : KT l D tys w y cy nLy rmT (.ref b :: As) M cls) (Y : YV w b y cy nLy (some .int) rm9 n) (hlink : Cond.methodLink own idx y ∈ wG) (hsz : ls.size = nL) (hn : As.length = n) (hst : st0 = As.reverse ++ .ref b :: rest) (hW : (rest.map fun v => v.category).sum ≤ 8) (hR : rmT.frames + 1 ≤ R.frames ∧ 8 + (nLy + 11) + rmT.locals ≤ R.locals) (hcs : cells + 1 ≤ R.cells ∧ slots + 6 ≤ R.slots) (hd : decode cc pc = .ok (.invokevirtual idx, 3)) (kk : ∀ (q : Nat) (ce : Cell) (H1 : Heap) (locs1 : List Loc), WH D tys w A s H1 locs1 M → va_D (va_A (w M) H.size) (w M) → (∀ q : Nat, q < H.size → ¬ va_A (w M) H.size q → H1[q]? = H[q]?) → H1[q]? = some ce → ce.vm = .none → s.vm.findClass cls = some ce.cls → vx_W p l e R s m args below meth c H1 locs1 (cells + 1) (slots + 6) Q (F0 m pc ls rest) q) : W p l e R s m args below meth c H locs cells slots Q (F0 m pc ls st0) := by
  have hFc := wh_free h
  have hx := C.1
  have hb := C.2.1
  have hml := C.2.2.2.1
  have hown := C.2.2.2.2.1
  have hts := C.2.2.2.2.2.1
  have hS := h.2.2.2.1
  have cw : CallW R s args own y.cls idx y cy nLy (some .int) (.code y cy nLy (some .int) :: wG) rmT 1 6 n := by
    obtain ⟨-, y1, y2, y3, y4, y5, -, -⟩ := Y
    have hg : GoodIn wG (.code y cy nLy (some .int) :: wG) := fun z hz => by
      rcases List.mem_cons.mp hz with rfl | hz
      · exact wG_good _ y1
      · exact wG_good _ hz
    exact ⟨callB_of n hts hg rfl rfl rfl (hts _ y4) (hts _ hlink) y5 hR, hts _ y2, hts _ y3⟩
  refine vx_calli (vx_runV (As := As) (rest := rest) ⟨hx, hb, hml, hown, hts⟩ (hM H.size) cw ⟨wf_blindX, wh_recv h Y, wf_preX h hsx⟩ rfl hn hsz hst (lv_room hW) hd hcs) hS (fun q _ z => hFc q z) hFc (fun q _ z => hFc q z) (fun E ce q9 u t H1 locs1 ht hvm hp hB hz1 hk1 hS1 hc1 hc2 hc3 => ?_) (fun r u t H1 locs1 ht hvm hp hB hz1 hk1 hS1 => hp.elim)
  obtain ⟨rfl, hB⟩ := hB
  exact kk q9 ce H1 locs1 (wh_back h ht hvm hB hS1) hB.2.2 hk1 hc1 hc2 hc3
end Fr
/-! The helpers' world: the node, and the law's array of one long -/
def wH (cI cJ : ClassId) (ad : Nat → Nat) (o : Nat) (u : Mem × (Nat → Int64)) : va_W := wN cI ad u.1 ++ [(o, .inl (cJ, 1, .inr (.inl u.2)))]
def HH (D : va_G) (cI cJ : ClassId) (ad : Nat → Nat) (o : Nat) (A : Nat → Prop) (s : State) (H : Heap) (locs : List Loc) (u : Mem × (Nat → Int64)) : Prop := va_K D vwCl [(cI, .int), (cJ, .long)] s ∧ va_P D vwCl (wH cI cJ ad o u) H ∧ va_D A (wH cI cJ ad o u) ∧ va_S A s.heap H locs ∧ (∀ q, s.heap.size ≤ q → A q) ∧ SF A s s.heap ∧ SX A s s.heap
def PreH (D : va_G) (cI cJ : ClassId) (ad : Nat → Nat) (o : Nat) (u : Mem × (Nat → Int64)) (sz : Nat) (U : State) : Prop := U.heap.size = sz ∧ va_P D vwCl (wH cI cJ ad o u) U.heap ∧ va_K D vwCl [(cI, .int), (cJ, .long)] U ∧ va_D (fun _ => True) (wH cI cJ ad o u) ∧ SF (va_A (wH cI cJ ad o u) sz) U U.heap ∧ SX (va_A (wH cI cJ ad o u) sz) U U.heap
def PBH (D : va_G) (cI cJ : ClassId) (ad : Nat → Nat) (o : Nat) (A : Nat → Prop) (u : Mem × (Nat → Int64)) (t : State) : Prop := va_P D vwCl (wH cI cJ ad o u) t.heap ∧ va_K D vwCl [(cI, .int), (cJ, .long)] t ∧ va_D A (wH cI cJ ad o u)
def PH (D : va_G) (cI cJ : ClassId) (ad : Nat → Nat) (o : Nat) (A : Nat → Prop) (res : (Mem × (Nat → Int64)) × Int32) : Array Value → State → Outcome → State → Prop := va_Qi (fun r u => res = (u, r)) (PBH D cI cJ ad o A) A
def KH (l : Launch) (D : va_G) (cI cJ : ClassId) (ad : Nat → Nat) (o : Nat) (y : MethodName) (cc : ByteArray) (nL : Nat) (hh : List (Nat × Nat × Nat × Nat)) (rm : Room) (av : List Value) (u : Mem × (Nat → Int64)) (res : (Mem × (Nat → Int64)) × Int32) : Prop := ∀ sz : Nat, Met l y (.codeWith y cc nL (some .int) hh :: wG) rm (va_Pc av (PreH D cI cJ ad o u sz)) (PH D cI cJ ad o (va_A (wH cI cJ ad o u) sz) res) 1 6 (va_A (wH cI cJ ad o u) sz)
abbrev rmH : Room := { frames := 8, cells := 1, slots := 6, locals := 300 }
section Hl
variable {p : Program} {l : Launch} {e : Env} {R : Room} {s : State} {m : MethodId} {args : Array Value} {below : List Frame} {meth : Method} {c : Code} {H : Heap} {locs : List Loc} {cells slots : Nat} {Q : State → Prop} {own : String} {cc : ByteArray} {nL : Nat} {rt : Option FieldType} {D : va_G} {cI cJ : ClassId} {ad : Nat → Nat} {o : Nat} {A : Nat → Prop} {M : Mem} {f : Nat → Int64} {pc : Nat} {ls : Array Slot}
theorem hh_wh (h : HH D cI cJ ad o A s H locs (M, f)) : WH D [(cI, .int)] (wN cI ad) A s H locs M := by
  obtain ⟨hK, hP, hD, hS, hA, hF, hX⟩ := h
  exact ⟨hK.sub [0] rfl, hP.sub [0, 1, 2, 3, 4, 5, 6, 7, 8, 9, 10, 11, 12, 13, 14, 15, 16, 17, 18, 19] rfl, hD.sub [0, 1, 2, 3, 4, 5, 6, 7, 8, 9, 10, 11, 12, 13, 14, 15, 16, 17, 18, 19] (by decide) rfl, hS, hA, hF⟩
theorem hh_join (h : HH D cI cJ ad o A s H locs (M, f)) {u : Mem} {H1 : Heap} {locs1 : List Loc} (h1 : WH D [(cI, .int)] (wN cI ad) A s H1 locs1 u) (hD1 : va_D (va_A (wN cI ad M) H.size) (wN cI ad u)) (hk : ∀ q : Nat, q < H.size → ¬ va_A (wN cI ad M) H.size q → H1[q]? = H[q]?) : HH D cI cJ ad o A s H1 locs1 (u, f) := by
  have hFc := wh_free (hh_wh h)
  obtain ⟨hK, hP, hD, hS, hA, hF, hX⟩ := h
  obtain ⟨k1, k2, k3, k4, k5, k6⟩ := h1
  obtain ⟨j1, j2⟩ := va_join (wc := wN cI ad M) (wr := [(o, .inl (cJ, 1, .inr (.inl f)))]) (w1 := wN cI ad u) hP hD [0, 1, 2, 3, 4, 5, 6, 7, 8, 9, 10, 11, 12, 13, 14, 15, 16, 17, 18, 19] [20] rfl rfl (by decide) (by decide) hk hFc k2 hD1
  exact ⟨hK, j1.sub (ws' := wH cI cJ ad o (u, f)) [1, 2, 3, 4, 5, 6, 7, 8, 9, 10, 11, 12, 13, 14, 15, 16, 17, 18, 19, 20, 0] rfl, j2.sub (ws' := wH cI cJ ad o (u, f)) [1, 2, 3, 4, 5, 6, 7, 8, 9, 10, 11, 12, 13, 14, 15, 16, 17, 18, 19, 20, 0] (by decide) rfl, k4, hA, hF, hX⟩
theorem hh_ret (C : CX p s m args meth c own cc nL (some .int)) {u : Mem × (Nat → Int64)} (h : HH D cI cJ ad o A s H locs u) {v : Int32} {res : (Mem × (Nat → Int64)) × Int32} (hres : (u, v) = res) (hd : decode cc pc = .ok (.ireturn, 1)) : W p l e R s m args below meth c H locs cells slots (MQ below (PH D cI cJ ad o A res) args s cells slots A) (F0 m pc ls [.int v]) := by
  obtain ⟨hx, hb, hr, hml, hown, hts, hlk⟩ := C
  obtain ⟨hK, hP, hD, hS, hA, hF, hX⟩ := h
  exact W.iret hx hb hr (fun t ht hW => ⟨⟨v, u, rfl, hres.symm, by rw [ht]; exact hP, va_K.moved hW.alike hK, hD⟩, hS.F ht⟩) hS.2.2 hd
theorem hh_st (C : CX p s m args meth c own cc nL rt) (h : HH D cI cJ ad o A s H locs (M, f)) {v : Int64} (hd : decode cc pc = .ok (.lastore, 1)) {rest : List Value} (kk : ∀ (H : Heap) (locs : List Loc), HH D cI cJ ad o A s H locs (M, vp_updL f 0 v) → W p l e R s m args below meth c H locs cells slots Q (F0 m (pc + 1) ls rest)) : W p l e R s m args below meth c H locs cells slots Q (F0 m pc ls (.long v :: .int (0 : Int32) :: .ref o :: rest)) := by
  obtain ⟨hx, hb, hr, hml, hown, hts, hlk⟩ := C
  obtain ⟨hK, hP, hD, hS, hA, hF, hX⟩ := h
  exact va_last hx hb hK hP hD hS 20 1 rfl rfl (vp_l (by decide)) hd (fun H1 locs1 hP1 hD1 hS1 => kk H1 locs1 ⟨hK, hP1, hD1, hS1, hA, hF, hX⟩)
theorem met_h {y : MethodName} {hh : List (Nat × Nat × Nat × Nat)} {av : List Value} {u : Mem × (Nat → Int64)} {res : (Mem × (Nat → Int64)) × Int32} (hy : plainName y.cls = true) (hlen : (lg_sl av).length ≤ nL) (body : ∀ (p : Program) (e : Env) (s : State) (m : MethodId) (below : List Frame) (meth : Method) (c : Code) (A : Nat → Prop), CX p s m av.toArray meth c y.cls cc nL (some .int) → c.exceptionTable.toList = tableOf hh → HH D cI cJ ad o A s s.heap [] u → ∀ ls : Array Slot, lv_has ls nL (lv_args 0 av) → W p l e rmH s m av.toArray below meth c s.heap [] 0 0 (MQ below (PH D cI cJ ad o A res) av.toArray s 1 6 A) (F0 m 0 ls [])) : KH l D cI cJ ad o y cc nL hh rmH av u res := by
  intro sz
  refine va_MetW (cc := cc) (maxL := nL) (ret := (some .int)) (hh := hh) hy rfl ?_
  intro p e s m args below meth c s₁ B hml hv
  obtain ⟨rfl, hsz, hP, hK, hD0, hF, hX⟩ := hv
  subst hsz
  have hts := atoms_spec (ws := .codeWith y cc nL (some .int) hh :: wG) B.pre
  have C : CX p s m av.toArray meth c y.cls cc nL (some .int) := ⟨B.exec, B.bytes, B.returns, hml, findClass_of_methodNamed B.named, fun x hx => hts x (List.mem_cons_of_mem _ hx), B.notSynchronized⟩
  rw [lg_entry_eq]
  exact body p e s m below meth c _ C (vx_table (x := y) B (hts _ List.mem_cons_self)) ⟨hK, hP, hD0.self, va_S.rf, fun q h => Or.inr h, hF, hX⟩ _ (lv_entry av hlen)
end Hl
theorem in_mL_7 : Cond.methodLink RL 7 yX5_slot ∈ wG := wG_in (List.mem_append_right _ (List.mem_append_right _ (List.mem_append_left _ (List.mem_of_getElem? (i := 42) rfl)))) rfl
theorem in_mL_17 : Cond.methodLink RL 17 yX5_kept ∈ wG := wG_in (List.mem_append_right _ (List.mem_append_right _ (List.mem_append_right _ (List.mem_append_left _ (List.mem_of_getElem? (i := 64) rfl))))) rfl
theorem in_mL_23 : Cond.methodLink RL 23 yX5_heard ∈ wG := wG_in (List.mem_append_right _ (List.mem_append_right _ (List.mem_append_right _ (List.mem_append_left _ (List.mem_of_getElem? (i := 87) rfl))))) rfl
theorem in_kL_13 : Cond.classLink RL 13 "java/lang/IllegalStateException" ∈ wG := wG_in (List.mem_append_right _ (List.mem_append_right _ (List.mem_append_left _ (List.mem_of_getElem? (i := 40) rfl)))) rfl
theorem in_kL_15 : Cond.classLink RL 15 "java/lang/IllegalArgumentException" ∈ wG := wG_in (List.mem_append_right _ (List.mem_append_right _ (List.mem_append_left _ (List.mem_of_getElem? (i := 41) rfl)))) rfl
theorem in_kL_21 : Cond.classLink RL 21 "java/lang/IndexOutOfBoundsException" ∈ wG := wG_in (List.mem_append_right _ (List.mem_append_right _ (List.mem_append_right _ (List.mem_append_left _ (List.mem_of_getElem? (i := 63) rfl))))) rfl
set_option maxRecDepth 100000 in
theorem h_slot_0 {l : Launch} {D : va_G} {cI cJ : ClassId} {ad : Nat → Nat} {o : Nat} (M : Mem) (f : Nat → Int64) (p0 : Int32) (hok : ok_X5_slot M p0) : KH l D cI cJ ad o yL_slot cL_slot 4 [(0, 9, 12, 13), (0, 9, 15, 15)] rmH [.ref (ad 0), .int p0, .ref o] (M, f) ((((f_X5_slot M p0).1, vp_updL f 0 (f_X5_slot M p0).2.toInt64) : Mem × (Nat → Int64)), (0 : Int32)) := met_h (by decide) (Nat.le_of_ble_eq_true rfl) (fun p e s m below meth c A C htb h ls hl9 => by
  have C : CX p s m _ meth c RL cL_slot 4 (some .int) := C
  have hx := C.1
  have hb := C.2.1
  have hown := C.2.2.2.2.1
  have hts := C.2.2.2.2.2.1
  refine lv_aload_n hx hb dL_slot_0 rfl (lv_at hl9 2 rfl) ?_
  refine lv_iconst (v := (0 : Int32)) hx hb dL_slot_1 (by decide) ?_
  refine lv_aload_n hx hb dL_slot_2 rfl (lv_at hl9 0 rfl) ?_
  refine lv_iload_n hx hb dL_slot_3 rfl (lv_at hl9 1 rfl) ?_
  refine W.widen (k := 1) (n := 6) (by decide) (by decide) ?_
  refine wf_cvi (As := [.int p0]) (rest := [.int (0 : Int32), .ref o]) ⟨by decide, by decide⟩ C (hh_wh h) (c_X5_slot M p0 hok) yw_X5_slot in_mL_7 hl9.1 rfl rfl (Nat.le_of_ble_eq_true rfl) ⟨(Nat.le_of_ble_eq_true rfl), (Nat.le_of_ble_eq_true rfl)⟩ dL_slot_4 (fun u r H1 locs1 e1 h1 hD1 hk => ?_)
  have h := hh_join h h1 hD1 hk
  rw [e1]
  refine lv_i2l (v := r.toInt64) hx hb dL_slot_7 rfl ?_
  refine hh_st C h dL_slot_8 (fun H locs h => ?_)
  refine lv_goto (tgt := 18) hx hb dL_slot_9 (by decide) ?_
  refine lv_iconst (v := (0 : Int32)) hx hb dL_slot_18 (by decide) ?_
  exact hh_ret C h rfl dL_slot_19)
set_option maxRecDepth 100000 in
theorem h_slot_1 {l : Launch} {D : va_G} {cI cJ : ClassId} {ad : Nat → Nat} {o : Nat} (M : Mem) (f : Nat → Int64) (p0 : Int32) (hl : l.stackTraces = false) (h0 : M 10 0 = 0) : KH l D cI cJ ad o yL_slot cL_slot 4 [(0, 9, 12, 13), (0, 9, 15, 15)] rmH [.ref (ad 0), .int p0, .ref o] (M, f) (((M, f) : Mem × (Nat → Int64)), (1 : Int32)) := met_h (by decide) (Nat.le_of_ble_eq_true rfl) (fun p e s m below meth c A C htb h ls hl9 => by
  have C : CX p s m _ meth c RL cL_slot 4 (some .int) := C
  have hx := C.1
  have hb := C.2.1
  have hown := C.2.2.2.2.1
  have hts := C.2.2.2.2.2.1
  refine lv_aload_n hx hb dL_slot_0 rfl (lv_at hl9 2 rfl) ?_
  refine lv_iconst (v := (0 : Int32)) hx hb dL_slot_1 (by decide) ?_
  refine lv_aload_n hx hb dL_slot_2 rfl (lv_at hl9 0 rfl) ?_
  refine lv_iload_n hx hb dL_slot_3 rfl (lv_at hl9 1 rfl) ?_
  have hsx := h.2.2.2.2.2.2
  refine wf_cvt (As := [.int p0]) (rest := [.int (0 : Int32), .ref o]) C (hh_wh h) hsx (t_X5_slot_1 hl M p0 h0) yw_X5_slot in_mL_7 hl9.1 rfl rfl (Nat.le_of_ble_eq_true rfl) ⟨(Nat.le_of_ble_eq_true rfl), (Nat.le_of_ble_eq_true rfl)⟩ ⟨by decide, by decide⟩ dL_slot_4 (fun q ce H1 locs1 h1 hD1 hk hc1 hc2 hc3 => ?_)
  have h := hh_join h h1 hD1 hk
  refine vx_catch (own := RL) (name := "java/lang/IllegalStateException") (E := "java/lang/IllegalStateException") hown [] ⟨0, 9, 12, 13⟩ _ htb (fun z hz => absurd hz List.not_mem_nil) (by decide) (by decide) (hts _ in_kL_13) hsx.2.2.2.2.2.2.2.1.1.use hc1 hc2 hc3 ?_
  refine lv_astore_n (lv' := [(3, .ref q), (0, .ref (ad 0)), (1, .int p0), (2, .ref o)]) hx hb dL_slot_12 rfl hl9 (by decide) rfl (fun ls hl9 => ?_)
  refine lv_iconst (v := (1 : Int32)) hx hb dL_slot_13 (by decide) ?_
  exact hh_ret C h rfl dL_slot_14)
set_option maxRecDepth 100000 in
theorem h_slot_2 {l : Launch} {D : va_G} {cI cJ : ClassId} {ad : Nat → Nat} {o : Nat} (M : Mem) (f : Nat → Int64) (p0 : Int32) (hl : l.stackTraces = false) (h0 : ¬ M 10 0 = 0) (h1 : p0 < 0 ∨ 500 < p0) : KH l D cI cJ ad o yL_slot cL_slot 4 [(0, 9, 12, 13), (0, 9, 15, 15)] rmH [.ref (ad 0), .int p0, .ref o] (M, f) (((M, f) : Mem × (Nat → Int64)), (2 : Int32)) := met_h (by decide) (Nat.le_of_ble_eq_true rfl) (fun p e s m below meth c A C htb h ls hl9 => by
  have C : CX p s m _ meth c RL cL_slot 4 (some .int) := C
  have hx := C.1
  have hb := C.2.1
  have hown := C.2.2.2.2.1
  have hts := C.2.2.2.2.2.1
  refine lv_aload_n hx hb dL_slot_0 rfl (lv_at hl9 2 rfl) ?_
  refine lv_iconst (v := (0 : Int32)) hx hb dL_slot_1 (by decide) ?_
  refine lv_aload_n hx hb dL_slot_2 rfl (lv_at hl9 0 rfl) ?_
  refine lv_iload_n hx hb dL_slot_3 rfl (lv_at hl9 1 rfl) ?_
  have hsx := h.2.2.2.2.2.2
  refine wf_cvt (As := [.int p0]) (rest := [.int (0 : Int32), .ref o]) C (hh_wh h) hsx (t_X5_slot_2 hl M p0 h0 h1) yw_X5_slot in_mL_7 hl9.1 rfl rfl (Nat.le_of_ble_eq_true rfl) ⟨(Nat.le_of_ble_eq_true rfl), (Nat.le_of_ble_eq_true rfl)⟩ ⟨by decide, by decide⟩ dL_slot_4 (fun q ce H1 locs1 h1 hD1 hk hc1 hc2 hc3 => ?_)
  have h := hh_join h h1 hD1 hk
  refine vx_catch (own := RL) (name := "java/lang/IllegalArgumentException") (E := "java/lang/IllegalArgumentException") hown [⟨0, 9, 12, 13⟩] ⟨0, 9, 15, 15⟩ _ htb (fun z hz => by rcases List.mem_cons.mp hz with rfl | hz; (exact Or.inr ⟨by decide, "java/lang/IllegalStateException", hts _ in_kL_13, hsx.2.2.2.2.2.2.1⟩); (exact absurd hz List.not_mem_nil)) (by decide) (by decide) (hts _ in_kL_15) hsx.2.2.2.2.2.2.2.1.2.1.use hc1 hc2 hc3 ?_
  refine lv_astore_n (lv' := [(3, .ref q), (0, .ref (ad 0)), (1, .int p0), (2, .ref o)]) hx hb dL_slot_15 rfl hl9 (by decide) rfl (fun ls hl9 => ?_)
  refine lv_iconst (v := (2 : Int32)) hx hb dL_slot_16 (by decide) ?_
  exact hh_ret C h rfl dL_slot_17)
set_option maxRecDepth 100000 in
theorem h_kept_0 {l : Launch} {D : va_G} {cI cJ : ClassId} {ad : Nat → Nat} {o : Nat} (M : Mem) (f : Nat → Int64) (p0 p1 : Int32) (hok : ok_X5_kept M p0 p1) : KH l D cI cJ ad o yL_kept cL_kept 5 [(0, 10, 13, 21)] rmH [.ref (ad 0), .int p0, .int p1, .ref o] (M, f) ((((f_X5_kept M p0 p1).1, vp_updL f 0 (f_X5_kept M p0 p1).2.toInt64) : Mem × (Nat → Int64)), (0 : Int32)) := met_h (by decide) (Nat.le_of_ble_eq_true rfl) (fun p e s m below meth c A C htb h ls hl9 => by
  have C : CX p s m _ meth c RL cL_kept 5 (some .int) := C
  have hx := C.1
  have hb := C.2.1
  have hown := C.2.2.2.2.1
  have hts := C.2.2.2.2.2.1
  refine lv_aload_n hx hb dL_kept_0 rfl (lv_at hl9 3 rfl) ?_
  refine lv_iconst (v := (0 : Int32)) hx hb dL_kept_1 (by decide) ?_
  refine lv_aload_n hx hb dL_kept_2 rfl (lv_at hl9 0 rfl) ?_
  refine lv_iload_n hx hb dL_kept_3 rfl (lv_at hl9 1 rfl) ?_
  refine lv_iload_n hx hb dL_kept_4 rfl (lv_at hl9 2 rfl) ?_
  refine W.widen (k := 1) (n := 6) (by decide) (by decide) ?_
  refine wf_cvi (As := [.int p0, .int p1]) (rest := [.int (0 : Int32), .ref o]) ⟨by decide, by decide⟩ C (hh_wh h) (c_X5_kept M p0 p1 hok) yw_X5_kept in_mL_17 hl9.1 rfl rfl (Nat.le_of_ble_eq_true rfl) ⟨(Nat.le_of_ble_eq_true rfl), (Nat.le_of_ble_eq_true rfl)⟩ dL_kept_5 (fun u r H1 locs1 e1 h1 hD1 hk => ?_)
  have h := hh_join h h1 hD1 hk
  rw [e1]
  refine lv_i2l (v := r.toInt64) hx hb dL_kept_8 rfl ?_
  refine hh_st C h dL_kept_9 (fun H locs h => ?_)
  refine lv_goto (tgt := 17) hx hb dL_kept_10 (by decide) ?_
  refine lv_iconst (v := (0 : Int32)) hx hb dL_kept_17 (by decide) ?_
  exact hh_ret C h rfl dL_kept_18)
set_option maxRecDepth 100000 in
theorem h_kept_1 {l : Launch} {D : va_G} {cI cJ : ClassId} {ad : Nat → Nat} {o : Nat} (M : Mem) (f : Nat → Int64) (p0 p1 : Int32) (hl : l.stackTraces = false) (h1 : p0 < 0 ∨ 164 ≤ p0) : KH l D cI cJ ad o yL_kept cL_kept 5 [(0, 10, 13, 21)] rmH [.ref (ad 0), .int p0, .int p1, .ref o] (M, f) (((M, f) : Mem × (Nat → Int64)), (1 : Int32)) := met_h (by decide) (Nat.le_of_ble_eq_true rfl) (fun p e s m below meth c A C htb h ls hl9 => by
  have C : CX p s m _ meth c RL cL_kept 5 (some .int) := C
  have hx := C.1
  have hb := C.2.1
  have hown := C.2.2.2.2.1
  have hts := C.2.2.2.2.2.1
  refine lv_aload_n hx hb dL_kept_0 rfl (lv_at hl9 3 rfl) ?_
  refine lv_iconst (v := (0 : Int32)) hx hb dL_kept_1 (by decide) ?_
  refine lv_aload_n hx hb dL_kept_2 rfl (lv_at hl9 0 rfl) ?_
  refine lv_iload_n hx hb dL_kept_3 rfl (lv_at hl9 1 rfl) ?_
  refine lv_iload_n hx hb dL_kept_4 rfl (lv_at hl9 2 rfl) ?_
  have hsx := h.2.2.2.2.2.2
  refine wf_cvt (As := [.int p0, .int p1]) (rest := [.int (0 : Int32), .ref o]) C (hh_wh h) hsx (t_X5_kept hl M p0 p1 h1) yw_X5_kept in_mL_17 hl9.1 rfl rfl (Nat.le_of_ble_eq_true rfl) ⟨(Nat.le_of_ble_eq_true rfl), (Nat.le_of_ble_eq_true rfl)⟩ ⟨by decide, by decide⟩ dL_kept_5 (fun q ce H1 locs1 h1 hD1 hk hc1 hc2 hc3 => ?_)
  have h := hh_join h h1 hD1 hk
  refine vx_catch (own := RL) (name := "java/lang/IndexOutOfBoundsException") (E := "java/lang/IndexOutOfBoundsException") hown [] ⟨0, 10, 13, 21⟩ _ htb (fun z hz => absurd hz List.not_mem_nil) (by decide) (by decide) (hts _ in_kL_21) hsx.2.2.2.2.2.2.2.1.2.2.use hc1 hc2 hc3 ?_
  refine lv_astore (lv' := [(4, .ref q), (0, .ref (ad 0)), (1, .int p0), (2, .int p1), (3, .ref o)]) hx hb dL_kept_13 hl9 (by decide) rfl (fun ls hl9 => ?_)
  refine lv_iconst (v := (1 : Int32)) hx hb dL_kept_15 (by decide) ?_
  exact hh_ret C h rfl dL_kept_16)
set_option maxRecDepth 100000 in
theorem h_heard_0 {l : Launch} {D : va_G} {cI cJ : ClassId} {ad : Nat → Nat} {o : Nat} (M : Mem) (f : Nat → Int64) (p0 : Int32) (hok : ok_X5_heard M p0) : KH l D cI cJ ad o yL_heard cL_heard 4 [(0, 9, 12, 21)] rmH [.ref (ad 0), .int p0, .ref o] (M, f) ((((f_X5_heard M p0).1, vp_updL f 0 (f_X5_heard M p0).2.toInt64) : Mem × (Nat → Int64)), (0 : Int32)) := met_h (by decide) (Nat.le_of_ble_eq_true rfl) (fun p e s m below meth c A C htb h ls hl9 => by
  have C : CX p s m _ meth c RL cL_heard 4 (some .int) := C
  have hx := C.1
  have hb := C.2.1
  have hown := C.2.2.2.2.1
  have hts := C.2.2.2.2.2.1
  refine lv_aload_n hx hb dL_heard_0 rfl (lv_at hl9 2 rfl) ?_
  refine lv_iconst (v := (0 : Int32)) hx hb dL_heard_1 (by decide) ?_
  refine lv_aload_n hx hb dL_heard_2 rfl (lv_at hl9 0 rfl) ?_
  refine lv_iload_n hx hb dL_heard_3 rfl (lv_at hl9 1 rfl) ?_
  refine W.widen (k := 1) (n := 6) (by decide) (by decide) ?_
  refine wf_cvi (As := [.int p0]) (rest := [.int (0 : Int32), .ref o]) ⟨by decide, by decide⟩ C (hh_wh h) (c_X5_heard M p0 hok) yw_X5_heard in_mL_23 hl9.1 rfl rfl (Nat.le_of_ble_eq_true rfl) ⟨(Nat.le_of_ble_eq_true rfl), (Nat.le_of_ble_eq_true rfl)⟩ dL_heard_4 (fun u r H1 locs1 e1 h1 hD1 hk => ?_)
  have h := hh_join h h1 hD1 hk
  rw [e1]
  refine lv_i2l (v := r.toInt64) hx hb dL_heard_7 rfl ?_
  refine hh_st C h dL_heard_8 (fun H locs h => ?_)
  refine lv_goto (tgt := 15) hx hb dL_heard_9 (by decide) ?_
  refine lv_iconst (v := (0 : Int32)) hx hb dL_heard_15 (by decide) ?_
  exact hh_ret C h rfl dL_heard_16)
set_option maxRecDepth 100000 in
theorem h_heard_1 {l : Launch} {D : va_G} {cI cJ : ClassId} {ad : Nat → Nat} {o : Nat} (M : Mem) (f : Nat → Int64) (p0 : Int32) (hl : l.stackTraces = false) (h1 : f_X3_farSideHas M p0 = 0) : KH l D cI cJ ad o yL_heard cL_heard 4 [(0, 9, 12, 21)] rmH [.ref (ad 0), .int p0, .ref o] (M, f) (((M, f) : Mem × (Nat → Int64)), (1 : Int32)) := met_h (by decide) (Nat.le_of_ble_eq_true rfl) (fun p e s m below meth c A C htb h ls hl9 => by
  have C : CX p s m _ meth c RL cL_heard 4 (some .int) := C
  have hx := C.1
  have hb := C.2.1
  have hown := C.2.2.2.2.1
  have hts := C.2.2.2.2.2.1
  refine lv_aload_n hx hb dL_heard_0 rfl (lv_at hl9 2 rfl) ?_
  refine lv_iconst (v := (0 : Int32)) hx hb dL_heard_1 (by decide) ?_
  refine lv_aload_n hx hb dL_heard_2 rfl (lv_at hl9 0 rfl) ?_
  refine lv_iload_n hx hb dL_heard_3 rfl (lv_at hl9 1 rfl) ?_
  have hsx := h.2.2.2.2.2.2
  refine wf_cvt (As := [.int p0]) (rest := [.int (0 : Int32), .ref o]) C (hh_wh h) hsx (t_X5_heard hl M p0 h1) yw_X5_heard in_mL_23 hl9.1 rfl rfl (Nat.le_of_ble_eq_true rfl) ⟨(Nat.le_of_ble_eq_true rfl), (Nat.le_of_ble_eq_true rfl)⟩ ⟨by decide, by decide⟩ dL_heard_4 (fun q ce H1 locs1 h1 hD1 hk hc1 hc2 hc3 => ?_)
  have h := hh_join h h1 hD1 hk
  refine vx_catch (own := RL) (name := "java/lang/IndexOutOfBoundsException") (E := "java/lang/IndexOutOfBoundsException") hown [] ⟨0, 9, 12, 21⟩ _ htb (fun z hz => absurd hz List.not_mem_nil) (by decide) (by decide) (hts _ in_kL_21) hsx.2.2.2.2.2.2.2.1.2.2.use hc1 hc2 hc3 ?_
  refine lv_astore_n (lv' := [(3, .ref q), (0, .ref (ad 0)), (1, .int p0), (2, .ref o)]) hx hb dL_heard_12 rfl hl9 (by decide) rfl (fun ls hl9 => ?_)
  refine lv_iconst (v := (1 : Int32)) hx hb dL_heard_13 (by decide) ?_
  exact hh_ret C h rfl dL_heard_14)
