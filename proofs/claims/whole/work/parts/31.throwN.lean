/-! The throws of the class: what they rest on, one contract for each throw -/
def DW (n : String) (U : State) : Prop := (Cond.declares (Bundle.initS n)).before #[] U = true
theorem DW.of {A : Array Value} {n : String} {U : State} (h : (Cond.declares (Bundle.initS n)).before A U = true) : DW n U := va_any rfl h
theorem DW.use {A : Array Value} {n : String} {U : State} (h : DW n U) : (Cond.declares (Bundle.initS n)).before A U = true := va_any rfl h
theorem DW.moved {n : String} {u U : State} (hvm : u.vm.Alike U.vm) (h : DW n u) : DW n U := by
  have h1 : (Cond.declares (Bundle.initS n)).before #[] (u.setVm U.vm) = true := by rw [Cond.declares_setVm hvm]; exact h
  have e := Cond.onTables_vm (A := #[]) (A' := #[]) (U := u) (U' := U) U.vm (Cond.declares (Bundle.initS n)) rfl
  have hU : U.setVm U.vm = U := rfl
  rw [hU] at e
  unfold DW
  rw [← e]
  exact h1
def CW (n : String) (U : State) : Prop := ∃ k : ClassId, U.vm.findClass n = some k ∧ U.vm.assignable k k = true
theorem CW.of {A : Array Value} {n : String} {U : State} (h : (Cond.castable n n).before A U = true) : CW n U := by
  obtain ⟨c3, c4, hc3, hc4, hasg⟩ := Cond.castable_spec h
  cases Option.some.inj (hc3.symm.trans hc4)
  exact ⟨c3, hc3, hasg⟩
theorem CW.use {A : Array Value} {n : String} {U : State} (h : CW n U) : (Cond.castable n n).before A U = true := by
  obtain ⟨k, h1, h2⟩ := h
  simp [Cond.before, Cond.holds, Cond.value, h1, h2]
theorem CW.moved {n : String} {u U : State} (hvm : u.vm.Alike U.vm) (h : CW n u) : CW n U := by
  obtain ⟨k, h1, h2⟩ := h
  exact ⟨k, by rw [hvm.findClass]; exact h1, by rw [hvm.assignable]; exact h2⟩
def CX3 (U : State) : Prop := CW "java/lang/IllegalStateException" U ∧ CW "java/lang/IllegalArgumentException" U ∧ CW "java/lang/IndexOutOfBoundsException" U
theorem CX3.moved {u U : State} (hvm : u.vm.Alike U.vm) (h : CX3 u) : CX3 U := ⟨h.1.moved hvm, h.2.1.moved hvm, h.2.2.moved hvm⟩
def DX (U : State) : Prop := CX3 U ∧ DW "java/lang/RuntimeException" U ∧ DW "java/lang/Exception" U ∧ DW "java/lang/Throwable" U
theorem DX.moved {u U : State} (hvm : u.vm.Alike U.vm) (h : DX u) : DX U := ⟨h.1.moved hvm, h.2.1.moved hvm, h.2.2.1.moved hvm, h.2.2.2.moved hvm⟩
def SX (A : Nat → Prop) (U : State) (H : Heap) : Prop := (∃ a, vk_R RX5 70 "the program is not sealed" a U) ∧ (∃ a, vk_R RX5 77 "the harvest is not 0 .. 500" a U) ∧ (∃ a, vk_R RX5 104 "there is no such kept word" a U) ∧ (∃ a, vk_R RX5 120 "the far side has no such frame" a U) ∧ vx_Zq Bundle.tN "UNASSIGNED_STACK" Bundle.steD A U H ∧ vx_Zq Bundle.tN "SUPPRESSED_SENTINEL" Bundle.listD A U H ∧ va_Nc "java/lang/IllegalArgumentException" "java/lang/IllegalStateException" U ∧ DX U
theorem SX.warm {A : Nat → Prop} {u U : State} {H : Heap} (hW : u.WarmedH U.vm) (h : SX A u H) : SX A U H := by
  obtain ⟨⟨a1, h1⟩, ⟨a2, h2⟩, ⟨a3, h3⟩, ⟨a4, h4⟩, h5, h6, h7, h8⟩ := h
  exact ⟨⟨a1, h1.warm hW⟩, ⟨a2, h2.warm hW⟩, ⟨a3, h3.warm hW⟩, ⟨a4, h4.warm hW⟩, h5.moved hW.alike, h6.moved hW.alike, h7.moved hW.alike, h8.moved hW.alike⟩
theorem SX.same {A : Nat → Prop} {u U : State} {H : Heap} (hv : U.vm = u.vm) (h : SX A u H) : SX A U H := by
  obtain ⟨⟨a1, h1⟩, ⟨a2, h2⟩, ⟨a3, h3⟩, ⟨a4, h4⟩, h5, h6, h7, h8⟩ := h
  have al : u.vm.Alike U.vm := by rw [hv]; exact Vm.Alike.refl _
  exact ⟨⟨a1, h1.same hv⟩, ⟨a2, h2.same hv⟩, ⟨a3, h3.same hv⟩, ⟨a4, h4.same hv⟩, h5.moved al, h6.moved al, h7.moved al, h8.moved al⟩
theorem SX.kept {A : Nat → Prop} {U : State} {H H1 : Heap} (h : SX A U H) (hq : ∀ a : Nat, a < H.size → ¬ A a → H1[a]? = H[a]?) : SX A U H1 := ⟨h.1, h.2.1, h.2.2.1, h.2.2.2.1, h.2.2.2.2.1.kept hq, h.2.2.2.2.2.1.kept hq, h.2.2.2.2.2.2⟩
theorem SX.narrow {A B : Nat → Prop} {U : State} {H : Heap} (h : SX A U H) (hAB : ∀ q, B q → A q) : SX B U H := ⟨h.1, h.2.1, h.2.2.1, h.2.2.2.1, h.2.2.2.2.1.narrow hAB, h.2.2.2.2.2.1.narrow hAB, h.2.2.2.2.2.2⟩
abbrev up_X : List String := ["java/lang/RuntimeException", "java/lang/Exception"]
def PreX (D : va_G) (tys : List (ClassId × FieldType)) (w : Mem → va_W) (M : Mem) (sz : Nat) (U : State) : Prop := PreW D tys w M sz U ∧ SX (va_A (w M) sz) U U.heap
def XT (D : va_G) (tys : List (ClassId × FieldType)) (w : Mem → va_W) (A : Nat → Prop) (M : Mem) (cls : String) : String → State → State → Prop := vx_X (fun _ : Unit => True) (fun E _ t => E = cls ∧ PB D tys w A M t) A
def QF (A : Nat → Prop) : Array Value → State → Outcome → State → Prop := va_Qi (fun (_ : Int32) (_ : Unit) => False) (fun _ _ => True) A
def KT (l : Launch) (D : va_G) (tys : List (ClassId × FieldType)) (w : Mem → va_W) (y : MethodName) (cc : ByteArray) (nL : Nat) (rm : Room) (av : List Value) (M : Mem) (cls : String) : Prop := ∀ sz : Nat, vx_Met l y (.code y cc nL (some .int) :: wG) rm (va_Pc av (PreX D tys w M sz)) (QF (va_A (w M) sz)) (XT D tys w (va_A (w M) sz) M cls) 1 6 (va_A (w M) sz)
abbrev rmT : Room := { frames := 6, cells := 1, slots := 6, locals := 140 }
section Thr
variable {p : Program} {l : Launch} {e : Env} {s : State} {m : MethodId} {args : Array Value} {below : List Frame} {meth : Method} {c : Code} {H : Heap} {locs : List Loc} {cc : ByteArray} {nL : Nat} {rt : Option FieldType} {D : va_G} {tys : List (ClassId × FieldType)} {w : Mem → va_W} {A : Nat → Prop} {M : Mem} {pc : Nat} {ls : Array Slot} {rest : List Value}
theorem wh_throw (hl : l.stackTraces = false) (C : CX p s m args meth c RX5 cc nL rt) (h : WH D tys w A s H locs M) (hsx : SX A s s.heap) (hnt : ∀ x ∈ c.exceptionTable.toList, False) (hsz : ls.size = nL) {cls text : String} {ik is ic : Nat} (hcls : Bundle.fit cls = true) (hk : Cond.classLink RX5 ik cls ∈ wG) (hi : Cond.initialized cls ∈ wG) (hstr : ∃ a, vk_R RX5 is text a s) (hat : ∀ x ∈ (vx_atS RX5 ic cls up_X).filter goodWord, x ∈ wG) (hb2 : ∀ x ∈ (vx_atS RX5 ic cls up_X).filter (fun x => !goodWord x), x ∈ ([.castable cls cls, .declares (Bundle.initS "java/lang/RuntimeException"), .declares (Bundle.initS "java/lang/Exception"), .declares (Bundle.initS "java/lang/Throwable")] : List Cond)) (hcw : CW cls s) (hot : ∀ x ∈ vx_atS RX5 ic cls up_X, vx_ot x = true)
    (d0 : decode cc pc = .ok (.new ik, 3)) (d3 : decode cc (pc + 3) = .ok (.dup, 1)) (d4 : decode cc (pc + 4) = .ok (.ldc is, 2)) (d6 : decode cc (pc + 6) = .ok (.invokespecial ic, 3)) (d9 : decode cc (pc + 9) = .ok (.athrow, 1)) :
    W p l e rmT s m args below meth c H locs 0 0 (vx_MQ below (QF A) (XT D tys w A M cls) args s 1 6 A) (F0 m pc ls []) := by
  obtain ⟨hx, hb, hr, hml, hown, hts, hlk⟩ := C
  obtain ⟨hK, hP, hD, hS, hA, hF⟩ := h
  obtain ⟨a, hstr⟩ := hstr
  refine vx_throwS hx hb hl hown hcls (by decide) (hts _ hk) (hts _ hi) hstr (vx_hat (fun x hx => hts x (hat x hx)) hb2 (vx_c hcw.use (vx_c hsx.2.2.2.2.2.2.2.2.1.use (vx_c hsx.2.2.2.2.2.2.2.2.2.1.use (vx_c hsx.2.2.2.2.2.2.2.2.2.2.use vx_n))))) (fun x hx => ?_) hsx.2.2.2.2.1 hsx.2.2.2.2.2.1 hS (by rw [hml]; exact hsz) d0 d3 d4 d6 d9 (fun x hx => (hnt x hx).elim) (by decide) (by decide) (by decide) (by decide) hlk (fun t hvm h1 h2 => ⟨(), trivial, ⟨rfl, hP.kept (fun k q hq => h2 q.1 (hP k q hq).lt), va_K.moved hvm hK, hD⟩, Nat.le_trans hS.1 h1, fun q h3 h4 => by rw [h2 q (Nat.lt_of_lt_of_le h3 hS.1)]; exact hS.2.1 q h3 h4⟩) hS.2.2 (by decide) (by decide)
  rcases List.mem_cons.mp hx with rfl | hx
  · simp only [vx_ot, (List.mem_filter.mp hk).2, Bool.or_true]
  · rcases List.mem_cons.mp hx with rfl | hx
    · simp only [vx_ot, (List.mem_filter.mp hi).2, Bool.or_true]
    · exact hot x hx
end Thr
theorem met_t {l : Launch} {D : va_G} {tys : List (ClassId × FieldType)} {w : Mem → va_W} {M : Mem} {cc : ByteArray} {nL : Nat} {y : MethodName} {av : List Value} {cls : String} (hy : plainName y.cls = true) (hlen : (lg_sl av).length ≤ nL) (body : ∀ (p : Program) (e : Env) (s : State) (m : MethodId) (below : List Frame) (meth : Method) (c : Code) (A : Nat → Prop), CX p s m av.toArray meth c y.cls cc nL (some .int) → WH D tys w A s s.heap [] M → SX A s s.heap → (∀ x ∈ c.exceptionTable.toList, False) → ∀ ls : Array Slot, lv_has ls nL (lv_args 0 av) → W p l e rmT s m av.toArray below meth c s.heap [] 0 0 (vx_MQ below (QF A) (XT D tys w A M cls) av.toArray s 1 6 A) (F0 m 0 ls [])) : KT l D tys w y cc nL rmT av M cls := by
  intro sz
  refine vx_ofW (cc := cc) (maxL := nL) (ret := (some .int)) hy rfl ?_
  intro p e s m args below meth c s₁ B hml hnt hv
  obtain ⟨rfl, ⟨hsz, hP, hK, hD0, hF⟩, hsx⟩ := hv
  subst hsz
  have hts := atoms_spec (ws := .code y cc nL (some .int) :: wG) B.pre
  have C : CX p s m av.toArray meth c y.cls cc nL (some .int) := ⟨B.exec, B.bytes, B.returns, hml, findClass_of_methodNamed B.named, fun x hx => hts x (List.mem_cons_of_mem _ hx), B.notSynchronized⟩
  rw [lg_entry_eq]
  exact body p e s m below meth c _ C ⟨hK, hP, hD0.self, va_S.rf, fun q h => Or.inr h, hF⟩ hsx hnt _ (lv_entry av hlen)
theorem at_X0 : ∀ x ∈ (vx_atS RX5 72 "java/lang/IllegalStateException" up_X).filter goodWord, x ∈ wG := fun x hx => wG_in ((by decide +kernel : ∀ x ∈ (vx_atS RX5 72 "java/lang/IllegalStateException" up_X).filter goodWord, x ∈ lw_tbl) x hx) (List.mem_filter.mp hx).2
theorem at_Y0 : ∀ x ∈ (vx_atS RX5 72 "java/lang/IllegalStateException" up_X).filter (fun x => !goodWord x), x ∈ ([.castable "java/lang/IllegalStateException" "java/lang/IllegalStateException", .declares (Bundle.initS "java/lang/RuntimeException"), .declares (Bundle.initS "java/lang/Exception"), .declares (Bundle.initS "java/lang/Throwable")] : List Cond) := by decide +kernel
theorem at_Z0 : ∀ x ∈ vx_atS RX5 72 "java/lang/IllegalStateException" up_X, vx_ot x = true := by decide +kernel
theorem at_i0 : Cond.initialized "java/lang/IllegalStateException" ∈ wG := wG_in (List.mem_append_right _ (List.mem_append_left _ (List.mem_of_getElem? (i := 12) rfl))) rfl
theorem at_k0 : Cond.classLink RX5 68 "java/lang/IllegalStateException" ∈ wG := wG_in (List.mem_append_right _ (List.mem_append_right _ (List.mem_append_left _ (List.mem_of_getElem? (i := 46) rfl)))) rfl
theorem at_X1 : ∀ x ∈ (vx_atS RX5 79 "java/lang/IllegalArgumentException" up_X).filter goodWord, x ∈ wG := fun x hx => wG_in ((by decide +kernel : ∀ x ∈ (vx_atS RX5 79 "java/lang/IllegalArgumentException" up_X).filter goodWord, x ∈ lw_tbl) x hx) (List.mem_filter.mp hx).2
theorem at_Y1 : ∀ x ∈ (vx_atS RX5 79 "java/lang/IllegalArgumentException" up_X).filter (fun x => !goodWord x), x ∈ ([.castable "java/lang/IllegalArgumentException" "java/lang/IllegalArgumentException", .declares (Bundle.initS "java/lang/RuntimeException"), .declares (Bundle.initS "java/lang/Exception"), .declares (Bundle.initS "java/lang/Throwable")] : List Cond) := by decide +kernel
theorem at_Z1 : ∀ x ∈ vx_atS RX5 79 "java/lang/IllegalArgumentException" up_X, vx_ot x = true := by decide +kernel
theorem at_i1 : Cond.initialized "java/lang/IllegalArgumentException" ∈ wG := wG_in (List.mem_append_right _ (List.mem_append_left _ (List.mem_of_getElem? (i := 13) rfl))) rfl
theorem at_k1 : Cond.classLink RX5 75 "java/lang/IllegalArgumentException" ∈ wG := wG_in (List.mem_append_right _ (List.mem_append_right _ (List.mem_append_left _ (List.mem_of_getElem? (i := 114) rfl)))) rfl
theorem at_X2 : ∀ x ∈ (vx_atS RX5 106 "java/lang/IndexOutOfBoundsException" up_X).filter goodWord, x ∈ wG := fun x hx => wG_in ((by decide +kernel : ∀ x ∈ (vx_atS RX5 106 "java/lang/IndexOutOfBoundsException" up_X).filter goodWord, x ∈ lw_tbl) x hx) (List.mem_filter.mp hx).2
theorem at_Y2 : ∀ x ∈ (vx_atS RX5 106 "java/lang/IndexOutOfBoundsException" up_X).filter (fun x => !goodWord x), x ∈ ([.castable "java/lang/IndexOutOfBoundsException" "java/lang/IndexOutOfBoundsException", .declares (Bundle.initS "java/lang/RuntimeException"), .declares (Bundle.initS "java/lang/Exception"), .declares (Bundle.initS "java/lang/Throwable")] : List Cond) := by decide +kernel
theorem at_Z2 : ∀ x ∈ vx_atS RX5 106 "java/lang/IndexOutOfBoundsException" up_X, vx_ot x = true := by decide +kernel
theorem at_i2 : Cond.initialized "java/lang/IndexOutOfBoundsException" ∈ wG := wG_in (List.mem_append_right _ (List.mem_append_left _ (List.mem_of_getElem? (i := 14) rfl))) rfl
theorem at_k2 : Cond.classLink RX5 102 "java/lang/IndexOutOfBoundsException" ∈ wG := wG_in (List.mem_append_right _ (List.mem_append_right _ (List.mem_append_right _ (List.mem_append_left _ (List.mem_of_getElem? (i := 68) rfl))))) rfl
set_option maxRecDepth 100000 in
theorem t_X5_slot_1 {l : Launch} (hl : l.stackTraces = false) {D : va_G} {cI : ClassId} {ad : Nat → Nat} (M : Mem) (a1 : Int32) (h0 : M 10 0 = 0) : KT l D [(cI, .int)] (wN cI ad) yX5_slot cX5_slot 4 rmT [.ref (ad 0), .int a1] M "java/lang/IllegalStateException" := met_t (by decide) (Nat.le_of_ble_eq_true rfl) (fun p e s m below meth c A C h hsx hnt ls hl9 => by
  have C : CX p s m _ meth c RX5 cX5_slot 4 (some .int) := C
  have hx := C.1
  have hb := C.2.1
  refine lv_aload_n hx hb dX5_slot_0 rfl (lv_at hl9 0 rfl) ?_
  refine N_X5_code_get C h in_fX5_10 dX5_slot_1 ?_
  refine N_X1_isClosed_get (v := M 10 0) C h in_fX5_64 rfl dX5_slot_4 ?_
  refine lv_if_ne (tgt := 20) hx hb dX5_slot_7 (by decide) (fun c1 => absurd h0 c1) (fun _ => ?_)
  exact wh_throw hl C h hsx hnt hl9.1 (by decide) at_k0 at_i0 hsx.1 at_X0 at_Y0 hsx.2.2.2.2.2.2.2.1.1 at_Z0 dX5_slot_10 dX5_slot_13 dX5_slot_14 dX5_slot_16 dX5_slot_19)
set_option maxRecDepth 100000 in
theorem t_X5_slot_2 {l : Launch} (hl : l.stackTraces = false) {D : va_G} {cI : ClassId} {ad : Nat → Nat} (M : Mem) (a1 : Int32) (h0 : ¬ M 10 0 = 0) (h1 : a1 < 0 ∨ 500 < a1) : KT l D [(cI, .int)] (wN cI ad) yX5_slot cX5_slot 4 rmT [.ref (ad 0), .int a1] M "java/lang/IllegalArgumentException" := met_t (by decide) (Nat.le_of_ble_eq_true rfl) (fun p e s m below meth c A C h hsx hnt ls hl9 => by
  have C : CX p s m _ meth c RX5 cX5_slot 4 (some .int) := C
  have hx := C.1
  have hb := C.2.1
  refine lv_aload_n hx hb dX5_slot_0 rfl (lv_at hl9 0 rfl) ?_
  refine N_X5_code_get C h in_fX5_10 dX5_slot_1 ?_
  refine N_X1_isClosed_get (v := M 10 0) C h in_fX5_64 rfl dX5_slot_4 ?_
  refine lv_if_ne (tgt := 20) hx hb dX5_slot_7 (by decide) (fun _ => ?_) (fun c1 => absurd c1 h0)
  refine lv_iload_n hx hb dX5_slot_20 rfl (lv_at hl9 1 rfl) ?_
  refine lv_if_lt (tgt := 31) hx hb dX5_slot_21 (by decide) (fun _ => ?_) (fun c2 => ?_)
  · exact wh_throw hl C h hsx hnt hl9.1 (by decide) at_k1 at_i1 hsx.2.1 at_X1 at_Y1 hsx.2.2.2.2.2.2.2.1.2.1 at_Z1 dX5_slot_31 dX5_slot_34 dX5_slot_35 dX5_slot_37 dX5_slot_40
  · refine lv_iload_n hx hb dX5_slot_24 rfl (lv_at hl9 1 rfl) ?_
    refine lv_sipush (v := (500 : Int32)) hx hb dX5_slot_25 (by decide) ?_
    refine lv_icmp_le (tgt := 41) hx hb dX5_slot_28 (by decide) (fun c3 => ?_) (fun _ => ?_)
    · exact absurd c3 (h1.elim (fun h9 => absurd h9 c2) (fun h9 => Int32.not_le.mpr h9))
    · exact wh_throw hl C h hsx hnt hl9.1 (by decide) at_k1 at_i1 hsx.2.1 at_X1 at_Y1 hsx.2.2.2.2.2.2.2.1.2.1 at_Z1 dX5_slot_31 dX5_slot_34 dX5_slot_35 dX5_slot_37 dX5_slot_40)
set_option maxRecDepth 100000 in
theorem t_X5_kept {l : Launch} (hl : l.stackTraces = false) {D : va_G} {cI : ClassId} {ad : Nat → Nat} (M : Mem) (a1 a2 : Int32) (h1 : a1 < 0 ∨ 164 ≤ a1) : KT l D [(cI, .int)] (wN cI ad) yX5_kept cX5_kept 3 rmT [.ref (ad 0), .int a1, .int a2] M "java/lang/IndexOutOfBoundsException" := met_t (by decide) (Nat.le_of_ble_eq_true rfl) (fun p e s m below meth c A C h hsx hnt ls hl9 => by
  have C : CX p s m _ meth c RX5 cX5_kept 3 (some .int) := C
  have hx := C.1
  have hb := C.2.1
  refine lv_iload_n hx hb dX5_kept_0 rfl (lv_at hl9 1 rfl) ?_
  refine lv_if_lt (tgt := 11) hx hb dX5_kept_1 (by decide) (fun _ => ?_) (fun c2 => ?_)
  · exact wh_throw hl C h hsx hnt hl9.1 (by decide) at_k2 at_i2 hsx.2.2.1 at_X2 at_Y2 hsx.2.2.2.2.2.2.2.1.2.2 at_Z2 dX5_kept_11 dX5_kept_14 dX5_kept_15 dX5_kept_17 dX5_kept_20
  · refine lv_iload_n hx hb dX5_kept_4 rfl (lv_at hl9 1 rfl) ?_
    refine lv_sipush (v := (164 : Int32)) hx hb dX5_kept_5 (by decide) ?_
    refine lv_icmp_lt (tgt := 21) hx hb dX5_kept_8 (by decide) (fun c3 => ?_) (fun _ => ?_)
    · exact absurd c3 (h1.elim (fun h9 => absurd h9 c2) (fun h9 => Int32.not_lt.mpr h9))
    · exact wh_throw hl C h hsx hnt hl9.1 (by decide) at_k2 at_i2 hsx.2.2.1 at_X2 at_Y2 hsx.2.2.2.2.2.2.2.1.2.2 at_Z2 dX5_kept_11 dX5_kept_14 dX5_kept_15 dX5_kept_17 dX5_kept_20)
set_option maxRecDepth 100000 in
theorem t_X5_heard {l : Launch} (hl : l.stackTraces = false) {D : va_G} {cI : ClassId} {ad : Nat → Nat} (M : Mem) (a1 : Int32) (h1 : f_X3_farSideHas M a1 = 0) : KT l D [(cI, .int)] (wN cI ad) yX5_heard cX5_heard 2 rmT [.ref (ad 0), .int a1] M "java/lang/IndexOutOfBoundsException" := met_t (by decide) (Nat.le_of_ble_eq_true rfl) (fun p e s m below meth c A C h hsx hnt ls hl9 => by
  have C : CX p s m _ meth c RX5 cX5_heard 2 (some .int) := C
  have hx := C.1
  have hb := C.2.1
  refine lv_aload_n hx hb dX5_heard_0 rfl (lv_at hl9 0 rfl) ?_
  refine N_X5_radio_get C h in_fX5_39 dX5_heard_1 ?_
  refine lv_iload_n hx hb dX5_heard_4 rfl (lv_at hl9 1 rfl) ?_
  refine wh_cvzp (As := [.int a1]) (rest := []) ⟨by decide, by decide⟩ C h (c_X3_farSideHas M a1) yw_X3_farSideHas in_mX5_116 hl9.1 rfl rfl (Nat.le_of_ble_eq_true rfl) ⟨Nat.le_of_ble_eq_true rfl, Nat.le_of_ble_eq_true rfl⟩ dX5_heard_5 (fun H locs z1 h => ?_)
  refine lv_if_ne (tgt := 21) hx hb dX5_heard_8 (by decide) (fun c1 => absurd h1 c1) (fun _ => ?_)
  exact wh_throw hl C h hsx hnt hl9.1 (by decide) at_k2 at_i2 hsx.2.2.2.1 at_X2 at_Y2 hsx.2.2.2.2.2.2.2.1.2.2 at_Z2 dX5_heard_11 dX5_heard_14 dX5_heard_15 dX5_heard_17 dX5_heard_20)
