/-! The world at a point, and the rows that a program lays one behind the other. SF: the static tables. -/
def WH (D : va_G) (tys : List (ClassId × FieldType)) (w : Mem → va_W) (A : Nat → Prop) (s : State) (H : Heap) (locs : List Loc) (M : Mem) : Prop := va_K D vwCl tys s ∧ va_P D vwCl (w M) H ∧ va_D A (w M) ∧ va_S A s.heap H locs ∧ (∀ q, s.heap.size ≤ q → A q) ∧ SF A s s.heap
def PB (D : va_G) (tys : List (ClassId × FieldType)) (w : Mem → va_W) (A : Nat → Prop) (u : Mem) (t : State) : Prop := va_P D vwCl (w u) t.heap ∧ va_K D vwCl tys t ∧ va_D A (w u)
def PI (D : va_G) (tys : List (ClassId × FieldType)) (w : Mem → va_W) (A : Nat → Prop) (res : Mem × Int32) : Array Value → State → Outcome → State → Prop := va_Qi (fun r u => res = (u, r)) (PB D tys w A) A
def PZ (D : va_G) (tys : List (ClassId × FieldType)) (w : Mem → va_W) (A : Nat → Prop) (res : Mem × Int32) : Array Value → State → Outcome → State → Prop := va_Qi (fun r u => res = (u, r) ∧ nb r) (PB D tys w A) A
def PV (D : va_G) (tys : List (ClassId × FieldType)) (w : Mem → va_W) (A : Nat → Prop) (res : Mem) : Array Value → State → Outcome → State → Prop := va_Qv (fun u => res = u) (PB D tys w A) A
def PreW (D : va_G) (tys : List (ClassId × FieldType)) (w : Mem → va_W) (M : Mem) (sz : Nat) (U : State) : Prop := U.heap.size = sz ∧ va_P D vwCl (w M) U.heap ∧ va_K D vwCl tys U ∧ va_D (fun _ => True) (w M) ∧ SF (va_A (w M) sz) U U.heap
def KI (l : Launch) (D : va_G) (tys : List (ClassId × FieldType)) (w : Mem → va_W) (y : MethodName) (cc : ByteArray) (nL : Nat) (rm : Room) (av : List Value) (M : Mem) (res : Mem × Int32) : Prop := ∀ sz : Nat, Met l y (.code y cc nL (some .int) :: wG) rm (va_Pc av (PreW D tys w M sz)) (PI D tys w (va_A (w M) sz) res) 0 0 (va_A (w M) sz)
def KZ (l : Launch) (D : va_G) (tys : List (ClassId × FieldType)) (w : Mem → va_W) (y : MethodName) (cc : ByteArray) (nL : Nat) (rm : Room) (av : List Value) (M : Mem) (res : Mem × Int32) : Prop := ∀ sz : Nat, Met l y (.code y cc nL (some .boolean) :: wG) rm (va_Pc av (PreW D tys w M sz)) (PZ D tys w (va_A (w M) sz) res) 0 0 (va_A (w M) sz)
def KV (l : Launch) (D : va_G) (tys : List (ClassId × FieldType)) (w : Mem → va_W) (y : MethodName) (cc : ByteArray) (nL : Nat) (rm : Room) (av : List Value) (M : Mem) (res : Mem) : Prop := ∀ sz : Nat, Met l y (.code y cc nL none :: wG) rm (va_Pc av (PreW D tys w M sz)) (PV D tys w (va_A (w M) sz) res) 0 0 (va_A (w M) sz)
/-- what the tables say of a method of an object of the world (virtual), of a static one -/
def YV (w : Mem → va_W) (b : Nat) (y : MethodName) (cc : ByteArray) (nL : Nat) (rt : Option FieldType) (rm : Room) (n : Nat) : Prop := (∀ M : Mem, ∃ (q0 ci : Nat) (fs : List Value) (q : vw_C), (w M)[q0]? = some (b, .inr (ci, fs)) ∧ vwCl[ci]? = some q ∧ q.1 = y.cls) ∧ Cond.code y cc nL rt ∈ wG ∧ Cond.instanceMethod y ∈ wG ∧ Cond.selects y.cls y y ∈ wG ∧ Cond.initialized y.cls ∈ wG ∧ (y.cls ≠ "java/lang/invoke/MethodHandle" ∧ y.cls ≠ "java/lang/invoke/VarHandle" ∧ (parseMethodDescriptor y.desc).map (fun d => d.parameters.length) = some n) ∧ rm.cells = 0 ∧ rm.slots = 0
def YS (y : MethodName) (cc : ByteArray) (nL : Nat) (rt : Option FieldType) (rm : Room) (n : Nat) : Prop := Cond.code y cc nL rt ∈ wG ∧ Cond.static y ∈ wG ∧ Cond.initialized y.cls ∈ wG ∧ (y.cls ≠ "java/lang/invoke/MethodHandle" ∧ y.cls ≠ "java/lang/invoke/VarHandle" ∧ (parseMethodDescriptor y.desc).map (fun d => d.parameters.length) = some n) ∧ rm.cells = 0 ∧ rm.slots = 0
section Walk1
variable {p : Program} {l : Launch} {e : Env} {R : Room} {s : State} {m : MethodId} {args : Array Value} {below : List Frame} {meth : Method} {c : Code} {H : Heap} {locs : List Loc} {cells slots : Nat} {Q : State → Prop} {own : String} {cc : ByteArray} {nL : Nat} {rt : Option FieldType} {D : va_G} {tys : List (ClassId × FieldType)} {w : Mem → va_W} {A : Nat → Prop} {M : Mem} {pc : Nat} {ls : Array Slot} {rest : List Value}
theorem wh_get (C : CX p s m args meth c own cc nL rt) (h : WH D tys w A s H locs M) {C1 : String} {T : u_T} {N ci idx a : Nat} {fs : List Value} {v : Value} (q0 k : Nat) (he : (w M)[q0]? = some (a, .inr (ci, fs))) (hc : vwCl[ci]? = some (C1, T, N)) (hin : ∀ x ∈ u_ws C1 T N, x ∈ wG) (hk : k < N) (hlink : Cond.fieldLink own idx (T k).1 (T k).2.1 (T k).2.2.1 ∈ wG) (hv : fs[k]? = some v) (hd : decode cc pc = .ok (.getfield idx, 3)) (kk : W p l e R s m args below meth c H locs cells slots Q (F0 m (pc + 3) ls (v :: rest))) : W p l e R s m args below meth c H locs cells slots Q (F0 m pc ls (.ref a :: rest)) := by
  obtain ⟨hx, hb, hr, hml, hown, hts, hlk⟩ := C
  obtain ⟨hK, hP, hD, hS, hA, hF⟩ := h
  exact va_get hx hb hts hin hown hK hP q0 he hc k hk (hts _ hlink) (fun _ h9 => h9) hv hd kk
theorem wh_put (C : CX p s m args meth c own cc nL rt) (h : WH D tys w A s H locs M) {C1 : String} {T : u_T} {N ci idx a : Nat} {fs : List Value} {v : Value} {M2 : Mem} {ty : FieldType} (q0 k : Nat) (he : (w M)[q0]? = some (a, .inr (ci, fs))) (hc : vwCl[ci]? = some (C1, T, N)) (hin : ∀ x ∈ u_ws C1 T N, x ∈ wG) (ty0 : Nat → FieldType) (hty : ∀ k, k < N → parseFieldDescriptor (T k).2.2.1 = some (ty0 k)) (hnm : ∀ a, a < N → ∀ b, b < N → a ≠ b → (T a).2.1 ≠ (T b).2.1) (hk : k < N) (hlink : Cond.fieldLink own idx (T k).1 (T k).2.1 (T k).2.2.1 ∈ wG) (hfin : (T k).2.2.2 = false) (hd1 : parseFieldDescriptor (T k).2.2.1 = some ty) (hn : narrow ty v = v) (hfit : fits ty v = true) (hl : k < fs.length) (hM : (w M).set q0 (a, .inr (ci, fs.set k v)) = w M2) (hd : decode cc pc = .ok (.putfield idx, 3)) (kk : ∀ (H : Heap) (locs : List Loc), WH D tys w A s H locs M2 → W p l e R s m args below meth c H locs cells slots Q (F0 m (pc + 3) ls rest)) : W p l e R s m args below meth c H locs cells slots Q (F0 m pc ls (v :: .ref a :: rest)) := by
  obtain ⟨hx, hb, hr, hml, hown, hts, hlk⟩ := C
  obtain ⟨hK, hP, hD, hS, hA, hF⟩ := h
  refine va_put hx hb hts hin ty0 hty hnm hown hK hP hD hS q0 he hc k hk (hts _ hlink) (fun _ h9 => h9) hfin hd1 hn hfit hl hd (fun H1 locs1 hP1 hD1 hS1 => ?_)
  rw [hM] at hP1 hD1
  exact kk H1 locs1 ⟨hK, hP1, hD1, hS1, hA, hF⟩
theorem wh_ld (C : CX p s m args meth c own cc nL rt) (h : WH D tys w A s H locs M) {a : Nat} {cI : ClassId} {n : Nat} {f : Nat → Int32} {i v : Int32} (q0 : Nat) (he : (w M)[q0]? = some (a, .inl (cI, n, .inl f))) (ht : tys[0]? = some (cI, .int)) (hin : vp_in i n) (hv : f i.toNatClampNeg = v) (hd : decode cc pc = .ok (.iaload, 1)) (kk : W p l e R s m args below meth c H locs cells slots Q (F0 m (pc + 1) ls (.int v :: rest))) : W p l e R s m args below meth c H locs cells slots Q (F0 m pc ls (.int i :: .ref a :: rest)) := by
  obtain ⟨hx, hb, hr, hml, hown, hts, hlk⟩ := C
  obtain ⟨hK, hP, hD, hS, hA, hF⟩ := h
  subst hv
  exact va_iald hx hb hK hP q0 0 he ht hin hd kk
theorem wh_st (C : CX p s m args meth c own cc nL rt) (h : WH D tys w A s H locs M) {a : Nat} {cI : ClassId} {n : Nat} {f : Nat → Int32} {i x : Int32} {M2 : Mem} (q0 : Nat) (he : (w M)[q0]? = some (a, .inl (cI, n, .inl f))) (ht : tys[0]? = some (cI, .int)) (hin : vp_in i n) (hM : (w M).set q0 (a, .inl (cI, n, .inl (upd f i.toNatClampNeg x))) = w M2) (hd : decode cc pc = .ok (.iastore, 1)) (kk : ∀ (H : Heap) (locs : List Loc), WH D tys w A s H locs M2 → W p l e R s m args below meth c H locs cells slots Q (F0 m (pc + 1) ls rest)) : W p l e R s m args below meth c H locs cells slots Q (F0 m pc ls (.int x :: .int i :: .ref a :: rest)) := by
  obtain ⟨hx, hb, hr, hml, hown, hts, hlk⟩ := C
  obtain ⟨hK, hP, hD, hS, hA, hF⟩ := h
  refine va_iast hx hb hK hP hD hS q0 0 he ht hin hd (fun H1 locs1 hP1 hD1 hS1 => ?_)
  rw [hM] at hP1 hD1
  exact kk H1 locs1 ⟨hK, hP1, hD1, hS1, hA, hF⟩
theorem wh_len (C : CX p s m args meth c own cc nL rt) (h : WH D tys w A s H locs M) {a : Nat} {cI : ClassId} {n : Nat} {f : Nat → Int32} {v : Int32} (q0 : Nat) (he : (w M)[q0]? = some (a, .inl (cI, n, .inl f))) (ht : tys[0]? = some (cI, .int)) (hv : Int32.ofNat n = v) (hd : decode cc pc = .ok (.arraylength, 1)) (kk : W p l e R s m args below meth c H locs cells slots Q (F0 m (pc + 1) ls (.int v :: rest))) : W p l e R s m args below meth c H locs cells slots Q (F0 m pc ls (.ref a :: rest)) := by
  obtain ⟨hx, hb, hr, hml, hown, hts, hlk⟩ := C
  obtain ⟨hK, hP, hD, hS, hA, hF⟩ := h
  exact va_alen hx hb hK hP q0 0 he ht hv hd kk
theorem wh_iret (C : CX p s m args meth c own cc nL (some .int)) (h : WH D tys w A s H locs M) {v : Int32} {res : Mem × Int32} (hres : (M, v) = res) (hd : decode cc pc = .ok (.ireturn, 1)) : W p l e R s m args below meth c H locs cells slots (MQ below (PI D tys w A res) args s cells slots A) (F0 m pc ls [.int v]) := by
  obtain ⟨hx, hb, hr, hml, hown, hts, hlk⟩ := C
  obtain ⟨hK, hP, hD, hS, hA, hF⟩ := h
  exact W.iret hx hb hr (fun t ht hW => ⟨⟨v, M, rfl, hres.symm, by rw [ht]; exact hP, va_K.moved hW.alike hK, hD⟩, hS.F ht⟩) hS.2.2 hd
theorem wh_zret (C : CX p s m args meth c own cc nL (some .boolean)) (h : WH D tys w A s H locs M) {v : Int32} {res : Mem × Int32} (hn : nb v) (hres : (M, v) = res) (hd : decode cc pc = .ok (.ireturn, 1)) : W p l e R s m args below meth c H locs cells slots (MQ below (PZ D tys w A res) args s cells slots A) (F0 m pc ls [.int v]) := by
  obtain ⟨hx, hb, hr, hml, hown, hts, hlk⟩ := C
  obtain ⟨hK, hP, hD, hS, hA, hF⟩ := h
  exact W.zret hx hb hr hn.1 (fun t ht hW => ⟨⟨v, M, rfl, ⟨hres.symm, hn⟩, by rw [ht]; exact hP, va_K.moved hW.alike hK, hD⟩, hS.F ht⟩) hS.2.2 hd
theorem wh_vret (C : CX p s m args meth c own cc nL none) (h : WH D tys w A s H locs M) {res : Mem} (hres : M = res) (hd : decode cc pc = .ok (.return_, 1)) : W p l e R s m args below meth c H locs cells slots (MQ below (PV D tys w A res) args s cells slots A) (F0 m pc ls []) := by
  obtain ⟨hx, hb, hr, hml, hown, hts, hlk⟩ := C
  obtain ⟨hK, hP, hD, hS, hA, hF⟩ := h
  exact W.vret hx hb hr (fun t ht hW => ⟨⟨M, rfl, hres.symm, by rw [ht]; exact hP, va_K.moved hW.alike hK, hD⟩, hS.F ht⟩) hS.2.2 hd
theorem wh_mmax (C : CX p s m args meth c own cc nL rt) {idx : Nat} (hlink : Cond.methodLink own idx Lib.Math.max.name ∈ wG) (hsz : ls.size = nL) (hfr : 1 ≤ R.frames) (hlo : (rest.map fun v => v.category).sum + 13 ≤ R.locals) (hcs : cells ≤ R.cells ∧ slots ≤ R.slots) {x y : Int32} (hd : decode cc pc = .ok (.invokestatic idx, 3)) (kk : W p l e R s m args below meth c H locs cells slots Q (F0 m (pc + 3) ls (.int (if x < y then y else x) :: rest))) : W p l e R s m args below meth c H locs cells slots Q (F0 m pc ls (.int y :: .int x :: rest)) := by
  obtain ⟨hx, hb, hr, hml, hown, hts, hlk⟩ := C
  exact va_mmax hx hb (hml.trans hsz.symm) hown (hts _ hlink) (hts _ in_max_s) (hts _ in_math_i) (hts _ in_max_c) hfr hlo hcs.1 hcs.2 hd kk
theorem wh_mmin (C : CX p s m args meth c own cc nL rt) {idx : Nat} (hlink : Cond.methodLink own idx Lib.Math.min.name ∈ wG) (hsz : ls.size = nL) (hfr : 1 ≤ R.frames) (hlo : (rest.map fun v => v.category).sum + 13 ≤ R.locals) (hcs : cells ≤ R.cells ∧ slots ≤ R.slots) {x y : Int32} (hd : decode cc pc = .ok (.invokestatic idx, 3)) (kk : W p l e R s m args below meth c H locs cells slots Q (F0 m (pc + 3) ls (.int (if y < x then y else x) :: rest))) : W p l e R s m args below meth c H locs cells slots Q (F0 m pc ls (.int y :: .int x :: rest)) := by
  obtain ⟨hx, hb, hr, hml, hown, hts, hlk⟩ := C
  exact va_mmin hx hb (hml.trans hsz.symm) hown (hts _ hlink) (hts _ in_min_s) (hts _ in_math_i) (hts _ in_min_c) hfr hlo hcs.1 hcs.2 hd kk
theorem sw_in {k x : Int32} {dflt lo hi : Int} {offs : Array Int} {len : Nat} {off : Int} {tgt : Nat} (hc : x = k) (hexec : p.tables.exec = Jvm.exec) (hb : c.code = cc) (hdg : decode cc pc = .ok (.tableswitch dflt lo hi offs, len)) (h1 : ¬ k.toInt < lo) (h2 : ¬ hi < k.toInt) (ho : offs[(k.toInt - lo).toNat]? = some off) (ht : (pc : Int) + off = (tgt : Int)) (kk : W p l e R s m args below meth c H locs cells slots Q (F0 m tgt ls rest)) : W p l e R s m args below meth c H locs cells slots Q (F0 m pc ls (.int x :: rest)) := by
  subst hc
  exact lv_tableIn hexec hb hdg h1 h2 ho ht kk
theorem sw_lk {k x : Int32} {dflt : Int} {ps : Array (Int × Int)} {len : Nat} {off : Int} {tgt : Nat} (hc : x = k) (hexec : p.tables.exec = Jvm.exec) (hb : c.code = cc) (hdg : decode cc pc = .ok (.lookupswitch dflt ps, len)) (hp : (ps.toList.zip (ps.toList.drop 1)).all (fun (a, next) => a.1 < next.1) = true) (ho : Op.lookupswitch.offset ps.toList dflt k.toInt = off) (ht : (pc : Int) + off = (tgt : Int)) (kk : W p l e R s m args below meth c H locs cells slots Q (F0 m tgt ls rest)) : W p l e R s m args below meth c H locs cells slots Q (F0 m pc ls (.int x :: rest)) := by
  subst hc
  exact lv_lookup hexec hb hdg hp ho ht kk
/-- the pieces of a call: which cells the callee may change, its start -/
theorem wh_free (h : WH D tys w A s H locs M) : ∀ q, va_A (w M) H.size q → A q := by
  obtain ⟨hK, hP, hD, hS, hA, hF⟩ := h
  intro q hq
  rcases hq with ⟨k, e, hq⟩ | hq
  · exact hD.2 k (q, e) hq
  · exact hA q (Nat.le_trans hS.1 hq)
theorem wh_blind {av : List Value} {sz : Nat} : FrameBlind (va_Pc av (PreW D tys w M sz)) := fun a U g mk q => by
  obtain ⟨q0, q1, qP, qK, qD, qF⟩ := q
  exact ⟨q0, q1, qP, va_K.moved (u := U) (U := U.calling g mk a) (Vm.Alike.refl U.vm) qK, qD, SF.moved (u := U) (U := U.calling g mk a) (Vm.Alike.refl U.vm) qF⟩
theorem wh_pre (h : WH D tys w A s H locs M) {av : List Value} : ∀ U : State, U.heap = H → s.WarmedH U.vm → va_Pc av (PreW D tys w M H.size) av.toArray U := by
  have hFc := wh_free h
  obtain ⟨hK, hP, hD, hS, hA, hF⟩ := h
  intro U hU hW
  exact ⟨rfl, by rw [hU], by rw [hU]; exact hP, va_K.moved hW.alike hK, hD.weaken (fun _ _ _ _ => trivial), by rw [hU]; exact SF.moved hW.alike ((hF.kept hS.2.1).narrow hFc)⟩
theorem wh_back (h : WH D tys w A s H locs M) {u : Mem} {t : State} {H1 : Heap} {locs1 : List Loc} (ht : t.heap = H1) (hvm : s.vm.Alike t.vm) (hB : PB D tys w (va_A (w M) H.size) u t) (hS1 : va_S A s.heap H1 locs1) : WH D tys w A s H1 locs1 u := by
  have hFc := wh_free h
  obtain ⟨hK, hP, hD, hS, hA, hF⟩ := h
  obtain ⟨hP1, hK1, hD1⟩ := hB
  rw [ht] at hP1
  exact ⟨va_K.moved hvm.symm hK1, hP1, hD1.weaken (fun _ _ _ z => hFc _ z), hS1, hA, hF⟩
theorem wh_cwV (C : CX p s m args meth c own cc nL rt) {b idx n : Nat} {y : MethodName} {cy : ByteArray} {nLy : Nat} {rty : Option FieldType} {rm : Room} (Y : YV w b y cy nLy rty rm n) (hlink : Cond.methodLink own idx y ∈ wG) (hR : rm.frames + 1 ≤ R.frames ∧ 8 + (nLy + 11) + rm.locals ≤ R.locals) : CallW R s args own y.cls idx y cy nLy rty (.code y cy nLy rty :: wG) rm 0 0 n := by
  obtain ⟨hx, hb, hr, hml, hown, hts, hlk⟩ := C
  obtain ⟨-, y1, y2, y3, y4, y5, y6, y7⟩ := Y
  have hg : GoodIn wG (.code y cy nLy rty :: wG) := fun z hz => by
    rcases List.mem_cons.mp hz with rfl | hz
    · exact wG_good _ y1
    · exact wG_good _ hz
  exact ⟨callB_of n hts hg rfl y6 y7 (hts _ y4) (hts _ hlink) y5 hR, hts _ y2, hts _ y3⟩
theorem wh_cwS (C : CX p s m args meth c own cc nL rt) {idx n : Nat} {y : MethodName} {cy : ByteArray} {nLy : Nat} {rty : Option FieldType} {rm : Room} (Y : YS y cy nLy rty rm n) (hlink : Cond.methodLink own idx y ∈ wG) (hR : rm.frames + 1 ≤ R.frames ∧ 8 + (nLy + 11) + rm.locals ≤ R.locals) : CallB R s args own idx y cy nLy rty (.code y cy nLy rty :: wG) rm 0 0 n ∧ (Cond.static y).before args s = true := by
  obtain ⟨hx, hb, hr, hml, hown, hts, hlk⟩ := C
  obtain ⟨y1, y2, y4, y5, y6, y7⟩ := Y
  have hg : GoodIn wG (.code y cy nLy rty :: wG) := fun z hz => by
    rcases List.mem_cons.mp hz with rfl | hz
    · exact wG_good _ y1
    · exact wG_good _ hz
  exact ⟨callB_of n hts hg rfl y6 y7 (hts _ y4) (hts _ hlink) y5 hR, hts _ y2⟩
theorem wh_recv (h : WH D tys w A s H locs M) {b n : Nat} {y : MethodName} {cy : ByteArray} {nLy : Nat} {rty : Option FieldType} {rm : Room} (Y : YV w b y cy nLy rty rm n) : ∃ cell : Cell, H[b]? = some cell ∧ cell.vm.isStatics = false ∧ s.vm.findClass y.cls = some cell.cls := by
  obtain ⟨hK, hP, hD, hS, hA, hF⟩ := h
  obtain ⟨q0, ci, fs, q, h1, h2, h3⟩ := Y.1 M
  rw [← h3]
  exact va_recv hK hP h2 h1
theorem sf_gets (C : CX p s m args meth c own cc nL rt) {n : String} {f : Nat → Int32} (hS : va_S A s.heap H locs) (hZ : S1 n f A s s.heap) {idx : Nat} (hlink : Cond.fieldLink own idx "ThriftNode$Code" n "[I" ∈ wG) (hd : decode cc pc = .ok (.getstatic idx, 3)) (kk : ∀ t : Nat, va_T .int t 18 (fun j => .int (f j)) A s s.heap → W p l e R s m args below meth c H locs cells slots Q (F0 m (pc + 3) ls (.ref t :: rest))) : W p l e R s m args below meth c H locs cells slots Q (F0 m pc ls rest) := by
  obtain ⟨hx, hb, hr, hml, hown, hts, hlk⟩ := C
  obtain ⟨t, h1, h2⟩ := hZ
  exact va_gets hx hb h1 hS hown (hts _ hlink) (fun _ h9 => h9) hd (kk t h2)
theorem sf_COSTS (C : CX p s m args meth c own cc nL rt) (h : WH D tys w A s H locs M) {idx : Nat} (hlink : Cond.fieldLink own idx "ThriftNode$Code" "COSTS" "[I" ∈ wG) (hd : decode cc pc = .ok (.getstatic idx, 3)) (kk : ∀ t : Nat, va_T .int t 18 (fun j => .int (tab_COSTS j)) A s s.heap → W p l e R s m args below meth c H locs cells slots Q (F0 m (pc + 3) ls (.ref t :: rest))) : W p l e R s m args below meth c H locs cells slots Q (F0 m pc ls rest) := sf_gets C h.2.2.2.1 h.2.2.2.2.2.1 hlink hd kk
theorem sf_MOST_A (C : CX p s m args meth c own cc nL rt) (h : WH D tys w A s H locs M) {idx : Nat} (hlink : Cond.fieldLink own idx "ThriftNode$Code" "MOST_A" "[I" ∈ wG) (hd : decode cc pc = .ok (.getstatic idx, 3)) (kk : ∀ t : Nat, va_T .int t 18 (fun j => .int (tab_MOST_A j)) A s s.heap → W p l e R s m args below meth c H locs cells slots Q (F0 m (pc + 3) ls (.ref t :: rest))) : W p l e R s m args below meth c H locs cells slots Q (F0 m pc ls rest) := sf_gets C h.2.2.2.1 h.2.2.2.2.2.2.1 hlink hd kk
theorem sf_MOST_B (C : CX p s m args meth c own cc nL rt) (h : WH D tys w A s H locs M) {idx : Nat} (hlink : Cond.fieldLink own idx "ThriftNode$Code" "MOST_B" "[I" ∈ wG) (hd : decode cc pc = .ok (.getstatic idx, 3)) (kk : ∀ t : Nat, va_T .int t 18 (fun j => .int (tab_MOST_B j)) A s s.heap → W p l e R s m args below meth c H locs cells slots Q (F0 m (pc + 3) ls (.ref t :: rest))) : W p l e R s m args below meth c H locs cells slots Q (F0 m pc ls rest) := sf_gets C h.2.2.2.1 h.2.2.2.2.2.2.2.1 hlink hd kk
theorem sf_MOST_C (C : CX p s m args meth c own cc nL rt) (h : WH D tys w A s H locs M) {idx : Nat} (hlink : Cond.fieldLink own idx "ThriftNode$Code" "MOST_C" "[I" ∈ wG) (hd : decode cc pc = .ok (.getstatic idx, 3)) (kk : ∀ t : Nat, va_T .int t 18 (fun j => .int (tab_MOST_C j)) A s s.heap → W p l e R s m args below meth c H locs cells slots Q (F0 m (pc + 3) ls (.ref t :: rest))) : W p l e R s m args below meth c H locs cells slots Q (F0 m pc ls rest) := sf_gets C h.2.2.2.1 h.2.2.2.2.2.2.2.2 hlink hd kk
theorem sf_ld (C : CX p s m args meth c own cc nL rt) (h : WH D tys w A s H locs M) {t : Nat} {f : Nat → Int32} (hT : va_T .int t 18 (fun j => .int (f j)) A s s.heap) {i v : Int32} (hin : vp_in i 18) (hv : f i.toNatClampNeg = v) (hd : decode cc pc = .ok (.iaload, 1)) (kk : W p l e R s m args below meth c H locs cells slots Q (F0 m (pc + 1) ls (.int v :: rest))) : W p l e R s m args below meth c H locs cells slots Q (F0 m pc ls (.int i :: .ref t :: rest)) := by
  subst hv
  exact va_ti C.1 C.2.1 hT h.2.2.2.1 hin rfl hd kk
end Walk1
