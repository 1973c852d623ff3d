section Walk2
variable {p : Program} {l : Launch} {e : Env} {R : Room} {s : State} {m : MethodId} {args : Array Value} {below : List Frame} {meth : Method} {c : Code} {H : Heap} {locs : List Loc} {cells slots : Nat} {Q : State → Prop} {own : String} {cc : ByteArray} {nL : Nat} {rt : Option FieldType} {D : va_G} {tys : List (ClassId × FieldType)} {w : Mem → va_W} {A : Nat → Prop} {M : Mem} {pc : Nat} {ls : Array Slot}
theorem wh_cvi {As rest st0 : List Value} {b idx n : Nat} {y : MethodName} {cy : ByteArray} {nLy : Nat} {rm : Room} (hcs : cells ≤ R.cells ∧ slots ≤ R.slots) (C : CX p s m args meth c own cc nL rt) (h : WH D tys w A s H locs M) {res : Mem × Int32} (hM : KI l D tys w y cy nLy rm (.ref b :: As) M res) (Y : YV w b y cy nLy (some .int) rm n) (hlink : Cond.methodLink own idx y ∈ wG) (hsz : ls.size = nL) (hn : As.length = n) (hst : st0 = As.reverse ++ .ref b :: rest) (hW : (rest.map fun v => v.category).sum ≤ 8) (hR : rm.frames + 1 ≤ R.frames ∧ 8 + (nLy + 11) + rm.locals ≤ R.locals) (hd : decode cc pc = .ok (.invokevirtual idx, 3)) (kk : ∀ (u : Mem) (r : Int32) (H : Heap) (locs : List Loc), res = (u, r) → WH D tys w A s H locs u → W p l e R s m args below meth c H locs cells slots Q (F0 m (pc + 3) ls (.int r :: rest))) : W p l e R s m args below meth c H locs cells slots Q (F0 m pc ls st0) := by
  have hFc := wh_free h
  have hx := C.1
  have hb := C.2.1
  have hml := C.2.2.2.1
  have hown := C.2.2.2.2.1
  have hts := C.2.2.2.2.2.1
  have hS := h.2.2.2.1
  refine va_calli (va_runV (As := As) (rest := rest) ⟨hx, hb, hml, hown, hts⟩ (hM H.size) (wh_cwV C Y hlink hR) ⟨wh_blind, wh_recv h Y, wh_pre h⟩ rfl hn hsz hst (lv_room hW) hd hcs) hS (fun q _ z => hFc q z) hFc (fun r u t H1 locs1 ht hvm hw hB hz1 hk1 hS1 => ?_)
  exact kk u r H1 locs1 hw (wh_back h ht hvm hB hS1)
theorem wh_cvip {As rest st0 : List Value} {b idx n : Nat} {y : MethodName} {cy : ByteArray} {nLy : Nat} {rm : Room} (hcs : cells ≤ R.cells ∧ slots ≤ R.slots) (C : CX p s m args meth c own cc nL rt) (h : WH D tys w A s H locs M) {v : Int32} (hM : KI l D tys w y cy nLy rm (.ref b :: As) M (M, v)) (Y : YV w b y cy nLy (some .int) rm n) (hlink : Cond.methodLink own idx y ∈ wG) (hsz : ls.size = nL) (hn : As.length = n) (hst : st0 = As.reverse ++ .ref b :: rest) (hW : (rest.map fun v => v.category).sum ≤ 8) (hR : rm.frames + 1 ≤ R.frames ∧ 8 + (nLy + 11) + rm.locals ≤ R.locals) (hd : decode cc pc = .ok (.invokevirtual idx, 3)) (kk : ∀ (H : Heap) (locs : List Loc), WH D tys w A s H locs M → W p l e R s m args below meth c H locs cells slots Q (F0 m (pc + 3) ls (.int v :: rest))) : W p l e R s m args below meth c H locs cells slots Q (F0 m pc ls st0) := by
  have hFc := wh_free h
  have hx := C.1
  have hb := C.2.1
  have hml := C.2.2.2.1
  have hown := C.2.2.2.2.1
  have hts := C.2.2.2.2.2.1
  have hS := h.2.2.2.1
  refine va_calli (va_runV (As := As) (rest := rest) ⟨hx, hb, hml, hown, hts⟩ (hM H.size) (wh_cwV C Y hlink hR) ⟨wh_blind, wh_recv h Y, wh_pre h⟩ rfl hn hsz hst (lv_room hW) hd hcs) hS (fun q _ z => hFc q z) hFc (fun r u t H1 locs1 ht hvm hw hB hz1 hk1 hS1 => ?_)
  obtain ⟨rfl, rfl⟩ := Prod.mk.inj hw
  exact kk H1 locs1 (wh_back h ht hvm hB hS1)
theorem wh_cvz {As rest st0 : List Value} {b idx n : Nat} {y : MethodName} {cy : ByteArray} {nLy : Nat} {rm : Room} (hcs : cells ≤ R.cells ∧ slots ≤ R.slots) (C : CX p s m args meth c own cc nL rt) (h : WH D tys w A s H locs M) {res : Mem × Int32} (hM : KZ l D tys w y cy nLy rm (.ref b :: As) M res) (Y : YV w b y cy nLy (some .boolean) rm n) (hlink : Cond.methodLink own idx y ∈ wG) (hsz : ls.size = nL) (hn : As.length = n) (hst : st0 = As.reverse ++ .ref b :: rest) (hW : (rest.map fun v => v.category).sum ≤ 8) (hR : rm.frames + 1 ≤ R.frames ∧ 8 + (nLy + 11) + rm.locals ≤ R.locals) (hd : decode cc pc = .ok (.invokevirtual idx, 3)) (kk : ∀ (u : Mem) (r : Int32) (H : Heap) (locs : List Loc), res = (u, r) → nb r → WH D tys w A s H locs u → W p l e R s m args below meth c H locs cells slots Q (F0 m (pc + 3) ls (.int r :: rest))) : W p l e R s m args below meth c H locs cells slots Q (F0 m pc ls st0) := by
  have hFc := wh_free h
  have hx := C.1
  have hb := C.2.1
  have hml := C.2.2.2.1
  have hown := C.2.2.2.2.1
  have hts := C.2.2.2.2.2.1
  have hS := h.2.2.2.1
  refine va_calli (va_runV (As := As) (rest := rest) ⟨hx, hb, hml, hown, hts⟩ (hM H.size) (wh_cwV C Y hlink hR) ⟨wh_blind, wh_recv h Y, wh_pre h⟩ rfl hn hsz hst (lv_room hW) hd hcs) hS (fun q _ z => hFc q z) hFc (fun r u t H1 locs1 ht hvm hw hB hz1 hk1 hS1 => ?_)
  exact kk u r H1 locs1 hw.1 hw.2 (wh_back h ht hvm hB hS1)
theorem wh_cvzp {As rest st0 : List Value} {b idx n : Nat} {y : MethodName} {cy : ByteArray} {nLy : Nat} {rm : Room} (hcs : cells ≤ R.cells ∧ slots ≤ R.slots) (C : CX p s m args meth c own cc nL rt) (h : WH D tys w A s H locs M) {v : Int32} (hM : KZ l D tys w y cy nLy rm (.ref b :: As) M (M, v)) (Y : YV w b y cy nLy (some .boolean) rm n) (hlink : Cond.methodLink own idx y ∈ wG) (hsz : ls.size = nL) (hn : As.length = n) (hst : st0 = As.reverse ++ .ref b :: rest) (hW : (rest.map fun v => v.category).sum ≤ 8) (hR : rm.frames + 1 ≤ R.frames ∧ 8 + (nLy + 11) + rm.locals ≤ R.locals) (hd : decode cc pc = .ok (.invokevirtual idx, 3)) (kk : ∀ (H : Heap) (locs : List Loc), nb v → WH D tys w A s H locs M → W p l e R s m args below meth c H locs cells slots Q (F0 m (pc + 3) ls (.int v :: rest))) : W p l e R s m args below meth c H locs cells slots Q (F0 m pc ls st0) := by
  have hFc := wh_free h
  have hx := C.1
  have hb := C.2.1
  have hml := C.2.2.2.1
  have hown := C.2.2.2.2.1
  have hts := C.2.2.2.2.2.1
  have hS := h.2.2.2.1
  refine va_calli (va_runV (As := As) (rest := rest) ⟨hx, hb, hml, hown, hts⟩ (hM H.size) (wh_cwV C Y hlink hR) ⟨wh_blind, wh_recv h Y, wh_pre h⟩ rfl hn hsz hst (lv_room hW) hd hcs) hS (fun q _ z => hFc q z) hFc (fun r u t H1 locs1 ht hvm hw hB hz1 hk1 hS1 => ?_)
  obtain ⟨hw, hz⟩ := hw
  obtain ⟨rfl, rfl⟩ := Prod.mk.inj hw
  exact kk H1 locs1 hz (wh_back h ht hvm hB hS1)
theorem wh_cvv {As rest st0 : List Value} {b idx n : Nat} {y : MethodName} {cy : ByteArray} {nLy : Nat} {rm : Room} (hcs : cells ≤ R.cells ∧ slots ≤ R.slots) (C : CX p s m args meth c own cc nL rt) (h : WH D tys w A s H locs M) {res : Mem} (hM : KV l D tys w y cy nLy rm (.ref b :: As) M res) (Y : YV w b y cy nLy none rm n) (hlink : Cond.methodLink own idx y ∈ wG) (hsz : ls.size = nL) (hn : As.length = n) (hst : st0 = As.reverse ++ .ref b :: rest) (hW : (rest.map fun v => v.category).sum ≤ 8) (hR : rm.frames + 1 ≤ R.frames ∧ 8 + (nLy + 11) + rm.locals ≤ R.locals) (hd : decode cc pc = .ok (.invokevirtual idx, 3)) (kk : ∀ (u : Mem) (H : Heap) (locs : List Loc), res = u → WH D tys w A s H locs u → W p l e R s m args below meth c H locs cells slots Q (F0 m (pc + 3) ls rest)) : W p l e R s m args below meth c H locs cells slots Q (F0 m pc ls st0) := by
  have hFc := wh_free h
  have hx := C.1
  have hb := C.2.1
  have hml := C.2.2.2.1
  have hown := C.2.2.2.2.1
  have hts := C.2.2.2.2.2.1
  have hS := h.2.2.2.1
  refine va_callv (va_runV (As := As) (rest := rest) ⟨hx, hb, hml, hown, hts⟩ (hM H.size) (wh_cwV C Y hlink hR) ⟨wh_blind, wh_recv h Y, wh_pre h⟩ rfl hn hsz hst (lv_room hW) hd hcs) hS (fun q _ z => hFc q z) hFc (fun u t H1 locs1 ht hvm hw hB hz1 hk1 hS1 => ?_)
  exact kk u H1 locs1 hw (wh_back h ht hvm hB hS1)
theorem wh_csi {As rest st0 : List Value} {idx n : Nat} {y : MethodName} {cy : ByteArray} {nLy : Nat} {rm : Room} (hcs : cells ≤ R.cells ∧ slots ≤ R.slots) (C : CX p s m args meth c own cc nL rt) (h : WH D tys w A s H locs M) {res : Mem × Int32} (hM : KI l D tys w y cy nLy rm As M res) (Y : YS y cy nLy (some .int) rm n) (hlink : Cond.methodLink own idx y ∈ wG) (hsz : ls.size = nL) (hn : As.length = n) (hst : st0 = As.reverse ++ rest) (hW : (rest.map fun v => v.category).sum ≤ 8) (hR : rm.frames + 1 ≤ R.frames ∧ 8 + (nLy + 11) + rm.locals ≤ R.locals) (hd : decode cc pc = .ok (.invokestatic idx, 3)) (kk : ∀ (u : Mem) (r : Int32) (H : Heap) (locs : List Loc), res = (u, r) → WH D tys w A s H locs u → W p l e R s m args below meth c H locs cells slots Q (F0 m (pc + 3) ls (.int r :: rest))) : W p l e R s m args below meth c H locs cells slots Q (F0 m pc ls st0) := by
  have hFc := wh_free h
  have hx := C.1
  have hb := C.2.1
  have hml := C.2.2.2.1
  have hown := C.2.2.2.2.1
  have hts := C.2.2.2.2.2.1
  have hS := h.2.2.2.1
  refine va_calli (va_runS (As := As) (rest := rest) ⟨hx, hb, hml, hown, hts⟩ (hM H.size) (wh_cwS C Y hlink hR) ⟨wh_blind, wh_pre h⟩ rfl hn hsz hst (lv_room hW) hd hcs) hS (fun q _ z => hFc q z) hFc (fun r u t H1 locs1 ht hvm hw hB hz1 hk1 hS1 => ?_)
  exact kk u r H1 locs1 hw (wh_back h ht hvm hB hS1)
theorem wh_csip {As rest st0 : List Value} {idx n : Nat} {y : MethodName} {cy : ByteArray} {nLy : Nat} {rm : Room} (hcs : cells ≤ R.cells ∧ slots ≤ R.slots) (C : CX p s m args meth c own cc nL rt) (h : WH D tys w A s H locs M) {v : Int32} (hM : KI l D tys w y cy nLy rm As M (M, v)) (Y : YS y cy nLy (some .int) rm n) (hlink : Cond.methodLink own idx y ∈ wG) (hsz : ls.size = nL) (hn : As.length = n) (hst : st0 = As.reverse ++ rest) (hW : (rest.map fun v => v.category).sum ≤ 8) (hR : rm.frames + 1 ≤ R.frames ∧ 8 + (nLy + 11) + rm.locals ≤ R.locals) (hd : decode cc pc = .ok (.invokestatic idx, 3)) (kk : ∀ (H : Heap) (locs : List Loc), WH D tys w A s H locs M → W p l e R s m args below meth c H locs cells slots Q (F0 m (pc + 3) ls (.int v :: rest))) : W p l e R s m args below meth c H locs cells slots Q (F0 m pc ls st0) := by
  have hFc := wh_free h
  have hx := C.1
  have hb := C.2.1
  have hml := C.2.2.2.1
  have hown := C.2.2.2.2.1
  have hts := C.2.2.2.2.2.1
  have hS := h.2.2.2.1
  refine va_calli (va_runS (As := As) (rest := rest) ⟨hx, hb, hml, hown, hts⟩ (hM H.size) (wh_cwS C Y hlink hR) ⟨wh_blind, wh_pre h⟩ rfl hn hsz hst (lv_room hW) hd hcs) hS (fun q _ z => hFc q z) hFc (fun r u t H1 locs1 ht hvm hw hB hz1 hk1 hS1 => ?_)
  obtain ⟨rfl, rfl⟩ := Prod.mk.inj hw
  exact kk H1 locs1 (wh_back h ht hvm hB hS1)
theorem wh_csz {As rest st0 : List Value} {idx n : Nat} {y : MethodName} {cy : ByteArray} {nLy : Nat} {rm : Room} (hcs : cells ≤ R.cells ∧ slots ≤ R.slots) (C : CX p s m args meth c own cc nL rt) (h : WH D tys w A s H locs M) {res : Mem × Int32} (hM : KZ l D tys w y cy nLy rm As M res) (Y : YS y cy nLy (some .boolean) rm n) (hlink : Cond.methodLink own idx y ∈ wG) (hsz : ls.size = nL) (hn : As.length = n) (hst : st0 = As.reverse ++ rest) (hW : (rest.map fun v => v.category).sum ≤ 8) (hR : rm.frames + 1 ≤ R.frames ∧ 8 + (nLy + 11) + rm.locals ≤ R.locals) (hd : decode cc pc = .ok (.invokestatic idx, 3)) (kk : ∀ (u : Mem) (r : Int32) (H : Heap) (locs : List Loc), res = (u, r) → nb r → WH D tys w A s H locs u → W p l e R s m args below meth c H locs cells slots Q (F0 m (pc + 3) ls (.int r :: rest))) : W p l e R s m args below meth c H locs cells slots Q (F0 m pc ls st0) := by
  have hFc := wh_free h
  have hx := C.1
  have hb := C.2.1
  have hml := C.2.2.2.1
  have hown := C.2.2.2.2.1
  have hts := C.2.2.2.2.2.1
  have hS := h.2.2.2.1
  refine va_calli (va_runS (As := As) (rest := rest) ⟨hx, hb, hml, hown, hts⟩ (hM H.size) (wh_cwS C Y hlink hR) ⟨wh_blind, wh_pre h⟩ rfl hn hsz hst (lv_room hW) hd hcs) hS (fun q _ z => hFc q z) hFc (fun r u t H1 locs1 ht hvm hw hB hz1 hk1 hS1 => ?_)
  exact kk u r H1 locs1 hw.1 hw.2 (wh_back h ht hvm hB hS1)
theorem wh_cszp {As rest st0 : List Value} {idx n : Nat} {y : MethodName} {cy : ByteArray} {nLy : Nat} {rm : Room} (hcs : cells ≤ R.cells ∧ slots ≤ R.slots) (C : CX p s m args meth c own cc nL rt) (h : WH D tys w A s H locs M) {v : Int32} (hM : KZ l D tys w y cy nLy rm As M (M, v)) (Y : YS y cy nLy (some .boolean) rm n) (hlink : Cond.methodLink own idx y ∈ wG) (hsz : ls.size = nL) (hn : As.length = n) (hst : st0 = As.reverse ++ rest) (hW : (rest.map fun v => v.category).sum ≤ 8) (hR : rm.frames + 1 ≤ R.frames ∧ 8 + (nLy + 11) + rm.locals ≤ R.locals) (hd : decode cc pc = .ok (.invokestatic idx, 3)) (kk : ∀ (H : Heap) (locs : List Loc), nb v → WH D tys w A s H locs M → W p l e R s m args below meth c H locs cells slots Q (F0 m (pc + 3) ls (.int v :: rest))) : W p l e R s m args below meth c H locs cells slots Q (F0 m pc ls st0) := by
  have hFc := wh_free h
  have hx := C.1
  have hb := C.2.1
  have hml := C.2.2.2.1
  have hown := C.2.2.2.2.1
  have hts := C.2.2.2.2.2.1
  have hS := h.2.2.2.1
  refine va_calli (va_runS (As := As) (rest := rest) ⟨hx, hb, hml, hown, hts⟩ (hM H.size) (wh_cwS C Y hlink hR) ⟨wh_blind, wh_pre h⟩ rfl hn hsz hst (lv_room hW) hd hcs) hS (fun q _ z => hFc q z) hFc (fun r u t H1 locs1 ht hvm hw hB hz1 hk1 hS1 => ?_)
  obtain ⟨hw, hz⟩ := hw
  obtain ⟨rfl, rfl⟩ := Prod.mk.inj hw
  exact kk H1 locs1 hz (wh_back h ht hvm hB hS1)
theorem wh_csv {As rest st0 : List Value} {idx n : Nat} {y : MethodName} {cy : ByteArray} {nLy : Nat} {rm : Room} (hcs : cells ≤ R.cells ∧ slots ≤ R.slots) (C : CX p s m args meth c own cc nL rt) (h : WH D tys w A s H locs M) {res : Mem} (hM : KV l D tys w y cy nLy rm As M res) (Y : YS y cy nLy none rm n) (hlink : Cond.methodLink own idx y ∈ wG) (hsz : ls.size = nL) (hn : As.length = n) (hst : st0 = As.reverse ++ rest) (hW : (rest.map fun v => v.category).sum ≤ 8) (hR : rm.frames + 1 ≤ R.frames ∧ 8 + (nLy + 11) + rm.locals ≤ R.locals) (hd : decode cc pc = .ok (.invokestatic idx, 3)) (kk : ∀ (u : Mem) (H : Heap) (locs : List Loc), res = u → WH D tys w A s H locs u → W p l e R s m args below meth c H locs cells slots Q (F0 m (pc + 3) ls rest)) : W p l e R s m args below meth c H locs cells slots Q (F0 m pc ls st0) := by
  have hFc := wh_free h
  have hx := C.1
  have hb := C.2.1
  have hml := C.2.2.2.1
  have hown := C.2.2.2.2.1
  have hts := C.2.2.2.2.2.1
  have hS := h.2.2.2.1
  refine va_callv (va_runS (As := As) (rest := rest) ⟨hx, hb, hml, hown, hts⟩ (hM H.size) (wh_cwS C Y hlink hR) ⟨wh_blind, wh_pre h⟩ rfl hn hsz hst (lv_room hW) hd hcs) hS (fun q _ z => hFc q z) hFc (fun u t H1 locs1 ht hvm hw hB hz1 hk1 hS1 => ?_)
  exact kk u H1 locs1 hw (wh_back h ht hvm hB hS1)
end Walk2
section Walk3
variable {l : Launch} {D : va_G} {tys : List (ClassId × FieldType)} {w : Mem → va_W} {M : Mem} {cc : ByteArray} {nL : Nat} {rm : Room} {y : MethodName} {av : List Value}
theorem met_i {res : Mem × Int32} (hy : plainName y.cls = true) (hlen : (lg_sl av).length ≤ nL) (body : ∀ (p : Program) (e : Env) (s : State) (m : MethodId) (below : List Frame) (meth : Method) (c : Code) (A : Nat → Prop), CX p s m av.toArray meth c y.cls cc nL (some .int) → WH D tys w A s s.heap [] M → ∀ ls : Array Slot, lv_has ls nL (lv_args 0 av) → W p l e rm s m av.toArray below meth c s.heap [] 0 0 (MQ below (PI D tys w A res) av.toArray s 0 0 A) (F0 m 0 ls [])) : KI l D tys w y cc nL rm av M res := by
  intro sz
  refine Met.ofW (cc := cc) (maxL := nL) (ret := (some .int)) hy rfl ?_
  intro p e s m args below meth c s₁ B hml hv
  obtain ⟨rfl, hsz, hP, hK, hD0, hF⟩ := hv
  subst hsz
  have hts := atoms_spec (ws := .code y cc nL (some .int) :: wG) B.pre
  have C : CX p s m av.toArray meth c y.cls cc nL (some .int) := ⟨B.exec, B.bytes, B.returns, hml, findClass_of_methodNamed B.named, fun x hx => hts x (List.mem_cons_of_mem _ hx), B.notSynchronized⟩
  rw [lg_entry_eq]
  exact body p e s m below meth c _ C ⟨hK, hP, hD0.self, va_S.rf, fun q h => Or.inr h, hF⟩ _ (lv_entry av hlen)
theorem met_z {res : Mem × Int32} (hy : plainName y.cls = true) (hlen : (lg_sl av).length ≤ nL) (body : ∀ (p : Program) (e : Env) (s : State) (m : MethodId) (below : List Frame) (meth : Method) (c : Code) (A : Nat → Prop), CX p s m av.toArray meth c y.cls cc nL (some .boolean) → WH D tys w A s s.heap [] M → ∀ ls : Array Slot, lv_has ls nL (lv_args 0 av) → W p l e rm s m av.toArray below meth c s.heap [] 0 0 (MQ below (PZ D tys w A res) av.toArray s 0 0 A) (F0 m 0 ls [])) : KZ l D tys w y cc nL rm av M res := by
  intro sz
  refine Met.ofW (cc := cc) (maxL := nL) (ret := (some .boolean)) hy rfl ?_
  intro p e s m args below meth c s₁ B hml hv
  obtain ⟨rfl, hsz, hP, hK, hD0, hF⟩ := hv
  subst hsz
  have hts := atoms_spec (ws := .code y cc nL (some .boolean) :: wG) B.pre
  have C : CX p s m av.toArray meth c y.cls cc nL (some .boolean) := ⟨B.exec, B.bytes, B.returns, hml, findClass_of_methodNamed B.named, fun x hx => hts x (List.mem_cons_of_mem _ hx), B.notSynchronized⟩
  rw [lg_entry_eq]
  exact body p e s m below meth c _ C ⟨hK, hP, hD0.self, va_S.rf, fun q h => Or.inr h, hF⟩ _ (lv_entry av hlen)
theorem met_v {res : Mem} (hy : plainName y.cls = true) (hlen : (lg_sl av).length ≤ nL) (body : ∀ (p : Program) (e : Env) (s : State) (m : MethodId) (below : List Frame) (meth : Method) (c : Code) (A : Nat → Prop), CX p s m av.toArray meth c y.cls cc nL none → WH D tys w A s s.heap [] M → ∀ ls : Array Slot, lv_has ls nL (lv_args 0 av) → W p l e rm s m av.toArray below meth c s.heap [] 0 0 (MQ below (PV D tys w A res) av.toArray s 0 0 A) (F0 m 0 ls [])) : KV l D tys w y cc nL rm av M res := by
  intro sz
  refine Met.ofW (cc := cc) (maxL := nL) (ret := none) hy rfl ?_
  intro p e s m args below meth c s₁ B hml hv
  obtain ⟨rfl, hsz, hP, hK, hD0, hF⟩ := hv
  subst hsz
  have hts := atoms_spec (ws := .code y cc nL none :: wG) B.pre
  have C : CX p s m av.toArray meth c y.cls cc nL none := ⟨B.exec, B.bytes, B.returns, hml, findClass_of_methodNamed B.named, fun x hx => hts x (List.mem_cons_of_mem _ hx), B.notSynchronized⟩
  rw [lg_entry_eq]
  exact body p e s m below meth c _ C ⟨hK, hP, hD0.self, va_S.rf, fun q h => Or.inr h, hF⟩ _ (lv_entry av hlen)
end Walk3
