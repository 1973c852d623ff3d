/-! Ours: from a thrown object to the row of the method's own table that takes it; the rows' classes may be resolved by the search itself (cold) -/
section Caught
/-- the search over these rows ends at h, with the tables v -/
def gs_to (e : Env) (f : JFrame) (a : Addr) (rows : List ExceptionTableEntry) (S : State) (h : Handler) (v : Vm) : Prop :=
  ∀ (Q : Handler → Pre) (E : CtlPost) (d : Bool) (acts : List Action), wp (findHandler.go f a rows) Q E e d acts S ↔ Q h d acts (S.setVm v)
theorem gs_row {e : Env} {f : JFrame} {a : Addr} {S : State} {x : ExceptionTableEntry} {t : List ExceptionTableEntry} {k : ClassId} {cell : Cell} (hx : covers x f.pc = true) (h0 : x.catchType ≠ 0) (hl : S.vm.ClassLinks e.platform f.method.cls x.catchType k)
    (hcell : S.heap[a]? = some cell) (hobj : ∀ z, cell.vm ≠ .statics z) (h1 : ∃ z, S.vm.classes[cell.cls]? = some z) (h2 : ∃ z, S.vm.classes[k]? = some z) :
    (S.vm.assignable cell.cls k = true → gs_to e f a (x :: t) S (.found x.handlerPc) (S.vm.noted f.method.cls x.catchType (.cls k))) ∧
    (S.vm.assignable cell.cls k = false → ∀ (h : Handler) (v : Vm), gs_to e f a t (S.setVm (S.vm.noted f.method.cls x.catchType (.cls k))) h v → gs_to e f a (x :: t) S h v) := by
  simp only [covers] at hx
  obtain ⟨r1, r2⟩ := (resolveClass_links e.toSetting hl).op (op := VmOp.resolveClass f.method.cls x.catchType) rfl
  have al : S.vm.Alike (S.vm.noted f.method.cls x.catchType (.cls k)) := (Vm.Alike.refl S.vm).noted _ _ _
  obtain ⟨z1, y1⟩ := h1
  obtain ⟨z2, y2⟩ := h2
  obtain ⟨w1, u1, -⟩ := al.2.2 _ _ y1
  obtain ⟨w2, u2, -⟩ := al.2.2 _ _ y2
  constructor
  · intro hf Q E d acts
    have hf' : (S.vm.noted f.method.cls x.catchType (.cls k)).assignable cell.cls k = true := by rw [al.assignable]; exact hf
    simp [findHandler.go, hx, h0, r1, r2, hcell, hobj, u1, u2, hf', VmOp.dirties, VmOp.acts]
  · intro hf h v ht Q E d acts
    have hf' : (S.vm.noted f.method.cls x.catchType (.cls k)).assignable cell.cls k = false := by rw [al.assignable]; exact hf
    have ht' := ht Q E
    simp [findHandler.go, hx, h0, r1, r2, hcell, hobj, u1, u2, hf', VmOp.dirties, VmOp.acts, ht']
    rfl
/-- a row that lets it by, a row that takes it: said of the start's tables -/
def gs_by (pl : Platform) (s : State) (d : ClassId) (pc : Nat) (thrown : ClassId) (y : ExceptionTableEntry) : Prop := covers y pc = false ∨ (y.catchType ≠ 0 ∧ ∃ k, s.vm.ClassLinks pl d y.catchType k ∧ s.vm.assignable thrown k = false)
theorem gs_find {e : Env} {s : State} {f : JFrame} {a : Addr} {cell : Cell} (hobj : ∀ z, cell.vm ≠ .statics z) (h1 : ∃ z, s.vm.classes[cell.cls]? = some z) (x : ExceptionTableEntry) (suf : List ExceptionTableEntry) (hx : covers x f.pc = true) (h0 : x.catchType ≠ 0) {k : ClassId} (hl : s.vm.ClassLinks e.platform f.method.cls x.catchType k) (hfit : s.vm.assignable cell.cls k = true) :
    ∀ (ahead : List ExceptionTableEntry) (S : State), s.WarmedH S.vm → S.heap[a]? = some cell → (∀ y ∈ ahead, gs_by e.platform s f.method.cls f.pc cell.cls y) → ∃ v, s.WarmedH v ∧ gs_to e f a (ahead ++ x :: suf) S (.found x.handlerPc) v := by
  obtain ⟨z1, y1⟩ := h1
  intro ahead
  induction ahead with
  | nil =>
    intro S hW hcell _
    obtain ⟨w1, u1, -⟩ := hW.alike.2.2 _ _ y1
    obtain ⟨dk, _, _, kt, hd, _, _, _, _, hkt, _, hopen⟩ := hl.here
    obtain ⟨w2, u2, -⟩ := hW.alike.2.2 _ _ hkt
    exact ⟨_, hW.noted hd hopen (State.rightAt_cls hl), (gs_row hx h0 (hW.classLinks hl) hcell hobj ⟨w1, u1⟩ ⟨w2, u2⟩).1 (by rw [hW.alike.assignable]; exact hfit)⟩
  | cons y ys ih =>
    intro S hW hcell hby
    have hys : ∀ z ∈ ys, gs_by e.platform s f.method.cls f.pc cell.cls z := fun z hz => hby z (List.mem_cons_of_mem _ hz)
    cases hcov : covers y f.pc with
    | false =>
      obtain ⟨v, hv, hq⟩ := ih S hW hcell hys
      exact ⟨v, hv, fun Q E d acts => by rw [List.cons_append, W.findHandler_go_skip hcov]; exact hq Q E d acts⟩
    | true =>
      rcases hby y List.mem_cons_self with h | ⟨g0, k2, g1, g2⟩
      · rw [h] at hcov; cases hcov
      · obtain ⟨w1, u1, -⟩ := hW.alike.2.2 _ _ y1
        obtain ⟨dk, _, _, kt, hd, _, _, _, _, hkt, _, hopen⟩ := g1.here
        obtain ⟨w2, u2, -⟩ := hW.alike.2.2 _ _ hkt
        obtain ⟨v, hv, hq⟩ := ih (S.setVm (S.vm.noted f.method.cls y.catchType (.cls k2))) (hW.noted hd hopen (State.rightAt_cls g1)) hcell hys
        exact ⟨v, hv, (gs_row hcov g0 (hW.classLinks g1) hcell hobj ⟨w1, u1⟩ ⟨w2, u2⟩).2 (by rw [hW.alike.assignable]; exact g2) _ _ hq⟩
/-- one step of the machine: into the handler -/
theorem gs_into {tb : Tables} {e : Env} {s target : State} {g : JFrame} {c : Code} {below : List Frame} {a : Addr} (h : At s g.method c below) {meth : Method} (hm : s.vm.method? g.method = some meth) (hc : meth.code = some c) {pc : Nat} {v : Vm}
    (hfind : gs_to e g a c.exceptionTable.toList ((s.setTop g).pushFrame (.throwing a)) (.found pc) v) (hrest : Steps tb e below ((s.setVm v).setTop { g with pc := pc, stack := [.ref a] }) target) : Steps tb e below ((s.setTop g).pushFrame (.throwing a)) target := by
  obtain ⟨hgo, hw⟩ := h.throwing a
  refine Steps.head hgo hw ?_
  obtain ⟨g₀, hg⟩ := Option.isSome_iff_exists.mp h.top
  obtain ⟨r, hr⟩ := State.topJava?_eq_some.mp hg
  have hm' : ((s.setTop g).pushFrame (.throwing a)).vm.method? g.method = some meth := by simpa [State.pushFrame, State.setFrames] using hm
  have key : (stepThrowing e ((s.setTop g).pushFrame (.throwing a)) a (.java g :: r)).Is ((((s.setTop g).pushFrame (.throwing a)).setVm v).setFrames (.java { g with pc := pc, stack := [.ref a] } :: r)) [] := by
    simp only [stepThrowing, searchFrame, vmDo]
    generalize hq : Sem.go _ e false [] ((s.setTop g).pushFrame (.throwing a)) = res
    obtain ⟨as, rfl, ha⟩ := Sem.eq_ok_of hq (a := Handler.found pc) (s' := ((s.setTop g).pushFrame (.throwing a)).setVm v) (acts' := []) (by
      have hz := fun Q E d acts => (W.findHandler_eq (Q := Q) (E := E) (e := e) (d := d) (acts := acts) (a := a) (f := g) hm' hc).trans (hfind Q E d acts)
      simp [hz])
    exact ⟨rfl, ha⟩
  have hr' : (s.setVm v).frames = .java g₀ :: r := hr
  rw [stepThread_throwing (frames_entered h.top _), hr, List.tail_cons, key.1]
  rw [State.setTop_of_frames _ hr'] at hrest
  have e1 : (((s.setTop g).pushFrame (.throwing a)).setVm v).setFrames (.java { g with pc := pc, stack := [.ref a] } :: r) = (s.setVm v).setFrames (.java { g with pc := pc, stack := [.ref a] } :: r) := by
    rw [State.pushFrame, State.setTop_of_frames _ hr]
    have h9 : ((((s.setFrames (.java g :: r)).setFrames (.throwing a :: (s.setFrames (.java g :: r)).frames)).setVm v)) = (((s.setFrames (.java g :: r)).setVm v).setFrames (.throwing a :: (s.setFrames (.java g :: r)).frames)) := rfl
    rw [h9, State.setFrames_setFrames]
    have h8 : (s.setFrames (.java g :: r)).setVm v = (s.setVm v).setFrames (.java g :: r) := rfl
    rw [h8, State.setFrames_setFrames]
  rw [e1]
  exact hrest
theorem gs_caught {p : Program} {l : Launch} {e : Env} {R : Room} {s : State} {m : MethodId} {args : Array Value} {below : List Frame} {meth : Method} {c : Code} {T : State} {locs : List Loc} {cells slots : Nat} (X : Stand p l e R s m args below meth c T locs cells slots) (q : Addr) {g : JFrame} (hg : g.method = m) {cell : Cell} (hcell : T.heap[q]? = some cell) (hobj : cell.vm.isStatics = false) (h1 : ∃ z, s.vm.classes[cell.cls]? = some z)
    (ahead : List ExceptionTableEntry) (x : ExceptionTableEntry) (suf : List ExceptionTableEntry) (hsplit : c.exceptionTable.toList = ahead ++ x :: suf) (hby : ∀ y ∈ ahead, gs_by e.platform s m.cls g.pc cell.cls y) (hx : covers x g.pc = true) (h0 : x.catchType ≠ 0) {k : ClassId} (hl : s.vm.ClassLinks e.platform m.cls x.catchType k) (hfit : s.vm.assignable cell.cls k = true) :
    ∃ v, Stand p l e R s m args below meth c (T.setVm v) locs cells slots ∧ Steps p.tables e below ((T.setTop g).pushFrame (.throwing q)) ((T.setVm v).setTop { g with pc := x.handlerPc, stack := [.ref q] }) := by
  subst hg
  obtain ⟨v, hv, hf⟩ := gs_find (e := e) (f := g) (a := q) (VmData.ne_statics_of hobj) h1 x suf hx h0 hl hfit ahead ((T.setTop g).pushFrame (.throwing q)) X.warmed hcell hby
  exact ⟨v, X.noted hv, gs_into X.here X.method' X.code (by rw [hsplit]; exact hf) (Steps.refl _)⟩
end Caught
