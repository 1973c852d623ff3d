/-! Rows of ours for every method: memory, contracts of one shape, the walk's common rows -/
abbrev Mem : Type := Nat → Nat → Int32
def ms (M : Mem) (k : Nat) (f : Nat → Int32) : Mem := fun j => bif Nat.beq j k then f else M j
def bc {α : Sort _} (x : Mem × Int32) (k : Mem → Int32 → α) : α := k x.1 x.2
def bv {α : Sort _} (x : Mem) (k : Mem → α) : α := k x
def ush (x y : Int32) : Int32 := (x.toUInt32 >>> (y.toUInt32 &&& Int32.toUInt32 31)).toInt32
def sx (x : Int32) : Int32 := x.toInt16.toInt32
def sb (x : Int32) : Int32 := x.toInt8.toInt32
theorem bc_e {α : Sort _} {u : Mem} {r : Int32} {k : Mem → Int32 → α} {z : α} (h : bc (u, r) k = z) : k u r = z := h
theorem bc_o {u : Mem} {r : Int32} {k : Mem → Int32 → Prop} (h : bc (u, r) k) : k u r := h
theorem bv_e {α : Sort _} {u : Mem} {k : Mem → α} {z : α} (h : bv u k = z) : k u = z := h
theorem bv_o {u : Mem} {k : Mem → Prop} (h : bv u k) : k u := h
theorem it_p {α : Sort _} {q : Prop} {dq : Decidable q} {x y z : α} (h : @ite α q dq x y = z) (hq : q) : x = z := (if_pos hq).symm.trans h
theorem it_n {α : Sort _} {q : Prop} {dq : Decidable q} {x y z : α} (h : @ite α q dq x y = z) (hq : ¬ q) : y = z := (if_neg hq).symm.trans h
theorem io_p {q : Prop} {dq : Decidable q} {x y : Prop} (h : @ite Prop q dq x y) (hq : q) : x := by rwa [if_pos hq] at h
theorem io_n {q : Prop} {dq : Decidable q} {x y : Prop} (h : @ite Prop q dq x y) (hq : ¬ q) : y := by rwa [if_neg hq] at h
theorem cz {M : Mem} {v r : Int32} (h : v = r) : (M, v) = (M, r) := by rw [h]
/-- the answer is 0 or 1 -/
def nb (r : Int32) : Prop := narrow .boolean (.int r) = .int r ∧ fits .boolean (.int r) = true
/-- the words of the tables that hold in every state behind the start -/
def wG : List Cond := lw_tbl.filter goodWord
theorem wG_good : GoodIn wG wG := fun _ h => ⟨h, good_of_word (List.mem_filter.mp h).2⟩
theorem wG_in {x : Cond} (h : x ∈ lw_tbl) (g : goodWord x = true) : x ∈ wG := List.mem_filter.mpr ⟨h, g⟩
theorem wG_at {x : Cond} (i : Nat) (h : lw_tbl[i]? = some x) (g : goodWord x = true) : x ∈ wG := wG_in (List.mem_of_getElem? h) g
def CX (p : Program) (s : State) (m : MethodId) (args : Array Value) (meth : Method) (c : Code) (own : String) (cc : ByteArray) (nL : Nat) (rt : Option FieldType) : Prop := p.tables.exec = Jvm.exec ∧ c.code = cc ∧ meth.sig.returnType = rt ∧ c.maxLocals = nL ∧ s.vm.findClass own = some m.cls ∧ (∀ x ∈ wG, x.before args s = true) ∧ meth.locks = false
theorem vp_l {i : Int32} {N : Nat} (h : ¬ (i < 0 ∨ N ≤ i.toNatClampNeg)) : vp_in i N := h
theorem nb_0 : nb 0 := ⟨rfl, rfl⟩
theorem nb_1 : nb 1 := ⟨rfl, rfl⟩
theorem wG_l {ws : List Cond} (ps : List Nat) (hp : ws = ps.filterMap (fun i => lw_tbl[i]?)) (h : ws.all goodWord = true) : ∀ x ∈ ws, x ∈ wG := by
  intro x hx
  have h1 := List.all_eq_true.mp h x hx
  rw [hp] at hx
  obtain ⟨i, -, hi⟩ := List.mem_filterMap.mp hx
  exact wG_in (List.mem_of_getElem? hi) h1
/-- the static tables -/
def tab_COSTS (j : Nat) : Int32 := ([1, 1, 1, 1, 4, 1, 1, 1, 2, 2, 2, 2, 3, 3, 10, 3, 1, 1] : List Int32).getD j 0
def tab_MOST_A (j : Nat) : Int32 := ([255, 7, 7, 7, 7, 7, 7, 255, 7, 7, 7, 7, 7, 7, 7, 7, 255, 255] : List Int32).getD j 0
def tab_MOST_B (j : Nat) : Int32 := ([255, 255, 7, 7, 7, 7, 255, 255, 15, 15, 3, 3, 1, 1, 3, 255, 255, 255] : List Int32).getD j 0
def tab_MOST_C (j : Nat) : Int32 := ([255, 255, 7, 7, 7, 7, 255, 255, 255, 255, 7, 7, 255, 255, 255, 255, 255, 255] : List Int32).getD j 0
def S1 (n : String) (f : Nat → Int32) (A : Nat → Prop) (U : State) (H : Heap) : Prop := ∃ t : Nat, va_Z "ThriftNode$Code" n "[I" (.ref t) A U H ∧ va_T .int t 18 (fun j => .int (f j)) A U H
theorem S1.moved {n : String} {f : Nat → Int32} {A : Nat → Prop} {u U : State} {H : Heap} (hvm : u.vm.Alike U.vm) (h : S1 n f A u H) : S1 n f A U H := by
  obtain ⟨t, h1, h2⟩ := h
  exact ⟨t, h1.moved hvm, h2.moved hvm⟩
theorem S1.kept {n : String} {f : Nat → Int32} {A : Nat → Prop} {U : State} {H H1 : Heap} (h : S1 n f A U H) (hq : ∀ a : Nat, a < H.size → ¬ A a → H1[a]? = H[a]?) : S1 n f A U H1 := by
  obtain ⟨t, h1, h2⟩ := h
  exact ⟨t, h1.kept hq, h2.kept hq⟩
theorem S1.narrow {n : String} {f : Nat → Int32} {A B : Nat → Prop} {U : State} {H : Heap} (h : S1 n f A U H) (hAB : ∀ q, B q → A q) : S1 n f B U H := by
  obtain ⟨t, h1, h2⟩ := h
  exact ⟨t, h1.narrow hAB, h2.narrow hAB⟩
def SF (A : Nat → Prop) (U : State) (H : Heap) : Prop := S1 "COSTS" tab_COSTS A U H ∧ S1 "MOST_A" tab_MOST_A A U H ∧ S1 "MOST_B" tab_MOST_B A U H ∧ S1 "MOST_C" tab_MOST_C A U H
theorem SF.moved {A : Nat → Prop} {u U : State} {H : Heap} (hvm : u.vm.Alike U.vm) (h : SF A u H) : SF A U H := ⟨h.1.moved hvm, h.2.1.moved hvm, h.2.2.1.moved hvm, h.2.2.2.moved hvm⟩
theorem SF.kept {A : Nat → Prop} {U : State} {H H1 : Heap} (h : SF A U H) (hq : ∀ a : Nat, a < H.size → ¬ A a → H1[a]? = H[a]?) : SF A U H1 := ⟨h.1.kept hq, h.2.1.kept hq, h.2.2.1.kept hq, h.2.2.2.kept hq⟩
theorem SF.narrow {A B : Nat → Prop} {U : State} {H : Heap} (h : SF A U H) (hAB : ∀ q, B q → A q) : SF B U H := ⟨h.1.narrow hAB, h.2.1.narrow hAB, h.2.2.1.narrow hAB, h.2.2.2.narrow hAB⟩
