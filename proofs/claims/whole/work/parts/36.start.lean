theorem st_COSTS {args : Array Value} {s : State} (hs : ∀ x ∈ flatC (Jvm.Cond.and given_1 narrow_1), x.before args s = true) (hts : ∀ x ∈ lw_tbl, x.before args s = true) {A : Nat → Prop} (hA : ∀ a : Nat, a < s.heap.size → ¬ A a) : S1 "COSTS" tab_COSTS A s s.heap := by
  have e0 := va_eqt (hs (.eq (.elem (.static "ThriftNode$Code" "COSTS" "[I") (.int 0)) (.int 1)) (by decide +kernel))
  have e1 := va_eqt (hs (.eq (.elem (.static "ThriftNode$Code" "COSTS" "[I") (.int 1)) (.int 1)) (by decide +kernel))
  have e2 := va_eqt (hs (.eq (.elem (.static "ThriftNode$Code" "COSTS" "[I") (.int 2)) (.int 1)) (by decide +kernel))
  have e3 := va_eqt (hs (.eq (.elem (.static "ThriftNode$Code" "COSTS" "[I") (.int 3)) (.int 1)) (by decide +kernel))
  have e4 := va_eqt (hs (.eq (.elem (.static "ThriftNode$Code" "COSTS" "[I") (.int 4)) (.int 4)) (by decide +kernel))
  have e5 := va_eqt (hs (.eq (.elem (.static "ThriftNode$Code" "COSTS" "[I") (.int 5)) (.int 1)) (by decide +kernel))
  have e6 := va_eqt (hs (.eq (.elem (.static "ThriftNode$Code" "COSTS" "[I") (.int 6)) (.int 1)) (by decide +kernel))
  have e7 := va_eqt (hs (.eq (.elem (.static "ThriftNode$Code" "COSTS" "[I") (.int 7)) (.int 1)) (by decide +kernel))
  have e8 := va_eqt (hs (.eq (.elem (.static "ThriftNode$Code" "COSTS" "[I") (.int 8)) (.int 2)) (by decide +kernel))
  have e9 := va_eqt (hs (.eq (.elem (.static "ThriftNode$Code" "COSTS" "[I") (.int 9)) (.int 2)) (by decide +kernel))
  have e10 := va_eqt (hs (.eq (.elem (.static "ThriftNode$Code" "COSTS" "[I") (.int 10)) (.int 2)) (by decide +kernel))
  have e11 := va_eqt (hs (.eq (.elem (.static "ThriftNode$Code" "COSTS" "[I") (.int 11)) (.int 2)) (by decide +kernel))
  have e12 := va_eqt (hs (.eq (.elem (.static "ThriftNode$Code" "COSTS" "[I") (.int 12)) (.int 3)) (by decide +kernel))
  have e13 := va_eqt (hs (.eq (.elem (.static "ThriftNode$Code" "COSTS" "[I") (.int 13)) (.int 3)) (by decide +kernel))
  have e14 := va_eqt (hs (.eq (.elem (.static "ThriftNode$Code" "COSTS" "[I") (.int 14)) (.int 10)) (by decide +kernel))
  have e15 := va_eqt (hs (.eq (.elem (.static "ThriftNode$Code" "COSTS" "[I") (.int 15)) (.int 3)) (by decide +kernel))
  have e16 := va_eqt (hs (.eq (.elem (.static "ThriftNode$Code" "COSTS" "[I") (.int 16)) (.int 1)) (by decide +kernel))
  have e17 := va_eqt (hs (.eq (.elem (.static "ThriftNode$Code" "COSTS" "[I") (.int 17)) (.int 1)) (by decide +kernel))
  obtain ⟨t, ht, hT⟩ := va_Tof (tm := (.static "ThriftNode$Code" "COSTS" "[I")) (ty := .int) (N := 18) (f := fun j => .int (tab_COSTS j)) (by decide) (hs (.arrayOf (.static "ThriftNode$Code" "COSTS" "[I") .int) (by decide +kernel)) (va_eqt (hs (.eq (.length (.static "ThriftNode$Code" "COSTS" "[I")) (.int 18)) (by decide +kernel))) (fun j hj => by
    match j, hj with
    | 0, _ => exact e0
    | 1, _ => exact e1
    | 2, _ => exact e2
    | 3, _ => exact e3
    | 4, _ => exact e4
    | 5, _ => exact e5
    | 6, _ => exact e6
    | 7, _ => exact e7
    | 8, _ => exact e8
    | 9, _ => exact e9
    | 10, _ => exact e10
    | 11, _ => exact e11
    | 12, _ => exact e12
    | 13, _ => exact e13
    | 14, _ => exact e14
    | 15, _ => exact e15
    | 16, _ => exact e16
    | 17, _ => exact e17
    | n + 18, h => exact absurd h (by omega)) hA
  exact ⟨t, va_Zref (hts (.laysStatic "ThriftNode$Code" "COSTS" "[I") (List.mem_append_right _ (List.mem_append_right _ (List.mem_append_left _ (List.mem_of_getElem? (i := 173) rfl))))) (hts (.initialized "ThriftNode$Code") (List.mem_append_right _ (List.mem_append_left _ (List.mem_of_getElem? (i := 2) rfl)))) ht hA, hT⟩
theorem st_MOST_A {args : Array Value} {s : State} (hs : ∀ x ∈ flatC (Jvm.Cond.and given_1 narrow_1), x.before args s = true) (hts : ∀ x ∈ lw_tbl, x.before args s = true) {A : Nat → Prop} (hA : ∀ a : Nat, a < s.heap.size → ¬ A a) : S1 "MOST_A" tab_MOST_A A s s.heap := by
  have e0 := va_eqt (hs (.eq (.elem (.static "ThriftNode$Code" "MOST_A" "[I") (.int 0)) (.int 255)) (by decide +kernel))
  have e1 := va_eqt (hs (.eq (.elem (.static "ThriftNode$Code" "MOST_A" "[I") (.int 1)) (.int 7)) (by decide +kernel))
  have e2 := va_eqt (hs (.eq (.elem (.static "ThriftNode$Code" "MOST_A" "[I") (.int 2)) (.int 7)) (by decide +kernel))
  have e3 := va_eqt (hs (.eq (.elem (.static "ThriftNode$Code" "MOST_A" "[I") (.int 3)) (.int 7)) (by decide +kernel))
  have e4 := va_eqt (hs (.eq (.elem (.static "ThriftNode$Code" "MOST_A" "[I") (.int 4)) (.int 7)) (by decide +kernel))
  have e5 := va_eqt (hs (.eq (.elem (.static "ThriftNode$Code" "MOST_A" "[I") (.int 5)) (.int 7)) (by decide +kernel))
  have e6 := va_eqt (hs (.eq (.elem (.static "ThriftNode$Code" "MOST_A" "[I") (.int 6)) (.int 7)) (by decide +kernel))
  have e7 := va_eqt (hs (.eq (.elem (.static "ThriftNode$Code" "MOST_A" "[I") (.int 7)) (.int 255)) (by decide +kernel))
  have e8 := va_eqt (hs (.eq (.elem (.static "ThriftNode$Code" "MOST_A" "[I") (.int 8)) (.int 7)) (by decide +kernel))
  have e9 := va_eqt (hs (.eq (.elem (.static "ThriftNode$Code" "MOST_A" "[I") (.int 9)) (.int 7)) (by decide +kernel))
  have e10 := va_eqt (hs (.eq (.elem (.static "ThriftNode$Code" "MOST_A" "[I") (.int 10)) (.int 7)) (by decide +kernel))
  have e11 := va_eqt (hs (.eq (.elem (.static "ThriftNode$Code" "MOST_A" "[I") (.int 11)) (.int 7)) (by decide +kernel))
  have e12 := va_eqt (hs (.eq (.elem (.static "ThriftNode$Code" "MOST_A" "[I") (.int 12)) (.int 7)) (by decide +kernel))
  have e13 := va_eqt (hs (.eq (.elem (.static "ThriftNode$Code" "MOST_A" "[I") (.int 13)) (.int 7)) (by decide +kernel))
  have e14 := va_eqt (hs (.eq (.elem (.static "ThriftNode$Code" "MOST_A" "[I") (.int 14)) (.int 7)) (by decide +kernel))
  have e15 := va_eqt (hs (.eq (.elem (.static "ThriftNode$Code" "MOST_A" "[I") (.int 15)) (.int 7)) (by decide +kernel))
  have e16 := va_eqt (hs (.eq (.elem (.static "ThriftNode$Code" "MOST_A" "[I") (.int 16)) (.int 255)) (by decide +kernel))
  have e17 := va_eqt (hs (.eq (.elem (.static "ThriftNode$Code" "MOST_A" "[I") (.int 17)) (.int 255)) (by decide +kernel))
  obtain ⟨t, ht, hT⟩ := va_Tof (tm := (.static "ThriftNode$Code" "MOST_A" "[I")) (ty := .int) (N := 18) (f := fun j => .int (tab_MOST_A j)) (by decide) (hs (.arrayOf (.static "ThriftNode$Code" "MOST_A" "[I") .int) (by decide +kernel)) (va_eqt (hs (.eq (.length (.static "ThriftNode$Code" "MOST_A" "[I")) (.int 18)) (by decide +kernel))) (fun j hj => by
    match j, hj with
    | 0, _ => exact e0
    | 1, _ => exact e1
    | 2, _ => exact e2
    | 3, _ => exact e3
    | 4, _ => exact e4
    | 5, _ => exact e5
    | 6, _ => exact e6
    | 7, _ => exact e7
    | 8, _ => exact e8
    | 9, _ => exact e9
    | 10, _ => exact e10
    | 11, _ => exact e11
    | 12, _ => exact e12
    | 13, _ => exact e13
    | 14, _ => exact e14
    | 15, _ => exact e15
    | 16, _ => exact e16
    | 17, _ => exact e17
    | n + 18, h => exact absurd h (by omega)) hA
  exact ⟨t, va_Zref (hts (.laysStatic "ThriftNode$Code" "MOST_A" "[I") (List.mem_append_right _ (List.mem_append_left _ (List.mem_of_getElem? (i := 230) rfl)))) (hts (.initialized "ThriftNode$Code") (List.mem_append_right _ (List.mem_append_left _ (List.mem_of_getElem? (i := 2) rfl)))) ht hA, hT⟩
theorem st_MOST_B {args : Array Value} {s : State} (hs : ∀ x ∈ flatC (Jvm.Cond.and given_1 narrow_1), x.before args s = true) (hts : ∀ x ∈ lw_tbl, x.before args s = true) {A : Nat → Prop} (hA : ∀ a : Nat, a < s.heap.size → ¬ A a) : S1 "MOST_B" tab_MOST_B A s s.heap := by
  have e0 := va_eqt (hs (.eq (.elem (.static "ThriftNode$Code" "MOST_B" "[I") (.int 0)) (.int 255)) (by decide +kernel))
  have e1 := va_eqt (hs (.eq (.elem (.static "ThriftNode$Code" "MOST_B" "[I") (.int 1)) (.int 255)) (by decide +kernel))
  have e2 := va_eqt (hs (.eq (.elem (.static "ThriftNode$Code" "MOST_B" "[I") (.int 2)) (.int 7)) (by decide +kernel))
  have e3 := va_eqt (hs (.eq (.elem (.static "ThriftNode$Code" "MOST_B" "[I") (.int 3)) (.int 7)) (by decide +kernel))
  have e4 := va_eqt (hs (.eq (.elem (.static "ThriftNode$Code" "MOST_B" "[I") (.int 4)) (.int 7)) (by decide +kernel))
  have e5 := va_eqt (hs (.eq (.elem (.static "ThriftNode$Code" "MOST_B" "[I") (.int 5)) (.int 7)) (by decide +kernel))
  have e6 := va_eqt (hs (.eq (.elem (.static "ThriftNode$Code" "MOST_B" "[I") (.int 6)) (.int 255)) (by decide +kernel))
  have e7 := va_eqt (hs (.eq (.elem (.static "ThriftNode$Code" "MOST_B" "[I") (.int 7)) (.int 255)) (by decide +kernel))
  have e8 := va_eqt (hs (.eq (.elem (.static "ThriftNode$Code" "MOST_B" "[I") (.int 8)) (.int 15)) (by decide +kernel))
  have e9 := va_eqt (hs (.eq (.elem (.static "ThriftNode$Code" "MOST_B" "[I") (.int 9)) (.int 15)) (by decide +kernel))
  have e10 := va_eqt (hs (.eq (.elem (.static "ThriftNode$Code" "MOST_B" "[I") (.int 10)) (.int 3)) (by decide +kernel))
  have e11 := va_eqt (hs (.eq (.elem (.static "ThriftNode$Code" "MOST_B" "[I") (.int 11)) (.int 3)) (by decide +kernel))
  have e12 := va_eqt (hs (.eq (.elem (.static "ThriftNode$Code" "MOST_B" "[I") (.int 12)) (.int 1)) (by decide +kernel))
  have e13 := va_eqt (hs (.eq (.elem (.static "ThriftNode$Code" "MOST_B" "[I") (.int 13)) (.int 1)) (by decide +kernel))
  have e14 := va_eqt (hs (.eq (.elem (.static "ThriftNode$Code" "MOST_B" "[I") (.int 14)) (.int 3)) (by decide +kernel))
  have e15 := va_eqt (hs (.eq (.elem (.static "ThriftNode$Code" "MOST_B" "[I") (.int 15)) (.int 255)) (by decide +kernel))
  have e16 := va_eqt (hs (.eq (.elem (.static "ThriftNode$Code" "MOST_B" "[I") (.int 16)) (.int 255)) (by decide +kernel))
  have e17 := va_eqt (hs (.eq (.elem (.static "ThriftNode$Code" "MOST_B" "[I") (.int 17)) (.int 255)) (by decide +kernel))
  obtain ⟨t, ht, hT⟩ := va_Tof (tm := (.static "ThriftNode$Code" "MOST_B" "[I")) (ty := .int) (N := 18) (f := fun j => .int (tab_MOST_B j)) (by decide) (hs (.arrayOf (.static "ThriftNode$Code" "MOST_B" "[I") .int) (by decide +kernel)) (va_eqt (hs (.eq (.length (.static "ThriftNode$Code" "MOST_B" "[I")) (.int 18)) (by decide +kernel))) (fun j hj => by
    match j, hj with
    | 0, _ => exact e0
    | 1, _ => exact e1
    | 2, _ => exact e2
    | 3, _ => exact e3
    | 4, _ => exact e4
    | 5, _ => exact e5
    | 6, _ => exact e6
    | 7, _ => exact e7
    | 8, _ => exact e8
    | 9, _ => exact e9
    | 10, _ => exact e10
    | 11, _ => exact e11
    | 12, _ => exact e12
    | 13, _ => exact e13
    | 14, _ => exact e14
    | 15, _ => exact e15
    | 16, _ => exact e16
    | 17, _ => exact e17
    | n + 18, h => exact absurd h (by omega)) hA
  exact ⟨t, va_Zref (hts (.laysStatic "ThriftNode$Code" "MOST_B" "[I") (List.mem_append_right _ (List.mem_append_left _ (List.mem_of_getElem? (i := 235) rfl)))) (hts (.initialized "ThriftNode$Code") (List.mem_append_right _ (List.mem_append_left _ (List.mem_of_getElem? (i := 2) rfl)))) ht hA, hT⟩
theorem st_MOST_C {args : Array Value} {s : State} (hs : ∀ x ∈ flatC (Jvm.Cond.and given_1 narrow_1), x.before args s = true) (hts : ∀ x ∈ lw_tbl, x.before args s = true) {A : Nat → Prop} (hA : ∀ a : Nat, a < s.heap.size → ¬ A a) : S1 "MOST_C" tab_MOST_C A s s.heap := by
  have e0 := va_eqt (hs (.eq (.elem (.static "ThriftNode$Code" "MOST_C" "[I") (.int 0)) (.int 255)) (by decide +kernel))
  have e1 := va_eqt (hs (.eq (.elem (.static "ThriftNode$Code" "MOST_C" "[I") (.int 1)) (.int 255)) (by decide +kernel))
  have e2 := va_eqt (hs (.eq (.elem (.static "ThriftNode$Code" "MOST_C" "[I") (.int 2)) (.int 7)) (by decide +kernel))
  have e3 := va_eqt (hs (.eq (.elem (.static "ThriftNode$Code" "MOST_C" "[I") (.int 3)) (.int 7)) (by decide +kernel))
  have e4 := va_eqt (hs (.eq (.elem (.static "ThriftNode$Code" "MOST_C" "[I") (.int 4)) (.int 7)) (by decide +kernel))
  have e5 := va_eqt (hs (.eq (.elem (.static "ThriftNode$Code" "MOST_C" "[I") (.int 5)) (.int 7)) (by decide +kernel))
  have e6 := va_eqt (hs (.eq (.elem (.static "ThriftNode$Code" "MOST_C" "[I") (.int 6)) (.int 255)) (by decide +kernel))
  have e7 := va_eqt (hs (.eq (.elem (.static "ThriftNode$Code" "MOST_C" "[I") (.int 7)) (.int 255)) (by decide +kernel))
  have e8 := va_eqt (hs (.eq (.elem (.static "ThriftNode$Code" "MOST_C" "[I") (.int 8)) (.int 255)) (by decide +kernel))
  have e9 := va_eqt (hs (.eq (.elem (.static "ThriftNode$Code" "MOST_C" "[I") (.int 9)) (.int 255)) (by decide +kernel))
  have e10 := va_eqt (hs (.eq (.elem (.static "ThriftNode$Code" "MOST_C" "[I") (.int 10)) (.int 7)) (by decide +kernel))
  have e11 := va_eqt (hs (.eq (.elem (.static "ThriftNode$Code" "MOST_C" "[I") (.int 11)) (.int 7)) (by decide +kernel))
  have e12 := va_eqt (hs (.eq (.elem (.static "ThriftNode$Code" "MOST_C" "[I") (.int 12)) (.int 255)) (by decide +kernel))
  have e13 := va_eqt (hs (.eq (.elem (.static "ThriftNode$Code" "MOST_C" "[I") (.int 13)) (.int 255)) (by decide +kernel))
  have e14 := va_eqt (hs (.eq (.elem (.static "ThriftNode$Code" "MOST_C" "[I") (.int 14)) (.int 255)) (by decide +kernel))
  have e15 := va_eqt (hs (.eq (.elem (.static "ThriftNode$Code" "MOST_C" "[I") (.int 15)) (.int 255)) (by decide +kernel))
  have e16 := va_eqt (hs (.eq (.elem (.static "ThriftNode$Code" "MOST_C" "[I") (.int 16)) (.int 255)) (by decide +kernel))
  have e17 := va_eqt (hs (.eq (.elem (.static "ThriftNode$Code" "MOST_C" "[I") (.int 17)) (.int 255)) (by decide +kernel))
  obtain ⟨t, ht, hT⟩ := va_Tof (tm := (.static "ThriftNode$Code" "MOST_C" "[I")) (ty := .int) (N := 18) (f := fun j => .int (tab_MOST_C j)) (by decide) (hs (.arrayOf (.static "ThriftNode$Code" "MOST_C" "[I") .int) (by decide +kernel)) (va_eqt (hs (.eq (.length (.static "ThriftNode$Code" "MOST_C" "[I")) (.int 18)) (by decide +kernel))) (fun j hj => by
    match j, hj with
    | 0, _ => exact e0
    | 1, _ => exact e1
    | 2, _ => exact e2
    | 3, _ => exact e3
    | 4, _ => exact e4
    | 5, _ => exact e5
    | 6, _ => exact e6
    | 7, _ => exact e7
    | 8, _ => exact e8
    | 9, _ => exact e9
    | 10, _ => exact e10
    | 11, _ => exact e11
    | 12, _ => exact e12
    | 13, _ => exact e13
    | 14, _ => exact e14
    | 15, _ => exact e15
    | 16, _ => exact e16
    | 17, _ => exact e17
    | n + 18, h => exact absurd h (by omega)) hA
  exact ⟨t, va_Zref (hts (.laysStatic "ThriftNode$Code" "MOST_C" "[I") (List.mem_append_right _ (List.mem_append_right _ (List.mem_append_left _ (List.mem_of_getElem? (i := 0) rfl))))) (hts (.initialized "ThriftNode$Code") (List.mem_append_right _ (List.mem_append_left _ (List.mem_of_getElem? (i := 2) rfl)))) ht hA, hT⟩
theorem st_SX {args : Array Value} {s : State} (hs : ∀ x ∈ flatC (Jvm.Cond.and given_1 narrow_1), x.before args s = true) (hts : ∀ x ∈ lw_tbl, x.before args s = true) {A : Nat → Prop} (hA : ∀ a : Nat, a < s.heap.size → ¬ A a) : SX A s s.heap := by
  obtain ⟨a70, -, -, -, f70, -⟩ := Cond.exactly_spec (hs (.exactly (.string "ThriftNode" 70) "java/lang/String") (by decide +kernel))
  obtain ⟨a77, -, -, -, f77, -⟩ := Cond.exactly_spec (hs (.exactly (.string "ThriftNode" 77) "java/lang/String") (by decide +kernel))
  obtain ⟨a104, -, -, -, f104, -⟩ := Cond.exactly_spec (hs (.exactly (.string "ThriftNode" 104) "java/lang/String") (by decide +kernel))
  obtain ⟨a120, -, -, -, f120, -⟩ := Cond.exactly_spec (hs (.exactly (.string "ThriftNode" 120) "java/lang/String") (by decide +kernel))
  exact ⟨⟨a70, vk_R.of (hts (.stringRef "ThriftNode" 70 "the program is not sealed") (List.mem_append_right _ (List.mem_append_right _ (List.mem_append_left _ (List.mem_of_getElem? (i := 87) rfl))))) f70⟩, ⟨a77, vk_R.of (hts (.stringRef "ThriftNode" 77 "the harvest is not 0 .. 500") (List.mem_append_right _ (List.mem_append_right _ (List.mem_append_left _ (List.mem_of_getElem? (i := 123) rfl))))) f77⟩, ⟨a104, vk_R.of (hts (.stringRef "ThriftNode" 104 "there is no such kept word") (List.mem_append_right _ (List.mem_append_right _ (List.mem_append_right _ (List.mem_append_left _ (List.mem_of_getElem? (i := 77) rfl)))))) f104⟩, ⟨a120, vk_R.of (hts (.stringRef "ThriftNode" 120 "the far side has no such frame") (List.mem_append_right _ (List.mem_append_right _ (List.mem_append_right _ (List.mem_append_left _ (List.mem_of_getElem? (i := 95) rfl)))))) f120⟩, vx_Zqof (hts (.laysStatic "java/lang/Throwable" "UNASSIGNED_STACK" "[Ljava/lang/StackTraceElement;") (List.mem_append_right _ (List.mem_append_right _ (List.mem_append_left _ (List.mem_of_getElem? (i := 73) rfl))))) (hts (.initialized "java/lang/Throwable") (List.mem_append_right _ (List.mem_append_left _ (List.mem_of_getElem? (i := 9) rfl)))) (hs (.isRef (.static "java/lang/Throwable" "UNASSIGNED_STACK" "[Ljava/lang/StackTraceElement;")) (by decide +kernel)) hA, vx_Zqof (hts (.laysStatic "java/lang/Throwable" "SUPPRESSED_SENTINEL" "Ljava/util/List;") (List.mem_append_right _ (List.mem_append_right _ (List.mem_append_left _ (List.mem_of_getElem? (i := 75) rfl))))) (hts (.initialized "java/lang/Throwable") (List.mem_append_right _ (List.mem_append_left _ (List.mem_of_getElem? (i := 9) rfl)))) (hs (.isRef (.static "java/lang/Throwable" "SUPPRESSED_SENTINEL" "Ljava/util/List;")) (by decide +kernel)) hA, va_Nc.of (hs (.not (.castable "java/lang/IllegalArgumentException" "java/lang/IllegalStateException")) (by decide +kernel)), ⟨CW.of (hts (.castable "java/lang/IllegalStateException" "java/lang/IllegalStateException") (List.mem_append_right _ (List.mem_append_right _ (List.mem_append_left _ (List.mem_of_getElem? (i := 48) rfl))))), CW.of (hts (.castable "java/lang/IllegalArgumentException" "java/lang/IllegalArgumentException") (List.mem_append_right _ (List.mem_append_right _ (List.mem_append_left _ (List.mem_of_getElem? (i := 116) rfl))))), CW.of (hts (.castable "java/lang/IndexOutOfBoundsException" "java/lang/IndexOutOfBoundsException") (List.mem_append_right _ (List.mem_append_right _ (List.mem_append_right _ (List.mem_append_left _ (List.mem_of_getElem? (i := 70) rfl))))))⟩, DW.of (hts _ (List.mem_append_right _ (List.mem_append_right _ (List.mem_append_left _ (List.mem_of_getElem? (i := 50) rfl))))), DW.of (hts _ (List.mem_append_right _ (List.mem_append_right _ (List.mem_append_left _ (List.mem_of_getElem? (i := 52) rfl))))), DW.of (hts _ (List.mem_append_right _ (List.mem_append_right _ (List.mem_append_left _ (List.mem_of_getElem? (i := 54) rfl)))))⟩
theorem st_arr {args : Array Value} {s : State} (h : (Cond.arrayClass .int).before args s = true) : ∃ cI : ClassId, ArrOfT s cI .int ∧ va_RA s cI .int := by
  obtain ⟨k, kA, comp, h1, h2, h3⟩ := Cond.arrayClass_spec h
  exact ⟨k, fun n z => ⟨fun k h => (by cases h), kA, h2, comp, h3⟩, h1⟩
def M0N : Mem := ms (fun _ _ => 0) 4 (fun _ => (-1 : Int32))
def M1R : Mem := f_X6_init_125 65 M0R (0 : Int32)
set_option maxHeartbeats 4000000 in
set_option maxRecDepth 100000 in
theorem whole_start {p : Program} {e : Env} {s : State} {m : MethodId} {below : List Frame} {meth : Method} {c : Code} (l : Launch) (hlt : l.stackTraces = false) {I : Nat → Mem → Mem → Prop} (hI : PF I) (hI0 : I 0 M0N M1R) (hi0 : ok_X6_init_125 65 M0R (0 : Int32)) {b L : Nat} {xs : Nat → Int32} (hL : L ≤ 2048) (C0 : lw_At p s m meth c b L xs) : W p l e room_1 s m #[Value.ref b] below meth c s.heap [] 0 0 (lw_Z below #[Value.ref b] s) (entryFrame m ([Value.ref b] : List Value).toArray 7) := by
  obtain ⟨hx, hb, hr, hml, hown, htl, hX, hbl, hlocks, hgv⟩ := id C0
  have hs9 := flat_of_before _ hgv
  have hts : ∀ x ∈ wG, x.before #[Value.ref b] s = true := fun x hx => htl x (List.mem_filter.mp hx).1
  have C : CX p s m #[Value.ref b] meth c RL cL_law 7 (some .boolean) := ⟨hx, hb, hr, hml, hown, hts, hlocks⟩
  have hA : ∀ q : Nat, s.heap.size ≤ q → (fun q : Nat => s.heap.size ≤ q) q := fun _ h => h
  have hA2 : ∀ a : Nat, a < s.heap.size → ¬ (fun q : Nat => s.heap.size ≤ q) a := fun a h => Nat.not_le.mpr h
  have hF : SF (fun q : Nat => s.heap.size ≤ q) s s.heap := ⟨st_COSTS hs9 htl hA2, st_MOST_A hs9 htl hA2, st_MOST_B hs9 htl hA2, st_MOST_C hs9 htl hA2⟩
  have hSX : SX (fun q : Nat => s.heap.size ≤ q) s s.heap := st_SX hs9 htl hA2
  obtain ⟨c0, iS0, hKn0⟩ := u_known (C := RX0) (T := TX0) (N := 9) (n := 9) hts in_lX0 (hts (.instantiable RX0 9) (wG_in (List.mem_append_right _ (List.mem_append_left _ (List.mem_of_getElem? (i := 60) rfl))) rfl))
  obtain ⟨c1, iS1, hKn1⟩ := u_known (C := RX1) (T := TX1) (N := 3) (n := 3) hts in_lX1 (hts (.instantiable RX1 3) (wG_in (List.mem_append_right _ (List.mem_append_left _ (List.mem_of_getElem? (i := 24) rfl))) rfl))
  obtain ⟨c2, iS2, hKn2⟩ := u_known (C := RX2) (T := TX2) (N := 5) (n := 5) hts in_lX2 (hts (.instantiable RX2 5) (wG_in (List.mem_append_right _ (List.mem_append_left _ (List.mem_of_getElem? (i := 66) rfl))) rfl))
  obtain ⟨c3, iS3, hKn3⟩ := u_known (C := RX3) (T := TX3) (N := 5) (n := 5) hts in_lX3 (hts (.instantiable RX3 5) (wG_in (List.mem_append_right _ (List.mem_append_left _ (List.mem_of_getElem? (i := 122) rfl))) rfl))
  obtain ⟨c4, iS4, hKn4⟩ := u_known (C := RX4) (T := TX4) (N := 2) (n := 2) hts in_lX4 (hts (.instantiable RX4 2) (wG_in (List.mem_append_right _ (List.mem_append_left _ (List.mem_of_getElem? (i := 43) rfl))) rfl))
  obtain ⟨c5, iS5, hKn5⟩ := u_known (C := RX5) (T := TX5) (N := 17) (n := 17) hts in_lX5 (hts (.instantiable RX5 17) (wG_in (List.mem_append_right _ (List.mem_append_left _ (List.mem_of_getElem? (i := 16) rfl))) rfl))
  obtain ⟨c6, iS6, hKn6⟩ := u_known (C := RX6) (T := TX6) (N := 32) (n := 32) hts in_lX6 (hts (.instantiable RX6 32) (wG_in (List.mem_append_right _ (List.mem_append_right _ (List.mem_append_right _ (List.mem_append_left _ (List.mem_of_getElem? (i := 101) rfl))))) rfl))
  obtain ⟨cI, ha1, ha2⟩ := st_arr (hts _ in_arrI)
  obtain ⟨D, hKc⟩ : ∃ D : va_G, ∀ (k : Nat) (q : vw_C), vwCl[k]? = some q → u_Kn s q.1 q.2.1 q.2.2 (D.1 k) (D.2 k) := by
    refine ⟨(fun k => if k = 0 then c0 else if k = 1 then c1 else if k = 2 then c2 else if k = 3 then c3 else if k = 4 then c4 else if k = 5 then c5 else c6, fun k => if k = 0 then iS0 else if k = 1 then iS1 else if k = 2 then iS2 else if k = 3 then iS3 else if k = 4 then iS4 else if k = 5 then iS5 else iS6), ?_⟩
    intro k q hq
    match k, hq with
    | 0, hq => cases hq; exact hKn0
    | 1, hq => cases hq; exact hKn1
    | 2, hq => cases hq; exact hKn2
    | 3, hq => cases hq; exact hKn3
    | 4, hq => cases hq; exact hKn4
    | 5, hq => cases hq; exact hKn5
    | 6, hq => cases hq; exact hKn6
    | k + 7, hq => simp [vwCl] at hq
  have hS : va_S (fun q : Nat => s.heap.size ≤ q) s.heap s.heap [] := va_S.rf
  have hK : va_K D vwCl [(cI, .int)] s := ⟨hKc, fun k q h => by
    match k, h with
    | 0, h => cases h; exact ⟨ha1, ha2⟩
    | k + 1, h => simp at h⟩
  have hP : va_P D vwCl [] s.heap := fun k q h => by simp at h
  have hD : va_D (fun q : Nat => s.heap.size ≤ q) [] := ⟨fun i j p q h => by simp at h, fun k q h => by simp at h⟩
  have hl := lv_entry ([.ref b]) (n := 7) (Nat.le_of_ble_eq_true rfl)
  rw [lg_entry_eq]
  generalize (lg_sl ([.ref b]) ++ List.replicate (7 - (lg_sl ([.ref b])).length) Slot.unset).toArray = ls at hl ⊢
  have hl : lv_has ls 7 [(0, .ref b)] := hl
  refine va_new (ci := 5) (fs := [.null, .null, .null, .null, .null, .null, .null, .int 0, .int 0, .int 0, .int 0, .int 0, .int 0, .int 0, .int 0, .int 0, .int 0]) (C := RX5) (T := TX5) (N := 17) hx hb hts in_lX5 tyX5 tyX5_ok hown (hts (.classLink RL 8 RX5) (wG_in (List.mem_append_right _ (List.mem_append_left _ (List.mem_of_getElem? (i := 15) rfl))) rfl)) (hts (.instantiable RX5 17) (wG_in (List.mem_append_right _ (List.mem_append_left _ (List.mem_of_getElem? (i := 16) rfl))) rfl)) (hts _ in_iX5) hK hP hD hS hA rfl (by decide +kernel) (Nat.le_of_ble_eq_true rfl) (Nat.le_of_ble_eq_true rfl) dL_law_0 (fun n0 H hP hD hS => ?_)
  have hP : va_P D vwCl [(n0, .inr (5, [.null, .null, .null, .null, .null, .null, .null, .int 0, .int 0, .int 0, .int 0, .int 0, .int 0, .int 0, .int 0, .int 0, .int 0]))] H := hP
  have hD : va_D (fun q : Nat => s.heap.size ≤ q) [(n0, .inr (5, [.null, .null, .null, .null, .null, .null, .null, .int 0, .int 0, .int 0, .int 0, .int 0, .int 0, .int 0, .int 0, .int 0, .int 0]))] := hD
  refine W.widen (k := 1) (n := 17) (Nat.le_of_ble_eq_true rfl) (Nat.le_of_ble_eq_true rfl) ?_
  refine lv_dup hx hb dL_law_3 rfl ?_
  have hPc := hP.sub (ws' := [(n0, .inr (5, [.null, .null, .null, .null, .null, .null, .null, .int 0, .int 0, .int 0, .int 0, .int 0, .int 0, .int 0, .int 0, .int 0, .int 0]))]) [0] rfl
  have hDc := hD.sub (ws' := [(n0, .inr (5, [.null, .null, .null, .null, .null, .null, .null, .int 0, .int 0, .int 0, .int 0, .int 0, .int 0, .int 0, .int 0, .int 0, .int 0]))]) [0] (by decide) rfl
  have hFc := va_free (wc := [(n0, .inr (5, [.null, .null, .null, .null, .null, .null, .null, .int 0, .int 0, .int 0, .int 0, .int 0, .int 0, .int 0, .int 0, .int 0, .int 0]))]) hD hS hA [0] rfl
  have hg9 : GoodIn wG (.code yX5_init cX5_init 1 none :: wG) := fun z hz => by
    rcases List.mem_cons.mp hz with rfl | hz
    · exact wG_good _ in_cX5_init
    · exact wG_good _ hz
  refine va_callv (va_runI (As := []) (rest := [.ref n0]) ⟨hx, hb, hml, hown, hts⟩ (n_X5 l D cI n0 H.size) (cwI 0 hts hg9 rfl rfl rfl (hts _ in_iX5) (hts _ in_mL_26) (hts (.instanceMethod yX5_init) (wG_in (List.mem_append_right _ (List.mem_append_left _ (List.mem_of_getElem? (i := 18) rfl))) rfl)) rfl (by decide +kernel) ⟨(Nat.le_of_ble_eq_true rfl), (Nat.le_of_ble_eq_true rfl)⟩) ⟨fun a U g mk q => by obtain ⟨q0, q1, qP, qK, qD⟩ := q; exact ⟨q0, q1, qP, va_K.moved (u := U) (U := U.calling g mk a) (Vm.Alike.refl U.vm) qK, qD⟩, fun U hU hW => ⟨rfl, by rw [hU], by rw [hU]; exact hPc, va_K.moved hW.alike hK, hDc.weaken (fun _ _ _ _ => trivial)⟩⟩ rfl rfl hl.1 rfl (lv_room (Nat.le_of_ble_eq_true rfl)) dL_law_4 ⟨(Nat.le_of_ble_eq_true rfl), (Nat.le_of_ble_eq_true rfl)⟩) hS (fun q _ h => hFc q h) hFc (fun u t H1 locs ht hvm hw hB hz1 hk1 hS => ?_)
  obtain ⟨n1, n2, n3, n4, n5, n6, n7, n8, n9, n10, n11, n12, n13, n14, n15, n16, n17, n18, n19, hP1, hK1, hD1⟩ := hB
  rw [ht] at hP1
  obtain ⟨hP, hD⟩ := va_join (wr := []) (w1 := [(n0, .inr (5, [.ref n1, .ref n4, .ref n8, .ref n14, .ref n7, .ref n18, .ref n19, .int (0 : Int32), .int 0, .int 0, .int 0, .int (-1 : Int32), .int 0, .int 0, .int 0, .int 0, .int 0])), (n1, .inr (1, [.ref n2, .ref n3, .int 0])), (n2, .inl (cI, 512, .inl (fun _ => 0))), (n3, .inl (cI, 16, .inl (fun _ => 0))), (n4, .inr (4, [.ref n5, .ref n6])), (n5, .inl (cI, 164, .inl (fun _ => 0))), (n6, .inl (cI, 164, .inl (fun _ => 0))), (n7, .inl (cI, 4, .inl (fun _ => 0))), (n8, .inr (0, [.ref n4, .ref n9, .ref n7, .ref n13, .int 0, .int 0, .int 0, .int 0, .int 0])), (n9, .inr (2, [.ref n4, .ref n10, .ref n11, .ref n12, .int 0])), (n10, .inl (cI, 40, .inl (fun _ => 0))), (n11, .inl (cI, 40, .inl (fun _ => 0))), (n12, .inl (cI, 164, .inl (fun _ => 0))), (n13, .inl (cI, 8, .inl (fun _ => 0))), (n14, .inr (3, [.ref n15, .ref n16, .ref n17, .int 0, .int 0])), (n15, .inl (cI, 64, .inl (fun _ => 0))), (n16, .inl (cI, 64, .inl (fun _ => 0))), (n17, .inl (cI, 64, .inl (fun _ => 0))), (n18, .inl (cI, 16, .inl (fun _ => 0))), (n19, .inl (cI, 16, .inl (fun _ => 0)))]) hP hD [0] [] rfl rfl (by decide) (by decide) hk1 hFc hP1 hD1
  generalize H1 = H at hP hS ⊢
  have hP : va_P D vwCl [(n0, .inr (5, [.ref n1, .ref n4, .ref n8, .ref n14, .ref n7, .ref n18, .ref n19, .int (0 : Int32), .int 0, .int 0, .int 0, .int (-1 : Int32), .int 0, .int 0, .int 0, .int 0, .int 0])), (n1, .inr (1, [.ref n2, .ref n3, .int 0])), (n2, .inl (cI, 512, .inl (fun _ => 0))), (n3, .inl (cI, 16, .inl (fun _ => 0))), (n4, .inr (4, [.ref n5, .ref n6])), (n5, .inl (cI, 164, .inl (fun _ => 0))), (n6, .inl (cI, 164, .inl (fun _ => 0))), (n7, .inl (cI, 4, .inl (fun _ => 0))), (n8, .inr (0, [.ref n4, .ref n9, .ref n7, .ref n13, .int 0, .int 0, .int 0, .int 0, .int 0])), (n9, .inr (2, [.ref n4, .ref n10, .ref n11, .ref n12, .int 0])), (n10, .inl (cI, 40, .inl (fun _ => 0))), (n11, .inl (cI, 40, .inl (fun _ => 0))), (n12, .inl (cI, 164, .inl (fun _ => 0))), (n13, .inl (cI, 8, .inl (fun _ => 0))), (n14, .inr (3, [.ref n15, .ref n16, .ref n17, .int 0, .int 0])), (n15, .inl (cI, 64, .inl (fun _ => 0))), (n16, .inl (cI, 64, .inl (fun _ => 0))), (n17, .inl (cI, 64, .inl (fun _ => 0))), (n18, .inl (cI, 16, .inl (fun _ => 0))), (n19, .inl (cI, 16, .inl (fun _ => 0)))] H := hP
  have hD : va_D (fun q : Nat => s.heap.size ≤ q) [(n0, .inr (5, [.ref n1, .ref n4, .ref n8, .ref n14, .ref n7, .ref n18, .ref n19, .int (0 : Int32), .int 0, .int 0, .int 0, .int (-1 : Int32), .int 0, .int 0, .int 0, .int 0, .int 0])), (n1, .inr (1, [.ref n2, .ref n3, .int 0])), (n2, .inl (cI, 512, .inl (fun _ => 0))), (n3, .inl (cI, 16, .inl (fun _ => 0))), (n4, .inr (4, [.ref n5, .ref n6])), (n5, .inl (cI, 164, .inl (fun _ => 0))), (n6, .inl (cI, 164, .inl (fun _ => 0))), (n7, .inl (cI, 4, .inl (fun _ => 0))), (n8, .inr (0, [.ref n4, .ref n9, .ref n7, .ref n13, .int 0, .int 0, .int 0, .int 0, .int 0])), (n9, .inr (2, [.ref n4, .ref n10, .ref n11, .ref n12, .int 0])), (n10, .inl (cI, 40, .inl (fun _ => 0))), (n11, .inl (cI, 40, .inl (fun _ => 0))), (n12, .inl (cI, 164, .inl (fun _ => 0))), (n13, .inl (cI, 8, .inl (fun _ => 0))), (n14, .inr (3, [.ref n15, .ref n16, .ref n17, .int 0, .int 0])), (n15, .inl (cI, 64, .inl (fun _ => 0))), (n16, .inl (cI, 64, .inl (fun _ => 0))), (n17, .inl (cI, 64, .inl (fun _ => 0))), (n18, .inl (cI, 16, .inl (fun _ => 0))), (n19, .inl (cI, 16, .inl (fun _ => 0)))] := hD
  refine W.widen (k := 20) (n := 1377) (Nat.le_of_ble_eq_true rfl) (Nat.le_of_ble_eq_true rfl) ?_
  refine lv_astore_n (lv' := [(1, .ref n0), (0, .ref b)]) hx hb dL_law_7 rfl hl (by decide) rfl (fun ls hl => ?_)
  refine va_new (ci := 6) (fs := [.int 0, .null, .null, .int 0, .null, .null, .null, .null, .null, .int 0, .int 0, .int 0, .int 0, .int 0, .int 0, .int 0, .int 0, .int 0, .null, .int 0, .int 0, .int 0, .int 0, .null, .null, .int 0, .int 0, .null, .null, .null, .null, .int 0]) (C := RX6) (T := TX6) (N := 32) hx hb hts in_lX6 tyX6 tyX6_ok hown (hts (.classLink RL 27 RX6) (wG_in (List.mem_append_right _ (List.mem_append_right _ (List.mem_append_right _ (List.mem_append_left _ (List.mem_of_getElem? (i := 100) rfl))))) rfl)) (hts (.instantiable RX6 32) (wG_in (List.mem_append_right _ (List.mem_append_right _ (List.mem_append_right _ (List.mem_append_left _ (List.mem_of_getElem? (i := 101) rfl))))) rfl)) (hts _ in_iX6) hK hP hD hS hA rfl (by decide +kernel) (Nat.le_of_ble_eq_true rfl) (Nat.le_of_ble_eq_true rfl) dL_law_8 (fun r0 H hP hD hS => ?_)
  have hP : va_P D vwCl [(n0, .inr (5, [.ref n1, .ref n4, .ref n8, .ref n14, .ref n7, .ref n18, .ref n19, .int (0 : Int32), .int 0, .int 0, .int 0, .int (-1 : Int32), .int 0, .int 0, .int 0, .int 0, .int 0])), (n1, .inr (1, [.ref n2, .ref n3, .int 0])), (n2, .inl (cI, 512, .inl (fun _ => 0))), (n3, .inl (cI, 16, .inl (fun _ => 0))), (n4, .inr (4, [.ref n5, .ref n6])), (n5, .inl (cI, 164, .inl (fun _ => 0))), (n6, .inl (cI, 164, .inl (fun _ => 0))), (n7, .inl (cI, 4, .inl (fun _ => 0))), (n8, .inr (0, [.ref n4, .ref n9, .ref n7, .ref n13, .int 0, .int 0, .int 0, .int 0, .int 0])), (n9, .inr (2, [.ref n4, .ref n10, .ref n11, .ref n12, .int 0])), (n10, .inl (cI, 40, .inl (fun _ => 0))), (n11, .inl (cI, 40, .inl (fun _ => 0))), (n12, .inl (cI, 164, .inl (fun _ => 0))), (n13, .inl (cI, 8, .inl (fun _ => 0))), (n14, .inr (3, [.ref n15, .ref n16, .ref n17, .int 0, .int 0])), (n15, .inl (cI, 64, .inl (fun _ => 0))), (n16, .inl (cI, 64, .inl (fun _ => 0))), (n17, .inl (cI, 64, .inl (fun _ => 0))), (n18, .inl (cI, 16, .inl (fun _ => 0))), (n19, .inl (cI, 16, .inl (fun _ => 0))), (r0, .inr (6, [.int 0, .null, .null, .int 0, .null, .null, .null, .null, .null, .int 0, .int 0, .int 0, .int 0, .int 0, .int 0, .int 0, .int 0, .int 0, .null, .int 0, .int 0, .int 0, .int 0, .null, .null, .int 0, .int 0, .null, .null, .null, .null, .int 0]))] H := hP
  have hD : va_D (fun q : Nat => s.heap.size ≤ q) [(n0, .inr (5, [.ref n1, .ref n4, .ref n8, .ref n14, .ref n7, .ref n18, .ref n19, .int (0 : Int32), .int 0, .int 0, .int 0, .int (-1 : Int32), .int 0, .int 0, .int 0, .int 0, .int 0])), (n1, .inr (1, [.ref n2, .ref n3, .int 0])), (n2, .inl (cI, 512, .inl (fun _ => 0))), (n3, .inl (cI, 16, .inl (fun _ => 0))), (n4, .inr (4, [.ref n5, .ref n6])), (n5, .inl (cI, 164, .inl (fun _ => 0))), (n6, .inl (cI, 164, .inl (fun _ => 0))), (n7, .inl (cI, 4, .inl (fun _ => 0))), (n8, .inr (0, [.ref n4, .ref n9, .ref n7, .ref n13, .int 0, .int 0, .int 0, .int 0, .int 0])), (n9, .inr (2, [.ref n4, .ref n10, .ref n11, .ref n12, .int 0])), (n10, .inl (cI, 40, .inl (fun _ => 0))), (n11, .inl (cI, 40, .inl (fun _ => 0))), (n12, .inl (cI, 164, .inl (fun _ => 0))), (n13, .inl (cI, 8, .inl (fun _ => 0))), (n14, .inr (3, [.ref n15, .ref n16, .ref n17, .int 0, .int 0])), (n15, .inl (cI, 64, .inl (fun _ => 0))), (n16, .inl (cI, 64, .inl (fun _ => 0))), (n17, .inl (cI, 64, .inl (fun _ => 0))), (n18, .inl (cI, 16, .inl (fun _ => 0))), (n19, .inl (cI, 16, .inl (fun _ => 0))), (r0, .inr (6, [.int 0, .null, .null, .int 0, .null, .null, .null, .null, .null, .int 0, .int 0, .int 0, .int 0, .int 0, .int 0, .int 0, .int 0, .int 0, .null, .int 0, .int 0, .int 0, .int 0, .null, .null, .int 0, .int 0, .null, .null, .null, .null, .int 0]))] := hD
  refine W.widen (k := 21) (n := 1409) (Nat.le_of_ble_eq_true rfl) (Nat.le_of_ble_eq_true rfl) ?_
  refine lv_dup hx hb dL_law_11 rfl ?_
  have hPc := hP.sub (ws' := [(r0, .inr (6, [.int 0, .null, .null, .int 0, .null, .null, .null, .null, .null, .int 0, .int 0, .int 0, .int 0, .int 0, .int 0, .int 0, .int 0, .int 0, .null, .int 0, .int 0, .int 0, .int 0, .null, .null, .int 0, .int 0, .null, .null, .null, .null, .int 0]))]) [20] rfl
  have hDc := hD.sub (ws' := [(r0, .inr (6, [.int 0, .null, .null, .int 0, .null, .null, .null, .null, .null, .int 0, .int 0, .int 0, .int 0, .int 0, .int 0, .int 0, .int 0, .int 0, .null, .int 0, .int 0, .int 0, .int 0, .null, .null, .int 0, .int 0, .null, .null, .null, .null, .int 0]))]) [20] (by decide) rfl
  have hFc := va_free (wc := [(r0, .inr (6, [.int 0, .null, .null, .int 0, .null, .null, .null, .null, .null, .int 0, .int 0, .int 0, .int 0, .int 0, .int 0, .int 0, .int 0, .int 0, .null, .int 0, .int 0, .int 0, .int 0, .null, .null, .int 0, .int 0, .null, .null, .null, .null, .int 0]))]) hD hS hA [20] rfl
  have hg9 : GoodIn wG (.code yX6_init cX6_init 2 none :: wG) := fun z hz => by
    rcases List.mem_cons.mp hz with rfl | hz
    · exact wG_good _ in_cX6_init
    · exact wG_good _ hz
  refine va_callv (va_runI (As := []) (rest := [.ref r0]) ⟨hx, hb, hml, hown, hts⟩ (n_X6 l D cI r0 hi0 H.size) (cwI 0 hts hg9 rfl rfl rfl (hts _ in_iX6) (hts _ in_mL_29) (hts (.instanceMethod yX6_init) (wG_in (List.mem_append_right _ (List.mem_append_right _ (List.mem_append_right _ (List.mem_append_left _ (List.mem_of_getElem? (i := 103) rfl))))) rfl)) rfl (by decide +kernel) ⟨(Nat.le_of_ble_eq_true rfl), (Nat.le_of_ble_eq_true rfl)⟩) ⟨fun a U g mk q => by obtain ⟨q0, q1, qP, qK, qD, qF⟩ := q; exact ⟨q0, q1, qP, va_K.moved (u := U) (U := U.calling g mk a) (Vm.Alike.refl U.vm) qK, qD, SF.moved (u := U) (U := U.calling g mk a) (Vm.Alike.refl U.vm) qF⟩, fun U hU hW => ⟨rfl, by rw [hU], by rw [hU]; exact hPc, va_K.moved hW.alike hK, hDc.weaken (fun _ _ _ _ => trivial), by rw [hU]; exact SF.moved hW.alike ((hF.kept hS.2.1).narrow hFc)⟩⟩ rfl rfl hl.1 rfl (lv_room (Nat.le_of_ble_eq_true rfl)) dL_law_12 ⟨(Nat.le_of_ble_eq_true rfl), (Nat.le_of_ble_eq_true rfl)⟩) hS (fun q _ h => hFc q h) hFc (fun u t H1 locs ht hvm hw hB hz1 hk1 hS => ?_)
  obtain ⟨hP1, hK1, hD1⟩ := hB
  rw [ht] at hP1
  generalize hu9 : u = aR at hw hP1 hD1
  subst hw
  obtain ⟨hP, hD⟩ := va_join (wr := [(n0, .inr (5, [.ref n1, .ref n4, .ref n8, .ref n14, .ref n7, .ref n18, .ref n19, .int (0 : Int32), .int 0, .int 0, .int 0, .int (-1 : Int32), .int 0, .int 0, .int 0, .int 0, .int 0])), (n1, .inr (1, [.ref n2, .ref n3, .int 0])), (n2, .inl (cI, 512, .inl (fun _ => 0))), (n3, .inl (cI, 16, .inl (fun _ => 0))), (n4, .inr (4, [.ref n5, .ref n6])), (n5, .inl (cI, 164, .inl (fun _ => 0))), (n6, .inl (cI, 164, .inl (fun _ => 0))), (n7, .inl (cI, 4, .inl (fun _ => 0))), (n8, .inr (0, [.ref n4, .ref n9, .ref n7, .ref n13, .int 0, .int 0, .int 0, .int 0, .int 0])), (n9, .inr (2, [.ref n4, .ref n10, .ref n11, .ref n12, .int 0])), (n10, .inl (cI, 40, .inl (fun _ => 0))), (n11, .inl (cI, 40, .inl (fun _ => 0))), (n12, .inl (cI, 164, .inl (fun _ => 0))), (n13, .inl (cI, 8, .inl (fun _ => 0))), (n14, .inr (3, [.ref n15, .ref n16, .ref n17, .int 0, .int 0])), (n15, .inl (cI, 64, .inl (fun _ => 0))), (n16, .inl (cI, 64, .inl (fun _ => 0))), (n17, .inl (cI, 64, .inl (fun _ => 0))), (n18, .inl (cI, 16, .inl (fun _ => 0))), (n19, .inl (cI, 16, .inl (fun _ => 0)))]) (w1 := wR cI aR M1R) hP hD [20] [0, 1, 2, 3, 4, 5, 6, 7, 8, 9, 10, 11, 12, 13, 14, 15, 16, 17, 18, 19] rfl rfl (by decide) (by decide) hk1 hFc hP1 hD1
  generalize H1 = H at hP hS ⊢
  refine W.widen (k := 35) (n := 2645) (Nat.le_of_ble_eq_true rfl) (Nat.le_of_ble_eq_true rfl) ?_
  refine lv_astore_n (lv' := [(2, .ref (aR 0)), (1, .ref n0), (0, .ref b)]) hx hb dL_law_15 rfl hl (by decide) rfl (fun ls hl => ?_)
  refine lv_iconst (v := (1 : Int32)) hx hb dL_law_16 (by decide) ?_
  refine va_newa (atype := .long) (ty := .long) (a0 := (1, .inr (.inl (fun _ => 0)))) hx hb (hts _ in_arrJ) rfl hK hP hD hS hA (fun cA => rfl) (by decide) (by decide) (by decide) (Nat.le_of_ble_eq_true rfl) (Nat.le_of_ble_eq_true rfl) dL_law_17 (fun o cJ H hK hP hD hS => ?_)
  refine W.widen (k := 36) (n := 2646) (Nat.le_of_ble_eq_true rfl) (Nat.le_of_ble_eq_true rfl) ?_
  refine lv_astore_n (lv' := [(3, .ref o), (2, .ref (aR 0)), (1, .ref n0), (0, .ref b)]) hx hb dL_law_19 rfl hl (by decide) rfl (fun ls hl => ?_)
  refine lv_iconst (v := (0 : Int32)) hx hb dL_law_20 (by decide) ?_
  refine lv_istore (lv' := [(4, .int (0 : Int32)), (3, .ref o), (2, .ref (aR 0)), (1, .ref n0), (0, .ref b)]) hx hb dL_law_21 hl (by decide) rfl (fun ls hl => ?_)
  have hP9 : va_P D vwCl (wL cI cJ (fun k => [n0, n1, n2, n3, n4, n5, n6, n8, n9, n10, n11, n12, n7, n13, n14, n15, n16, n17, n18, n19].getD k 0) aR o M0N M1R (fun _ => 0)) H := hP.sub [0, 1, 2, 3, 4, 5, 6, 8, 9, 10, 11, 12, 7, 13, 14, 15, 16, 17, 18, 19, 20, 21, 22, 23, 24, 25, 26, 27, 28, 29, 30, 31, 32, 33, 34, 35] rfl
  have hD9 : va_D (fun q : Nat => s.heap.size ≤ q) (wL cI cJ (fun k => [n0, n1, n2, n3, n4, n5, n6, n8, n9, n10, n11, n12, n7, n13, n14, n15, n16, n17, n18, n19].getD k 0) aR o M0N M1R (fun _ => 0)) := hD.sub [0, 1, 2, 3, 4, 5, 6, 8, 9, 10, 11, 12, 7, 13, 14, 15, 16, 17, 18, 19, 20, 21, 22, 23, 24, 25, 26, 27, 28, 29, 30, 31, 32, 33, 34, 35] (by decide) rfl
  exact law_loop (ad := (fun k => [n0, n1, n2, n3, n4, n5, n6, n8, n9, n10, n11, n12, n7, n13, n14, n15, n16, n17, n18, n19].getD k 0)) (aR := aR) (o := o) hlt hL hX hbl C hI (L + 4) 0 _ M0N M1R (fun _ => 0) H _ ls (Nat.zero_le _) (by omega) rfl hI0 ⟨hK, hP9, hD9, hS, hA, hF, hSX⟩ (lv_sub hl [4, 3, 2, 1, 0] rfl)
