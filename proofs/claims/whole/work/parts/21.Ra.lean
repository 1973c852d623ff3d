abbrev rmX6_thrown : Room := { frames := 0, cells := 0, slots := 0, locals := 0 }
def f_X6_thrown (M : Mem) : Int32 := (M 0 0)
set_option maxRecDepth 100000 in
set_option maxHeartbeats 4000000 in
theorem k_X6_thrown_0 {p : Program} {l : Launch} {e : Env} {s : State} {m : MethodId} {args : Array Value} {below : List Frame} {meth : Method} {c : Code} {D : va_G} {cI : ClassId} {ad : Nat → Nat} {A : Nat → Prop} {cells slots : Nat} {R : Room} (hcs : cells ≤ R.cells ∧ slots ≤ R.slots) (hrf : rmX6_thrown.frames ≤ R.frames) (hrl : rmX6_thrown.locals ≤ R.locals) {r0 : Int32} (C : CX p s m args meth c RX6 cX6_thrown 1 (some .int)) : ∀ (M : Mem) (H : Heap) (locs : List Loc) (ls : Array Slot), f_X6_thrown M = r0 → WH D [(cI, .int)] (wR cI ad) A s H locs M → lv_has ls 1 [(0, .ref (ad 0))] → W p l e R s m args below meth c H locs cells slots (MQ below (PI D [(cI, .int)] (wR cI ad) A (M, r0)) args s cells slots A) (F0 m 0 ls []) := by
  have hx := C.1
  have hb := C.2.1
  have hown := C.2.2.2.2.1
  have hts := C.2.2.2.2.2.1
  intro M H locs ls hres h hl
  rw [f_X6_thrown] at hres
  refine lv_aload_n hx hb dX6_thrown_0 rfl (lv_at hl 0 rfl) ?_
  refine R_X6_thrown_get (v := (M 0 0)) C h in_fX6_56 rfl dX6_thrown_1 ?_
  exact wh_iret C h (cz hres) dX6_thrown_4
theorem yw_X6_thrown {cI : ClassId} {ad : Nat → Nat} : YV (wR cI ad) (ad 0) yX6_thrown cX6_thrown 1 (some .int) rmX6_thrown 0 := ⟨fun M => ⟨0, 6, _, _, rfl, rfl, rfl⟩, in_cX6_thrown, in_nX6_thrown, in_vX6_thrown, in_iX6, by decide +kernel, rfl, rfl⟩
theorem c_X6_thrown {l : Launch} {D : va_G} {cI : ClassId} {ad : Nat → Nat} (M : Mem) : KI l D [(cI, .int)] (wR cI ad) yX6_thrown cX6_thrown 1 rmX6_thrown [.ref (ad 0)] M (M, f_X6_thrown M) := met_i (by decide) (Nat.le_of_ble_eq_true rfl) (fun p e s m below meth c A C h ls hl => k_X6_thrown_0 ⟨Nat.le_refl _, Nat.le_refl _⟩ (Nat.le_refl _) (Nat.le_refl _) C M _ _ ls rfl h hl)
abbrev rmX6_raise : Room := { frames := 0, cells := 0, slots := 0, locals := 0 }
def f_X6_raise (M : Mem) (a1 : Int32) : Mem × Int32 := ((ms M 0 (fun _ => a1)), (0 : Int32))
set_option maxRecDepth 100000 in
set_option maxHeartbeats 4000000 in
theorem k_X6_raise_0 {p : Program} {l : Launch} {e : Env} {s : State} {m : MethodId} {args : Array Value} {below : List Frame} {meth : Method} {c : Code} {D : va_G} {cI : ClassId} {ad : Nat → Nat} {A : Nat → Prop} {cells slots : Nat} {R : Room} (hcs : cells ≤ R.cells ∧ slots ≤ R.slots) (hrf : rmX6_raise.frames ≤ R.frames) (hrl : rmX6_raise.locals ≤ R.locals) {res : Mem × Int32} (C : CX p s m args meth c RX6 cX6_raise 2 (some .int)) : ∀ (M : Mem) (a1 : Int32) (H : Heap) (locs : List Loc) (ls : Array Slot), f_X6_raise M a1 = res → WH D [(cI, .int)] (wR cI ad) A s H locs M → lv_has ls 2 [(0, .ref (ad 0)), (1, .int a1)] → W p l e R s m args below meth c H locs cells slots (MQ below (PI D [(cI, .int)] (wR cI ad) A res) args s cells slots A) (F0 m 0 ls []) := by
  have hx := C.1
  have hb := C.2.1
  have hown := C.2.2.2.2.1
  have hts := C.2.2.2.2.2.1
  intro M a1 H locs ls hres h hl
  rw [f_X6_raise] at hres
  refine lv_aload_n hx hb dX6_raise_0 rfl (lv_at hl 0 rfl) ?_
  refine lv_iload_n hx hb dX6_raise_1 rfl (lv_at hl 1 rfl) ?_
  refine R_X6_thrown_put (v := a1) (M2 := (ms M 0 (fun _ => a1))) C h in_fX6_56 rfl dX6_raise_2 (fun H locs h => ?_)
  refine lv_iconst (v := (0 : Int32)) hx hb dX6_raise_5 (by decide) ?_
  exact wh_iret C h hres dX6_raise_6
theorem yw_X6_raise {cI : ClassId} {ad : Nat → Nat} : YV (wR cI ad) (ad 0) yX6_raise cX6_raise 2 (some .int) rmX6_raise 1 := ⟨fun M => ⟨0, 6, _, _, rfl, rfl, rfl⟩, in_cX6_raise, in_nX6_raise, in_vX6_raise, in_iX6, by decide +kernel, rfl, rfl⟩
theorem c_X6_raise {l : Launch} {D : va_G} {cI : ClassId} {ad : Nat → Nat} (M : Mem) (a1 : Int32) : KI l D [(cI, .int)] (wR cI ad) yX6_raise cX6_raise 2 rmX6_raise [.ref (ad 0), .int a1] M (f_X6_raise M a1) := met_i (by decide) (Nat.le_of_ble_eq_true rfl) (fun p e s m below meth c A C h ls hl => k_X6_raise_0 ⟨Nat.le_refl _, Nat.le_refl _⟩ (Nat.le_refl _) (Nat.le_refl _) C M a1 _ _ ls rfl h hl)
abbrev rmX6_isTask : Room := { frames := 0, cells := 0, slots := 0, locals := 0 }
def f_X6_isTask (M : Mem) (a1 : Int32) : Int32 := (if a1 < 0 then (0 : Int32) else (if (16 : Int32) ≤ a1 then (0 : Int32) else (1 : Int32)))
set_option maxRecDepth 100000 in
set_option maxHeartbeats 4000000 in
theorem k_X6_isTask_0 {p : Program} {l : Launch} {e : Env} {s : State} {m : MethodId} {args : Array Value} {below : List Frame} {meth : Method} {c : Code} {D : va_G} {cI : ClassId} {ad : Nat → Nat} {A : Nat → Prop} {cells slots : Nat} {R : Room} (hcs : cells ≤ R.cells ∧ slots ≤ R.slots) (hrf : rmX6_isTask.frames ≤ R.frames) (hrl : rmX6_isTask.locals ≤ R.locals) {r0 : Int32} (C : CX p s m args meth c RX6 cX6_isTask 1 (some .boolean)) : ∀ (M : Mem) (a1 : Int32) (H : Heap) (locs : List Loc) (ls : Array Slot), f_X6_isTask M a1 = r0 → WH D [(cI, .int)] (wR cI ad) A s H locs M → lv_has ls 1 [(0, .int a1)] → W p l e R s m args below meth c H locs cells slots (MQ below (PZ D [(cI, .int)] (wR cI ad) A (M, r0)) args s cells slots A) (F0 m 0 ls []) := by
  have hx := C.1
  have hb := C.2.1
  have hown := C.2.2.2.2.1
  have hts := C.2.2.2.2.2.1
  intro M a1 H locs ls hres h hl
  rw [f_X6_isTask] at hres
  refine lv_iload_n hx hb dX6_isTask_0 rfl (lv_at hl 0 rfl) ?_
  refine lv_if_lt (tgt := 14) hx hb dX6_isTask_1 (by decide) (fun c1 => ?_) (fun c1 => ?_)
  · have hres := it_p hres c1
    refine lv_iconst (v := (0 : Int32)) hx hb dX6_isTask_14 (by decide) ?_
    exact wh_zret C h nb_0 (cz hres) dX6_isTask_15
  · have hres := it_n hres c1
    refine lv_iload_n hx hb dX6_isTask_4 rfl (lv_at hl 0 rfl) ?_
    refine lv_bipush (v := (16 : Int32)) hx hb dX6_isTask_5 (by decide) ?_
    refine lv_icmp_ge (tgt := 14) hx hb dX6_isTask_7 (by decide) (fun c2 => ?_) (fun c2 => ?_)
    · have hres := it_p hres c2
      refine lv_iconst (v := (0 : Int32)) hx hb dX6_isTask_14 (by decide) ?_
      exact wh_zret C h nb_0 (cz hres) dX6_isTask_15
    · have hres := it_n hres c2
      refine lv_iconst (v := (1 : Int32)) hx hb dX6_isTask_10 (by decide) ?_
      refine lv_goto (tgt := 15) hx hb dX6_isTask_11 (by decide) ?_
      exact wh_zret C h nb_1 (cz hres) dX6_isTask_15
theorem yw_X6_isTask : YS yX6_isTask cX6_isTask 1 (some .boolean) rmX6_isTask 1 := ⟨in_cX6_isTask, in_sX6_isTask, in_iX6, by decide +kernel, rfl, rfl⟩
theorem c_X6_isTask {l : Launch} {D : va_G} {cI : ClassId} {ad : Nat → Nat} (M : Mem) (a1 : Int32) : KZ l D [(cI, .int)] (wR cI ad) yX6_isTask cX6_isTask 1 rmX6_isTask [.int a1] M (M, f_X6_isTask M a1) := met_z (by decide) (Nat.le_of_ble_eq_true rfl) (fun p e s m below meth c A C h ls hl => k_X6_isTask_0 ⟨Nat.le_refl _, Nat.le_refl _⟩ (Nat.le_refl _) (Nat.le_refl _) C M a1 _ _ ls rfl h hl)
abbrev rmX6_program : Room := { frames := 1, cells := 0, slots := 0, locals := 20 }
def f_X6_program (M : Mem) (a1 a2 a3 : Int32) : Mem × Int32 := (if (M 1 0) = 0 then (if (f_X6_isTask (ms M 0 (fun _ => (0 : Int32))) a1) = 0 then ((ms M 0 (fun _ => (0 : Int32))), (0 : Int32)) else (if a2 < 0 then ((ms M 0 (fun _ => (0 : Int32))), (0 : Int32)) else (if ((M 19) a1.toNatClampNeg) < a2 then ((ms M 0 (fun _ => (0 : Int32))), (0 : Int32)) else (if a2 < (32 : Int32) then (if a2 = ((M 19) a1.toNatClampNeg) then ((ms (ms (ms M 0 (fun _ => (0 : Int32))) 18 (upd (M 18) (((32 : Int32) * a1) + a2).toNatClampNeg a3)) 19 (upd (M 19) a1.toNatClampNeg (((M 19) a1.toNatClampNeg) + (1 : Int32)))), (1 : Int32)) else ((ms (ms M 0 (fun _ => (0 : Int32))) 18 (upd (M 18) (((32 : Int32) * a1) + a2).toNatClampNeg a3)), (1 : Int32))) else ((ms M 0 (fun _ => (0 : Int32))), (0 : Int32)))))) else ((ms M 0 (fun _ => (0 : Int32))), (0 : Int32)))
def ok_X6_program (M : Mem) (a1 a2 a3 : Int32) : Prop := (if (M 1 0) = 0 then (if (f_X6_isTask (ms M 0 (fun _ => (0 : Int32))) a1) = 0 then True else (if a2 < 0 then True else vp_in a1 16 ∧ (if ((M 19) a1.toNatClampNeg) < a2 then True else (if a2 < (32 : Int32) then vp_in (((32 : Int32) * a1) + a2) 512 ∧ vp_in a1 16 ∧ (if a2 = ((M 19) a1.toNatClampNeg) then vp_in a1 16 ∧ vp_in a1 16 else True) else True)))) else True)
set_option maxRecDepth 100000 in
set_option maxHeartbeats 4000000 in
theorem k_X6_program_0 {p : Program} {l : Launch} {e : Env} {s : State} {m : MethodId} {args : Array Value} {below : List Frame} {meth : Method} {c : Code} {D : va_G} {cI : ClassId} {ad : Nat → Nat} {A : Nat → Prop} {cells slots : Nat} {R : Room} (hcs : cells ≤ R.cells ∧ slots ≤ R.slots) (hrf : rmX6_program.frames ≤ R.frames) (hrl : rmX6_program.locals ≤ R.locals) {res : Mem × Int32} (C : CX p s m args meth c RX6 cX6_program 4 (some .boolean)) : ∀ (M : Mem) (a1 a2 a3 : Int32) (H : Heap) (locs : List Loc) (ls : Array Slot), ok_X6_program M a1 a2 a3 → f_X6_program M a1 a2 a3 = res → WH D [(cI, .int)] (wR cI ad) A s H locs M → lv_has ls 4 [(0, .ref (ad 0)), (1, .int a1), (2, .int a2), (3, .int a3)] → W p l e R s m args below meth c H locs cells slots (MQ below (PZ D [(cI, .int)] (wR cI ad) A res) args s cells slots A) (F0 m 0 ls []) := by
  have hx := C.1
  have hb := C.2.1
  have hown := C.2.2.2.2.1
  have hts := C.2.2.2.2.2.1
  intro M a1 a2 a3 H locs ls hok hres h hl
  rw [ok_X6_program] at hok
  rw [f_X6_program] at hres
  refine lv_aload_n hx hb dX6_program_0 rfl (lv_at hl 0 rfl) ?_
  refine lv_iconst (v := (0 : Int32)) hx hb dX6_program_1 (by decide) ?_
  refine R_X6_thrown_put (v := (0 : Int32)) (M2 := (ms M 0 (fun _ => (0 : Int32)))) C h in_fX6_56 rfl dX6_program_2 (fun H locs h => ?_)
  refine lv_aload_n hx hb dX6_program_5 rfl (lv_at hl 0 rfl) ?_
  refine R_X6_sealed_get (v := (M 1 0)) C h in_fX6_59 rfl dX6_program_6 ?_
  refine lv_if_ne (tgt := 39) hx hb dX6_program_9 (by decide) (fun c1 => ?_) (fun c1 => ?_)
  · have hres := it_n hres c1
    refine lv_iconst (v := (0 : Int32)) hx hb dX6_program_39 (by decide) ?_
    exact wh_zret C h nb_0 hres dX6_program_40
  · have hres := it_p hres c1
    have hok := io_p hok c1
    refine lv_iload_n hx hb dX6_program_12 rfl (lv_at hl 1 rfl) ?_
    refine wh_cszp (As := [.int a1]) (rest := []) hcs C h (c_X6_isTask (ms M 0 (fun _ => (0 : Int32))) a1) yw_X6_isTask in_mX6_63 hl.1 rfl rfl (Nat.le_of_ble_eq_true rfl) ⟨Nat.le_trans (Nat.le_of_ble_eq_true rfl) hrf, Nat.le_trans (Nat.le_of_ble_eq_true rfl) hrl⟩ dX6_program_13 (fun H locs z2 h => ?_)
    refine lv_if_eq (tgt := 39) hx hb dX6_program_16 (by decide) (fun c3 => ?_) (fun c3 => ?_)
    · have hres := it_p hres c3
      refine lv_iconst (v := (0 : Int32)) hx hb dX6_program_39 (by decide) ?_
      exact wh_zret C h nb_0 hres dX6_program_40
    · have hres := it_n hres c3
      have hok := io_n hok c3
      refine lv_iload_n hx hb dX6_program_19 rfl (lv_at hl 2 rfl) ?_
      refine lv_if_lt (tgt := 39) hx hb dX6_program_20 (by decide) (fun c4 => ?_) (fun c4 => ?_)
      · have hres := it_p hres c4
        refine lv_iconst (v := (0 : Int32)) hx hb dX6_program_39 (by decide) ?_
        exact wh_zret C h nb_0 hres dX6_program_40
      · have hres := it_n hres c4
        have hok := io_n hok c4
        refine lv_iload_n hx hb dX6_program_23 rfl (lv_at hl 2 rfl) ?_
        refine lv_aload_n hx hb dX6_program_24 rfl (lv_at hl 0 rfl) ?_
        refine R_X6_size_get C h in_fX6_13 dX6_program_25 ?_
        refine lv_iload_n hx hb dX6_program_28 rfl (lv_at hl 1 rfl) ?_
        obtain ⟨h12, hok⟩ := hok
        refine R_size_ld (v := ((M 19) a1.toNatClampNeg)) C h h12 rfl dX6_program_29 ?_
        refine lv_icmp_gt (tgt := 39) hx hb dX6_program_30 (by decide) (fun c5 => ?_) (fun c5 => ?_)
        · have hres := it_p hres c5
          refine lv_iconst (v := (0 : Int32)) hx hb dX6_program_39 (by decide) ?_
          exact wh_zret C h nb_0 hres dX6_program_40
        · have hres := it_n hres c5
          have hok := io_n hok c5
          refine lv_iload_n hx hb dX6_program_33 rfl (lv_at hl 2 rfl) ?_
          refine lv_bipush (v := (32 : Int32)) hx hb dX6_program_34 (by decide) ?_
          refine lv_icmp_lt (tgt := 41) hx hb dX6_program_36 (by decide) (fun c6 => ?_) (fun c6 => ?_)
          · have hres := it_p hres c6
            have hok := io_p hok c6
            refine lv_aload_n hx hb dX6_program_41 rfl (lv_at hl 0 rfl) ?_
            refine R_X6_code_get C h in_fX6_7 dX6_program_42 ?_
            refine lv_bipush (v := (32 : Int32)) hx hb dX6_program_45 (by decide) ?_
            refine lv_iload_n hx hb dX6_program_47 rfl (lv_at hl 1 rfl) ?_
            refine lv_imul hx hb dX6_program_48 ?_
            refine lv_iload_n hx hb dX6_program_49 rfl (lv_at hl 2 rfl) ?_
            refine lv_iadd hx hb dX6_program_50 ?_
            refine lv_iload_n hx hb dX6_program_51 rfl (lv_at hl 3 rfl) ?_
            obtain ⟨h11, hok⟩ := hok
            refine R_code_st (M2 := (ms (ms M 0 (fun _ => (0 : Int32))) 18 (upd (M 18) (((32 : Int32) * a1) + a2).toNatClampNeg a3))) C h h11 rfl dX6_program_52 (fun H locs h => ?_)
            refine lv_iload_n hx hb dX6_program_53 rfl (lv_at hl 2 rfl) ?_
            refine lv_aload_n hx hb dX6_program_54 rfl (lv_at hl 0 rfl) ?_
            refine R_X6_size_get C h in_fX6_13 dX6_program_55 ?_
            refine lv_iload_n hx hb dX6_program_58 rfl (lv_at hl 1 rfl) ?_
            obtain ⟨h10, hok⟩ := hok
            refine R_size_ld (v := ((M 19) a1.toNatClampNeg)) C h h10 rfl dX6_program_59 ?_
            refine lv_icmp_ne (tgt := 73) hx hb dX6_program_60 (by decide) (fun c7 => ?_) (fun c7 => ?_)
            · have hres := it_n hres c7
              refine lv_iconst (v := (1 : Int32)) hx hb dX6_program_73 (by decide) ?_
              exact wh_zret C h nb_1 hres dX6_program_74
            · have hres := it_p hres c7
              have hok := io_p hok c7
              refine lv_aload_n hx hb dX6_program_63 rfl (lv_at hl 0 rfl) ?_
              refine R_X6_size_get C h in_fX6_13 dX6_program_64 ?_
              refine lv_iload_n hx hb dX6_program_67 rfl (lv_at hl 1 rfl) ?_
              refine lv_dup2_11 hx hb dX6_program_68 rfl rfl ?_
              obtain ⟨h9, hok⟩ := hok
              refine R_size_ld (v := ((M 19) a1.toNatClampNeg)) C h h9 rfl dX6_program_69 ?_
              refine lv_iconst (v := (1 : Int32)) hx hb dX6_program_70 (by decide) ?_
              refine lv_iadd hx hb dX6_program_71 ?_
              have h8 := hok
              refine R_size_st (M2 := (ms (ms (ms M 0 (fun _ => (0 : Int32))) 18 (upd (M 18) (((32 : Int32) * a1) + a2).toNatClampNeg a3)) 19 (upd (M 19) a1.toNatClampNeg (((M 19) a1.toNatClampNeg) + (1 : Int32))))) C h h8 rfl dX6_program_72 (fun H locs h => ?_)
              refine lv_iconst (v := (1 : Int32)) hx hb dX6_program_73 (by decide) ?_
              exact wh_zret C h nb_1 hres dX6_program_74
          · have hres := it_n hres c6
            refine lv_iconst (v := (0 : Int32)) hx hb dX6_program_39 (by decide) ?_
            exact wh_zret C h nb_0 hres dX6_program_40
theorem yw_X6_program {cI : ClassId} {ad : Nat → Nat} : YV (wR cI ad) (ad 0) yX6_program cX6_program 4 (some .boolean) rmX6_program 3 := ⟨fun M => ⟨0, 6, _, _, rfl, rfl, rfl⟩, in_cX6_program, in_nX6_program, in_vX6_program, in_iX6, by decide +kernel, rfl, rfl⟩
theorem c_X6_program {l : Launch} {D : va_G} {cI : ClassId} {ad : Nat → Nat} (M : Mem) (a1 a2 a3 : Int32) (hok : ok_X6_program M a1 a2 a3) : KZ l D [(cI, .int)] (wR cI ad) yX6_program cX6_program 4 rmX6_program [.ref (ad 0), .int a1, .int a2, .int a3] M (f_X6_program M a1 a2 a3) := met_z (by decide) (Nat.le_of_ble_eq_true rfl) (fun p e s m below meth c A C h ls hl => k_X6_program_0 ⟨Nat.le_refl _, Nat.le_refl _⟩ (Nat.le_refl _) (Nat.le_refl _) C M a1 a2 a3 _ _ ls hok rfl h hl)
abbrev rmX6_op : Room := { frames := 0, cells := 0, slots := 0, locals := 0 }
def f_X6_op (M : Mem) (a1 : Int32) : Int32 := (ush a1 (24 : Int32))
set_option maxRecDepth 100000 in
set_option maxHeartbeats 4000000 in
theorem k_X6_op_0 {p : Program} {l : Launch} {e : Env} {s : State} {m : MethodId} {args : Array Value} {below : List Frame} {meth : Method} {c : Code} {D : va_G} {cI : ClassId} {ad : Nat → Nat} {A : Nat → Prop} {cells slots : Nat} {R : Room} (hcs : cells ≤ R.cells ∧ slots ≤ R.slots) (hrf : rmX6_op.frames ≤ R.frames) (hrl : rmX6_op.locals ≤ R.locals) {r0 : Int32} (C : CX p s m args meth c RX6 cX6_op 1 (some .int)) : ∀ (M : Mem) (a1 : Int32) (H : Heap) (locs : List Loc) (ls : Array Slot), f_X6_op M a1 = r0 → WH D [(cI, .int)] (wR cI ad) A s H locs M → lv_has ls 1 [(0, .int a1)] → W p l e R s m args below meth c H locs cells slots (MQ below (PI D [(cI, .int)] (wR cI ad) A (M, r0)) args s cells slots A) (F0 m 0 ls []) := by
  have hx := C.1
  have hb := C.2.1
  have hown := C.2.2.2.2.1
  have hts := C.2.2.2.2.2.1
  intro M a1 H locs ls hres h hl
  rw [f_X6_op] at hres
  refine lv_iload_n hx hb dX6_op_0 rfl (lv_at hl 0 rfl) ?_
  refine lv_bipush (v := (24 : Int32)) hx hb dX6_op_1 (by decide) ?_
  refine lv_iushr (v := (ush a1 (24 : Int32))) hx hb dX6_op_3 rfl ?_
  exact wh_iret C h (cz hres) dX6_op_4
theorem yw_X6_op : YS yX6_op cX6_op 1 (some .int) rmX6_op 1 := ⟨in_cX6_op, in_sX6_op, in_iX6, by decide +kernel, rfl, rfl⟩
theorem c_X6_op {l : Launch} {D : va_G} {cI : ClassId} {ad : Nat → Nat} (M : Mem) (a1 : Int32) : KI l D [(cI, .int)] (wR cI ad) yX6_op cX6_op 1 rmX6_op [.int a1] M (M, f_X6_op M a1) := met_i (by decide) (Nat.le_of_ble_eq_true rfl) (fun p e s m below meth c A C h ls hl => k_X6_op_0 ⟨Nat.le_refl _, Nat.le_refl _⟩ (Nat.le_refl _) (Nat.le_refl _) C M a1 _ _ ls rfl h hl)
abbrev rmX6_a : Room := { frames := 0, cells := 0, slots := 0, locals := 0 }
def f_X6_a (M : Mem) (a1 : Int32) : Int32 := ((ush a1 (16 : Int32)) &&& (255 : Int32))
set_option maxRecDepth 100000 in
set_option maxHeartbeats 4000000 in
theorem k_X6_a_0 {p : Program} {l : Launch} {e : Env} {s : State} {m : MethodId} {args : Array Value} {below : List Frame} {meth : Method} {c : Code} {D : va_G} {cI : ClassId} {ad : Nat → Nat} {A : Nat → Prop} {cells slots : Nat} {R : Room} (hcs : cells ≤ R.cells ∧ slots ≤ R.slots) (hrf : rmX6_a.frames ≤ R.frames) (hrl : rmX6_a.locals ≤ R.locals) {r0 : Int32} (C : CX p s m args meth c RX6 cX6_a 1 (some .int)) : ∀ (M : Mem) (a1 : Int32) (H : Heap) (locs : List Loc) (ls : Array Slot), f_X6_a M a1 = r0 → WH D [(cI, .int)] (wR cI ad) A s H locs M → lv_has ls 1 [(0, .int a1)] → W p l e R s m args below meth c H locs cells slots (MQ below (PI D [(cI, .int)] (wR cI ad) A (M, r0)) args s cells slots A) (F0 m 0 ls []) := by
  have hx := C.1
  have hb := C.2.1
  have hown := C.2.2.2.2.1
  have hts := C.2.2.2.2.2.1
  intro M a1 H locs ls hres h hl
  rw [f_X6_a] at hres
  refine lv_iload_n hx hb dX6_a_0 rfl (lv_at hl 0 rfl) ?_
  refine lv_bipush (v := (16 : Int32)) hx hb dX6_a_1 (by decide) ?_
  refine lv_iushr (v := (ush a1 (16 : Int32))) hx hb dX6_a_3 rfl ?_
  refine lv_sipush (v := (255 : Int32)) hx hb dX6_a_4 (by decide) ?_
  refine lv_iand hx hb dX6_a_7 ?_
  exact wh_iret C h (cz hres) dX6_a_8
theorem yw_X6_a : YS yX6_a cX6_a 1 (some .int) rmX6_a 1 := ⟨in_cX6_a, in_sX6_a, in_iX6, by decide +kernel, rfl, rfl⟩
theorem c_X6_a {l : Launch} {D : va_G} {cI : ClassId} {ad : Nat → Nat} (M : Mem) (a1 : Int32) : KI l D [(cI, .int)] (wR cI ad) yX6_a cX6_a 1 rmX6_a [.int a1] M (M, f_X6_a M a1) := met_i (by decide) (Nat.le_of_ble_eq_true rfl) (fun p e s m below meth c A C h ls hl => k_X6_a_0 ⟨Nat.le_refl _, Nat.le_refl _⟩ (Nat.le_refl _) (Nat.le_refl _) C M a1 _ _ ls rfl h hl)
abbrev rmX6_b : Room := { frames := 0, cells := 0, slots := 0, locals := 0 }
def f_X6_b (M : Mem) (a1 : Int32) : Int32 := ((ush a1 (8 : Int32)) &&& (255 : Int32))
set_option maxRecDepth 100000 in
set_option maxHeartbeats 4000000 in
theorem k_X6_b_0 {p : Program} {l : Launch} {e : Env} {s : State} {m : MethodId} {args : Array Value} {below : List Frame} {meth : Method} {c : Code} {D : va_G} {cI : ClassId} {ad : Nat → Nat} {A : Nat → Prop} {cells slots : Nat} {R : Room} (hcs : cells ≤ R.cells ∧ slots ≤ R.slots) (hrf : rmX6_b.frames ≤ R.frames) (hrl : rmX6_b.locals ≤ R.locals) {r0 : Int32} (C : CX p s m args meth c RX6 cX6_b 1 (some .int)) : ∀ (M : Mem) (a1 : Int32) (H : Heap) (locs : List Loc) (ls : Array Slot), f_X6_b M a1 = r0 → WH D [(cI, .int)] (wR cI ad) A s H locs M → lv_has ls 1 [(0, .int a1)] → W p l e R s m args below meth c H locs cells slots (MQ below (PI D [(cI, .int)] (wR cI ad) A (M, r0)) args s cells slots A) (F0 m 0 ls []) := by
  have hx := C.1
  have hb := C.2.1
  have hown := C.2.2.2.2.1
  have hts := C.2.2.2.2.2.1
  intro M a1 H locs ls hres h hl
  rw [f_X6_b] at hres
  refine lv_iload_n hx hb dX6_b_0 rfl (lv_at hl 0 rfl) ?_
  refine lv_bipush (v := (8 : Int32)) hx hb dX6_b_1 (by decide) ?_
  refine lv_iushr (v := (ush a1 (8 : Int32))) hx hb dX6_b_3 rfl ?_
  refine lv_sipush (v := (255 : Int32)) hx hb dX6_b_4 (by decide) ?_
  refine lv_iand hx hb dX6_b_7 ?_
  exact wh_iret C h (cz hres) dX6_b_8
theorem yw_X6_b : YS yX6_b cX6_b 1 (some .int) rmX6_b 1 := ⟨in_cX6_b, in_sX6_b, in_iX6, by decide +kernel, rfl, rfl⟩
theorem c_X6_b {l : Launch} {D : va_G} {cI : ClassId} {ad : Nat → Nat} (M : Mem) (a1 : Int32) : KI l D [(cI, .int)] (wR cI ad) yX6_b cX6_b 1 rmX6_b [.int a1] M (M, f_X6_b M a1) := met_i (by decide) (Nat.le_of_ble_eq_true rfl) (fun p e s m below meth c A C h ls hl => k_X6_b_0 ⟨Nat.le_refl _, Nat.le_refl _⟩ (Nat.le_refl _) (Nat.le_refl _) C M a1 _ _ ls rfl h hl)
abbrev rmX6_c : Room := { frames := 0, cells := 0, slots := 0, locals := 0 }
def f_X6_c (M : Mem) (a1 : Int32) : Int32 := (a1 &&& (255 : Int32))
set_option maxRecDepth 100000 in
set_option maxHeartbeats 4000000 in
theorem k_X6_c_0 {p : Program} {l : Launch} {e : Env} {s : State} {m : MethodId} {args : Array Value} {below : List Frame} {meth : Method} {c : Code} {D : va_G} {cI : ClassId} {ad : Nat → Nat} {A : Nat → Prop} {cells slots : Nat} {R : Room} (hcs : cells ≤ R.cells ∧ slots ≤ R.slots) (hrf : rmX6_c.frames ≤ R.frames) (hrl : rmX6_c.locals ≤ R.locals) {r0 : Int32} (C : CX p s m args meth c RX6 cX6_c 1 (some .int)) : ∀ (M : Mem) (a1 : Int32) (H : Heap) (locs : List Loc) (ls : Array Slot), f_X6_c M a1 = r0 → WH D [(cI, .int)] (wR cI ad) A s H locs M → lv_has ls 1 [(0, .int a1)] → W p l e R s m args below meth c H locs cells slots (MQ below (PI D [(cI, .int)] (wR cI ad) A (M, r0)) args s cells slots A) (F0 m 0 ls []) := by
  have hx := C.1
  have hb := C.2.1
  have hown := C.2.2.2.2.1
  have hts := C.2.2.2.2.2.1
  intro M a1 H locs ls hres h hl
  rw [f_X6_c] at hres
  refine lv_iload_n hx hb dX6_c_0 rfl (lv_at hl 0 rfl) ?_
  refine lv_sipush (v := (255 : Int32)) hx hb dX6_c_1 (by decide) ?_
  refine lv_iand hx hb dX6_c_4 ?_
  exact wh_iret C h (cz hres) dX6_c_5
theorem yw_X6_c : YS yX6_c cX6_c 1 (some .int) rmX6_c 1 := ⟨in_cX6_c, in_sX6_c, in_iX6, by decide +kernel, rfl, rfl⟩
theorem c_X6_c {l : Launch} {D : va_G} {cI : ClassId} {ad : Nat → Nat} (M : Mem) (a1 : Int32) : KI l D [(cI, .int)] (wR cI ad) yX6_c cX6_c 1 rmX6_c [.int a1] M (M, f_X6_c M a1) := met_i (by decide) (Nat.le_of_ble_eq_true rfl) (fun p e s m below meth c A C h ls hl => k_X6_c_0 ⟨Nat.le_refl _, Nat.le_refl _⟩ (Nat.le_refl _) (Nat.le_refl _) C M a1 _ _ ls rfl h hl)
abbrev rmX6_write : Room := { frames := 0, cells := 0, slots := 0, locals := 0 }
def f_X6_write (M : Mem) (a1 a2 : Int32) : Mem := (ms (ms M 20 (upd (M 20) a1.toNatClampNeg a2)) 21 (upd (M 21) a1.toNatClampNeg (((M 21) a1.toNatClampNeg) + (1 : Int32))))
def ok_X6_write (M : Mem) (a1 a2 : Int32) : Prop := vp_in a1 164 ∧ vp_in a1 164 ∧ vp_in a1 164
set_option maxRecDepth 100000 in
set_option maxHeartbeats 4000000 in
theorem k_X6_write_0 {p : Program} {l : Launch} {e : Env} {s : State} {m : MethodId} {args : Array Value} {below : List Frame} {meth : Method} {c : Code} {D : va_G} {cI : ClassId} {ad : Nat → Nat} {A : Nat → Prop} {cells slots : Nat} {R : Room} (hcs : cells ≤ R.cells ∧ slots ≤ R.slots) (hrf : rmX6_write.frames ≤ R.frames) (hrl : rmX6_write.locals ≤ R.locals) {res : Mem} (C : CX p s m args meth c RX6 cX6_write 3 none) : ∀ (M : Mem) (a1 a2 : Int32) (H : Heap) (locs : List Loc) (ls : Array Slot), ok_X6_write M a1 a2 → f_X6_write M a1 a2 = res → WH D [(cI, .int)] (wR cI ad) A s H locs M → lv_has ls 3 [(0, .ref (ad 0)), (1, .int a1), (2, .int a2)] → W p l e R s m args below meth c H locs cells slots (MQ below (PV D [(cI, .int)] (wR cI ad) A res) args s cells slots A) (F0 m 0 ls []) := by
  have hx := C.1
  have hb := C.2.1
  have hown := C.2.2.2.2.1
  have hts := C.2.2.2.2.2.1
  intro M a1 a2 H locs ls hok hres h hl
  rw [ok_X6_write] at hok
  rw [f_X6_write] at hres
  refine lv_aload_n hx hb dX6_write_0 rfl (lv_at hl 0 rfl) ?_
  refine R_X6_kept_get C h in_fX6_16 dX6_write_1 ?_
  refine lv_iload_n hx hb dX6_write_4 rfl (lv_at hl 1 rfl) ?_
  refine lv_iload_n hx hb dX6_write_5 rfl (lv_at hl 2 rfl) ?_
  obtain ⟨h3, hok⟩ := hok
  refine R_kept_st (M2 := (ms M 20 (upd (M 20) a1.toNatClampNeg a2))) C h h3 rfl dX6_write_6 (fun H locs h => ?_)
  refine lv_aload_n hx hb dX6_write_7 rfl (lv_at hl 0 rfl) ?_
  refine R_X6_wear_get C h in_fX6_19 dX6_write_8 ?_
  refine lv_iload_n hx hb dX6_write_11 rfl (lv_at hl 1 rfl) ?_
  refine lv_dup2_11 hx hb dX6_write_12 rfl rfl ?_
  obtain ⟨h2, hok⟩ := hok
  refine R_wear_ld (v := ((M 21) a1.toNatClampNeg)) C h h2 rfl dX6_write_13 ?_
  refine lv_iconst (v := (1 : Int32)) hx hb dX6_write_14 (by decide) ?_
  refine lv_iadd hx hb dX6_write_15 ?_
  have h1 := hok
  refine R_wear_st (M2 := (ms (ms M 20 (upd (M 20) a1.toNatClampNeg a2)) 21 (upd (M 21) a1.toNatClampNeg (((M 21) a1.toNatClampNeg) + (1 : Int32))))) C h h1 rfl dX6_write_16 (fun H locs h => ?_)
  exact wh_vret C h hres dX6_write_17
theorem yw_X6_write {cI : ClassId} {ad : Nat → Nat} : YV (wR cI ad) (ad 0) yX6_write cX6_write 3 none rmX6_write 2 := ⟨fun M => ⟨0, 6, _, _, rfl, rfl, rfl⟩, in_cX6_write, in_nX6_write, in_vX6_write, in_iX6, by decide +kernel, rfl, rfl⟩
theorem c_X6_write {l : Launch} {D : va_G} {cI : ClassId} {ad : Nat → Nat} (M : Mem) (a1 a2 : Int32) (hok : ok_X6_write M a1 a2) : KV l D [(cI, .int)] (wR cI ad) yX6_write cX6_write 3 rmX6_write [.ref (ad 0), .int a1, .int a2] M (f_X6_write M a1 a2) := met_v (by decide) (Nat.le_of_ble_eq_true rfl) (fun p e s m below meth c A C h ls hl => k_X6_write_0 ⟨Nat.le_refl _, Nat.le_refl _⟩ (Nat.le_refl _) (Nat.le_refl _) C M a1 a2 _ _ ls hok rfl h hl)
abbrev rmX6_place : Room := { frames := 0, cells := 0, slots := 0, locals := 0 }
def f_X6_place_2 : Nat → Mem → Int32 → Int32 → Int32
  | 0, M, _, _ => 0
  | n + 1, M, x1, x2 => (if (M 14 0) ≤ x2 then (-1 : Int32) else (if ((M 26) x2.toNatClampNeg) = x1 then x2 else (f_X6_place_2 n M x1 (x2 + (1 : Int32)))))
def ok_X6_place_2 : Nat → Mem → Int32 → Int32 → Prop
  | 0, _, _, _ => False
  | n + 1, M, x1, x2 => (if (M 14 0) ≤ x2 then True else vp_in x2 40 ∧ (if ((M 26) x2.toNatClampNeg) = x1 then True else ok_X6_place_2 n M x1 (x2 + (1 : Int32))))
def f_X6_place (M : Mem) (a1 : Int32) : Int32 := (f_X6_place_2 41 M a1 (0 : Int32))
def ok_X6_place (M : Mem) (a1 : Int32) : Prop := ok_X6_place_2 41 M a1 (0 : Int32)
set_option maxRecDepth 100000 in
set_option maxHeartbeats 4000000 in
theorem k_X6_place_2 {p : Program} {l : Launch} {e : Env} {s : State} {m : MethodId} {args : Array Value} {below : List Frame} {meth : Method} {c : Code} {D : va_G} {cI : ClassId} {ad : Nat → Nat} {A : Nat → Prop} {cells slots : Nat} {R : Room} (hcs : cells ≤ R.cells ∧ slots ≤ R.slots) (hrf : rmX6_place.frames ≤ R.frames) (hrl : rmX6_place.locals ≤ R.locals) {r0 : Int32} (C : CX p s m args meth c RX6 cX6_place 3 (some .int)) : ∀ (n : Nat) (M : Mem) (x1 x2 : Int32) (H : Heap) (locs : List Loc) (ls : Array Slot), ok_X6_place_2 n M x1 x2 → f_X6_place_2 n M x1 x2 = r0 → WH D [(cI, .int)] (wR cI ad) A s H locs M → lv_has ls 3 [(0, .ref (ad 0)), (1, .int x1), (2, .int x2)] → W p l e R s m args below meth c H locs cells slots (MQ below (PI D [(cI, .int)] (wR cI ad) A (M, r0)) args s cells slots A) (F0 m 2 ls []) := by
  have hx := C.1
  have hb := C.2.1
  have hown := C.2.2.2.2.1
  have hts := C.2.2.2.2.2.1
  intro n
  induction n with
  | zero =>
    intro M x1 x2 H locs ls hok
    exact absurd hok (by intro z; exact z)
  | succ n ih =>
    intro M x1 x2 H locs ls hok hres h hl
    rw [ok_X6_place_2] at hok
    rw [f_X6_place_2] at hres
    refine lv_iload_n hx hb dX6_place_2 rfl (lv_at hl 2 rfl) ?_
    refine lv_aload_n hx hb dX6_place_3 rfl (lv_at hl 0 rfl) ?_
    refine R_X6_pending_get (v := (M 14 0)) C h in_fX6_84 rfl dX6_place_4 ?_
    refine lv_icmp_ge (tgt := 28) hx hb dX6_place_7 (by decide) (fun c1 => ?_) (fun c1 => ?_)
    · have hres := it_p hres c1
      refine lv_iconst (v := (-1 : Int32)) hx hb dX6_place_28 (by decide) ?_
      exact wh_iret C h (cz hres) dX6_place_29
    · have hres := it_n hres c1
      have hok := io_n hok c1
      refine lv_aload_n hx hb dX6_place_10 rfl (lv_at hl 0 rfl) ?_
      refine R_X6_where_get C h in_fX6_38 dX6_place_11 ?_
      refine lv_iload_n hx hb dX6_place_14 rfl (lv_at hl 2 rfl) ?_
      obtain ⟨h3, hok⟩ := hok
      refine R_where_ld (v := ((M 26) x2.toNatClampNeg)) C h h3 rfl dX6_place_15 ?_
      refine lv_iload_n hx hb dX6_place_16 rfl (lv_at hl 1 rfl) ?_
      refine lv_icmp_ne (tgt := 22) hx hb dX6_place_17 (by decide) (fun c2 => ?_) (fun c2 => ?_)
      · have hres := it_n hres c2
        have hok := io_n hok c2
        refine lv_iinc (v := (x2 + (1 : Int32))) (lv' := [(2, .int (x2 + (1 : Int32))), (0, .ref (ad 0)), (1, .int x1)]) hx hb dX6_place_22 hl (k := 2) rfl rfl (by decide) rfl (fun ls hl => ?_)
        refine lv_goto (tgt := 2) hx hb dX6_place_25 (by decide) ?_
        exact ih M x1 (x2 + (1 : Int32)) _ _ _ hok hres h (lv_sub hl [1, 2, 0] rfl)
      · have hres := it_p hres c2
        refine lv_iload_n hx hb dX6_place_20 rfl (lv_at hl 2 rfl) ?_
        exact wh_iret C h (cz hres) dX6_place_21
set_option maxRecDepth 100000 in
set_option maxHeartbeats 4000000 in
theorem k_X6_place_0 {p : Program} {l : Launch} {e : Env} {s : State} {m : MethodId} {args : Array Value} {below : List Frame} {meth : Method} {c : Code} {D : va_G} {cI : ClassId} {ad : Nat → Nat} {A : Nat → Prop} {cells slots : Nat} {R : Room} (hcs : cells ≤ R.cells ∧ slots ≤ R.slots) (hrf : rmX6_place.frames ≤ R.frames) (hrl : rmX6_place.locals ≤ R.locals) {r0 : Int32} (C : CX p s m args meth c RX6 cX6_place 3 (some .int)) : ∀ (M : Mem) (a1 : Int32) (H : Heap) (locs : List Loc) (ls : Array Slot), ok_X6_place M a1 → f_X6_place M a1 = r0 → WH D [(cI, .int)] (wR cI ad) A s H locs M → lv_has ls 3 [(0, .ref (ad 0)), (1, .int a1)] → W p l e R s m args below meth c H locs cells slots (MQ below (PI D [(cI, .int)] (wR cI ad) A (M, r0)) args s cells slots A) (F0 m 0 ls []) := by
  have hx := C.1
  have hb := C.2.1
  have hown := C.2.2.2.2.1
  have hts := C.2.2.2.2.2.1
  intro M a1 H locs ls hok hres h hl
  rw [ok_X6_place] at hok
  rw [f_X6_place] at hres
  refine lv_iconst (v := (0 : Int32)) hx hb dX6_place_0 (by decide) ?_
  refine lv_istore_n (lv' := [(2, .int (0 : Int32)), (0, .ref (ad 0)), (1, .int a1)]) hx hb dX6_place_1 rfl hl (by decide) rfl (fun ls hl => ?_)
  exact k_X6_place_2 hcs hrf hrl C 41 M a1 (0 : Int32) _ _ _ hok hres h (lv_sub hl [1, 2, 0] rfl)
theorem yw_X6_place {cI : ClassId} {ad : Nat → Nat} : YV (wR cI ad) (ad 0) yX6_place cX6_place 3 (some .int) rmX6_place 1 := ⟨fun M => ⟨0, 6, _, _, rfl, rfl, rfl⟩, in_cX6_place, in_nX6_place, in_vX6_place, in_iX6, by decide +kernel, rfl, rfl⟩
theorem c_X6_place {l : Launch} {D : va_G} {cI : ClassId} {ad : Nat → Nat} (M : Mem) (a1 : Int32) (hok : ok_X6_place M a1) : KI l D [(cI, .int)] (wR cI ad) yX6_place cX6_place 3 rmX6_place [.ref (ad 0), .int a1] M (M, f_X6_place M a1) := met_i (by decide) (Nat.le_of_ble_eq_true rfl) (fun p e s m below meth c A C h ls hl => k_X6_place_0 ⟨Nat.le_refl _, Nat.le_refl _⟩ (Nat.le_refl _) (Nat.le_refl _) C M a1 _ _ ls hok rfl h hl)
abbrev rmX6_see : Room := { frames := 1, cells := 0, slots := 0, locals := 22 }
def f_X6_see (M : Mem) (a1 : Int32) : Int32 := (if (f_X6_place M a1) = (-1 : Int32) then ((M 20) a1.toNatClampNeg) else ((M 27) (f_X6_place M a1).toNatClampNeg))
def ok_X6_see (M : Mem) (a1 : Int32) : Prop := ok_X6_place M a1 ∧ (if (f_X6_place M a1) = (-1 : Int32) then vp_in a1 164 else vp_in (f_X6_place M a1) 40)
set_option maxRecDepth 100000 in
set_option maxHeartbeats 4000000 in
theorem k_X6_see_0 {p : Program} {l : Launch} {e : Env} {s : State} {m : MethodId} {args : Array Value} {below : List Frame} {meth : Method} {c : Code} {D : va_G} {cI : ClassId} {ad : Nat → Nat} {A : Nat → Prop} {cells slots : Nat} {R : Room} (hcs : cells ≤ R.cells ∧ slots ≤ R.slots) (hrf : rmX6_see.frames ≤ R.frames) (hrl : rmX6_see.locals ≤ R.locals) {r0 : Int32} (C : CX p s m args meth c RX6 cX6_see 3 (some .int)) : ∀ (M : Mem) (a1 : Int32) (H : Heap) (locs : List Loc) (ls : Array Slot), ok_X6_see M a1 → f_X6_see M a1 = r0 → WH D [(cI, .int)] (wR cI ad) A s H locs M → lv_has ls 3 [(0, .ref (ad 0)), (1, .int a1)] → W p l e R s m args below meth c H locs cells slots (MQ below (PI D [(cI, .int)] (wR cI ad) A (M, r0)) args s cells slots A) (F0 m 0 ls []) := by
  have hx := C.1
  have hb := C.2.1
  have hown := C.2.2.2.2.1
  have hts := C.2.2.2.2.2.1
  intro M a1 H locs ls hok hres h hl
  rw [ok_X6_see] at hok
  rw [f_X6_see] at hres
  refine lv_aload_n hx hb dX6_see_0 rfl (lv_at hl 0 rfl) ?_
  refine lv_iload_n hx hb dX6_see_1 rfl (lv_at hl 1 rfl) ?_
  obtain ⟨h5, hok⟩ := hok
  refine wh_cvip (As := [.int a1]) (rest := []) hcs C h (c_X6_place M a1 h5) yw_X6_place in_mX6_87 hl.1 rfl rfl (Nat.le_of_ble_eq_true rfl) ⟨Nat.le_trans (Nat.le_of_ble_eq_true rfl) hrf, Nat.le_trans (Nat.le_of_ble_eq_true rfl) hrl⟩ dX6_see_2 (fun H locs h => ?_)
  refine lv_istore_n (lv' := [(2, .int (f_X6_place M a1)), (0, .ref (ad 0)), (1, .int a1)]) hx hb dX6_see_5 rfl hl (by decide) rfl (fun ls hl => ?_)
  refine lv_iload_n hx hb dX6_see_6 rfl (lv_at hl 0 rfl) ?_
  refine lv_iconst (v := (-1 : Int32)) hx hb dX6_see_7 (by decide) ?_
  refine lv_icmp_ne (tgt := 20) hx hb dX6_see_8 (by decide) (fun c2 => ?_) (fun c2 => ?_)
  · have hres := it_n hres c2
    have hok := io_n hok c2
    refine lv_aload_n hx hb dX6_see_20 rfl (lv_at hl 1 rfl) ?_
    refine R_X6_what_get C h in_fX6_41 dX6_see_21 ?_
    refine lv_iload_n hx hb dX6_see_24 rfl (lv_at hl 0 rfl) ?_
    have h3 := hok
    refine R_what_ld (v := ((M 27) (f_X6_place M a1).toNatClampNeg)) C h h3 rfl dX6_see_25 ?_
    exact wh_iret C h (cz hres) dX6_see_26
  · have hres := it_p hres c2
    have hok := io_p hok c2
    refine lv_aload_n hx hb dX6_see_11 rfl (lv_at hl 1 rfl) ?_
    refine R_X6_kept_get C h in_fX6_16 dX6_see_12 ?_
    refine lv_iload_n hx hb dX6_see_15 rfl (lv_at hl 2 rfl) ?_
    have h4 := hok
    refine R_kept_ld (v := ((M 20) a1.toNatClampNeg)) C h h4 rfl dX6_see_16 ?_
    refine lv_goto (tgt := 26) hx hb dX6_see_17 (by decide) ?_
    exact wh_iret C h (cz hres) dX6_see_26
theorem yw_X6_see {cI : ClassId} {ad : Nat → Nat} : YV (wR cI ad) (ad 0) yX6_see cX6_see 3 (some .int) rmX6_see 1 := ⟨fun M => ⟨0, 6, _, _, rfl, rfl, rfl⟩, in_cX6_see, in_nX6_see, in_vX6_see, in_iX6, by decide +kernel, rfl, rfl⟩
theorem c_X6_see {l : Launch} {D : va_G} {cI : ClassId} {ad : Nat → Nat} (M : Mem) (a1 : Int32) (hok : ok_X6_see M a1) : KI l D [(cI, .int)] (wR cI ad) yX6_see cX6_see 3 rmX6_see [.ref (ad 0), .int a1] M (M, f_X6_see M a1) := met_i (by decide) (Nat.le_of_ble_eq_true rfl) (fun p e s m below meth c A C h ls hl => k_X6_see_0 ⟨Nat.le_refl _, Nat.le_refl _⟩ (Nat.le_refl _) (Nat.le_refl _) C M a1 _ _ ls hok rfl h hl)
abbrev rmX6_put : Room := { frames := 1, cells := 0, slots := 0, locals := 22 }
def f_X6_put (M : Mem) (a1 a2 : Int32) : Mem := (if (f_X6_place M a1) = (-1 : Int32) then (ms (ms (ms M 14 (fun _ => ((M 14 0) + (1 : Int32)))) 26 (upd (M 26) (M 14 0).toNatClampNeg a1)) 27 (upd (M 27) (M 14 0).toNatClampNeg a2)) else (ms M 27 (upd (M 27) (f_X6_place M a1).toNatClampNeg a2)))
def ok_X6_put (M : Mem) (a1 a2 : Int32) : Prop := ok_X6_place M a1 ∧ (if (f_X6_place M a1) = (-1 : Int32) then vp_in (M 14 0) 40 ∧ vp_in (M 14 0) 40 else vp_in (f_X6_place M a1) 40)
set_option maxRecDepth 100000 in
set_option maxHeartbeats 4000000 in
theorem k_X6_put_0 {p : Program} {l : Launch} {e : Env} {s : State} {m : MethodId} {args : Array Value} {below : List Frame} {meth : Method} {c : Code} {D : va_G} {cI : ClassId} {ad : Nat → Nat} {A : Nat → Prop} {cells slots : Nat} {R : Room} (hcs : cells ≤ R.cells ∧ slots ≤ R.slots) (hrf : rmX6_put.frames ≤ R.frames) (hrl : rmX6_put.locals ≤ R.locals) {res : Mem} (C : CX p s m args meth c RX6 cX6_put 4 none) : ∀ (M : Mem) (a1 a2 : Int32) (H : Heap) (locs : List Loc) (ls : Array Slot), ok_X6_put M a1 a2 → f_X6_put M a1 a2 = res → WH D [(cI, .int)] (wR cI ad) A s H locs M → lv_has ls 4 [(0, .ref (ad 0)), (1, .int a1), (2, .int a2)] → W p l e R s m args below meth c H locs cells slots (MQ below (PV D [(cI, .int)] (wR cI ad) A res) args s cells slots A) (F0 m 0 ls []) := by
  have hx := C.1
  have hb := C.2.1
  have hown := C.2.2.2.2.1
  have hts := C.2.2.2.2.2.1
  intro M a1 a2 H locs ls hok hres h hl
  rw [ok_X6_put] at hok
  rw [f_X6_put] at hres
  refine lv_aload_n hx hb dX6_put_0 rfl (lv_at hl 0 rfl) ?_
  refine lv_iload_n hx hb dX6_put_1 rfl (lv_at hl 1 rfl) ?_
  obtain ⟨h6, hok⟩ := hok
  refine wh_cvip (As := [.int a1]) (rest := []) hcs C h (c_X6_place M a1 h6) yw_X6_place in_mX6_87 hl.1 rfl rfl (Nat.le_of_ble_eq_true rfl) ⟨Nat.le_trans (Nat.le_of_ble_eq_true rfl) hrf, Nat.le_trans (Nat.le_of_ble_eq_true rfl) hrl⟩ dX6_put_2 (fun H locs h => ?_)
  refine lv_istore_n (lv' := [(3, .int (f_X6_place M a1)), (0, .ref (ad 0)), (1, .int a1), (2, .int a2)]) hx hb dX6_put_5 rfl hl (by decide) rfl (fun ls hl => ?_)
  refine lv_iload_n hx hb dX6_put_6 rfl (lv_at hl 0 rfl) ?_
  refine lv_iconst (v := (-1 : Int32)) hx hb dX6_put_7 (by decide) ?_
  refine lv_icmp_ne (tgt := 33) hx hb dX6_put_8 (by decide) (fun c2 => ?_) (fun c2 => ?_)
  · have hres := it_n hres c2
    have hok := io_n hok c2
    refine lv_aload_n hx hb dX6_put_33 rfl (lv_at hl 1 rfl) ?_
    refine R_X6_what_get C h in_fX6_41 dX6_put_34 ?_
    refine lv_iload_n hx hb dX6_put_37 rfl (lv_at hl 0 rfl) ?_
    refine lv_iload_n hx hb dX6_put_38 rfl (lv_at hl 3 rfl) ?_
    have h3 := hok
    refine R_what_st (M2 := (ms M 27 (upd (M 27) (f_X6_place M a1).toNatClampNeg a2))) C h h3 rfl dX6_put_39 (fun H locs h => ?_)
    exact wh_vret C h hres dX6_put_40
  · have hres := it_p hres c2
    have hok := io_p hok c2
    refine lv_aload_n hx hb dX6_put_11 rfl (lv_at hl 1 rfl) ?_
    refine R_X6_pending_get (v := (M 14 0)) C h in_fX6_84 rfl dX6_put_12 ?_
    refine lv_istore_n (lv' := [(3, .int (M 14 0)), (0, .ref (ad 0)), (1, .int a1), (2, .int a2)]) hx hb dX6_put_15 rfl hl (by decide) rfl (fun ls hl => ?_)
    refine lv_aload_n hx hb dX6_put_16 rfl (lv_at hl 1 rfl) ?_
    refine lv_dup hx hb dX6_put_17 rfl ?_
    refine R_X6_pending_get (v := (M 14 0)) C h in_fX6_84 rfl dX6_put_18 ?_
    refine lv_iconst (v := (1 : Int32)) hx hb dX6_put_21 (by decide) ?_
    refine lv_iadd hx hb dX6_put_22 ?_
    refine R_X6_pending_put (v := ((M 14 0) + (1 : Int32))) (M2 := (ms M 14 (fun _ => ((M 14 0) + (1 : Int32))))) C h in_fX6_84 rfl dX6_put_23 (fun H locs h => ?_)
    refine lv_aload_n hx hb dX6_put_26 rfl (lv_at hl 1 rfl) ?_
    refine R_X6_where_get C h in_fX6_38 dX6_put_27 ?_
    refine lv_iload_n hx hb dX6_put_30 rfl (lv_at hl 0 rfl) ?_
    refine lv_iload_n hx hb dX6_put_31 rfl (lv_at hl 2 rfl) ?_
    obtain ⟨h5, hok⟩ := hok
    refine R_where_st (M2 := (ms (ms M 14 (fun _ => ((M 14 0) + (1 : Int32)))) 26 (upd (M 26) (M 14 0).toNatClampNeg a1))) C h h5 rfl dX6_put_32 (fun H locs h => ?_)
    refine lv_aload_n hx hb dX6_put_33 rfl (lv_at hl 1 rfl) ?_
    refine R_X6_what_get C h in_fX6_41 dX6_put_34 ?_
    refine lv_iload_n hx hb dX6_put_37 rfl (lv_at hl 0 rfl) ?_
    refine lv_iload_n hx hb dX6_put_38 rfl (lv_at hl 3 rfl) ?_
    have h4 := hok
    refine R_what_st (M2 := (ms (ms (ms M 14 (fun _ => ((M 14 0) + (1 : Int32)))) 26 (upd (M 26) (M 14 0).toNatClampNeg a1)) 27 (upd (M 27) (M 14 0).toNatClampNeg a2))) C h h4 rfl dX6_put_39 (fun H locs h => ?_)
    exact wh_vret C h hres dX6_put_40
theorem yw_X6_put {cI : ClassId} {ad : Nat → Nat} : YV (wR cI ad) (ad 0) yX6_put cX6_put 4 none rmX6_put 2 := ⟨fun M => ⟨0, 6, _, _, rfl, rfl, rfl⟩, in_cX6_put, in_nX6_put, in_vX6_put, in_iX6, by decide +kernel, rfl, rfl⟩
theorem c_X6_put {l : Launch} {D : va_G} {cI : ClassId} {ad : Nat → Nat} (M : Mem) (a1 a2 : Int32) (hok : ok_X6_put M a1 a2) : KV l D [(cI, .int)] (wR cI ad) yX6_put cX6_put 4 rmX6_put [.ref (ad 0), .int a1, .int a2] M (f_X6_put M a1 a2) := met_v (by decide) (Nat.le_of_ble_eq_true rfl) (fun p e s m below meth c A C h ls hl => k_X6_put_0 ⟨Nat.le_refl _, Nat.le_refl _⟩ (Nat.le_refl _) (Nat.le_refl _) C M a1 a2 _ _ ls hok rfl h hl)
abbrev rmX6_hasRoom : Room := { frames := 1, cells := 0, slots := 0, locals := 22 }
def f_X6_hasRoom_32 (M : Mem) (x3 : Int32) : Int32 := (if (38 : Int32) < ((M 14 0) + x3) then (0 : Int32) else (1 : Int32))
def f_X6_hasRoom_14 (M : Mem) (x1 x2 t0 : Int32) : Int32 := (if x2 = x1 then (f_X6_hasRoom_32 M t0) else (if (f_X6_place M x2) = (-1 : Int32) then (f_X6_hasRoom_32 M (t0 + (1 : Int32))) else (f_X6_hasRoom_32 M t0)))
def ok_X6_hasRoom_14 (M : Mem) (x1 x2 t0 : Int32) : Prop := (if x2 = x1 then True else ok_X6_place M x2)
def f_X6_hasRoom (M : Mem) (a1 a2 : Int32) : Int32 := (if (f_X6_place M a1) = (-1 : Int32) then (f_X6_hasRoom_14 M a1 a2 (1 : Int32)) else (f_X6_hasRoom_14 M a1 a2 (0 : Int32)))
def ok_X6_hasRoom (M : Mem) (a1 a2 : Int32) : Prop := ok_X6_place M a1 ∧ (if (f_X6_place M a1) = (-1 : Int32) then ok_X6_hasRoom_14 M a1 a2 (1 : Int32) else ok_X6_hasRoom_14 M a1 a2 (0 : Int32))
set_option maxRecDepth 100000 in
set_option maxHeartbeats 4000000 in
theorem k_X6_hasRoom_32 {p : Program} {l : Launch} {e : Env} {s : State} {m : MethodId} {args : Array Value} {below : List Frame} {meth : Method} {c : Code} {D : va_G} {cI : ClassId} {ad : Nat → Nat} {A : Nat → Prop} {cells slots : Nat} {R : Room} (hcs : cells ≤ R.cells ∧ slots ≤ R.slots) (hrf : rmX6_hasRoom.frames ≤ R.frames) (hrl : rmX6_hasRoom.locals ≤ R.locals) {r0 : Int32} (C : CX p s m args meth c RX6 cX6_hasRoom 4 (some .boolean)) : ∀ (M : Mem) (x3 : Int32) (H : Heap) (locs : List Loc) (ls : Array Slot), f_X6_hasRoom_32 M x3 = r0 → WH D [(cI, .int)] (wR cI ad) A s H locs M → lv_has ls 4 [(0, .ref (ad 0)), (3, .int x3)] → W p l e R s m args below meth c H locs cells slots (MQ below (PZ D [(cI, .int)] (wR cI ad) A (M, r0)) args s cells slots A) (F0 m 32 ls []) := by
  have hx := C.1
  have hb := C.2.1
  have hown := C.2.2.2.2.1
  have hts := C.2.2.2.2.2.1
  intro M x3 H locs ls hres h hl
  rw [f_X6_hasRoom_32] at hres
  refine lv_aload_n hx hb dX6_hasRoom_32 rfl (lv_at hl 0 rfl) ?_
  refine R_X6_pending_get (v := (M 14 0)) C h in_fX6_84 rfl dX6_hasRoom_33 ?_
  refine lv_iload_n hx hb dX6_hasRoom_36 rfl (lv_at hl 1 rfl) ?_
  refine lv_iadd hx hb dX6_hasRoom_37 ?_
  refine lv_bipush (v := (38 : Int32)) hx hb dX6_hasRoom_38 (by decide) ?_
  refine lv_icmp_gt (tgt := 47) hx hb dX6_hasRoom_40 (by decide) (fun c4 => ?_) (fun c4 => ?_)
  · have hres := it_p hres c4
    refine lv_iconst (v := (0 : Int32)) hx hb dX6_hasRoom_47 (by decide) ?_
    exact wh_zret C h nb_0 (cz hres) dX6_hasRoom_48
  · have hres := it_n hres c4
    refine lv_iconst (v := (1 : Int32)) hx hb dX6_hasRoom_43 (by decide) ?_
    refine lv_goto (tgt := 48) hx hb dX6_hasRoom_44 (by decide) ?_
    exact wh_zret C h nb_1 (cz hres) dX6_hasRoom_48
set_option maxRecDepth 100000 in
set_option maxHeartbeats 4000000 in
theorem k_X6_hasRoom_14 {p : Program} {l : Launch} {e : Env} {s : State} {m : MethodId} {args : Array Value} {below : List Frame} {meth : Method} {c : Code} {D : va_G} {cI : ClassId} {ad : Nat → Nat} {A : Nat → Prop} {cells slots : Nat} {R : Room} (hcs : cells ≤ R.cells ∧ slots ≤ R.slots) (hrf : rmX6_hasRoom.frames ≤ R.frames) (hrl : rmX6_hasRoom.locals ≤ R.locals) {r0 : Int32} (C : CX p s m args meth c RX6 cX6_hasRoom 4 (some .boolean)) : ∀ (M : Mem) (x1 x2 t0 : Int32) (H : Heap) (locs : List Loc) (ls : Array Slot), ok_X6_hasRoom_14 M x1 x2 t0 → f_X6_hasRoom_14 M x1 x2 t0 = r0 → WH D [(cI, .int)] (wR cI ad) A s H locs M → lv_has ls 4 [(0, .ref (ad 0)), (1, .int x1), (2, .int x2)] → W p l e R s m args below meth c H locs cells slots (MQ below (PZ D [(cI, .int)] (wR cI ad) A (M, r0)) args s cells slots A) (F0 m 14 ls [.int t0]) := by
  have hx := C.1
  have hb := C.2.1
  have hown := C.2.2.2.2.1
  have hts := C.2.2.2.2.2.1
  intro M x1 x2 t0 H locs ls hok hres h hl
  rw [ok_X6_hasRoom_14] at hok
  rw [f_X6_hasRoom_14] at hres
  refine lv_istore_n (lv' := [(3, .int t0), (0, .ref (ad 0)), (1, .int x1), (2, .int x2)]) hx hb dX6_hasRoom_14 rfl hl (by decide) rfl (fun ls hl => ?_)
  refine lv_iload_n hx hb dX6_hasRoom_15 rfl (lv_at hl 3 rfl) ?_
  refine lv_iload_n hx hb dX6_hasRoom_16 rfl (lv_at hl 2 rfl) ?_
  refine lv_icmp_eq (tgt := 32) hx hb dX6_hasRoom_17 (by decide) (fun c3 => ?_) (fun c3 => ?_)
  · have hres := it_p hres c3
    exact k_X6_hasRoom_32 hcs hrf hrl C M t0 _ _ _  hres h (lv_sub hl [1, 0] rfl)
  · have hres := it_n hres c3
    have hok := io_n hok c3
    refine lv_aload_n hx hb dX6_hasRoom_20 rfl (lv_at hl 1 rfl) ?_
    refine lv_iload_n hx hb dX6_hasRoom_21 rfl (lv_at hl 3 rfl) ?_
    have h7 := hok
    refine wh_cvip (As := [.int x2]) (rest := []) hcs C h (c_X6_place M x2 h7) yw_X6_place in_mX6_87 hl.1 rfl rfl (Nat.le_of_ble_eq_true rfl) ⟨Nat.le_trans (Nat.le_of_ble_eq_true rfl) hrf, Nat.le_trans (Nat.le_of_ble_eq_true rfl) hrl⟩ dX6_hasRoom_22 (fun H locs h => ?_)
    refine lv_iconst (v := (-1 : Int32)) hx hb dX6_hasRoom_25 (by decide) ?_
    refine lv_icmp_ne (tgt := 32) hx hb dX6_hasRoom_26 (by decide) (fun c6 => ?_) (fun c6 => ?_)
    · have hres := it_n hres c6
      exact k_X6_hasRoom_32 hcs hrf hrl C M t0 _ _ _  hres h (lv_sub hl [1, 0] rfl)
    · have hres := it_p hres c6
      refine lv_iinc (v := (t0 + (1 : Int32))) (lv' := [(3, .int (t0 + (1 : Int32))), (0, .ref (ad 0)), (1, .int x1), (2, .int x2)]) hx hb dX6_hasRoom_29 hl (k := 0) rfl rfl (by decide) rfl (fun ls hl => ?_)
      exact k_X6_hasRoom_32 hcs hrf hrl C M (t0 + (1 : Int32)) _ _ _  hres h (lv_sub hl [1, 0] rfl)
set_option maxRecDepth 100000 in
set_option maxHeartbeats 4000000 in
theorem k_X6_hasRoom_0 {p : Program} {l : Launch} {e : Env} {s : State} {m : MethodId} {args : Array Value} {below : List Frame} {meth : Method} {c : Code} {D : va_G} {cI : ClassId} {ad : Nat → Nat} {A : Nat → Prop} {cells slots : Nat} {R : Room} (hcs : cells ≤ R.cells ∧ slots ≤ R.slots) (hrf : rmX6_hasRoom.frames ≤ R.frames) (hrl : rmX6_hasRoom.locals ≤ R.locals) {r0 : Int32} (C : CX p s m args meth c RX6 cX6_hasRoom 4 (some .boolean)) : ∀ (M : Mem) (a1 a2 : Int32) (H : Heap) (locs : List Loc) (ls : Array Slot), ok_X6_hasRoom M a1 a2 → f_X6_hasRoom M a1 a2 = r0 → WH D [(cI, .int)] (wR cI ad) A s H locs M → lv_has ls 4 [(0, .ref (ad 0)), (1, .int a1), (2, .int a2)] → W p l e R s m args below meth c H locs cells slots (MQ below (PZ D [(cI, .int)] (wR cI ad) A (M, r0)) args s cells slots A) (F0 m 0 ls []) := by
  have hx := C.1
  have hb := C.2.1
  have hown := C.2.2.2.2.1
  have hts := C.2.2.2.2.2.1
  intro M a1 a2 H locs ls hok hres h hl
  rw [ok_X6_hasRoom] at hok
  rw [f_X6_hasRoom] at hres
  refine lv_aload_n hx hb dX6_hasRoom_0 rfl (lv_at hl 0 rfl) ?_
  refine lv_iload_n hx hb dX6_hasRoom_1 rfl (lv_at hl 1 rfl) ?_
  obtain ⟨h8, hok⟩ := hok
  refine wh_cvip (As := [.int a1]) (rest := []) hcs C h (c_X6_place M a1 h8) yw_X6_place in_mX6_87 hl.1 rfl rfl (Nat.le_of_ble_eq_true rfl) ⟨Nat.le_trans (Nat.le_of_ble_eq_true rfl) hrf, Nat.le_trans (Nat.le_of_ble_eq_true rfl) hrl⟩ dX6_hasRoom_2 (fun H locs h => ?_)
  refine lv_iconst (v := (-1 : Int32)) hx hb dX6_hasRoom_5 (by decide) ?_
  refine lv_icmp_ne (tgt := 13) hx hb dX6_hasRoom_6 (by decide) (fun c2 => ?_) (fun c2 => ?_)
  · have hres := it_n hres c2
    have hok := io_n hok c2
    refine lv_iconst (v := (0 : Int32)) hx hb dX6_hasRoom_13 (by decide) ?_
    exact k_X6_hasRoom_14 hcs hrf hrl C M a1 a2 (0 : Int32) _ _ _ hok hres h (lv_sub hl [0, 1, 2] rfl)
  · have hres := it_p hres c2
    have hok := io_p hok c2
    refine lv_iconst (v := (1 : Int32)) hx hb dX6_hasRoom_9 (by decide) ?_
    refine lv_goto (tgt := 14) hx hb dX6_hasRoom_10 (by decide) ?_
    exact k_X6_hasRoom_14 hcs hrf hrl C M a1 a2 (1 : Int32) _ _ _ hok hres h (lv_sub hl [0, 1, 2] rfl)
theorem yw_X6_hasRoom {cI : ClassId} {ad : Nat → Nat} : YV (wR cI ad) (ad 0) yX6_hasRoom cX6_hasRoom 4 (some .boolean) rmX6_hasRoom 2 := ⟨fun M => ⟨0, 6, _, _, rfl, rfl, rfl⟩, in_cX6_hasRoom, in_nX6_hasRoom, in_vX6_hasRoom, in_iX6, by decide +kernel, rfl, rfl⟩
theorem c_X6_hasRoom {l : Launch} {D : va_G} {cI : ClassId} {ad : Nat → Nat} (M : Mem) (a1 a2 : Int32) (hok : ok_X6_hasRoom M a1 a2) : KZ l D [(cI, .int)] (wR cI ad) yX6_hasRoom cX6_hasRoom 4 rmX6_hasRoom [.ref (ad 0), .int a1, .int a2] M (M, f_X6_hasRoom M a1 a2) := met_z (by decide) (Nat.le_of_ble_eq_true rfl) (fun p e s m below meth c A C h ls hl => k_X6_hasRoom_0 ⟨Nat.le_refl _, Nat.le_refl _⟩ (Nat.le_refl _) (Nat.le_refl _) C M a1 a2 _ _ ls hok rfl h hl)
abbrev rmX6_endAttempt : Room := { frames := 0, cells := 0, slots := 0, locals := 0 }
def f_X6_endAttempt_2 : Nat → Mem → Int32 → Mem
  | 0, M, _ => M
  | n + 1, M, x1 => (if (8 : Int32) ≤ x1 then (ms (ms (ms (ms (ms M 11 (fun _ => (0 : Int32))) 12 (fun _ => (0 : Int32))) 13 (fun _ => (-1 : Int32))) 14 (fun _ => (0 : Int32))) 15 (fun _ => (0 : Int32))) else (f_X6_endAttempt_2 n (ms M 25 (upd (M 25) x1.toNatClampNeg (0 : Int32))) (x1 + (1 : Int32))))
def ok_X6_endAttempt_2 : Nat → Mem → Int32 → Prop
  | 0, _, _ => False
  | n + 1, M, x1 => (if (8 : Int32) ≤ x1 then True else vp_in x1 8 ∧ ok_X6_endAttempt_2 n (ms M 25 (upd (M 25) x1.toNatClampNeg (0 : Int32))) (x1 + (1 : Int32)))
def f_X6_endAttempt (M : Mem) : Mem := (f_X6_endAttempt_2 9 M (0 : Int32))
def ok_X6_endAttempt (M : Mem) : Prop := ok_X6_endAttempt_2 9 M (0 : Int32)
set_option maxRecDepth 100000 in
set_option maxHeartbeats 4000000 in
theorem k_X6_endAttempt_2 {p : Program} {l : Launch} {e : Env} {s : State} {m : MethodId} {args : Array Value} {below : List Frame} {meth : Method} {c : Code} {D : va_G} {cI : ClassId} {ad : Nat → Nat} {A : Nat → Prop} {cells slots : Nat} {R : Room} (hcs : cells ≤ R.cells ∧ slots ≤ R.slots) (hrf : rmX6_endAttempt.frames ≤ R.frames) (hrl : rmX6_endAttempt.locals ≤ R.locals) {res : Mem} (C : CX p s m args meth c RX6 cX6_endAttempt 2 none) : ∀ (n : Nat) (M : Mem) (x1 : Int32) (H : Heap) (locs : List Loc) (ls : Array Slot), ok_X6_endAttempt_2 n M x1 → f_X6_endAttempt_2 n M x1 = res → WH D [(cI, .int)] (wR cI ad) A s H locs M → lv_has ls 2 [(0, .ref (ad 0)), (1, .int x1)] → W p l e R s m args below meth c H locs cells slots (MQ below (PV D [(cI, .int)] (wR cI ad) A res) args s cells slots A) (F0 m 2 ls []) := by
  have hx := C.1
  have hb := C.2.1
  have hown := C.2.2.2.2.1
  have hts := C.2.2.2.2.2.1
  intro n
  induction n with
  | zero =>
    intro M x1 H locs ls hok
    exact absurd hok (by intro z; exact z)
  | succ n ih =>
    intro M x1 H locs ls hok hres h hl
    rw [ok_X6_endAttempt_2] at hok
    rw [f_X6_endAttempt_2] at hres
    refine lv_iload_n hx hb dX6_endAttempt_2 rfl (lv_at hl 1 rfl) ?_
    refine lv_bipush (v := (8 : Int32)) hx hb dX6_endAttempt_3 (by decide) ?_
    refine lv_icmp_ge (tgt := 21) hx hb dX6_endAttempt_5 (by decide) (fun c1 => ?_) (fun c1 => ?_)
    · have hres := it_p hres c1
      refine lv_aload_n hx hb dX6_endAttempt_21 rfl (lv_at hl 0 rfl) ?_
      refine lv_iconst (v := (0 : Int32)) hx hb dX6_endAttempt_22 (by decide) ?_
      refine R_X6_next_put (v := (0 : Int32)) (M2 := (ms M 11 (fun _ => (0 : Int32)))) C h in_fX6_102 rfl dX6_endAttempt_23 (fun H locs h => ?_)
      refine lv_aload_n hx hb dX6_endAttempt_26 rfl (lv_at hl 0 rfl) ?_
      refine lv_iconst (v := (0 : Int32)) hx hb dX6_endAttempt_27 (by decide) ?_
      refine R_X6_spent_put (v := (0 : Int32)) (M2 := (ms (ms M 11 (fun _ => (0 : Int32))) 12 (fun _ => (0 : Int32)))) C h in_fX6_96 rfl dX6_endAttempt_28 (fun H locs h => ?_)
      refine lv_aload_n hx hb dX6_endAttempt_31 rfl (lv_at hl 0 rfl) ?_
      refine lv_iconst (v := (-1 : Int32)) hx hb dX6_endAttempt_32 (by decide) ?_
      refine R_X6_bound_put (v := (-1 : Int32)) (M2 := (ms (ms (ms M 11 (fun _ => (0 : Int32))) 12 (fun _ => (0 : Int32))) 13 (fun _ => (-1 : Int32)))) C h in_fX6_105 rfl dX6_endAttempt_33 (fun H locs h => ?_)
      refine lv_aload_n hx hb dX6_endAttempt_36 rfl (lv_at hl 0 rfl) ?_
      refine lv_iconst (v := (0 : Int32)) hx hb dX6_endAttempt_37 (by decide) ?_
      refine R_X6_pending_put (v := (0 : Int32)) (M2 := (ms (ms (ms (ms M 11 (fun _ => (0 : Int32))) 12 (fun _ => (0 : Int32))) 13 (fun _ => (-1 : Int32))) 14 (fun _ => (0 : Int32)))) C h in_fX6_84 rfl dX6_endAttempt_38 (fun H locs h => ?_)
      refine lv_aload_n hx hb dX6_endAttempt_41 rfl (lv_at hl 0 rfl) ?_
      refine lv_iconst (v := (0 : Int32)) hx hb dX6_endAttempt_42 (by decide) ?_
      refine R_X6_commitStep_put (v := (0 : Int32)) (M2 := (ms (ms (ms (ms (ms M 11 (fun _ => (0 : Int32))) 12 (fun _ => (0 : Int32))) 13 (fun _ => (-1 : Int32))) 14 (fun _ => (0 : Int32))) 15 (fun _ => (0 : Int32)))) C h in_fX6_108 rfl dX6_endAttempt_43 (fun H locs h => ?_)
      exact wh_vret C h hres dX6_endAttempt_46
    · have hres := it_n hres c1
      have hok := io_n hok c1
      refine lv_aload_n hx hb dX6_endAttempt_8 rfl (lv_at hl 0 rfl) ?_
      refine R_X6_register_get C h in_fX6_35 dX6_endAttempt_9 ?_
      refine lv_iload_n hx hb dX6_endAttempt_12 rfl (lv_at hl 1 rfl) ?_
      refine lv_iconst (v := (0 : Int32)) hx hb dX6_endAttempt_13 (by decide) ?_
      obtain ⟨h2, hok⟩ := hok
      refine R_register_st (M2 := (ms M 25 (upd (M 25) x1.toNatClampNeg (0 : Int32)))) C h h2 rfl dX6_endAttempt_14 (fun H locs h => ?_)
      refine lv_iinc (v := (x1 + (1 : Int32))) (lv' := [(1, .int (x1 + (1 : Int32))), (0, .ref (ad 0))]) hx hb dX6_endAttempt_15 hl (k := 1) rfl rfl (by decide) rfl (fun ls hl => ?_)
      refine lv_goto (tgt := 2) hx hb dX6_endAttempt_18 (by decide) ?_
      exact ih (ms M 25 (upd (M 25) x1.toNatClampNeg (0 : Int32))) (x1 + (1 : Int32)) _ _ _ hok hres h (lv_sub hl [1, 0] rfl)
set_option maxRecDepth 100000 in
set_option maxHeartbeats 4000000 in
theorem k_X6_endAttempt_0 {p : Program} {l : Launch} {e : Env} {s : State} {m : MethodId} {args : Array Value} {below : List Frame} {meth : Method} {c : Code} {D : va_G} {cI : ClassId} {ad : Nat → Nat} {A : Nat → Prop} {cells slots : Nat} {R : Room} (hcs : cells ≤ R.cells ∧ slots ≤ R.slots) (hrf : rmX6_endAttempt.frames ≤ R.frames) (hrl : rmX6_endAttempt.locals ≤ R.locals) {res : Mem} (C : CX p s m args meth c RX6 cX6_endAttempt 2 none) : ∀ (M : Mem) (H : Heap) (locs : List Loc) (ls : Array Slot), ok_X6_endAttempt M → f_X6_endAttempt M = res → WH D [(cI, .int)] (wR cI ad) A s H locs M → lv_has ls 2 [(0, .ref (ad 0))] → W p l e R s m args below meth c H locs cells slots (MQ below (PV D [(cI, .int)] (wR cI ad) A res) args s cells slots A) (F0 m 0 ls []) := by
  have hx := C.1
  have hb := C.2.1
  have hown := C.2.2.2.2.1
  have hts := C.2.2.2.2.2.1
  intro M H locs ls hok hres h hl
  rw [ok_X6_endAttempt] at hok
  rw [f_X6_endAttempt] at hres
  refine lv_iconst (v := (0 : Int32)) hx hb dX6_endAttempt_0 (by decide) ?_
  refine lv_istore_n (lv' := [(1, .int (0 : Int32)), (0, .ref (ad 0))]) hx hb dX6_endAttempt_1 rfl hl (by decide) rfl (fun ls hl => ?_)
  exact k_X6_endAttempt_2 hcs hrf hrl C 9 M (0 : Int32) _ _ _ hok hres h (lv_sub hl [1, 0] rfl)
theorem yw_X6_endAttempt {cI : ClassId} {ad : Nat → Nat} : YV (wR cI ad) (ad 0) yX6_endAttempt cX6_endAttempt 2 none rmX6_endAttempt 0 := ⟨fun M => ⟨0, 6, _, _, rfl, rfl, rfl⟩, in_cX6_endAttempt, in_nX6_endAttempt, in_vX6_endAttempt, in_iX6, by decide +kernel, rfl, rfl⟩
theorem c_X6_endAttempt {l : Launch} {D : va_G} {cI : ClassId} {ad : Nat → Nat} (M : Mem) (hok : ok_X6_endAttempt M) : KV l D [(cI, .int)] (wR cI ad) yX6_endAttempt cX6_endAttempt 2 rmX6_endAttempt [.ref (ad 0)] M (f_X6_endAttempt M) := met_v (by decide) (Nat.le_of_ble_eq_true rfl) (fun p e s m below meth c A C h ls hl => k_X6_endAttempt_0 ⟨Nat.le_refl _, Nat.le_refl _⟩ (Nat.le_refl _) (Nat.le_refl _) C M _ _ ls hok rfl h hl)
abbrev rmX6_fail : Room := { frames := 1, cells := 0, slots := 0, locals := 21 }
def f_X6_fail_102 (M : Mem) (x1 t0 t1 : Int32) : Mem := (if ((M 24) x1.toNatClampNeg) = (12 : Int32) then (bv (f_X6_endAttempt (ms (ms (ms M 23 (upd (M 23) t1.toNatClampNeg t0)) 5 (fun _ => x1)) 4 (fun _ => (0 : Int32)))) (fun M7 => M7)) else (bv (f_X6_endAttempt (ms (ms M 23 (upd (M 23) t1.toNatClampNeg t0)) 4 (fun _ => (0 : Int32)))) (fun M5 => M5)))
def ok_X6_fail_102 (M : Mem) (x1 t0 t1 : Int32) : Prop := vp_in t1 16 ∧ vp_in x1 16 ∧ (if ((M 24) x1.toNatClampNeg) = (12 : Int32) then ok_X6_endAttempt (ms (ms (ms M 23 (upd (M 23) t1.toNatClampNeg t0)) 5 (fun _ => x1)) 4 (fun _ => (0 : Int32))) else ok_X6_endAttempt (ms (ms M 23 (upd (M 23) t1.toNatClampNeg t0)) 4 (fun _ => (0 : Int32))))
def f_X6_fail_78 (M : Mem) (x1 t0 : Int32) : Mem := (if ((2 : Int32) * t0) ≤ (1940 : Int32) then (f_X6_fail_102 M x1 ((2 : Int32) * t0) x1) else (f_X6_fail_102 M x1 (1940 : Int32) x1))
def ok_X6_fail_78 (M : Mem) (x1 t0 : Int32) : Prop := (if ((2 : Int32) * t0) ≤ (1940 : Int32) then ok_X6_fail_102 M x1 ((2 : Int32) * t0) x1 else ok_X6_fail_102 M x1 (1940 : Int32) x1)
def f_X6_fail_35 (M : Mem) : Mem := (if ((M 23) ((M 20) 0).toNatClampNeg) ≤ (M 12 0) then (f_X6_fail_78 (ms M 24 (upd (M 24) ((M 20) 0).toNatClampNeg (((M 24) ((M 20) 0).toNatClampNeg) + (1 : Int32)))) ((M 20) 0) (M 12 0)) else (f_X6_fail_78 (ms M 24 (upd (M 24) ((M 20) 0).toNatClampNeg (((M 24) ((M 20) 0).toNatClampNeg) + (1 : Int32)))) ((M 20) 0) ((M 23) ((M 20) 0).toNatClampNeg)))
def ok_X6_fail_35 (M : Mem) : Prop := vp_in ((M 20) 0) 16 ∧ vp_in ((M 20) 0) 16 ∧ vp_in ((M 20) 0) 16 ∧ (if ((M 23) ((M 20) 0).toNatClampNeg) ≤ (M 12 0) then ok_X6_fail_78 (ms M 24 (upd (M 24) ((M 20) 0).toNatClampNeg (((M 24) ((M 20) 0).toNatClampNeg) + (1 : Int32)))) ((M 20) 0) (M 12 0) else vp_in ((M 20) 0) 16 ∧ ok_X6_fail_78 (ms M 24 (upd (M 24) ((M 20) 0).toNatClampNeg (((M 24) ((M 20) 0).toNatClampNeg) + (1 : Int32)))) ((M 20) 0) ((M 23) ((M 20) 0).toNatClampNeg))
def f_X6_fail (M : Mem) : Mem := (if (M 4 0) = (3 : Int32) then (f_X6_fail_35 (ms M 6 (fun _ => ((M 6 0) + (1 : Int32))))) else (if (M 4 0) = (4 : Int32) then (if ((M 20) 2) = 0 then (f_X6_fail_35 (ms M 6 (fun _ => ((M 6 0) + (1 : Int32))))) else (bv (f_X6_endAttempt (ms (ms M 6 (fun _ => ((M 6 0) + (1 : Int32)))) 4 (fun _ => (0 : Int32)))) (fun M19 => M19))) else (bv (f_X6_endAttempt (ms (ms M 6 (fun _ => ((M 6 0) + (1 : Int32)))) 4 (fun _ => (0 : Int32)))) (fun M16 => M16))))
def ok_X6_fail (M : Mem) : Prop := (if (M 4 0) = (3 : Int32) then ok_X6_fail_35 (ms M 6 (fun _ => ((M 6 0) + (1 : Int32)))) else (if (M 4 0) = (4 : Int32) then (if ((M 20) 2) = 0 then ok_X6_fail_35 (ms M 6 (fun _ => ((M 6 0) + (1 : Int32)))) else ok_X6_endAttempt (ms (ms M 6 (fun _ => ((M 6 0) + (1 : Int32)))) 4 (fun _ => (0 : Int32)))) else ok_X6_endAttempt (ms (ms M 6 (fun _ => ((M 6 0) + (1 : Int32)))) 4 (fun _ => (0 : Int32)))))
set_option maxRecDepth 100000 in
set_option maxHeartbeats 4000000 in
theorem k_X6_fail_102 {p : Program} {l : Launch} {e : Env} {s : State} {m : MethodId} {args : Array Value} {below : List Frame} {meth : Method} {c : Code} {D : va_G} {cI : ClassId} {ad : Nat → Nat} {A : Nat → Prop} {cells slots : Nat} {R : Room} (hcs : cells ≤ R.cells ∧ slots ≤ R.slots) (hrf : rmX6_fail.frames ≤ R.frames) (hrl : rmX6_fail.locals ≤ R.locals) {res : Mem} (C : CX p s m args meth c RX6 cX6_fail 3 none) : ∀ (M : Mem) (x1 t0 t1 : Int32) (H : Heap) (locs : List Loc) (ls : Array Slot), ok_X6_fail_102 M x1 t0 t1 → f_X6_fail_102 M x1 t0 t1 = res → WH D [(cI, .int)] (wR cI ad) A s H locs M → lv_has ls 3 [(0, .ref (ad 0)), (1, .int x1)] → W p l e R s m args below meth c H locs cells slots (MQ below (PV D [(cI, .int)] (wR cI ad) A res) args s cells slots A) (F0 m 102 ls [.int t0, .int t1, .ref (ad 6)]) := by
  have hx := C.1
  have hb := C.2.1
  have hown := C.2.2.2.2.1
  have hts := C.2.2.2.2.2.1
  intro M x1 t0 t1 H locs ls hok hres h hl
  rw [ok_X6_fail_102] at hok
  rw [f_X6_fail_102] at hres
  obtain ⟨h10, hok⟩ := hok
  refine R_estimate_st (M2 := (ms M 23 (upd (M 23) t1.toNatClampNeg t0))) C h h10 rfl dX6_fail_102 (fun H locs h => ?_)
  refine lv_aload_n hx hb dX6_fail_103 rfl (lv_at hl 0 rfl) ?_
  refine R_X6_failures_get C h in_fX6_28 dX6_fail_104 ?_
  refine lv_iload_n hx hb dX6_fail_107 rfl (lv_at hl 1 rfl) ?_
  obtain ⟨h9, hok⟩ := hok
  refine R_failures_ld (v := ((M 24) x1.toNatClampNeg)) C h h9 rfl dX6_fail_108 ?_
  refine lv_bipush (v := (12 : Int32)) hx hb dX6_fail_109 (by decide) ?_
  refine lv_icmp_ne (tgt := 119) hx hb dX6_fail_111 (by decide) (fun c4 => ?_) (fun c4 => ?_)
  · have hres := it_n hres c4
    have hok := io_n hok c4
    refine lv_aload_n hx hb dX6_fail_119 rfl (lv_at hl 0 rfl) ?_
    refine lv_iconst (v := (0 : Int32)) hx hb dX6_fail_120 (by decide) ?_
    refine R_X6_phase_put (v := (0 : Int32)) (M2 := (ms (ms M 23 (upd (M 23) t1.toNatClampNeg t0)) 4 (fun _ => (0 : Int32)))) C h in_fX6_93 rfl dX6_fail_121 (fun H locs h => ?_)
    refine lv_aload_n hx hb dX6_fail_124 rfl (lv_at hl 0 rfl) ?_
    have h6 := hok
    refine wh_cvv (As := []) (rest := []) hcs C h (c_X6_endAttempt (ms (ms M 23 (upd (M 23) t1.toNatClampNeg t0)) 4 (fun _ => (0 : Int32))) h6) yw_X6_endAttempt in_mX6_99 hl.1 rfl rfl (Nat.le_of_ble_eq_true rfl) ⟨Nat.le_trans (Nat.le_of_ble_eq_true rfl) hrf, Nat.le_trans (Nat.le_of_ble_eq_true rfl) hrl⟩ dX6_fail_125 (fun M5 H locs e5 h => ?_)
    rw [e5] at hres
    have hres := bv_e hres
    exact wh_vret C h hres dX6_fail_128
  · have hres := it_p hres c4
    have hok := io_p hok c4
    refine lv_aload_n hx hb dX6_fail_114 rfl (lv_at hl 0 rfl) ?_
    refine lv_iload_n hx hb dX6_fail_115 rfl (lv_at hl 1 rfl) ?_
    refine R_X6_givenUp_put (v := x1) (M2 := (ms (ms M 23 (upd (M 23) t1.toNatClampNeg t0)) 5 (fun _ => x1))) C h in_fX6_31 rfl dX6_fail_116 (fun H locs h => ?_)
    refine lv_aload_n hx hb dX6_fail_119 rfl (lv_at hl 0 rfl) ?_
    refine lv_iconst (v := (0 : Int32)) hx hb dX6_fail_120 (by decide) ?_
    refine R_X6_phase_put (v := (0 : Int32)) (M2 := (ms (ms (ms M 23 (upd (M 23) t1.toNatClampNeg t0)) 5 (fun _ => x1)) 4 (fun _ => (0 : Int32)))) C h in_fX6_93 rfl dX6_fail_121 (fun H locs h => ?_)
    refine lv_aload_n hx hb dX6_fail_124 rfl (lv_at hl 0 rfl) ?_
    have h8 := hok
    refine wh_cvv (As := []) (rest := []) hcs C h (c_X6_endAttempt (ms (ms (ms M 23 (upd (M 23) t1.toNatClampNeg t0)) 5 (fun _ => x1)) 4 (fun _ => (0 : Int32))) h8) yw_X6_endAttempt in_mX6_99 hl.1 rfl rfl (Nat.le_of_ble_eq_true rfl) ⟨Nat.le_trans (Nat.le_of_ble_eq_true rfl) hrf, Nat.le_trans (Nat.le_of_ble_eq_true rfl) hrl⟩ dX6_fail_125 (fun M7 H locs e7 h => ?_)
    rw [e7] at hres
    have hres := bv_e hres
    exact wh_vret C h hres dX6_fail_128
set_option maxRecDepth 100000 in
set_option maxHeartbeats 4000000 in
theorem k_X6_fail_78 {p : Program} {l : Launch} {e : Env} {s : State} {m : MethodId} {args : Array Value} {below : List Frame} {meth : Method} {c : Code} {D : va_G} {cI : ClassId} {ad : Nat → Nat} {A : Nat → Prop} {cells slots : Nat} {R : Room} (hcs : cells ≤ R.cells ∧ slots ≤ R.slots) (hrf : rmX6_fail.frames ≤ R.frames) (hrl : rmX6_fail.locals ≤ R.locals) {res : Mem} (C : CX p s m args meth c RX6 cX6_fail 3 none) : ∀ (M : Mem) (x1 t0 : Int32) (H : Heap) (locs : List Loc) (ls : Array Slot), ok_X6_fail_78 M x1 t0 → f_X6_fail_78 M x1 t0 = res → WH D [(cI, .int)] (wR cI ad) A s H locs M → lv_has ls 3 [(0, .ref (ad 0)), (1, .int x1)] → W p l e R s m args below meth c H locs cells slots (MQ below (PV D [(cI, .int)] (wR cI ad) A res) args s cells slots A) (F0 m 78 ls [.int t0]) := by
  have hx := C.1
  have hb := C.2.1
  have hown := C.2.2.2.2.1
  have hts := C.2.2.2.2.2.1
  intro M x1 t0 H locs ls hok hres h hl
  rw [ok_X6_fail_78] at hok
  rw [f_X6_fail_78] at hres
  refine lv_istore_n (lv' := [(2, .int t0), (0, .ref (ad 0)), (1, .int x1)]) hx hb dX6_fail_78 rfl hl (by decide) rfl (fun ls hl => ?_)
  refine lv_aload_n hx hb dX6_fail_79 rfl (lv_at hl 1 rfl) ?_
  refine R_X6_estimate_get C h in_fX6_25 dX6_fail_80 ?_
  refine lv_iload_n hx hb dX6_fail_83 rfl (lv_at hl 2 rfl) ?_
  refine lv_iconst (v := (2 : Int32)) hx hb dX6_fail_84 (by decide) ?_
  refine lv_iload_n hx hb dX6_fail_85 rfl (lv_at hl 0 rfl) ?_
  refine lv_imul hx hb dX6_fail_86 ?_
  refine lv_sipush (v := (1940 : Int32)) hx hb dX6_fail_87 (by decide) ?_
  refine lv_icmp_le (tgt := 99) hx hb dX6_fail_90 (by decide) (fun c3 => ?_) (fun c3 => ?_)
  · have hres := it_p hres c3
    have hok := io_p hok c3
    refine lv_iconst (v := (2 : Int32)) hx hb dX6_fail_99 (by decide) ?_
    refine lv_iload_n hx hb dX6_fail_100 rfl (lv_at hl 0 rfl) ?_
    refine lv_imul hx hb dX6_fail_101 ?_
    exact k_X6_fail_102 hcs hrf hrl C M x1 ((2 : Int32) * t0) x1 _ _ _ hok hres h (lv_sub hl [1, 2] rfl)
  · have hres := it_n hres c3
    have hok := io_n hok c3
    refine lv_sipush (v := (1940 : Int32)) hx hb dX6_fail_93 (by decide) ?_
    refine lv_goto (tgt := 102) hx hb dX6_fail_96 (by decide) ?_
    exact k_X6_fail_102 hcs hrf hrl C M x1 (1940 : Int32) x1 _ _ _ hok hres h (lv_sub hl [1, 2] rfl)
set_option maxRecDepth 100000 in
set_option maxHeartbeats 4000000 in
theorem k_X6_fail_35 {p : Program} {l : Launch} {e : Env} {s : State} {m : MethodId} {args : Array Value} {below : List Frame} {meth : Method} {c : Code} {D : va_G} {cI : ClassId} {ad : Nat → Nat} {A : Nat → Prop} {cells slots : Nat} {R : Room} (hcs : cells ≤ R.cells ∧ slots ≤ R.slots) (hrf : rmX6_fail.frames ≤ R.frames) (hrl : rmX6_fail.locals ≤ R.locals) {res : Mem} (C : CX p s m args meth c RX6 cX6_fail 3 none) : ∀ (M : Mem) (H : Heap) (locs : List Loc) (ls : Array Slot), ok_X6_fail_35 M → f_X6_fail_35 M = res → WH D [(cI, .int)] (wR cI ad) A s H locs M → lv_has ls 3 [(0, .ref (ad 0))] → W p l e R s m args below meth c H locs cells slots (MQ below (PV D [(cI, .int)] (wR cI ad) A res) args s cells slots A) (F0 m 35 ls []) := by
  have hx := C.1
  have hb := C.2.1
  have hown := C.2.2.2.2.1
  have hts := C.2.2.2.2.2.1
  intro M H locs ls hok hres h hl
  rw [ok_X6_fail_35] at hok
  rw [f_X6_fail_35] at hres
  refine lv_aload_n hx hb dX6_fail_35 rfl (lv_at hl 0 rfl) ?_
  refine R_X6_kept_get C h in_fX6_16 dX6_fail_36 ?_
  refine lv_iconst (v := (0 : Int32)) hx hb dX6_fail_39 (by decide) ?_
  refine R_kept_ld (v := ((M 20) 0)) C h (vp_l (by decide)) rfl dX6_fail_40 ?_
  refine lv_istore_n (lv' := [(1, .int ((M 20) 0)), (0, .ref (ad 0))]) hx hb dX6_fail_41 rfl hl (by decide) rfl (fun ls hl => ?_)
  refine lv_aload_n hx hb dX6_fail_42 rfl (lv_at hl 1 rfl) ?_
  refine R_X6_failures_get C h in_fX6_28 dX6_fail_43 ?_
  refine lv_iload_n hx hb dX6_fail_46 rfl (lv_at hl 0 rfl) ?_
  refine lv_dup2_11 hx hb dX6_fail_47 rfl rfl ?_
  obtain ⟨h14, hok⟩ := hok
  refine R_failures_ld (v := ((M 24) ((M 20) 0).toNatClampNeg)) C h h14 rfl dX6_fail_48 ?_
  refine lv_iconst (v := (1 : Int32)) hx hb dX6_fail_49 (by decide) ?_
  refine lv_iadd hx hb dX6_fail_50 ?_
  obtain ⟨h13, hok⟩ := hok
  refine R_failures_st (M2 := (ms M 24 (upd (M 24) ((M 20) 0).toNatClampNeg (((M 24) ((M 20) 0).toNatClampNeg) + (1 : Int32))))) C h h13 rfl dX6_fail_51 (fun H locs h => ?_)
  refine lv_aload_n hx hb dX6_fail_52 rfl (lv_at hl 1 rfl) ?_
  refine R_X6_estimate_get C h in_fX6_25 dX6_fail_53 ?_
  refine lv_iload_n hx hb dX6_fail_56 rfl (lv_at hl 0 rfl) ?_
  obtain ⟨h12, hok⟩ := hok
  refine R_estimate_ld (v := ((M 23) ((M 20) 0).toNatClampNeg)) C h h12 rfl dX6_fail_57 ?_
  refine lv_aload_n hx hb dX6_fail_58 rfl (lv_at hl 1 rfl) ?_
  refine R_X6_spent_get (v := (M 12 0)) C h in_fX6_96 rfl dX6_fail_59 ?_
  refine lv_icmp_le (tgt := 74) hx hb dX6_fail_62 (by decide) (fun c2 => ?_) (fun c2 => ?_)
  · have hres := it_p hres c2
    have hok := io_p hok c2
    refine lv_aload_n hx hb dX6_fail_74 rfl (lv_at hl 1 rfl) ?_
    refine R_X6_spent_get (v := (M 12 0)) C h in_fX6_96 rfl dX6_fail_75 ?_
    exact k_X6_fail_78 hcs hrf hrl C (ms M 24 (upd (M 24) ((M 20) 0).toNatClampNeg (((M 24) ((M 20) 0).toNatClampNeg) + (1 : Int32)))) ((M 20) 0) (M 12 0) _ _ _ hok hres h (lv_sub hl [1, 0] rfl)
  · have hres := it_n hres c2
    have hok := io_n hok c2
    refine lv_aload_n hx hb dX6_fail_65 rfl (lv_at hl 1 rfl) ?_
    refine R_X6_estimate_get C h in_fX6_25 dX6_fail_66 ?_
    refine lv_iload_n hx hb dX6_fail_69 rfl (lv_at hl 0 rfl) ?_
    obtain ⟨h11, hok⟩ := hok
    refine R_estimate_ld (v := ((M 23) ((M 20) 0).toNatClampNeg)) C h h11 rfl dX6_fail_70 ?_
    refine lv_goto (tgt := 78) hx hb dX6_fail_71 (by decide) ?_
    exact k_X6_fail_78 hcs hrf hrl C (ms M 24 (upd (M 24) ((M 20) 0).toNatClampNeg (((M 24) ((M 20) 0).toNatClampNeg) + (1 : Int32)))) ((M 20) 0) ((M 23) ((M 20) 0).toNatClampNeg) _ _ _ hok hres h (lv_sub hl [1, 0] rfl)
set_option maxRecDepth 100000 in
set_option maxHeartbeats 4000000 in
theorem k_X6_fail_0 {p : Program} {l : Launch} {e : Env} {s : State} {m : MethodId} {args : Array Value} {below : List Frame} {meth : Method} {c : Code} {D : va_G} {cI : ClassId} {ad : Nat → Nat} {A : Nat → Prop} {cells slots : Nat} {R : Room} (hcs : cells ≤ R.cells ∧ slots ≤ R.slots) (hrf : rmX6_fail.frames ≤ R.frames) (hrl : rmX6_fail.locals ≤ R.locals) {res : Mem} (C : CX p s m args meth c RX6 cX6_fail 3 none) : ∀ (M : Mem) (H : Heap) (locs : List Loc) (ls : Array Slot), ok_X6_fail M → f_X6_fail M = res → WH D [(cI, .int)] (wR cI ad) A s H locs M → lv_has ls 3 [(0, .ref (ad 0))] → W p l e R s m args below meth c H locs cells slots (MQ below (PV D [(cI, .int)] (wR cI ad) A res) args s cells slots A) (F0 m 0 ls []) := by
  have hx := C.1
  have hb := C.2.1
  have hown := C.2.2.2.2.1
  have hts := C.2.2.2.2.2.1
  intro M H locs ls hok hres h hl
  rw [ok_X6_fail] at hok
  rw [f_X6_fail] at hres
  refine lv_aload_n hx hb dX6_fail_0 rfl (lv_at hl 0 rfl) ?_
  refine lv_dup hx hb dX6_fail_1 rfl ?_
  refine R_X6_fails_get (v := (M 6 0)) C h in_fX6_90 rfl dX6_fail_2 ?_
  refine lv_iconst (v := (1 : Int32)) hx hb dX6_fail_5 (by decide) ?_
  refine lv_iadd hx hb dX6_fail_6 ?_
  refine R_X6_fails_put (v := ((M 6 0) + (1 : Int32))) (M2 := (ms M 6 (fun _ => ((M 6 0) + (1 : Int32))))) C h in_fX6_90 rfl dX6_fail_7 (fun H locs h => ?_)
  refine lv_aload_n hx hb dX6_fail_10 rfl (lv_at hl 0 rfl) ?_
  refine R_X6_phase_get (v := (M 4 0)) C h in_fX6_93 rfl dX6_fail_11 ?_
  refine lv_iconst (v := (3 : Int32)) hx hb dX6_fail_14 (by decide) ?_
  refine lv_icmp_eq (tgt := 35) hx hb dX6_fail_15 (by decide) (fun c1 => ?_) (fun c1 => ?_)
  · have hres := it_p hres c1
    have hok := io_p hok c1
    exact k_X6_fail_35 hcs hrf hrl C (ms M 6 (fun _ => ((M 6 0) + (1 : Int32)))) _ _ _ hok hres h (lv_sub hl [0] rfl)
  · have hres := it_n hres c1
    have hok := io_n hok c1
    refine lv_aload_n hx hb dX6_fail_18 rfl (lv_at hl 0 rfl) ?_
    refine R_X6_phase_get (v := (M 4 0)) C h in_fX6_93 rfl dX6_fail_19 ?_
    refine lv_iconst (v := (4 : Int32)) hx hb dX6_fail_22 (by decide) ?_
    refine lv_icmp_ne (tgt := 119) hx hb dX6_fail_23 (by decide) (fun c15 => ?_) (fun c15 => ?_)
    · have hres := it_n hres c15
      have hok := io_n hok c15
      refine lv_aload_n hx hb dX6_fail_119 rfl (lv_at hl 0 rfl) ?_
      refine lv_iconst (v := (0 : Int32)) hx hb dX6_fail_120 (by decide) ?_
      refine R_X6_phase_put (v := (0 : Int32)) (M2 := (ms (ms M 6 (fun _ => ((M 6 0) + (1 : Int32)))) 4 (fun _ => (0 : Int32)))) C h in_fX6_93 rfl dX6_fail_121 (fun H locs h => ?_)
      refine lv_aload_n hx hb dX6_fail_124 rfl (lv_at hl 0 rfl) ?_
      have h17 := hok
      refine wh_cvv (As := []) (rest := []) hcs C h (c_X6_endAttempt (ms (ms M 6 (fun _ => ((M 6 0) + (1 : Int32)))) 4 (fun _ => (0 : Int32))) h17) yw_X6_endAttempt in_mX6_99 hl.1 rfl rfl (Nat.le_of_ble_eq_true rfl) ⟨Nat.le_trans (Nat.le_of_ble_eq_true rfl) hrf, Nat.le_trans (Nat.le_of_ble_eq_true rfl) hrl⟩ dX6_fail_125 (fun M16 H locs e16 h => ?_)
      rw [e16] at hres
      have hres := bv_e hres
      exact wh_vret C h hres dX6_fail_128
    · have hres := it_p hres c15
      have hok := io_p hok c15
      refine lv_aload_n hx hb dX6_fail_26 rfl (lv_at hl 0 rfl) ?_
      refine R_X6_kept_get C h in_fX6_16 dX6_fail_27 ?_
      refine lv_iconst (v := (2 : Int32)) hx hb dX6_fail_30 (by decide) ?_
      refine R_kept_ld (v := ((M 20) 2)) C h (vp_l (by decide)) rfl dX6_fail_31 ?_
      refine lv_if_ne (tgt := 119) hx hb dX6_fail_32 (by decide) (fun c18 => ?_) (fun c18 => ?_)
      · have hres := it_n hres c18
        have hok := io_n hok c18
        refine lv_aload_n hx hb dX6_fail_119 rfl (lv_at hl 0 rfl) ?_
        refine lv_iconst (v := (0 : Int32)) hx hb dX6_fail_120 (by decide) ?_
        refine R_X6_phase_put (v := (0 : Int32)) (M2 := (ms (ms M 6 (fun _ => ((M 6 0) + (1 : Int32)))) 4 (fun _ => (0 : Int32)))) C h in_fX6_93 rfl dX6_fail_121 (fun H locs h => ?_)
        refine lv_aload_n hx hb dX6_fail_124 rfl (lv_at hl 0 rfl) ?_
        have h20 := hok
        refine wh_cvv (As := []) (rest := []) hcs C h (c_X6_endAttempt (ms (ms M 6 (fun _ => ((M 6 0) + (1 : Int32)))) 4 (fun _ => (0 : Int32))) h20) yw_X6_endAttempt in_mX6_99 hl.1 rfl rfl (Nat.le_of_ble_eq_true rfl) ⟨Nat.le_trans (Nat.le_of_ble_eq_true rfl) hrf, Nat.le_trans (Nat.le_of_ble_eq_true rfl) hrl⟩ dX6_fail_125 (fun M19 H locs e19 h => ?_)
        rw [e19] at hres
        have hres := bv_e hres
        exact wh_vret C h hres dX6_fail_128
      · have hres := it_p hres c18
        have hok := io_p hok c18
        exact k_X6_fail_35 hcs hrf hrl C (ms M 6 (fun _ => ((M 6 0) + (1 : Int32)))) _ _ _ hok hres h (lv_sub hl [0] rfl)
theorem yw_X6_fail {cI : ClassId} {ad : Nat → Nat} : YV (wR cI ad) (ad 0) yX6_fail cX6_fail 3 none rmX6_fail 0 := ⟨fun M => ⟨0, 6, _, _, rfl, rfl, rfl⟩, in_cX6_fail, in_nX6_fail, in_vX6_fail, in_iX6, by decide +kernel, rfl, rfl⟩
theorem c_X6_fail {l : Launch} {D : va_G} {cI : ClassId} {ad : Nat → Nat} (M : Mem) (hok : ok_X6_fail M) : KV l D [(cI, .int)] (wR cI ad) yX6_fail cX6_fail 3 rmX6_fail [.ref (ad 0)] M (f_X6_fail M) := met_v (by decide) (Nat.le_of_ble_eq_true rfl) (fun p e s m below meth c A C h ls hl => k_X6_fail_0 ⟨Nat.le_refl _, Nat.le_refl _⟩ (Nat.le_refl _) (Nat.le_refl _) C M _ _ ls hok rfl h hl)
abbrev rmX6_pays : Room := { frames := 2, cells := 0, slots := 0, locals := 43 }
def f_X6_pays (M : Mem) (a1 : Int32) : Mem × Int32 := (if a1 ≤ (M 2 0) then (if (M 4 0) = (3 : Int32) then ((ms (ms M 2 (fun _ => ((M 2 0) - a1))) 12 (fun _ => ((M 12 0) + a1))), (1 : Int32)) else (if (M 4 0) = (4 : Int32) then ((ms (ms M 2 (fun _ => ((M 2 0) - a1))) 12 (fun _ => ((M 12 0) + a1))), (1 : Int32)) else ((ms M 2 (fun _ => ((M 2 0) - a1))), (1 : Int32)))) else (bv (f_X6_fail M) (fun M4 => (M4, (0 : Int32)))))
def ok_X6_pays (M : Mem) (a1 : Int32) : Prop := (if a1 ≤ (M 2 0) then True else ok_X6_fail M)
set_option maxRecDepth 100000 in
set_option maxHeartbeats 4000000 in
theorem k_X6_pays_0 {p : Program} {l : Launch} {e : Env} {s : State} {m : MethodId} {args : Array Value} {below : List Frame} {meth : Method} {c : Code} {D : va_G} {cI : ClassId} {ad : Nat → Nat} {A : Nat → Prop} {cells slots : Nat} {R : Room} (hcs : cells ≤ R.cells ∧ slots ≤ R.slots) (hrf : rmX6_pays.frames ≤ R.frames) (hrl : rmX6_pays.locals ≤ R.locals) {res : Mem × Int32} (C : CX p s m args meth c RX6 cX6_pays 2 (some .boolean)) : ∀ (M : Mem) (a1 : Int32) (H : Heap) (locs : List Loc) (ls : Array Slot), ok_X6_pays M a1 → f_X6_pays M a1 = res → WH D [(cI, .int)] (wR cI ad) A s H locs M → lv_has ls 2 [(0, .ref (ad 0)), (1, .int a1)] → W p l e R s m args below meth c H locs cells slots (MQ below (PZ D [(cI, .int)] (wR cI ad) A res) args s cells slots A) (F0 m 0 ls []) := by
  have hx := C.1
  have hb := C.2.1
  have hown := C.2.2.2.2.1
  have hts := C.2.2.2.2.2.1
  intro M a1 H locs ls hok hres h hl
  rw [ok_X6_pays] at hok
  rw [f_X6_pays] at hres
  refine lv_iload_n hx hb dX6_pays_0 rfl (lv_at hl 1 rfl) ?_
  refine lv_aload_n hx hb dX6_pays_1 rfl (lv_at hl 0 rfl) ?_
  refine R_X6_energy_get (v := (M 2 0)) C h in_fX6_111 rfl dX6_pays_2 ?_
  refine lv_icmp_le (tgt := 14) hx hb dX6_pays_5 (by decide) (fun c1 => ?_) (fun c1 => ?_)
  · have hres := it_p hres c1
    refine lv_aload_n hx hb dX6_pays_14 rfl (lv_at hl 0 rfl) ?_
    refine lv_dup hx hb dX6_pays_15 rfl ?_
    refine R_X6_energy_get (v := (M 2 0)) C h in_fX6_111 rfl dX6_pays_16 ?_
    refine lv_iload_n hx hb dX6_pays_19 rfl (lv_at hl 1 rfl) ?_
    refine lv_isub hx hb dX6_pays_20 ?_
    refine R_X6_energy_put (v := ((M 2 0) - a1)) (M2 := (ms M 2 (fun _ => ((M 2 0) - a1)))) C h in_fX6_111 rfl dX6_pays_21 (fun H locs h => ?_)
    refine lv_aload_n hx hb dX6_pays_24 rfl (lv_at hl 0 rfl) ?_
    refine R_X6_phase_get (v := (M 4 0)) C h in_fX6_93 rfl dX6_pays_25 ?_
    refine lv_iconst (v := (3 : Int32)) hx hb dX6_pays_28 (by decide) ?_
    refine lv_icmp_eq (tgt := 40) hx hb dX6_pays_29 (by decide) (fun c2 => ?_) (fun c2 => ?_)
    · have hres := it_p hres c2
      refine lv_aload_n hx hb dX6_pays_40 rfl (lv_at hl 0 rfl) ?_
      refine lv_dup hx hb dX6_pays_41 rfl ?_
      refine R_X6_spent_get (v := (M 12 0)) C h in_fX6_96 rfl dX6_pays_42 ?_
      refine lv_iload_n hx hb dX6_pays_45 rfl (lv_at hl 1 rfl) ?_
      refine lv_iadd hx hb dX6_pays_46 ?_
      refine R_X6_spent_put (v := ((M 12 0) + a1)) (M2 := (ms (ms M 2 (fun _ => ((M 2 0) - a1))) 12 (fun _ => ((M 12 0) + a1)))) C h in_fX6_96 rfl dX6_pays_47 (fun H locs h => ?_)
      refine lv_iconst (v := (1 : Int32)) hx hb dX6_pays_50 (by decide) ?_
      exact wh_zret C h nb_1 hres dX6_pays_51
    · have hres := it_n hres c2
      refine lv_aload_n hx hb dX6_pays_32 rfl (lv_at hl 0 rfl) ?_
      refine R_X6_phase_get (v := (M 4 0)) C h in_fX6_93 rfl dX6_pays_33 ?_
      refine lv_iconst (v := (4 : Int32)) hx hb dX6_pays_36 (by decide) ?_
      refine lv_icmp_ne (tgt := 50) hx hb dX6_pays_37 (by decide) (fun c3 => ?_) (fun c3 => ?_)
      · have hres := it_n hres c3
        refine lv_iconst (v := (1 : Int32)) hx hb dX6_pays_50 (by decide) ?_
        exact wh_zret C h nb_1 hres dX6_pays_51
      · have hres := it_p hres c3
        refine lv_aload_n hx hb dX6_pays_40 rfl (lv_at hl 0 rfl) ?_
        refine lv_dup hx hb dX6_pays_41 rfl ?_
        refine R_X6_spent_get (v := (M 12 0)) C h in_fX6_96 rfl dX6_pays_42 ?_
        refine lv_iload_n hx hb dX6_pays_45 rfl (lv_at hl 1 rfl) ?_
        refine lv_iadd hx hb dX6_pays_46 ?_
        refine R_X6_spent_put (v := ((M 12 0) + a1)) (M2 := (ms (ms M 2 (fun _ => ((M 2 0) - a1))) 12 (fun _ => ((M 12 0) + a1)))) C h in_fX6_96 rfl dX6_pays_47 (fun H locs h => ?_)
        refine lv_iconst (v := (1 : Int32)) hx hb dX6_pays_50 (by decide) ?_
        exact wh_zret C h nb_1 hres dX6_pays_51
  · have hres := it_n hres c1
    have hok := io_n hok c1
    refine lv_aload_n hx hb dX6_pays_8 rfl (lv_at hl 0 rfl) ?_
    have h5 := hok
    refine wh_cvv (As := []) (rest := []) hcs C h (c_X6_fail M h5) yw_X6_fail in_mX6_114 hl.1 rfl rfl (Nat.le_of_ble_eq_true rfl) ⟨Nat.le_trans (Nat.le_of_ble_eq_true rfl) hrf, Nat.le_trans (Nat.le_of_ble_eq_true rfl) hrl⟩ dX6_pays_9 (fun M4 H locs e4 h => ?_)
    rw [e4] at hres
    have hres := bv_e hres
    refine lv_iconst (v := (0 : Int32)) hx hb dX6_pays_12 (by decide) ?_
    exact wh_zret C h nb_0 hres dX6_pays_13
theorem yw_X6_pays {cI : ClassId} {ad : Nat → Nat} : YV (wR cI ad) (ad 0) yX6_pays cX6_pays 2 (some .boolean) rmX6_pays 1 := ⟨fun M => ⟨0, 6, _, _, rfl, rfl, rfl⟩, in_cX6_pays, in_nX6_pays, in_vX6_pays, in_iX6, by decide +kernel, rfl, rfl⟩
theorem c_X6_pays {l : Launch} {D : va_G} {cI : ClassId} {ad : Nat → Nat} (M : Mem) (a1 : Int32) (hok : ok_X6_pays M a1) : KZ l D [(cI, .int)] (wR cI ad) yX6_pays cX6_pays 2 rmX6_pays [.ref (ad 0), .int a1] M (f_X6_pays M a1) := met_z (by decide) (Nat.le_of_ble_eq_true rfl) (fun p e s m below meth c A C h ls hl => k_X6_pays_0 ⟨Nat.le_refl _, Nat.le_refl _⟩ (Nat.le_refl _) (Nat.le_refl _) C M a1 _ _ ls hok rfl h hl)
abbrev rmX6_cost : Room := { frames := 0, cells := 0, slots := 0, locals := 0 }
def f_X6_cost (M : Mem) (a1 : Int32) : Int32 := (if a1 = (4 : Int32) then (4 : Int32) else (if a1 = (5 : Int32) then (1 : Int32) else (if a1 = (6 : Int32) then (1 : Int32) else (if a1 = (7 : Int32) then (1 : Int32) else (if a1 = (8 : Int32) then (2 : Int32) else (if a1 = (9 : Int32) then (2 : Int32) else (if a1 = (10 : Int32) then (2 : Int32) else (if a1 = (11 : Int32) then (2 : Int32) else (if a1 = (12 : Int32) then (3 : Int32) else (if a1 = (13 : Int32) then (3 : Int32) else (if a1 = (14 : Int32) then (10 : Int32) else (if a1 = (15 : Int32) then (3 : Int32) else (1 : Int32)))))))))))))
set_option maxRecDepth 100000 in
set_option maxHeartbeats 4000000 in
theorem k_X6_cost_0 {p : Program} {l : Launch} {e : Env} {s : State} {m : MethodId} {args : Array Value} {below : List Frame} {meth : Method} {c : Code} {D : va_G} {cI : ClassId} {ad : Nat → Nat} {A : Nat → Prop} {cells slots : Nat} {R : Room} (hcs : cells ≤ R.cells ∧ slots ≤ R.slots) (hrf : rmX6_cost.frames ≤ R.frames) (hrl : rmX6_cost.locals ≤ R.locals) {r0 : Int32} (C : CX p s m args meth c RX6 cX6_cost 1 (some .int)) : ∀ (M : Mem) (a1 : Int32) (H : Heap) (locs : List Loc) (ls : Array Slot), f_X6_cost M a1 = r0 → WH D [(cI, .int)] (wR cI ad) A s H locs M → lv_has ls 1 [(0, .int a1)] → W p l e R s m args below meth c H locs cells slots (MQ below (PI D [(cI, .int)] (wR cI ad) A (M, r0)) args s cells slots A) (F0 m 0 ls []) := by
  have hx := C.1
  have hb := C.2.1
  have hown := C.2.2.2.2.1
  have hts := C.2.2.2.2.2.1
  intro M a1 H locs ls hres h hl
  rw [f_X6_cost] at hres
  refine lv_iload_n hx hb dX6_cost_0 rfl (lv_at hl 0 rfl) ?_
  refine (Classical.em (a1 = (4 : Int32))).elim (fun c1 => ?_) (fun c1 => ?_)
  · have hres := it_p hres c1
    refine sw_in (k := (4 : Int32)) (tgt := 64) c1 hx hb dX6_cost_1 (by decide) (by decide) rfl (by decide) ?_
    refine lv_iconst (v := (4 : Int32)) hx hb dX6_cost_64 (by decide) ?_
    exact wh_iret C h (cz hres) dX6_cost_65
  · have hres := it_n hres c1
    refine (Classical.em (a1 = (5 : Int32))).elim (fun c2 => ?_) (fun c2 => ?_)
    · have hres := it_p hres c2
      refine sw_in (k := (5 : Int32)) (tgt := 73) c2 hx hb dX6_cost_1 (by decide) (by decide) rfl (by decide) ?_
      refine lv_iconst (v := (1 : Int32)) hx hb dX6_cost_73 (by decide) ?_
      exact wh_iret C h (cz hres) dX6_cost_74
    · have hres := it_n hres c2
      refine (Classical.em (a1 = (6 : Int32))).elim (fun c3 => ?_) (fun c3 => ?_)
      · have hres := it_p hres c3
        refine sw_in (k := (6 : Int32)) (tgt := 73) c3 hx hb dX6_cost_1 (by decide) (by decide) rfl (by decide) ?_
        refine lv_iconst (v := (1 : Int32)) hx hb dX6_cost_73 (by decide) ?_
        exact wh_iret C h (cz hres) dX6_cost_74
      · have hres := it_n hres c3
        refine (Classical.em (a1 = (7 : Int32))).elim (fun c4 => ?_) (fun c4 => ?_)
        · have hres := it_p hres c4
          refine sw_in (k := (7 : Int32)) (tgt := 73) c4 hx hb dX6_cost_1 (by decide) (by decide) rfl (by decide) ?_
          refine lv_iconst (v := (1 : Int32)) hx hb dX6_cost_73 (by decide) ?_
          exact wh_iret C h (cz hres) dX6_cost_74
        · have hres := it_n hres c4
          refine (Classical.em (a1 = (8 : Int32))).elim (fun c5 => ?_) (fun c5 => ?_)
          · have hres := it_p hres c5
            refine sw_in (k := (8 : Int32)) (tgt := 66) c5 hx hb dX6_cost_1 (by decide) (by decide) rfl (by decide) ?_
            refine lv_iconst (v := (2 : Int32)) hx hb dX6_cost_66 (by decide) ?_
            exact wh_iret C h (cz hres) dX6_cost_67
          · have hres := it_n hres c5
            refine (Classical.em (a1 = (9 : Int32))).elim (fun c6 => ?_) (fun c6 => ?_)
            · have hres := it_p hres c6
              refine sw_in (k := (9 : Int32)) (tgt := 66) c6 hx hb dX6_cost_1 (by decide) (by decide) rfl (by decide) ?_
              refine lv_iconst (v := (2 : Int32)) hx hb dX6_cost_66 (by decide) ?_
              exact wh_iret C h (cz hres) dX6_cost_67
            · have hres := it_n hres c6
              refine (Classical.em (a1 = (10 : Int32))).elim (fun c7 => ?_) (fun c7 => ?_)
              · have hres := it_p hres c7
                refine sw_in (k := (10 : Int32)) (tgt := 66) c7 hx hb dX6_cost_1 (by decide) (by decide) rfl (by decide) ?_
                refine lv_iconst (v := (2 : Int32)) hx hb dX6_cost_66 (by decide) ?_
                exact wh_iret C h (cz hres) dX6_cost_67
              · have hres := it_n hres c7
                refine (Classical.em (a1 = (11 : Int32))).elim (fun c8 => ?_) (fun c8 => ?_)
                · have hres := it_p hres c8
                  refine sw_in (k := (11 : Int32)) (tgt := 66) c8 hx hb dX6_cost_1 (by decide) (by decide) rfl (by decide) ?_
                  refine lv_iconst (v := (2 : Int32)) hx hb dX6_cost_66 (by decide) ?_
                  exact wh_iret C h (cz hres) dX6_cost_67
                · have hres := it_n hres c8
                  refine (Classical.em (a1 = (12 : Int32))).elim (fun c9 => ?_) (fun c9 => ?_)
                  · have hres := it_p hres c9
                    refine sw_in (k := (12 : Int32)) (tgt := 68) c9 hx hb dX6_cost_1 (by decide) (by decide) rfl (by decide) ?_
                    refine lv_iconst (v := (3 : Int32)) hx hb dX6_cost_68 (by decide) ?_
                    exact wh_iret C h (cz hres) dX6_cost_69
                  · have hres := it_n hres c9
                    refine (Classical.em (a1 = (13 : Int32))).elim (fun c10 => ?_) (fun c10 => ?_)
                    · have hres := it_p hres c10
                      refine sw_in (k := (13 : Int32)) (tgt := 68) c10 hx hb dX6_cost_1 (by decide) (by decide) rfl (by decide) ?_
                      refine lv_iconst (v := (3 : Int32)) hx hb dX6_cost_68 (by decide) ?_
                      exact wh_iret C h (cz hres) dX6_cost_69
                    · have hres := it_n hres c10
                      refine (Classical.em (a1 = (14 : Int32))).elim (fun c11 => ?_) (fun c11 => ?_)
                      · have hres := it_p hres c11
                        refine sw_in (k := (14 : Int32)) (tgt := 70) c11 hx hb dX6_cost_1 (by decide) (by decide) rfl (by decide) ?_
                        refine lv_bipush (v := (10 : Int32)) hx hb dX6_cost_70 (by decide) ?_
                        exact wh_iret C h (cz hres) dX6_cost_72
                      · have hres := it_n hres c11
                        refine (Classical.em (a1 = (15 : Int32))).elim (fun c12 => ?_) (fun c12 => ?_)
                        · have hres := it_p hres c12
                          refine sw_in (k := (15 : Int32)) (tgt := 68) c12 hx hb dX6_cost_1 (by decide) (by decide) rfl (by decide) ?_
                          refine lv_iconst (v := (3 : Int32)) hx hb dX6_cost_68 (by decide) ?_
                          exact wh_iret C h (cz hres) dX6_cost_69
                        · have hres := it_n hres c12
                          refine lv_tableOut (tgt := 73) hx hb dX6_cost_1 (by have q := And.intro trivial trivial; have n4 := lv_neT c1 (a := 4) (by decide); have n5 := lv_neT c2 (a := 5) (by decide); have n6 := lv_neT c3 (a := 6) (by decide); have n7 := lv_neT c4 (a := 7) (by decide); have n8 := lv_neT c5 (a := 8) (by decide); have n9 := lv_neT c6 (a := 9) (by decide); have n10 := lv_neT c7 (a := 10) (by decide); have n11 := lv_neT c8 (a := 11) (by decide); have n12 := lv_neT c9 (a := 12) (by decide); have n13 := lv_neT c10 (a := 13) (by decide); have n14 := lv_neT c11 (a := 14) (by decide); have n15 := lv_neT c12 (a := 15) (by decide); omega) (by decide) ?_
                          refine lv_iconst (v := (1 : Int32)) hx hb dX6_cost_73 (by decide) ?_
                          exact wh_iret C h (cz hres) dX6_cost_74
theorem yw_X6_cost : YS yX6_cost cX6_cost 1 (some .int) rmX6_cost 1 := ⟨in_cX6_cost, in_sX6_cost, in_iX6, by decide +kernel, rfl, rfl⟩
theorem c_X6_cost {l : Launch} {D : va_G} {cI : ClassId} {ad : Nat → Nat} (M : Mem) (a1 : Int32) : KI l D [(cI, .int)] (wR cI ad) yX6_cost cX6_cost 1 rmX6_cost [.int a1] M (M, f_X6_cost M a1) := met_i (by decide) (Nat.le_of_ble_eq_true rfl) (fun p e s m below meth c A C h ls hl => k_X6_cost_0 ⟨Nat.le_refl _, Nat.le_refl _⟩ (Nat.le_refl _) (Nat.le_refl _) C M a1 _ _ ls rfl h hl)
abbrev rmX6_cut : Room := { frames := 0, cells := 0, slots := 0, locals := 0 }
def f_X6_cut (M : Mem) (a1 : Int32) : Mem × Int32 := (if a1 < 0 then ((ms M 0 (fun _ => (0 : Int32))), (0 : Int32)) else (if a1 ≤ (10000 : Int32) then ((ms (ms M 0 (fun _ => (0 : Int32))) 8 (fun _ => a1)), (1 : Int32)) else ((ms M 0 (fun _ => (0 : Int32))), (0 : Int32))))
set_option maxRecDepth 100000 in
set_option maxHeartbeats 4000000 in
theorem k_X6_cut_0 {p : Program} {l : Launch} {e : Env} {s : State} {m : MethodId} {args : Array Value} {below : List Frame} {meth : Method} {c : Code} {D : va_G} {cI : ClassId} {ad : Nat → Nat} {A : Nat → Prop} {cells slots : Nat} {R : Room} (hcs : cells ≤ R.cells ∧ slots ≤ R.slots) (hrf : rmX6_cut.frames ≤ R.frames) (hrl : rmX6_cut.locals ≤ R.locals) {res : Mem × Int32} (C : CX p s m args meth c RX6 cX6_cut 2 (some .boolean)) : ∀ (M : Mem) (a1 : Int32) (H : Heap) (locs : List Loc) (ls : Array Slot), f_X6_cut M a1 = res → WH D [(cI, .int)] (wR cI ad) A s H locs M → lv_has ls 2 [(0, .ref (ad 0)), (1, .int a1)] → W p l e R s m args below meth c H locs cells slots (MQ below (PZ D [(cI, .int)] (wR cI ad) A res) args s cells slots A) (F0 m 0 ls []) := by
  have hx := C.1
  have hb := C.2.1
  have hown := C.2.2.2.2.1
  have hts := C.2.2.2.2.2.1
  intro M a1 H locs ls hres h hl
  rw [f_X6_cut] at hres
  refine lv_aload_n hx hb dX6_cut_0 rfl (lv_at hl 0 rfl) ?_
  refine lv_iconst (v := (0 : Int32)) hx hb dX6_cut_1 (by decide) ?_
  refine R_X6_thrown_put (v := (0 : Int32)) (M2 := (ms M 0 (fun _ => (0 : Int32)))) C h in_fX6_56 rfl dX6_cut_2 (fun H locs h => ?_)
  refine lv_iload_n hx hb dX6_cut_5 rfl (lv_at hl 1 rfl) ?_
  refine lv_if_lt (tgt := 16) hx hb dX6_cut_6 (by decide) (fun c1 => ?_) (fun c1 => ?_)
  · have hres := it_p hres c1
    refine lv_iconst (v := (0 : Int32)) hx hb dX6_cut_16 (by decide) ?_
    exact wh_zret C h nb_0 hres dX6_cut_17
  · have hres := it_n hres c1
    refine lv_iload_n hx hb dX6_cut_9 rfl (lv_at hl 1 rfl) ?_
    refine lv_sipush (v := (10000 : Int32)) hx hb dX6_cut_10 (by decide) ?_
    refine lv_icmp_le (tgt := 18) hx hb dX6_cut_13 (by decide) (fun c2 => ?_) (fun c2 => ?_)
    · have hres := it_p hres c2
      refine lv_aload_n hx hb dX6_cut_18 rfl (lv_at hl 0 rfl) ?_
      refine lv_iload_n hx hb dX6_cut_19 rfl (lv_at hl 1 rfl) ?_
      refine R_X6_cutIn_put (v := a1) (M2 := (ms (ms M 0 (fun _ => (0 : Int32))) 8 (fun _ => a1))) C h in_fX6_179 rfl dX6_cut_20 (fun H locs h => ?_)
      refine lv_iconst (v := (1 : Int32)) hx hb dX6_cut_23 (by decide) ?_
      exact wh_zret C h nb_1 hres dX6_cut_24
    · have hres := it_n hres c2
      refine lv_iconst (v := (0 : Int32)) hx hb dX6_cut_16 (by decide) ?_
      exact wh_zret C h nb_0 hres dX6_cut_17
theorem yw_X6_cut {cI : ClassId} {ad : Nat → Nat} : YV (wR cI ad) (ad 0) yX6_cut cX6_cut 2 (some .boolean) rmX6_cut 1 := ⟨fun M => ⟨0, 6, _, _, rfl, rfl, rfl⟩, in_cX6_cut, in_nX6_cut, in_vX6_cut, in_iX6, by decide +kernel, rfl, rfl⟩
theorem c_X6_cut {l : Launch} {D : va_G} {cI : ClassId} {ad : Nat → Nat} (M : Mem) (a1 : Int32) : KZ l D [(cI, .int)] (wR cI ad) yX6_cut cX6_cut 2 rmX6_cut [.ref (ad 0), .int a1] M (f_X6_cut M a1) := met_z (by decide) (Nat.le_of_ble_eq_true rfl) (fun p e s m below meth c A C h ls hl => k_X6_cut_0 ⟨Nat.le_refl _, Nat.le_refl _⟩ (Nat.le_refl _) (Nat.le_refl _) C M a1 _ _ ls rfl h hl)
abbrev rmX6_sense : Room := { frames := 0, cells := 0, slots := 0, locals := 0 }
def f_X6_sense (M : Mem) (a1 a2 : Int32) : Mem × Int32 := (if a1 < 0 then ((ms M 0 (fun _ => (0 : Int32))), (0 : Int32)) else (if a1 ≤ (3 : Int32) then ((ms (ms M 0 (fun _ => (0 : Int32))) 22 (upd (M 22) a1.toNatClampNeg a2)), (1 : Int32)) else ((ms M 0 (fun _ => (0 : Int32))), (0 : Int32))))
def ok_X6_sense (M : Mem) (a1 a2 : Int32) : Prop := (if a1 < 0 then True else (if a1 ≤ (3 : Int32) then vp_in a1 4 else True))
set_option maxRecDepth 100000 in
set_option maxHeartbeats 4000000 in
theorem k_X6_sense_0 {p : Program} {l : Launch} {e : Env} {s : State} {m : MethodId} {args : Array Value} {below : List Frame} {meth : Method} {c : Code} {D : va_G} {cI : ClassId} {ad : Nat → Nat} {A : Nat → Prop} {cells slots : Nat} {R : Room} (hcs : cells ≤ R.cells ∧ slots ≤ R.slots) (hrf : rmX6_sense.frames ≤ R.frames) (hrl : rmX6_sense.locals ≤ R.locals) {res : Mem × Int32} (C : CX p s m args meth c RX6 cX6_sense 3 (some .boolean)) : ∀ (M : Mem) (a1 a2 : Int32) (H : Heap) (locs : List Loc) (ls : Array Slot), ok_X6_sense M a1 a2 → f_X6_sense M a1 a2 = res → WH D [(cI, .int)] (wR cI ad) A s H locs M → lv_has ls 3 [(0, .ref (ad 0)), (1, .int a1), (2, .int a2)] → W p l e R s m args below meth c H locs cells slots (MQ below (PZ D [(cI, .int)] (wR cI ad) A res) args s cells slots A) (F0 m 0 ls []) := by
  have hx := C.1
  have hb := C.2.1
  have hown := C.2.2.2.2.1
  have hts := C.2.2.2.2.2.1
  intro M a1 a2 H locs ls hok hres h hl
  rw [ok_X6_sense] at hok
  rw [f_X6_sense] at hres
  refine lv_aload_n hx hb dX6_sense_0 rfl (lv_at hl 0 rfl) ?_
  refine lv_iconst (v := (0 : Int32)) hx hb dX6_sense_1 (by decide) ?_
  refine R_X6_thrown_put (v := (0 : Int32)) (M2 := (ms M 0 (fun _ => (0 : Int32)))) C h in_fX6_56 rfl dX6_sense_2 (fun H locs h => ?_)
  refine lv_iload_n hx hb dX6_sense_5 rfl (lv_at hl 1 rfl) ?_
  refine lv_if_lt (tgt := 14) hx hb dX6_sense_6 (by decide) (fun c1 => ?_) (fun c1 => ?_)
  · have hres := it_p hres c1
    refine lv_iconst (v := (0 : Int32)) hx hb dX6_sense_14 (by decide) ?_
    exact wh_zret C h nb_0 hres dX6_sense_15
  · have hres := it_n hres c1
    have hok := io_n hok c1
    refine lv_iload_n hx hb dX6_sense_9 rfl (lv_at hl 1 rfl) ?_
    refine lv_iconst (v := (3 : Int32)) hx hb dX6_sense_10 (by decide) ?_
    refine lv_icmp_le (tgt := 16) hx hb dX6_sense_11 (by decide) (fun c2 => ?_) (fun c2 => ?_)
    · have hres := it_p hres c2
      have hok := io_p hok c2
      refine lv_aload_n hx hb dX6_sense_16 rfl (lv_at hl 0 rfl) ?_
      refine R_X6_sensor_get C h in_fX6_22 dX6_sense_17 ?_
      refine lv_iload_n hx hb dX6_sense_20 rfl (lv_at hl 1 rfl) ?_
      refine lv_iload_n hx hb dX6_sense_21 rfl (lv_at hl 2 rfl) ?_
      have h3 := hok
      refine R_sensor_st (M2 := (ms (ms M 0 (fun _ => (0 : Int32))) 22 (upd (M 22) a1.toNatClampNeg a2))) C h h3 rfl dX6_sense_22 (fun H locs h => ?_)
      refine lv_iconst (v := (1 : Int32)) hx hb dX6_sense_23 (by decide) ?_
      exact wh_zret C h nb_1 hres dX6_sense_24
    · have hres := it_n hres c2
      refine lv_iconst (v := (0 : Int32)) hx hb dX6_sense_14 (by decide) ?_
      exact wh_zret C h nb_0 hres dX6_sense_15
theorem yw_X6_sense {cI : ClassId} {ad : Nat → Nat} : YV (wR cI ad) (ad 0) yX6_sense cX6_sense 3 (some .boolean) rmX6_sense 2 := ⟨fun M => ⟨0, 6, _, _, rfl, rfl, rfl⟩, in_cX6_sense, in_nX6_sense, in_vX6_sense, in_iX6, by decide +kernel, rfl, rfl⟩
theorem c_X6_sense {l : Launch} {D : va_G} {cI : ClassId} {ad : Nat → Nat} (M : Mem) (a1 a2 : Int32) (hok : ok_X6_sense M a1 a2) : KZ l D [(cI, .int)] (wR cI ad) yX6_sense cX6_sense 3 rmX6_sense [.ref (ad 0), .int a1, .int a2] M (f_X6_sense M a1 a2) := met_z (by decide) (Nat.le_of_ble_eq_true rfl) (fun p e s m below meth c A C h ls hl => k_X6_sense_0 ⟨Nat.le_refl _, Nat.le_refl _⟩ (Nat.le_refl _) (Nat.le_refl _) C M a1 a2 _ _ ls hok rfl h hl)
abbrev rmX6_kept : Room := { frames := 1, cells := 0, slots := 0, locals := 21 }
def f_X6_kept (M : Mem) (a1 a2 : Int32) : Mem × Int32 := (if a1 < 0 then (bc (f_X6_raise M (1 : Int32)) (fun M2 r2 => (M2, r2))) else (if a1 < (164 : Int32) then (if a2 = 0 then ((ms M 0 (fun _ => (0 : Int32))), ((M 20) a1.toNatClampNeg)) else ((ms M 0 (fun _ => (0 : Int32))), ((M 21) a1.toNatClampNeg))) else (bc (f_X6_raise M (1 : Int32)) (fun M7 r7 => (M7, r7)))))
def ok_X6_kept (M : Mem) (a1 a2 : Int32) : Prop := (if a1 < 0 then True else (if a1 < (164 : Int32) then (if a2 = 0 then vp_in a1 164 else vp_in a1 164) else True))
set_option maxRecDepth 100000 in
set_option maxHeartbeats 4000000 in
theorem k_X6_kept_0 {p : Program} {l : Launch} {e : Env} {s : State} {m : MethodId} {args : Array Value} {below : List Frame} {meth : Method} {c : Code} {D : va_G} {cI : ClassId} {ad : Nat → Nat} {A : Nat → Prop} {cells slots : Nat} {R : Room} (hcs : cells ≤ R.cells ∧ slots ≤ R.slots) (hrf : rmX6_kept.frames ≤ R.frames) (hrl : rmX6_kept.locals ≤ R.locals) {res : Mem × Int32} (C : CX p s m args meth c RX6 cX6_kept 3 (some .int)) : ∀ (M : Mem) (a1 a2 : Int32) (H : Heap) (locs : List Loc) (ls : Array Slot), ok_X6_kept M a1 a2 → f_X6_kept M a1 a2 = res → WH D [(cI, .int)] (wR cI ad) A s H locs M → lv_has ls 3 [(0, .ref (ad 0)), (1, .int a1), (2, .int a2)] → W p l e R s m args below meth c H locs cells slots (MQ below (PI D [(cI, .int)] (wR cI ad) A res) args s cells slots A) (F0 m 0 ls []) := by
  have hx := C.1
  have hb := C.2.1
  have hown := C.2.2.2.2.1
  have hts := C.2.2.2.2.2.1
  intro M a1 a2 H locs ls hok hres h hl
  rw [ok_X6_kept] at hok
  rw [f_X6_kept] at hres
  refine lv_iload_n hx hb dX6_kept_0 rfl (lv_at hl 1 rfl) ?_
  refine lv_if_lt (tgt := 11) hx hb dX6_kept_1 (by decide) (fun c1 => ?_) (fun c1 => ?_)
  · have hres := it_p hres c1
    refine lv_aload_n hx hb dX6_kept_11 rfl (lv_at hl 0 rfl) ?_
    refine lv_iconst (v := (1 : Int32)) hx hb dX6_kept_12 (by decide) ?_
    refine wh_cvi (As := [.int (1 : Int32)]) (rest := []) hcs C h (c_X6_raise M (1 : Int32)) yw_X6_raise in_mX6_186 hl.1 rfl rfl (Nat.le_of_ble_eq_true rfl) ⟨Nat.le_trans (Nat.le_of_ble_eq_true rfl) hrf, Nat.le_trans (Nat.le_of_ble_eq_true rfl) hrl⟩ dX6_kept_13 (fun M2 r2 H locs e2 h => ?_)
    rw [e2] at hres
    have hres := bc_e hres
    exact wh_iret C h hres dX6_kept_16
  · have hres := it_n hres c1
    have hok := io_n hok c1
    refine lv_iload_n hx hb dX6_kept_4 rfl (lv_at hl 1 rfl) ?_
    refine lv_sipush (v := (164 : Int32)) hx hb dX6_kept_5 (by decide) ?_
    refine lv_icmp_lt (tgt := 17) hx hb dX6_kept_8 (by decide) (fun c3 => ?_) (fun c3 => ?_)
    · have hres := it_p hres c3
      have hok := io_p hok c3
      refine lv_aload_n hx hb dX6_kept_17 rfl (lv_at hl 0 rfl) ?_
      refine lv_iconst (v := (0 : Int32)) hx hb dX6_kept_18 (by decide) ?_
      refine R_X6_thrown_put (v := (0 : Int32)) (M2 := (ms M 0 (fun _ => (0 : Int32)))) C h in_fX6_56 rfl dX6_kept_19 (fun H locs h => ?_)
      refine lv_iload_n hx hb dX6_kept_22 rfl (lv_at hl 2 rfl) ?_
      refine lv_if_eq (tgt := 35) hx hb dX6_kept_23 (by decide) (fun c4 => ?_) (fun c4 => ?_)
      · have hres := it_p hres c4
        have hok := io_p hok c4
        refine lv_aload_n hx hb dX6_kept_35 rfl (lv_at hl 0 rfl) ?_
        refine R_X6_kept_get C h in_fX6_16 dX6_kept_36 ?_
        refine lv_iload_n hx hb dX6_kept_39 rfl (lv_at hl 1 rfl) ?_
        have h5 := hok
        refine R_kept_ld (v := ((M 20) a1.toNatClampNeg)) C h h5 rfl dX6_kept_40 ?_
        exact wh_iret C h hres dX6_kept_41
      · have hres := it_n hres c4
        have hok := io_n hok c4
        refine lv_aload_n hx hb dX6_kept_26 rfl (lv_at hl 0 rfl) ?_
        refine R_X6_wear_get C h in_fX6_19 dX6_kept_27 ?_
        refine lv_iload_n hx hb dX6_kept_30 rfl (lv_at hl 1 rfl) ?_
        have h6 := hok
        refine R_wear_ld (v := ((M 21) a1.toNatClampNeg)) C h h6 rfl dX6_kept_31 ?_
        refine lv_goto (tgt := 41) hx hb dX6_kept_32 (by decide) ?_
        exact wh_iret C h hres dX6_kept_41
    · have hres := it_n hres c3
      refine lv_aload_n hx hb dX6_kept_11 rfl (lv_at hl 0 rfl) ?_
      refine lv_iconst (v := (1 : Int32)) hx hb dX6_kept_12 (by decide) ?_
      refine wh_cvi (As := [.int (1 : Int32)]) (rest := []) hcs C h (c_X6_raise M (1 : Int32)) yw_X6_raise in_mX6_186 hl.1 rfl rfl (Nat.le_of_ble_eq_true rfl) ⟨Nat.le_trans (Nat.le_of_ble_eq_true rfl) hrf, Nat.le_trans (Nat.le_of_ble_eq_true rfl) hrl⟩ dX6_kept_13 (fun M7 r7 H locs e7 h => ?_)
      rw [e7] at hres
      have hres := bc_e hres
      exact wh_iret C h hres dX6_kept_16
theorem yw_X6_kept {cI : ClassId} {ad : Nat → Nat} : YV (wR cI ad) (ad 0) yX6_kept cX6_kept 3 (some .int) rmX6_kept 2 := ⟨fun M => ⟨0, 6, _, _, rfl, rfl, rfl⟩, in_cX6_kept, in_nX6_kept, in_vX6_kept, in_iX6, by decide +kernel, rfl, rfl⟩
theorem c_X6_kept {l : Launch} {D : va_G} {cI : ClassId} {ad : Nat → Nat} (M : Mem) (a1 a2 : Int32) (hok : ok_X6_kept M a1 a2) : KI l D [(cI, .int)] (wR cI ad) yX6_kept cX6_kept 3 rmX6_kept [.ref (ad 0), .int a1, .int a2] M (f_X6_kept M a1 a2) := met_i (by decide) (Nat.le_of_ble_eq_true rfl) (fun p e s m below meth c A C h ls hl => k_X6_kept_0 ⟨Nat.le_refl _, Nat.le_refl _⟩ (Nat.le_refl _) (Nat.le_refl _) C M a1 a2 _ _ ls hok rfl h hl)
abbrev rmX6_heard : Room := { frames := 1, cells := 0, slots := 0, locals := 21 }
def f_X6_heard (M : Mem) (a1 : Int32) : Mem × Int32 := (if a1 < 0 then (bc (f_X6_raise M (1 : Int32)) (fun M2 r2 => (M2, r2))) else (if ((M 30) (a1 - a1 / (64 : Int32) * (64 : Int32)).toNatClampNeg) = a1 then ((ms M 0 (fun _ => (0 : Int32))), ((M 31) (a1 - a1 / (64 : Int32) * (64 : Int32)).toNatClampNeg)) else (bc (f_X6_raise M (1 : Int32)) (fun M5 r5 => (M5, r5)))))
def ok_X6_heard (M : Mem) (a1 : Int32) : Prop := (if a1 < 0 then True else vp_in (a1 - a1 / (64 : Int32) * (64 : Int32)) 64 ∧ (if ((M 30) (a1 - a1 / (64 : Int32) * (64 : Int32)).toNatClampNeg) = a1 then vp_in (a1 - a1 / (64 : Int32) * (64 : Int32)) 64 else True))
set_option maxRecDepth 100000 in
set_option maxHeartbeats 4000000 in
theorem k_X6_heard_0 {p : Program} {l : Launch} {e : Env} {s : State} {m : MethodId} {args : Array Value} {below : List Frame} {meth : Method} {c : Code} {D : va_G} {cI : ClassId} {ad : Nat → Nat} {A : Nat → Prop} {cells slots : Nat} {R : Room} (hcs : cells ≤ R.cells ∧ slots ≤ R.slots) (hrf : rmX6_heard.frames ≤ R.frames) (hrl : rmX6_heard.locals ≤ R.locals) {res : Mem × Int32} (C : CX p s m args meth c RX6 cX6_heard 2 (some .int)) : ∀ (M : Mem) (a1 : Int32) (H : Heap) (locs : List Loc) (ls : Array Slot), ok_X6_heard M a1 → f_X6_heard M a1 = res → WH D [(cI, .int)] (wR cI ad) A s H locs M → lv_has ls 2 [(0, .ref (ad 0)), (1, .int a1)] → W p l e R s m args below meth c H locs cells slots (MQ below (PI D [(cI, .int)] (wR cI ad) A res) args s cells slots A) (F0 m 0 ls []) := by
  have hx := C.1
  have hb := C.2.1
  have hown := C.2.2.2.2.1
  have hts := C.2.2.2.2.2.1
  intro M a1 H locs ls hok hres h hl
  rw [ok_X6_heard] at hok
  rw [f_X6_heard] at hres
  refine lv_iload_n hx hb dX6_heard_0 rfl (lv_at hl 1 rfl) ?_
  refine lv_if_lt (tgt := 17) hx hb dX6_heard_1 (by decide) (fun c1 => ?_) (fun c1 => ?_)
  · have hres := it_p hres c1
    refine lv_aload_n hx hb dX6_heard_17 rfl (lv_at hl 0 rfl) ?_
    refine lv_iconst (v := (1 : Int32)) hx hb dX6_heard_18 (by decide) ?_
    refine wh_cvi (As := [.int (1 : Int32)]) (rest := []) hcs C h (c_X6_raise M (1 : Int32)) yw_X6_raise in_mX6_186 hl.1 rfl rfl (Nat.le_of_ble_eq_true rfl) ⟨Nat.le_trans (Nat.le_of_ble_eq_true rfl) hrf, Nat.le_trans (Nat.le_of_ble_eq_true rfl) hrl⟩ dX6_heard_19 (fun M2 r2 H locs e2 h => ?_)
    rw [e2] at hres
    have hres := bc_e hres
    exact wh_iret C h hres dX6_heard_22
  · have hres := it_n hres c1
    have hok := io_n hok c1
    refine lv_aload_n hx hb dX6_heard_4 rfl (lv_at hl 0 rfl) ?_
    refine R_X6_farNumber_get C h in_fX6_50 dX6_heard_5 ?_
    refine lv_iload_n hx hb dX6_heard_8 rfl (lv_at hl 1 rfl) ?_
    refine lv_bipush (v := (64 : Int32)) hx hb dX6_heard_9 (by decide) ?_
    refine lv_irem hx hb dX6_heard_11 (by decide) ?_
    obtain ⟨h6, hok⟩ := hok
    refine R_farNumber_ld (v := ((M 30) (a1 - a1 / (64 : Int32) * (64 : Int32)).toNatClampNeg)) C h h6 rfl dX6_heard_12 ?_
    refine lv_iload_n hx hb dX6_heard_13 rfl (lv_at hl 1 rfl) ?_
    refine lv_icmp_eq (tgt := 23) hx hb dX6_heard_14 (by decide) (fun c3 => ?_) (fun c3 => ?_)
    · have hres := it_p hres c3
      have hok := io_p hok c3
      refine lv_aload_n hx hb dX6_heard_23 rfl (lv_at hl 0 rfl) ?_
      refine lv_iconst (v := (0 : Int32)) hx hb dX6_heard_24 (by decide) ?_
      refine R_X6_thrown_put (v := (0 : Int32)) (M2 := (ms M 0 (fun _ => (0 : Int32)))) C h in_fX6_56 rfl dX6_heard_25 (fun H locs h => ?_)
      refine lv_aload_n hx hb dX6_heard_28 rfl (lv_at hl 0 rfl) ?_
      refine R_X6_farPayload_get C h in_fX6_53 dX6_heard_29 ?_
      refine lv_iload_n hx hb dX6_heard_32 rfl (lv_at hl 1 rfl) ?_
      refine lv_bipush (v := (64 : Int32)) hx hb dX6_heard_33 (by decide) ?_
      refine lv_irem hx hb dX6_heard_35 (by decide) ?_
      have h4 := hok
      refine R_farPayload_ld (v := ((M 31) (a1 - a1 / (64 : Int32) * (64 : Int32)).toNatClampNeg)) C h h4 rfl dX6_heard_36 ?_
      exact wh_iret C h hres dX6_heard_37
    · have hres := it_n hres c3
      refine lv_aload_n hx hb dX6_heard_17 rfl (lv_at hl 0 rfl) ?_
      refine lv_iconst (v := (1 : Int32)) hx hb dX6_heard_18 (by decide) ?_
      refine wh_cvi (As := [.int (1 : Int32)]) (rest := []) hcs C h (c_X6_raise M (1 : Int32)) yw_X6_raise in_mX6_186 hl.1 rfl rfl (Nat.le_of_ble_eq_true rfl) ⟨Nat.le_trans (Nat.le_of_ble_eq_true rfl) hrf, Nat.le_trans (Nat.le_of_ble_eq_true rfl) hrl⟩ dX6_heard_19 (fun M5 r5 H locs e5 h => ?_)
      rw [e5] at hres
      have hres := bc_e hres
      exact wh_iret C h hres dX6_heard_22
theorem yw_X6_heard {cI : ClassId} {ad : Nat → Nat} : YV (wR cI ad) (ad 0) yX6_heard cX6_heard 2 (some .int) rmX6_heard 1 := ⟨fun M => ⟨0, 6, _, _, rfl, rfl, rfl⟩, in_cX6_heard, in_nX6_heard, in_vX6_heard, in_iX6, by decide +kernel, rfl, rfl⟩
theorem c_X6_heard {l : Launch} {D : va_G} {cI : ClassId} {ad : Nat → Nat} (M : Mem) (a1 : Int32) (hok : ok_X6_heard M a1) : KI l D [(cI, .int)] (wR cI ad) yX6_heard cX6_heard 2 rmX6_heard [.ref (ad 0), .int a1] M (f_X6_heard M a1) := met_i (by decide) (Nat.le_of_ble_eq_true rfl) (fun p e s m below meth c A C h ls hl => k_X6_heard_0 ⟨Nat.le_refl _, Nat.le_refl _⟩ (Nat.le_refl _) (Nat.le_refl _) C M a1 _ _ ls hok rfl h hl)
abbrev rmX6_task : Room := { frames := 1, cells := 0, slots := 0, locals := 20 }
def f_X6_task (M : Mem) (a1 a2 : Int32) : Mem × Int32 := (if (f_X6_isTask (ms M 0 (fun _ => (0 : Int32))) a1) = 0 then ((ms M 0 (fun _ => (0 : Int32))), (-1 : Int32)) else (if a2 < 0 then ((ms M 0 (fun _ => (0 : Int32))), (-1 : Int32)) else (if a2 ≤ (2 : Int32) then (if a2 = 0 then ((ms M 0 (fun _ => (0 : Int32))), ((M 23) a1.toNatClampNeg)) else (if a2 = (1 : Int32) then ((ms M 0 (fun _ => (0 : Int32))), ((M 24) a1.toNatClampNeg)) else ((ms M 0 (fun _ => (0 : Int32))), ((M 19) a1.toNatClampNeg)))) else ((ms M 0 (fun _ => (0 : Int32))), (-1 : Int32)))))
def ok_X6_task (M : Mem) (a1 a2 : Int32) : Prop := (if (f_X6_isTask (ms M 0 (fun _ => (0 : Int32))) a1) = 0 then True else (if a2 < 0 then True else (if a2 ≤ (2 : Int32) then (if a2 = 0 then vp_in a1 16 else (if a2 = (1 : Int32) then vp_in a1 16 else vp_in a1 16)) else True)))
set_option maxRecDepth 100000 in
set_option maxHeartbeats 4000000 in
theorem k_X6_task_0 {p : Program} {l : Launch} {e : Env} {s : State} {m : MethodId} {args : Array Value} {below : List Frame} {meth : Method} {c : Code} {D : va_G} {cI : ClassId} {ad : Nat → Nat} {A : Nat → Prop} {cells slots : Nat} {R : Room} (hcs : cells ≤ R.cells ∧ slots ≤ R.slots) (hrf : rmX6_task.frames ≤ R.frames) (hrl : rmX6_task.locals ≤ R.locals) {res : Mem × Int32} (C : CX p s m args meth c RX6 cX6_task 3 (some .int)) : ∀ (M : Mem) (a1 a2 : Int32) (H : Heap) (locs : List Loc) (ls : Array Slot), ok_X6_task M a1 a2 → f_X6_task M a1 a2 = res → WH D [(cI, .int)] (wR cI ad) A s H locs M → lv_has ls 3 [(0, .ref (ad 0)), (1, .int a1), (2, .int a2)] → W p l e R s m args below meth c H locs cells slots (MQ below (PI D [(cI, .int)] (wR cI ad) A res) args s cells slots A) (F0 m 0 ls []) := by
  have hx := C.1
  have hb := C.2.1
  have hown := C.2.2.2.2.1
  have hts := C.2.2.2.2.2.1
  intro M a1 a2 H locs ls hok hres h hl
  rw [ok_X6_task] at hok
  rw [f_X6_task] at hres
  refine lv_aload_n hx hb dX6_task_0 rfl (lv_at hl 0 rfl) ?_
  refine lv_iconst (v := (0 : Int32)) hx hb dX6_task_1 (by decide) ?_
  refine R_X6_thrown_put (v := (0 : Int32)) (M2 := (ms M 0 (fun _ => (0 : Int32)))) C h in_fX6_56 rfl dX6_task_2 (fun H locs h => ?_)
  refine lv_iload_n hx hb dX6_task_5 rfl (lv_at hl 1 rfl) ?_
  refine wh_cszp (As := [.int a1]) (rest := []) hcs C h (c_X6_isTask (ms M 0 (fun _ => (0 : Int32))) a1) yw_X6_isTask in_mX6_63 hl.1 rfl rfl (Nat.le_of_ble_eq_true rfl) ⟨Nat.le_trans (Nat.le_of_ble_eq_true rfl) hrf, Nat.le_trans (Nat.le_of_ble_eq_true rfl) hrl⟩ dX6_task_6 (fun H locs z1 h => ?_)
  refine lv_if_eq (tgt := 21) hx hb dX6_task_9 (by decide) (fun c2 => ?_) (fun c2 => ?_)
  · have hres := it_p hres c2
    refine lv_iconst (v := (-1 : Int32)) hx hb dX6_task_21 (by decide) ?_
    exact wh_iret C h hres dX6_task_22
  · have hres := it_n hres c2
    have hok := io_n hok c2
    refine lv_iload_n hx hb dX6_task_12 rfl (lv_at hl 2 rfl) ?_
    refine lv_if_lt (tgt := 21) hx hb dX6_task_13 (by decide) (fun c3 => ?_) (fun c3 => ?_)
    · have hres := it_p hres c3
      refine lv_iconst (v := (-1 : Int32)) hx hb dX6_task_21 (by decide) ?_
      exact wh_iret C h hres dX6_task_22
    · have hres := it_n hres c3
      have hok := io_n hok c3
      refine lv_iload_n hx hb dX6_task_16 rfl (lv_at hl 2 rfl) ?_
      refine lv_iconst (v := (2 : Int32)) hx hb dX6_task_17 (by decide) ?_
      refine lv_icmp_le (tgt := 23) hx hb dX6_task_18 (by decide) (fun c4 => ?_) (fun c4 => ?_)
      · have hres := it_p hres c4
        have hok := io_p hok c4
        refine lv_iload_n hx hb dX6_task_23 rfl (lv_at hl 2 rfl) ?_
        refine lv_if_ne (tgt := 36) hx hb dX6_task_24 (by decide) (fun c5 => ?_) (fun c5 => ?_)
        · have hres := it_n hres c5
          have hok := io_n hok c5
          refine lv_iload_n hx hb dX6_task_36 rfl (lv_at hl 2 rfl) ?_
          refine lv_iconst (v := (1 : Int32)) hx hb dX6_task_37 (by decide) ?_
          refine lv_icmp_ne (tgt := 50) hx hb dX6_task_38 (by decide) (fun c6 => ?_) (fun c6 => ?_)
          · have hres := it_n hres c6
            have hok := io_n hok c6
            refine lv_aload_n hx hb dX6_task_50 rfl (lv_at hl 0 rfl) ?_
            refine R_X6_size_get C h in_fX6_13 dX6_task_51 ?_
            refine lv_iload_n hx hb dX6_task_54 rfl (lv_at hl 1 rfl) ?_
            have h7 := hok
            refine R_size_ld (v := ((M 19) a1.toNatClampNeg)) C h h7 rfl dX6_task_55 ?_
            exact wh_iret C h hres dX6_task_56
          · have hres := it_p hres c6
            have hok := io_p hok c6
            refine lv_aload_n hx hb dX6_task_41 rfl (lv_at hl 0 rfl) ?_
            refine R_X6_failures_get C h in_fX6_28 dX6_task_42 ?_
            refine lv_iload_n hx hb dX6_task_45 rfl (lv_at hl 1 rfl) ?_
            have h8 := hok
            refine R_failures_ld (v := ((M 24) a1.toNatClampNeg)) C h h8 rfl dX6_task_46 ?_
            refine lv_goto (tgt := 56) hx hb dX6_task_47 (by decide) ?_
            exact wh_iret C h hres dX6_task_56
        · have hres := it_p hres c5
          have hok := io_p hok c5
          refine lv_aload_n hx hb dX6_task_27 rfl (lv_at hl 0 rfl) ?_
          refine R_X6_estimate_get C h in_fX6_25 dX6_task_28 ?_
          refine lv_iload_n hx hb dX6_task_31 rfl (lv_at hl 1 rfl) ?_
          have h9 := hok
          refine R_estimate_ld (v := ((M 23) a1.toNatClampNeg)) C h h9 rfl dX6_task_32 ?_
          refine lv_goto (tgt := 56) hx hb dX6_task_33 (by decide) ?_
          exact wh_iret C h hres dX6_task_56
      · have hres := it_n hres c4
        refine lv_iconst (v := (-1 : Int32)) hx hb dX6_task_21 (by decide) ?_
        exact wh_iret C h hres dX6_task_22
theorem yw_X6_task {cI : ClassId} {ad : Nat → Nat} : YV (wR cI ad) (ad 0) yX6_task cX6_task 3 (some .int) rmX6_task 2 := ⟨fun M => ⟨0, 6, _, _, rfl, rfl, rfl⟩, in_cX6_task, in_nX6_task, in_vX6_task, in_iX6, by decide +kernel, rfl, rfl⟩
theorem c_X6_task {l : Launch} {D : va_G} {cI : ClassId} {ad : Nat → Nat} (M : Mem) (a1 a2 : Int32) (hok : ok_X6_task M a1 a2) : KI l D [(cI, .int)] (wR cI ad) yX6_task cX6_task 3 rmX6_task [.ref (ad 0), .int a1, .int a2] M (f_X6_task M a1 a2) := met_i (by decide) (Nat.le_of_ble_eq_true rfl) (fun p e s m below meth c A C h ls hl => k_X6_task_0 ⟨Nat.le_refl _, Nat.le_refl _⟩ (Nat.le_refl _) (Nat.le_refl _) C M a1 a2 _ _ ls hok rfl h hl)
abbrev rmX6_register : Room := { frames := 0, cells := 0, slots := 0, locals := 0 }
def f_X6_register_21 (M : Mem) (x1 : Int32) : Mem × Int32 := (if x1 < 0 then (M, (0 : Int32)) else (if (8 : Int32) ≤ x1 then (M, (0 : Int32)) else (M, ((M 25) x1.toNatClampNeg))))
def ok_X6_register_21 (M : Mem) (x1 : Int32) : Prop := (if x1 < 0 then True else (if (8 : Int32) ≤ x1 then True else vp_in x1 8))
def f_X6_register (M : Mem) (a1 : Int32) : Mem × Int32 := (if (M 4 0) = (3 : Int32) then (f_X6_register_21 (ms M 0 (fun _ => (0 : Int32))) a1) else (if (M 4 0) = (4 : Int32) then (f_X6_register_21 (ms M 0 (fun _ => (0 : Int32))) a1) else ((ms M 0 (fun _ => (0 : Int32))), (0 : Int32))))
def ok_X6_register (M : Mem) (a1 : Int32) : Prop := (if (M 4 0) = (3 : Int32) then ok_X6_register_21 (ms M 0 (fun _ => (0 : Int32))) a1 else (if (M 4 0) = (4 : Int32) then ok_X6_register_21 (ms M 0 (fun _ => (0 : Int32))) a1 else True))
set_option maxRecDepth 100000 in
set_option maxHeartbeats 4000000 in
theorem k_X6_register_21 {p : Program} {l : Launch} {e : Env} {s : State} {m : MethodId} {args : Array Value} {below : List Frame} {meth : Method} {c : Code} {D : va_G} {cI : ClassId} {ad : Nat → Nat} {A : Nat → Prop} {cells slots : Nat} {R : Room} (hcs : cells ≤ R.cells ∧ slots ≤ R.slots) (hrf : rmX6_register.frames ≤ R.frames) (hrl : rmX6_register.locals ≤ R.locals) {res : Mem × Int32} (C : CX p s m args meth c RX6 cX6_register 2 (some .int)) : ∀ (M : Mem) (x1 : Int32) (H : Heap) (locs : List Loc) (ls : Array Slot), ok_X6_register_21 M x1 → f_X6_register_21 M x1 = res → WH D [(cI, .int)] (wR cI ad) A s H locs M → lv_has ls 2 [(0, .ref (ad 0)), (1, .int x1)] → W p l e R s m args below meth c H locs cells slots (MQ below (PI D [(cI, .int)] (wR cI ad) A res) args s cells slots A) (F0 m 21 ls []) := by
  have hx := C.1
  have hb := C.2.1
  have hown := C.2.2.2.2.1
  have hts := C.2.2.2.2.2.1
  intro M x1 H locs ls hok hres h hl
  rw [ok_X6_register_21] at hok
  rw [f_X6_register_21] at hres
  refine lv_iload_n hx hb dX6_register_21 rfl (lv_at hl 1 rfl) ?_
  refine lv_if_lt (tgt := 40) hx hb dX6_register_22 (by decide) (fun c2 => ?_) (fun c2 => ?_)
  · have hres := it_p hres c2
    refine lv_iconst (v := (0 : Int32)) hx hb dX6_register_40 (by decide) ?_
    exact wh_iret C h hres dX6_register_41
  · have hres := it_n hres c2
    have hok := io_n hok c2
    refine lv_iload_n hx hb dX6_register_25 rfl (lv_at hl 1 rfl) ?_
    refine lv_bipush (v := (8 : Int32)) hx hb dX6_register_26 (by decide) ?_
    refine lv_icmp_ge (tgt := 40) hx hb dX6_register_28 (by decide) (fun c3 => ?_) (fun c3 => ?_)
    · have hres := it_p hres c3
      refine lv_iconst (v := (0 : Int32)) hx hb dX6_register_40 (by decide) ?_
      exact wh_iret C h hres dX6_register_41
    · have hres := it_n hres c3
      have hok := io_n hok c3
      refine lv_aload_n hx hb dX6_register_31 rfl (lv_at hl 0 rfl) ?_
      refine R_X6_register_get C h in_fX6_35 dX6_register_32 ?_
      refine lv_iload_n hx hb dX6_register_35 rfl (lv_at hl 1 rfl) ?_
      have h4 := hok
      refine R_register_ld (v := ((M 25) x1.toNatClampNeg)) C h h4 rfl dX6_register_36 ?_
      refine lv_goto (tgt := 41) hx hb dX6_register_37 (by decide) ?_
      exact wh_iret C h hres dX6_register_41
set_option maxRecDepth 100000 in
set_option maxHeartbeats 4000000 in
theorem k_X6_register_0 {p : Program} {l : Launch} {e : Env} {s : State} {m : MethodId} {args : Array Value} {below : List Frame} {meth : Method} {c : Code} {D : va_G} {cI : ClassId} {ad : Nat → Nat} {A : Nat → Prop} {cells slots : Nat} {R : Room} (hcs : cells ≤ R.cells ∧ slots ≤ R.slots) (hrf : rmX6_register.frames ≤ R.frames) (hrl : rmX6_register.locals ≤ R.locals) {res : Mem × Int32} (C : CX p s m args meth c RX6 cX6_register 2 (some .int)) : ∀ (M : Mem) (a1 : Int32) (H : Heap) (locs : List Loc) (ls : Array Slot), ok_X6_register M a1 → f_X6_register M a1 = res → WH D [(cI, .int)] (wR cI ad) A s H locs M → lv_has ls 2 [(0, .ref (ad 0)), (1, .int a1)] → W p l e R s m args below meth c H locs cells slots (MQ below (PI D [(cI, .int)] (wR cI ad) A res) args s cells slots A) (F0 m 0 ls []) := by
  have hx := C.1
  have hb := C.2.1
  have hown := C.2.2.2.2.1
  have hts := C.2.2.2.2.2.1
  intro M a1 H locs ls hok hres h hl
  rw [ok_X6_register] at hok
  rw [f_X6_register] at hres
  refine lv_aload_n hx hb dX6_register_0 rfl (lv_at hl 0 rfl) ?_
  refine lv_iconst (v := (0 : Int32)) hx hb dX6_register_1 (by decide) ?_
  refine R_X6_thrown_put (v := (0 : Int32)) (M2 := (ms M 0 (fun _ => (0 : Int32)))) C h in_fX6_56 rfl dX6_register_2 (fun H locs h => ?_)
  refine lv_aload_n hx hb dX6_register_5 rfl (lv_at hl 0 rfl) ?_
  refine R_X6_phase_get (v := (M 4 0)) C h in_fX6_93 rfl dX6_register_6 ?_
  refine lv_iconst (v := (3 : Int32)) hx hb dX6_register_9 (by decide) ?_
  refine lv_icmp_eq (tgt := 21) hx hb dX6_register_10 (by decide) (fun c1 => ?_) (fun c1 => ?_)
  · have hres := it_p hres c1
    have hok := io_p hok c1
    exact k_X6_register_21 hcs hrf hrl C (ms M 0 (fun _ => (0 : Int32))) a1 _ _ _ hok hres h (lv_sub hl [0, 1] rfl)
  · have hres := it_n hres c1
    have hok := io_n hok c1
    refine lv_aload_n hx hb dX6_register_13 rfl (lv_at hl 0 rfl) ?_
    refine R_X6_phase_get (v := (M 4 0)) C h in_fX6_93 rfl dX6_register_14 ?_
    refine lv_iconst (v := (4 : Int32)) hx hb dX6_register_17 (by decide) ?_
    refine lv_icmp_ne (tgt := 40) hx hb dX6_register_18 (by decide) (fun c5 => ?_) (fun c5 => ?_)
    · have hres := it_n hres c5
      refine lv_iconst (v := (0 : Int32)) hx hb dX6_register_40 (by decide) ?_
      exact wh_iret C h hres dX6_register_41
    · have hres := it_p hres c5
      have hok := io_p hok c5
      exact k_X6_register_21 hcs hrf hrl C (ms M 0 (fun _ => (0 : Int32))) a1 _ _ _ hok hres h (lv_sub hl [0, 1] rfl)
theorem yw_X6_register {cI : ClassId} {ad : Nat → Nat} : YV (wR cI ad) (ad 0) yX6_register cX6_register 2 (some .int) rmX6_register 1 := ⟨fun M => ⟨0, 6, _, _, rfl, rfl, rfl⟩, in_cX6_register, in_nX6_register, in_vX6_register, in_iX6, by decide +kernel, rfl, rfl⟩
theorem c_X6_register {l : Launch} {D : va_G} {cI : ClassId} {ad : Nat → Nat} (M : Mem) (a1 : Int32) (hok : ok_X6_register M a1) : KI l D [(cI, .int)] (wR cI ad) yX6_register cX6_register 2 rmX6_register [.ref (ad 0), .int a1] M (f_X6_register M a1) := met_i (by decide) (Nat.le_of_ble_eq_true rfl) (fun p e s m below meth c A C h ls hl => k_X6_register_0 ⟨Nat.le_refl _, Nat.le_refl _⟩ (Nat.le_refl _) (Nat.le_refl _) C M a1 _ _ ls hok rfl h hl)
