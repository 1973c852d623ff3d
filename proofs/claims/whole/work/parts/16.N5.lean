abbrev rmX5_program : Room := { frames := 2, cells := 0, slots := 0, locals := 44 }
def f_X5_program (M : Mem) (a1 a2 a3 : Int32) : Mem × Int32 := (bc (f_X1_put M a1 a2 a3) (fun M1 r1 => (M1, r1)))
def ok_X5_program (M : Mem) (a1 a2 a3 : Int32) : Prop := ok_X1_put M a1 a2 a3
set_option maxRecDepth 100000 in
set_option maxHeartbeats 4000000 in
theorem k_X5_program_0 {p : Program} {l : Launch} {e : Env} {s : State} {m : MethodId} {args : Array Value} {below : List Frame} {meth : Method} {c : Code} {D : va_G} {cI : ClassId} {ad : Nat → Nat} {A : Nat → Prop} {cells slots : Nat} {R : Room} (hcs : cells ≤ R.cells ∧ slots ≤ R.slots) (hrf : rmX5_program.frames ≤ R.frames) (hrl : rmX5_program.locals ≤ R.locals) {res : Mem × Int32} (C : CX p s m args meth c RX5 cX5_program 4 (some .boolean)) : ∀ (M : Mem) (a1 a2 a3 : Int32) (H : Heap) (locs : List Loc) (ls : Array Slot), ok_X5_program M a1 a2 a3 → f_X5_program M a1 a2 a3 = res → WH D [(cI, .int)] (wN cI ad) A s H locs M → lv_has ls 4 [(0, .ref (ad 0)), (1, .int a1), (2, .int a2), (3, .int a3)] → W p l e R s m args below meth c H locs cells slots (MQ below (PZ D [(cI, .int)] (wN cI ad) A res) args s cells slots A) (F0 m 0 ls []) := by
  have hx := C.1
  have hb := C.2.1
  have hown := C.2.2.2.2.1
  have hts := C.2.2.2.2.2.1
  intro M a1 a2 a3 H locs ls hok hres h hl
  rw [ok_X5_program] at hok
  rw [f_X5_program] at hres
  refine lv_aload_n hx hb dX5_program_0 rfl (lv_at hl 0 rfl) ?_
  refine N_X5_code_get C h in_fX5_10 dX5_program_1 ?_
  refine lv_iload_n hx hb dX5_program_4 rfl (lv_at hl 1 rfl) ?_
  refine lv_iload_n hx hb dX5_program_5 rfl (lv_at hl 2 rfl) ?_
  refine lv_iload_n hx hb dX5_program_6 rfl (lv_at hl 3 rfl) ?_
  have h2 := hok
  refine wh_cvz (As := [.int a1, .int a2, .int a3]) (rest := []) hcs C h (c_X1_put M a1 a2 a3 h2) yw_X1_put in_mX5_56 hl.1 rfl rfl (Nat.le_of_ble_eq_true rfl) ⟨Nat.le_trans (Nat.le_of_ble_eq_true rfl) hrf, Nat.le_trans (Nat.le_of_ble_eq_true rfl) hrl⟩ dX5_program_7 (fun M1 r1 H locs e1 z1 h => ?_)
  rw [e1] at hres
  have hres := bc_e hres
  exact wh_zret C h z1 hres dX5_program_10
theorem yw_X5_program {cI : ClassId} {ad : Nat → Nat} : YV (wN cI ad) (ad 0) yX5_program cX5_program 4 (some .boolean) rmX5_program 3 := ⟨fun M => ⟨0, 5, _, _, rfl, rfl, rfl⟩, in_cX5_program, in_nX5_program, in_vX5_program, in_iX5, by decide +kernel, rfl, rfl⟩
theorem c_X5_program {l : Launch} {D : va_G} {cI : ClassId} {ad : Nat → Nat} (M : Mem) (a1 a2 a3 : Int32) (hok : ok_X5_program M a1 a2 a3) : KZ l D [(cI, .int)] (wN cI ad) yX5_program cX5_program 4 rmX5_program [.ref (ad 0), .int a1, .int a2, .int a3] M (f_X5_program M a1 a2 a3) := met_z (by decide) (Nat.le_of_ble_eq_true rfl) (fun p e s m below meth c A C h ls hl => k_X5_program_0 ⟨Nat.le_refl _, Nat.le_refl _⟩ (Nat.le_refl _) (Nat.le_refl _) C M a1 a2 a3 _ _ ls hok rfl h hl)
abbrev rmX5_seal : Room := { frames := 4, cells := 0, slots := 0, locals := 89 }
def f_X5_seal (M : Mem) : Mem × Int32 := (bc (f_X1_close M) (fun M1 r1 => (M1, r1)))
def ok_X5_seal (M : Mem) : Prop := ok_X1_close M
set_option maxRecDepth 100000 in
set_option maxHeartbeats 4000000 in
theorem k_X5_seal_0 {p : Program} {l : Launch} {e : Env} {s : State} {m : MethodId} {args : Array Value} {below : List Frame} {meth : Method} {c : Code} {D : va_G} {cI : ClassId} {ad : Nat → Nat} {A : Nat → Prop} {cells slots : Nat} {R : Room} (hcs : cells ≤ R.cells ∧ slots ≤ R.slots) (hrf : rmX5_seal.frames ≤ R.frames) (hrl : rmX5_seal.locals ≤ R.locals) {res : Mem × Int32} (C : CX p s m args meth c RX5 cX5_seal 1 (some .int)) : ∀ (M : Mem) (H : Heap) (locs : List Loc) (ls : Array Slot), ok_X5_seal M → f_X5_seal M = res → WH D [(cI, .int)] (wN cI ad) A s H locs M → lv_has ls 1 [(0, .ref (ad 0))] → W p l e R s m args below meth c H locs cells slots (MQ below (PI D [(cI, .int)] (wN cI ad) A res) args s cells slots A) (F0 m 0 ls []) := by
  have hx := C.1
  have hb := C.2.1
  have hown := C.2.2.2.2.1
  have hts := C.2.2.2.2.2.1
  intro M H locs ls hok hres h hl
  rw [ok_X5_seal] at hok
  rw [f_X5_seal] at hres
  refine lv_aload_n hx hb dX5_seal_0 rfl (lv_at hl 0 rfl) ?_
  refine N_X5_code_get C h in_fX5_10 dX5_seal_1 ?_
  have h2 := hok
  refine wh_cvi (As := []) (rest := []) hcs C h (c_X1_close M h2) yw_X1_close in_mX5_60 hl.1 rfl rfl (Nat.le_of_ble_eq_true rfl) ⟨Nat.le_trans (Nat.le_of_ble_eq_true rfl) hrf, Nat.le_trans (Nat.le_of_ble_eq_true rfl) hrl⟩ dX5_seal_4 (fun M1 r1 H locs e1 h => ?_)
  rw [e1] at hres
  have hres := bc_e hres
  exact wh_iret C h hres dX5_seal_7
theorem yw_X5_seal {cI : ClassId} {ad : Nat → Nat} : YV (wN cI ad) (ad 0) yX5_seal cX5_seal 1 (some .int) rmX5_seal 0 := ⟨fun M => ⟨0, 5, _, _, rfl, rfl, rfl⟩, in_cX5_seal, in_nX5_seal, in_vX5_seal, in_iX5, by decide +kernel, rfl, rfl⟩
theorem c_X5_seal {l : Launch} {D : va_G} {cI : ClassId} {ad : Nat → Nat} (M : Mem) (hok : ok_X5_seal M) : KI l D [(cI, .int)] (wN cI ad) yX5_seal cX5_seal 1 rmX5_seal [.ref (ad 0)] M (f_X5_seal M) := met_i (by decide) (Nat.le_of_ble_eq_true rfl) (fun p e s m below meth c A C h ls hl => k_X5_seal_0 ⟨Nat.le_refl _, Nat.le_refl _⟩ (Nat.le_refl _) (Nat.le_refl _) C M _ _ ls hok rfl h hl)
abbrev rmX5_currentTask : Room := { frames := 0, cells := 0, slots := 0, locals := 0 }
def f_X5_currentTask (M : Mem) : Int32 := (((M 13) 0) &&& (15 : Int32))
set_option maxRecDepth 100000 in
set_option maxHeartbeats 4000000 in
theorem k_X5_currentTask_0 {p : Program} {l : Launch} {e : Env} {s : State} {m : MethodId} {args : Array Value} {below : List Frame} {meth : Method} {c : Code} {D : va_G} {cI : ClassId} {ad : Nat → Nat} {A : Nat → Prop} {cells slots : Nat} {R : Room} (hcs : cells ≤ R.cells ∧ slots ≤ R.slots) (hrf : rmX5_currentTask.frames ≤ R.frames) (hrl : rmX5_currentTask.locals ≤ R.locals) {r0 : Int32} (C : CX p s m args meth c RX5 cX5_currentTask 1 (some .int)) : ∀ (M : Mem) (H : Heap) (locs : List Loc) (ls : Array Slot), f_X5_currentTask M = r0 → WH D [(cI, .int)] (wN cI ad) A s H locs M → lv_has ls 1 [(0, .ref (ad 0))] → W p l e R s m args below meth c H locs cells slots (MQ below (PI D [(cI, .int)] (wN cI ad) A (M, r0)) args s cells slots A) (F0 m 0 ls []) := by
  have hx := C.1
  have hb := C.2.1
  have hown := C.2.2.2.2.1
  have hts := C.2.2.2.2.2.1
  intro M H locs ls hres h hl
  rw [f_X5_currentTask] at hres
  refine lv_aload_n hx hb dX5_currentTask_0 rfl (lv_at hl 0 rfl) ?_
  refine N_X5_store_get C h in_fX5_19 dX5_currentTask_1 ?_
  refine N_X4_words_get C h in_fX5_110 dX5_currentTask_4 ?_
  refine lv_iconst (v := (0 : Int32)) hx hb dX5_currentTask_7 (by decide) ?_
  refine N_sw_ld (v := ((M 13) 0)) C h (vp_l (by decide)) rfl dX5_currentTask_8 ?_
  refine lv_bipush (v := (15 : Int32)) hx hb dX5_currentTask_9 (by decide) ?_
  refine lv_iand hx hb dX5_currentTask_11 ?_
  exact wh_iret C h (cz hres) dX5_currentTask_12
theorem yw_X5_currentTask {cI : ClassId} {ad : Nat → Nat} : YV (wN cI ad) (ad 0) yX5_currentTask cX5_currentTask 1 (some .int) rmX5_currentTask 0 := ⟨fun M => ⟨0, 5, _, _, rfl, rfl, rfl⟩, in_cX5_currentTask, in_nX5_currentTask, in_vX5_currentTask, in_iX5, by decide +kernel, rfl, rfl⟩
theorem c_X5_currentTask {l : Launch} {D : va_G} {cI : ClassId} {ad : Nat → Nat} (M : Mem) : KI l D [(cI, .int)] (wN cI ad) yX5_currentTask cX5_currentTask 1 rmX5_currentTask [.ref (ad 0)] M (M, f_X5_currentTask M) := met_i (by decide) (Nat.le_of_ble_eq_true rfl) (fun p e s m below meth c A C h ls hl => k_X5_currentTask_0 ⟨Nat.le_refl _, Nat.le_refl _⟩ (Nat.le_refl _) (Nat.le_refl _) C M _ _ ls rfl h hl)
abbrev rmX5_boot : Room := { frames := 1, cells := 0, slots := 0, locals := 21 }
def f_X5_boot (M : Mem) : Mem × Int32 := (if (M 4 0) = (-1 : Int32) then (if (if (((M 31) (f_X5_currentTask M).toNatClampNeg) + (60 : Int32)) < (2000 : Int32) then (((M 31) (f_X5_currentTask M).toNatClampNeg) + (60 : Int32)) else (2000 : Int32)) ≤ (M 1 0) then (if ((M 13) 2) = 0 then ((ms (ms (ms (ms M 1 (fun _ => ((M 1 0) - (60 : Int32)))) 7 (fun _ => (0 : Int32))) 9 (fun _ => (0 : Int32))) 0 (fun _ => (2 : Int32))), (1 : Int32)) else ((ms (ms (ms (ms M 1 (fun _ => ((M 1 0) - (60 : Int32)))) 7 (fun _ => (0 : Int32))) 9 (fun _ => (0 : Int32))) 0 (fun _ => (1 : Int32))), (1 : Int32))) else (M, (0 : Int32))) else (M, (0 : Int32)))
def ok_X5_boot (M : Mem) : Prop := vp_in (f_X5_currentTask M) 16
set_option maxRecDepth 100000 in
set_option maxHeartbeats 4000000 in
theorem k_X5_boot_0 {p : Program} {l : Launch} {e : Env} {s : State} {m : MethodId} {args : Array Value} {below : List Frame} {meth : Method} {c : Code} {D : va_G} {cI : ClassId} {ad : Nat → Nat} {A : Nat → Prop} {cells slots : Nat} {R : Room} (hcs : cells ≤ R.cells ∧ slots ≤ R.slots) (hrf : rmX5_boot.frames ≤ R.frames) (hrl : rmX5_boot.locals ≤ R.locals) {res : Mem × Int32} (C : CX p s m args meth c RX5 cX5_boot 2 (some .boolean)) : ∀ (M : Mem) (H : Heap) (locs : List Loc) (ls : Array Slot), ok_X5_boot M → f_X5_boot M = res → WH D [(cI, .int)] (wN cI ad) A s H locs M → lv_has ls 2 [(0, .ref (ad 0))] → W p l e R s m args below meth c H locs cells slots (MQ below (PZ D [(cI, .int)] (wN cI ad) A res) args s cells slots A) (F0 m 0 ls []) := by
  have hx := C.1
  have hb := C.2.1
  have hown := C.2.2.2.2.1
  have hts := C.2.2.2.2.2.1
  intro M H locs ls hok hres h hl
  rw [ok_X5_boot] at hok
  rw [f_X5_boot] at hres
  refine lv_sipush (v := (2000 : Int32)) hx hb dX5_boot_0 (by decide) ?_
  refine lv_aload_n hx hb dX5_boot_3 rfl (lv_at hl 0 rfl) ?_
  refine N_X5_estimates_get C h in_fX5_43 dX5_boot_4 ?_
  refine lv_aload_n hx hb dX5_boot_7 rfl (lv_at hl 0 rfl) ?_
  refine wh_cvip (As := []) (rest := [.ref (ad 18), .int (2000 : Int32)]) hcs C h (c_X5_currentTask M) yw_X5_currentTask in_mX5_159 hl.1 rfl rfl (Nat.le_of_ble_eq_true rfl) ⟨Nat.le_trans (Nat.le_of_ble_eq_true rfl) hrf, Nat.le_trans (Nat.le_of_ble_eq_true rfl) hrl⟩ dX5_boot_8 (fun H locs h => ?_)
  have h5 := hok
  refine N_es_ld (v := ((M 31) (f_X5_currentTask M).toNatClampNeg)) C h h5 rfl dX5_boot_11 ?_
  refine lv_bipush (v := (60 : Int32)) hx hb dX5_boot_12 (by decide) ?_
  refine lv_iadd hx hb dX5_boot_14 ?_
  refine wh_mmin C in_mX5_83 hl.1 (Nat.le_trans (Nat.le_of_ble_eq_true rfl) hrf) (Nat.le_trans (Nat.le_of_ble_eq_true rfl) hrl) hcs dX5_boot_15 ?_
  refine lv_istore_n (lv' := [(1, .int (if (((M 31) (f_X5_currentTask M).toNatClampNeg) + (60 : Int32)) < (2000 : Int32) then (((M 31) (f_X5_currentTask M).toNatClampNeg) + (60 : Int32)) else (2000 : Int32))), (0, .ref (ad 0))]) hx hb dX5_boot_18 rfl hl (by decide) rfl (fun ls hl => ?_)
  refine lv_aload_n hx hb dX5_boot_19 rfl (lv_at hl 1 rfl) ?_
  refine N_X5_givenUp_get (v := (M 4 0)) C h in_fX5_53 rfl dX5_boot_20 ?_
  refine lv_iconst (v := (-1 : Int32)) hx hb dX5_boot_23 (by decide) ?_
  refine lv_icmp_ne (tgt := 35) hx hb dX5_boot_24 (by decide) (fun c2 => ?_) (fun c2 => ?_)
  · have hres := it_n hres c2
    refine lv_iconst (v := (0 : Int32)) hx hb dX5_boot_35 (by decide) ?_
    exact wh_zret C h nb_0 hres dX5_boot_36
  · have hres := it_p hres c2
    refine lv_aload_n hx hb dX5_boot_27 rfl (lv_at hl 1 rfl) ?_
    refine N_X5_energy_get (v := (M 1 0)) C h in_fX5_80 rfl dX5_boot_28 ?_
    refine lv_iload_n hx hb dX5_boot_31 rfl (lv_at hl 0 rfl) ?_
    refine lv_icmp_ge (tgt := 37) hx hb dX5_boot_32 (by decide) (fun c3 => ?_) (fun c3 => ?_)
    · have hres := it_p hres c3
      refine lv_aload_n hx hb dX5_boot_37 rfl (lv_at hl 1 rfl) ?_
      refine lv_dup hx hb dX5_boot_38 rfl ?_
      refine N_X5_energy_get (v := (M 1 0)) C h in_fX5_80 rfl dX5_boot_39 ?_
      refine lv_bipush (v := (60 : Int32)) hx hb dX5_boot_42 (by decide) ?_
      refine lv_isub hx hb dX5_boot_44 ?_
      refine N_X5_energy_put (v := ((M 1 0) - (60 : Int32))) (M2 := (ms M 1 (fun _ => ((M 1 0) - (60 : Int32))))) C h in_fX5_80 rfl dX5_boot_45 (fun H locs h => ?_)
      refine lv_aload_n hx hb dX5_boot_48 rfl (lv_at hl 1 rfl) ?_
      refine lv_iconst (v := (0 : Int32)) hx hb dX5_boot_49 (by decide) ?_
      refine N_X5_replayed_put (v := (0 : Int32)) (M2 := (ms (ms M 1 (fun _ => ((M 1 0) - (60 : Int32)))) 7 (fun _ => (0 : Int32)))) C h in_fX5_162 rfl dX5_boot_50 (fun H locs h => ?_)
      refine lv_aload_n hx hb dX5_boot_53 rfl (lv_at hl 1 rfl) ?_
      refine lv_iconst (v := (0 : Int32)) hx hb dX5_boot_54 (by decide) ?_
      refine N_X5_noteIsDue_put (v := (0 : Int32)) (M2 := (ms (ms (ms M 1 (fun _ => ((M 1 0) - (60 : Int32)))) 7 (fun _ => (0 : Int32))) 9 (fun _ => (0 : Int32)))) C h in_fX5_165 nb_0 rfl dX5_boot_55 (fun H locs h => ?_)
      refine lv_aload_n hx hb dX5_boot_58 rfl (lv_at hl 1 rfl) ?_
      refine lv_aload_n hx hb dX5_boot_59 rfl (lv_at hl 1 rfl) ?_
      refine N_X5_store_get C h in_fX5_19 dX5_boot_60 ?_
      refine N_X4_words_get C h in_fX5_110 dX5_boot_63 ?_
      refine lv_iconst (v := (2 : Int32)) hx hb dX5_boot_66 (by decide) ?_
      refine N_sw_ld (v := ((M 13) 2)) C h (vp_l (by decide)) rfl dX5_boot_67 ?_
      refine lv_if_eq (tgt := 75) hx hb dX5_boot_68 (by decide) (fun c4 => ?_) (fun c4 => ?_)
      · have hres := it_p hres c4
        refine lv_iconst (v := (2 : Int32)) hx hb dX5_boot_75 (by decide) ?_
        refine N_X5_phase_put (v := (2 : Int32)) (M2 := (ms (ms (ms (ms M 1 (fun _ => ((M 1 0) - (60 : Int32)))) 7 (fun _ => (0 : Int32))) 9 (fun _ => (0 : Int32))) 0 (fun _ => (2 : Int32)))) C h in_fX5_49 rfl dX5_boot_76 (fun H locs h => ?_)
        refine lv_iconst (v := (1 : Int32)) hx hb dX5_boot_79 (by decide) ?_
        exact wh_zret C h nb_1 hres dX5_boot_80
      · have hres := it_n hres c4
        refine lv_iconst (v := (1 : Int32)) hx hb dX5_boot_71 (by decide) ?_
        refine lv_goto (tgt := 76) hx hb dX5_boot_72 (by decide) ?_
        refine N_X5_phase_put (v := (1 : Int32)) (M2 := (ms (ms (ms (ms M 1 (fun _ => ((M 1 0) - (60 : Int32)))) 7 (fun _ => (0 : Int32))) 9 (fun _ => (0 : Int32))) 0 (fun _ => (1 : Int32)))) C h in_fX5_49 rfl dX5_boot_76 (fun H locs h => ?_)
        refine lv_iconst (v := (1 : Int32)) hx hb dX5_boot_79 (by decide) ?_
        exact wh_zret C h nb_1 hres dX5_boot_80
    · have hres := it_n hres c3
      refine lv_iconst (v := (0 : Int32)) hx hb dX5_boot_35 (by decide) ?_
      exact wh_zret C h nb_0 hres dX5_boot_36
theorem yw_X5_boot {cI : ClassId} {ad : Nat → Nat} : YV (wN cI ad) (ad 0) yX5_boot cX5_boot 2 (some .boolean) rmX5_boot 0 := ⟨fun M => ⟨0, 5, _, _, rfl, rfl, rfl⟩, in_cX5_boot, in_nX5_boot, in_vX5_boot, in_iX5, by decide +kernel, rfl, rfl⟩
theorem c_X5_boot {l : Launch} {D : va_G} {cI : ClassId} {ad : Nat → Nat} (M : Mem) (hok : ok_X5_boot M) : KZ l D [(cI, .int)] (wN cI ad) yX5_boot cX5_boot 2 rmX5_boot [.ref (ad 0)] M (f_X5_boot M) := met_z (by decide) (Nat.le_of_ble_eq_true rfl) (fun p e s m below meth c A C h ls hl => k_X5_boot_0 ⟨Nat.le_refl _, Nat.le_refl _⟩ (Nat.le_refl _) (Nat.le_refl _) C M _ _ ls hok rfl h hl)
abbrev rmX5_nextInstruction : Room := { frames := 2, cells := 0, slots := 0, locals := 43 }
def f_X5_nextInstruction (M : Mem) : Int32 := (f_X1_wordAt M (M 15 0) (M 16 0))
def ok_X5_nextInstruction (M : Mem) : Prop := ok_X1_wordAt M (M 15 0) (M 16 0)
set_option maxRecDepth 100000 in
set_option maxHeartbeats 4000000 in
theorem k_X5_nextInstruction_0 {p : Program} {l : Launch} {e : Env} {s : State} {m : MethodId} {args : Array Value} {below : List Frame} {meth : Method} {c : Code} {D : va_G} {cI : ClassId} {ad : Nat → Nat} {A : Nat → Prop} {cells slots : Nat} {R : Room} (hcs : cells ≤ R.cells ∧ slots ≤ R.slots) (hrf : rmX5_nextInstruction.frames ≤ R.frames) (hrl : rmX5_nextInstruction.locals ≤ R.locals) {r0 : Int32} (C : CX p s m args meth c RX5 cX5_nextInstruction 1 (some .int)) : ∀ (M : Mem) (H : Heap) (locs : List Loc) (ls : Array Slot), ok_X5_nextInstruction M → f_X5_nextInstruction M = r0 → WH D [(cI, .int)] (wN cI ad) A s H locs M → lv_has ls 1 [(0, .ref (ad 0))] → W p l e R s m args below meth c H locs cells slots (MQ below (PI D [(cI, .int)] (wN cI ad) A (M, r0)) args s cells slots A) (F0 m 0 ls []) := by
  have hx := C.1
  have hb := C.2.1
  have hown := C.2.2.2.2.1
  have hts := C.2.2.2.2.2.1
  intro M H locs ls hok hres h hl
  rw [ok_X5_nextInstruction] at hok
  rw [f_X5_nextInstruction] at hres
  refine lv_aload_n hx hb dX5_nextInstruction_0 rfl (lv_at hl 0 rfl) ?_
  refine N_X5_code_get C h in_fX5_10 dX5_nextInstruction_1 ?_
  refine lv_aload_n hx hb dX5_nextInstruction_4 rfl (lv_at hl 0 rfl) ?_
  refine N_X5_attempt_get C h in_fX5_32 dX5_nextInstruction_5 ?_
  refine N_X0_task_get (v := (M 15 0)) C h in_fX5_205 rfl dX5_nextInstruction_8 ?_
  refine lv_aload_n hx hb dX5_nextInstruction_11 rfl (lv_at hl 0 rfl) ?_
  refine N_X5_attempt_get C h in_fX5_32 dX5_nextInstruction_12 ?_
  refine N_X0_next_get (v := (M 16 0)) C h in_fX5_141 rfl dX5_nextInstruction_15 ?_
  have h2 := hok
  refine wh_cvip (As := [.int (M 15 0), .int (M 16 0)]) (rest := []) hcs C h (c_X1_wordAt M (M 15 0) (M 16 0) h2) yw_X1_wordAt in_mX5_208 hl.1 rfl rfl (Nat.le_of_ble_eq_true rfl) ⟨Nat.le_trans (Nat.le_of_ble_eq_true rfl) hrf, Nat.le_trans (Nat.le_of_ble_eq_true rfl) hrl⟩ dX5_nextInstruction_18 (fun H locs h => ?_)
  exact wh_iret C h (cz hres) dX5_nextInstruction_21
theorem yw_X5_nextInstruction {cI : ClassId} {ad : Nat → Nat} : YV (wN cI ad) (ad 0) yX5_nextInstruction cX5_nextInstruction 1 (some .int) rmX5_nextInstruction 0 := ⟨fun M => ⟨0, 5, _, _, rfl, rfl, rfl⟩, in_cX5_nextInstruction, in_nX5_nextInstruction, in_vX5_nextInstruction, in_iX5, by decide +kernel, rfl, rfl⟩
theorem c_X5_nextInstruction {l : Launch} {D : va_G} {cI : ClassId} {ad : Nat → Nat} (M : Mem) (hok : ok_X5_nextInstruction M) : KI l D [(cI, .int)] (wN cI ad) yX5_nextInstruction cX5_nextInstruction 1 rmX5_nextInstruction [.ref (ad 0)] M (M, f_X5_nextInstruction M) := met_i (by decide) (Nat.le_of_ble_eq_true rfl) (fun p e s m below meth c A C h ls hl => k_X5_nextInstruction_0 ⟨Nat.le_refl _, Nat.le_refl _⟩ (Nat.le_refl _) (Nat.le_refl _) C M _ _ ls hok rfl h hl)
abbrev rmX5_costOfStep : Room := { frames := 3, cells := 0, slots := 0, locals := 63 }
def f_X5_costOfStep (M : Mem) : Int32 := (if (M 0 0) = (3 : Int32) then (f_X1_costOf M (f_X5_nextInstruction M)) else (if (M 0 0) = (2 : Int32) then (if (M 9 0) = 0 then (20 : Int32) else (4 : Int32)) else (4 : Int32)))
def ok_X5_costOfStep (M : Mem) : Prop := (if (M 0 0) = (3 : Int32) then ok_X5_nextInstruction M ∧ ok_X1_costOf M (f_X5_nextInstruction M) else True)
set_option maxRecDepth 100000 in
set_option maxHeartbeats 4000000 in
theorem k_X5_costOfStep_0 {p : Program} {l : Launch} {e : Env} {s : State} {m : MethodId} {args : Array Value} {below : List Frame} {meth : Method} {c : Code} {D : va_G} {cI : ClassId} {ad : Nat → Nat} {A : Nat → Prop} {cells slots : Nat} {R : Room} (hcs : cells ≤ R.cells ∧ slots ≤ R.slots) (hrf : rmX5_costOfStep.frames ≤ R.frames) (hrl : rmX5_costOfStep.locals ≤ R.locals) {r0 : Int32} (C : CX p s m args meth c RX5 cX5_costOfStep 1 (some .int)) : ∀ (M : Mem) (H : Heap) (locs : List Loc) (ls : Array Slot), ok_X5_costOfStep M → f_X5_costOfStep M = r0 → WH D [(cI, .int)] (wN cI ad) A s H locs M → lv_has ls 1 [(0, .ref (ad 0))] → W p l e R s m args below meth c H locs cells slots (MQ below (PI D [(cI, .int)] (wN cI ad) A (M, r0)) args s cells slots A) (F0 m 0 ls []) := by
  have hx := C.1
  have hb := C.2.1
  have hown := C.2.2.2.2.1
  have hts := C.2.2.2.2.2.1
  intro M H locs ls hok hres h hl
  rw [ok_X5_costOfStep] at hok
  rw [f_X5_costOfStep] at hres
  refine lv_aload_n hx hb dX5_costOfStep_0 rfl (lv_at hl 0 rfl) ?_
  refine N_X5_phase_get (v := (M 0 0)) C h in_fX5_49 rfl dX5_costOfStep_1 ?_
  refine lv_iconst (v := (3 : Int32)) hx hb dX5_costOfStep_4 (by decide) ?_
  refine lv_icmp_ne (tgt := 16) hx hb dX5_costOfStep_5 (by decide) (fun c1 => ?_) (fun c1 => ?_)
  · have hres := it_n hres c1
    refine lv_aload_n hx hb dX5_costOfStep_16 rfl (lv_at hl 0 rfl) ?_
    refine N_X5_phase_get (v := (M 0 0)) C h in_fX5_49 rfl dX5_costOfStep_17 ?_
    refine lv_iconst (v := (2 : Int32)) hx hb dX5_costOfStep_20 (by decide) ?_
    refine lv_icmp_ne (tgt := 36) hx hb dX5_costOfStep_21 (by decide) (fun c2 => ?_) (fun c2 => ?_)
    · have hres := it_n hres c2
      refine lv_iconst (v := (4 : Int32)) hx hb dX5_costOfStep_36 (by decide) ?_
      exact wh_iret C h (cz hres) dX5_costOfStep_37
    · have hres := it_p hres c2
      refine lv_aload_n hx hb dX5_costOfStep_24 rfl (lv_at hl 0 rfl) ?_
      refine N_X5_noteIsDue_get (v := (M 9 0)) C h in_fX5_165 rfl dX5_costOfStep_25 ?_
      refine lv_if_ne (tgt := 36) hx hb dX5_costOfStep_28 (by decide) (fun c3 => ?_) (fun c3 => ?_)
      · have hres := it_n hres c3
        refine lv_iconst (v := (4 : Int32)) hx hb dX5_costOfStep_36 (by decide) ?_
        exact wh_iret C h (cz hres) dX5_costOfStep_37
      · have hres := it_p hres c3
        refine lv_bipush (v := (20 : Int32)) hx hb dX5_costOfStep_31 (by decide) ?_
        refine lv_goto (tgt := 37) hx hb dX5_costOfStep_33 (by decide) ?_
        exact wh_iret C h (cz hres) dX5_costOfStep_37
  · have hres := it_p hres c1
    have hok := io_p hok c1
    refine lv_aload_n hx hb dX5_costOfStep_8 rfl (lv_at hl 0 rfl) ?_
    obtain ⟨h7, hok⟩ := hok
    refine wh_cvip (As := []) (rest := []) hcs C h (c_X5_nextInstruction M h7) yw_X5_nextInstruction in_mX5_190 hl.1 rfl rfl (Nat.le_of_ble_eq_true rfl) ⟨Nat.le_trans (Nat.le_of_ble_eq_true rfl) hrf, Nat.le_trans (Nat.le_of_ble_eq_true rfl) hrl⟩ dX5_costOfStep_9 (fun H locs h => ?_)
    have h6 := hok
    refine wh_csip (As := [.int (f_X5_nextInstruction M)]) (rest := []) hcs C h (c_X1_costOf M (f_X5_nextInstruction M) h6) yw_X1_costOf in_mX5_202 hl.1 rfl rfl (Nat.le_of_ble_eq_true rfl) ⟨Nat.le_trans (Nat.le_of_ble_eq_true rfl) hrf, Nat.le_trans (Nat.le_of_ble_eq_true rfl) hrl⟩ dX5_costOfStep_12 (fun H locs h => ?_)
    exact wh_iret C h (cz hres) dX5_costOfStep_15
theorem yw_X5_costOfStep {cI : ClassId} {ad : Nat → Nat} : YV (wN cI ad) (ad 0) yX5_costOfStep cX5_costOfStep 1 (some .int) rmX5_costOfStep 0 := ⟨fun M => ⟨0, 5, _, _, rfl, rfl, rfl⟩, in_cX5_costOfStep, in_nX5_costOfStep, in_vX5_costOfStep, in_iX5, by decide +kernel, rfl, rfl⟩
theorem c_X5_costOfStep {l : Launch} {D : va_G} {cI : ClassId} {ad : Nat → Nat} (M : Mem) (hok : ok_X5_costOfStep M) : KI l D [(cI, .int)] (wN cI ad) yX5_costOfStep cX5_costOfStep 1 rmX5_costOfStep [.ref (ad 0)] M (M, f_X5_costOfStep M) := met_i (by decide) (Nat.le_of_ble_eq_true rfl) (fun p e s m below meth c A C h ls hl => k_X5_costOfStep_0 ⟨Nat.le_refl _, Nat.le_refl _⟩ (Nat.le_refl _) (Nat.le_refl _) C M _ _ ls hok rfl h hl)
abbrev rmX5_countFailure : Room := { frames := 1, cells := 0, slots := 0, locals := 21 }
def f_X5_countFailure (M : Mem) : Mem := (if ((upd (M 32) (M 15 0).toNatClampNeg (((M 32) (M 15 0).toNatClampNeg) + (1 : Int32))) (M 15 0).toNatClampNeg) < (12 : Int32) then (ms (ms M 32 (upd (M 32) (M 15 0).toNatClampNeg (((M 32) (M 15 0).toNatClampNeg) + (1 : Int32)))) 31 (upd (M 31) (M 15 0).toNatClampNeg (if ((2 : Int32) * (if ((M 31) (M 15 0).toNatClampNeg) < (M 17 0) then (M 17 0) else ((M 31) (M 15 0).toNatClampNeg))) < (1940 : Int32) then ((2 : Int32) * (if ((M 31) (M 15 0).toNatClampNeg) < (M 17 0) then (M 17 0) else ((M 31) (M 15 0).toNatClampNeg))) else (1940 : Int32)))) else (ms (ms (ms M 32 (upd (M 32) (M 15 0).toNatClampNeg (((M 32) (M 15 0).toNatClampNeg) + (1 : Int32)))) 31 (upd (M 31) (M 15 0).toNatClampNeg (if ((2 : Int32) * (if ((M 31) (M 15 0).toNatClampNeg) < (M 17 0) then (M 17 0) else ((M 31) (M 15 0).toNatClampNeg))) < (1940 : Int32) then ((2 : Int32) * (if ((M 31) (M 15 0).toNatClampNeg) < (M 17 0) then (M 17 0) else ((M 31) (M 15 0).toNatClampNeg))) else (1940 : Int32)))) 4 (fun _ => (M 15 0))))
def ok_X5_countFailure (M : Mem) : Prop := vp_in (M 15 0) 16 ∧ vp_in (M 15 0) 16 ∧ vp_in (M 15 0) 16 ∧ vp_in (M 15 0) 16 ∧ vp_in (M 15 0) 16
set_option maxRecDepth 100000 in
set_option maxHeartbeats 4000000 in
theorem k_X5_countFailure_0 {p : Program} {l : Launch} {e : Env} {s : State} {m : MethodId} {args : Array Value} {below : List Frame} {meth : Method} {c : Code} {D : va_G} {cI : ClassId} {ad : Nat → Nat} {A : Nat → Prop} {cells slots : Nat} {R : Room} (hcs : cells ≤ R.cells ∧ slots ≤ R.slots) (hrf : rmX5_countFailure.frames ≤ R.frames) (hrl : rmX5_countFailure.locals ≤ R.locals) {res : Mem} (C : CX p s m args meth c RX5 cX5_countFailure 3 none) : ∀ (M : Mem) (H : Heap) (locs : List Loc) (ls : Array Slot), ok_X5_countFailure M → f_X5_countFailure M = res → WH D [(cI, .int)] (wN cI ad) A s H locs M → lv_has ls 3 [(0, .ref (ad 0))] → W p l e R s m args below meth c H locs cells slots (MQ below (PV D [(cI, .int)] (wN cI ad) A res) args s cells slots A) (F0 m 0 ls []) := by
  have hx := C.1
  have hb := C.2.1
  have hown := C.2.2.2.2.1
  have hts := C.2.2.2.2.2.1
  intro M H locs ls hok hres h hl
  rw [ok_X5_countFailure] at hok
  rw [f_X5_countFailure] at hres
  refine lv_aload_n hx hb dX5_countFailure_0 rfl (lv_at hl 0 rfl) ?_
  refine N_X5_attempt_get C h in_fX5_32 dX5_countFailure_1 ?_
  refine N_X0_task_get (v := (M 15 0)) C h in_fX5_205 rfl dX5_countFailure_4 ?_
  refine lv_istore_n (lv' := [(1, .int (M 15 0)), (0, .ref (ad 0))]) hx hb dX5_countFailure_7 rfl hl (by decide) rfl (fun ls hl => ?_)
  refine lv_aload_n hx hb dX5_countFailure_8 rfl (lv_at hl 1 rfl) ?_
  refine N_X5_failures_get C h in_fX5_46 dX5_countFailure_9 ?_
  refine lv_iload_n hx hb dX5_countFailure_12 rfl (lv_at hl 0 rfl) ?_
  refine lv_dup2_11 hx hb dX5_countFailure_13 rfl rfl ?_
  obtain ⟨h6, hok⟩ := hok
  refine N_fa_ld (v := ((M 32) (M 15 0).toNatClampNeg)) C h h6 rfl dX5_countFailure_14 ?_
  refine lv_iconst (v := (1 : Int32)) hx hb dX5_countFailure_15 (by decide) ?_
  refine lv_iadd hx hb dX5_countFailure_16 ?_
  obtain ⟨h5, hok⟩ := hok
  refine N_fa_st (M2 := (ms M 32 (upd (M 32) (M 15 0).toNatClampNeg (((M 32) (M 15 0).toNatClampNeg) + (1 : Int32))))) C h h5 rfl dX5_countFailure_17 (fun H locs h => ?_)
  refine lv_iconst (v := (2 : Int32)) hx hb dX5_countFailure_18 (by decide) ?_
  refine lv_aload_n hx hb dX5_countFailure_19 rfl (lv_at hl 1 rfl) ?_
  refine N_X5_estimates_get C h in_fX5_43 dX5_countFailure_20 ?_
  refine lv_iload_n hx hb dX5_countFailure_23 rfl (lv_at hl 0 rfl) ?_
  obtain ⟨h4, hok⟩ := hok
  refine N_es_ld (v := ((M 31) (M 15 0).toNatClampNeg)) C h h4 rfl dX5_countFailure_24 ?_
  refine lv_aload_n hx hb dX5_countFailure_25 rfl (lv_at hl 1 rfl) ?_
  refine N_X5_attempt_get C h in_fX5_32 dX5_countFailure_26 ?_
  refine N_X0_spent_get (v := (M 17 0)) C h in_fX5_129 rfl dX5_countFailure_29 ?_
  refine wh_mmax C in_mX5_254 hl.1 (Nat.le_trans (Nat.le_of_ble_eq_true rfl) hrf) (Nat.le_trans (Nat.le_of_ble_eq_true rfl) hrl) hcs dX5_countFailure_32 ?_
  refine lv_imul hx hb dX5_countFailure_35 ?_
  refine lv_istore_n (lv' := [(2, .int ((2 : Int32) * (if ((M 31) (M 15 0).toNatClampNeg) < (M 17 0) then (M 17 0) else ((M 31) (M 15 0).toNatClampNeg)))), (1, .int (M 15 0)), (0, .ref (ad 0))]) hx hb dX5_countFailure_36 rfl hl (by decide) rfl (fun ls hl => ?_)
  refine lv_aload_n hx hb dX5_countFailure_37 rfl (lv_at hl 2 rfl) ?_
  refine N_X5_estimates_get C h in_fX5_43 dX5_countFailure_38 ?_
  refine lv_iload_n hx hb dX5_countFailure_41 rfl (lv_at hl 1 rfl) ?_
  refine lv_sipush (v := (1940 : Int32)) hx hb dX5_countFailure_42 (by decide) ?_
  refine lv_iload_n hx hb dX5_countFailure_45 rfl (lv_at hl 0 rfl) ?_
  refine wh_mmin C in_mX5_83 hl.1 (Nat.le_trans (Nat.le_of_ble_eq_true rfl) hrf) (Nat.le_trans (Nat.le_of_ble_eq_true rfl) hrl) hcs dX5_countFailure_46 ?_
  obtain ⟨h3, hok⟩ := hok
  refine N_es_st (M2 := (ms (ms M 32 (upd (M 32) (M 15 0).toNatClampNeg (((M 32) (M 15 0).toNatClampNeg) + (1 : Int32)))) 31 (upd (M 31) (M 15 0).toNatClampNeg (if ((2 : Int32) * (if ((M 31) (M 15 0).toNatClampNeg) < (M 17 0) then (M 17 0) else ((M 31) (M 15 0).toNatClampNeg))) < (1940 : Int32) then ((2 : Int32) * (if ((M 31) (M 15 0).toNatClampNeg) < (M 17 0) then (M 17 0) else ((M 31) (M 15 0).toNatClampNeg))) else (1940 : Int32))))) C h h3 rfl dX5_countFailure_49 (fun H locs h => ?_)
  refine lv_aload_n hx hb dX5_countFailure_50 rfl (lv_at hl 2 rfl) ?_
  refine N_X5_failures_get C h in_fX5_46 dX5_countFailure_51 ?_
  refine lv_iload_n hx hb dX5_countFailure_54 rfl (lv_at hl 1 rfl) ?_
  have h2 := hok
  refine N_fa_ld (v := ((upd (M 32) (M 15 0).toNatClampNeg (((M 32) (M 15 0).toNatClampNeg) + (1 : Int32))) (M 15 0).toNatClampNeg)) C h h2 rfl dX5_countFailure_55 ?_
  refine lv_bipush (v := (12 : Int32)) hx hb dX5_countFailure_56 (by decide) ?_
  refine lv_icmp_lt (tgt := 66) hx hb dX5_countFailure_58 (by decide) (fun c1 => ?_) (fun c1 => ?_)
  · have hres := it_p hres c1
    exact wh_vret C h hres dX5_countFailure_66
  · have hres := it_n hres c1
    refine lv_aload_n hx hb dX5_countFailure_61 rfl (lv_at hl 2 rfl) ?_
    refine lv_iload_n hx hb dX5_countFailure_62 rfl (lv_at hl 1 rfl) ?_
    refine N_X5_givenUp_put (v := (M 15 0)) (M2 := (ms (ms (ms M 32 (upd (M 32) (M 15 0).toNatClampNeg (((M 32) (M 15 0).toNatClampNeg) + (1 : Int32)))) 31 (upd (M 31) (M 15 0).toNatClampNeg (if ((2 : Int32) * (if ((M 31) (M 15 0).toNatClampNeg) < (M 17 0) then (M 17 0) else ((M 31) (M 15 0).toNatClampNeg))) < (1940 : Int32) then ((2 : Int32) * (if ((M 31) (M 15 0).toNatClampNeg) < (M 17 0) then (M 17 0) else ((M 31) (M 15 0).toNatClampNeg))) else (1940 : Int32)))) 4 (fun _ => (M 15 0)))) C h in_fX5_53 rfl dX5_countFailure_63 (fun H locs h => ?_)
    exact wh_vret C h hres dX5_countFailure_66
theorem yw_X5_countFailure {cI : ClassId} {ad : Nat → Nat} : YV (wN cI ad) (ad 0) yX5_countFailure cX5_countFailure 3 none rmX5_countFailure 0 := ⟨fun M => ⟨0, 5, _, _, rfl, rfl, rfl⟩, in_cX5_countFailure, in_nX5_countFailure, in_vX5_countFailure, in_iX5, by decide +kernel, rfl, rfl⟩
theorem c_X5_countFailure {l : Launch} {D : va_G} {cI : ClassId} {ad : Nat → Nat} (M : Mem) (hok : ok_X5_countFailure M) : KV l D [(cI, .int)] (wN cI ad) yX5_countFailure cX5_countFailure 3 rmX5_countFailure [.ref (ad 0)] M (f_X5_countFailure M) := met_v (by decide) (Nat.le_of_ble_eq_true rfl) (fun p e s m below meth c A C h ls hl => k_X5_countFailure_0 ⟨Nat.le_refl _, Nat.le_refl _⟩ (Nat.le_refl _) (Nat.le_refl _) C M _ _ ls hok rfl h hl)
abbrev rmX5_failPower : Room := { frames := 2, cells := 0, slots := 0, locals := 43 }
def f_X5_failPower_32 (M : Mem) : Mem := (ms (ms M 5 (fun _ => ((M 5 0) + (1 : Int32)))) 0 (fun _ => (0 : Int32)))
def f_X5_failPower_28 (M : Mem) : Mem := (bv (f_X5_countFailure M) (fun M2 => (f_X5_failPower_32 M2)))
def ok_X5_failPower_28 (M : Mem) : Prop := ok_X5_countFailure M
def f_X5_failPower (M : Mem) : Mem := (if (M 0 0) = (3 : Int32) then (f_X5_failPower_28 M) else (if (M 0 0) = (4 : Int32) then (if ((M 13) 2) = 0 then (f_X5_failPower_28 M) else (f_X5_failPower_32 M)) else (f_X5_failPower_32 M)))
def ok_X5_failPower (M : Mem) : Prop := (if (M 0 0) = (3 : Int32) then ok_X5_failPower_28 M else (if (M 0 0) = (4 : Int32) then (if ((M 13) 2) = 0 then ok_X5_failPower_28 M else True) else True))
set_option maxRecDepth 100000 in
set_option maxHeartbeats 4000000 in
theorem k_X5_failPower_32 {p : Program} {l : Launch} {e : Env} {s : State} {m : MethodId} {args : Array Value} {below : List Frame} {meth : Method} {c : Code} {D : va_G} {cI : ClassId} {ad : Nat → Nat} {A : Nat → Prop} {cells slots : Nat} {R : Room} (hcs : cells ≤ R.cells ∧ slots ≤ R.slots) (hrf : rmX5_failPower.frames ≤ R.frames) (hrl : rmX5_failPower.locals ≤ R.locals) {res : Mem} (C : CX p s m args meth c RX5 cX5_failPower 1 none) : ∀ (M : Mem) (H : Heap) (locs : List Loc) (ls : Array Slot), f_X5_failPower_32 M = res → WH D [(cI, .int)] (wN cI ad) A s H locs M → lv_has ls 1 [(0, .ref (ad 0))] → W p l e R s m args below meth c H locs cells slots (MQ below (PV D [(cI, .int)] (wN cI ad) A res) args s cells slots A) (F0 m 32 ls []) := by
  have hx := C.1
  have hb := C.2.1
  have hown := C.2.2.2.2.1
  have hts := C.2.2.2.2.2.1
  intro M H locs ls hres h hl
  rw [f_X5_failPower_32] at hres
  refine lv_aload_n hx hb dX5_failPower_32 rfl (lv_at hl 0 rfl) ?_
  refine lv_dup hx hb dX5_failPower_33 rfl ?_
  refine N_X5_powerFailures_get (v := (M 5 0)) C h in_fX5_144 rfl dX5_failPower_34 ?_
  refine lv_iconst (v := (1 : Int32)) hx hb dX5_failPower_37 (by decide) ?_
  refine lv_iadd hx hb dX5_failPower_38 ?_
  refine N_X5_powerFailures_put (v := ((M 5 0) + (1 : Int32))) (M2 := (ms M 5 (fun _ => ((M 5 0) + (1 : Int32))))) C h in_fX5_144 rfl dX5_failPower_39 (fun H locs h => ?_)
  refine lv_aload_n hx hb dX5_failPower_42 rfl (lv_at hl 0 rfl) ?_
  refine lv_iconst (v := (0 : Int32)) hx hb dX5_failPower_43 (by decide) ?_
  refine N_X5_phase_put (v := (0 : Int32)) (M2 := (ms (ms M 5 (fun _ => ((M 5 0) + (1 : Int32)))) 0 (fun _ => (0 : Int32)))) C h in_fX5_49 rfl dX5_failPower_44 (fun H locs h => ?_)
  exact wh_vret C h hres dX5_failPower_47
set_option maxRecDepth 100000 in
set_option maxHeartbeats 4000000 in
theorem k_X5_failPower_28 {p : Program} {l : Launch} {e : Env} {s : State} {m : MethodId} {args : Array Value} {below : List Frame} {meth : Method} {c : Code} {D : va_G} {cI : ClassId} {ad : Nat → Nat} {A : Nat → Prop} {cells slots : Nat} {R : Room} (hcs : cells ≤ R.cells ∧ slots ≤ R.slots) (hrf : rmX5_failPower.frames ≤ R.frames) (hrl : rmX5_failPower.locals ≤ R.locals) {res : Mem} (C : CX p s m args meth c RX5 cX5_failPower 1 none) : ∀ (M : Mem) (H : Heap) (locs : List Loc) (ls : Array Slot), ok_X5_failPower_28 M → f_X5_failPower_28 M = res → WH D [(cI, .int)] (wN cI ad) A s H locs M → lv_has ls 1 [(0, .ref (ad 0))] → W p l e R s m args below meth c H locs cells slots (MQ below (PV D [(cI, .int)] (wN cI ad) A res) args s cells slots A) (F0 m 28 ls []) := by
  have hx := C.1
  have hb := C.2.1
  have hown := C.2.2.2.2.1
  have hts := C.2.2.2.2.2.1
  intro M H locs ls hok hres h hl
  rw [ok_X5_failPower_28] at hok
  rw [f_X5_failPower_28] at hres
  refine lv_aload_n hx hb dX5_failPower_28 rfl (lv_at hl 0 rfl) ?_
  have h3 := hok
  refine wh_cvv (As := []) (rest := []) hcs C h (c_X5_countFailure M h3) yw_X5_countFailure in_mX5_257 hl.1 rfl rfl (Nat.le_of_ble_eq_true rfl) ⟨Nat.le_trans (Nat.le_of_ble_eq_true rfl) hrf, Nat.le_trans (Nat.le_of_ble_eq_true rfl) hrl⟩ dX5_failPower_29 (fun M2 H locs e2 h => ?_)
  rw [e2] at hres
  have hres := bv_e hres
  exact k_X5_failPower_32 hcs hrf hrl C M2 _ _ _  hres h (lv_sub hl [0] rfl)
set_option maxRecDepth 100000 in
set_option maxHeartbeats 4000000 in
theorem k_X5_failPower_0 {p : Program} {l : Launch} {e : Env} {s : State} {m : MethodId} {args : Array Value} {below : List Frame} {meth : Method} {c : Code} {D : va_G} {cI : ClassId} {ad : Nat → Nat} {A : Nat → Prop} {cells slots : Nat} {R : Room} (hcs : cells ≤ R.cells ∧ slots ≤ R.slots) (hrf : rmX5_failPower.frames ≤ R.frames) (hrl : rmX5_failPower.locals ≤ R.locals) {res : Mem} (C : CX p s m args meth c RX5 cX5_failPower 1 none) : ∀ (M : Mem) (H : Heap) (locs : List Loc) (ls : Array Slot), ok_X5_failPower M → f_X5_failPower M = res → WH D [(cI, .int)] (wN cI ad) A s H locs M → lv_has ls 1 [(0, .ref (ad 0))] → W p l e R s m args below meth c H locs cells slots (MQ below (PV D [(cI, .int)] (wN cI ad) A res) args s cells slots A) (F0 m 0 ls []) := by
  have hx := C.1
  have hb := C.2.1
  have hown := C.2.2.2.2.1
  have hts := C.2.2.2.2.2.1
  intro M H locs ls hok hres h hl
  rw [ok_X5_failPower] at hok
  rw [f_X5_failPower] at hres
  refine lv_aload_n hx hb dX5_failPower_0 rfl (lv_at hl 0 rfl) ?_
  refine N_X5_phase_get (v := (M 0 0)) C h in_fX5_49 rfl dX5_failPower_1 ?_
  refine lv_iconst (v := (3 : Int32)) hx hb dX5_failPower_4 (by decide) ?_
  refine lv_icmp_eq (tgt := 28) hx hb dX5_failPower_5 (by decide) (fun c1 => ?_) (fun c1 => ?_)
  · have hres := it_p hres c1
    have hok := io_p hok c1
    exact k_X5_failPower_28 hcs hrf hrl C M _ _ _ hok hres h (lv_sub hl [0] rfl)
  · have hres := it_n hres c1
    have hok := io_n hok c1
    refine lv_aload_n hx hb dX5_failPower_8 rfl (lv_at hl 0 rfl) ?_
    refine N_X5_phase_get (v := (M 0 0)) C h in_fX5_49 rfl dX5_failPower_9 ?_
    refine lv_iconst (v := (4 : Int32)) hx hb dX5_failPower_12 (by decide) ?_
    refine lv_icmp_ne (tgt := 32) hx hb dX5_failPower_13 (by decide) (fun c4 => ?_) (fun c4 => ?_)
    · have hres := it_n hres c4
      exact k_X5_failPower_32 hcs hrf hrl C M _ _ _  hres h (lv_sub hl [0] rfl)
    · have hres := it_p hres c4
      have hok := io_p hok c4
      refine lv_aload_n hx hb dX5_failPower_16 rfl (lv_at hl 0 rfl) ?_
      refine N_X5_store_get C h in_fX5_19 dX5_failPower_17 ?_
      refine N_X4_words_get C h in_fX5_110 dX5_failPower_20 ?_
      refine lv_iconst (v := (2 : Int32)) hx hb dX5_failPower_23 (by decide) ?_
      refine N_sw_ld (v := ((M 13) 2)) C h (vp_l (by decide)) rfl dX5_failPower_24 ?_
      refine lv_if_ne (tgt := 32) hx hb dX5_failPower_25 (by decide) (fun c5 => ?_) (fun c5 => ?_)
      · have hres := it_n hres c5
        exact k_X5_failPower_32 hcs hrf hrl C M _ _ _  hres h (lv_sub hl [0] rfl)
      · have hres := it_p hres c5
        have hok := io_p hok c5
        exact k_X5_failPower_28 hcs hrf hrl C M _ _ _ hok hres h (lv_sub hl [0] rfl)
theorem yw_X5_failPower {cI : ClassId} {ad : Nat → Nat} : YV (wN cI ad) (ad 0) yX5_failPower cX5_failPower 1 none rmX5_failPower 0 := ⟨fun M => ⟨0, 5, _, _, rfl, rfl, rfl⟩, in_cX5_failPower, in_nX5_failPower, in_vX5_failPower, in_iX5, by decide +kernel, rfl, rfl⟩
theorem c_X5_failPower {l : Launch} {D : va_G} {cI : ClassId} {ad : Nat → Nat} (M : Mem) (hok : ok_X5_failPower M) : KV l D [(cI, .int)] (wN cI ad) yX5_failPower cX5_failPower 1 rmX5_failPower [.ref (ad 0)] M (f_X5_failPower M) := met_v (by decide) (Nat.le_of_ble_eq_true rfl) (fun p e s m below meth c A C h ls hl => k_X5_failPower_0 ⟨Nat.le_refl _, Nat.le_refl _⟩ (Nat.le_refl _) (Nat.le_refl _) C M _ _ ls hok rfl h hl)
abbrev rmX5_isInAttempt : Room := { frames := 0, cells := 0, slots := 0, locals := 0 }
def f_X5_isInAttempt (M : Mem) : Int32 := (if (M 0 0) = (3 : Int32) then (1 : Int32) else (if (M 0 0) = (4 : Int32) then (1 : Int32) else (0 : Int32)))
set_option maxRecDepth 100000 in
set_option maxHeartbeats 4000000 in
theorem k_X5_isInAttempt_0 {p : Program} {l : Launch} {e : Env} {s : State} {m : MethodId} {args : Array Value} {below : List Frame} {meth : Method} {c : Code} {D : va_G} {cI : ClassId} {ad : Nat → Nat} {A : Nat → Prop} {cells slots : Nat} {R : Room} (hcs : cells ≤ R.cells ∧ slots ≤ R.slots) (hrf : rmX5_isInAttempt.frames ≤ R.frames) (hrl : rmX5_isInAttempt.locals ≤ R.locals) {r0 : Int32} (C : CX p s m args meth c RX5 cX5_isInAttempt 1 (some .boolean)) : ∀ (M : Mem) (H : Heap) (locs : List Loc) (ls : Array Slot), f_X5_isInAttempt M = r0 → WH D [(cI, .int)] (wN cI ad) A s H locs M → lv_has ls 1 [(0, .ref (ad 0))] → W p l e R s m args below meth c H locs cells slots (MQ below (PZ D [(cI, .int)] (wN cI ad) A (M, r0)) args s cells slots A) (F0 m 0 ls []) := by
  have hx := C.1
  have hb := C.2.1
  have hown := C.2.2.2.2.1
  have hts := C.2.2.2.2.2.1
  intro M H locs ls hres h hl
  rw [f_X5_isInAttempt] at hres
  refine lv_aload_n hx hb dX5_isInAttempt_0 rfl (lv_at hl 0 rfl) ?_
  refine N_X5_phase_get (v := (M 0 0)) C h in_fX5_49 rfl dX5_isInAttempt_1 ?_
  refine lv_iconst (v := (3 : Int32)) hx hb dX5_isInAttempt_4 (by decide) ?_
  refine lv_icmp_eq (tgt := 16) hx hb dX5_isInAttempt_5 (by decide) (fun c1 => ?_) (fun c1 => ?_)
  · have hres := it_p hres c1
    refine lv_iconst (v := (1 : Int32)) hx hb dX5_isInAttempt_16 (by decide) ?_
    refine lv_goto (tgt := 21) hx hb dX5_isInAttempt_17 (by decide) ?_
    exact wh_zret C h nb_1 (cz hres) dX5_isInAttempt_21
  · have hres := it_n hres c1
    refine lv_aload_n hx hb dX5_isInAttempt_8 rfl (lv_at hl 0 rfl) ?_
    refine N_X5_phase_get (v := (M 0 0)) C h in_fX5_49 rfl dX5_isInAttempt_9 ?_
    refine lv_iconst (v := (4 : Int32)) hx hb dX5_isInAttempt_12 (by decide) ?_
    refine lv_icmp_ne (tgt := 20) hx hb dX5_isInAttempt_13 (by decide) (fun c2 => ?_) (fun c2 => ?_)
    · have hres := it_n hres c2
      refine lv_iconst (v := (0 : Int32)) hx hb dX5_isInAttempt_20 (by decide) ?_
      exact wh_zret C h nb_0 (cz hres) dX5_isInAttempt_21
    · have hres := it_p hres c2
      refine lv_iconst (v := (1 : Int32)) hx hb dX5_isInAttempt_16 (by decide) ?_
      refine lv_goto (tgt := 21) hx hb dX5_isInAttempt_17 (by decide) ?_
      exact wh_zret C h nb_1 (cz hres) dX5_isInAttempt_21
theorem yw_X5_isInAttempt {cI : ClassId} {ad : Nat → Nat} : YV (wN cI ad) (ad 0) yX5_isInAttempt cX5_isInAttempt 1 (some .boolean) rmX5_isInAttempt 0 := ⟨fun M => ⟨0, 5, _, _, rfl, rfl, rfl⟩, in_cX5_isInAttempt, in_nX5_isInAttempt, in_vX5_isInAttempt, in_iX5, by decide +kernel, rfl, rfl⟩
theorem c_X5_isInAttempt {l : Launch} {D : va_G} {cI : ClassId} {ad : Nat → Nat} (M : Mem) : KZ l D [(cI, .int)] (wN cI ad) yX5_isInAttempt cX5_isInAttempt 1 rmX5_isInAttempt [.ref (ad 0)] M (M, f_X5_isInAttempt M) := met_z (by decide) (Nat.le_of_ble_eq_true rfl) (fun p e s m below meth c A C h ls hl => k_X5_isInAttempt_0 ⟨Nat.le_refl _, Nat.le_refl _⟩ (Nat.le_refl _) (Nat.le_refl _) C M _ _ ls rfl h hl)
abbrev rmX5_pay : Room := { frames := 1, cells := 0, slots := 0, locals := 20 }
def f_X5_pay (M : Mem) (a1 : Int32) : Mem := (if (f_X5_isInAttempt (ms M 1 (fun _ => ((M 1 0) - a1)))) = 0 then (ms M 1 (fun _ => ((M 1 0) - a1))) else (ms (ms M 1 (fun _ => ((M 1 0) - a1))) 17 (fun _ => ((M 17 0) + a1))))
set_option maxRecDepth 100000 in
set_option maxHeartbeats 4000000 in
theorem k_X5_pay_0 {p : Program} {l : Launch} {e : Env} {s : State} {m : MethodId} {args : Array Value} {below : List Frame} {meth : Method} {c : Code} {D : va_G} {cI : ClassId} {ad : Nat → Nat} {A : Nat → Prop} {cells slots : Nat} {R : Room} (hcs : cells ≤ R.cells ∧ slots ≤ R.slots) (hrf : rmX5_pay.frames ≤ R.frames) (hrl : rmX5_pay.locals ≤ R.locals) {res : Mem} (C : CX p s m args meth c RX5 cX5_pay 2 none) : ∀ (M : Mem) (a1 : Int32) (H : Heap) (locs : List Loc) (ls : Array Slot), f_X5_pay M a1 = res → WH D [(cI, .int)] (wN cI ad) A s H locs M → lv_has ls 2 [(0, .ref (ad 0)), (1, .int a1)] → W p l e R s m args below meth c H locs cells slots (MQ below (PV D [(cI, .int)] (wN cI ad) A res) args s cells slots A) (F0 m 0 ls []) := by
  have hx := C.1
  have hb := C.2.1
  have hown := C.2.2.2.2.1
  have hts := C.2.2.2.2.2.1
  intro M a1 H locs ls hres h hl
  rw [f_X5_pay] at hres
  refine lv_aload_n hx hb dX5_pay_0 rfl (lv_at hl 0 rfl) ?_
  refine lv_dup hx hb dX5_pay_1 rfl ?_
  refine N_X5_energy_get (v := (M 1 0)) C h in_fX5_80 rfl dX5_pay_2 ?_
  refine lv_iload_n hx hb dX5_pay_5 rfl (lv_at hl 1 rfl) ?_
  refine lv_isub hx hb dX5_pay_6 ?_
  refine N_X5_energy_put (v := ((M 1 0) - a1)) (M2 := (ms M 1 (fun _ => ((M 1 0) - a1)))) C h in_fX5_80 rfl dX5_pay_7 (fun H locs h => ?_)
  refine lv_aload_n hx hb dX5_pay_10 rfl (lv_at hl 0 rfl) ?_
  refine wh_cvzp (As := []) (rest := []) hcs C h (c_X5_isInAttempt (ms M 1 (fun _ => ((M 1 0) - a1)))) yw_X5_isInAttempt in_mX5_126 hl.1 rfl rfl (Nat.le_of_ble_eq_true rfl) ⟨Nat.le_trans (Nat.le_of_ble_eq_true rfl) hrf, Nat.le_trans (Nat.le_of_ble_eq_true rfl) hrl⟩ dX5_pay_11 (fun H locs z1 h => ?_)
  refine lv_if_eq (tgt := 30) hx hb dX5_pay_14 (by decide) (fun c2 => ?_) (fun c2 => ?_)
  · have hres := it_p hres c2
    exact wh_vret C h hres dX5_pay_30
  · have hres := it_n hres c2
    refine lv_aload_n hx hb dX5_pay_17 rfl (lv_at hl 0 rfl) ?_
    refine N_X5_attempt_get C h in_fX5_32 dX5_pay_18 ?_
    refine lv_dup hx hb dX5_pay_21 rfl ?_
    refine N_X0_spent_get (v := (M 17 0)) C h in_fX5_129 rfl dX5_pay_22 ?_
    refine lv_iload_n hx hb dX5_pay_25 rfl (lv_at hl 1 rfl) ?_
    refine lv_iadd hx hb dX5_pay_26 ?_
    refine N_X0_spent_put (v := ((M 17 0) + a1)) (M2 := (ms (ms M 1 (fun _ => ((M 1 0) - a1))) 17 (fun _ => ((M 17 0) + a1)))) C h in_fX5_129 rfl dX5_pay_27 (fun H locs h => ?_)
    exact wh_vret C h hres dX5_pay_30
theorem yw_X5_pay {cI : ClassId} {ad : Nat → Nat} : YV (wN cI ad) (ad 0) yX5_pay cX5_pay 2 none rmX5_pay 1 := ⟨fun M => ⟨0, 5, _, _, rfl, rfl, rfl⟩, in_cX5_pay, in_nX5_pay, in_vX5_pay, in_iX5, by decide +kernel, rfl, rfl⟩
theorem c_X5_pay {l : Launch} {D : va_G} {cI : ClassId} {ad : Nat → Nat} (M : Mem) (a1 : Int32) : KV l D [(cI, .int)] (wN cI ad) yX5_pay cX5_pay 2 rmX5_pay [.ref (ad 0), .int a1] M (f_X5_pay M a1) := met_v (by decide) (Nat.le_of_ble_eq_true rfl) (fun p e s m below meth c A C h ls hl => k_X5_pay_0 ⟨Nat.le_refl _, Nat.le_refl _⟩ (Nat.le_refl _) (Nat.le_refl _) C M a1 _ _ ls rfl h hl)
abbrev rmX5_doReplayStep : Room := { frames := 2, cells := 0, slots := 0, locals := 44 }
def f_X5_doReplayStep (M : Mem) : Mem := (if ((M 13) 2) ≤ (M 7 0) then (bv (f_X4_write M (2 : Int32) (0 : Int32)) (fun M2 => (ms M2 0 (fun _ => (2 : Int32))))) else (bv (f_X4_applyEntry M (M 7 0)) (fun M4 => (ms M4 7 (fun _ => ((M4 7 0) + (1 : Int32)))))))
def ok_X5_doReplayStep (M : Mem) : Prop := (if ((M 13) 2) ≤ (M 7 0) then ok_X4_write M (2 : Int32) (0 : Int32) else ok_X4_applyEntry M (M 7 0))
set_option maxRecDepth 100000 in
set_option maxHeartbeats 4000000 in
theorem k_X5_doReplayStep_0 {p : Program} {l : Launch} {e : Env} {s : State} {m : MethodId} {args : Array Value} {below : List Frame} {meth : Method} {c : Code} {D : va_G} {cI : ClassId} {ad : Nat → Nat} {A : Nat → Prop} {cells slots : Nat} {R : Room} (hcs : cells ≤ R.cells ∧ slots ≤ R.slots) (hrf : rmX5_doReplayStep.frames ≤ R.frames) (hrl : rmX5_doReplayStep.locals ≤ R.locals) {res : Mem} (C : CX p s m args meth c RX5 cX5_doReplayStep 1 none) : ∀ (M : Mem) (H : Heap) (locs : List Loc) (ls : Array Slot), ok_X5_doReplayStep M → f_X5_doReplayStep M = res → WH D [(cI, .int)] (wN cI ad) A s H locs M → lv_has ls 1 [(0, .ref (ad 0))] → W p l e R s m args below meth c H locs cells slots (MQ below (PV D [(cI, .int)] (wN cI ad) A res) args s cells slots A) (F0 m 0 ls []) := by
  have hx := C.1
  have hb := C.2.1
  have hown := C.2.2.2.2.1
  have hts := C.2.2.2.2.2.1
  intro M H locs ls hok hres h hl
  rw [ok_X5_doReplayStep] at hok
  rw [f_X5_doReplayStep] at hres
  refine lv_aload_n hx hb dX5_doReplayStep_0 rfl (lv_at hl 0 rfl) ?_
  refine N_X5_replayed_get (v := (M 7 0)) C h in_fX5_162 rfl dX5_doReplayStep_1 ?_
  refine lv_aload_n hx hb dX5_doReplayStep_4 rfl (lv_at hl 0 rfl) ?_
  refine N_X5_store_get C h in_fX5_19 dX5_doReplayStep_5 ?_
  refine N_X4_words_get C h in_fX5_110 dX5_doReplayStep_8 ?_
  refine lv_iconst (v := (2 : Int32)) hx hb dX5_doReplayStep_11 (by decide) ?_
  refine N_sw_ld (v := ((M 13) 2)) C h (vp_l (by decide)) rfl dX5_doReplayStep_12 ?_
  refine lv_icmp_ge (tgt := 40) hx hb dX5_doReplayStep_13 (by decide) (fun c1 => ?_) (fun c1 => ?_)
  · have hres := it_p hres c1
    have hok := io_p hok c1
    refine lv_aload_n hx hb dX5_doReplayStep_40 rfl (lv_at hl 0 rfl) ?_
    refine N_X5_store_get C h in_fX5_19 dX5_doReplayStep_41 ?_
    refine lv_iconst (v := (2 : Int32)) hx hb dX5_doReplayStep_44 (by decide) ?_
    refine lv_iconst (v := (0 : Int32)) hx hb dX5_doReplayStep_45 (by decide) ?_
    have h3 := hok
    refine wh_cvv (As := [.int (2 : Int32), .int (0 : Int32)]) (rest := []) hcs C h (c_X4_write M (2 : Int32) (0 : Int32) h3) yw_X4_write in_mX5_214 hl.1 rfl rfl (Nat.le_of_ble_eq_true rfl) ⟨Nat.le_trans (Nat.le_of_ble_eq_true rfl) hrf, Nat.le_trans (Nat.le_of_ble_eq_true rfl) hrl⟩ dX5_doReplayStep_46 (fun M2 H locs e2 h => ?_)
    rw [e2] at hres
    have hres := bv_e hres
    refine lv_aload_n hx hb dX5_doReplayStep_49 rfl (lv_at hl 0 rfl) ?_
    refine lv_iconst (v := (2 : Int32)) hx hb dX5_doReplayStep_50 (by decide) ?_
    refine N_X5_phase_put (v := (2 : Int32)) (M2 := (ms M2 0 (fun _ => (2 : Int32)))) C h in_fX5_49 rfl dX5_doReplayStep_51 (fun H locs h => ?_)
    exact wh_vret C h hres dX5_doReplayStep_54
  · have hres := it_n hres c1
    have hok := io_n hok c1
    refine lv_aload_n hx hb dX5_doReplayStep_16 rfl (lv_at hl 0 rfl) ?_
    refine N_X5_store_get C h in_fX5_19 dX5_doReplayStep_17 ?_
    refine lv_aload_n hx hb dX5_doReplayStep_20 rfl (lv_at hl 0 rfl) ?_
    refine N_X5_replayed_get (v := (M 7 0)) C h in_fX5_162 rfl dX5_doReplayStep_21 ?_
    have h5 := hok
    refine wh_cvv (As := [.int (M 7 0)]) (rest := []) hcs C h (c_X4_applyEntry M (M 7 0) h5) yw_X4_applyEntry in_mX5_211 hl.1 rfl rfl (Nat.le_of_ble_eq_true rfl) ⟨Nat.le_trans (Nat.le_of_ble_eq_true rfl) hrf, Nat.le_trans (Nat.le_of_ble_eq_true rfl) hrl⟩ dX5_doReplayStep_24 (fun M4 H locs e4 h => ?_)
    rw [e4] at hres
    have hres := bv_e hres
    refine lv_aload_n hx hb dX5_doReplayStep_27 rfl (lv_at hl 0 rfl) ?_
    refine lv_dup hx hb dX5_doReplayStep_28 rfl ?_
    refine N_X5_replayed_get (v := (M4 7 0)) C h in_fX5_162 rfl dX5_doReplayStep_29 ?_
    refine lv_iconst (v := (1 : Int32)) hx hb dX5_doReplayStep_32 (by decide) ?_
    refine lv_iadd hx hb dX5_doReplayStep_33 ?_
    refine N_X5_replayed_put (v := ((M4 7 0) + (1 : Int32))) (M2 := (ms M4 7 (fun _ => ((M4 7 0) + (1 : Int32))))) C h in_fX5_162 rfl dX5_doReplayStep_34 (fun H locs h => ?_)
    refine lv_goto (tgt := 54) hx hb dX5_doReplayStep_37 (by decide) ?_
    exact wh_vret C h hres dX5_doReplayStep_54
theorem yw_X5_doReplayStep {cI : ClassId} {ad : Nat → Nat} : YV (wN cI ad) (ad 0) yX5_doReplayStep cX5_doReplayStep 1 none rmX5_doReplayStep 0 := ⟨fun M => ⟨0, 5, _, _, rfl, rfl, rfl⟩, in_cX5_doReplayStep, in_nX5_doReplayStep, in_vX5_doReplayStep, in_iX5, by decide +kernel, rfl, rfl⟩
theorem c_X5_doReplayStep {l : Launch} {D : va_G} {cI : ClassId} {ad : Nat → Nat} (M : Mem) (hok : ok_X5_doReplayStep M) : KV l D [(cI, .int)] (wN cI ad) yX5_doReplayStep cX5_doReplayStep 1 rmX5_doReplayStep [.ref (ad 0)] M (f_X5_doReplayStep M) := met_v (by decide) (Nat.le_of_ble_eq_true rfl) (fun p e s m below meth c A C h ls hl => k_X5_doReplayStep_0 ⟨Nat.le_refl _, Nat.le_refl _⟩ (Nat.le_refl _) (Nat.le_refl _) C M _ _ ls hok rfl h hl)
abbrev rmX5_doAirStep : Room := { frames := 1, cells := 0, slots := 0, locals := 23 }
def f_X5_doAirStep_51 (M : Mem) : Mem := (if (M 9 0) = 0 then (ms M 9 (fun _ => (1 : Int32))) else (ms M 9 (fun _ => (0 : Int32))))
def f_X5_doAirStep (M : Mem) : Mem := (if (M 9 0) = 0 then (bv (f_X3_putOnAir M ((M 13) 4) ((M 13) (f_X4_payloadOf M ((M 13) 4)).toNatClampNeg)) (fun M3 => (f_X5_doAirStep_51 M3))) else (bv (f_X4_write M (4 : Int32) (((M 13) 4) + (1 : Int32))) (fun M7 => (f_X5_doAirStep_51 M7))))
def ok_X5_doAirStep (M : Mem) : Prop := (if (M 9 0) = 0 then vp_in (f_X4_payloadOf M ((M 13) 4)) 164 ∧ ok_X3_putOnAir M ((M 13) 4) ((M 13) (f_X4_payloadOf M ((M 13) 4)).toNatClampNeg) else ok_X4_write M (4 : Int32) (((M 13) 4) + (1 : Int32)))
set_option maxRecDepth 100000 in
set_option maxHeartbeats 4000000 in
theorem k_X5_doAirStep_51 {p : Program} {l : Launch} {e : Env} {s : State} {m : MethodId} {args : Array Value} {below : List Frame} {meth : Method} {c : Code} {D : va_G} {cI : ClassId} {ad : Nat → Nat} {A : Nat → Prop} {cells slots : Nat} {R : Room} (hcs : cells ≤ R.cells ∧ slots ≤ R.slots) (hrf : rmX5_doAirStep.frames ≤ R.frames) (hrl : rmX5_doAirStep.locals ≤ R.locals) {res : Mem} (C : CX p s m args meth c RX5 cX5_doAirStep 2 none) : ∀ (M : Mem) (H : Heap) (locs : List Loc) (ls : Array Slot), f_X5_doAirStep_51 M = res → WH D [(cI, .int)] (wN cI ad) A s H locs M → lv_has ls 2 [(0, .ref (ad 0))] → W p l e R s m args below meth c H locs cells slots (MQ below (PV D [(cI, .int)] (wN cI ad) A res) args s cells slots A) (F0 m 51 ls []) := by
  have hx := C.1
  have hb := C.2.1
  have hown := C.2.2.2.2.1
  have hts := C.2.2.2.2.2.1
  intro M H locs ls hres h hl
  rw [f_X5_doAirStep_51] at hres
  refine lv_aload_n hx hb dX5_doAirStep_51 rfl (lv_at hl 0 rfl) ?_
  refine lv_aload_n hx hb dX5_doAirStep_52 rfl (lv_at hl 0 rfl) ?_
  refine N_X5_noteIsDue_get (v := (M 9 0)) C h in_fX5_165 rfl dX5_doAirStep_53 ?_
  refine lv_if_ne (tgt := 63) hx hb dX5_doAirStep_56 (by decide) (fun c4 => ?_) (fun c4 => ?_)
  · have hres := it_n hres c4
    refine lv_iconst (v := (0 : Int32)) hx hb dX5_doAirStep_63 (by decide) ?_
    refine N_X5_noteIsDue_put (v := (0 : Int32)) (M2 := (ms M 9 (fun _ => (0 : Int32)))) C h in_fX5_165 nb_0 rfl dX5_doAirStep_64 (fun H locs h => ?_)
    exact wh_vret C h hres dX5_doAirStep_67
  · have hres := it_p hres c4
    refine lv_iconst (v := (1 : Int32)) hx hb dX5_doAirStep_59 (by decide) ?_
    refine lv_goto (tgt := 64) hx hb dX5_doAirStep_60 (by decide) ?_
    refine N_X5_noteIsDue_put (v := (1 : Int32)) (M2 := (ms M 9 (fun _ => (1 : Int32)))) C h in_fX5_165 nb_1 rfl dX5_doAirStep_64 (fun H locs h => ?_)
    exact wh_vret C h hres dX5_doAirStep_67
set_option maxRecDepth 100000 in
set_option maxHeartbeats 4000000 in
theorem k_X5_doAirStep_0 {p : Program} {l : Launch} {e : Env} {s : State} {m : MethodId} {args : Array Value} {below : List Frame} {meth : Method} {c : Code} {D : va_G} {cI : ClassId} {ad : Nat → Nat} {A : Nat → Prop} {cells slots : Nat} {R : Room} (hcs : cells ≤ R.cells ∧ slots ≤ R.slots) (hrf : rmX5_doAirStep.frames ≤ R.frames) (hrl : rmX5_doAirStep.locals ≤ R.locals) {res : Mem} (C : CX p s m args meth c RX5 cX5_doAirStep 2 none) : ∀ (M : Mem) (H : Heap) (locs : List Loc) (ls : Array Slot), ok_X5_doAirStep M → f_X5_doAirStep M = res → WH D [(cI, .int)] (wN cI ad) A s H locs M → lv_has ls 2 [(0, .ref (ad 0))] → W p l e R s m args below meth c H locs cells slots (MQ below (PV D [(cI, .int)] (wN cI ad) A res) args s cells slots A) (F0 m 0 ls []) := by
  have hx := C.1
  have hb := C.2.1
  have hown := C.2.2.2.2.1
  have hts := C.2.2.2.2.2.1
  intro M H locs ls hok hres h hl
  rw [ok_X5_doAirStep] at hok
  rw [f_X5_doAirStep] at hres
  refine lv_aload_n hx hb dX5_doAirStep_0 rfl (lv_at hl 0 rfl) ?_
  refine N_X5_store_get C h in_fX5_19 dX5_doAirStep_1 ?_
  refine N_X4_words_get C h in_fX5_110 dX5_doAirStep_4 ?_
  refine lv_iconst (v := (4 : Int32)) hx hb dX5_doAirStep_7 (by decide) ?_
  refine N_sw_ld (v := ((M 13) 4)) C h (vp_l (by decide)) rfl dX5_doAirStep_8 ?_
  refine lv_istore_n (lv' := [(1, .int ((M 13) 4)), (0, .ref (ad 0))]) hx hb dX5_doAirStep_9 rfl hl (by decide) rfl (fun ls hl => ?_)
  refine lv_aload_n hx hb dX5_doAirStep_10 rfl (lv_at hl 1 rfl) ?_
  refine N_X5_noteIsDue_get (v := (M 9 0)) C h in_fX5_165 rfl dX5_doAirStep_11 ?_
  refine lv_if_eq (tgt := 31) hx hb dX5_doAirStep_14 (by decide) (fun c1 => ?_) (fun c1 => ?_)
  · have hres := it_p hres c1
    have hok := io_p hok c1
    refine lv_aload_n hx hb dX5_doAirStep_31 rfl (lv_at hl 1 rfl) ?_
    refine N_X5_radio_get C h in_fX5_39 dX5_doAirStep_32 ?_
    refine lv_iload_n hx hb dX5_doAirStep_35 rfl (lv_at hl 0 rfl) ?_
    refine lv_aload_n hx hb dX5_doAirStep_36 rfl (lv_at hl 1 rfl) ?_
    refine N_X5_store_get C h in_fX5_19 dX5_doAirStep_37 ?_
    refine N_X4_words_get C h in_fX5_110 dX5_doAirStep_40 ?_
    refine lv_iload_n hx hb dX5_doAirStep_43 rfl (lv_at hl 0 rfl) ?_
    refine wh_csip (As := [.int ((M 13) 4)]) (rest := [.ref (ad 5), .int ((M 13) 4), .ref (ad 14)]) hcs C h (c_X4_payloadOf M ((M 13) 4)) yw_X4_payloadOf in_mX5_218 hl.1 rfl rfl (Nat.le_of_ble_eq_true rfl) ⟨Nat.le_trans (Nat.le_of_ble_eq_true rfl) hrf, Nat.le_trans (Nat.le_of_ble_eq_true rfl) hrl⟩ dX5_doAirStep_44 (fun H locs h => ?_)
    obtain ⟨h6, hok⟩ := hok
    refine N_sw_ld (v := ((M 13) (f_X4_payloadOf M ((M 13) 4)).toNatClampNeg)) C h h6 rfl dX5_doAirStep_47 ?_
    have h5 := hok
    refine wh_cvv (As := [.int ((M 13) 4), .int ((M 13) (f_X4_payloadOf M ((M 13) 4)).toNatClampNeg)]) (rest := []) hcs C h (c_X3_putOnAir M ((M 13) 4) ((M 13) (f_X4_payloadOf M ((M 13) 4)).toNatClampNeg) h5) yw_X3_putOnAir in_mX5_221 hl.1 rfl rfl (Nat.le_of_ble_eq_true rfl) ⟨Nat.le_trans (Nat.le_of_ble_eq_true rfl) hrf, Nat.le_trans (Nat.le_of_ble_eq_true rfl) hrl⟩ dX5_doAirStep_48 (fun M3 H locs e3 h => ?_)
    rw [e3] at hres
    have hres := bv_e hres
    exact k_X5_doAirStep_51 hcs hrf hrl C M3 _ _ _  hres h (lv_sub hl [1] rfl)
  · have hres := it_n hres c1
    have hok := io_n hok c1
    refine lv_aload_n hx hb dX5_doAirStep_17 rfl (lv_at hl 1 rfl) ?_
    refine N_X5_store_get C h in_fX5_19 dX5_doAirStep_18 ?_
    refine lv_iconst (v := (4 : Int32)) hx hb dX5_doAirStep_21 (by decide) ?_
    refine lv_iload_n hx hb dX5_doAirStep_22 rfl (lv_at hl 0 rfl) ?_
    refine lv_iconst (v := (1 : Int32)) hx hb dX5_doAirStep_23 (by decide) ?_
    refine lv_iadd hx hb dX5_doAirStep_24 ?_
    have h8 := hok
    refine wh_cvv (As := [.int (4 : Int32), .int (((M 13) 4) + (1 : Int32))]) (rest := []) hcs C h (c_X4_write M (4 : Int32) (((M 13) 4) + (1 : Int32)) h8) yw_X4_write in_mX5_214 hl.1 rfl rfl (Nat.le_of_ble_eq_true rfl) ⟨Nat.le_trans (Nat.le_of_ble_eq_true rfl) hrf, Nat.le_trans (Nat.le_of_ble_eq_true rfl) hrl⟩ dX5_doAirStep_25 (fun M7 H locs e7 h => ?_)
    rw [e7] at hres
    have hres := bv_e hres
    refine lv_goto (tgt := 51) hx hb dX5_doAirStep_28 (by decide) ?_
    exact k_X5_doAirStep_51 hcs hrf hrl C M7 _ _ _  hres h (lv_sub hl [1] rfl)
theorem yw_X5_doAirStep {cI : ClassId} {ad : Nat → Nat} : YV (wN cI ad) (ad 0) yX5_doAirStep cX5_doAirStep 2 none rmX5_doAirStep 0 := ⟨fun M => ⟨0, 5, _, _, rfl, rfl, rfl⟩, in_cX5_doAirStep, in_nX5_doAirStep, in_vX5_doAirStep, in_iX5, by decide +kernel, rfl, rfl⟩
theorem c_X5_doAirStep {l : Launch} {D : va_G} {cI : ClassId} {ad : Nat → Nat} (M : Mem) (hok : ok_X5_doAirStep M) : KV l D [(cI, .int)] (wN cI ad) yX5_doAirStep cX5_doAirStep 2 rmX5_doAirStep [.ref (ad 0)] M (f_X5_doAirStep M) := met_v (by decide) (Nat.le_of_ble_eq_true rfl) (fun p e s m below meth c A C h ls hl => k_X5_doAirStep_0 ⟨Nat.le_refl _, Nat.le_refl _⟩ (Nat.le_refl _) (Nat.le_refl _) C M _ _ ls hok rfl h hl)
abbrev rmX5_doInstruction : Room := { frames := 4, cells := 0, slots := 0, locals := 96 }
def f_X5_doInstruction (M : Mem) (a1 : Int32) : Mem := (if (f_X1_op (ms M 16 (fun _ => ((M 16 0) + (1 : Int32)))) a1) = (0 : Int32) then (bv (f_X2_close (ms M 16 (fun _ => ((M 16 0) + (1 : Int32)))) (f_X1_a M a1) (((M 13) 1) + (1 : Int32))) (fun M4 => (ms (ms M4 8 (fun _ => (0 : Int32))) 0 (fun _ => (4 : Int32))))) else (if (f_X1_op (ms M 16 (fun _ => ((M 16 0) + (1 : Int32)))) a1) = (16 : Int32) then (bv (f_X0_bind (ms M 16 (fun _ => ((M 16 0) + (1 : Int32)))) (M 2 0)) (fun M7 => M7)) else (if (f_X1_op (ms M 16 (fun _ => ((M 16 0) + (1 : Int32)))) a1) = (17 : Int32) then (if (f_X0_isTooLate (ms M 16 (fun _ => ((M 16 0) + (1 : Int32)))) (M 2 0) (f_X1_a M a1)) = 0 then (ms M 16 (fun _ => ((M 16 0) + (1 : Int32)))) else (ms (ms (ms M 16 (fun _ => ((M 16 0) + (1 : Int32)))) 6 (fun _ => ((M 6 0) + (1 : Int32)))) 0 (fun _ => (2 : Int32)))) else (bv (f_X0_work (ms M 16 (fun _ => ((M 16 0) + (1 : Int32)))) a1) (fun M11 => M11)))))
def ok_X5_doInstruction (M : Mem) (a1 : Int32) : Prop := (if (f_X1_op (ms M 16 (fun _ => ((M 16 0) + (1 : Int32)))) a1) = (0 : Int32) then ok_X2_close (ms M 16 (fun _ => ((M 16 0) + (1 : Int32)))) (f_X1_a M a1) (((M 13) 1) + (1 : Int32)) else (if (f_X1_op (ms M 16 (fun _ => ((M 16 0) + (1 : Int32)))) a1) = (16 : Int32) then True else (if (f_X1_op (ms M 16 (fun _ => ((M 16 0) + (1 : Int32)))) a1) = (17 : Int32) then True else ok_X0_work (ms M 16 (fun _ => ((M 16 0) + (1 : Int32)))) a1)))
set_option maxRecDepth 100000 in
set_option maxHeartbeats 4000000 in
theorem k_X5_doInstruction_0 {p : Program} {l : Launch} {e : Env} {s : State} {m : MethodId} {args : Array Value} {below : List Frame} {meth : Method} {c : Code} {D : va_G} {cI : ClassId} {ad : Nat → Nat} {A : Nat → Prop} {cells slots : Nat} {R : Room} (hcs : cells ≤ R.cells ∧ slots ≤ R.slots) (hrf : rmX5_doInstruction.frames ≤ R.frames) (hrl : rmX5_doInstruction.locals ≤ R.locals) {res : Mem} (C : CX p s m args meth c RX5 cX5_doInstruction 3 none) : ∀ (M : Mem) (a1 : Int32) (H : Heap) (locs : List Loc) (ls : Array Slot), ok_X5_doInstruction M a1 → f_X5_doInstruction M a1 = res → WH D [(cI, .int)] (wN cI ad) A s H locs M → lv_has ls 3 [(0, .ref (ad 0)), (1, .int a1)] → W p l e R s m args below meth c H locs cells slots (MQ below (PV D [(cI, .int)] (wN cI ad) A res) args s cells slots A) (F0 m 0 ls []) := by
  have hx := C.1
  have hb := C.2.1
  have hown := C.2.2.2.2.1
  have hts := C.2.2.2.2.2.1
  intro M a1 H locs ls hok hres h hl
  rw [ok_X5_doInstruction] at hok
  rw [f_X5_doInstruction] at hres
  refine lv_iload_n hx hb dX5_doInstruction_0 rfl (lv_at hl 1 rfl) ?_
  refine wh_csip (As := [.int a1]) (rest := []) hcs C h (c_X1_a M a1) yw_X1_a in_mX5_224 hl.1 rfl rfl (Nat.le_of_ble_eq_true rfl) ⟨Nat.le_trans (Nat.le_of_ble_eq_true rfl) hrf, Nat.le_trans (Nat.le_of_ble_eq_true rfl) hrl⟩ dX5_doInstruction_1 (fun H locs h => ?_)
  refine lv_istore_n (lv' := [(2, .int (f_X1_a M a1)), (0, .ref (ad 0)), (1, .int a1)]) hx hb dX5_doInstruction_4 rfl hl (by decide) rfl (fun ls hl => ?_)
  refine lv_aload_n hx hb dX5_doInstruction_5 rfl (lv_at hl 1 rfl) ?_
  refine N_X5_attempt_get C h in_fX5_32 dX5_doInstruction_6 ?_
  refine lv_dup hx hb dX5_doInstruction_9 rfl ?_
  refine N_X0_next_get (v := (M 16 0)) C h in_fX5_141 rfl dX5_doInstruction_10 ?_
  refine lv_iconst (v := (1 : Int32)) hx hb dX5_doInstruction_13 (by decide) ?_
  refine lv_iadd hx hb dX5_doInstruction_14 ?_
  refine N_X0_next_put (v := ((M 16 0) + (1 : Int32))) (M2 := (ms M 16 (fun _ => ((M 16 0) + (1 : Int32))))) C h in_fX5_141 rfl dX5_doInstruction_15 (fun H locs h => ?_)
  refine lv_iload_n hx hb dX5_doInstruction_18 rfl (lv_at hl 2 rfl) ?_
  refine wh_csip (As := [.int a1]) (rest := []) hcs C h (c_X1_op (ms M 16 (fun _ => ((M 16 0) + (1 : Int32)))) a1) yw_X1_op in_mX5_227 hl.1 rfl rfl (Nat.le_of_ble_eq_true rfl) ⟨Nat.le_trans (Nat.le_of_ble_eq_true rfl) hrf, Nat.le_trans (Nat.le_of_ble_eq_true rfl) hrl⟩ dX5_doInstruction_19 (fun H locs h => ?_)
  refine (Classical.em ((f_X1_op (ms M 16 (fun _ => ((M 16 0) + (1 : Int32)))) a1) = (0 : Int32))).elim (fun c3 => ?_) (fun c3 => ?_)
  · have hres := it_p hres c3
    have hok := io_p hok c3
    refine sw_lk (k := (0 : Int32)) (off := 34) (tgt := 56) c3 hx hb dX5_doInstruction_22 (by decide) (by decide) (by decide) ?_
    refine lv_aload_n hx hb dX5_doInstruction_56 rfl (lv_at hl 1 rfl) ?_
    refine N_X5_attempt_get C h in_fX5_32 dX5_doInstruction_57 ?_
    refine N_X0_pending_get C h in_fX5_132 dX5_doInstruction_60 ?_
    refine lv_iload_n hx hb dX5_doInstruction_63 rfl (lv_at hl 0 rfl) ?_
    refine lv_aload_n hx hb dX5_doInstruction_64 rfl (lv_at hl 1 rfl) ?_
    refine N_X5_store_get C h in_fX5_19 dX5_doInstruction_65 ?_
    refine N_X4_words_get C h in_fX5_110 dX5_doInstruction_68 ?_
    refine lv_iconst (v := (1 : Int32)) hx hb dX5_doInstruction_71 (by decide) ?_
    refine N_sw_ld (v := ((M 13) 1)) C h (vp_l (by decide)) rfl dX5_doInstruction_72 ?_
    refine lv_iconst (v := (1 : Int32)) hx hb dX5_doInstruction_73 (by decide) ?_
    refine lv_iadd hx hb dX5_doInstruction_74 ?_
    have h5 := hok
    refine wh_cvv (As := [.int (f_X1_a M a1), .int (((M 13) 1) + (1 : Int32))]) (rest := []) hcs C h (c_X2_close (ms M 16 (fun _ => ((M 16 0) + (1 : Int32)))) (f_X1_a M a1) (((M 13) 1) + (1 : Int32)) h5) yw_X2_close in_mX5_230 hl.1 rfl rfl (Nat.le_of_ble_eq_true rfl) ⟨Nat.le_trans (Nat.le_of_ble_eq_true rfl) hrf, Nat.le_trans (Nat.le_of_ble_eq_true rfl) hrl⟩ dX5_doInstruction_75 (fun M4 H locs e4 h => ?_)
    rw [e4] at hres
    have hres := bv_e hres
    refine lv_aload_n hx hb dX5_doInstruction_78 rfl (lv_at hl 1 rfl) ?_
    refine lv_iconst (v := (0 : Int32)) hx hb dX5_doInstruction_79 (by decide) ?_
    refine N_X5_commitSteps_put (v := (0 : Int32)) (M2 := (ms M4 8 (fun _ => (0 : Int32)))) C h in_fX5_232 rfl dX5_doInstruction_80 (fun H locs h => ?_)
    refine lv_aload_n hx hb dX5_doInstruction_83 rfl (lv_at hl 1 rfl) ?_
    refine lv_iconst (v := (4 : Int32)) hx hb dX5_doInstruction_84 (by decide) ?_
    refine N_X5_phase_put (v := (4 : Int32)) (M2 := (ms (ms M4 8 (fun _ => (0 : Int32))) 0 (fun _ => (4 : Int32)))) C h in_fX5_49 rfl dX5_doInstruction_85 (fun H locs h => ?_)
    refine lv_goto (tgt := 146) hx hb dX5_doInstruction_88 (by decide) ?_
    exact wh_vret C h hres dX5_doInstruction_146
  · have hres := it_n hres c3
    have hok := io_n hok c3
    refine (Classical.em ((f_X1_op (ms M 16 (fun _ => ((M 16 0) + (1 : Int32)))) a1) = (16 : Int32))).elim (fun c6 => ?_) (fun c6 => ?_)
    · have hres := it_p hres c6
      refine sw_lk (k := (16 : Int32)) (off := 69) (tgt := 91) c6 hx hb dX5_doInstruction_22 (by decide) (by decide) (by decide) ?_
      refine lv_aload_n hx hb dX5_doInstruction_91 rfl (lv_at hl 1 rfl) ?_
      refine N_X5_attempt_get C h in_fX5_32 dX5_doInstruction_92 ?_
      refine lv_aload_n hx hb dX5_doInstruction_95 rfl (lv_at hl 1 rfl) ?_
      refine N_X5_slotNumber_get (v := (M 2 0)) C h in_fX5_89 rfl dX5_doInstruction_96 ?_
      refine wh_cvv (As := [.int (M 2 0)]) (rest := []) hcs C h (c_X0_bind (ms M 16 (fun _ => ((M 16 0) + (1 : Int32)))) (M 2 0)) yw_X0_bind in_mX5_235 hl.1 rfl rfl (Nat.le_of_ble_eq_true rfl) ⟨Nat.le_trans (Nat.le_of_ble_eq_true rfl) hrf, Nat.le_trans (Nat.le_of_ble_eq_true rfl) hrl⟩ dX5_doInstruction_99 (fun M7 H locs e7 h => ?_)
      rw [e7] at hres
      have hres := bv_e hres
      refine lv_goto (tgt := 146) hx hb dX5_doInstruction_102 (by decide) ?_
      exact wh_vret C h hres dX5_doInstruction_146
    · have hres := it_n hres c6
      have hok := io_n hok c6
      refine (Classical.em ((f_X1_op (ms M 16 (fun _ => ((M 16 0) + (1 : Int32)))) a1) = (17 : Int32))).elim (fun c8 => ?_) (fun c8 => ?_)
      · have hres := it_p hres c8
        refine sw_lk (k := (17 : Int32)) (off := 83) (tgt := 105) c8 hx hb dX5_doInstruction_22 (by decide) (by decide) (by decide) ?_
        refine lv_aload_n hx hb dX5_doInstruction_105 rfl (lv_at hl 1 rfl) ?_
        refine N_X5_attempt_get C h in_fX5_32 dX5_doInstruction_106 ?_
        refine lv_aload_n hx hb dX5_doInstruction_109 rfl (lv_at hl 1 rfl) ?_
        refine N_X5_slotNumber_get (v := (M 2 0)) C h in_fX5_89 rfl dX5_doInstruction_110 ?_
        refine lv_iload_n hx hb dX5_doInstruction_113 rfl (lv_at hl 0 rfl) ?_
        refine wh_cvzp (As := [.int (M 2 0), .int (f_X1_a M a1)]) (rest := []) hcs C h (c_X0_isTooLate (ms M 16 (fun _ => ((M 16 0) + (1 : Int32)))) (M 2 0) (f_X1_a M a1)) yw_X0_isTooLate in_mX5_238 hl.1 rfl rfl (Nat.le_of_ble_eq_true rfl) ⟨Nat.le_trans (Nat.le_of_ble_eq_true rfl) hrf, Nat.le_trans (Nat.le_of_ble_eq_true rfl) hrl⟩ dX5_doInstruction_114 (fun H locs z9 h => ?_)
        refine lv_if_eq (tgt := 146) hx hb dX5_doInstruction_117 (by decide) (fun c10 => ?_) (fun c10 => ?_)
        · have hres := it_p hres c10
          exact wh_vret C h hres dX5_doInstruction_146
        · have hres := it_n hres c10
          refine lv_aload_n hx hb dX5_doInstruction_120 rfl (lv_at hl 1 rfl) ?_
          refine lv_dup hx hb dX5_doInstruction_121 rfl ?_
          refine N_X5_abandoned_get (v := (M 6 0)) C h in_fX5_147 rfl dX5_doInstruction_122 ?_
          refine lv_iconst (v := (1 : Int32)) hx hb dX5_doInstruction_125 (by decide) ?_
          refine lv_iadd hx hb dX5_doInstruction_126 ?_
          refine N_X5_abandoned_put (v := ((M 6 0) + (1 : Int32))) (M2 := (ms (ms M 16 (fun _ => ((M 16 0) + (1 : Int32)))) 6 (fun _ => ((M 6 0) + (1 : Int32))))) C h in_fX5_147 rfl dX5_doInstruction_127 (fun H locs h => ?_)
          refine lv_aload_n hx hb dX5_doInstruction_130 rfl (lv_at hl 1 rfl) ?_
          refine lv_iconst (v := (2 : Int32)) hx hb dX5_doInstruction_131 (by decide) ?_
          refine N_X5_phase_put (v := (2 : Int32)) (M2 := (ms (ms (ms M 16 (fun _ => ((M 16 0) + (1 : Int32)))) 6 (fun _ => ((M 6 0) + (1 : Int32)))) 0 (fun _ => (2 : Int32)))) C h in_fX5_49 rfl dX5_doInstruction_132 (fun H locs h => ?_)
          refine lv_goto (tgt := 146) hx hb dX5_doInstruction_135 (by decide) ?_
          exact wh_vret C h hres dX5_doInstruction_146
      · have hres := it_n hres c8
        have hok := io_n hok c8
        refine lv_lookup (off := 116) (tgt := 138) hx hb dX5_doInstruction_22 (by decide) (by rw [lv_osw c3 (by decide)]; rw [lv_osw c6 (by decide)]; rw [lv_osw c8 (by decide)]; rfl) (by decide) ?_
        refine lv_aload_n hx hb dX5_doInstruction_138 rfl (lv_at hl 1 rfl) ?_
        refine N_X5_attempt_get C h in_fX5_32 dX5_doInstruction_139 ?_
        refine lv_iload_n hx hb dX5_doInstruction_142 rfl (lv_at hl 2 rfl) ?_
        have h12 := hok
        refine wh_cvv (As := [.int a1]) (rest := []) hcs C h (c_X0_work (ms M 16 (fun _ => ((M 16 0) + (1 : Int32)))) a1 h12) yw_X0_work in_mX5_242 hl.1 rfl rfl (Nat.le_of_ble_eq_true rfl) ⟨Nat.le_trans (Nat.le_of_ble_eq_true rfl) hrf, Nat.le_trans (Nat.le_of_ble_eq_true rfl) hrl⟩ dX5_doInstruction_143 (fun M11 H locs e11 h => ?_)
        rw [e11] at hres
        have hres := bv_e hres
        exact wh_vret C h hres dX5_doInstruction_146
theorem yw_X5_doInstruction {cI : ClassId} {ad : Nat → Nat} : YV (wN cI ad) (ad 0) yX5_doInstruction cX5_doInstruction 3 none rmX5_doInstruction 1 := ⟨fun M => ⟨0, 5, _, _, rfl, rfl, rfl⟩, in_cX5_doInstruction, in_nX5_doInstruction, in_vX5_doInstruction, in_iX5, by decide +kernel, rfl, rfl⟩
theorem c_X5_doInstruction {l : Launch} {D : va_G} {cI : ClassId} {ad : Nat → Nat} (M : Mem) (a1 : Int32) (hok : ok_X5_doInstruction M a1) : KV l D [(cI, .int)] (wN cI ad) yX5_doInstruction cX5_doInstruction 3 rmX5_doInstruction [.ref (ad 0), .int a1] M (f_X5_doInstruction M a1) := met_v (by decide) (Nat.le_of_ble_eq_true rfl) (fun p e s m below meth c A C h ls hl => k_X5_doInstruction_0 ⟨Nat.le_refl _, Nat.le_refl _⟩ (Nat.le_refl _) (Nat.le_refl _) C M a1 _ _ ls hok rfl h hl)
abbrev rmX5_finishAttempt : Room := { frames := 1, cells := 0, slots := 0, locals := 21 }
def f_X5_finishAttempt (M : Mem) : Mem := (ms (ms (ms M 31 (upd (M 31) (M 15 0).toNatClampNeg (if ((M 31) (M 15 0).toNatClampNeg) < (M 17 0) then (M 17 0) else ((M 31) (M 15 0).toNatClampNeg)))) 32 (upd (M 32) (M 15 0).toNatClampNeg (0 : Int32))) 0 (fun _ => (2 : Int32)))
def ok_X5_finishAttempt (M : Mem) : Prop := vp_in (M 15 0) 16 ∧ vp_in (M 15 0) 16 ∧ vp_in (M 15 0) 16
set_option maxRecDepth 100000 in
set_option maxHeartbeats 4000000 in
theorem k_X5_finishAttempt_0 {p : Program} {l : Launch} {e : Env} {s : State} {m : MethodId} {args : Array Value} {below : List Frame} {meth : Method} {c : Code} {D : va_G} {cI : ClassId} {ad : Nat → Nat} {A : Nat → Prop} {cells slots : Nat} {R : Room} (hcs : cells ≤ R.cells ∧ slots ≤ R.slots) (hrf : rmX5_finishAttempt.frames ≤ R.frames) (hrl : rmX5_finishAttempt.locals ≤ R.locals) {res : Mem} (C : CX p s m args meth c RX5 cX5_finishAttempt 2 none) : ∀ (M : Mem) (H : Heap) (locs : List Loc) (ls : Array Slot), ok_X5_finishAttempt M → f_X5_finishAttempt M = res → WH D [(cI, .int)] (wN cI ad) A s H locs M → lv_has ls 2 [(0, .ref (ad 0))] → W p l e R s m args below meth c H locs cells slots (MQ below (PV D [(cI, .int)] (wN cI ad) A res) args s cells slots A) (F0 m 0 ls []) := by
  have hx := C.1
  have hb := C.2.1
  have hown := C.2.2.2.2.1
  have hts := C.2.2.2.2.2.1
  intro M H locs ls hok hres h hl
  rw [ok_X5_finishAttempt] at hok
  rw [f_X5_finishAttempt] at hres
  refine lv_aload_n hx hb dX5_finishAttempt_0 rfl (lv_at hl 0 rfl) ?_
  refine N_X5_attempt_get C h in_fX5_32 dX5_finishAttempt_1 ?_
  refine N_X0_task_get (v := (M 15 0)) C h in_fX5_205 rfl dX5_finishAttempt_4 ?_
  refine lv_istore_n (lv' := [(1, .int (M 15 0)), (0, .ref (ad 0))]) hx hb dX5_finishAttempt_7 rfl hl (by decide) rfl (fun ls hl => ?_)
  refine lv_aload_n hx hb dX5_finishAttempt_8 rfl (lv_at hl 1 rfl) ?_
  refine N_X5_estimates_get C h in_fX5_43 dX5_finishAttempt_9 ?_
  refine lv_iload_n hx hb dX5_finishAttempt_12 rfl (lv_at hl 0 rfl) ?_
  refine lv_aload_n hx hb dX5_finishAttempt_13 rfl (lv_at hl 1 rfl) ?_
  refine N_X5_estimates_get C h in_fX5_43 dX5_finishAttempt_14 ?_
  refine lv_iload_n hx hb dX5_finishAttempt_17 rfl (lv_at hl 0 rfl) ?_
  obtain ⟨h3, hok⟩ := hok
  refine N_es_ld (v := ((M 31) (M 15 0).toNatClampNeg)) C h h3 rfl dX5_finishAttempt_18 ?_
  refine lv_aload_n hx hb dX5_finishAttempt_19 rfl (lv_at hl 1 rfl) ?_
  refine N_X5_attempt_get C h in_fX5_32 dX5_finishAttempt_20 ?_
  refine N_X0_spent_get (v := (M 17 0)) C h in_fX5_129 rfl dX5_finishAttempt_23 ?_
  refine wh_mmax C in_mX5_254 hl.1 (Nat.le_trans (Nat.le_of_ble_eq_true rfl) hrf) (Nat.le_trans (Nat.le_of_ble_eq_true rfl) hrl) hcs dX5_finishAttempt_26 ?_
  obtain ⟨h2, hok⟩ := hok
  refine N_es_st (M2 := (ms M 31 (upd (M 31) (M 15 0).toNatClampNeg (if ((M 31) (M 15 0).toNatClampNeg) < (M 17 0) then (M 17 0) else ((M 31) (M 15 0).toNatClampNeg))))) C h h2 rfl dX5_finishAttempt_29 (fun H locs h => ?_)
  refine lv_aload_n hx hb dX5_finishAttempt_30 rfl (lv_at hl 1 rfl) ?_
  refine N_X5_failures_get C h in_fX5_46 dX5_finishAttempt_31 ?_
  refine lv_iload_n hx hb dX5_finishAttempt_34 rfl (lv_at hl 0 rfl) ?_
  refine lv_iconst (v := (0 : Int32)) hx hb dX5_finishAttempt_35 (by decide) ?_
  have h1 := hok
  refine N_fa_st (M2 := (ms (ms M 31 (upd (M 31) (M 15 0).toNatClampNeg (if ((M 31) (M 15 0).toNatClampNeg) < (M 17 0) then (M 17 0) else ((M 31) (M 15 0).toNatClampNeg)))) 32 (upd (M 32) (M 15 0).toNatClampNeg (0 : Int32)))) C h h1 rfl dX5_finishAttempt_36 (fun H locs h => ?_)
  refine lv_aload_n hx hb dX5_finishAttempt_37 rfl (lv_at hl 1 rfl) ?_
  refine lv_iconst (v := (2 : Int32)) hx hb dX5_finishAttempt_38 (by decide) ?_
  refine N_X5_phase_put (v := (2 : Int32)) (M2 := (ms (ms (ms M 31 (upd (M 31) (M 15 0).toNatClampNeg (if ((M 31) (M 15 0).toNatClampNeg) < (M 17 0) then (M 17 0) else ((M 31) (M 15 0).toNatClampNeg)))) 32 (upd (M 32) (M 15 0).toNatClampNeg (0 : Int32))) 0 (fun _ => (2 : Int32)))) C h in_fX5_49 rfl dX5_finishAttempt_39 (fun H locs h => ?_)
  exact wh_vret C h hres dX5_finishAttempt_42
theorem yw_X5_finishAttempt {cI : ClassId} {ad : Nat → Nat} : YV (wN cI ad) (ad 0) yX5_finishAttempt cX5_finishAttempt 2 none rmX5_finishAttempt 0 := ⟨fun M => ⟨0, 5, _, _, rfl, rfl, rfl⟩, in_cX5_finishAttempt, in_nX5_finishAttempt, in_vX5_finishAttempt, in_iX5, by decide +kernel, rfl, rfl⟩
theorem c_X5_finishAttempt {l : Launch} {D : va_G} {cI : ClassId} {ad : Nat → Nat} (M : Mem) (hok : ok_X5_finishAttempt M) : KV l D [(cI, .int)] (wN cI ad) yX5_finishAttempt cX5_finishAttempt 2 rmX5_finishAttempt [.ref (ad 0)] M (f_X5_finishAttempt M) := met_v (by decide) (Nat.le_of_ble_eq_true rfl) (fun p e s m below meth c A C h ls hl => k_X5_finishAttempt_0 ⟨Nat.le_refl _, Nat.le_refl _⟩ (Nat.le_refl _) (Nat.le_refl _) C M _ _ ls hok rfl h hl)
abbrev rmX5_doCommitStep : Room := { frames := 2, cells := 0, slots := 0, locals := 44 }
def f_X5_doCommitStep (M : Mem) : Mem := (if ((2 : Int32) * (f_X2_entries M)) ≤ (M 8 0) then (if (M 8 0) = ((2 : Int32) * (f_X2_entries M)) then (bv (f_X4_write M (2 : Int32) (f_X2_entries M)) (fun M11 => (ms M11 8 (fun _ => ((M11 8 0) + (1 : Int32)))))) else (if (f_X2_entries M) ≤ (((M 8 0) - ((2 : Int32) * (f_X2_entries M))) - (1 : Int32)) then (bv (f_X4_write M (2 : Int32) (0 : Int32)) (fun M5 => (bv (f_X5_finishAttempt M5) (fun M6 => (ms M6 8 (fun _ => ((M6 8 0) + (1 : Int32)))))))) else (bv (f_X4_applyEntry M (((M 8 0) - ((2 : Int32) * (f_X2_entries M))) - (1 : Int32))) (fun M9 => (ms M9 8 (fun _ => ((M9 8 0) + (1 : Int32)))))))) else (bv (f_X4_write M ((84 : Int32) + (M 8 0)) (f_X2_listWord M (M 8 0))) (fun M14 => (ms M14 8 (fun _ => ((M14 8 0) + (1 : Int32)))))))
def ok_X5_doCommitStep (M : Mem) : Prop := (if ((2 : Int32) * (f_X2_entries M)) ≤ (M 8 0) then (if (M 8 0) = ((2 : Int32) * (f_X2_entries M)) then ok_X4_write M (2 : Int32) (f_X2_entries M) else (if (f_X2_entries M) ≤ (((M 8 0) - ((2 : Int32) * (f_X2_entries M))) - (1 : Int32)) then ok_X4_write M (2 : Int32) (0 : Int32) ∧ (bv (f_X4_write M (2 : Int32) (0 : Int32)) (fun M5 => ok_X5_finishAttempt M5)) else ok_X4_applyEntry M (((M 8 0) - ((2 : Int32) * (f_X2_entries M))) - (1 : Int32)))) else ok_X2_listWord M (M 8 0) ∧ ok_X4_write M ((84 : Int32) + (M 8 0)) (f_X2_listWord M (M 8 0)))
set_option maxRecDepth 100000 in
set_option maxHeartbeats 4000000 in
theorem k_X5_doCommitStep_0 {p : Program} {l : Launch} {e : Env} {s : State} {m : MethodId} {args : Array Value} {below : List Frame} {meth : Method} {c : Code} {D : va_G} {cI : ClassId} {ad : Nat → Nat} {A : Nat → Prop} {cells slots : Nat} {R : Room} (hcs : cells ≤ R.cells ∧ slots ≤ R.slots) (hrf : rmX5_doCommitStep.frames ≤ R.frames) (hrl : rmX5_doCommitStep.locals ≤ R.locals) {res : Mem} (C : CX p s m args meth c RX5 cX5_doCommitStep 4 none) : ∀ (M : Mem) (H : Heap) (locs : List Loc) (ls : Array Slot), ok_X5_doCommitStep M → f_X5_doCommitStep M = res → WH D [(cI, .int)] (wN cI ad) A s H locs M → lv_has ls 4 [(0, .ref (ad 0))] → W p l e R s m args below meth c H locs cells slots (MQ below (PV D [(cI, .int)] (wN cI ad) A res) args s cells slots A) (F0 m 0 ls []) := by
  have hx := C.1
  have hb := C.2.1
  have hown := C.2.2.2.2.1
  have hts := C.2.2.2.2.2.1
  intro M H locs ls hok hres h hl
  rw [ok_X5_doCommitStep] at hok
  rw [f_X5_doCommitStep] at hres
  refine lv_aload_n hx hb dX5_doCommitStep_0 rfl (lv_at hl 0 rfl) ?_
  refine N_X5_attempt_get C h in_fX5_32 dX5_doCommitStep_1 ?_
  refine N_X0_pending_get C h in_fX5_132 dX5_doCommitStep_4 ?_
  refine wh_cvip (As := []) (rest := []) hcs C h (c_X2_entries M) yw_X2_entries in_mX5_245 hl.1 rfl rfl (Nat.le_of_ble_eq_true rfl) ⟨Nat.le_trans (Nat.le_of_ble_eq_true rfl) hrf, Nat.le_trans (Nat.le_of_ble_eq_true rfl) hrl⟩ dX5_doCommitStep_7 (fun H locs h => ?_)
  refine lv_istore_n (lv' := [(1, .int (f_X2_entries M)), (0, .ref (ad 0))]) hx hb dX5_doCommitStep_10 rfl hl (by decide) rfl (fun ls hl => ?_)
  refine lv_iconst (v := (2 : Int32)) hx hb dX5_doCommitStep_11 (by decide) ?_
  refine lv_iload_n hx hb dX5_doCommitStep_12 rfl (lv_at hl 0 rfl) ?_
  refine lv_imul hx hb dX5_doCommitStep_13 ?_
  refine lv_istore_n (lv' := [(2, .int ((2 : Int32) * (f_X2_entries M))), (1, .int (f_X2_entries M)), (0, .ref (ad 0))]) hx hb dX5_doCommitStep_14 rfl hl (by decide) rfl (fun ls hl => ?_)
  refine lv_aload_n hx hb dX5_doCommitStep_15 rfl (lv_at hl 2 rfl) ?_
  refine N_X5_commitSteps_get (v := (M 8 0)) C h in_fX5_232 rfl dX5_doCommitStep_16 ?_
  refine lv_iload_n hx hb dX5_doCommitStep_19 rfl (lv_at hl 0 rfl) ?_
  refine lv_isub hx hb dX5_doCommitStep_20 ?_
  refine lv_iconst (v := (1 : Int32)) hx hb dX5_doCommitStep_21 (by decide) ?_
  refine lv_isub hx hb dX5_doCommitStep_22 ?_
  refine lv_istore_n (lv' := [(3, .int (((M 8 0) - ((2 : Int32) * (f_X2_entries M))) - (1 : Int32))), (2, .int ((2 : Int32) * (f_X2_entries M))), (1, .int (f_X2_entries M)), (0, .ref (ad 0))]) hx hb dX5_doCommitStep_23 rfl hl (by decide) rfl (fun ls hl => ?_)
  refine lv_aload_n hx hb dX5_doCommitStep_24 rfl (lv_at hl 3 rfl) ?_
  refine N_X5_commitSteps_get (v := (M 8 0)) C h in_fX5_232 rfl dX5_doCommitStep_25 ?_
  refine lv_iload_n hx hb dX5_doCommitStep_28 rfl (lv_at hl 1 rfl) ?_
  refine lv_icmp_ge (tgt := 63) hx hb dX5_doCommitStep_29 (by decide) (fun c2 => ?_) (fun c2 => ?_)
  · have hres := it_p hres c2
    have hok := io_p hok c2
    refine lv_aload_n hx hb dX5_doCommitStep_63 rfl (lv_at hl 3 rfl) ?_
    refine N_X5_commitSteps_get (v := (M 8 0)) C h in_fX5_232 rfl dX5_doCommitStep_64 ?_
    refine lv_iload_n hx hb dX5_doCommitStep_67 rfl (lv_at hl 1 rfl) ?_
    refine lv_icmp_ne (tgt := 83) hx hb dX5_doCommitStep_68 (by decide) (fun c3 => ?_) (fun c3 => ?_)
    · have hres := it_n hres c3
      have hok := io_n hok c3
      refine lv_iload_n hx hb dX5_doCommitStep_83 rfl (lv_at hl 0 rfl) ?_
      refine lv_iload_n hx hb dX5_doCommitStep_84 rfl (lv_at hl 2 rfl) ?_
      refine lv_icmp_ge (tgt := 99) hx hb dX5_doCommitStep_85 (by decide) (fun c4 => ?_) (fun c4 => ?_)
      · have hres := it_p hres c4
        have hok := io_p hok c4
        refine lv_aload_n hx hb dX5_doCommitStep_99 rfl (lv_at hl 3 rfl) ?_
        refine N_X5_store_get C h in_fX5_19 dX5_doCommitStep_100 ?_
        refine lv_iconst (v := (2 : Int32)) hx hb dX5_doCommitStep_103 (by decide) ?_
        refine lv_iconst (v := (0 : Int32)) hx hb dX5_doCommitStep_104 (by decide) ?_
        obtain ⟨h8, hok⟩ := hok
        refine wh_cvv (As := [.int (2 : Int32), .int (0 : Int32)]) (rest := []) hcs C h (c_X4_write M (2 : Int32) (0 : Int32) h8) yw_X4_write in_mX5_214 hl.1 rfl rfl (Nat.le_of_ble_eq_true rfl) ⟨Nat.le_trans (Nat.le_of_ble_eq_true rfl) hrf, Nat.le_trans (Nat.le_of_ble_eq_true rfl) hrl⟩ dX5_doCommitStep_105 (fun M5 H locs e5 h => ?_)
        rw [e5] at hres
        have hres := bv_e hres
        rw [e5] at hok
        have hok := bv_o hok
        refine lv_aload_n hx hb dX5_doCommitStep_108 rfl (lv_at hl 3 rfl) ?_
        have h7 := hok
        refine wh_cvv (As := []) (rest := []) hcs C h (c_X5_finishAttempt M5 h7) yw_X5_finishAttempt in_mX5_251 hl.1 rfl rfl (Nat.le_of_ble_eq_true rfl) ⟨Nat.le_trans (Nat.le_of_ble_eq_true rfl) hrf, Nat.le_trans (Nat.le_of_ble_eq_true rfl) hrl⟩ dX5_doCommitStep_109 (fun M6 H locs e6 h => ?_)
        rw [e6] at hres
        have hres := bv_e hres
        refine lv_aload_n hx hb dX5_doCommitStep_112 rfl (lv_at hl 3 rfl) ?_
        refine lv_dup hx hb dX5_doCommitStep_113 rfl ?_
        refine N_X5_commitSteps_get (v := (M6 8 0)) C h in_fX5_232 rfl dX5_doCommitStep_114 ?_
        refine lv_iconst (v := (1 : Int32)) hx hb dX5_doCommitStep_117 (by decide) ?_
        refine lv_iadd hx hb dX5_doCommitStep_118 ?_
        refine N_X5_commitSteps_put (v := ((M6 8 0) + (1 : Int32))) (M2 := (ms M6 8 (fun _ => ((M6 8 0) + (1 : Int32))))) C h in_fX5_232 rfl dX5_doCommitStep_119 (fun H locs h => ?_)
        exact wh_vret C h hres dX5_doCommitStep_122
      · have hres := it_n hres c4
        have hok := io_n hok c4
        refine lv_aload_n hx hb dX5_doCommitStep_88 rfl (lv_at hl 3 rfl) ?_
        refine N_X5_store_get C h in_fX5_19 dX5_doCommitStep_89 ?_
        refine lv_iload_n hx hb dX5_doCommitStep_92 rfl (lv_at hl 0 rfl) ?_
        have h10 := hok
        refine wh_cvv (As := [.int (((M 8 0) - ((2 : Int32) * (f_X2_entries M))) - (1 : Int32))]) (rest := []) hcs C h (c_X4_applyEntry M (((M 8 0) - ((2 : Int32) * (f_X2_entries M))) - (1 : Int32)) h10) yw_X4_applyEntry in_mX5_211 hl.1 rfl rfl (Nat.le_of_ble_eq_true rfl) ⟨Nat.le_trans (Nat.le_of_ble_eq_true rfl) hrf, Nat.le_trans (Nat.le_of_ble_eq_true rfl) hrl⟩ dX5_doCommitStep_93 (fun M9 H locs e9 h => ?_)
        rw [e9] at hres
        have hres := bv_e hres
        refine lv_goto (tgt := 112) hx hb dX5_doCommitStep_96 (by decide) ?_
        refine lv_aload_n hx hb dX5_doCommitStep_112 rfl (lv_at hl 3 rfl) ?_
        refine lv_dup hx hb dX5_doCommitStep_113 rfl ?_
        refine N_X5_commitSteps_get (v := (M9 8 0)) C h in_fX5_232 rfl dX5_doCommitStep_114 ?_
        refine lv_iconst (v := (1 : Int32)) hx hb dX5_doCommitStep_117 (by decide) ?_
        refine lv_iadd hx hb dX5_doCommitStep_118 ?_
        refine N_X5_commitSteps_put (v := ((M9 8 0) + (1 : Int32))) (M2 := (ms M9 8 (fun _ => ((M9 8 0) + (1 : Int32))))) C h in_fX5_232 rfl dX5_doCommitStep_119 (fun H locs h => ?_)
        exact wh_vret C h hres dX5_doCommitStep_122
    · have hres := it_p hres c3
      have hok := io_p hok c3
      refine lv_aload_n hx hb dX5_doCommitStep_71 rfl (lv_at hl 3 rfl) ?_
      refine N_X5_store_get C h in_fX5_19 dX5_doCommitStep_72 ?_
      refine lv_iconst (v := (2 : Int32)) hx hb dX5_doCommitStep_75 (by decide) ?_
      refine lv_iload_n hx hb dX5_doCommitStep_76 rfl (lv_at hl 2 rfl) ?_
      have h12 := hok
      refine wh_cvv (As := [.int (2 : Int32), .int (f_X2_entries M)]) (rest := []) hcs C h (c_X4_write M (2 : Int32) (f_X2_entries M) h12) yw_X4_write in_mX5_214 hl.1 rfl rfl (Nat.le_of_ble_eq_true rfl) ⟨Nat.le_trans (Nat.le_of_ble_eq_true rfl) hrf, Nat.le_trans (Nat.le_of_ble_eq_true rfl) hrl⟩ dX5_doCommitStep_77 (fun M11 H locs e11 h => ?_)
      rw [e11] at hres
      have hres := bv_e hres
      refine lv_goto (tgt := 112) hx hb dX5_doCommitStep_80 (by decide) ?_
      refine lv_aload_n hx hb dX5_doCommitStep_112 rfl (lv_at hl 3 rfl) ?_
      refine lv_dup hx hb dX5_doCommitStep_113 rfl ?_
      refine N_X5_commitSteps_get (v := (M11 8 0)) C h in_fX5_232 rfl dX5_doCommitStep_114 ?_
      refine lv_iconst (v := (1 : Int32)) hx hb dX5_doCommitStep_117 (by decide) ?_
      refine lv_iadd hx hb dX5_doCommitStep_118 ?_
      refine N_X5_commitSteps_put (v := ((M11 8 0) + (1 : Int32))) (M2 := (ms M11 8 (fun _ => ((M11 8 0) + (1 : Int32))))) C h in_fX5_232 rfl dX5_doCommitStep_119 (fun H locs h => ?_)
      exact wh_vret C h hres dX5_doCommitStep_122
  · have hres := it_n hres c2
    have hok := io_n hok c2
    refine lv_aload_n hx hb dX5_doCommitStep_32 rfl (lv_at hl 3 rfl) ?_
    refine N_X5_store_get C h in_fX5_19 dX5_doCommitStep_33 ?_
    refine lv_bipush (v := (84 : Int32)) hx hb dX5_doCommitStep_36 (by decide) ?_
    refine lv_aload_n hx hb dX5_doCommitStep_38 rfl (lv_at hl 3 rfl) ?_
    refine N_X5_commitSteps_get (v := (M 8 0)) C h in_fX5_232 rfl dX5_doCommitStep_39 ?_
    refine lv_iadd hx hb dX5_doCommitStep_42 ?_
    refine lv_aload_n hx hb dX5_doCommitStep_43 rfl (lv_at hl 3 rfl) ?_
    refine N_X5_attempt_get C h in_fX5_32 dX5_doCommitStep_44 ?_
    refine N_X0_pending_get C h in_fX5_132 dX5_doCommitStep_47 ?_
    refine lv_aload_n hx hb dX5_doCommitStep_50 rfl (lv_at hl 3 rfl) ?_
    refine N_X5_commitSteps_get (v := (M 8 0)) C h in_fX5_232 rfl dX5_doCommitStep_51 ?_
    obtain ⟨h16, hok⟩ := hok
    refine wh_cvip (As := [.int (M 8 0)]) (rest := [.int ((84 : Int32) + (M 8 0)), .ref (ad 4)]) hcs C h (c_X2_listWord M (M 8 0) h16) yw_X2_listWord in_mX5_248 hl.1 rfl rfl (Nat.le_of_ble_eq_true rfl) ⟨Nat.le_trans (Nat.le_of_ble_eq_true rfl) hrf, Nat.le_trans (Nat.le_of_ble_eq_true rfl) hrl⟩ dX5_doCommitStep_54 (fun H locs h => ?_)
    have h15 := hok
    refine wh_cvv (As := [.int ((84 : Int32) + (M 8 0)), .int (f_X2_listWord M (M 8 0))]) (rest := []) hcs C h (c_X4_write M ((84 : Int32) + (M 8 0)) (f_X2_listWord M (M 8 0)) h15) yw_X4_write in_mX5_214 hl.1 rfl rfl (Nat.le_of_ble_eq_true rfl) ⟨Nat.le_trans (Nat.le_of_ble_eq_true rfl) hrf, Nat.le_trans (Nat.le_of_ble_eq_true rfl) hrl⟩ dX5_doCommitStep_57 (fun M14 H locs e14 h => ?_)
    rw [e14] at hres
    have hres := bv_e hres
    refine lv_goto (tgt := 112) hx hb dX5_doCommitStep_60 (by decide) ?_
    refine lv_aload_n hx hb dX5_doCommitStep_112 rfl (lv_at hl 3 rfl) ?_
    refine lv_dup hx hb dX5_doCommitStep_113 rfl ?_
    refine N_X5_commitSteps_get (v := (M14 8 0)) C h in_fX5_232 rfl dX5_doCommitStep_114 ?_
    refine lv_iconst (v := (1 : Int32)) hx hb dX5_doCommitStep_117 (by decide) ?_
    refine lv_iadd hx hb dX5_doCommitStep_118 ?_
    refine N_X5_commitSteps_put (v := ((M14 8 0) + (1 : Int32))) (M2 := (ms M14 8 (fun _ => ((M14 8 0) + (1 : Int32))))) C h in_fX5_232 rfl dX5_doCommitStep_119 (fun H locs h => ?_)
    exact wh_vret C h hres dX5_doCommitStep_122
theorem yw_X5_doCommitStep {cI : ClassId} {ad : Nat → Nat} : YV (wN cI ad) (ad 0) yX5_doCommitStep cX5_doCommitStep 4 none rmX5_doCommitStep 0 := ⟨fun M => ⟨0, 5, _, _, rfl, rfl, rfl⟩, in_cX5_doCommitStep, in_nX5_doCommitStep, in_vX5_doCommitStep, in_iX5, by decide +kernel, rfl, rfl⟩
theorem c_X5_doCommitStep {l : Launch} {D : va_G} {cI : ClassId} {ad : Nat → Nat} (M : Mem) (hok : ok_X5_doCommitStep M) : KV l D [(cI, .int)] (wN cI ad) yX5_doCommitStep cX5_doCommitStep 4 rmX5_doCommitStep [.ref (ad 0)] M (f_X5_doCommitStep M) := met_v (by decide) (Nat.le_of_ble_eq_true rfl) (fun p e s m below meth c A C h ls hl => k_X5_doCommitStep_0 ⟨Nat.le_refl _, Nat.le_refl _⟩ (Nat.le_refl _) (Nat.le_refl _) C M _ _ ls hok rfl h hl)
abbrev rmX5_countTowardsCut : Room := { frames := 3, cells := 0, slots := 0, locals := 63 }
def f_X5_countTowardsCut (M : Mem) : Mem := (if (M 3 0) = 0 then M else (if ((M 3 0) - (1 : Int32)) = 0 then (bv (f_X5_failPower (ms M 3 (fun _ => ((M 3 0) - (1 : Int32))))) (fun M3 => M3)) else (ms M 3 (fun _ => ((M 3 0) - (1 : Int32))))))
def ok_X5_countTowardsCut (M : Mem) : Prop := (if (M 3 0) = 0 then True else (if ((M 3 0) - (1 : Int32)) = 0 then ok_X5_failPower (ms M 3 (fun _ => ((M 3 0) - (1 : Int32)))) else True))
set_option maxRecDepth 100000 in
set_option maxHeartbeats 4000000 in
theorem k_X5_countTowardsCut_0 {p : Program} {l : Launch} {e : Env} {s : State} {m : MethodId} {args : Array Value} {below : List Frame} {meth : Method} {c : Code} {D : va_G} {cI : ClassId} {ad : Nat → Nat} {A : Nat → Prop} {cells slots : Nat} {R : Room} (hcs : cells ≤ R.cells ∧ slots ≤ R.slots) (hrf : rmX5_countTowardsCut.frames ≤ R.frames) (hrl : rmX5_countTowardsCut.locals ≤ R.locals) {res : Mem} (C : CX p s m args meth c RX5 cX5_countTowardsCut 1 none) : ∀ (M : Mem) (H : Heap) (locs : List Loc) (ls : Array Slot), ok_X5_countTowardsCut M → f_X5_countTowardsCut M = res → WH D [(cI, .int)] (wN cI ad) A s H locs M → lv_has ls 1 [(0, .ref (ad 0))] → W p l e R s m args below meth c H locs cells slots (MQ below (PV D [(cI, .int)] (wN cI ad) A res) args s cells slots A) (F0 m 0 ls []) := by
  have hx := C.1
  have hb := C.2.1
  have hown := C.2.2.2.2.1
  have hts := C.2.2.2.2.2.1
  intro M H locs ls hok hres h hl
  rw [ok_X5_countTowardsCut] at hok
  rw [f_X5_countTowardsCut] at hres
  refine lv_aload_n hx hb dX5_countTowardsCut_0 rfl (lv_at hl 0 rfl) ?_
  refine N_X5_stepsToCut_get (v := (M 3 0)) C h in_fX5_99 rfl dX5_countTowardsCut_1 ?_
  refine lv_if_ne (tgt := 8) hx hb dX5_countTowardsCut_4 (by decide) (fun c1 => ?_) (fun c1 => ?_)
  · have hres := it_n hres c1
    have hok := io_n hok c1
    refine lv_aload_n hx hb dX5_countTowardsCut_8 rfl (lv_at hl 0 rfl) ?_
    refine lv_dup hx hb dX5_countTowardsCut_9 rfl ?_
    refine N_X5_stepsToCut_get (v := (M 3 0)) C h in_fX5_99 rfl dX5_countTowardsCut_10 ?_
    refine lv_iconst (v := (1 : Int32)) hx hb dX5_countTowardsCut_13 (by decide) ?_
    refine lv_isub hx hb dX5_countTowardsCut_14 ?_
    refine N_X5_stepsToCut_put (v := ((M 3 0) - (1 : Int32))) (M2 := (ms M 3 (fun _ => ((M 3 0) - (1 : Int32))))) C h in_fX5_99 rfl dX5_countTowardsCut_15 (fun H locs h => ?_)
    refine lv_aload_n hx hb dX5_countTowardsCut_18 rfl (lv_at hl 0 rfl) ?_
    refine N_X5_stepsToCut_get (v := ((M 3 0) - (1 : Int32))) C h in_fX5_99 rfl dX5_countTowardsCut_19 ?_
    refine lv_if_ne (tgt := 29) hx hb dX5_countTowardsCut_22 (by decide) (fun c2 => ?_) (fun c2 => ?_)
    · have hres := it_n hres c2
      exact wh_vret C h hres dX5_countTowardsCut_29
    · have hres := it_p hres c2
      have hok := io_p hok c2
      refine lv_aload_n hx hb dX5_countTowardsCut_25 rfl (lv_at hl 0 rfl) ?_
      have h4 := hok
      refine wh_cvv (As := []) (rest := []) hcs C h (c_X5_failPower (ms M 3 (fun _ => ((M 3 0) - (1 : Int32)))) h4) yw_X5_failPower in_mX5_178 hl.1 rfl rfl (Nat.le_of_ble_eq_true rfl) ⟨Nat.le_trans (Nat.le_of_ble_eq_true rfl) hrf, Nat.le_trans (Nat.le_of_ble_eq_true rfl) hrl⟩ dX5_countTowardsCut_26 (fun M3 H locs e3 h => ?_)
      rw [e3] at hres
      have hres := bv_e hres
      exact wh_vret C h hres dX5_countTowardsCut_29
  · have hres := it_p hres c1
    exact wh_vret C h hres dX5_countTowardsCut_7
theorem yw_X5_countTowardsCut {cI : ClassId} {ad : Nat → Nat} : YV (wN cI ad) (ad 0) yX5_countTowardsCut cX5_countTowardsCut 1 none rmX5_countTowardsCut 0 := ⟨fun M => ⟨0, 5, _, _, rfl, rfl, rfl⟩, in_cX5_countTowardsCut, in_nX5_countTowardsCut, in_vX5_countTowardsCut, in_iX5, by decide +kernel, rfl, rfl⟩
theorem c_X5_countTowardsCut {l : Launch} {D : va_G} {cI : ClassId} {ad : Nat → Nat} (M : Mem) (hok : ok_X5_countTowardsCut M) : KV l D [(cI, .int)] (wN cI ad) yX5_countTowardsCut cX5_countTowardsCut 1 rmX5_countTowardsCut [.ref (ad 0)] M (f_X5_countTowardsCut M) := met_v (by decide) (Nat.le_of_ble_eq_true rfl) (fun p e s m below meth c A C h ls hl => k_X5_countTowardsCut_0 ⟨Nat.le_refl _, Nat.le_refl _⟩ (Nat.le_refl _) (Nat.le_refl _) C M _ _ ls hok rfl h hl)
abbrev rmX5_step : Room := { frames := 5, cells := 0, slots := 0, locals := 118 }
def f_X5_step_117 (M : Mem) : Mem × Int32 := (bv (f_X5_countTowardsCut M) (fun M7 => (M7, (1 : Int32))))
def ok_X5_step_117 (M : Mem) : Prop := ok_X5_countTowardsCut M
def f_X5_step_34 (M : Mem) : Mem × Int32 := (if (f_X5_costOfStep M) ≤ (M 1 0) then (bv (f_X5_pay M (f_X5_costOfStep M)) (fun M4 => (if (M4 0 0) = (1 : Int32) then (bv (f_X5_doReplayStep M4) (fun M6 => (f_X5_step_117 M6))) else (if (M4 0 0) = (2 : Int32) then (bv (f_X5_doAirStep M4) (fun M11 => (f_X5_step_117 M11))) else (if (M4 0 0) = (3 : Int32) then (bv (f_X5_doInstruction M4 (f_X5_nextInstruction M4)) (fun M15 => (f_X5_step_117 M15))) else (bv (f_X5_doCommitStep M4) (fun M18 => (f_X5_step_117 M18)))))))) else (bv (f_X5_failPower M) (fun M20 => (M20, (0 : Int32)))))
def ok_X5_step_34 (M : Mem) : Prop := ok_X5_costOfStep M ∧ (if (f_X5_costOfStep M) ≤ (M 1 0) then (bv (f_X5_pay M (f_X5_costOfStep M)) (fun M4 => (if (M4 0 0) = (1 : Int32) then ok_X5_doReplayStep M4 ∧ (bv (f_X5_doReplayStep M4) (fun M6 => ok_X5_step_117 M6)) else (if (M4 0 0) = (2 : Int32) then ok_X5_doAirStep M4 ∧ (bv (f_X5_doAirStep M4) (fun M11 => ok_X5_step_117 M11)) else (if (M4 0 0) = (3 : Int32) then ok_X5_nextInstruction M4 ∧ ok_X5_doInstruction M4 (f_X5_nextInstruction M4) ∧ (bv (f_X5_doInstruction M4 (f_X5_nextInstruction M4)) (fun M15 => ok_X5_step_117 M15)) else ok_X5_doCommitStep M4 ∧ (bv (f_X5_doCommitStep M4) (fun M18 => ok_X5_step_117 M18))))))) else ok_X5_failPower M)
def f_X5_step (M : Mem) : Mem × Int32 := (if (M 0 0) = (2 : Int32) then (if (f_X4_hasFramesToAir M) = 0 then (bv (f_X0_begin M (f_X5_currentTask M)) (fun M26 => (f_X5_step_34 (ms M26 0 (fun _ => (3 : Int32)))))) else (f_X5_step_34 M)) else (f_X5_step_34 M))
def ok_X5_step (M : Mem) : Prop := (if (M 0 0) = (2 : Int32) then (if (f_X4_hasFramesToAir M) = 0 then ok_X0_begin M (f_X5_currentTask M) ∧ (bv (f_X0_begin M (f_X5_currentTask M)) (fun M26 => ok_X5_step_34 (ms M26 0 (fun _ => (3 : Int32))))) else ok_X5_step_34 M) else ok_X5_step_34 M)
set_option maxRecDepth 100000 in
set_option maxHeartbeats 4000000 in
theorem k_X5_step_117 {p : Program} {l : Launch} {e : Env} {s : State} {m : MethodId} {args : Array Value} {below : List Frame} {meth : Method} {c : Code} {D : va_G} {cI : ClassId} {ad : Nat → Nat} {A : Nat → Prop} {cells slots : Nat} {R : Room} (hcs : cells ≤ R.cells ∧ slots ≤ R.slots) (hrf : rmX5_step.frames ≤ R.frames) (hrl : rmX5_step.locals ≤ R.locals) {res : Mem × Int32} (C : CX p s m args meth c RX5 cX5_step 2 (some .boolean)) : ∀ (M : Mem) (H : Heap) (locs : List Loc) (ls : Array Slot), ok_X5_step_117 M → f_X5_step_117 M = res → WH D [(cI, .int)] (wN cI ad) A s H locs M → lv_has ls 2 [(0, .ref (ad 0))] → W p l e R s m args below meth c H locs cells slots (MQ below (PZ D [(cI, .int)] (wN cI ad) A res) args s cells slots A) (F0 m 117 ls []) := by
  have hx := C.1
  have hb := C.2.1
  have hown := C.2.2.2.2.1
  have hts := C.2.2.2.2.2.1
  intro M H locs ls hok hres h hl
  rw [ok_X5_step_117] at hok
  rw [f_X5_step_117] at hres
  refine lv_aload_n hx hb dX5_step_117 rfl (lv_at hl 0 rfl) ?_
  have h8 := hok
  refine wh_cvv (As := []) (rest := []) hcs C h (c_X5_countTowardsCut M h8) yw_X5_countTowardsCut in_mX5_199 hl.1 rfl rfl (Nat.le_of_ble_eq_true rfl) ⟨Nat.le_trans (Nat.le_of_ble_eq_true rfl) hrf, Nat.le_trans (Nat.le_of_ble_eq_true rfl) hrl⟩ dX5_step_118 (fun M7 H locs e7 h => ?_)
  rw [e7] at hres
  have hres := bv_e hres
  refine lv_iconst (v := (1 : Int32)) hx hb dX5_step_121 (by decide) ?_
  exact wh_zret C h nb_1 hres dX5_step_122
set_option maxRecDepth 100000 in
set_option maxHeartbeats 4000000 in
theorem k_X5_step_34 {p : Program} {l : Launch} {e : Env} {s : State} {m : MethodId} {args : Array Value} {below : List Frame} {meth : Method} {c : Code} {D : va_G} {cI : ClassId} {ad : Nat → Nat} {A : Nat → Prop} {cells slots : Nat} {R : Room} (hcs : cells ≤ R.cells ∧ slots ≤ R.slots) (hrf : rmX5_step.frames ≤ R.frames) (hrl : rmX5_step.locals ≤ R.locals) {res : Mem × Int32} (C : CX p s m args meth c RX5 cX5_step 2 (some .boolean)) : ∀ (M : Mem) (H : Heap) (locs : List Loc) (ls : Array Slot), ok_X5_step_34 M → f_X5_step_34 M = res → WH D [(cI, .int)] (wN cI ad) A s H locs M → lv_has ls 2 [(0, .ref (ad 0))] → W p l e R s m args below meth c H locs cells slots (MQ below (PZ D [(cI, .int)] (wN cI ad) A res) args s cells slots A) (F0 m 34 ls []) := by
  have hx := C.1
  have hb := C.2.1
  have hown := C.2.2.2.2.1
  have hts := C.2.2.2.2.2.1
  intro M H locs ls hok hres h hl
  rw [ok_X5_step_34] at hok
  rw [f_X5_step_34] at hres
  refine lv_aload_n hx hb dX5_step_34 rfl (lv_at hl 0 rfl) ?_
  obtain ⟨h22, hok⟩ := hok
  refine wh_cvip (As := []) (rest := []) hcs C h (c_X5_costOfStep M h22) yw_X5_costOfStep in_mX5_175 hl.1 rfl rfl (Nat.le_of_ble_eq_true rfl) ⟨Nat.le_trans (Nat.le_of_ble_eq_true rfl) hrf, Nat.le_trans (Nat.le_of_ble_eq_true rfl) hrl⟩ dX5_step_35 (fun H locs h => ?_)
  refine lv_istore_n (lv' := [(1, .int (f_X5_costOfStep M)), (0, .ref (ad 0))]) hx hb dX5_step_38 rfl hl (by decide) rfl (fun ls hl => ?_)
  refine lv_iload_n hx hb dX5_step_39 rfl (lv_at hl 0 rfl) ?_
  refine lv_aload_n hx hb dX5_step_40 rfl (lv_at hl 1 rfl) ?_
  refine N_X5_energy_get (v := (M 1 0)) C h in_fX5_80 rfl dX5_step_41 ?_
  refine lv_icmp_le (tgt := 53) hx hb dX5_step_44 (by decide) (fun c3 => ?_) (fun c3 => ?_)
  · have hres := it_p hres c3
    have hok := io_p hok c3
    refine lv_aload_n hx hb dX5_step_53 rfl (lv_at hl 1 rfl) ?_
    refine lv_iload_n hx hb dX5_step_54 rfl (lv_at hl 0 rfl) ?_
    refine wh_cvv (As := [.int (f_X5_costOfStep M)]) (rest := []) hcs C h (c_X5_pay M (f_X5_costOfStep M)) yw_X5_pay in_mX5_181 hl.1 rfl rfl (Nat.le_of_ble_eq_true rfl) ⟨Nat.le_trans (Nat.le_of_ble_eq_true rfl) hrf, Nat.le_trans (Nat.le_of_ble_eq_true rfl) hrl⟩ dX5_step_55 (fun M4 H locs e4 h => ?_)
    rw [e4] at hres
    have hres := bv_e hres
    rw [e4] at hok
    have hok := bv_o hok
    refine lv_aload_n hx hb dX5_step_58 rfl (lv_at hl 1 rfl) ?_
    refine N_X5_phase_get (v := (M4 0 0)) C h in_fX5_49 rfl dX5_step_59 ?_
    refine (Classical.em ((M4 0 0) = (1 : Int32))).elim (fun c5 => ?_) (fun c5 => ?_)
    · have hres := it_p hres c5
      have hok := io_p hok c5
      refine sw_in (k := (1 : Int32)) (tgt := 88) c5 hx hb dX5_step_62 (by decide) (by decide) rfl (by decide) ?_
      refine lv_aload_n hx hb dX5_step_88 rfl (lv_at hl 1 rfl) ?_
      obtain ⟨h9, hok⟩ := hok
      refine wh_cvv (As := []) (rest := []) hcs C h (c_X5_doReplayStep M4 h9) yw_X5_doReplayStep in_mX5_184 hl.1 rfl rfl (Nat.le_of_ble_eq_true rfl) ⟨Nat.le_trans (Nat.le_of_ble_eq_true rfl) hrf, Nat.le_trans (Nat.le_of_ble_eq_true rfl) hrl⟩ dX5_step_89 (fun M6 H locs e6 h => ?_)
      rw [e6] at hres
      have hres := bv_e hres
      rw [e6] at hok
      have hok := bv_o hok
      refine lv_goto (tgt := 117) hx hb dX5_step_92 (by decide) ?_
      exact k_X5_step_117 hcs hrf hrl C M6 _ _ _ hok hres h (lv_sub hl [1] rfl)
    · have hres := it_n hres c5
      have hok := io_n hok c5
      refine (Classical.em ((M4 0 0) = (2 : Int32))).elim (fun c10 => ?_) (fun c10 => ?_)
      · have hres := it_p hres c10
        have hok := io_p hok c10
        refine sw_in (k := (2 : Int32)) (tgt := 95) c10 hx hb dX5_step_62 (by decide) (by decide) rfl (by decide) ?_
        refine lv_aload_n hx hb dX5_step_95 rfl (lv_at hl 1 rfl) ?_
        obtain ⟨h12, hok⟩ := hok
        refine wh_cvv (As := []) (rest := []) hcs C h (c_X5_doAirStep M4 h12) yw_X5_doAirStep in_mX5_187 hl.1 rfl rfl (Nat.le_of_ble_eq_true rfl) ⟨Nat.le_trans (Nat.le_of_ble_eq_true rfl) hrf, Nat.le_trans (Nat.le_of_ble_eq_true rfl) hrl⟩ dX5_step_96 (fun M11 H locs e11 h => ?_)
        rw [e11] at hres
        have hres := bv_e hres
        rw [e11] at hok
        have hok := bv_o hok
        refine lv_goto (tgt := 117) hx hb dX5_step_99 (by decide) ?_
        exact k_X5_step_117 hcs hrf hrl C M11 _ _ _ hok hres h (lv_sub hl [1] rfl)
      · have hres := it_n hres c10
        have hok := io_n hok c10
        refine (Classical.em ((M4 0 0) = (3 : Int32))).elim (fun c13 => ?_) (fun c13 => ?_)
        · have hres := it_p hres c13
          have hok := io_p hok c13
          refine sw_in (k := (3 : Int32)) (tgt := 102) c13 hx hb dX5_step_62 (by decide) (by decide) rfl (by decide) ?_
          refine lv_aload_n hx hb dX5_step_102 rfl (lv_at hl 1 rfl) ?_
          refine lv_aload_n hx hb dX5_step_103 rfl (lv_at hl 1 rfl) ?_
          obtain ⟨h17, hok⟩ := hok
          refine wh_cvip (As := []) (rest := [.ref (ad 0)]) hcs C h (c_X5_nextInstruction M4 h17) yw_X5_nextInstruction in_mX5_190 hl.1 rfl rfl (Nat.le_of_ble_eq_true rfl) ⟨Nat.le_trans (Nat.le_of_ble_eq_true rfl) hrf, Nat.le_trans (Nat.le_of_ble_eq_true rfl) hrl⟩ dX5_step_104 (fun H locs h => ?_)
          obtain ⟨h16, hok⟩ := hok
          refine wh_cvv (As := [.int (f_X5_nextInstruction M4)]) (rest := []) hcs C h (c_X5_doInstruction M4 (f_X5_nextInstruction M4) h16) yw_X5_doInstruction in_mX5_193 hl.1 rfl rfl (Nat.le_of_ble_eq_true rfl) ⟨Nat.le_trans (Nat.le_of_ble_eq_true rfl) hrf, Nat.le_trans (Nat.le_of_ble_eq_true rfl) hrl⟩ dX5_step_107 (fun M15 H locs e15 h => ?_)
          rw [e15] at hres
          have hres := bv_e hres
          rw [e15] at hok
          have hok := bv_o hok
          refine lv_goto (tgt := 117) hx hb dX5_step_110 (by decide) ?_
          exact k_X5_step_117 hcs hrf hrl C M15 _ _ _ hok hres h (lv_sub hl [1] rfl)
        · have hres := it_n hres c13
          have hok := io_n hok c13
          refine lv_tableOut (tgt := 113) hx hb dX5_step_62 (by have q := And.intro trivial trivial; have n1 := lv_neT c5 (a := 1) (by decide); have n2 := lv_neT c10 (a := 2) (by decide); have n3 := lv_neT c13 (a := 3) (by decide); omega) (by decide) ?_
          refine lv_aload_n hx hb dX5_step_113 rfl (lv_at hl 1 rfl) ?_
          obtain ⟨h19, hok⟩ := hok
          refine wh_cvv (As := []) (rest := []) hcs C h (c_X5_doCommitStep M4 h19) yw_X5_doCommitStep in_mX5_196 hl.1 rfl rfl (Nat.le_of_ble_eq_true rfl) ⟨Nat.le_trans (Nat.le_of_ble_eq_true rfl) hrf, Nat.le_trans (Nat.le_of_ble_eq_true rfl) hrl⟩ dX5_step_114 (fun M18 H locs e18 h => ?_)
          rw [e18] at hres
          have hres := bv_e hres
          rw [e18] at hok
          have hok := bv_o hok
          exact k_X5_step_117 hcs hrf hrl C M18 _ _ _ hok hres h (lv_sub hl [1] rfl)
  · have hres := it_n hres c3
    have hok := io_n hok c3
    refine lv_aload_n hx hb dX5_step_47 rfl (lv_at hl 1 rfl) ?_
    have h21 := hok
    refine wh_cvv (As := []) (rest := []) hcs C h (c_X5_failPower M h21) yw_X5_failPower in_mX5_178 hl.1 rfl rfl (Nat.le_of_ble_eq_true rfl) ⟨Nat.le_trans (Nat.le_of_ble_eq_true rfl) hrf, Nat.le_trans (Nat.le_of_ble_eq_true rfl) hrl⟩ dX5_step_48 (fun M20 H locs e20 h => ?_)
    rw [e20] at hres
    have hres := bv_e hres
    refine lv_iconst (v := (0 : Int32)) hx hb dX5_step_51 (by decide) ?_
    exact wh_zret C h nb_0 hres dX5_step_52
set_option maxRecDepth 100000 in
set_option maxHeartbeats 4000000 in
theorem k_X5_step_0 {p : Program} {l : Launch} {e : Env} {s : State} {m : MethodId} {args : Array Value} {below : List Frame} {meth : Method} {c : Code} {D : va_G} {cI : ClassId} {ad : Nat → Nat} {A : Nat → Prop} {cells slots : Nat} {R : Room} (hcs : cells ≤ R.cells ∧ slots ≤ R.slots) (hrf : rmX5_step.frames ≤ R.frames) (hrl : rmX5_step.locals ≤ R.locals) {res : Mem × Int32} (C : CX p s m args meth c RX5 cX5_step 2 (some .boolean)) : ∀ (M : Mem) (H : Heap) (locs : List Loc) (ls : Array Slot), ok_X5_step M → f_X5_step M = res → WH D [(cI, .int)] (wN cI ad) A s H locs M → lv_has ls 2 [(0, .ref (ad 0))] → W p l e R s m args below meth c H locs cells slots (MQ below (PZ D [(cI, .int)] (wN cI ad) A res) args s cells slots A) (F0 m 0 ls []) := by
  have hx := C.1
  have hb := C.2.1
  have hown := C.2.2.2.2.1
  have hts := C.2.2.2.2.2.1
  intro M H locs ls hok hres h hl
  rw [ok_X5_step] at hok
  rw [f_X5_step] at hres
  refine lv_aload_n hx hb dX5_step_0 rfl (lv_at hl 0 rfl) ?_
  refine N_X5_phase_get (v := (M 0 0)) C h in_fX5_49 rfl dX5_step_1 ?_
  refine lv_iconst (v := (2 : Int32)) hx hb dX5_step_4 (by decide) ?_
  refine lv_icmp_ne (tgt := 34) hx hb dX5_step_5 (by decide) (fun c1 => ?_) (fun c1 => ?_)
  · have hres := it_n hres c1
    have hok := io_n hok c1
    exact k_X5_step_34 hcs hrf hrl C M _ _ _ hok hres h (lv_sub hl [0] rfl)
  · have hres := it_p hres c1
    have hok := io_p hok c1
    refine lv_aload_n hx hb dX5_step_8 rfl (lv_at hl 0 rfl) ?_
    refine N_X5_store_get C h in_fX5_19 dX5_step_9 ?_
    refine wh_cvzp (As := []) (rest := []) hcs C h (c_X4_hasFramesToAir M) yw_X4_hasFramesToAir in_mX5_168 hl.1 rfl rfl (Nat.le_of_ble_eq_true rfl) ⟨Nat.le_trans (Nat.le_of_ble_eq_true rfl) hrf, Nat.le_trans (Nat.le_of_ble_eq_true rfl) hrl⟩ dX5_step_12 (fun H locs z23 h => ?_)
    refine lv_if_ne (tgt := 34) hx hb dX5_step_15 (by decide) (fun c24 => ?_) (fun c24 => ?_)
    · have hres := it_n hres c24
      have hok := io_n hok c24
      exact k_X5_step_34 hcs hrf hrl C M _ _ _ hok hres h (lv_sub hl [0] rfl)
    · have hres := it_p hres c24
      have hok := io_p hok c24
      refine lv_aload_n hx hb dX5_step_18 rfl (lv_at hl 0 rfl) ?_
      refine N_X5_attempt_get C h in_fX5_32 dX5_step_19 ?_
      refine lv_aload_n hx hb dX5_step_22 rfl (lv_at hl 0 rfl) ?_
      refine wh_cvip (As := []) (rest := [.ref (ad 7)]) hcs C h (c_X5_currentTask M) yw_X5_currentTask in_mX5_159 hl.1 rfl rfl (Nat.le_of_ble_eq_true rfl) ⟨Nat.le_trans (Nat.le_of_ble_eq_true rfl) hrf, Nat.le_trans (Nat.le_of_ble_eq_true rfl) hrl⟩ dX5_step_23 (fun H locs h => ?_)
      obtain ⟨h27, hok⟩ := hok
      refine wh_cvv (As := [.int (f_X5_currentTask M)]) (rest := []) hcs C h (c_X0_begin M (f_X5_currentTask M) h27) yw_X0_begin in_mX5_171 hl.1 rfl rfl (Nat.le_of_ble_eq_true rfl) ⟨Nat.le_trans (Nat.le_of_ble_eq_true rfl) hrf, Nat.le_trans (Nat.le_of_ble_eq_true rfl) hrl⟩ dX5_step_26 (fun M26 H locs e26 h => ?_)
      rw [e26] at hres
      have hres := bv_e hres
      rw [e26] at hok
      have hok := bv_o hok
      refine lv_aload_n hx hb dX5_step_29 rfl (lv_at hl 0 rfl) ?_
      refine lv_iconst (v := (3 : Int32)) hx hb dX5_step_30 (by decide) ?_
      refine N_X5_phase_put (v := (3 : Int32)) (M2 := (ms M26 0 (fun _ => (3 : Int32)))) C h in_fX5_49 rfl dX5_step_31 (fun H locs h => ?_)
      exact k_X5_step_34 hcs hrf hrl C (ms M26 0 (fun _ => (3 : Int32))) _ _ _ hok hres h (lv_sub hl [0] rfl)
theorem yw_X5_step {cI : ClassId} {ad : Nat → Nat} : YV (wN cI ad) (ad 0) yX5_step cX5_step 2 (some .boolean) rmX5_step 0 := ⟨fun M => ⟨0, 5, _, _, rfl, rfl, rfl⟩, in_cX5_step, in_nX5_step, in_vX5_step, in_iX5, by decide +kernel, rfl, rfl⟩
theorem c_X5_step {l : Launch} {D : va_G} {cI : ClassId} {ad : Nat → Nat} (M : Mem) (hok : ok_X5_step M) : KZ l D [(cI, .int)] (wN cI ad) yX5_step cX5_step 2 rmX5_step [.ref (ad 0)] M (f_X5_step M) := met_z (by decide) (Nat.le_of_ble_eq_true rfl) (fun p e s m below meth c A C h ls hl => k_X5_step_0 ⟨Nat.le_refl _, Nat.le_refl _⟩ (Nat.le_refl _) (Nat.le_refl _) C M _ _ ls hok rfl h hl)
abbrev rmX5_slot : Room := { frames := 6, cells := 0, slots := 0, locals := 140 }
def f_X5_slot_87 : Nat → Mem → Int32 → Int32 → Mem × Int32
  | 0, M, _, _ => (M, 0)
  | n + 1, M, x2, x3 => (if (16 : Int32) ≤ x3 then (M, x2) else (if (M 0 0) = 0 then (M, x2) else (bc (f_X5_step M) (fun M7 r7 => (if r7 = 0 then (f_X5_slot_87 n M7 x2 (x3 + (1 : Int32))) else (f_X5_slot_87 n M7 (x2 + (1 : Int32)) (x3 + (1 : Int32))))))))
def ok_X5_slot_87 : Nat → Mem → Int32 → Int32 → Prop
  | 0, _, _, _ => False
  | n + 1, M, x2, x3 => (if (16 : Int32) ≤ x3 then True else (if (M 0 0) = 0 then True else ok_X5_step M ∧ (bc (f_X5_step M) (fun M7 r7 => (if r7 = 0 then ok_X5_slot_87 n M7 x2 (x3 + (1 : Int32)) else ok_X5_slot_87 n M7 (x2 + (1 : Int32)) (x3 + (1 : Int32)))))))
def f_X5_slot_83 (M : Mem) : Mem × Int32 := (f_X5_slot_87 17 M (0 : Int32) (0 : Int32))
def ok_X5_slot_83 (M : Mem) : Prop := ok_X5_slot_87 17 M (0 : Int32) (0 : Int32)
def f_X5_slot (M : Mem) (a1 : Int32) : Mem × Int32 := (if (M 10 0) = 0 then (M, (0 : Int32)) else (if a1 < 0 then (M, (0 : Int32)) else (if a1 ≤ (500 : Int32) then (if (M 0 0) = 0 then (bc (f_X5_boot (ms (ms M 1 (fun _ => (if ((M 1 0) + a1) < (2000 : Int32) then ((M 1 0) + a1) else (2000 : Int32)))) 2 (fun _ => ((M 2 0) + (1 : Int32))))) (fun M10 r10 => (if r10 = 0 then (M10, (-1 : Int32)) else (f_X5_slot_83 M10)))) else (f_X5_slot_83 (ms (ms M 1 (fun _ => (if ((M 1 0) + a1) < (2000 : Int32) then ((M 1 0) + a1) else (2000 : Int32)))) 2 (fun _ => ((M 2 0) + (1 : Int32)))))) else (M, (0 : Int32)))))
def ok_X5_slot (M : Mem) (a1 : Int32) : Prop := (if (M 10 0) = 0 then False else (if a1 < 0 then False else (if a1 ≤ (500 : Int32) then (if (M 0 0) = 0 then ok_X5_boot (ms (ms M 1 (fun _ => (if ((M 1 0) + a1) < (2000 : Int32) then ((M 1 0) + a1) else (2000 : Int32)))) 2 (fun _ => ((M 2 0) + (1 : Int32)))) ∧ (bc (f_X5_boot (ms (ms M 1 (fun _ => (if ((M 1 0) + a1) < (2000 : Int32) then ((M 1 0) + a1) else (2000 : Int32)))) 2 (fun _ => ((M 2 0) + (1 : Int32))))) (fun M10 r10 => (if r10 = 0 then True else ok_X5_slot_83 M10))) else ok_X5_slot_83 (ms (ms M 1 (fun _ => (if ((M 1 0) + a1) < (2000 : Int32) then ((M 1 0) + a1) else (2000 : Int32)))) 2 (fun _ => ((M 2 0) + (1 : Int32))))) else False)))
set_option maxRecDepth 100000 in
set_option maxHeartbeats 4000000 in
theorem k_X5_slot_87 {p : Program} {l : Launch} {e : Env} {s : State} {m : MethodId} {args : Array Value} {below : List Frame} {meth : Method} {c : Code} {D : va_G} {cI : ClassId} {ad : Nat → Nat} {A : Nat → Prop} {cells slots : Nat} {R : Room} (hcs : cells ≤ R.cells ∧ slots ≤ R.slots) (hrf : rmX5_slot.frames ≤ R.frames) (hrl : rmX5_slot.locals ≤ R.locals) {res : Mem × Int32} (C : CX p s m args meth c RX5 cX5_slot 4 (some .int)) : ∀ (n : Nat) (M : Mem) (x2 x3 : Int32) (H : Heap) (locs : List Loc) (ls : Array Slot), ok_X5_slot_87 n M x2 x3 → f_X5_slot_87 n M x2 x3 = res → WH D [(cI, .int)] (wN cI ad) A s H locs M → lv_has ls 4 [(0, .ref (ad 0)), (2, .int x2), (3, .int x3)] → W p l e R s m args below meth c H locs cells slots (MQ below (PI D [(cI, .int)] (wN cI ad) A res) args s cells slots A) (F0 m 87 ls []) := by
  have hx := C.1
  have hb := C.2.1
  have hown := C.2.2.2.2.1
  have hts := C.2.2.2.2.2.1
  intro n
  induction n with
  | zero =>
    intro M x2 x3 H locs ls hok
    exact absurd hok (by intro z; exact z)
  | succ n ih =>
    intro M x2 x3 H locs ls hok hres h hl
    rw [ok_X5_slot_87] at hok
    rw [f_X5_slot_87] at hres
    refine lv_iload_n hx hb dX5_slot_87 rfl (lv_at hl 2 rfl) ?_
    refine lv_bipush (v := (16 : Int32)) hx hb dX5_slot_88 (by decide) ?_
    refine lv_icmp_ge (tgt := 116) hx hb dX5_slot_90 (by decide) (fun c5 => ?_) (fun c5 => ?_)
    · have hres := it_p hres c5
      refine lv_iload_n hx hb dX5_slot_116 rfl (lv_at hl 1 rfl) ?_
      exact wh_iret C h hres dX5_slot_117
    · have hres := it_n hres c5
      have hok := io_n hok c5
      refine lv_aload_n hx hb dX5_slot_93 rfl (lv_at hl 0 rfl) ?_
      refine N_X5_phase_get (v := (M 0 0)) C h in_fX5_49 rfl dX5_slot_94 ?_
      refine lv_if_eq (tgt := 116) hx hb dX5_slot_97 (by decide) (fun c6 => ?_) (fun c6 => ?_)
      · have hres := it_p hres c6
        refine lv_iload_n hx hb dX5_slot_116 rfl (lv_at hl 1 rfl) ?_
        exact wh_iret C h hres dX5_slot_117
      · have hres := it_n hres c6
        have hok := io_n hok c6
        refine lv_aload_n hx hb dX5_slot_100 rfl (lv_at hl 0 rfl) ?_
        obtain ⟨h9, hok⟩ := hok
        refine wh_cvz (As := []) (rest := []) hcs C h (c_X5_step M h9) yw_X5_step in_mX5_96 hl.1 rfl rfl (Nat.le_of_ble_eq_true rfl) ⟨Nat.le_trans (Nat.le_of_ble_eq_true rfl) hrf, Nat.le_trans (Nat.le_of_ble_eq_true rfl) hrl⟩ dX5_slot_101 (fun M7 r7 H locs e7 z7 h => ?_)
        rw [e7] at hres
        have hres := bc_e hres
        rw [e7] at hok
        have hok := bc_o hok
        refine lv_if_eq (tgt := 110) hx hb dX5_slot_104 (by decide) (fun c8 => ?_) (fun c8 => ?_)
        · have hres := it_p hres c8
          have hok := io_p hok c8
          refine lv_iinc (v := (x3 + (1 : Int32))) (lv' := [(3, .int (x3 + (1 : Int32))), (0, .ref (ad 0)), (2, .int x2)]) hx hb dX5_slot_110 hl (k := 2) rfl rfl (by decide) rfl (fun ls hl => ?_)
          refine lv_goto (tgt := 87) hx hb dX5_slot_113 (by decide) ?_
          exact ih M7 x2 (x3 + (1 : Int32)) _ _ _ hok hres h (lv_sub hl [1, 2, 0] rfl)
        · have hres := it_n hres c8
          have hok := io_n hok c8
          refine lv_iinc (v := (x2 + (1 : Int32))) (lv' := [(2, .int (x2 + (1 : Int32))), (0, .ref (ad 0)), (3, .int x3)]) hx hb dX5_slot_107 hl (k := 1) rfl rfl (by decide) rfl (fun ls hl => ?_)
          refine lv_iinc (v := (x3 + (1 : Int32))) (lv' := [(3, .int (x3 + (1 : Int32))), (2, .int (x2 + (1 : Int32))), (0, .ref (ad 0))]) hx hb dX5_slot_110 hl (k := 2) rfl rfl (by decide) rfl (fun ls hl => ?_)
          refine lv_goto (tgt := 87) hx hb dX5_slot_113 (by decide) ?_
          exact ih M7 (x2 + (1 : Int32)) (x3 + (1 : Int32)) _ _ _ hok hres h (lv_sub hl [2, 1, 0] rfl)
set_option maxRecDepth 100000 in
set_option maxHeartbeats 4000000 in
theorem k_X5_slot_83 {p : Program} {l : Launch} {e : Env} {s : State} {m : MethodId} {args : Array Value} {below : List Frame} {meth : Method} {c : Code} {D : va_G} {cI : ClassId} {ad : Nat → Nat} {A : Nat → Prop} {cells slots : Nat} {R : Room} (hcs : cells ≤ R.cells ∧ slots ≤ R.slots) (hrf : rmX5_slot.frames ≤ R.frames) (hrl : rmX5_slot.locals ≤ R.locals) {res : Mem × Int32} (C : CX p s m args meth c RX5 cX5_slot 4 (some .int)) : ∀ (M : Mem) (H : Heap) (locs : List Loc) (ls : Array Slot), ok_X5_slot_83 M → f_X5_slot_83 M = res → WH D [(cI, .int)] (wN cI ad) A s H locs M → lv_has ls 4 [(0, .ref (ad 0))] → W p l e R s m args below meth c H locs cells slots (MQ below (PI D [(cI, .int)] (wN cI ad) A res) args s cells slots A) (F0 m 83 ls []) := by
  have hx := C.1
  have hb := C.2.1
  have hown := C.2.2.2.2.1
  have hts := C.2.2.2.2.2.1
  intro M H locs ls hok hres h hl
  rw [ok_X5_slot_83] at hok
  rw [f_X5_slot_83] at hres
  refine lv_iconst (v := (0 : Int32)) hx hb dX5_slot_83 (by decide) ?_
  refine lv_istore_n (lv' := [(2, .int (0 : Int32)), (0, .ref (ad 0))]) hx hb dX5_slot_84 rfl hl (by decide) rfl (fun ls hl => ?_)
  refine lv_iconst (v := (0 : Int32)) hx hb dX5_slot_85 (by decide) ?_
  refine lv_istore_n (lv' := [(3, .int (0 : Int32)), (2, .int (0 : Int32)), (0, .ref (ad 0))]) hx hb dX5_slot_86 rfl hl (by decide) rfl (fun ls hl => ?_)
  exact k_X5_slot_87 hcs hrf hrl C 17 M (0 : Int32) (0 : Int32) _ _ _ hok hres h (lv_sub hl [2, 1, 0] rfl)
set_option maxRecDepth 100000 in
set_option maxHeartbeats 4000000 in
theorem k_X5_slot_0 {p : Program} {l : Launch} {e : Env} {s : State} {m : MethodId} {args : Array Value} {below : List Frame} {meth : Method} {c : Code} {D : va_G} {cI : ClassId} {ad : Nat → Nat} {A : Nat → Prop} {cells slots : Nat} {R : Room} (hcs : cells ≤ R.cells ∧ slots ≤ R.slots) (hrf : rmX5_slot.frames ≤ R.frames) (hrl : rmX5_slot.locals ≤ R.locals) {res : Mem × Int32} (C : CX p s m args meth c RX5 cX5_slot 4 (some .int)) : ∀ (M : Mem) (a1 : Int32) (H : Heap) (locs : List Loc) (ls : Array Slot), ok_X5_slot M a1 → f_X5_slot M a1 = res → WH D [(cI, .int)] (wN cI ad) A s H locs M → lv_has ls 4 [(0, .ref (ad 0)), (1, .int a1)] → W p l e R s m args below meth c H locs cells slots (MQ below (PI D [(cI, .int)] (wN cI ad) A res) args s cells slots A) (F0 m 0 ls []) := by
  have hx := C.1
  have hb := C.2.1
  have hown := C.2.2.2.2.1
  have hts := C.2.2.2.2.2.1
  intro M a1 H locs ls hok hres h hl
  rw [ok_X5_slot] at hok
  rw [f_X5_slot] at hres
  refine lv_aload_n hx hb dX5_slot_0 rfl (lv_at hl 0 rfl) ?_
  refine N_X5_code_get C h in_fX5_10 dX5_slot_1 ?_
  refine N_X1_isClosed_get (v := (M 10 0)) C h in_fX5_64 rfl dX5_slot_4 ?_
  refine lv_if_ne (tgt := 20) hx hb dX5_slot_7 (by decide) (fun c1 => ?_) (fun c1 => ?_)
  · have hres := it_n hres c1
    have hok := io_n hok c1
    refine lv_iload_n hx hb dX5_slot_20 rfl (lv_at hl 1 rfl) ?_
    refine lv_if_lt (tgt := 31) hx hb dX5_slot_21 (by decide) (fun c2 => ?_) (fun c2 => ?_)
    · have hres := it_p hres c2
      have hok := io_p hok c2
      exact hok.elim
    · have hres := it_n hres c2
      have hok := io_n hok c2
      refine lv_iload_n hx hb dX5_slot_24 rfl (lv_at hl 1 rfl) ?_
      refine lv_sipush (v := (500 : Int32)) hx hb dX5_slot_25 (by decide) ?_
      refine lv_icmp_le (tgt := 41) hx hb dX5_slot_28 (by decide) (fun c3 => ?_) (fun c3 => ?_)
      · have hres := it_p hres c3
        have hok := io_p hok c3
        refine lv_aload_n hx hb dX5_slot_41 rfl (lv_at hl 0 rfl) ?_
        refine lv_sipush (v := (2000 : Int32)) hx hb dX5_slot_42 (by decide) ?_
        refine lv_aload_n hx hb dX5_slot_45 rfl (lv_at hl 0 rfl) ?_
        refine N_X5_energy_get (v := (M 1 0)) C h in_fX5_80 rfl dX5_slot_46 ?_
        refine lv_iload_n hx hb dX5_slot_49 rfl (lv_at hl 1 rfl) ?_
        refine lv_iadd hx hb dX5_slot_50 ?_
        refine wh_mmin C in_mX5_83 hl.1 (Nat.le_trans (Nat.le_of_ble_eq_true rfl) hrf) (Nat.le_trans (Nat.le_of_ble_eq_true rfl) hrl) hcs dX5_slot_51 ?_
        refine N_X5_energy_put (v := (if ((M 1 0) + a1) < (2000 : Int32) then ((M 1 0) + a1) else (2000 : Int32))) (M2 := (ms M 1 (fun _ => (if ((M 1 0) + a1) < (2000 : Int32) then ((M 1 0) + a1) else (2000 : Int32))))) C h in_fX5_80 rfl dX5_slot_54 (fun H locs h => ?_)
        refine lv_aload_n hx hb dX5_slot_57 rfl (lv_at hl 0 rfl) ?_
        refine lv_dup hx hb dX5_slot_58 rfl ?_
        refine N_X5_slotNumber_get (v := (M 2 0)) C h in_fX5_89 rfl dX5_slot_59 ?_
        refine lv_iconst (v := (1 : Int32)) hx hb dX5_slot_62 (by decide) ?_
        refine lv_iadd hx hb dX5_slot_63 ?_
        refine N_X5_slotNumber_put (v := ((M 2 0) + (1 : Int32))) (M2 := (ms (ms M 1 (fun _ => (if ((M 1 0) + a1) < (2000 : Int32) then ((M 1 0) + a1) else (2000 : Int32)))) 2 (fun _ => ((M 2 0) + (1 : Int32))))) C h in_fX5_89 rfl dX5_slot_64 (fun H locs h => ?_)
        refine lv_aload_n hx hb dX5_slot_67 rfl (lv_at hl 0 rfl) ?_
        refine N_X5_phase_get (v := (M 0 0)) C h in_fX5_49 rfl dX5_slot_68 ?_
        refine lv_if_ne (tgt := 83) hx hb dX5_slot_71 (by decide) (fun c4 => ?_) (fun c4 => ?_)
        · have hres := it_n hres c4
          have hok := io_n hok c4
          exact k_X5_slot_83 hcs hrf hrl C (ms (ms M 1 (fun _ => (if ((M 1 0) + a1) < (2000 : Int32) then ((M 1 0) + a1) else (2000 : Int32)))) 2 (fun _ => ((M 2 0) + (1 : Int32)))) _ _ _ hok hres h (lv_sub hl [0] rfl)
        · have hres := it_p hres c4
          have hok := io_p hok c4
          refine lv_aload_n hx hb dX5_slot_74 rfl (lv_at hl 0 rfl) ?_
          obtain ⟨h12, hok⟩ := hok
          refine wh_cvz (As := []) (rest := []) hcs C h (c_X5_boot (ms (ms M 1 (fun _ => (if ((M 1 0) + a1) < (2000 : Int32) then ((M 1 0) + a1) else (2000 : Int32)))) 2 (fun _ => ((M 2 0) + (1 : Int32)))) h12) yw_X5_boot in_mX5_92 hl.1 rfl rfl (Nat.le_of_ble_eq_true rfl) ⟨Nat.le_trans (Nat.le_of_ble_eq_true rfl) hrf, Nat.le_trans (Nat.le_of_ble_eq_true rfl) hrl⟩ dX5_slot_75 (fun M10 r10 H locs e10 z10 h => ?_)
          rw [e10] at hres
          have hres := bc_e hres
          rw [e10] at hok
          have hok := bc_o hok
          refine lv_if_ne (tgt := 83) hx hb dX5_slot_78 (by decide) (fun c11 => ?_) (fun c11 => ?_)
          · have hres := it_n hres c11
            have hok := io_n hok c11
            exact k_X5_slot_83 hcs hrf hrl C M10 _ _ _ hok hres h (lv_sub hl [0] rfl)
          · have hres := it_p hres c11
            refine lv_iconst (v := (-1 : Int32)) hx hb dX5_slot_81 (by decide) ?_
            exact wh_iret C h hres dX5_slot_82
      · have hres := it_n hres c3
        have hok := io_n hok c3
        exact hok.elim
  · have hres := it_p hres c1
    have hok := io_p hok c1
    exact hok.elim
theorem yw_X5_slot {cI : ClassId} {ad : Nat → Nat} : YV (wN cI ad) (ad 0) yX5_slot cX5_slot 4 (some .int) rmX5_slot 1 := ⟨fun M => ⟨0, 5, _, _, rfl, rfl, rfl⟩, in_cX5_slot, in_nX5_slot, in_vX5_slot, in_iX5, by decide +kernel, rfl, rfl⟩
theorem c_X5_slot {l : Launch} {D : va_G} {cI : ClassId} {ad : Nat → Nat} (M : Mem) (a1 : Int32) (hok : ok_X5_slot M a1) : KI l D [(cI, .int)] (wN cI ad) yX5_slot cX5_slot 4 rmX5_slot [.ref (ad 0), .int a1] M (f_X5_slot M a1) := met_i (by decide) (Nat.le_of_ble_eq_true rfl) (fun p e s m below meth c A C h ls hl => k_X5_slot_0 ⟨Nat.le_refl _, Nat.le_refl _⟩ (Nat.le_refl _) (Nat.le_refl _) C M a1 _ _ ls hok rfl h hl)
abbrev rmX5_cut : Room := { frames := 0, cells := 0, slots := 0, locals := 0 }
def f_X5_cut (M : Mem) (a1 : Int32) : Mem × Int32 := (if a1 < 0 then (M, (0 : Int32)) else (if a1 ≤ (10000 : Int32) then ((ms M 3 (fun _ => a1)), (1 : Int32)) else (M, (0 : Int32))))
set_option maxRecDepth 100000 in
set_option maxHeartbeats 4000000 in
theorem k_X5_cut_0 {p : Program} {l : Launch} {e : Env} {s : State} {m : MethodId} {args : Array Value} {below : List Frame} {meth : Method} {c : Code} {D : va_G} {cI : ClassId} {ad : Nat → Nat} {A : Nat → Prop} {cells slots : Nat} {R : Room} (hcs : cells ≤ R.cells ∧ slots ≤ R.slots) (hrf : rmX5_cut.frames ≤ R.frames) (hrl : rmX5_cut.locals ≤ R.locals) {res : Mem × Int32} (C : CX p s m args meth c RX5 cX5_cut 2 (some .boolean)) : ∀ (M : Mem) (a1 : Int32) (H : Heap) (locs : List Loc) (ls : Array Slot), f_X5_cut M a1 = res → WH D [(cI, .int)] (wN cI ad) A s H locs M → lv_has ls 2 [(0, .ref (ad 0)), (1, .int a1)] → W p l e R s m args below meth c H locs cells slots (MQ below (PZ D [(cI, .int)] (wN cI ad) A res) args s cells slots A) (F0 m 0 ls []) := by
  have hx := C.1
  have hb := C.2.1
  have hown := C.2.2.2.2.1
  have hts := C.2.2.2.2.2.1
  intro M a1 H locs ls hres h hl
  rw [f_X5_cut] at hres
  refine lv_iload_n hx hb dX5_cut_0 rfl (lv_at hl 1 rfl) ?_
  refine lv_if_lt (tgt := 11) hx hb dX5_cut_1 (by decide) (fun c1 => ?_) (fun c1 => ?_)
  · have hres := it_p hres c1
    refine lv_iconst (v := (0 : Int32)) hx hb dX5_cut_11 (by decide) ?_
    exact wh_zret C h nb_0 hres dX5_cut_12
  · have hres := it_n hres c1
    refine lv_iload_n hx hb dX5_cut_4 rfl (lv_at hl 1 rfl) ?_
    refine lv_sipush (v := (10000 : Int32)) hx hb dX5_cut_5 (by decide) ?_
    refine lv_icmp_le (tgt := 13) hx hb dX5_cut_8 (by decide) (fun c2 => ?_) (fun c2 => ?_)
    · have hres := it_p hres c2
      refine lv_aload_n hx hb dX5_cut_13 rfl (lv_at hl 0 rfl) ?_
      refine lv_iload_n hx hb dX5_cut_14 rfl (lv_at hl 1 rfl) ?_
      refine N_X5_stepsToCut_put (v := a1) (M2 := (ms M 3 (fun _ => a1))) C h in_fX5_99 rfl dX5_cut_15 (fun H locs h => ?_)
      refine lv_iconst (v := (1 : Int32)) hx hb dX5_cut_18 (by decide) ?_
      exact wh_zret C h nb_1 hres dX5_cut_19
    · have hres := it_n hres c2
      refine lv_iconst (v := (0 : Int32)) hx hb dX5_cut_11 (by decide) ?_
      exact wh_zret C h nb_0 hres dX5_cut_12
theorem yw_X5_cut {cI : ClassId} {ad : Nat → Nat} : YV (wN cI ad) (ad 0) yX5_cut cX5_cut 2 (some .boolean) rmX5_cut 1 := ⟨fun M => ⟨0, 5, _, _, rfl, rfl, rfl⟩, in_cX5_cut, in_nX5_cut, in_vX5_cut, in_iX5, by decide +kernel, rfl, rfl⟩
theorem c_X5_cut {l : Launch} {D : va_G} {cI : ClassId} {ad : Nat → Nat} (M : Mem) (a1 : Int32) : KZ l D [(cI, .int)] (wN cI ad) yX5_cut cX5_cut 2 rmX5_cut [.ref (ad 0), .int a1] M (f_X5_cut M a1) := met_z (by decide) (Nat.le_of_ble_eq_true rfl) (fun p e s m below meth c A C h ls hl => k_X5_cut_0 ⟨Nat.le_refl _, Nat.le_refl _⟩ (Nat.le_refl _) (Nat.le_refl _) C M a1 _ _ ls rfl h hl)
abbrev rmX5_sense : Room := { frames := 0, cells := 0, slots := 0, locals := 0 }
def f_X5_sense (M : Mem) (a1 a2 : Int32) : Mem × Int32 := (if a1 < 0 then (M, (0 : Int32)) else (if a1 < (4 : Int32) then ((ms M 24 (upd (M 24) a1.toNatClampNeg a2)), (1 : Int32)) else (M, (0 : Int32))))
def ok_X5_sense (M : Mem) (a1 a2 : Int32) : Prop := (if a1 < 0 then True else (if a1 < (4 : Int32) then vp_in a1 4 else True))
set_option maxRecDepth 100000 in
set_option maxHeartbeats 4000000 in
theorem k_X5_sense_0 {p : Program} {l : Launch} {e : Env} {s : State} {m : MethodId} {args : Array Value} {below : List Frame} {meth : Method} {c : Code} {D : va_G} {cI : ClassId} {ad : Nat → Nat} {A : Nat → Prop} {cells slots : Nat} {R : Room} (hcs : cells ≤ R.cells ∧ slots ≤ R.slots) (hrf : rmX5_sense.frames ≤ R.frames) (hrl : rmX5_sense.locals ≤ R.locals) {res : Mem × Int32} (C : CX p s m args meth c RX5 cX5_sense 3 (some .boolean)) : ∀ (M : Mem) (a1 a2 : Int32) (H : Heap) (locs : List Loc) (ls : Array Slot), ok_X5_sense M a1 a2 → f_X5_sense M a1 a2 = res → WH D [(cI, .int)] (wN cI ad) A s H locs M → lv_has ls 3 [(0, .ref (ad 0)), (1, .int a1), (2, .int a2)] → W p l e R s m args below meth c H locs cells slots (MQ below (PZ D [(cI, .int)] (wN cI ad) A res) args s cells slots A) (F0 m 0 ls []) := by
  have hx := C.1
  have hb := C.2.1
  have hown := C.2.2.2.2.1
  have hts := C.2.2.2.2.2.1
  intro M a1 a2 H locs ls hok hres h hl
  rw [ok_X5_sense] at hok
  rw [f_X5_sense] at hres
  refine lv_iload_n hx hb dX5_sense_0 rfl (lv_at hl 1 rfl) ?_
  refine lv_if_lt (tgt := 9) hx hb dX5_sense_1 (by decide) (fun c1 => ?_) (fun c1 => ?_)
  · have hres := it_p hres c1
    refine lv_iconst (v := (0 : Int32)) hx hb dX5_sense_9 (by decide) ?_
    exact wh_zret C h nb_0 hres dX5_sense_10
  · have hres := it_n hres c1
    have hok := io_n hok c1
    refine lv_iload_n hx hb dX5_sense_4 rfl (lv_at hl 1 rfl) ?_
    refine lv_iconst (v := (4 : Int32)) hx hb dX5_sense_5 (by decide) ?_
    refine lv_icmp_lt (tgt := 11) hx hb dX5_sense_6 (by decide) (fun c2 => ?_) (fun c2 => ?_)
    · have hres := it_p hres c2
      have hok := io_p hok c2
      refine lv_aload_n hx hb dX5_sense_11 rfl (lv_at hl 0 rfl) ?_
      refine N_X5_readings_get C h in_fX5_23 dX5_sense_12 ?_
      refine lv_iload_n hx hb dX5_sense_15 rfl (lv_at hl 1 rfl) ?_
      refine lv_iload_n hx hb dX5_sense_16 rfl (lv_at hl 2 rfl) ?_
      have h3 := hok
      refine N_rd_st (M2 := (ms M 24 (upd (M 24) a1.toNatClampNeg a2))) C h h3 rfl dX5_sense_17 (fun H locs h => ?_)
      refine lv_iconst (v := (1 : Int32)) hx hb dX5_sense_18 (by decide) ?_
      exact wh_zret C h nb_1 hres dX5_sense_19
    · have hres := it_n hres c2
      refine lv_iconst (v := (0 : Int32)) hx hb dX5_sense_9 (by decide) ?_
      exact wh_zret C h nb_0 hres dX5_sense_10
theorem yw_X5_sense {cI : ClassId} {ad : Nat → Nat} : YV (wN cI ad) (ad 0) yX5_sense cX5_sense 3 (some .boolean) rmX5_sense 2 := ⟨fun M => ⟨0, 5, _, _, rfl, rfl, rfl⟩, in_cX5_sense, in_nX5_sense, in_vX5_sense, in_iX5, by decide +kernel, rfl, rfl⟩
theorem c_X5_sense {l : Launch} {D : va_G} {cI : ClassId} {ad : Nat → Nat} (M : Mem) (a1 a2 : Int32) (hok : ok_X5_sense M a1 a2) : KZ l D [(cI, .int)] (wN cI ad) yX5_sense cX5_sense 3 rmX5_sense [.ref (ad 0), .int a1, .int a2] M (f_X5_sense M a1 a2) := met_z (by decide) (Nat.le_of_ble_eq_true rfl) (fun p e s m below meth c A C h ls hl => k_X5_sense_0 ⟨Nat.le_refl _, Nat.le_refl _⟩ (Nat.le_refl _) (Nat.le_refl _) C M a1 a2 _ _ ls hok rfl h hl)
abbrev rmX5_kept : Room := { frames := 6, cells := 0, slots := 0, locals := 140 }
def f_X5_kept (M : Mem) (a1 a2 : Int32) : Mem × Int32 := (if a1 < 0 then (M, (0 : Int32)) else (if a1 < (164 : Int32) then (if a2 = 0 then (M, ((M 13) a1.toNatClampNeg)) else (M, ((M 14) a1.toNatClampNeg))) else (M, (0 : Int32))))
def ok_X5_kept (M : Mem) (a1 a2 : Int32) : Prop := (if a1 < 0 then False else (if a1 < (164 : Int32) then (if a2 = 0 then vp_in a1 164 else vp_in a1 164) else False))
set_option maxRecDepth 100000 in
set_option maxHeartbeats 4000000 in
theorem k_X5_kept_0 {p : Program} {l : Launch} {e : Env} {s : State} {m : MethodId} {args : Array Value} {below : List Frame} {meth : Method} {c : Code} {D : va_G} {cI : ClassId} {ad : Nat → Nat} {A : Nat → Prop} {cells slots : Nat} {R : Room} (hcs : cells ≤ R.cells ∧ slots ≤ R.slots) (hrf : rmX5_kept.frames ≤ R.frames) (hrl : rmX5_kept.locals ≤ R.locals) {res : Mem × Int32} (C : CX p s m args meth c RX5 cX5_kept 3 (some .int)) : ∀ (M : Mem) (a1 a2 : Int32) (H : Heap) (locs : List Loc) (ls : Array Slot), ok_X5_kept M a1 a2 → f_X5_kept M a1 a2 = res → WH D [(cI, .int)] (wN cI ad) A s H locs M → lv_has ls 3 [(0, .ref (ad 0)), (1, .int a1), (2, .int a2)] → W p l e R s m args below meth c H locs cells slots (MQ below (PI D [(cI, .int)] (wN cI ad) A res) args s cells slots A) (F0 m 0 ls []) := by
  have hx := C.1
  have hb := C.2.1
  have hown := C.2.2.2.2.1
  have hts := C.2.2.2.2.2.1
  intro M a1 a2 H locs ls hok hres h hl
  rw [ok_X5_kept] at hok
  rw [f_X5_kept] at hres
  refine lv_iload_n hx hb dX5_kept_0 rfl (lv_at hl 1 rfl) ?_
  refine lv_if_lt (tgt := 11) hx hb dX5_kept_1 (by decide) (fun c1 => ?_) (fun c1 => ?_)
  · have hres := it_p hres c1
    have hok := io_p hok c1
    exact hok.elim
  · have hres := it_n hres c1
    have hok := io_n hok c1
    refine lv_iload_n hx hb dX5_kept_4 rfl (lv_at hl 1 rfl) ?_
    refine lv_sipush (v := (164 : Int32)) hx hb dX5_kept_5 (by decide) ?_
    refine lv_icmp_lt (tgt := 21) hx hb dX5_kept_8 (by decide) (fun c2 => ?_) (fun c2 => ?_)
    · have hres := it_p hres c2
      have hok := io_p hok c2
      refine lv_iload_n hx hb dX5_kept_21 rfl (lv_at hl 2 rfl) ?_
      refine lv_if_eq (tgt := 37) hx hb dX5_kept_22 (by decide) (fun c3 => ?_) (fun c3 => ?_)
      · have hres := it_p hres c3
        have hok := io_p hok c3
        refine lv_aload_n hx hb dX5_kept_37 rfl (lv_at hl 0 rfl) ?_
        refine N_X5_store_get C h in_fX5_19 dX5_kept_38 ?_
        refine N_X4_words_get C h in_fX5_110 dX5_kept_41 ?_
        refine lv_iload_n hx hb dX5_kept_44 rfl (lv_at hl 1 rfl) ?_
        have h4 := hok
        refine N_sw_ld (v := ((M 13) a1.toNatClampNeg)) C h h4 rfl dX5_kept_45 ?_
        exact wh_iret C h hres dX5_kept_46
      · have hres := it_n hres c3
        have hok := io_n hok c3
        refine lv_aload_n hx hb dX5_kept_25 rfl (lv_at hl 0 rfl) ?_
        refine N_X5_store_get C h in_fX5_19 dX5_kept_26 ?_
        refine N_X4_wears_get C h in_fX5_107 dX5_kept_29 ?_
        refine lv_iload_n hx hb dX5_kept_32 rfl (lv_at hl 1 rfl) ?_
        have h5 := hok
        refine N_sv_ld (v := ((M 14) a1.toNatClampNeg)) C h h5 rfl dX5_kept_33 ?_
        refine lv_goto (tgt := 46) hx hb dX5_kept_34 (by decide) ?_
        exact wh_iret C h hres dX5_kept_46
    · have hres := it_n hres c2
      have hok := io_n hok c2
      exact hok.elim
theorem yw_X5_kept {cI : ClassId} {ad : Nat → Nat} : YV (wN cI ad) (ad 0) yX5_kept cX5_kept 3 (some .int) rmX5_kept 2 := ⟨fun M => ⟨0, 5, _, _, rfl, rfl, rfl⟩, in_cX5_kept, in_nX5_kept, in_vX5_kept, in_iX5, by decide +kernel, rfl, rfl⟩
theorem c_X5_kept {l : Launch} {D : va_G} {cI : ClassId} {ad : Nat → Nat} (M : Mem) (a1 a2 : Int32) (hok : ok_X5_kept M a1 a2) : KI l D [(cI, .int)] (wN cI ad) yX5_kept cX5_kept 3 rmX5_kept [.ref (ad 0), .int a1, .int a2] M (f_X5_kept M a1 a2) := met_i (by decide) (Nat.le_of_ble_eq_true rfl) (fun p e s m below meth c A C h ls hl => k_X5_kept_0 ⟨Nat.le_refl _, Nat.le_refl _⟩ (Nat.le_refl _) (Nat.le_refl _) C M a1 a2 _ _ ls hok rfl h hl)
abbrev rmX5_aired : Room := { frames := 1, cells := 0, slots := 0, locals := 23 }
def f_X5_aired (M : Mem) (a1 a2 : Int32) : Int32 := (f_X3_latest M a1 a2)
def ok_X5_aired (M : Mem) (a1 a2 : Int32) : Prop := ok_X3_latest M a1 a2
set_option maxRecDepth 100000 in
set_option maxHeartbeats 4000000 in
theorem k_X5_aired_0 {p : Program} {l : Launch} {e : Env} {s : State} {m : MethodId} {args : Array Value} {below : List Frame} {meth : Method} {c : Code} {D : va_G} {cI : ClassId} {ad : Nat → Nat} {A : Nat → Prop} {cells slots : Nat} {R : Room} (hcs : cells ≤ R.cells ∧ slots ≤ R.slots) (hrf : rmX5_aired.frames ≤ R.frames) (hrl : rmX5_aired.locals ≤ R.locals) {r0 : Int32} (C : CX p s m args meth c RX5 cX5_aired 3 (some .int)) : ∀ (M : Mem) (a1 a2 : Int32) (H : Heap) (locs : List Loc) (ls : Array Slot), ok_X5_aired M a1 a2 → f_X5_aired M a1 a2 = r0 → WH D [(cI, .int)] (wN cI ad) A s H locs M → lv_has ls 3 [(0, .ref (ad 0)), (1, .int a1), (2, .int a2)] → W p l e R s m args below meth c H locs cells slots (MQ below (PI D [(cI, .int)] (wN cI ad) A (M, r0)) args s cells slots A) (F0 m 0 ls []) := by
  have hx := C.1
  have hb := C.2.1
  have hown := C.2.2.2.2.1
  have hts := C.2.2.2.2.2.1
  intro M a1 a2 H locs ls hok hres h hl
  rw [ok_X5_aired] at hok
  rw [f_X5_aired] at hres
  refine lv_aload_n hx hb dX5_aired_0 rfl (lv_at hl 0 rfl) ?_
  refine N_X5_radio_get C h in_fX5_39 dX5_aired_1 ?_
  refine lv_iload_n hx hb dX5_aired_4 rfl (lv_at hl 1 rfl) ?_
  refine lv_iload_n hx hb dX5_aired_5 rfl (lv_at hl 2 rfl) ?_
  have h2 := hok
  refine wh_cvip (As := [.int a1, .int a2]) (rest := []) hcs C h (c_X3_latest M a1 a2 h2) yw_X3_latest in_mX5_113 hl.1 rfl rfl (Nat.le_of_ble_eq_true rfl) ⟨Nat.le_trans (Nat.le_of_ble_eq_true rfl) hrf, Nat.le_trans (Nat.le_of_ble_eq_true rfl) hrl⟩ dX5_aired_6 (fun H locs h => ?_)
  exact wh_iret C h (cz hres) dX5_aired_9
theorem yw_X5_aired {cI : ClassId} {ad : Nat → Nat} : YV (wN cI ad) (ad 0) yX5_aired cX5_aired 3 (some .int) rmX5_aired 2 := ⟨fun M => ⟨0, 5, _, _, rfl, rfl, rfl⟩, in_cX5_aired, in_nX5_aired, in_vX5_aired, in_iX5, by decide +kernel, rfl, rfl⟩
theorem c_X5_aired {l : Launch} {D : va_G} {cI : ClassId} {ad : Nat → Nat} (M : Mem) (a1 a2 : Int32) (hok : ok_X5_aired M a1 a2) : KI l D [(cI, .int)] (wN cI ad) yX5_aired cX5_aired 3 rmX5_aired [.ref (ad 0), .int a1, .int a2] M (M, f_X5_aired M a1 a2) := met_i (by decide) (Nat.le_of_ble_eq_true rfl) (fun p e s m below meth c A C h ls hl => k_X5_aired_0 ⟨Nat.le_refl _, Nat.le_refl _⟩ (Nat.le_refl _) (Nat.le_refl _) C M a1 a2 _ _ ls hok rfl h hl)
abbrev rmX5_heard : Room := { frames := 6, cells := 0, slots := 0, locals := 140 }
def f_X5_heard (M : Mem) (a1 : Int32) : Mem × Int32 := (if (f_X3_farSideHas M a1) = 0 then (M, (0 : Int32)) else (M, (f_X3_payloadOfFarSide M a1)))
def ok_X5_heard (M : Mem) (a1 : Int32) : Prop := (if (f_X3_farSideHas M a1) = 0 then False else ok_X3_payloadOfFarSide M a1)
set_option maxRecDepth 100000 in
set_option maxHeartbeats 4000000 in
theorem k_X5_heard_0 {p : Program} {l : Launch} {e : Env} {s : State} {m : MethodId} {args : Array Value} {below : List Frame} {meth : Method} {c : Code} {D : va_G} {cI : ClassId} {ad : Nat → Nat} {A : Nat → Prop} {cells slots : Nat} {R : Room} (hcs : cells ≤ R.cells ∧ slots ≤ R.slots) (hrf : rmX5_heard.frames ≤ R.frames) (hrl : rmX5_heard.locals ≤ R.locals) {res : Mem × Int32} (C : CX p s m args meth c RX5 cX5_heard 2 (some .int)) : ∀ (M : Mem) (a1 : Int32) (H : Heap) (locs : List Loc) (ls : Array Slot), ok_X5_heard M a1 → f_X5_heard M a1 = res → WH D [(cI, .int)] (wN cI ad) A s H locs M → lv_has ls 2 [(0, .ref (ad 0)), (1, .int a1)] → W p l e R s m args below meth c H locs cells slots (MQ below (PI D [(cI, .int)] (wN cI ad) A res) args s cells slots A) (F0 m 0 ls []) := by
  have hx := C.1
  have hb := C.2.1
  have hown := C.2.2.2.2.1
  have hts := C.2.2.2.2.2.1
  intro M a1 H locs ls hok hres h hl
  rw [ok_X5_heard] at hok
  rw [f_X5_heard] at hres
  refine lv_aload_n hx hb dX5_heard_0 rfl (lv_at hl 0 rfl) ?_
  refine N_X5_radio_get C h in_fX5_39 dX5_heard_1 ?_
  refine lv_iload_n hx hb dX5_heard_4 rfl (lv_at hl 1 rfl) ?_
  refine wh_cvzp (As := [.int a1]) (rest := []) hcs C h (c_X3_farSideHas M a1) yw_X3_farSideHas in_mX5_116 hl.1 rfl rfl (Nat.le_of_ble_eq_true rfl) ⟨Nat.le_trans (Nat.le_of_ble_eq_true rfl) hrf, Nat.le_trans (Nat.le_of_ble_eq_true rfl) hrl⟩ dX5_heard_5 (fun H locs z1 h => ?_)
  refine lv_if_ne (tgt := 21) hx hb dX5_heard_8 (by decide) (fun c2 => ?_) (fun c2 => ?_)
  · have hres := it_n hres c2
    have hok := io_n hok c2
    refine lv_aload_n hx hb dX5_heard_21 rfl (lv_at hl 0 rfl) ?_
    refine N_X5_radio_get C h in_fX5_39 dX5_heard_22 ?_
    refine lv_iload_n hx hb dX5_heard_25 rfl (lv_at hl 1 rfl) ?_
    have h4 := hok
    refine wh_cvip (As := [.int a1]) (rest := []) hcs C h (c_X3_payloadOfFarSide M a1 h4) yw_X3_payloadOfFarSide in_mX5_122 hl.1 rfl rfl (Nat.le_of_ble_eq_true rfl) ⟨Nat.le_trans (Nat.le_of_ble_eq_true rfl) hrf, Nat.le_trans (Nat.le_of_ble_eq_true rfl) hrl⟩ dX5_heard_26 (fun H locs h => ?_)
    exact wh_iret C h hres dX5_heard_29
  · have hres := it_p hres c2
    have hok := io_p hok c2
    exact hok.elim
theorem yw_X5_heard {cI : ClassId} {ad : Nat → Nat} : YV (wN cI ad) (ad 0) yX5_heard cX5_heard 2 (some .int) rmX5_heard 1 := ⟨fun M => ⟨0, 5, _, _, rfl, rfl, rfl⟩, in_cX5_heard, in_nX5_heard, in_vX5_heard, in_iX5, by decide +kernel, rfl, rfl⟩
theorem c_X5_heard {l : Launch} {D : va_G} {cI : ClassId} {ad : Nat → Nat} (M : Mem) (a1 : Int32) (hok : ok_X5_heard M a1) : KI l D [(cI, .int)] (wN cI ad) yX5_heard cX5_heard 2 rmX5_heard [.ref (ad 0), .int a1] M (f_X5_heard M a1) := met_i (by decide) (Nat.le_of_ble_eq_true rfl) (fun p e s m below meth c A C h ls hl => k_X5_heard_0 ⟨Nat.le_refl _, Nat.le_refl _⟩ (Nat.le_refl _) (Nat.le_refl _) C M a1 _ _ ls hok rfl h hl)
abbrev rmX5_state : Room := { frames := 1, cells := 0, slots := 0, locals := 20 }
def f_X5_state (M : Mem) (a1 : Int32) : Int32 := (if a1 = (0 : Int32) then (M 0 0) else (if a1 = (1 : Int32) then (M 1 0) else (if a1 = (2 : Int32) then (M 2 0) else (if a1 = (3 : Int32) then (if (f_X5_isInAttempt M) = 0 then (0 : Int32) else (M 17 0)) else (if a1 = (4 : Int32) then (if (f_X5_isInAttempt M) = 0 then (0 : Int32) else (M 20 0)) else (if a1 = (5 : Int32) then (if (M 0 0) = (3 : Int32) then (M 16 0) else (0 : Int32)) else (if a1 = (6 : Int32) then (M 4 0) else (if a1 = (7 : Int32) then (M 5 0) else (if a1 = (8 : Int32) then (M 6 0) else (if a1 = (9 : Int32) then (M 26 0) else (-1 : Int32)))))))))))
set_option maxRecDepth 100000 in
set_option maxHeartbeats 4000000 in
theorem k_X5_state_0 {p : Program} {l : Launch} {e : Env} {s : State} {m : MethodId} {args : Array Value} {below : List Frame} {meth : Method} {c : Code} {D : va_G} {cI : ClassId} {ad : Nat → Nat} {A : Nat → Prop} {cells slots : Nat} {R : Room} (hcs : cells ≤ R.cells ∧ slots ≤ R.slots) (hrf : rmX5_state.frames ≤ R.frames) (hrl : rmX5_state.locals ≤ R.locals) {r0 : Int32} (C : CX p s m args meth c RX5 cX5_state 2 (some .int)) : ∀ (M : Mem) (a1 : Int32) (H : Heap) (locs : List Loc) (ls : Array Slot), f_X5_state M a1 = r0 → WH D [(cI, .int)] (wN cI ad) A s H locs M → lv_has ls 2 [(0, .ref (ad 0)), (1, .int a1)] → W p l e R s m args below meth c H locs cells slots (MQ below (PI D [(cI, .int)] (wN cI ad) A (M, r0)) args s cells slots A) (F0 m 0 ls []) := by
  have hx := C.1
  have hb := C.2.1
  have hown := C.2.2.2.2.1
  have hts := C.2.2.2.2.2.1
  intro M a1 H locs ls hres h hl
  rw [f_X5_state] at hres
  refine lv_iload_n hx hb dX5_state_0 rfl (lv_at hl 1 rfl) ?_
  refine (Classical.em (a1 = (0 : Int32))).elim (fun c1 => ?_) (fun c1 => ?_)
  · have hres := it_p hres c1
    refine sw_in (k := (0 : Int32)) (tgt := 56) c1 hx hb dX5_state_1 (by decide) (by decide) rfl (by decide) ?_
    refine lv_aload_n hx hb dX5_state_56 rfl (lv_at hl 0 rfl) ?_
    refine N_X5_phase_get (v := (M 0 0)) C h in_fX5_49 rfl dX5_state_57 ?_
    exact wh_iret C h (cz hres) dX5_state_60
  · have hres := it_n hres c1
    refine (Classical.em (a1 = (1 : Int32))).elim (fun c2 => ?_) (fun c2 => ?_)
    · have hres := it_p hres c2
      refine sw_in (k := (1 : Int32)) (tgt := 61) c2 hx hb dX5_state_1 (by decide) (by decide) rfl (by decide) ?_
      refine lv_aload_n hx hb dX5_state_61 rfl (lv_at hl 0 rfl) ?_
      refine N_X5_energy_get (v := (M 1 0)) C h in_fX5_80 rfl dX5_state_62 ?_
      exact wh_iret C h (cz hres) dX5_state_65
    · have hres := it_n hres c2
      refine (Classical.em (a1 = (2 : Int32))).elim (fun c3 => ?_) (fun c3 => ?_)
      · have hres := it_p hres c3
        refine sw_in (k := (2 : Int32)) (tgt := 66) c3 hx hb dX5_state_1 (by decide) (by decide) rfl (by decide) ?_
        refine lv_aload_n hx hb dX5_state_66 rfl (lv_at hl 0 rfl) ?_
        refine N_X5_slotNumber_get (v := (M 2 0)) C h in_fX5_89 rfl dX5_state_67 ?_
        exact wh_iret C h (cz hres) dX5_state_70
      · have hres := it_n hres c3
        refine (Classical.em (a1 = (3 : Int32))).elim (fun c4 => ?_) (fun c4 => ?_)
        · have hres := it_p hres c4
          refine sw_in (k := (3 : Int32)) (tgt := 71) c4 hx hb dX5_state_1 (by decide) (by decide) rfl (by decide) ?_
          refine lv_aload_n hx hb dX5_state_71 rfl (lv_at hl 0 rfl) ?_
          refine wh_cvzp (As := []) (rest := []) hcs C h (c_X5_isInAttempt M) yw_X5_isInAttempt in_mX5_126 hl.1 rfl rfl (Nat.le_of_ble_eq_true rfl) ⟨Nat.le_trans (Nat.le_of_ble_eq_true rfl) hrf, Nat.le_trans (Nat.le_of_ble_eq_true rfl) hrl⟩ dX5_state_72 (fun H locs z5 h => ?_)
          refine lv_if_eq (tgt := 88) hx hb dX5_state_75 (by decide) (fun c6 => ?_) (fun c6 => ?_)
          · have hres := it_p hres c6
            refine lv_iconst (v := (0 : Int32)) hx hb dX5_state_88 (by decide) ?_
            exact wh_iret C h (cz hres) dX5_state_89
          · have hres := it_n hres c6
            refine lv_aload_n hx hb dX5_state_78 rfl (lv_at hl 0 rfl) ?_
            refine N_X5_attempt_get C h in_fX5_32 dX5_state_79 ?_
            refine N_X0_spent_get (v := (M 17 0)) C h in_fX5_129 rfl dX5_state_82 ?_
            refine lv_goto (tgt := 89) hx hb dX5_state_85 (by decide) ?_
            exact wh_iret C h (cz hres) dX5_state_89
        · have hres := it_n hres c4
          refine (Classical.em (a1 = (4 : Int32))).elim (fun c7 => ?_) (fun c7 => ?_)
          · have hres := it_p hres c7
            refine sw_in (k := (4 : Int32)) (tgt := 90) c7 hx hb dX5_state_1 (by decide) (by decide) rfl (by decide) ?_
            refine lv_aload_n hx hb dX5_state_90 rfl (lv_at hl 0 rfl) ?_
            refine wh_cvzp (As := []) (rest := []) hcs C h (c_X5_isInAttempt M) yw_X5_isInAttempt in_mX5_126 hl.1 rfl rfl (Nat.le_of_ble_eq_true rfl) ⟨Nat.le_trans (Nat.le_of_ble_eq_true rfl) hrf, Nat.le_trans (Nat.le_of_ble_eq_true rfl) hrl⟩ dX5_state_91 (fun H locs z8 h => ?_)
            refine lv_if_eq (tgt := 110) hx hb dX5_state_94 (by decide) (fun c9 => ?_) (fun c9 => ?_)
            · have hres := it_p hres c9
              refine lv_iconst (v := (0 : Int32)) hx hb dX5_state_110 (by decide) ?_
              exact wh_iret C h (cz hres) dX5_state_111
            · have hres := it_n hres c9
              refine lv_aload_n hx hb dX5_state_97 rfl (lv_at hl 0 rfl) ?_
              refine N_X5_attempt_get C h in_fX5_32 dX5_state_98 ?_
              refine N_X0_pending_get C h in_fX5_132 dX5_state_101 ?_
              refine N_X2_count_get (v := (M 20 0)) C h in_fX5_136 rfl dX5_state_104 ?_
              refine lv_goto (tgt := 111) hx hb dX5_state_107 (by decide) ?_
              exact wh_iret C h (cz hres) dX5_state_111
          · have hres := it_n hres c7
            refine (Classical.em (a1 = (5 : Int32))).elim (fun c10 => ?_) (fun c10 => ?_)
            · have hres := it_p hres c10
              refine sw_in (k := (5 : Int32)) (tgt := 112) c10 hx hb dX5_state_1 (by decide) (by decide) rfl (by decide) ?_
              refine lv_aload_n hx hb dX5_state_112 rfl (lv_at hl 0 rfl) ?_
              refine N_X5_phase_get (v := (M 0 0)) C h in_fX5_49 rfl dX5_state_113 ?_
              refine lv_iconst (v := (3 : Int32)) hx hb dX5_state_116 (by decide) ?_
              refine lv_icmp_ne (tgt := 130) hx hb dX5_state_117 (by decide) (fun c11 => ?_) (fun c11 => ?_)
              · have hres := it_n hres c11
                refine lv_iconst (v := (0 : Int32)) hx hb dX5_state_130 (by decide) ?_
                exact wh_iret C h (cz hres) dX5_state_131
              · have hres := it_p hres c11
                refine lv_aload_n hx hb dX5_state_120 rfl (lv_at hl 0 rfl) ?_
                refine N_X5_attempt_get C h in_fX5_32 dX5_state_121 ?_
                refine N_X0_next_get (v := (M 16 0)) C h in_fX5_141 rfl dX5_state_124 ?_
                refine lv_goto (tgt := 131) hx hb dX5_state_127 (by decide) ?_
                exact wh_iret C h (cz hres) dX5_state_131
            · have hres := it_n hres c10
              refine (Classical.em (a1 = (6 : Int32))).elim (fun c12 => ?_) (fun c12 => ?_)
              · have hres := it_p hres c12
                refine sw_in (k := (6 : Int32)) (tgt := 132) c12 hx hb dX5_state_1 (by decide) (by decide) rfl (by decide) ?_
                refine lv_aload_n hx hb dX5_state_132 rfl (lv_at hl 0 rfl) ?_
                refine N_X5_givenUp_get (v := (M 4 0)) C h in_fX5_53 rfl dX5_state_133 ?_
                exact wh_iret C h (cz hres) dX5_state_136
              · have hres := it_n hres c12
                refine (Classical.em (a1 = (7 : Int32))).elim (fun c13 => ?_) (fun c13 => ?_)
                · have hres := it_p hres c13
                  refine sw_in (k := (7 : Int32)) (tgt := 137) c13 hx hb dX5_state_1 (by decide) (by decide) rfl (by decide) ?_
                  refine lv_aload_n hx hb dX5_state_137 rfl (lv_at hl 0 rfl) ?_
                  refine N_X5_powerFailures_get (v := (M 5 0)) C h in_fX5_144 rfl dX5_state_138 ?_
                  exact wh_iret C h (cz hres) dX5_state_141
                · have hres := it_n hres c13
                  refine (Classical.em (a1 = (8 : Int32))).elim (fun c14 => ?_) (fun c14 => ?_)
                  · have hres := it_p hres c14
                    refine sw_in (k := (8 : Int32)) (tgt := 142) c14 hx hb dX5_state_1 (by decide) (by decide) rfl (by decide) ?_
                    refine lv_aload_n hx hb dX5_state_142 rfl (lv_at hl 0 rfl) ?_
                    refine N_X5_abandoned_get (v := (M 6 0)) C h in_fX5_147 rfl dX5_state_143 ?_
                    exact wh_iret C h (cz hres) dX5_state_146
                  · have hres := it_n hres c14
                    refine (Classical.em (a1 = (9 : Int32))).elim (fun c15 => ?_) (fun c15 => ?_)
                    · have hres := it_p hres c15
                      refine sw_in (k := (9 : Int32)) (tgt := 147) c15 hx hb dX5_state_1 (by decide) (by decide) rfl (by decide) ?_
                      refine lv_aload_n hx hb dX5_state_147 rfl (lv_at hl 0 rfl) ?_
                      refine N_X5_radio_get C h in_fX5_39 dX5_state_148 ?_
                      refine N_X3_frames_get (v := (M 26 0)) C h in_fX5_150 rfl dX5_state_151 ?_
                      exact wh_iret C h (cz hres) dX5_state_154
                    · have hres := it_n hres c15
                      refine lv_tableOut (tgt := 155) hx hb dX5_state_1 (by have q := And.intro trivial trivial; have n0 := lv_neT c1 (a := 0) (by decide); have n1 := lv_neT c2 (a := 1) (by decide); have n2 := lv_neT c3 (a := 2) (by decide); have n3 := lv_neT c4 (a := 3) (by decide); have n4 := lv_neT c7 (a := 4) (by decide); have n5 := lv_neT c10 (a := 5) (by decide); have n6 := lv_neT c12 (a := 6) (by decide); have n7 := lv_neT c13 (a := 7) (by decide); have n8 := lv_neT c14 (a := 8) (by decide); have n9 := lv_neT c15 (a := 9) (by decide); omega) (by decide) ?_
                      refine lv_iconst (v := (-1 : Int32)) hx hb dX5_state_155 (by decide) ?_
                      exact wh_iret C h (cz hres) dX5_state_156
theorem yw_X5_state {cI : ClassId} {ad : Nat → Nat} : YV (wN cI ad) (ad 0) yX5_state cX5_state 2 (some .int) rmX5_state 1 := ⟨fun M => ⟨0, 5, _, _, rfl, rfl, rfl⟩, in_cX5_state, in_nX5_state, in_vX5_state, in_iX5, by decide +kernel, rfl, rfl⟩
theorem c_X5_state {l : Launch} {D : va_G} {cI : ClassId} {ad : Nat → Nat} (M : Mem) (a1 : Int32) : KI l D [(cI, .int)] (wN cI ad) yX5_state cX5_state 2 rmX5_state [.ref (ad 0), .int a1] M (M, f_X5_state M a1) := met_i (by decide) (Nat.le_of_ble_eq_true rfl) (fun p e s m below meth c A C h ls hl => k_X5_state_0 ⟨Nat.le_refl _, Nat.le_refl _⟩ (Nat.le_refl _) (Nat.le_refl _) C M a1 _ _ ls rfl h hl)
abbrev rmX5_task : Room := { frames := 0, cells := 0, slots := 0, locals := 0 }
def f_X5_task (M : Mem) (a1 a2 : Int32) : Int32 := (if a1 < 0 then (-1 : Int32) else (if a1 < (16 : Int32) then (if a2 = (0 : Int32) then ((M 31) a1.toNatClampNeg) else (if a2 = (1 : Int32) then ((M 32) a1.toNatClampNeg) else (if a2 = (2 : Int32) then ((M 12) a1.toNatClampNeg) else (-1 : Int32)))) else (-1 : Int32)))
def ok_X5_task (M : Mem) (a1 a2 : Int32) : Prop := (if a1 < 0 then True else (if a1 < (16 : Int32) then (if a2 = (0 : Int32) then vp_in a1 16 else (if a2 = (1 : Int32) then vp_in a1 16 else (if a2 = (2 : Int32) then vp_in a1 16 else True))) else True))
set_option maxRecDepth 100000 in
set_option maxHeartbeats 4000000 in
theorem k_X5_task_0 {p : Program} {l : Launch} {e : Env} {s : State} {m : MethodId} {args : Array Value} {below : List Frame} {meth : Method} {c : Code} {D : va_G} {cI : ClassId} {ad : Nat → Nat} {A : Nat → Prop} {cells slots : Nat} {R : Room} (hcs : cells ≤ R.cells ∧ slots ≤ R.slots) (hrf : rmX5_task.frames ≤ R.frames) (hrl : rmX5_task.locals ≤ R.locals) {r0 : Int32} (C : CX p s m args meth c RX5 cX5_task 3 (some .int)) : ∀ (M : Mem) (a1 a2 : Int32) (H : Heap) (locs : List Loc) (ls : Array Slot), ok_X5_task M a1 a2 → f_X5_task M a1 a2 = r0 → WH D [(cI, .int)] (wN cI ad) A s H locs M → lv_has ls 3 [(0, .ref (ad 0)), (1, .int a1), (2, .int a2)] → W p l e R s m args below meth c H locs cells slots (MQ below (PI D [(cI, .int)] (wN cI ad) A (M, r0)) args s cells slots A) (F0 m 0 ls []) := by
  have hx := C.1
  have hb := C.2.1
  have hown := C.2.2.2.2.1
  have hts := C.2.2.2.2.2.1
  intro M a1 a2 H locs ls hok hres h hl
  rw [ok_X5_task] at hok
  rw [f_X5_task] at hres
  refine lv_iload_n hx hb dX5_task_0 rfl (lv_at hl 1 rfl) ?_
  refine lv_if_lt (tgt := 10) hx hb dX5_task_1 (by decide) (fun c1 => ?_) (fun c1 => ?_)
  · have hres := it_p hres c1
    refine lv_iconst (v := (-1 : Int32)) hx hb dX5_task_10 (by decide) ?_
    exact wh_iret C h (cz hres) dX5_task_11
  · have hres := it_n hres c1
    have hok := io_n hok c1
    refine lv_iload_n hx hb dX5_task_4 rfl (lv_at hl 1 rfl) ?_
    refine lv_bipush (v := (16 : Int32)) hx hb dX5_task_5 (by decide) ?_
    refine lv_icmp_lt (tgt := 12) hx hb dX5_task_7 (by decide) (fun c2 => ?_) (fun c2 => ?_)
    · have hres := it_p hres c2
      have hok := io_p hok c2
      refine lv_iload_n hx hb dX5_task_12 rfl (lv_at hl 2 rfl) ?_
      refine (Classical.em (a2 = (0 : Int32))).elim (fun c3 => ?_) (fun c3 => ?_)
      · have hres := it_p hres c3
        have hok := io_p hok c3
        refine sw_in (k := (0 : Int32)) (tgt := 40) c3 hx hb dX5_task_13 (by decide) (by decide) rfl (by decide) ?_
        refine lv_aload_n hx hb dX5_task_40 rfl (lv_at hl 0 rfl) ?_
        refine N_X5_estimates_get C h in_fX5_43 dX5_task_41 ?_
        refine lv_iload_n hx hb dX5_task_44 rfl (lv_at hl 1 rfl) ?_
        have h4 := hok
        refine N_es_ld (v := ((M 31) a1.toNatClampNeg)) C h h4 rfl dX5_task_45 ?_
        exact wh_iret C h (cz hres) dX5_task_46
      · have hres := it_n hres c3
        have hok := io_n hok c3
        refine (Classical.em (a2 = (1 : Int32))).elim (fun c5 => ?_) (fun c5 => ?_)
        · have hres := it_p hres c5
          have hok := io_p hok c5
          refine sw_in (k := (1 : Int32)) (tgt := 47) c5 hx hb dX5_task_13 (by decide) (by decide) rfl (by decide) ?_
          refine lv_aload_n hx hb dX5_task_47 rfl (lv_at hl 0 rfl) ?_
          refine N_X5_failures_get C h in_fX5_46 dX5_task_48 ?_
          refine lv_iload_n hx hb dX5_task_51 rfl (lv_at hl 1 rfl) ?_
          have h6 := hok
          refine N_fa_ld (v := ((M 32) a1.toNatClampNeg)) C h h6 rfl dX5_task_52 ?_
          exact wh_iret C h (cz hres) dX5_task_53
        · have hres := it_n hres c5
          have hok := io_n hok c5
          refine (Classical.em (a2 = (2 : Int32))).elim (fun c7 => ?_) (fun c7 => ?_)
          · have hres := it_p hres c7
            have hok := io_p hok c7
            refine sw_in (k := (2 : Int32)) (tgt := 54) c7 hx hb dX5_task_13 (by decide) (by decide) rfl (by decide) ?_
            refine lv_aload_n hx hb dX5_task_54 rfl (lv_at hl 0 rfl) ?_
            refine N_X5_code_get C h in_fX5_10 dX5_task_55 ?_
            refine N_X1_lengths_get C h in_fX5_153 dX5_task_58 ?_
            refine lv_iload_n hx hb dX5_task_61 rfl (lv_at hl 1 rfl) ?_
            have h8 := hok
            refine N_cl_ld (v := ((M 12) a1.toNatClampNeg)) C h h8 rfl dX5_task_62 ?_
            exact wh_iret C h (cz hres) dX5_task_63
          · have hres := it_n hres c7
            refine lv_tableOut (tgt := 64) hx hb dX5_task_13 (by have q := And.intro trivial trivial; have n0 := lv_neT c3 (a := 0) (by decide); have n1 := lv_neT c5 (a := 1) (by decide); have n2 := lv_neT c7 (a := 2) (by decide); omega) (by decide) ?_
            refine lv_iconst (v := (-1 : Int32)) hx hb dX5_task_64 (by decide) ?_
            exact wh_iret C h (cz hres) dX5_task_65
    · have hres := it_n hres c2
      refine lv_iconst (v := (-1 : Int32)) hx hb dX5_task_10 (by decide) ?_
      exact wh_iret C h (cz hres) dX5_task_11
theorem yw_X5_task {cI : ClassId} {ad : Nat → Nat} : YV (wN cI ad) (ad 0) yX5_task cX5_task 3 (some .int) rmX5_task 2 := ⟨fun M => ⟨0, 5, _, _, rfl, rfl, rfl⟩, in_cX5_task, in_nX5_task, in_vX5_task, in_iX5, by decide +kernel, rfl, rfl⟩
theorem c_X5_task {l : Launch} {D : va_G} {cI : ClassId} {ad : Nat → Nat} (M : Mem) (a1 a2 : Int32) (hok : ok_X5_task M a1 a2) : KI l D [(cI, .int)] (wN cI ad) yX5_task cX5_task 3 rmX5_task [.ref (ad 0), .int a1, .int a2] M (M, f_X5_task M a1 a2) := met_i (by decide) (Nat.le_of_ble_eq_true rfl) (fun p e s m below meth c A C h ls hl => k_X5_task_0 ⟨Nat.le_refl _, Nat.le_refl _⟩ (Nat.le_refl _) (Nat.le_refl _) C M a1 a2 _ _ ls hok rfl h hl)
abbrev rmX5_register : Room := { frames := 1, cells := 0, slots := 0, locals := 20 }
def f_X5_register (M : Mem) (a1 : Int32) : Int32 := (if (f_X5_isInAttempt M) = 0 then (0 : Int32) else (if a1 < 0 then (0 : Int32) else (if a1 < (8 : Int32) then ((M 25) a1.toNatClampNeg) else (0 : Int32))))
def ok_X5_register (M : Mem) (a1 : Int32) : Prop := (if (f_X5_isInAttempt M) = 0 then True else (if a1 < 0 then True else (if a1 < (8 : Int32) then vp_in a1 8 else True)))
set_option maxRecDepth 100000 in
set_option maxHeartbeats 4000000 in
theorem k_X5_register_0 {p : Program} {l : Launch} {e : Env} {s : State} {m : MethodId} {args : Array Value} {below : List Frame} {meth : Method} {c : Code} {D : va_G} {cI : ClassId} {ad : Nat → Nat} {A : Nat → Prop} {cells slots : Nat} {R : Room} (hcs : cells ≤ R.cells ∧ slots ≤ R.slots) (hrf : rmX5_register.frames ≤ R.frames) (hrl : rmX5_register.locals ≤ R.locals) {r0 : Int32} (C : CX p s m args meth c RX5 cX5_register 2 (some .int)) : ∀ (M : Mem) (a1 : Int32) (H : Heap) (locs : List Loc) (ls : Array Slot), ok_X5_register M a1 → f_X5_register M a1 = r0 → WH D [(cI, .int)] (wN cI ad) A s H locs M → lv_has ls 2 [(0, .ref (ad 0)), (1, .int a1)] → W p l e R s m args below meth c H locs cells slots (MQ below (PI D [(cI, .int)] (wN cI ad) A (M, r0)) args s cells slots A) (F0 m 0 ls []) := by
  have hx := C.1
  have hb := C.2.1
  have hown := C.2.2.2.2.1
  have hts := C.2.2.2.2.2.1
  intro M a1 H locs ls hok hres h hl
  rw [ok_X5_register] at hok
  rw [f_X5_register] at hres
  refine lv_aload_n hx hb dX5_register_0 rfl (lv_at hl 0 rfl) ?_
  refine wh_cvzp (As := []) (rest := []) hcs C h (c_X5_isInAttempt M) yw_X5_isInAttempt in_mX5_126 hl.1 rfl rfl (Nat.le_of_ble_eq_true rfl) ⟨Nat.le_trans (Nat.le_of_ble_eq_true rfl) hrf, Nat.le_trans (Nat.le_of_ble_eq_true rfl) hrl⟩ dX5_register_1 (fun H locs z1 h => ?_)
  refine lv_if_eq (tgt := 17) hx hb dX5_register_4 (by decide) (fun c2 => ?_) (fun c2 => ?_)
  · have hres := it_p hres c2
    refine lv_iconst (v := (0 : Int32)) hx hb dX5_register_17 (by decide) ?_
    exact wh_iret C h (cz hres) dX5_register_18
  · have hres := it_n hres c2
    have hok := io_n hok c2
    refine lv_iload_n hx hb dX5_register_7 rfl (lv_at hl 1 rfl) ?_
    refine lv_if_lt (tgt := 17) hx hb dX5_register_8 (by decide) (fun c3 => ?_) (fun c3 => ?_)
    · have hres := it_p hres c3
      refine lv_iconst (v := (0 : Int32)) hx hb dX5_register_17 (by decide) ?_
      exact wh_iret C h (cz hres) dX5_register_18
    · have hres := it_n hres c3
      have hok := io_n hok c3
      refine lv_iload_n hx hb dX5_register_11 rfl (lv_at hl 1 rfl) ?_
      refine lv_bipush (v := (8 : Int32)) hx hb dX5_register_12 (by decide) ?_
      refine lv_icmp_lt (tgt := 19) hx hb dX5_register_14 (by decide) (fun c4 => ?_) (fun c4 => ?_)
      · have hres := it_p hres c4
        have hok := io_p hok c4
        refine lv_aload_n hx hb dX5_register_19 rfl (lv_at hl 0 rfl) ?_
        refine N_X5_attempt_get C h in_fX5_32 dX5_register_20 ?_
        refine N_X0_registers_get C h in_fX5_156 dX5_register_23 ?_
        refine lv_iload_n hx hb dX5_register_26 rfl (lv_at hl 1 rfl) ?_
        have h5 := hok
        refine N_rg_ld (v := ((M 25) a1.toNatClampNeg)) C h h5 rfl dX5_register_27 ?_
        exact wh_iret C h (cz hres) dX5_register_28
      · have hres := it_n hres c4
        refine lv_iconst (v := (0 : Int32)) hx hb dX5_register_17 (by decide) ?_
        exact wh_iret C h (cz hres) dX5_register_18
theorem yw_X5_register {cI : ClassId} {ad : Nat → Nat} : YV (wN cI ad) (ad 0) yX5_register cX5_register 2 (some .int) rmX5_register 1 := ⟨fun M => ⟨0, 5, _, _, rfl, rfl, rfl⟩, in_cX5_register, in_nX5_register, in_vX5_register, in_iX5, by decide +kernel, rfl, rfl⟩
theorem c_X5_register {l : Launch} {D : va_G} {cI : ClassId} {ad : Nat → Nat} (M : Mem) (a1 : Int32) (hok : ok_X5_register M a1) : KI l D [(cI, .int)] (wN cI ad) yX5_register cX5_register 2 rmX5_register [.ref (ad 0), .int a1] M (M, f_X5_register M a1) := met_i (by decide) (Nat.le_of_ble_eq_true rfl) (fun p e s m below meth c A C h ls hl => k_X5_register_0 ⟨Nat.le_refl _, Nat.le_refl _⟩ (Nat.le_refl _) (Nat.le_refl _) C M a1 _ _ ls hok rfl h hl)
