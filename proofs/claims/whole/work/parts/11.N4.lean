abbrev rmX4_payloadOf : Room := { frames := 0, cells := 0, slots := 0, locals := 0 }
def f_X4_payloadOf (M : Mem) (a1 : Int32) : Int32 := ((68 : Int32) + (a1 &&& (15 : Int32)))
set_option maxRecDepth 100000 in
set_option maxHeartbeats 4000000 in
theorem k_X4_payloadOf_0 {p : Program} {l : Launch} {e : Env} {s : State} {m : MethodId} {args : Array Value} {below : List Frame} {meth : Method} {c : Code} {D : va_G} {cI : ClassId} {ad : Nat → Nat} {A : Nat → Prop} {cells slots : Nat} {R : Room} (hcs : cells ≤ R.cells ∧ slots ≤ R.slots) (hrf : rmX4_payloadOf.frames ≤ R.frames) (hrl : rmX4_payloadOf.locals ≤ R.locals) {r0 : Int32} (C : CX p s m args meth c RX4 cX4_payloadOf 1 (some .int)) : ∀ (M : Mem) (a1 : Int32) (H : Heap) (locs : List Loc) (ls : Array Slot), f_X4_payloadOf M a1 = r0 → WH D [(cI, .int)] (wN cI ad) A s H locs M → lv_has ls 1 [(0, .int a1)] → W p l e R s m args below meth c H locs cells slots (MQ below (PI D [(cI, .int)] (wN cI ad) A (M, r0)) args s cells slots A) (F0 m 0 ls []) := by
  have hx := C.1
  have hb := C.2.1
  have hown := C.2.2.2.2.1
  have hts := C.2.2.2.2.2.1
  intro M a1 H locs ls hres h hl
  rw [f_X4_payloadOf] at hres
  refine lv_bipush (v := (68 : Int32)) hx hb dX4_payloadOf_0 (by decide) ?_
  refine lv_iload_n hx hb dX4_payloadOf_2 rfl (lv_at hl 0 rfl) ?_
  refine lv_bipush (v := (15 : Int32)) hx hb dX4_payloadOf_3 (by decide) ?_
  refine lv_iand hx hb dX4_payloadOf_5 ?_
  refine lv_iadd hx hb dX4_payloadOf_6 ?_
  exact wh_iret C h (cz hres) dX4_payloadOf_7
theorem yw_X4_payloadOf : YS yX4_payloadOf cX4_payloadOf 1 (some .int) rmX4_payloadOf 1 := ⟨in_cX4_payloadOf, in_sX4_payloadOf, in_iX4, by decide +kernel, rfl, rfl⟩
theorem c_X4_payloadOf {l : Launch} {D : va_G} {cI : ClassId} {ad : Nat → Nat} (M : Mem) (a1 : Int32) : KI l D [(cI, .int)] (wN cI ad) yX4_payloadOf cX4_payloadOf 1 rmX4_payloadOf [.int a1] M (M, f_X4_payloadOf M a1) := met_i (by decide) (Nat.le_of_ble_eq_true rfl) (fun p e s m below meth c A C h ls hl => k_X4_payloadOf_0 ⟨Nat.le_refl _, Nat.le_refl _⟩ (Nat.le_refl _) (Nat.le_refl _) C M a1 _ _ ls rfl h hl)
abbrev rmX4_hasFramesToAir : Room := { frames := 0, cells := 0, slots := 0, locals := 0 }
def f_X4_hasFramesToAir (M : Mem) : Int32 := (if ((M 13) 3) ≤ ((M 13) 4) then (0 : Int32) else (1 : Int32))
set_option maxRecDepth 100000 in
set_option maxHeartbeats 4000000 in
theorem k_X4_hasFramesToAir_0 {p : Program} {l : Launch} {e : Env} {s : State} {m : MethodId} {args : Array Value} {below : List Frame} {meth : Method} {c : Code} {D : va_G} {cI : ClassId} {ad : Nat → Nat} {A : Nat → Prop} {cells slots : Nat} {R : Room} (hcs : cells ≤ R.cells ∧ slots ≤ R.slots) (hrf : rmX4_hasFramesToAir.frames ≤ R.frames) (hrl : rmX4_hasFramesToAir.locals ≤ R.locals) {r0 : Int32} (C : CX p s m args meth c RX4 cX4_hasFramesToAir 1 (some .boolean)) : ∀ (M : Mem) (H : Heap) (locs : List Loc) (ls : Array Slot), f_X4_hasFramesToAir M = r0 → WH D [(cI, .int)] (wN cI ad) A s H locs M → lv_has ls 1 [(0, .ref (ad 4))] → W p l e R s m args below meth c H locs cells slots (MQ below (PZ D [(cI, .int)] (wN cI ad) A (M, r0)) args s cells slots A) (F0 m 0 ls []) := by
  have hx := C.1
  have hb := C.2.1
  have hown := C.2.2.2.2.1
  have hts := C.2.2.2.2.2.1
  intro M H locs ls hres h hl
  rw [f_X4_hasFramesToAir] at hres
  refine lv_aload_n hx hb dX4_hasFramesToAir_0 rfl (lv_at hl 0 rfl) ?_
  refine N_X4_words_get C h in_fX4_9 dX4_hasFramesToAir_1 ?_
  refine lv_iconst (v := (4 : Int32)) hx hb dX4_hasFramesToAir_4 (by decide) ?_
  refine N_sw_ld (v := ((M 13) 4)) C h (vp_l (by decide)) rfl dX4_hasFramesToAir_5 ?_
  refine lv_aload_n hx hb dX4_hasFramesToAir_6 rfl (lv_at hl 0 rfl) ?_
  refine N_X4_words_get C h in_fX4_9 dX4_hasFramesToAir_7 ?_
  refine lv_iconst (v := (3 : Int32)) hx hb dX4_hasFramesToAir_10 (by decide) ?_
  refine N_sw_ld (v := ((M 13) 3)) C h (vp_l (by decide)) rfl dX4_hasFramesToAir_11 ?_
  refine lv_icmp_ge (tgt := 19) hx hb dX4_hasFramesToAir_12 (by decide) (fun c1 => ?_) (fun c1 => ?_)
  · have hres := it_p hres c1
    refine lv_iconst (v := (0 : Int32)) hx hb dX4_hasFramesToAir_19 (by decide) ?_
    exact wh_zret C h nb_0 (cz hres) dX4_hasFramesToAir_20
  · have hres := it_n hres c1
    refine lv_iconst (v := (1 : Int32)) hx hb dX4_hasFramesToAir_15 (by decide) ?_
    refine lv_goto (tgt := 20) hx hb dX4_hasFramesToAir_16 (by decide) ?_
    exact wh_zret C h nb_1 (cz hres) dX4_hasFramesToAir_20
theorem yw_X4_hasFramesToAir {cI : ClassId} {ad : Nat → Nat} : YV (wN cI ad) (ad 4) yX4_hasFramesToAir cX4_hasFramesToAir 1 (some .boolean) rmX4_hasFramesToAir 0 := ⟨fun M => ⟨4, 4, _, _, rfl, rfl, rfl⟩, in_cX4_hasFramesToAir, in_nX4_hasFramesToAir, in_vX4_hasFramesToAir, in_iX4, by decide +kernel, rfl, rfl⟩
theorem c_X4_hasFramesToAir {l : Launch} {D : va_G} {cI : ClassId} {ad : Nat → Nat} (M : Mem) : KZ l D [(cI, .int)] (wN cI ad) yX4_hasFramesToAir cX4_hasFramesToAir 1 rmX4_hasFramesToAir [.ref (ad 4)] M (M, f_X4_hasFramesToAir M) := met_z (by decide) (Nat.le_of_ble_eq_true rfl) (fun p e s m below meth c A C h ls hl => k_X4_hasFramesToAir_0 ⟨Nat.le_refl _, Nat.le_refl _⟩ (Nat.le_refl _) (Nat.le_refl _) C M _ _ ls rfl h hl)
abbrev rmX4_write : Room := { frames := 0, cells := 0, slots := 0, locals := 0 }
def f_X4_write (M : Mem) (a1 a2 : Int32) : Mem := (if a1 < 0 then M else (if (164 : Int32) ≤ a1 then M else (ms (ms M 13 (upd (M 13) a1.toNatClampNeg a2)) 14 (upd (M 14) a1.toNatClampNeg (((M 14) a1.toNatClampNeg) + (1 : Int32))))))
def ok_X4_write (M : Mem) (a1 a2 : Int32) : Prop := (if a1 < 0 then True else (if (164 : Int32) ≤ a1 then True else vp_in a1 164 ∧ vp_in a1 164 ∧ vp_in a1 164))
set_option maxRecDepth 100000 in
set_option maxHeartbeats 4000000 in
theorem k_X4_write_0 {p : Program} {l : Launch} {e : Env} {s : State} {m : MethodId} {args : Array Value} {below : List Frame} {meth : Method} {c : Code} {D : va_G} {cI : ClassId} {ad : Nat → Nat} {A : Nat → Prop} {cells slots : Nat} {R : Room} (hcs : cells ≤ R.cells ∧ slots ≤ R.slots) (hrf : rmX4_write.frames ≤ R.frames) (hrl : rmX4_write.locals ≤ R.locals) {res : Mem} (C : CX p s m args meth c RX4 cX4_write 3 none) : ∀ (M : Mem) (a1 a2 : Int32) (H : Heap) (locs : List Loc) (ls : Array Slot), ok_X4_write M a1 a2 → f_X4_write M a1 a2 = res → WH D [(cI, .int)] (wN cI ad) A s H locs M → lv_has ls 3 [(0, .ref (ad 4)), (1, .int a1), (2, .int a2)] → W p l e R s m args below meth c H locs cells slots (MQ below (PV D [(cI, .int)] (wN cI ad) A res) args s cells slots A) (F0 m 0 ls []) := by
  have hx := C.1
  have hb := C.2.1
  have hown := C.2.2.2.2.1
  have hts := C.2.2.2.2.2.1
  intro M a1 a2 H locs ls hok hres h hl
  rw [ok_X4_write] at hok
  rw [f_X4_write] at hres
  refine lv_iload_n hx hb dX4_write_0 rfl (lv_at hl 1 rfl) ?_
  refine lv_if_lt (tgt := 28) hx hb dX4_write_1 (by decide) (fun c1 => ?_) (fun c1 => ?_)
  · have hres := it_p hres c1
    exact wh_vret C h hres dX4_write_28
  · have hres := it_n hres c1
    have hok := io_n hok c1
    refine lv_iload_n hx hb dX4_write_4 rfl (lv_at hl 1 rfl) ?_
    refine lv_sipush (v := (164 : Int32)) hx hb dX4_write_5 (by decide) ?_
    refine lv_icmp_ge (tgt := 28) hx hb dX4_write_8 (by decide) (fun c2 => ?_) (fun c2 => ?_)
    · have hres := it_p hres c2
      exact wh_vret C h hres dX4_write_28
    · have hres := it_n hres c2
      have hok := io_n hok c2
      refine lv_aload_n hx hb dX4_write_11 rfl (lv_at hl 0 rfl) ?_
      refine N_X4_words_get C h in_fX4_9 dX4_write_12 ?_
      refine lv_iload_n hx hb dX4_write_15 rfl (lv_at hl 1 rfl) ?_
      refine lv_iload_n hx hb dX4_write_16 rfl (lv_at hl 2 rfl) ?_
      obtain ⟨h5, hok⟩ := hok
      refine N_sw_st (M2 := (ms M 13 (upd (M 13) a1.toNatClampNeg a2))) C h h5 rfl dX4_write_17 (fun H locs h => ?_)
      refine lv_aload_n hx hb dX4_write_18 rfl (lv_at hl 0 rfl) ?_
      refine N_X4_wears_get C h in_fX4_13 dX4_write_19 ?_
      refine lv_iload_n hx hb dX4_write_22 rfl (lv_at hl 1 rfl) ?_
      refine lv_dup2_11 hx hb dX4_write_23 rfl rfl ?_
      obtain ⟨h4, hok⟩ := hok
      refine N_sv_ld (v := ((M 14) a1.toNatClampNeg)) C h h4 rfl dX4_write_24 ?_
      refine lv_iconst (v := (1 : Int32)) hx hb dX4_write_25 (by decide) ?_
      refine lv_iadd hx hb dX4_write_26 ?_
      have h3 := hok
      refine N_sv_st (M2 := (ms (ms M 13 (upd (M 13) a1.toNatClampNeg a2)) 14 (upd (M 14) a1.toNatClampNeg (((M 14) a1.toNatClampNeg) + (1 : Int32))))) C h h3 rfl dX4_write_27 (fun H locs h => ?_)
      exact wh_vret C h hres dX4_write_28
theorem yw_X4_write {cI : ClassId} {ad : Nat → Nat} : YV (wN cI ad) (ad 4) yX4_write cX4_write 3 none rmX4_write 2 := ⟨fun M => ⟨4, 4, _, _, rfl, rfl, rfl⟩, in_cX4_write, in_nX4_write, in_vX4_write, in_iX4, by decide +kernel, rfl, rfl⟩
theorem c_X4_write {l : Launch} {D : va_G} {cI : ClassId} {ad : Nat → Nat} (M : Mem) (a1 a2 : Int32) (hok : ok_X4_write M a1 a2) : KV l D [(cI, .int)] (wN cI ad) yX4_write cX4_write 3 rmX4_write [.ref (ad 4), .int a1, .int a2] M (f_X4_write M a1 a2) := met_v (by decide) (Nat.le_of_ble_eq_true rfl) (fun p e s m below meth c A C h ls hl => k_X4_write_0 ⟨Nat.le_refl _, Nat.le_refl _⟩ (Nat.le_refl _) (Nat.le_refl _) C M a1 a2 _ _ ls hok rfl h hl)
abbrev rmX4_applyEntry : Room := { frames := 1, cells := 0, slots := 0, locals := 22 }
def f_X4_applyEntry (M : Mem) (a1 : Int32) : Mem := (if ((84 : Int32) + ((2 : Int32) * a1)) < (84 : Int32) then M else (if (164 : Int32) ≤ (((84 : Int32) + ((2 : Int32) * a1)) + (1 : Int32)) then M else (bv (f_X4_write M ((M 13) ((84 : Int32) + ((2 : Int32) * a1)).toNatClampNeg) ((M 13) (((84 : Int32) + ((2 : Int32) * a1)) + (1 : Int32)).toNatClampNeg)) (fun M3 => M3))))
def ok_X4_applyEntry (M : Mem) (a1 : Int32) : Prop := (if ((84 : Int32) + ((2 : Int32) * a1)) < (84 : Int32) then True else (if (164 : Int32) ≤ (((84 : Int32) + ((2 : Int32) * a1)) + (1 : Int32)) then True else vp_in ((84 : Int32) + ((2 : Int32) * a1)) 164 ∧ vp_in (((84 : Int32) + ((2 : Int32) * a1)) + (1 : Int32)) 164 ∧ ok_X4_write M ((M 13) ((84 : Int32) + ((2 : Int32) * a1)).toNatClampNeg) ((M 13) (((84 : Int32) + ((2 : Int32) * a1)) + (1 : Int32)).toNatClampNeg)))
set_option maxRecDepth 100000 in
set_option maxHeartbeats 4000000 in
theorem k_X4_applyEntry_0 {p : Program} {l : Launch} {e : Env} {s : State} {m : MethodId} {args : Array Value} {below : List Frame} {meth : Method} {c : Code} {D : va_G} {cI : ClassId} {ad : Nat → Nat} {A : Nat → Prop} {cells slots : Nat} {R : Room} (hcs : cells ≤ R.cells ∧ slots ≤ R.slots) (hrf : rmX4_applyEntry.frames ≤ R.frames) (hrl : rmX4_applyEntry.locals ≤ R.locals) {res : Mem} (C : CX p s m args meth c RX4 cX4_applyEntry 3 none) : ∀ (M : Mem) (a1 : Int32) (H : Heap) (locs : List Loc) (ls : Array Slot), ok_X4_applyEntry M a1 → f_X4_applyEntry M a1 = res → WH D [(cI, .int)] (wN cI ad) A s H locs M → lv_has ls 3 [(0, .ref (ad 4)), (1, .int a1)] → W p l e R s m args below meth c H locs cells slots (MQ below (PV D [(cI, .int)] (wN cI ad) A res) args s cells slots A) (F0 m 0 ls []) := by
  have hx := C.1
  have hb := C.2.1
  have hown := C.2.2.2.2.1
  have hts := C.2.2.2.2.2.1
  intro M a1 H locs ls hok hres h hl
  rw [ok_X4_applyEntry] at hok
  rw [f_X4_applyEntry] at hres
  refine lv_bipush (v := (84 : Int32)) hx hb dX4_applyEntry_0 (by decide) ?_
  refine lv_iconst (v := (2 : Int32)) hx hb dX4_applyEntry_2 (by decide) ?_
  refine lv_iload_n hx hb dX4_applyEntry_3 rfl (lv_at hl 1 rfl) ?_
  refine lv_imul hx hb dX4_applyEntry_4 ?_
  refine lv_iadd hx hb dX4_applyEntry_5 ?_
  refine lv_istore_n (lv' := [(2, .int ((84 : Int32) + ((2 : Int32) * a1))), (0, .ref (ad 4)), (1, .int a1)]) hx hb dX4_applyEntry_6 rfl hl (by decide) rfl (fun ls hl => ?_)
  refine lv_iload_n hx hb dX4_applyEntry_7 rfl (lv_at hl 0 rfl) ?_
  refine lv_bipush (v := (84 : Int32)) hx hb dX4_applyEntry_8 (by decide) ?_
  refine lv_icmp_lt (tgt := 40) hx hb dX4_applyEntry_10 (by decide) (fun c1 => ?_) (fun c1 => ?_)
  · have hres := it_p hres c1
    exact wh_vret C h hres dX4_applyEntry_40
  · have hres := it_n hres c1
    have hok := io_n hok c1
    refine lv_iload_n hx hb dX4_applyEntry_13 rfl (lv_at hl 0 rfl) ?_
    refine lv_iconst (v := (1 : Int32)) hx hb dX4_applyEntry_14 (by decide) ?_
    refine lv_iadd hx hb dX4_applyEntry_15 ?_
    refine lv_sipush (v := (164 : Int32)) hx hb dX4_applyEntry_16 (by decide) ?_
    refine lv_icmp_ge (tgt := 40) hx hb dX4_applyEntry_19 (by decide) (fun c2 => ?_) (fun c2 => ?_)
    · have hres := it_p hres c2
      exact wh_vret C h hres dX4_applyEntry_40
    · have hres := it_n hres c2
      have hok := io_n hok c2
      refine lv_aload_n hx hb dX4_applyEntry_22 rfl (lv_at hl 1 rfl) ?_
      refine lv_aload_n hx hb dX4_applyEntry_23 rfl (lv_at hl 1 rfl) ?_
      refine N_X4_words_get C h in_fX4_9 dX4_applyEntry_24 ?_
      refine lv_iload_n hx hb dX4_applyEntry_27 rfl (lv_at hl 0 rfl) ?_
      obtain ⟨h6, hok⟩ := hok
      refine N_sw_ld (v := ((M 13) ((84 : Int32) + ((2 : Int32) * a1)).toNatClampNeg)) C h h6 rfl dX4_applyEntry_28 ?_
      refine lv_aload_n hx hb dX4_applyEntry_29 rfl (lv_at hl 1 rfl) ?_
      refine N_X4_words_get C h in_fX4_9 dX4_applyEntry_30 ?_
      refine lv_iload_n hx hb dX4_applyEntry_33 rfl (lv_at hl 0 rfl) ?_
      refine lv_iconst (v := (1 : Int32)) hx hb dX4_applyEntry_34 (by decide) ?_
      refine lv_iadd hx hb dX4_applyEntry_35 ?_
      obtain ⟨h5, hok⟩ := hok
      refine N_sw_ld (v := ((M 13) (((84 : Int32) + ((2 : Int32) * a1)) + (1 : Int32)).toNatClampNeg)) C h h5 rfl dX4_applyEntry_36 ?_
      have h4 := hok
      refine wh_cvv (As := [.int ((M 13) ((84 : Int32) + ((2 : Int32) * a1)).toNatClampNeg), .int ((M 13) (((84 : Int32) + ((2 : Int32) * a1)) + (1 : Int32)).toNatClampNeg)]) (rest := []) hcs C h (c_X4_write M ((M 13) ((84 : Int32) + ((2 : Int32) * a1)).toNatClampNeg) ((M 13) (((84 : Int32) + ((2 : Int32) * a1)) + (1 : Int32)).toNatClampNeg) h4) yw_X4_write in_mX4_16 hl.1 rfl rfl (Nat.le_of_ble_eq_true rfl) ⟨Nat.le_trans (Nat.le_of_ble_eq_true rfl) hrf, Nat.le_trans (Nat.le_of_ble_eq_true rfl) hrl⟩ dX4_applyEntry_37 (fun M3 H locs e3 h => ?_)
      rw [e3] at hres
      have hres := bv_e hres
      exact wh_vret C h hres dX4_applyEntry_40
theorem yw_X4_applyEntry {cI : ClassId} {ad : Nat → Nat} : YV (wN cI ad) (ad 4) yX4_applyEntry cX4_applyEntry 3 none rmX4_applyEntry 1 := ⟨fun M => ⟨4, 4, _, _, rfl, rfl, rfl⟩, in_cX4_applyEntry, in_nX4_applyEntry, in_vX4_applyEntry, in_iX4, by decide +kernel, rfl, rfl⟩
theorem c_X4_applyEntry {l : Launch} {D : va_G} {cI : ClassId} {ad : Nat → Nat} (M : Mem) (a1 : Int32) (hok : ok_X4_applyEntry M a1) : KV l D [(cI, .int)] (wN cI ad) yX4_applyEntry cX4_applyEntry 3 rmX4_applyEntry [.ref (ad 4), .int a1] M (f_X4_applyEntry M a1) := met_v (by decide) (Nat.le_of_ble_eq_true rfl) (fun p e s m below meth c A C h ls hl => k_X4_applyEntry_0 ⟨Nat.le_refl _, Nat.le_refl _⟩ (Nat.le_refl _) (Nat.le_refl _) C M a1 _ _ ls hok rfl h hl)
