abbrev rmX3_putOnAir : Room := { frames := 0, cells := 0, slots := 0, locals := 0 }
def f_X3_putOnAir (M : Mem) (a1 a2 : Int32) : Mem := (if a1 = (M 27 0) then (ms (ms (ms (ms (ms M 28 (upd (M 28) ((M 26 0) &&& (63 : Int32)).toNatClampNeg a1)) 29 (upd (M 29) ((M 26 0) &&& (63 : Int32)).toNatClampNeg a2)) 26 (fun _ => ((M 26 0) + (1 : Int32)))) 30 (upd (M 30) (a1 &&& (63 : Int32)).toNatClampNeg a2)) 27 (fun _ => ((M 27 0) + (1 : Int32)))) else (ms (ms (ms M 28 (upd (M 28) ((M 26 0) &&& (63 : Int32)).toNatClampNeg a1)) 29 (upd (M 29) ((M 26 0) &&& (63 : Int32)).toNatClampNeg a2)) 26 (fun _ => ((M 26 0) + (1 : Int32)))))
def ok_X3_putOnAir (M : Mem) (a1 a2 : Int32) : Prop := vp_in ((M 26 0) &&& (63 : Int32)) 64 ∧ vp_in ((M 26 0) &&& (63 : Int32)) 64 ∧ (if a1 = (M 27 0) then vp_in (a1 &&& (63 : Int32)) 64 else True)
set_option maxRecDepth 100000 in
set_option maxHeartbeats 4000000 in
theorem k_X3_putOnAir_0 {p : Program} {l : Launch} {e : Env} {s : State} {m : MethodId} {args : Array Value} {below : List Frame} {meth : Method} {c : Code} {D : va_G} {cI : ClassId} {ad : Nat → Nat} {A : Nat → Prop} {cells slots : Nat} {R : Room} (hcs : cells ≤ R.cells ∧ slots ≤ R.slots) (hrf : rmX3_putOnAir.frames ≤ R.frames) (hrl : rmX3_putOnAir.locals ≤ R.locals) {res : Mem} (C : CX p s m args meth c RX3 cX3_putOnAir 4 none) : ∀ (M : Mem) (a1 a2 : Int32) (H : Heap) (locs : List Loc) (ls : Array Slot), ok_X3_putOnAir M a1 a2 → f_X3_putOnAir M a1 a2 = res → WH D [(cI, .int)] (wN cI ad) A s H locs M → lv_has ls 4 [(0, .ref (ad 14)), (1, .int a1), (2, .int a2)] → W p l e R s m args below meth c H locs cells slots (MQ below (PV D [(cI, .int)] (wN cI ad) A res) args s cells slots A) (F0 m 0 ls []) := by
  have hx := C.1
  have hb := C.2.1
  have hown := C.2.2.2.2.1
  have hts := C.2.2.2.2.2.1
  intro M a1 a2 H locs ls hok hres h hl
  rw [ok_X3_putOnAir] at hok
  rw [f_X3_putOnAir] at hres
  refine lv_aload_n hx hb dX3_putOnAir_0 rfl (lv_at hl 0 rfl) ?_
  refine N_X3_frames_get (v := (M 26 0)) C h in_fX3_21 rfl dX3_putOnAir_1 ?_
  refine lv_bipush (v := (63 : Int32)) hx hb dX3_putOnAir_4 (by decide) ?_
  refine lv_iand hx hb dX3_putOnAir_6 ?_
  refine lv_istore_n (lv' := [(3, .int ((M 26 0) &&& (63 : Int32))), (0, .ref (ad 14)), (1, .int a1), (2, .int a2)]) hx hb dX3_putOnAir_7 rfl hl (by decide) rfl (fun ls hl => ?_)
  refine lv_aload_n hx hb dX3_putOnAir_8 rfl (lv_at hl 1 rfl) ?_
  refine N_X3_numbers_get C h in_fX3_11 dX3_putOnAir_9 ?_
  refine lv_iload_n hx hb dX3_putOnAir_12 rfl (lv_at hl 0 rfl) ?_
  refine lv_iload_n hx hb dX3_putOnAir_13 rfl (lv_at hl 2 rfl) ?_
  obtain ⟨h4, hok⟩ := hok
  refine N_an_st (M2 := (ms M 28 (upd (M 28) ((M 26 0) &&& (63 : Int32)).toNatClampNeg a1))) C h h4 rfl dX3_putOnAir_14 (fun H locs h => ?_)
  refine lv_aload_n hx hb dX3_putOnAir_15 rfl (lv_at hl 1 rfl) ?_
  refine N_X3_payloads_get C h in_fX3_15 dX3_putOnAir_16 ?_
  refine lv_iload_n hx hb dX3_putOnAir_19 rfl (lv_at hl 0 rfl) ?_
  refine lv_iload_n hx hb dX3_putOnAir_20 rfl (lv_at hl 3 rfl) ?_
  obtain ⟨h3, hok⟩ := hok
  refine N_ap_st (M2 := (ms (ms M 28 (upd (M 28) ((M 26 0) &&& (63 : Int32)).toNatClampNeg a1)) 29 (upd (M 29) ((M 26 0) &&& (63 : Int32)).toNatClampNeg a2))) C h h3 rfl dX3_putOnAir_21 (fun H locs h => ?_)
  refine lv_aload_n hx hb dX3_putOnAir_22 rfl (lv_at hl 1 rfl) ?_
  refine lv_dup hx hb dX3_putOnAir_23 rfl ?_
  refine N_X3_frames_get (v := (M 26 0)) C h in_fX3_21 rfl dX3_putOnAir_24 ?_
  refine lv_iconst (v := (1 : Int32)) hx hb dX3_putOnAir_27 (by decide) ?_
  refine lv_iadd hx hb dX3_putOnAir_28 ?_
  refine N_X3_frames_put (v := ((M 26 0) + (1 : Int32))) (M2 := (ms (ms (ms M 28 (upd (M 28) ((M 26 0) &&& (63 : Int32)).toNatClampNeg a1)) 29 (upd (M 29) ((M 26 0) &&& (63 : Int32)).toNatClampNeg a2)) 26 (fun _ => ((M 26 0) + (1 : Int32))))) C h in_fX3_21 rfl dX3_putOnAir_29 (fun H locs h => ?_)
  refine lv_iload_n hx hb dX3_putOnAir_32 rfl (lv_at hl 2 rfl) ?_
  refine lv_aload_n hx hb dX3_putOnAir_33 rfl (lv_at hl 1 rfl) ?_
  refine N_X3_numbersHeard_get (v := (M 27 0)) C h in_fX3_25 rfl dX3_putOnAir_34 ?_
  refine lv_icmp_ne (tgt := 60) hx hb dX3_putOnAir_37 (by decide) (fun c1 => ?_) (fun c1 => ?_)
  · have hres := it_n hres c1
    exact wh_vret C h hres dX3_putOnAir_60
  · have hres := it_p hres c1
    have hok := io_p hok c1
    refine lv_aload_n hx hb dX3_putOnAir_40 rfl (lv_at hl 1 rfl) ?_
    refine N_X3_payloadsOfFarSide_get C h in_fX3_18 dX3_putOnAir_41 ?_
    refine lv_iload_n hx hb dX3_putOnAir_44 rfl (lv_at hl 2 rfl) ?_
    refine lv_bipush (v := (63 : Int32)) hx hb dX3_putOnAir_45 (by decide) ?_
    refine lv_iand hx hb dX3_putOnAir_47 ?_
    refine lv_iload_n hx hb dX3_putOnAir_48 rfl (lv_at hl 3 rfl) ?_
    have h2 := hok
    refine N_af_st (M2 := (ms (ms (ms (ms M 28 (upd (M 28) ((M 26 0) &&& (63 : Int32)).toNatClampNeg a1)) 29 (upd (M 29) ((M 26 0) &&& (63 : Int32)).toNatClampNeg a2)) 26 (fun _ => ((M 26 0) + (1 : Int32)))) 30 (upd (M 30) (a1 &&& (63 : Int32)).toNatClampNeg a2))) C h h2 rfl dX3_putOnAir_49 (fun H locs h => ?_)
    refine lv_aload_n hx hb dX3_putOnAir_50 rfl (lv_at hl 1 rfl) ?_
    refine lv_dup hx hb dX3_putOnAir_51 rfl ?_
    refine N_X3_numbersHeard_get (v := (M 27 0)) C h in_fX3_25 rfl dX3_putOnAir_52 ?_
    refine lv_iconst (v := (1 : Int32)) hx hb dX3_putOnAir_55 (by decide) ?_
    refine lv_iadd hx hb dX3_putOnAir_56 ?_
    refine N_X3_numbersHeard_put (v := ((M 27 0) + (1 : Int32))) (M2 := (ms (ms (ms (ms (ms M 28 (upd (M 28) ((M 26 0) &&& (63 : Int32)).toNatClampNeg a1)) 29 (upd (M 29) ((M 26 0) &&& (63 : Int32)).toNatClampNeg a2)) 26 (fun _ => ((M 26 0) + (1 : Int32)))) 30 (upd (M 30) (a1 &&& (63 : Int32)).toNatClampNeg a2)) 27 (fun _ => ((M 27 0) + (1 : Int32))))) C h in_fX3_25 rfl dX3_putOnAir_57 (fun H locs h => ?_)
    exact wh_vret C h hres dX3_putOnAir_60
theorem yw_X3_putOnAir {cI : ClassId} {ad : Nat → Nat} : YV (wN cI ad) (ad 14) yX3_putOnAir cX3_putOnAir 4 none rmX3_putOnAir 2 := ⟨fun M => ⟨14, 3, _, _, rfl, rfl, rfl⟩, in_cX3_putOnAir, in_nX3_putOnAir, in_vX3_putOnAir, in_iX3, by decide +kernel, rfl, rfl⟩
theorem c_X3_putOnAir {l : Launch} {D : va_G} {cI : ClassId} {ad : Nat → Nat} (M : Mem) (a1 a2 : Int32) (hok : ok_X3_putOnAir M a1 a2) : KV l D [(cI, .int)] (wN cI ad) yX3_putOnAir cX3_putOnAir 4 rmX3_putOnAir [.ref (ad 14), .int a1, .int a2] M (f_X3_putOnAir M a1 a2) := met_v (by decide) (Nat.le_of_ble_eq_true rfl) (fun p e s m below meth c A C h ls hl => k_X3_putOnAir_0 ⟨Nat.le_refl _, Nat.le_refl _⟩ (Nat.le_refl _) (Nat.le_refl _) C M a1 a2 _ _ ls hok rfl h hl)
abbrev rmX3_latest : Room := { frames := 0, cells := 0, slots := 0, locals := 0 }
def f_X3_latest (M : Mem) (a1 a2 : Int32) : Int32 := (if a1 < 0 then (-1 : Int32) else (if (64 : Int32) ≤ a1 then (-1 : Int32) else (if (M 26 0) ≤ a1 then (-1 : Int32) else (if a2 < 0 then (-1 : Int32) else (if a2 ≤ (1 : Int32) then (if a2 = 0 then ((M 28) ((((M 26 0) - (1 : Int32)) - a1) &&& (63 : Int32)).toNatClampNeg) else ((M 29) ((((M 26 0) - (1 : Int32)) - a1) &&& (63 : Int32)).toNatClampNeg)) else (-1 : Int32))))))
def ok_X3_latest (M : Mem) (a1 a2 : Int32) : Prop := (if a1 < 0 then True else (if (64 : Int32) ≤ a1 then True else (if (M 26 0) ≤ a1 then True else (if a2 < 0 then True else (if a2 ≤ (1 : Int32) then (if a2 = 0 then vp_in ((((M 26 0) - (1 : Int32)) - a1) &&& (63 : Int32)) 64 else vp_in ((((M 26 0) - (1 : Int32)) - a1) &&& (63 : Int32)) 64) else True)))))
set_option maxRecDepth 100000 in
set_option maxHeartbeats 4000000 in
theorem k_X3_latest_0 {p : Program} {l : Launch} {e : Env} {s : State} {m : MethodId} {args : Array Value} {below : List Frame} {meth : Method} {c : Code} {D : va_G} {cI : ClassId} {ad : Nat → Nat} {A : Nat → Prop} {cells slots : Nat} {R : Room} (hcs : cells ≤ R.cells ∧ slots ≤ R.slots) (hrf : rmX3_latest.frames ≤ R.frames) (hrl : rmX3_latest.locals ≤ R.locals) {r0 : Int32} (C : CX p s m args meth c RX3 cX3_latest 4 (some .int)) : ∀ (M : Mem) (a1 a2 : Int32) (H : Heap) (locs : List Loc) (ls : Array Slot), ok_X3_latest M a1 a2 → f_X3_latest M a1 a2 = r0 → WH D [(cI, .int)] (wN cI ad) A s H locs M → lv_has ls 4 [(0, .ref (ad 14)), (1, .int a1), (2, .int a2)] → W p l e R s m args below meth c H locs cells slots (MQ below (PI D [(cI, .int)] (wN cI ad) A (M, r0)) args s cells slots A) (F0 m 0 ls []) := by
  have hx := C.1
  have hb := C.2.1
  have hown := C.2.2.2.2.1
  have hts := C.2.2.2.2.2.1
  intro M a1 a2 H locs ls hok hres h hl
  rw [ok_X3_latest] at hok
  rw [f_X3_latest] at hres
  refine lv_iload_n hx hb dX3_latest_0 rfl (lv_at hl 1 rfl) ?_
  refine lv_if_lt (tgt := 27) hx hb dX3_latest_1 (by decide) (fun c1 => ?_) (fun c1 => ?_)
  · have hres := it_p hres c1
    refine lv_iconst (v := (-1 : Int32)) hx hb dX3_latest_27 (by decide) ?_
    exact wh_iret C h (cz hres) dX3_latest_28
  · have hres := it_n hres c1
    have hok := io_n hok c1
    refine lv_iload_n hx hb dX3_latest_4 rfl (lv_at hl 1 rfl) ?_
    refine lv_bipush (v := (64 : Int32)) hx hb dX3_latest_5 (by decide) ?_
    refine lv_icmp_ge (tgt := 27) hx hb dX3_latest_7 (by decide) (fun c2 => ?_) (fun c2 => ?_)
    · have hres := it_p hres c2
      refine lv_iconst (v := (-1 : Int32)) hx hb dX3_latest_27 (by decide) ?_
      exact wh_iret C h (cz hres) dX3_latest_28
    · have hres := it_n hres c2
      have hok := io_n hok c2
      refine lv_iload_n hx hb dX3_latest_10 rfl (lv_at hl 1 rfl) ?_
      refine lv_aload_n hx hb dX3_latest_11 rfl (lv_at hl 0 rfl) ?_
      refine N_X3_frames_get (v := (M 26 0)) C h in_fX3_21 rfl dX3_latest_12 ?_
      refine lv_icmp_ge (tgt := 27) hx hb dX3_latest_15 (by decide) (fun c3 => ?_) (fun c3 => ?_)
      · have hres := it_p hres c3
        refine lv_iconst (v := (-1 : Int32)) hx hb dX3_latest_27 (by decide) ?_
        exact wh_iret C h (cz hres) dX3_latest_28
      · have hres := it_n hres c3
        have hok := io_n hok c3
        refine lv_iload_n hx hb dX3_latest_18 rfl (lv_at hl 2 rfl) ?_
        refine lv_if_lt (tgt := 27) hx hb dX3_latest_19 (by decide) (fun c4 => ?_) (fun c4 => ?_)
        · have hres := it_p hres c4
          refine lv_iconst (v := (-1 : Int32)) hx hb dX3_latest_27 (by decide) ?_
          exact wh_iret C h (cz hres) dX3_latest_28
        · have hres := it_n hres c4
          have hok := io_n hok c4
          refine lv_iload_n hx hb dX3_latest_22 rfl (lv_at hl 2 rfl) ?_
          refine lv_iconst (v := (1 : Int32)) hx hb dX3_latest_23 (by decide) ?_
          refine lv_icmp_le (tgt := 29) hx hb dX3_latest_24 (by decide) (fun c5 => ?_) (fun c5 => ?_)
          · have hres := it_p hres c5
            have hok := io_p hok c5
            refine lv_aload_n hx hb dX3_latest_29 rfl (lv_at hl 0 rfl) ?_
            refine N_X3_frames_get (v := (M 26 0)) C h in_fX3_21 rfl dX3_latest_30 ?_
            refine lv_iconst (v := (1 : Int32)) hx hb dX3_latest_33 (by decide) ?_
            refine lv_isub hx hb dX3_latest_34 ?_
            refine lv_iload_n hx hb dX3_latest_35 rfl (lv_at hl 1 rfl) ?_
            refine lv_isub hx hb dX3_latest_36 ?_
            refine lv_bipush (v := (63 : Int32)) hx hb dX3_latest_37 (by decide) ?_
            refine lv_iand hx hb dX3_latest_39 ?_
            refine lv_istore_n (lv' := [(3, .int ((((M 26 0) - (1 : Int32)) - a1) &&& (63 : Int32))), (0, .ref (ad 14)), (1, .int a1), (2, .int a2)]) hx hb dX3_latest_40 rfl hl (by decide) rfl (fun ls hl => ?_)
            refine lv_iload_n hx hb dX3_latest_41 rfl (lv_at hl 3 rfl) ?_
            refine lv_if_ne (tgt := 54) hx hb dX3_latest_42 (by decide) (fun c6 => ?_) (fun c6 => ?_)
            · have hres := it_n hres c6
              have hok := io_n hok c6
              refine lv_aload_n hx hb dX3_latest_54 rfl (lv_at hl 1 rfl) ?_
              refine N_X3_payloads_get C h in_fX3_15 dX3_latest_55 ?_
              refine lv_iload_n hx hb dX3_latest_58 rfl (lv_at hl 0 rfl) ?_
              have h7 := hok
              refine N_ap_ld (v := ((M 29) ((((M 26 0) - (1 : Int32)) - a1) &&& (63 : Int32)).toNatClampNeg)) C h h7 rfl dX3_latest_59 ?_
              exact wh_iret C h (cz hres) dX3_latest_60
            · have hres := it_p hres c6
              have hok := io_p hok c6
              refine lv_aload_n hx hb dX3_latest_45 rfl (lv_at hl 1 rfl) ?_
              refine N_X3_numbers_get C h in_fX3_11 dX3_latest_46 ?_
              refine lv_iload_n hx hb dX3_latest_49 rfl (lv_at hl 0 rfl) ?_
              have h8 := hok
              refine N_an_ld (v := ((M 28) ((((M 26 0) - (1 : Int32)) - a1) &&& (63 : Int32)).toNatClampNeg)) C h h8 rfl dX3_latest_50 ?_
              refine lv_goto (tgt := 60) hx hb dX3_latest_51 (by decide) ?_
              exact wh_iret C h (cz hres) dX3_latest_60
          · have hres := it_n hres c5
            refine lv_iconst (v := (-1 : Int32)) hx hb dX3_latest_27 (by decide) ?_
            exact wh_iret C h (cz hres) dX3_latest_28
theorem yw_X3_latest {cI : ClassId} {ad : Nat → Nat} : YV (wN cI ad) (ad 14) yX3_latest cX3_latest 4 (some .int) rmX3_latest 2 := ⟨fun M => ⟨14, 3, _, _, rfl, rfl, rfl⟩, in_cX3_latest, in_nX3_latest, in_vX3_latest, in_iX3, by decide +kernel, rfl, rfl⟩
theorem c_X3_latest {l : Launch} {D : va_G} {cI : ClassId} {ad : Nat → Nat} (M : Mem) (a1 a2 : Int32) (hok : ok_X3_latest M a1 a2) : KI l D [(cI, .int)] (wN cI ad) yX3_latest cX3_latest 4 rmX3_latest [.ref (ad 14), .int a1, .int a2] M (M, f_X3_latest M a1 a2) := met_i (by decide) (Nat.le_of_ble_eq_true rfl) (fun p e s m below meth c A C h ls hl => k_X3_latest_0 ⟨Nat.le_refl _, Nat.le_refl _⟩ (Nat.le_refl _) (Nat.le_refl _) C M a1 a2 _ _ ls hok rfl h hl)
abbrev rmX3_farSideHas : Room := { frames := 0, cells := 0, slots := 0, locals := 0 }
def f_X3_farSideHas (M : Mem) (a1 : Int32) : Int32 := (if a1 < 0 then (0 : Int32) else (if (M 27 0) ≤ a1 then (0 : Int32) else (if a1 < ((M 27 0) - (64 : Int32)) then (0 : Int32) else (1 : Int32))))
set_option maxRecDepth 100000 in
set_option maxHeartbeats 4000000 in
theorem k_X3_farSideHas_0 {p : Program} {l : Launch} {e : Env} {s : State} {m : MethodId} {args : Array Value} {below : List Frame} {meth : Method} {c : Code} {D : va_G} {cI : ClassId} {ad : Nat → Nat} {A : Nat → Prop} {cells slots : Nat} {R : Room} (hcs : cells ≤ R.cells ∧ slots ≤ R.slots) (hrf : rmX3_farSideHas.frames ≤ R.frames) (hrl : rmX3_farSideHas.locals ≤ R.locals) {r0 : Int32} (C : CX p s m args meth c RX3 cX3_farSideHas 2 (some .boolean)) : ∀ (M : Mem) (a1 : Int32) (H : Heap) (locs : List Loc) (ls : Array Slot), f_X3_farSideHas M a1 = r0 → WH D [(cI, .int)] (wN cI ad) A s H locs M → lv_has ls 2 [(0, .ref (ad 14)), (1, .int a1)] → W p l e R s m args below meth c H locs cells slots (MQ below (PZ D [(cI, .int)] (wN cI ad) A (M, r0)) args s cells slots A) (F0 m 0 ls []) := by
  have hx := C.1
  have hb := C.2.1
  have hown := C.2.2.2.2.1
  have hts := C.2.2.2.2.2.1
  intro M a1 H locs ls hres h hl
  rw [f_X3_farSideHas] at hres
  refine lv_iload_n hx hb dX3_farSideHas_0 rfl (lv_at hl 1 rfl) ?_
  refine lv_if_lt (tgt := 27) hx hb dX3_farSideHas_1 (by decide) (fun c1 => ?_) (fun c1 => ?_)
  · have hres := it_p hres c1
    refine lv_iconst (v := (0 : Int32)) hx hb dX3_farSideHas_27 (by decide) ?_
    exact wh_zret C h nb_0 (cz hres) dX3_farSideHas_28
  · have hres := it_n hres c1
    refine lv_iload_n hx hb dX3_farSideHas_4 rfl (lv_at hl 1 rfl) ?_
    refine lv_aload_n hx hb dX3_farSideHas_5 rfl (lv_at hl 0 rfl) ?_
    refine N_X3_numbersHeard_get (v := (M 27 0)) C h in_fX3_25 rfl dX3_farSideHas_6 ?_
    refine lv_icmp_ge (tgt := 27) hx hb dX3_farSideHas_9 (by decide) (fun c2 => ?_) (fun c2 => ?_)
    · have hres := it_p hres c2
      refine lv_iconst (v := (0 : Int32)) hx hb dX3_farSideHas_27 (by decide) ?_
      exact wh_zret C h nb_0 (cz hres) dX3_farSideHas_28
    · have hres := it_n hres c2
      refine lv_iload_n hx hb dX3_farSideHas_12 rfl (lv_at hl 1 rfl) ?_
      refine lv_aload_n hx hb dX3_farSideHas_13 rfl (lv_at hl 0 rfl) ?_
      refine N_X3_numbersHeard_get (v := (M 27 0)) C h in_fX3_25 rfl dX3_farSideHas_14 ?_
      refine lv_bipush (v := (64 : Int32)) hx hb dX3_farSideHas_17 (by decide) ?_
      refine lv_isub hx hb dX3_farSideHas_19 ?_
      refine lv_icmp_lt (tgt := 27) hx hb dX3_farSideHas_20 (by decide) (fun c3 => ?_) (fun c3 => ?_)
      · have hres := it_p hres c3
        refine lv_iconst (v := (0 : Int32)) hx hb dX3_farSideHas_27 (by decide) ?_
        exact wh_zret C h nb_0 (cz hres) dX3_farSideHas_28
      · have hres := it_n hres c3
        refine lv_iconst (v := (1 : Int32)) hx hb dX3_farSideHas_23 (by decide) ?_
        refine lv_goto (tgt := 28) hx hb dX3_farSideHas_24 (by decide) ?_
        exact wh_zret C h nb_1 (cz hres) dX3_farSideHas_28
theorem yw_X3_farSideHas {cI : ClassId} {ad : Nat → Nat} : YV (wN cI ad) (ad 14) yX3_farSideHas cX3_farSideHas 2 (some .boolean) rmX3_farSideHas 1 := ⟨fun M => ⟨14, 3, _, _, rfl, rfl, rfl⟩, in_cX3_farSideHas, in_nX3_farSideHas, in_vX3_farSideHas, in_iX3, by decide +kernel, rfl, rfl⟩
theorem c_X3_farSideHas {l : Launch} {D : va_G} {cI : ClassId} {ad : Nat → Nat} (M : Mem) (a1 : Int32) : KZ l D [(cI, .int)] (wN cI ad) yX3_farSideHas cX3_farSideHas 2 rmX3_farSideHas [.ref (ad 14), .int a1] M (M, f_X3_farSideHas M a1) := met_z (by decide) (Nat.le_of_ble_eq_true rfl) (fun p e s m below meth c A C h ls hl => k_X3_farSideHas_0 ⟨Nat.le_refl _, Nat.le_refl _⟩ (Nat.le_refl _) (Nat.le_refl _) C M a1 _ _ ls rfl h hl)
abbrev rmX3_payloadOfFarSide : Room := { frames := 0, cells := 0, slots := 0, locals := 0 }
def f_X3_payloadOfFarSide (M : Mem) (a1 : Int32) : Int32 := ((M 30) (a1 &&& (63 : Int32)).toNatClampNeg)
def ok_X3_payloadOfFarSide (M : Mem) (a1 : Int32) : Prop := vp_in (a1 &&& (63 : Int32)) 64
set_option maxRecDepth 100000 in
set_option maxHeartbeats 4000000 in
theorem k_X3_payloadOfFarSide_0 {p : Program} {l : Launch} {e : Env} {s : State} {m : MethodId} {args : Array Value} {below : List Frame} {meth : Method} {c : Code} {D : va_G} {cI : ClassId} {ad : Nat → Nat} {A : Nat → Prop} {cells slots : Nat} {R : Room} (hcs : cells ≤ R.cells ∧ slots ≤ R.slots) (hrf : rmX3_payloadOfFarSide.frames ≤ R.frames) (hrl : rmX3_payloadOfFarSide.locals ≤ R.locals) {r0 : Int32} (C : CX p s m args meth c RX3 cX3_payloadOfFarSide 2 (some .int)) : ∀ (M : Mem) (a1 : Int32) (H : Heap) (locs : List Loc) (ls : Array Slot), ok_X3_payloadOfFarSide M a1 → f_X3_payloadOfFarSide M a1 = r0 → WH D [(cI, .int)] (wN cI ad) A s H locs M → lv_has ls 2 [(0, .ref (ad 14)), (1, .int a1)] → W p l e R s m args below meth c H locs cells slots (MQ below (PI D [(cI, .int)] (wN cI ad) A (M, r0)) args s cells slots A) (F0 m 0 ls []) := by
  have hx := C.1
  have hb := C.2.1
  have hown := C.2.2.2.2.1
  have hts := C.2.2.2.2.2.1
  intro M a1 H locs ls hok hres h hl
  rw [ok_X3_payloadOfFarSide] at hok
  rw [f_X3_payloadOfFarSide] at hres
  refine lv_aload_n hx hb dX3_payloadOfFarSide_0 rfl (lv_at hl 0 rfl) ?_
  refine N_X3_payloadsOfFarSide_get C h in_fX3_18 dX3_payloadOfFarSide_1 ?_
  refine lv_iload_n hx hb dX3_payloadOfFarSide_4 rfl (lv_at hl 1 rfl) ?_
  refine lv_bipush (v := (63 : Int32)) hx hb dX3_payloadOfFarSide_5 (by decide) ?_
  refine lv_iand hx hb dX3_payloadOfFarSide_7 ?_
  have h1 := hok
  refine N_af_ld (v := ((M 30) (a1 &&& (63 : Int32)).toNatClampNeg)) C h h1 rfl dX3_payloadOfFarSide_8 ?_
  exact wh_iret C h (cz hres) dX3_payloadOfFarSide_9
theorem yw_X3_payloadOfFarSide {cI : ClassId} {ad : Nat → Nat} : YV (wN cI ad) (ad 14) yX3_payloadOfFarSide cX3_payloadOfFarSide 2 (some .int) rmX3_payloadOfFarSide 1 := ⟨fun M => ⟨14, 3, _, _, rfl, rfl, rfl⟩, in_cX3_payloadOfFarSide, in_nX3_payloadOfFarSide, in_vX3_payloadOfFarSide, in_iX3, by decide +kernel, rfl, rfl⟩
theorem c_X3_payloadOfFarSide {l : Launch} {D : va_G} {cI : ClassId} {ad : Nat → Nat} (M : Mem) (a1 : Int32) (hok : ok_X3_payloadOfFarSide M a1) : KI l D [(cI, .int)] (wN cI ad) yX3_payloadOfFarSide cX3_payloadOfFarSide 2 rmX3_payloadOfFarSide [.ref (ad 14), .int a1] M (M, f_X3_payloadOfFarSide M a1) := met_i (by decide) (Nat.le_of_ble_eq_true rfl) (fun p e s m below meth c A C h ls hl => k_X3_payloadOfFarSide_0 ⟨Nat.le_refl _, Nat.le_refl _⟩ (Nat.le_refl _) (Nat.le_refl _) C M a1 _ _ ls hok rfl h hl)
