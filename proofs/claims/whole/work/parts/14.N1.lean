abbrev rmX1_op : Room := { frames := 0, cells := 0, slots := 0, locals := 0 }
def f_X1_op (M : Mem) (a1 : Int32) : Int32 := (ush a1 (24 : Int32))
set_option maxRecDepth 100000 in
set_option maxHeartbeats 4000000 in
theorem k_X1_op_0 {p : Program} {l : Launch} {e : Env} {s : State} {m : MethodId} {args : Array Value} {below : List Frame} {meth : Method} {c : Code} {D : va_G} {cI : ClassId} {ad : Nat → Nat} {A : Nat → Prop} {cells slots : Nat} {R : Room} (hcs : cells ≤ R.cells ∧ slots ≤ R.slots) (hrf : rmX1_op.frames ≤ R.frames) (hrl : rmX1_op.locals ≤ R.locals) {r0 : Int32} (C : CX p s m args meth c RX1 cX1_op 1 (some .int)) : ∀ (M : Mem) (a1 : Int32) (H : Heap) (locs : List Loc) (ls : Array Slot), f_X1_op M a1 = r0 → WH D [(cI, .int)] (wN cI ad) A s H locs M → lv_has ls 1 [(0, .int a1)] → W p l e R s m args below meth c H locs cells slots (MQ below (PI D [(cI, .int)] (wN cI ad) A (M, r0)) args s cells slots A) (F0 m 0 ls []) := by
  have hx := C.1
  have hb := C.2.1
  have hown := C.2.2.2.2.1
  have hts := C.2.2.2.2.2.1
  intro M a1 H locs ls hres h hl
  rw [f_X1_op] at hres
  refine lv_iload_n hx hb dX1_op_0 rfl (lv_at hl 0 rfl) ?_
  refine lv_bipush (v := (24 : Int32)) hx hb dX1_op_1 (by decide) ?_
  refine lv_iushr (v := (ush a1 (24 : Int32))) hx hb dX1_op_3 rfl ?_
  exact wh_iret C h (cz hres) dX1_op_4
theorem yw_X1_op : YS yX1_op cX1_op 1 (some .int) rmX1_op 1 := ⟨in_cX1_op, in_sX1_op, in_iX1, by decide +kernel, rfl, rfl⟩
theorem c_X1_op {l : Launch} {D : va_G} {cI : ClassId} {ad : Nat → Nat} (M : Mem) (a1 : Int32) : KI l D [(cI, .int)] (wN cI ad) yX1_op cX1_op 1 rmX1_op [.int a1] M (M, f_X1_op M a1) := met_i (by decide) (Nat.le_of_ble_eq_true rfl) (fun p e s m below meth c A C h ls hl => k_X1_op_0 ⟨Nat.le_refl _, Nat.le_refl _⟩ (Nat.le_refl _) (Nat.le_refl _) C M a1 _ _ ls rfl h hl)
abbrev rmX1_a : Room := { frames := 0, cells := 0, slots := 0, locals := 0 }
def f_X1_a (M : Mem) (a1 : Int32) : Int32 := ((ush a1 (16 : Int32)) &&& (255 : Int32))
set_option maxRecDepth 100000 in
set_option maxHeartbeats 4000000 in
theorem k_X1_a_0 {p : Program} {l : Launch} {e : Env} {s : State} {m : MethodId} {args : Array Value} {below : List Frame} {meth : Method} {c : Code} {D : va_G} {cI : ClassId} {ad : Nat → Nat} {A : Nat → Prop} {cells slots : Nat} {R : Room} (hcs : cells ≤ R.cells ∧ slots ≤ R.slots) (hrf : rmX1_a.frames ≤ R.frames) (hrl : rmX1_a.locals ≤ R.locals) {r0 : Int32} (C : CX p s m args meth c RX1 cX1_a 1 (some .int)) : ∀ (M : Mem) (a1 : Int32) (H : Heap) (locs : List Loc) (ls : Array Slot), f_X1_a M a1 = r0 → WH D [(cI, .int)] (wN cI ad) A s H locs M → lv_has ls 1 [(0, .int a1)] → W p l e R s m args below meth c H locs cells slots (MQ below (PI D [(cI, .int)] (wN cI ad) A (M, r0)) args s cells slots A) (F0 m 0 ls []) := by
  have hx := C.1
  have hb := C.2.1
  have hown := C.2.2.2.2.1
  have hts := C.2.2.2.2.2.1
  intro M a1 H locs ls hres h hl
  rw [f_X1_a] at hres
  refine lv_iload_n hx hb dX1_a_0 rfl (lv_at hl 0 rfl) ?_
  refine lv_bipush (v := (16 : Int32)) hx hb dX1_a_1 (by decide) ?_
  refine lv_iushr (v := (ush a1 (16 : Int32))) hx hb dX1_a_3 rfl ?_
  refine lv_sipush (v := (255 : Int32)) hx hb dX1_a_4 (by decide) ?_
  refine lv_iand hx hb dX1_a_7 ?_
  exact wh_iret C h (cz hres) dX1_a_8
theorem yw_X1_a : YS yX1_a cX1_a 1 (some .int) rmX1_a 1 := ⟨in_cX1_a, in_sX1_a, in_iX1, by decide +kernel, rfl, rfl⟩
theorem c_X1_a {l : Launch} {D : va_G} {cI : ClassId} {ad : Nat → Nat} (M : Mem) (a1 : Int32) : KI l D [(cI, .int)] (wN cI ad) yX1_a cX1_a 1 rmX1_a [.int a1] M (M, f_X1_a M a1) := met_i (by decide) (Nat.le_of_ble_eq_true rfl) (fun p e s m below meth c A C h ls hl => k_X1_a_0 ⟨Nat.le_refl _, Nat.le_refl _⟩ (Nat.le_refl _) (Nat.le_refl _) C M a1 _ _ ls rfl h hl)
abbrev rmX1_b : Room := { frames := 0, cells := 0, slots := 0, locals := 0 }
def f_X1_b (M : Mem) (a1 : Int32) : Int32 := ((ush a1 (8 : Int32)) &&& (255 : Int32))
set_option maxRecDepth 100000 in
set_option maxHeartbeats 4000000 in
theorem k_X1_b_0 {p : Program} {l : Launch} {e : Env} {s : State} {m : MethodId} {args : Array Value} {below : List Frame} {meth : Method} {c : Code} {D : va_G} {cI : ClassId} {ad : Nat → Nat} {A : Nat → Prop} {cells slots : Nat} {R : Room} (hcs : cells ≤ R.cells ∧ slots ≤ R.slots) (hrf : rmX1_b.frames ≤ R.frames) (hrl : rmX1_b.locals ≤ R.locals) {r0 : Int32} (C : CX p s m args meth c RX1 cX1_b 1 (some .int)) : ∀ (M : Mem) (a1 : Int32) (H : Heap) (locs : List Loc) (ls : Array Slot), f_X1_b M a1 = r0 → WH D [(cI, .int)] (wN cI ad) A s H locs M → lv_has ls 1 [(0, .int a1)] → W p l e R s m args below meth c H locs cells slots (MQ below (PI D [(cI, .int)] (wN cI ad) A (M, r0)) args s cells slots A) (F0 m 0 ls []) := by
  have hx := C.1
  have hb := C.2.1
  have hown := C.2.2.2.2.1
  have hts := C.2.2.2.2.2.1
  intro M a1 H locs ls hres h hl
  rw [f_X1_b] at hres
  refine lv_iload_n hx hb dX1_b_0 rfl (lv_at hl 0 rfl) ?_
  refine lv_bipush (v := (8 : Int32)) hx hb dX1_b_1 (by decide) ?_
  refine lv_iushr (v := (ush a1 (8 : Int32))) hx hb dX1_b_3 rfl ?_
  refine lv_sipush (v := (255 : Int32)) hx hb dX1_b_4 (by decide) ?_
  refine lv_iand hx hb dX1_b_7 ?_
  exact wh_iret C h (cz hres) dX1_b_8
theorem yw_X1_b : YS yX1_b cX1_b 1 (some .int) rmX1_b 1 := ⟨in_cX1_b, in_sX1_b, in_iX1, by decide +kernel, rfl, rfl⟩
theorem c_X1_b {l : Launch} {D : va_G} {cI : ClassId} {ad : Nat → Nat} (M : Mem) (a1 : Int32) : KI l D [(cI, .int)] (wN cI ad) yX1_b cX1_b 1 rmX1_b [.int a1] M (M, f_X1_b M a1) := met_i (by decide) (Nat.le_of_ble_eq_true rfl) (fun p e s m below meth c A C h ls hl => k_X1_b_0 ⟨Nat.le_refl _, Nat.le_refl _⟩ (Nat.le_refl _) (Nat.le_refl _) C M a1 _ _ ls rfl h hl)
abbrev rmX1_c : Room := { frames := 0, cells := 0, slots := 0, locals := 0 }
def f_X1_c (M : Mem) (a1 : Int32) : Int32 := (a1 &&& (255 : Int32))
set_option maxRecDepth 100000 in
set_option maxHeartbeats 4000000 in
theorem k_X1_c_0 {p : Program} {l : Launch} {e : Env} {s : State} {m : MethodId} {args : Array Value} {below : List Frame} {meth : Method} {c : Code} {D : va_G} {cI : ClassId} {ad : Nat → Nat} {A : Nat → Prop} {cells slots : Nat} {R : Room} (hcs : cells ≤ R.cells ∧ slots ≤ R.slots) (hrf : rmX1_c.frames ≤ R.frames) (hrl : rmX1_c.locals ≤ R.locals) {r0 : Int32} (C : CX p s m args meth c RX1 cX1_c 1 (some .int)) : ∀ (M : Mem) (a1 : Int32) (H : Heap) (locs : List Loc) (ls : Array Slot), f_X1_c M a1 = r0 → WH D [(cI, .int)] (wN cI ad) A s H locs M → lv_has ls 1 [(0, .int a1)] → W p l e R s m args below meth c H locs cells slots (MQ below (PI D [(cI, .int)] (wN cI ad) A (M, r0)) args s cells slots A) (F0 m 0 ls []) := by
  have hx := C.1
  have hb := C.2.1
  have hown := C.2.2.2.2.1
  have hts := C.2.2.2.2.2.1
  intro M a1 H locs ls hres h hl
  rw [f_X1_c] at hres
  refine lv_iload_n hx hb dX1_c_0 rfl (lv_at hl 0 rfl) ?_
  refine lv_sipush (v := (255 : Int32)) hx hb dX1_c_1 (by decide) ?_
  refine lv_iand hx hb dX1_c_4 ?_
  exact wh_iret C h (cz hres) dX1_c_5
theorem yw_X1_c : YS yX1_c cX1_c 1 (some .int) rmX1_c 1 := ⟨in_cX1_c, in_sX1_c, in_iX1, by decide +kernel, rfl, rfl⟩
theorem c_X1_c {l : Launch} {D : va_G} {cI : ClassId} {ad : Nat → Nat} (M : Mem) (a1 : Int32) : KI l D [(cI, .int)] (wN cI ad) yX1_c cX1_c 1 rmX1_c [.int a1] M (M, f_X1_c M a1) := met_i (by decide) (Nat.le_of_ble_eq_true rfl) (fun p e s m below meth c A C h ls hl => k_X1_c_0 ⟨Nat.le_refl _, Nat.le_refl _⟩ (Nat.le_refl _) (Nat.le_refl _) C M a1 _ _ ls rfl h hl)
abbrev rmX1_costOf : Room := { frames := 1, cells := 0, slots := 0, locals := 20 }
def f_X1_costOf (M : Mem) (a1 : Int32) : Int32 := (if (f_X1_op M a1) ≤ (17 : Int32) then (tab_COSTS (f_X1_op M a1).toNatClampNeg) else (0 : Int32))
def ok_X1_costOf (M : Mem) (a1 : Int32) : Prop := (if (f_X1_op M a1) ≤ (17 : Int32) then vp_in (f_X1_op M a1) 18 else True)
set_option maxRecDepth 100000 in
set_option maxHeartbeats 4000000 in
theorem k_X1_costOf_0 {p : Program} {l : Launch} {e : Env} {s : State} {m : MethodId} {args : Array Value} {below : List Frame} {meth : Method} {c : Code} {D : va_G} {cI : ClassId} {ad : Nat → Nat} {A : Nat → Prop} {cells slots : Nat} {R : Room} (hcs : cells ≤ R.cells ∧ slots ≤ R.slots) (hrf : rmX1_costOf.frames ≤ R.frames) (hrl : rmX1_costOf.locals ≤ R.locals) {r0 : Int32} (C : CX p s m args meth c RX1 cX1_costOf 2 (some .int)) : ∀ (M : Mem) (a1 : Int32) (H : Heap) (locs : List Loc) (ls : Array Slot), ok_X1_costOf M a1 → f_X1_costOf M a1 = r0 → WH D [(cI, .int)] (wN cI ad) A s H locs M → lv_has ls 2 [(0, .int a1)] → W p l e R s m args below meth c H locs cells slots (MQ below (PI D [(cI, .int)] (wN cI ad) A (M, r0)) args s cells slots A) (F0 m 0 ls []) := by
  have hx := C.1
  have hb := C.2.1
  have hown := C.2.2.2.2.1
  have hts := C.2.2.2.2.2.1
  intro M a1 H locs ls hok hres h hl
  rw [ok_X1_costOf] at hok
  rw [f_X1_costOf] at hres
  refine lv_iload_n hx hb dX1_costOf_0 rfl (lv_at hl 0 rfl) ?_
  refine wh_csip (As := [.int a1]) (rest := []) hcs C h (c_X1_op M a1) yw_X1_op in_mX1_18 hl.1 rfl rfl (Nat.le_of_ble_eq_true rfl) ⟨Nat.le_trans (Nat.le_of_ble_eq_true rfl) hrf, Nat.le_trans (Nat.le_of_ble_eq_true rfl) hrl⟩ dX1_costOf_1 (fun H locs h => ?_)
  refine lv_istore_n (lv' := [(1, .int (f_X1_op M a1)), (0, .int a1)]) hx hb dX1_costOf_4 rfl hl (by decide) rfl (fun ls hl => ?_)
  refine lv_iload_n hx hb dX1_costOf_5 rfl (lv_at hl 0 rfl) ?_
  refine lv_bipush (v := (17 : Int32)) hx hb dX1_costOf_6 (by decide) ?_
  refine lv_icmp_le (tgt := 15) hx hb dX1_costOf_8 (by decide) (fun c2 => ?_) (fun c2 => ?_)
  · have hres := it_p hres c2
    have hok := io_p hok c2
    refine sf_COSTS C h in_fX1_22 dX1_costOf_15 (fun s1 hs1 => ?_)
    refine lv_iload_n hx hb dX1_costOf_18 rfl (lv_at hl 0 rfl) ?_
    have h3 := hok
    refine sf_ld C h hs1 h3 (v := (tab_COSTS (f_X1_op M a1).toNatClampNeg)) rfl dX1_costOf_19 ?_
    exact wh_iret C h (cz hres) dX1_costOf_20
  · have hres := it_n hres c2
    refine lv_iconst (v := (0 : Int32)) hx hb dX1_costOf_11 (by decide) ?_
    refine lv_goto (tgt := 20) hx hb dX1_costOf_12 (by decide) ?_
    exact wh_iret C h (cz hres) dX1_costOf_20
theorem yw_X1_costOf : YS yX1_costOf cX1_costOf 2 (some .int) rmX1_costOf 1 := ⟨in_cX1_costOf, in_sX1_costOf, in_iX1, by decide +kernel, rfl, rfl⟩
theorem c_X1_costOf {l : Launch} {D : va_G} {cI : ClassId} {ad : Nat → Nat} (M : Mem) (a1 : Int32) (hok : ok_X1_costOf M a1) : KI l D [(cI, .int)] (wN cI ad) yX1_costOf cX1_costOf 2 rmX1_costOf [.int a1] M (M, f_X1_costOf M a1) := met_i (by decide) (Nat.le_of_ble_eq_true rfl) (fun p e s m below meth c A C h ls hl => k_X1_costOf_0 ⟨Nat.le_refl _, Nat.le_refl _⟩ (Nat.le_refl _) (Nat.le_refl _) C M a1 _ _ ls hok rfl h hl)
abbrev rmX1_put : Room := { frames := 1, cells := 0, slots := 0, locals := 21 }
def f_X1_put (M : Mem) (a1 a2 a3 : Int32) : Mem × Int32 := (if (M 10 0) = 0 then (if a1 < 0 then (M, (0 : Int32)) else (if a1 < (16 : Int32) then (if a2 < 0 then (M, (0 : Int32)) else (if (32 : Int32) ≤ a2 then (M, (0 : Int32)) else (if a2 ≤ ((M 12) a1.toNatClampNeg) then ((ms (ms M 11 (upd (M 11) ((a1 * (32 : Int32)) + a2).toNatClampNeg a3)) 12 (upd (M 12) a1.toNatClampNeg (if ((M 12) a1.toNatClampNeg) < (a2 + (1 : Int32)) then (a2 + (1 : Int32)) else ((M 12) a1.toNatClampNeg)))), (1 : Int32)) else (M, (0 : Int32))))) else (M, (0 : Int32)))) else (M, (0 : Int32)))
def ok_X1_put (M : Mem) (a1 a2 a3 : Int32) : Prop := (if (M 10 0) = 0 then (if a1 < 0 then True else (if a1 < (16 : Int32) then (if a2 < 0 then True else (if (32 : Int32) ≤ a2 then True else vp_in a1 16 ∧ (if a2 ≤ ((M 12) a1.toNatClampNeg) then vp_in ((a1 * (32 : Int32)) + a2) 512 ∧ vp_in a1 16 ∧ vp_in a1 16 else True))) else True)) else True)
set_option maxRecDepth 100000 in
set_option maxHeartbeats 4000000 in
theorem k_X1_put_0 {p : Program} {l : Launch} {e : Env} {s : State} {m : MethodId} {args : Array Value} {below : List Frame} {meth : Method} {c : Code} {D : va_G} {cI : ClassId} {ad : Nat → Nat} {A : Nat → Prop} {cells slots : Nat} {R : Room} (hcs : cells ≤ R.cells ∧ slots ≤ R.slots) (hrf : rmX1_put.frames ≤ R.frames) (hrl : rmX1_put.locals ≤ R.locals) {res : Mem × Int32} (C : CX p s m args meth c RX1 cX1_put 4 (some .boolean)) : ∀ (M : Mem) (a1 a2 a3 : Int32) (H : Heap) (locs : List Loc) (ls : Array Slot), ok_X1_put M a1 a2 a3 → f_X1_put M a1 a2 a3 = res → WH D [(cI, .int)] (wN cI ad) A s H locs M → lv_has ls 4 [(0, .ref (ad 1)), (1, .int a1), (2, .int a2), (3, .int a3)] → W p l e R s m args below meth c H locs cells slots (MQ below (PZ D [(cI, .int)] (wN cI ad) A res) args s cells slots A) (F0 m 0 ls []) := by
  have hx := C.1
  have hb := C.2.1
  have hown := C.2.2.2.2.1
  have hts := C.2.2.2.2.2.1
  intro M a1 a2 a3 H locs ls hok hres h hl
  rw [ok_X1_put] at hok
  rw [f_X1_put] at hres
  refine lv_aload_n hx hb dX1_put_0 rfl (lv_at hl 0 rfl) ?_
  refine N_X1_isClosed_get (v := (M 10 0)) C h in_fX1_25 rfl dX1_put_1 ?_
  refine lv_if_ne (tgt := 17) hx hb dX1_put_4 (by decide) (fun c1 => ?_) (fun c1 => ?_)
  · have hres := it_n hres c1
    refine lv_iconst (v := (0 : Int32)) hx hb dX1_put_17 (by decide) ?_
    exact wh_zret C h nb_0 hres dX1_put_18
  · have hres := it_p hres c1
    have hok := io_p hok c1
    refine lv_iload_n hx hb dX1_put_7 rfl (lv_at hl 1 rfl) ?_
    refine lv_if_lt (tgt := 17) hx hb dX1_put_8 (by decide) (fun c2 => ?_) (fun c2 => ?_)
    · have hres := it_p hres c2
      refine lv_iconst (v := (0 : Int32)) hx hb dX1_put_17 (by decide) ?_
      exact wh_zret C h nb_0 hres dX1_put_18
    · have hres := it_n hres c2
      have hok := io_n hok c2
      refine lv_iload_n hx hb dX1_put_11 rfl (lv_at hl 1 rfl) ?_
      refine lv_bipush (v := (16 : Int32)) hx hb dX1_put_12 (by decide) ?_
      refine lv_icmp_lt (tgt := 19) hx hb dX1_put_14 (by decide) (fun c3 => ?_) (fun c3 => ?_)
      · have hres := it_p hres c3
        have hok := io_p hok c3
        refine lv_iload_n hx hb dX1_put_19 rfl (lv_at hl 2 rfl) ?_
        refine lv_if_lt (tgt := 39) hx hb dX1_put_20 (by decide) (fun c4 => ?_) (fun c4 => ?_)
        · have hres := it_p hres c4
          refine lv_iconst (v := (0 : Int32)) hx hb dX1_put_39 (by decide) ?_
          exact wh_zret C h nb_0 hres dX1_put_40
        · have hres := it_n hres c4
          have hok := io_n hok c4
          refine lv_iload_n hx hb dX1_put_23 rfl (lv_at hl 2 rfl) ?_
          refine lv_bipush (v := (32 : Int32)) hx hb dX1_put_24 (by decide) ?_
          refine lv_icmp_ge (tgt := 39) hx hb dX1_put_26 (by decide) (fun c5 => ?_) (fun c5 => ?_)
          · have hres := it_p hres c5
            refine lv_iconst (v := (0 : Int32)) hx hb dX1_put_39 (by decide) ?_
            exact wh_zret C h nb_0 hres dX1_put_40
          · have hres := it_n hres c5
            have hok := io_n hok c5
            refine lv_iload_n hx hb dX1_put_29 rfl (lv_at hl 2 rfl) ?_
            refine lv_aload_n hx hb dX1_put_30 rfl (lv_at hl 0 rfl) ?_
            refine N_X1_lengths_get C h in_fX1_15 dX1_put_31 ?_
            refine lv_iload_n hx hb dX1_put_34 rfl (lv_at hl 1 rfl) ?_
            obtain ⟨h10, hok⟩ := hok
            refine N_cl_ld (v := ((M 12) a1.toNatClampNeg)) C h h10 rfl dX1_put_35 ?_
            refine lv_icmp_le (tgt := 41) hx hb dX1_put_36 (by decide) (fun c6 => ?_) (fun c6 => ?_)
            · have hres := it_p hres c6
              have hok := io_p hok c6
              refine lv_aload_n hx hb dX1_put_41 rfl (lv_at hl 0 rfl) ?_
              refine N_X1_words_get C h in_fX1_11 dX1_put_42 ?_
              refine lv_iload_n hx hb dX1_put_45 rfl (lv_at hl 1 rfl) ?_
              refine lv_bipush (v := (32 : Int32)) hx hb dX1_put_46 (by decide) ?_
              refine lv_imul hx hb dX1_put_48 ?_
              refine lv_iload_n hx hb dX1_put_49 rfl (lv_at hl 2 rfl) ?_
              refine lv_iadd hx hb dX1_put_50 ?_
              refine lv_iload_n hx hb dX1_put_51 rfl (lv_at hl 3 rfl) ?_
              obtain ⟨h9, hok⟩ := hok
              refine N_cw_st (M2 := (ms M 11 (upd (M 11) ((a1 * (32 : Int32)) + a2).toNatClampNeg a3))) C h h9 rfl dX1_put_52 (fun H locs h => ?_)
              refine lv_aload_n hx hb dX1_put_53 rfl (lv_at hl 0 rfl) ?_
              refine N_X1_lengths_get C h in_fX1_15 dX1_put_54 ?_
              refine lv_iload_n hx hb dX1_put_57 rfl (lv_at hl 1 rfl) ?_
              refine lv_aload_n hx hb dX1_put_58 rfl (lv_at hl 0 rfl) ?_
              refine N_X1_lengths_get C h in_fX1_15 dX1_put_59 ?_
              refine lv_iload_n hx hb dX1_put_62 rfl (lv_at hl 1 rfl) ?_
              obtain ⟨h8, hok⟩ := hok
              refine N_cl_ld (v := ((M 12) a1.toNatClampNeg)) C h h8 rfl dX1_put_63 ?_
              refine lv_iload_n hx hb dX1_put_64 rfl (lv_at hl 2 rfl) ?_
              refine lv_iconst (v := (1 : Int32)) hx hb dX1_put_65 (by decide) ?_
              refine lv_iadd hx hb dX1_put_66 ?_
              refine wh_mmax C in_mX1_29 hl.1 (Nat.le_trans (Nat.le_of_ble_eq_true rfl) hrf) (Nat.le_trans (Nat.le_of_ble_eq_true rfl) hrl) hcs dX1_put_67 ?_
              have h7 := hok
              refine N_cl_st (M2 := (ms (ms M 11 (upd (M 11) ((a1 * (32 : Int32)) + a2).toNatClampNeg a3)) 12 (upd (M 12) a1.toNatClampNeg (if ((M 12) a1.toNatClampNeg) < (a2 + (1 : Int32)) then (a2 + (1 : Int32)) else ((M 12) a1.toNatClampNeg))))) C h h7 rfl dX1_put_70 (fun H locs h => ?_)
              refine lv_iconst (v := (1 : Int32)) hx hb dX1_put_71 (by decide) ?_
              exact wh_zret C h nb_1 hres dX1_put_72
            · have hres := it_n hres c6
              refine lv_iconst (v := (0 : Int32)) hx hb dX1_put_39 (by decide) ?_
              exact wh_zret C h nb_0 hres dX1_put_40
      · have hres := it_n hres c3
        refine lv_iconst (v := (0 : Int32)) hx hb dX1_put_17 (by decide) ?_
        exact wh_zret C h nb_0 hres dX1_put_18
theorem yw_X1_put {cI : ClassId} {ad : Nat → Nat} : YV (wN cI ad) (ad 1) yX1_put cX1_put 4 (some .boolean) rmX1_put 3 := ⟨fun M => ⟨1, 1, _, _, rfl, rfl, rfl⟩, in_cX1_put, in_nX1_put, in_vX1_put, in_iX1, by decide +kernel, rfl, rfl⟩
theorem c_X1_put {l : Launch} {D : va_G} {cI : ClassId} {ad : Nat → Nat} (M : Mem) (a1 a2 a3 : Int32) (hok : ok_X1_put M a1 a2 a3) : KZ l D [(cI, .int)] (wN cI ad) yX1_put cX1_put 4 rmX1_put [.ref (ad 1), .int a1, .int a2, .int a3] M (f_X1_put M a1 a2 a3) := met_z (by decide) (Nat.le_of_ble_eq_true rfl) (fun p e s m below meth c A C h ls hl => k_X1_put_0 ⟨Nat.le_refl _, Nat.le_refl _⟩ (Nat.le_refl _) (Nat.le_refl _) C M a1 a2 a3 _ _ ls hok rfl h hl)
abbrev rmX1_lengthOf : Room := { frames := 0, cells := 0, slots := 0, locals := 0 }
def f_X1_lengthOf (M : Mem) (a1 : Int32) : Int32 := (if a1 < 0 then (0 : Int32) else (if a1 < (16 : Int32) then ((M 12) a1.toNatClampNeg) else (0 : Int32)))
def ok_X1_lengthOf (M : Mem) (a1 : Int32) : Prop := (if a1 < 0 then True else (if a1 < (16 : Int32) then vp_in a1 16 else True))
set_option maxRecDepth 100000 in
set_option maxHeartbeats 4000000 in
theorem k_X1_lengthOf_0 {p : Program} {l : Launch} {e : Env} {s : State} {m : MethodId} {args : Array Value} {below : List Frame} {meth : Method} {c : Code} {D : va_G} {cI : ClassId} {ad : Nat → Nat} {A : Nat → Prop} {cells slots : Nat} {R : Room} (hcs : cells ≤ R.cells ∧ slots ≤ R.slots) (hrf : rmX1_lengthOf.frames ≤ R.frames) (hrl : rmX1_lengthOf.locals ≤ R.locals) {r0 : Int32} (C : CX p s m args meth c RX1 cX1_lengthOf 2 (some .int)) : ∀ (M : Mem) (a1 : Int32) (H : Heap) (locs : List Loc) (ls : Array Slot), ok_X1_lengthOf M a1 → f_X1_lengthOf M a1 = r0 → WH D [(cI, .int)] (wN cI ad) A s H locs M → lv_has ls 2 [(0, .ref (ad 1)), (1, .int a1)] → W p l e R s m args below meth c H locs cells slots (MQ below (PI D [(cI, .int)] (wN cI ad) A (M, r0)) args s cells slots A) (F0 m 0 ls []) := by
  have hx := C.1
  have hb := C.2.1
  have hown := C.2.2.2.2.1
  have hts := C.2.2.2.2.2.1
  intro M a1 H locs ls hok hres h hl
  rw [ok_X1_lengthOf] at hok
  rw [f_X1_lengthOf] at hres
  refine lv_iload_n hx hb dX1_lengthOf_0 rfl (lv_at hl 1 rfl) ?_
  refine lv_if_lt (tgt := 10) hx hb dX1_lengthOf_1 (by decide) (fun c1 => ?_) (fun c1 => ?_)
  · have hres := it_p hres c1
    refine lv_iconst (v := (0 : Int32)) hx hb dX1_lengthOf_10 (by decide) ?_
    refine lv_goto (tgt := 20) hx hb dX1_lengthOf_11 (by decide) ?_
    exact wh_iret C h (cz hres) dX1_lengthOf_20
  · have hres := it_n hres c1
    have hok := io_n hok c1
    refine lv_iload_n hx hb dX1_lengthOf_4 rfl (lv_at hl 1 rfl) ?_
    refine lv_bipush (v := (16 : Int32)) hx hb dX1_lengthOf_5 (by decide) ?_
    refine lv_icmp_lt (tgt := 14) hx hb dX1_lengthOf_7 (by decide) (fun c2 => ?_) (fun c2 => ?_)
    · have hres := it_p hres c2
      have hok := io_p hok c2
      refine lv_aload_n hx hb dX1_lengthOf_14 rfl (lv_at hl 0 rfl) ?_
      refine N_X1_lengths_get C h in_fX1_15 dX1_lengthOf_15 ?_
      refine lv_iload_n hx hb dX1_lengthOf_18 rfl (lv_at hl 1 rfl) ?_
      have h3 := hok
      refine N_cl_ld (v := ((M 12) a1.toNatClampNeg)) C h h3 rfl dX1_lengthOf_19 ?_
      exact wh_iret C h (cz hres) dX1_lengthOf_20
    · have hres := it_n hres c2
      refine lv_iconst (v := (0 : Int32)) hx hb dX1_lengthOf_10 (by decide) ?_
      refine lv_goto (tgt := 20) hx hb dX1_lengthOf_11 (by decide) ?_
      exact wh_iret C h (cz hres) dX1_lengthOf_20
theorem yw_X1_lengthOf {cI : ClassId} {ad : Nat → Nat} : YV (wN cI ad) (ad 1) yX1_lengthOf cX1_lengthOf 2 (some .int) rmX1_lengthOf 1 := ⟨fun M => ⟨1, 1, _, _, rfl, rfl, rfl⟩, in_cX1_lengthOf, in_nX1_lengthOf, in_vX1_lengthOf, in_iX1, by decide +kernel, rfl, rfl⟩
theorem c_X1_lengthOf {l : Launch} {D : va_G} {cI : ClassId} {ad : Nat → Nat} (M : Mem) (a1 : Int32) (hok : ok_X1_lengthOf M a1) : KI l D [(cI, .int)] (wN cI ad) yX1_lengthOf cX1_lengthOf 2 rmX1_lengthOf [.ref (ad 1), .int a1] M (M, f_X1_lengthOf M a1) := met_i (by decide) (Nat.le_of_ble_eq_true rfl) (fun p e s m below meth c A C h ls hl => k_X1_lengthOf_0 ⟨Nat.le_refl _, Nat.le_refl _⟩ (Nat.le_refl _) (Nat.le_refl _) C M a1 _ _ ls hok rfl h hl)
abbrev rmX1_wordAt : Room := { frames := 1, cells := 0, slots := 0, locals := 21 }
def f_X1_wordAt (M : Mem) (a1 a2 : Int32) : Int32 := (if a2 < 0 then (0 : Int32) else (if a2 < (f_X1_lengthOf M a1) then ((M 11) ((a1 * (32 : Int32)) + a2).toNatClampNeg) else (0 : Int32)))
def ok_X1_wordAt (M : Mem) (a1 a2 : Int32) : Prop := (if a2 < 0 then True else ok_X1_lengthOf M a1 ∧ (if a2 < (f_X1_lengthOf M a1) then vp_in ((a1 * (32 : Int32)) + a2) 512 else True))
set_option maxRecDepth 100000 in
set_option maxHeartbeats 4000000 in
theorem k_X1_wordAt_0 {p : Program} {l : Launch} {e : Env} {s : State} {m : MethodId} {args : Array Value} {below : List Frame} {meth : Method} {c : Code} {D : va_G} {cI : ClassId} {ad : Nat → Nat} {A : Nat → Prop} {cells slots : Nat} {R : Room} (hcs : cells ≤ R.cells ∧ slots ≤ R.slots) (hrf : rmX1_wordAt.frames ≤ R.frames) (hrl : rmX1_wordAt.locals ≤ R.locals) {r0 : Int32} (C : CX p s m args meth c RX1 cX1_wordAt 3 (some .int)) : ∀ (M : Mem) (a1 a2 : Int32) (H : Heap) (locs : List Loc) (ls : Array Slot), ok_X1_wordAt M a1 a2 → f_X1_wordAt M a1 a2 = r0 → WH D [(cI, .int)] (wN cI ad) A s H locs M → lv_has ls 3 [(0, .ref (ad 1)), (1, .int a1), (2, .int a2)] → W p l e R s m args below meth c H locs cells slots (MQ below (PI D [(cI, .int)] (wN cI ad) A (M, r0)) args s cells slots A) (F0 m 0 ls []) := by
  have hx := C.1
  have hb := C.2.1
  have hown := C.2.2.2.2.1
  have hts := C.2.2.2.2.2.1
  intro M a1 a2 H locs ls hok hres h hl
  rw [ok_X1_wordAt] at hok
  rw [f_X1_wordAt] at hres
  refine lv_iload_n hx hb dX1_wordAt_0 rfl (lv_at hl 2 rfl) ?_
  refine lv_if_lt (tgt := 13) hx hb dX1_wordAt_1 (by decide) (fun c1 => ?_) (fun c1 => ?_)
  · have hres := it_p hres c1
    refine lv_iconst (v := (0 : Int32)) hx hb dX1_wordAt_13 (by decide) ?_
    refine lv_goto (tgt := 28) hx hb dX1_wordAt_14 (by decide) ?_
    exact wh_iret C h (cz hres) dX1_wordAt_28
  · have hres := it_n hres c1
    have hok := io_n hok c1
    refine lv_iload_n hx hb dX1_wordAt_4 rfl (lv_at hl 2 rfl) ?_
    refine lv_aload_n hx hb dX1_wordAt_5 rfl (lv_at hl 0 rfl) ?_
    refine lv_iload_n hx hb dX1_wordAt_6 rfl (lv_at hl 1 rfl) ?_
    obtain ⟨h5, hok⟩ := hok
    refine wh_cvip (As := [.int a1]) (rest := [.int a2]) hcs C h (c_X1_lengthOf M a1 h5) yw_X1_lengthOf in_mX1_35 hl.1 rfl rfl (Nat.le_of_ble_eq_true rfl) ⟨Nat.le_trans (Nat.le_of_ble_eq_true rfl) hrf, Nat.le_trans (Nat.le_of_ble_eq_true rfl) hrl⟩ dX1_wordAt_7 (fun H locs h => ?_)
    refine lv_icmp_lt (tgt := 17) hx hb dX1_wordAt_10 (by decide) (fun c3 => ?_) (fun c3 => ?_)
    · have hres := it_p hres c3
      have hok := io_p hok c3
      refine lv_aload_n hx hb dX1_wordAt_17 rfl (lv_at hl 0 rfl) ?_
      refine N_X1_words_get C h in_fX1_11 dX1_wordAt_18 ?_
      refine lv_iload_n hx hb dX1_wordAt_21 rfl (lv_at hl 1 rfl) ?_
      refine lv_bipush (v := (32 : Int32)) hx hb dX1_wordAt_22 (by decide) ?_
      refine lv_imul hx hb dX1_wordAt_24 ?_
      refine lv_iload_n hx hb dX1_wordAt_25 rfl (lv_at hl 2 rfl) ?_
      refine lv_iadd hx hb dX1_wordAt_26 ?_
      have h4 := hok
      refine N_cw_ld (v := ((M 11) ((a1 * (32 : Int32)) + a2).toNatClampNeg)) C h h4 rfl dX1_wordAt_27 ?_
      exact wh_iret C h (cz hres) dX1_wordAt_28
    · have hres := it_n hres c3
      refine lv_iconst (v := (0 : Int32)) hx hb dX1_wordAt_13 (by decide) ?_
      refine lv_goto (tgt := 28) hx hb dX1_wordAt_14 (by decide) ?_
      exact wh_iret C h (cz hres) dX1_wordAt_28
theorem yw_X1_wordAt {cI : ClassId} {ad : Nat → Nat} : YV (wN cI ad) (ad 1) yX1_wordAt cX1_wordAt 3 (some .int) rmX1_wordAt 2 := ⟨fun M => ⟨1, 1, _, _, rfl, rfl, rfl⟩, in_cX1_wordAt, in_nX1_wordAt, in_vX1_wordAt, in_iX1, by decide +kernel, rfl, rfl⟩
theorem c_X1_wordAt {l : Launch} {D : va_G} {cI : ClassId} {ad : Nat → Nat} (M : Mem) (a1 a2 : Int32) (hok : ok_X1_wordAt M a1 a2) : KI l D [(cI, .int)] (wN cI ad) yX1_wordAt cX1_wordAt 3 rmX1_wordAt [.ref (ad 1), .int a1, .int a2] M (M, f_X1_wordAt M a1 a2) := met_i (by decide) (Nat.le_of_ble_eq_true rfl) (fun p e s m below meth c A C h ls hl => k_X1_wordAt_0 ⟨Nat.le_refl _, Nat.le_refl _⟩ (Nat.le_refl _) (Nat.le_refl _) C M a1 a2 _ _ ls hok rfl h hl)
abbrev rmX1_isFault : Room := { frames := 1, cells := 0, slots := 0, locals := 21 }
def f_X1_isFault_102 (M : Mem) (x2 x3 x4 : Int32) : Int32 := (if x2 = (x3 - (1 : Int32)) then (if x4 = (7 : Int32) then (0 : Int32) else (1 : Int32)) else (0 : Int32))
def f_X1_isFault_92 (M : Mem) (x1 x2 x3 x4 : Int32) : Int32 := (if (f_X1_b M x1) < x3 then (f_X1_isFault_102 M x2 x3 x4) else (1 : Int32))
def f_X1_isFault (M : Mem) (a1 a2 a3 : Int32) : Int32 := (if (f_X1_op M a1) ≤ (17 : Int32) then (if (tab_MOST_A (f_X1_op M a1).toNatClampNeg) < (f_X1_a M a1) then (1 : Int32) else (if (tab_MOST_B (f_X1_op M a1).toNatClampNeg) < (f_X1_b M a1) then (1 : Int32) else (if (f_X1_c M a1) ≤ (tab_MOST_C (f_X1_op M a1).toNatClampNeg) then (if (f_X1_op M a1) = 0 then (if (f_X1_lengthOf M (f_X1_a M a1)) = 0 then (1 : Int32) else (0 : Int32)) else (if (f_X1_op M a1) = (6 : Int32) then (f_X1_isFault_92 M a1 a2 a3 (f_X1_op M a1)) else (if (f_X1_op M a1) = (7 : Int32) then (f_X1_isFault_92 M a1 a2 a3 (f_X1_op M a1)) else (f_X1_isFault_102 M a2 a3 (f_X1_op M a1))))) else (1 : Int32)))) else (1 : Int32))
def ok_X1_isFault (M : Mem) (a1 a2 a3 : Int32) : Prop := (if (f_X1_op M a1) ≤ (17 : Int32) then vp_in (f_X1_op M a1) 18 ∧ (if (tab_MOST_A (f_X1_op M a1).toNatClampNeg) < (f_X1_a M a1) then True else vp_in (f_X1_op M a1) 18 ∧ (if (tab_MOST_B (f_X1_op M a1).toNatClampNeg) < (f_X1_b M a1) then True else vp_in (f_X1_op M a1) 18 ∧ (if (f_X1_c M a1) ≤ (tab_MOST_C (f_X1_op M a1).toNatClampNeg) then (if (f_X1_op M a1) = 0 then ok_X1_lengthOf M (f_X1_a M a1) else True) else True))) else True)
set_option maxRecDepth 100000 in
set_option maxHeartbeats 4000000 in
theorem k_X1_isFault_102 {p : Program} {l : Launch} {e : Env} {s : State} {m : MethodId} {args : Array Value} {below : List Frame} {meth : Method} {c : Code} {D : va_G} {cI : ClassId} {ad : Nat → Nat} {A : Nat → Prop} {cells slots : Nat} {R : Room} (hcs : cells ≤ R.cells ∧ slots ≤ R.slots) (hrf : rmX1_isFault.frames ≤ R.frames) (hrl : rmX1_isFault.locals ≤ R.locals) {r0 : Int32} (C : CX p s m args meth c RX1 cX1_isFault 5 (some .boolean)) : ∀ (M : Mem) (x2 x3 x4 : Int32) (H : Heap) (locs : List Loc) (ls : Array Slot), f_X1_isFault_102 M x2 x3 x4 = r0 → WH D [(cI, .int)] (wN cI ad) A s H locs M → lv_has ls 5 [(2, .int x2), (3, .int x3), (4, .int x4)] → W p l e R s m args below meth c H locs cells slots (MQ below (PZ D [(cI, .int)] (wN cI ad) A (M, r0)) args s cells slots A) (F0 m 102 ls []) := by
  have hx := C.1
  have hb := C.2.1
  have hown := C.2.2.2.2.1
  have hts := C.2.2.2.2.2.1
  intro M x2 x3 x4 H locs ls hres h hl
  rw [f_X1_isFault_102] at hres
  refine lv_iload_n hx hb dX1_isFault_102 rfl (lv_at hl 0 rfl) ?_
  refine lv_iload_n hx hb dX1_isFault_103 rfl (lv_at hl 1 rfl) ?_
  refine lv_iconst (v := (1 : Int32)) hx hb dX1_isFault_104 (by decide) ?_
  refine lv_isub hx hb dX1_isFault_105 ?_
  refine lv_icmp_ne (tgt := 120) hx hb dX1_isFault_106 (by decide) (fun c13 => ?_) (fun c13 => ?_)
  · have hres := it_n hres c13
    refine lv_iconst (v := (0 : Int32)) hx hb dX1_isFault_120 (by decide) ?_
    exact wh_zret C h nb_0 (cz hres) dX1_isFault_121
  · have hres := it_p hres c13
    refine lv_iload hx hb dX1_isFault_109 (lv_at hl 2 rfl) ?_
    refine lv_bipush (v := (7 : Int32)) hx hb dX1_isFault_111 (by decide) ?_
    refine lv_icmp_eq (tgt := 120) hx hb dX1_isFault_113 (by decide) (fun c14 => ?_) (fun c14 => ?_)
    · have hres := it_p hres c14
      refine lv_iconst (v := (0 : Int32)) hx hb dX1_isFault_120 (by decide) ?_
      exact wh_zret C h nb_0 (cz hres) dX1_isFault_121
    · have hres := it_n hres c14
      refine lv_iconst (v := (1 : Int32)) hx hb dX1_isFault_116 (by decide) ?_
      refine lv_goto (tgt := 121) hx hb dX1_isFault_117 (by decide) ?_
      exact wh_zret C h nb_1 (cz hres) dX1_isFault_121
set_option maxRecDepth 100000 in
set_option maxHeartbeats 4000000 in
theorem k_X1_isFault_92 {p : Program} {l : Launch} {e : Env} {s : State} {m : MethodId} {args : Array Value} {below : List Frame} {meth : Method} {c : Code} {D : va_G} {cI : ClassId} {ad : Nat → Nat} {A : Nat → Prop} {cells slots : Nat} {R : Room} (hcs : cells ≤ R.cells ∧ slots ≤ R.slots) (hrf : rmX1_isFault.frames ≤ R.frames) (hrl : rmX1_isFault.locals ≤ R.locals) {r0 : Int32} (C : CX p s m args meth c RX1 cX1_isFault 5 (some .boolean)) : ∀ (M : Mem) (x1 x2 x3 x4 : Int32) (H : Heap) (locs : List Loc) (ls : Array Slot), f_X1_isFault_92 M x1 x2 x3 x4 = r0 → WH D [(cI, .int)] (wN cI ad) A s H locs M → lv_has ls 5 [(1, .int x1), (2, .int x2), (3, .int x3), (4, .int x4)] → W p l e R s m args below meth c H locs cells slots (MQ below (PZ D [(cI, .int)] (wN cI ad) A (M, r0)) args s cells slots A) (F0 m 92 ls []) := by
  have hx := C.1
  have hb := C.2.1
  have hown := C.2.2.2.2.1
  have hts := C.2.2.2.2.2.1
  intro M x1 x2 x3 x4 H locs ls hres h hl
  rw [f_X1_isFault_92] at hres
  refine lv_iload_n hx hb dX1_isFault_92 rfl (lv_at hl 0 rfl) ?_
  refine wh_csip (As := [.int x1]) (rest := []) hcs C h (c_X1_b M x1) yw_X1_b in_mX1_52 hl.1 rfl rfl (Nat.le_of_ble_eq_true rfl) ⟨Nat.le_trans (Nat.le_of_ble_eq_true rfl) hrf, Nat.le_trans (Nat.le_of_ble_eq_true rfl) hrl⟩ dX1_isFault_93 (fun H locs h => ?_)
  refine lv_iload_n hx hb dX1_isFault_96 rfl (lv_at hl 2 rfl) ?_
  refine lv_icmp_lt (tgt := 102) hx hb dX1_isFault_97 (by decide) (fun c12 => ?_) (fun c12 => ?_)
  · have hres := it_p hres c12
    exact k_X1_isFault_102 hcs hrf hrl C M x2 x3 x4 _ _ _  hres h (lv_sub hl [1, 2, 3] rfl)
  · have hres := it_n hres c12
    refine lv_iconst (v := (1 : Int32)) hx hb dX1_isFault_100 (by decide) ?_
    exact wh_zret C h nb_1 (cz hres) dX1_isFault_101
set_option maxRecDepth 100000 in
set_option maxHeartbeats 4000000 in
theorem k_X1_isFault_0 {p : Program} {l : Launch} {e : Env} {s : State} {m : MethodId} {args : Array Value} {below : List Frame} {meth : Method} {c : Code} {D : va_G} {cI : ClassId} {ad : Nat → Nat} {A : Nat → Prop} {cells slots : Nat} {R : Room} (hcs : cells ≤ R.cells ∧ slots ≤ R.slots) (hrf : rmX1_isFault.frames ≤ R.frames) (hrl : rmX1_isFault.locals ≤ R.locals) {r0 : Int32} (C : CX p s m args meth c RX1 cX1_isFault 5 (some .boolean)) : ∀ (M : Mem) (a1 a2 a3 : Int32) (H : Heap) (locs : List Loc) (ls : Array Slot), ok_X1_isFault M a1 a2 a3 → f_X1_isFault M a1 a2 a3 = r0 → WH D [(cI, .int)] (wN cI ad) A s H locs M → lv_has ls 5 [(0, .ref (ad 1)), (1, .int a1), (2, .int a2), (3, .int a3)] → W p l e R s m args below meth c H locs cells slots (MQ below (PZ D [(cI, .int)] (wN cI ad) A (M, r0)) args s cells slots A) (F0 m 0 ls []) := by
  have hx := C.1
  have hb := C.2.1
  have hown := C.2.2.2.2.1
  have hts := C.2.2.2.2.2.1
  intro M a1 a2 a3 H locs ls hok hres h hl
  rw [ok_X1_isFault] at hok
  rw [f_X1_isFault] at hres
  refine lv_iload_n hx hb dX1_isFault_0 rfl (lv_at hl 1 rfl) ?_
  refine wh_csip (As := [.int a1]) (rest := []) hcs C h (c_X1_op M a1) yw_X1_op in_mX1_18 hl.1 rfl rfl (Nat.le_of_ble_eq_true rfl) ⟨Nat.le_trans (Nat.le_of_ble_eq_true rfl) hrf, Nat.le_trans (Nat.le_of_ble_eq_true rfl) hrl⟩ dX1_isFault_1 (fun H locs h => ?_)
  refine lv_istore (lv' := [(4, .int (f_X1_op M a1)), (0, .ref (ad 1)), (1, .int a1), (2, .int a2), (3, .int a3)]) hx hb dX1_isFault_4 hl (by decide) rfl (fun ls hl => ?_)
  refine lv_iload hx hb dX1_isFault_6 (lv_at hl 0 rfl) ?_
  refine lv_bipush (v := (17 : Int32)) hx hb dX1_isFault_8 (by decide) ?_
  refine lv_icmp_le (tgt := 15) hx hb dX1_isFault_10 (by decide) (fun c2 => ?_) (fun c2 => ?_)
  · have hres := it_p hres c2
    have hok := io_p hok c2
    refine lv_iload_n hx hb dX1_isFault_15 rfl (lv_at hl 2 rfl) ?_
    refine wh_csip (As := [.int a1]) (rest := []) hcs C h (c_X1_a M a1) yw_X1_a in_mX1_46 hl.1 rfl rfl (Nat.le_of_ble_eq_true rfl) ⟨Nat.le_trans (Nat.le_of_ble_eq_true rfl) hrf, Nat.le_trans (Nat.le_of_ble_eq_true rfl) hrl⟩ dX1_isFault_16 (fun H locs h => ?_)
    refine sf_MOST_A C h in_fX1_49 dX1_isFault_19 (fun s2 hs2 => ?_)
    refine lv_iload hx hb dX1_isFault_22 (lv_at hl 0 rfl) ?_
    obtain ⟨h22, hok⟩ := hok
    refine sf_ld C h hs2 h22 (v := (tab_MOST_A (f_X1_op M a1).toNatClampNeg)) rfl dX1_isFault_24 ?_
    refine lv_icmp_gt (tgt := 54) hx hb dX1_isFault_25 (by decide) (fun c4 => ?_) (fun c4 => ?_)
    · have hres := it_p hres c4
      refine lv_iconst (v := (1 : Int32)) hx hb dX1_isFault_54 (by decide) ?_
      exact wh_zret C h nb_1 (cz hres) dX1_isFault_55
    · have hres := it_n hres c4
      have hok := io_n hok c4
      refine lv_iload_n hx hb dX1_isFault_28 rfl (lv_at hl 2 rfl) ?_
      refine wh_csip (As := [.int a1]) (rest := []) hcs C h (c_X1_b M a1) yw_X1_b in_mX1_52 hl.1 rfl rfl (Nat.le_of_ble_eq_true rfl) ⟨Nat.le_trans (Nat.le_of_ble_eq_true rfl) hrf, Nat.le_trans (Nat.le_of_ble_eq_true rfl) hrl⟩ dX1_isFault_29 (fun H locs h => ?_)
      refine sf_MOST_B C h in_fX1_55 dX1_isFault_32 (fun s3 hs3 => ?_)
      refine lv_iload hx hb dX1_isFault_35 (lv_at hl 0 rfl) ?_
      obtain ⟨h21, hok⟩ := hok
      refine sf_ld C h hs3 h21 (v := (tab_MOST_B (f_X1_op M a1).toNatClampNeg)) rfl dX1_isFault_37 ?_
      refine lv_icmp_gt (tgt := 54) hx hb dX1_isFault_38 (by decide) (fun c6 => ?_) (fun c6 => ?_)
      · have hres := it_p hres c6
        refine lv_iconst (v := (1 : Int32)) hx hb dX1_isFault_54 (by decide) ?_
        exact wh_zret C h nb_1 (cz hres) dX1_isFault_55
      · have hres := it_n hres c6
        have hok := io_n hok c6
        refine lv_iload_n hx hb dX1_isFault_41 rfl (lv_at hl 2 rfl) ?_
        refine wh_csip (As := [.int a1]) (rest := []) hcs C h (c_X1_c M a1) yw_X1_c in_mX1_58 hl.1 rfl rfl (Nat.le_of_ble_eq_true rfl) ⟨Nat.le_trans (Nat.le_of_ble_eq_true rfl) hrf, Nat.le_trans (Nat.le_of_ble_eq_true rfl) hrl⟩ dX1_isFault_42 (fun H locs h => ?_)
        refine sf_MOST_C C h in_fX1_61 dX1_isFault_45 (fun s4 hs4 => ?_)
        refine lv_iload hx hb dX1_isFault_48 (lv_at hl 0 rfl) ?_
        obtain ⟨h20, hok⟩ := hok
        refine sf_ld C h hs4 h20 (v := (tab_MOST_C (f_X1_op M a1).toNatClampNeg)) rfl dX1_isFault_50 ?_
        refine lv_icmp_le (tgt := 56) hx hb dX1_isFault_51 (by decide) (fun c8 => ?_) (fun c8 => ?_)
        · have hres := it_p hres c8
          have hok := io_p hok c8
          refine lv_iload hx hb dX1_isFault_56 (lv_at hl 0 rfl) ?_
          refine lv_if_ne (tgt := 78) hx hb dX1_isFault_58 (by decide) (fun c9 => ?_) (fun c9 => ?_)
          · have hres := it_n hres c9
            refine lv_iload hx hb dX1_isFault_78 (lv_at hl 0 rfl) ?_
            refine lv_bipush (v := (6 : Int32)) hx hb dX1_isFault_80 (by decide) ?_
            refine lv_icmp_eq (tgt := 92) hx hb dX1_isFault_82 (by decide) (fun c10 => ?_) (fun c10 => ?_)
            · have hres := it_p hres c10
              exact k_X1_isFault_92 hcs hrf hrl C M a1 a2 a3 (f_X1_op M a1) _ _ _  hres h (lv_sub hl [2, 3, 4, 0] rfl)
            · have hres := it_n hres c10
              refine lv_iload hx hb dX1_isFault_85 (lv_at hl 0 rfl) ?_
              refine lv_bipush (v := (7 : Int32)) hx hb dX1_isFault_87 (by decide) ?_
              refine lv_icmp_ne (tgt := 102) hx hb dX1_isFault_89 (by decide) (fun c15 => ?_) (fun c15 => ?_)
              · have hres := it_n hres c15
                exact k_X1_isFault_102 hcs hrf hrl C M a2 a3 (f_X1_op M a1) _ _ _  hres h (lv_sub hl [3, 4, 0] rfl)
              · have hres := it_p hres c15
                exact k_X1_isFault_92 hcs hrf hrl C M a1 a2 a3 (f_X1_op M a1) _ _ _  hres h (lv_sub hl [2, 3, 4, 0] rfl)
          · have hres := it_p hres c9
            have hok := io_p hok c9
            refine lv_aload_n hx hb dX1_isFault_61 rfl (lv_at hl 1 rfl) ?_
            refine lv_iload_n hx hb dX1_isFault_62 rfl (lv_at hl 2 rfl) ?_
            refine wh_csip (As := [.int a1]) (rest := [.ref (ad 1)]) hcs C h (c_X1_a M a1) yw_X1_a in_mX1_46 hl.1 rfl rfl (Nat.le_of_ble_eq_true rfl) ⟨Nat.le_trans (Nat.le_of_ble_eq_true rfl) hrf, Nat.le_trans (Nat.le_of_ble_eq_true rfl) hrl⟩ dX1_isFault_63 (fun H locs h => ?_)
            have h19 := hok
            refine wh_cvip (As := [.int (f_X1_a M a1)]) (rest := []) hcs C h (c_X1_lengthOf M (f_X1_a M a1) h19) yw_X1_lengthOf in_mX1_35 hl.1 rfl rfl (Nat.le_of_ble_eq_true rfl) ⟨Nat.le_trans (Nat.le_of_ble_eq_true rfl) hrf, Nat.le_trans (Nat.le_of_ble_eq_true rfl) hrl⟩ dX1_isFault_66 (fun H locs h => ?_)
            refine lv_if_ne (tgt := 76) hx hb dX1_isFault_69 (by decide) (fun c18 => ?_) (fun c18 => ?_)
            · have hres := it_n hres c18
              refine lv_iconst (v := (0 : Int32)) hx hb dX1_isFault_76 (by decide) ?_
              exact wh_zret C h nb_0 (cz hres) dX1_isFault_77
            · have hres := it_p hres c18
              refine lv_iconst (v := (1 : Int32)) hx hb dX1_isFault_72 (by decide) ?_
              refine lv_goto (tgt := 77) hx hb dX1_isFault_73 (by decide) ?_
              exact wh_zret C h nb_1 (cz hres) dX1_isFault_77
        · have hres := it_n hres c8
          refine lv_iconst (v := (1 : Int32)) hx hb dX1_isFault_54 (by decide) ?_
          exact wh_zret C h nb_1 (cz hres) dX1_isFault_55
  · have hres := it_n hres c2
    refine lv_iconst (v := (1 : Int32)) hx hb dX1_isFault_13 (by decide) ?_
    exact wh_zret C h nb_1 (cz hres) dX1_isFault_14
theorem yw_X1_isFault {cI : ClassId} {ad : Nat → Nat} : YV (wN cI ad) (ad 1) yX1_isFault cX1_isFault 5 (some .boolean) rmX1_isFault 3 := ⟨fun M => ⟨1, 1, _, _, rfl, rfl, rfl⟩, in_cX1_isFault, in_nX1_isFault, in_vX1_isFault, in_iX1, by decide +kernel, rfl, rfl⟩
theorem c_X1_isFault {l : Launch} {D : va_G} {cI : ClassId} {ad : Nat → Nat} (M : Mem) (a1 a2 a3 : Int32) (hok : ok_X1_isFault M a1 a2 a3) : KZ l D [(cI, .int)] (wN cI ad) yX1_isFault cX1_isFault 5 rmX1_isFault [.ref (ad 1), .int a1, .int a2, .int a3] M (M, f_X1_isFault M a1 a2 a3) := met_z (by decide) (Nat.le_of_ble_eq_true rfl) (fun p e s m below meth c A C h ls hl => k_X1_isFault_0 ⟨Nat.le_refl _, Nat.le_refl _⟩ (Nat.le_refl _) (Nat.le_refl _) C M a1 a2 a3 _ _ ls hok rfl h hl)
abbrev rmX1_firstFault : Room := { frames := 2, cells := 0, slots := 0, locals := 45 }
def f_X1_firstFault_L : Nat → Nat → Mem → Int32 → Int32 → Int32
  | 0, _, M, _, _ => 0
  | n + 1, k, M, x1, x2 => (if k = 13 then (if (16 : Int32) ≤ x1 then (-1 : Int32) else (f_X1_firstFault_L n 21 M x1 (0 : Int32))) else (if ((M 12) x1.toNatClampNeg) ≤ x2 then (f_X1_firstFault_L n 13 M (x1 + (1 : Int32)) (0 : Int32)) else (if (f_X1_isFault M ((M 11) ((x1 * (32 : Int32)) + x2).toNatClampNeg) x2 ((M 12) x1.toNatClampNeg)) = 0 then (f_X1_firstFault_L n 21 M x1 (x2 + (1 : Int32))) else ((x1 * (32 : Int32)) + x2))))
def ok_X1_firstFault_L : Nat → Nat → Mem → Int32 → Int32 → Prop
  | 0, _, _, _, _ => False
  | n + 1, k, M, x1, x2 => (if k = 13 then (if (16 : Int32) ≤ x1 then True else ok_X1_firstFault_L n 21 M x1 (0 : Int32)) else vp_in x1 16 ∧ (if ((M 12) x1.toNatClampNeg) ≤ x2 then ok_X1_firstFault_L n 13 M (x1 + (1 : Int32)) (0 : Int32) else vp_in ((x1 * (32 : Int32)) + x2) 512 ∧ vp_in x1 16 ∧ ok_X1_isFault M ((M 11) ((x1 * (32 : Int32)) + x2).toNatClampNeg) x2 ((M 12) x1.toNatClampNeg) ∧ (if (f_X1_isFault M ((M 11) ((x1 * (32 : Int32)) + x2).toNatClampNeg) x2 ((M 12) x1.toNatClampNeg)) = 0 then ok_X1_firstFault_L n 21 M x1 (x2 + (1 : Int32)) else True)))
def f_X1_firstFault (M : Mem) : Int32 := (if ((M 12) 0) = 0 then (0 : Int32) else (f_X1_firstFault_L 600 13 M (0 : Int32) (0 : Int32)))
def ok_X1_firstFault (M : Mem) : Prop := (if ((M 12) 0) = 0 then True else ok_X1_firstFault_L 600 13 M (0 : Int32) (0 : Int32))
set_option maxRecDepth 100000 in
set_option maxHeartbeats 4000000 in
theorem k_X1_firstFault_L {p : Program} {l : Launch} {e : Env} {s : State} {m : MethodId} {args : Array Value} {below : List Frame} {meth : Method} {c : Code} {D : va_G} {cI : ClassId} {ad : Nat → Nat} {A : Nat → Prop} {cells slots : Nat} {R : Room} (hcs : cells ≤ R.cells ∧ slots ≤ R.slots) (hrf : rmX1_firstFault.frames ≤ R.frames) (hrl : rmX1_firstFault.locals ≤ R.locals) {r0 : Int32} (C : CX p s m args meth c RX1 cX1_firstFault 4 (some .int)) : ∀ n : Nat, (∀ (M : Mem) (x1 x2 : Int32) (H : Heap) (locs : List Loc) (ls : Array Slot), ok_X1_firstFault_L n 13 M x1 x2 → f_X1_firstFault_L n 13 M x1 x2 = r0 → WH D [(cI, .int)] (wN cI ad) A s H locs M → lv_has ls 4 [(0, .ref (ad 1)), (1, .int x1)] → W p l e R s m args below meth c H locs cells slots (MQ below (PI D [(cI, .int)] (wN cI ad) A (M, r0)) args s cells slots A) (F0 m 13 ls [])) ∧ (∀ (M : Mem) (x1 x2 : Int32) (H : Heap) (locs : List Loc) (ls : Array Slot), ok_X1_firstFault_L n 21 M x1 x2 → f_X1_firstFault_L n 21 M x1 x2 = r0 → WH D [(cI, .int)] (wN cI ad) A s H locs M → lv_has ls 4 [(0, .ref (ad 1)), (1, .int x1), (2, .int x2)] → W p l e R s m args below meth c H locs cells slots (MQ below (PI D [(cI, .int)] (wN cI ad) A (M, r0)) args s cells slots A) (F0 m 21 ls [])) := by
  have hx := C.1
  have hb := C.2.1
  have hown := C.2.2.2.2.1
  have hts := C.2.2.2.2.2.1
  intro n
  induction n with
  | zero => exact ⟨fun M x1 x2 H locs ls hok => absurd hok (by intro z; exact z), fun M x1 x2 H locs ls hok => absurd hok (by intro z; exact z)⟩
  | succ n ih =>
    refine ⟨?_, ?_⟩
    · intro M x1 x2 H locs ls hok hres h hl
      rw [ok_X1_firstFault_L] at hok
      rw [f_X1_firstFault_L] at hres
      have hres := it_p hres rfl
      have hok := io_p hok rfl
      refine lv_iload_n hx hb dX1_firstFault_13 rfl (lv_at hl 1 rfl) ?_
      refine lv_bipush (v := (16 : Int32)) hx hb dX1_firstFault_14 (by decide) ?_
      refine lv_icmp_ge (tgt := 72) hx hb dX1_firstFault_16 (by decide) (fun c2 => ?_) (fun c2 => ?_)
      · have hres := it_p hres c2
        refine lv_iconst (v := (-1 : Int32)) hx hb dX1_firstFault_72 (by decide) ?_
        exact wh_iret C h (cz hres) dX1_firstFault_73
      · have hres := it_n hres c2
        have hok := io_n hok c2
        refine lv_iconst (v := (0 : Int32)) hx hb dX1_firstFault_19 (by decide) ?_
        refine lv_istore_n (lv' := [(2, .int (0 : Int32)), (0, .ref (ad 1)), (1, .int x1)]) hx hb dX1_firstFault_20 rfl hl (by decide) rfl (fun ls hl => ?_)
        exact ih.2 M x1 (0 : Int32) _ _ _ hok hres h (lv_sub hl [1, 2, 0] rfl)
    · intro M x1 x2 H locs ls hok hres h hl
      rw [ok_X1_firstFault_L] at hok
      rw [f_X1_firstFault_L] at hres
      have hres := it_n hres (by decide)
      have hok := io_n hok (by decide)
      refine lv_iload_n hx hb dX1_firstFault_21 rfl (lv_at hl 2 rfl) ?_
      refine lv_aload_n hx hb dX1_firstFault_22 rfl (lv_at hl 0 rfl) ?_
      refine N_X1_lengths_get C h in_fX1_15 dX1_firstFault_23 ?_
      refine lv_iload_n hx hb dX1_firstFault_26 rfl (lv_at hl 1 rfl) ?_
      obtain ⟨h9, hok⟩ := hok
      refine N_cl_ld (v := ((M 12) x1.toNatClampNeg)) C h h9 rfl dX1_firstFault_27 ?_
      refine lv_icmp_ge (tgt := 66) hx hb dX1_firstFault_28 (by decide) (fun c3 => ?_) (fun c3 => ?_)
      · have hres := it_p hres c3
        have hok := io_p hok c3
        refine lv_iinc (v := (x1 + (1 : Int32))) (lv' := [(1, .int (x1 + (1 : Int32))), (0, .ref (ad 1)), (2, .int x2)]) hx hb dX1_firstFault_66 hl (k := 1) rfl rfl (by decide) rfl (fun ls hl => ?_)
        refine lv_goto (tgt := 13) hx hb dX1_firstFault_69 (by decide) ?_
        exact ih.1 M (x1 + (1 : Int32)) (0 : Int32) _ _ _ hok hres h (lv_sub hl [1, 0] rfl)
      · have hres := it_n hres c3
        have hok := io_n hok c3
        refine lv_iload_n hx hb dX1_firstFault_31 rfl (lv_at hl 1 rfl) ?_
        refine lv_bipush (v := (32 : Int32)) hx hb dX1_firstFault_32 (by decide) ?_
        refine lv_imul hx hb dX1_firstFault_34 ?_
        refine lv_iload_n hx hb dX1_firstFault_35 rfl (lv_at hl 2 rfl) ?_
        refine lv_iadd hx hb dX1_firstFault_36 ?_
        refine lv_istore_n (lv' := [(3, .int ((x1 * (32 : Int32)) + x2)), (0, .ref (ad 1)), (1, .int x1), (2, .int x2)]) hx hb dX1_firstFault_37 rfl hl (by decide) rfl (fun ls hl => ?_)
        refine lv_aload_n hx hb dX1_firstFault_38 rfl (lv_at hl 1 rfl) ?_
        refine lv_aload_n hx hb dX1_firstFault_39 rfl (lv_at hl 1 rfl) ?_
        refine N_X1_words_get C h in_fX1_11 dX1_firstFault_40 ?_
        refine lv_iload_n hx hb dX1_firstFault_43 rfl (lv_at hl 0 rfl) ?_
        obtain ⟨h8, hok⟩ := hok
        refine N_cw_ld (v := ((M 11) ((x1 * (32 : Int32)) + x2).toNatClampNeg)) C h h8 rfl dX1_firstFault_44 ?_
        refine lv_iload_n hx hb dX1_firstFault_45 rfl (lv_at hl 3 rfl) ?_
        refine lv_aload_n hx hb dX1_firstFault_46 rfl (lv_at hl 1 rfl) ?_
        refine N_X1_lengths_get C h in_fX1_15 dX1_firstFault_47 ?_
        refine lv_iload_n hx hb dX1_firstFault_50 rfl (lv_at hl 2 rfl) ?_
        obtain ⟨h7, hok⟩ := hok
        refine N_cl_ld (v := ((M 12) x1.toNatClampNeg)) C h h7 rfl dX1_firstFault_51 ?_
        obtain ⟨h6, hok⟩ := hok
        refine wh_cvzp (As := [.int ((M 11) ((x1 * (32 : Int32)) + x2).toNatClampNeg), .int x2, .int ((M 12) x1.toNatClampNeg)]) (rest := []) hcs C h (c_X1_isFault M ((M 11) ((x1 * (32 : Int32)) + x2).toNatClampNeg) x2 ((M 12) x1.toNatClampNeg) h6) yw_X1_isFault in_mX1_42 hl.1 rfl rfl (Nat.le_of_ble_eq_true rfl) ⟨Nat.le_trans (Nat.le_of_ble_eq_true rfl) hrf, Nat.le_trans (Nat.le_of_ble_eq_true rfl) hrl⟩ dX1_firstFault_52 (fun H locs z4 h => ?_)
        refine lv_if_eq (tgt := 60) hx hb dX1_firstFault_55 (by decide) (fun c5 => ?_) (fun c5 => ?_)
        · have hres := it_p hres c5
          have hok := io_p hok c5
          refine lv_iinc (v := (x2 + (1 : Int32))) (lv' := [(2, .int (x2 + (1 : Int32))), (3, .int ((x1 * (32 : Int32)) + x2)), (0, .ref (ad 1)), (1, .int x1)]) hx hb dX1_firstFault_60 hl (k := 3) rfl rfl (by decide) rfl (fun ls hl => ?_)
          refine lv_goto (tgt := 21) hx hb dX1_firstFault_63 (by decide) ?_
          exact ih.2 M x1 (x2 + (1 : Int32)) _ _ _ hok hres h (lv_sub hl [2, 3, 0] rfl)
        · have hres := it_n hres c5
          refine lv_iload_n hx hb dX1_firstFault_58 rfl (lv_at hl 0 rfl) ?_
          exact wh_iret C h (cz hres) dX1_firstFault_59
set_option maxRecDepth 100000 in
set_option maxHeartbeats 4000000 in
theorem k_X1_firstFault_0 {p : Program} {l : Launch} {e : Env} {s : State} {m : MethodId} {args : Array Value} {below : List Frame} {meth : Method} {c : Code} {D : va_G} {cI : ClassId} {ad : Nat → Nat} {A : Nat → Prop} {cells slots : Nat} {R : Room} (hcs : cells ≤ R.cells ∧ slots ≤ R.slots) (hrf : rmX1_firstFault.frames ≤ R.frames) (hrl : rmX1_firstFault.locals ≤ R.locals) {r0 : Int32} (C : CX p s m args meth c RX1 cX1_firstFault 4 (some .int)) : ∀ (M : Mem) (H : Heap) (locs : List Loc) (ls : Array Slot), ok_X1_firstFault M → f_X1_firstFault M = r0 → WH D [(cI, .int)] (wN cI ad) A s H locs M → lv_has ls 4 [(0, .ref (ad 1))] → W p l e R s m args below meth c H locs cells slots (MQ below (PI D [(cI, .int)] (wN cI ad) A (M, r0)) args s cells slots A) (F0 m 0 ls []) := by
  have hx := C.1
  have hb := C.2.1
  have hown := C.2.2.2.2.1
  have hts := C.2.2.2.2.2.1
  intro M H locs ls hok hres h hl
  rw [ok_X1_firstFault] at hok
  rw [f_X1_firstFault] at hres
  refine lv_aload_n hx hb dX1_firstFault_0 rfl (lv_at hl 0 rfl) ?_
  refine N_X1_lengths_get C h in_fX1_15 dX1_firstFault_1 ?_
  refine lv_iconst (v := (0 : Int32)) hx hb dX1_firstFault_4 (by decide) ?_
  refine N_cl_ld (v := ((M 12) 0)) C h (vp_l (by decide)) rfl dX1_firstFault_5 ?_
  refine lv_if_ne (tgt := 11) hx hb dX1_firstFault_6 (by decide) (fun c1 => ?_) (fun c1 => ?_)
  · have hres := it_n hres c1
    have hok := io_n hok c1
    refine lv_iconst (v := (0 : Int32)) hx hb dX1_firstFault_11 (by decide) ?_
    refine lv_istore_n (lv' := [(1, .int (0 : Int32)), (0, .ref (ad 1))]) hx hb dX1_firstFault_12 rfl hl (by decide) rfl (fun ls hl => ?_)
    exact (k_X1_firstFault_L hcs hrf hrl C 600).1 M (0 : Int32) (0 : Int32) _ _ _ hok hres h (lv_sub hl [1, 0] rfl)
  · have hres := it_p hres c1
    refine lv_iconst (v := (0 : Int32)) hx hb dX1_firstFault_9 (by decide) ?_
    exact wh_iret C h (cz hres) dX1_firstFault_10
theorem yw_X1_firstFault {cI : ClassId} {ad : Nat → Nat} : YV (wN cI ad) (ad 1) yX1_firstFault cX1_firstFault 4 (some .int) rmX1_firstFault 0 := ⟨fun M => ⟨1, 1, _, _, rfl, rfl, rfl⟩, in_cX1_firstFault, in_nX1_firstFault, in_vX1_firstFault, in_iX1, by decide +kernel, rfl, rfl⟩
theorem c_X1_firstFault {l : Launch} {D : va_G} {cI : ClassId} {ad : Nat → Nat} (M : Mem) (hok : ok_X1_firstFault M) : KI l D [(cI, .int)] (wN cI ad) yX1_firstFault cX1_firstFault 4 rmX1_firstFault [.ref (ad 1)] M (M, f_X1_firstFault M) := met_i (by decide) (Nat.le_of_ble_eq_true rfl) (fun p e s m below meth c A C h ls hl => k_X1_firstFault_0 ⟨Nat.le_refl _, Nat.le_refl _⟩ (Nat.le_refl _) (Nat.le_refl _) C M _ _ ls hok rfl h hl)
abbrev rmX1_close : Room := { frames := 3, cells := 0, slots := 0, locals := 68 }
def f_X1_close (M : Mem) : Mem × Int32 := (if (M 10 0) = 0 then (if (f_X1_firstFault M) = (-1 : Int32) then ((ms M 10 (fun _ => (1 : Int32))), ((f_X1_firstFault M) + (1 : Int32))) else ((ms M 10 (fun _ => (0 : Int32))), ((f_X1_firstFault M) + (1 : Int32)))) else (M, (0 : Int32)))
def ok_X1_close (M : Mem) : Prop := (if (M 10 0) = 0 then ok_X1_firstFault M else True)
set_option maxRecDepth 100000 in
set_option maxHeartbeats 4000000 in
theorem k_X1_close_0 {p : Program} {l : Launch} {e : Env} {s : State} {m : MethodId} {args : Array Value} {below : List Frame} {meth : Method} {c : Code} {D : va_G} {cI : ClassId} {ad : Nat → Nat} {A : Nat → Prop} {cells slots : Nat} {R : Room} (hcs : cells ≤ R.cells ∧ slots ≤ R.slots) (hrf : rmX1_close.frames ≤ R.frames) (hrl : rmX1_close.locals ≤ R.locals) {res : Mem × Int32} (C : CX p s m args meth c RX1 cX1_close 2 (some .int)) : ∀ (M : Mem) (H : Heap) (locs : List Loc) (ls : Array Slot), ok_X1_close M → f_X1_close M = res → WH D [(cI, .int)] (wN cI ad) A s H locs M → lv_has ls 2 [(0, .ref (ad 1))] → W p l e R s m args below meth c H locs cells slots (MQ below (PI D [(cI, .int)] (wN cI ad) A res) args s cells slots A) (F0 m 0 ls []) := by
  have hx := C.1
  have hb := C.2.1
  have hown := C.2.2.2.2.1
  have hts := C.2.2.2.2.2.1
  intro M H locs ls hok hres h hl
  rw [ok_X1_close] at hok
  rw [f_X1_close] at hres
  refine lv_aload_n hx hb dX1_close_0 rfl (lv_at hl 0 rfl) ?_
  refine N_X1_isClosed_get (v := (M 10 0)) C h in_fX1_25 rfl dX1_close_1 ?_
  refine lv_if_eq (tgt := 9) hx hb dX1_close_4 (by decide) (fun c1 => ?_) (fun c1 => ?_)
  · have hres := it_p hres c1
    have hok := io_p hok c1
    refine lv_aload_n hx hb dX1_close_9 rfl (lv_at hl 0 rfl) ?_
    have h4 := hok
    refine wh_cvip (As := []) (rest := []) hcs C h (c_X1_firstFault M h4) yw_X1_firstFault in_mX1_38 hl.1 rfl rfl (Nat.le_of_ble_eq_true rfl) ⟨Nat.le_trans (Nat.le_of_ble_eq_true rfl) hrf, Nat.le_trans (Nat.le_of_ble_eq_true rfl) hrl⟩ dX1_close_10 (fun H locs h => ?_)
    refine lv_istore_n (lv' := [(1, .int (f_X1_firstFault M)), (0, .ref (ad 1))]) hx hb dX1_close_13 rfl hl (by decide) rfl (fun ls hl => ?_)
    refine lv_aload_n hx hb dX1_close_14 rfl (lv_at hl 1 rfl) ?_
    refine lv_iload_n hx hb dX1_close_15 rfl (lv_at hl 0 rfl) ?_
    refine lv_iconst (v := (-1 : Int32)) hx hb dX1_close_16 (by decide) ?_
    refine lv_icmp_ne (tgt := 24) hx hb dX1_close_17 (by decide) (fun c3 => ?_) (fun c3 => ?_)
    · have hres := it_n hres c3
      refine lv_iconst (v := (0 : Int32)) hx hb dX1_close_24 (by decide) ?_
      refine N_X1_isClosed_put (v := (0 : Int32)) (M2 := (ms M 10 (fun _ => (0 : Int32)))) C h in_fX1_25 nb_0 rfl dX1_close_25 (fun H locs h => ?_)
      refine lv_iload_n hx hb dX1_close_28 rfl (lv_at hl 0 rfl) ?_
      refine lv_iconst (v := (1 : Int32)) hx hb dX1_close_29 (by decide) ?_
      refine lv_iadd hx hb dX1_close_30 ?_
      exact wh_iret C h hres dX1_close_31
    · have hres := it_p hres c3
      refine lv_iconst (v := (1 : Int32)) hx hb dX1_close_20 (by decide) ?_
      refine lv_goto (tgt := 25) hx hb dX1_close_21 (by decide) ?_
      refine N_X1_isClosed_put (v := (1 : Int32)) (M2 := (ms M 10 (fun _ => (1 : Int32)))) C h in_fX1_25 nb_1 rfl dX1_close_25 (fun H locs h => ?_)
      refine lv_iload_n hx hb dX1_close_28 rfl (lv_at hl 0 rfl) ?_
      refine lv_iconst (v := (1 : Int32)) hx hb dX1_close_29 (by decide) ?_
      refine lv_iadd hx hb dX1_close_30 ?_
      exact wh_iret C h hres dX1_close_31
  · have hres := it_n hres c1
    refine lv_iconst (v := (0 : Int32)) hx hb dX1_close_7 (by decide) ?_
    exact wh_iret C h hres dX1_close_8
theorem yw_X1_close {cI : ClassId} {ad : Nat → Nat} : YV (wN cI ad) (ad 1) yX1_close cX1_close 2 (some .int) rmX1_close 0 := ⟨fun M => ⟨1, 1, _, _, rfl, rfl, rfl⟩, in_cX1_close, in_nX1_close, in_vX1_close, in_iX1, by decide +kernel, rfl, rfl⟩
theorem c_X1_close {l : Launch} {D : va_G} {cI : ClassId} {ad : Nat → Nat} (M : Mem) (hok : ok_X1_close M) : KI l D [(cI, .int)] (wN cI ad) yX1_close cX1_close 2 rmX1_close [.ref (ad 1)] M (f_X1_close M) := met_i (by decide) (Nat.le_of_ble_eq_true rfl) (fun p e s m below meth c A C h ls hl => k_X1_close_0 ⟨Nat.le_refl _, Nat.le_refl _⟩ (Nat.le_refl _) (Nat.le_refl _) C M _ _ ls hok rfl h hl)
