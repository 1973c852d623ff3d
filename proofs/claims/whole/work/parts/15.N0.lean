abbrev rmX0_begin : Room := { frames := 1, cells := 0, slots := 0, locals := 21 }
def f_X0_begin_29 : Nat → Mem → Int32 → Mem
  | 0, M, _ => M
  | n + 1, M, x2 => (if (8 : Int32) ≤ x2 then M else (f_X0_begin_29 n (ms M 25 (upd (M 25) x2.toNatClampNeg (0 : Int32))) (x2 + (1 : Int32))))
def ok_X0_begin_29 : Nat → Mem → Int32 → Prop
  | 0, _, _ => False
  | n + 1, M, x2 => (if (8 : Int32) ≤ x2 then True else vp_in x2 8 ∧ ok_X0_begin_29 n (ms M 25 (upd (M 25) x2.toNatClampNeg (0 : Int32))) (x2 + (1 : Int32)))
def f_X0_begin (M : Mem) (a1 : Int32) : Mem := (bv (f_X2_clear (ms (ms (ms (ms M 15 (fun _ => a1)) 16 (fun _ => (0 : Int32))) 17 (fun _ => (0 : Int32))) 19 (fun _ => (0 : Int32)))) (fun M1 => (f_X0_begin_29 9 M1 (0 : Int32))))
def ok_X0_begin (M : Mem) (a1 : Int32) : Prop := ok_X2_clear (ms (ms (ms (ms M 15 (fun _ => a1)) 16 (fun _ => (0 : Int32))) 17 (fun _ => (0 : Int32))) 19 (fun _ => (0 : Int32))) ∧ (bv (f_X2_clear (ms (ms (ms (ms M 15 (fun _ => a1)) 16 (fun _ => (0 : Int32))) 17 (fun _ => (0 : Int32))) 19 (fun _ => (0 : Int32)))) (fun M1 => ok_X0_begin_29 9 M1 (0 : Int32)))
set_option maxRecDepth 100000 in
set_option maxHeartbeats 4000000 in
theorem k_X0_begin_29 {p : Program} {l : Launch} {e : Env} {s : State} {m : MethodId} {args : Array Value} {below : List Frame} {meth : Method} {c : Code} {D : va_G} {cI : ClassId} {ad : Nat → Nat} {A : Nat → Prop} {cells slots : Nat} {R : Room} (hcs : cells ≤ R.cells ∧ slots ≤ R.slots) (hrf : rmX0_begin.frames ≤ R.frames) (hrl : rmX0_begin.locals ≤ R.locals) {res : Mem} (C : CX p s m args meth c RX0 cX0_begin 3 none) : ∀ (n : Nat) (M : Mem) (x2 : Int32) (H : Heap) (locs : List Loc) (ls : Array Slot), ok_X0_begin_29 n M x2 → f_X0_begin_29 n M x2 = res → WH D [(cI, .int)] (wN cI ad) A s H locs M → lv_has ls 3 [(0, .ref (ad 7)), (2, .int x2)] → W p l e R s m args below meth c H locs cells slots (MQ below (PV D [(cI, .int)] (wN cI ad) A res) args s cells slots A) (F0 m 29 ls []) := by
  have hx := C.1
  have hb := C.2.1
  have hown := C.2.2.2.2.1
  have hts := C.2.2.2.2.2.1
  intro n
  induction n with
  | zero =>
    intro M x2 H locs ls hok
    exact absurd hok (by intro z; exact z)
  | succ n ih =>
    intro M x2 H locs ls hok hres h hl
    rw [ok_X0_begin_29] at hok
    rw [f_X0_begin_29] at hres
    refine lv_iload_n hx hb dX0_begin_29 rfl (lv_at hl 1 rfl) ?_
    refine lv_bipush (v := (8 : Int32)) hx hb dX0_begin_30 (by decide) ?_
    refine lv_icmp_ge (tgt := 48) hx hb dX0_begin_32 (by decide) (fun c2 => ?_) (fun c2 => ?_)
    · have hres := it_p hres c2
      exact wh_vret C h hres dX0_begin_48
    · have hres := it_n hres c2
      have hok := io_n hok c2
      refine lv_aload_n hx hb dX0_begin_35 rfl (lv_at hl 0 rfl) ?_
      refine N_X0_registers_get C h in_fX0_28 dX0_begin_36 ?_
      refine lv_iload_n hx hb dX0_begin_39 rfl (lv_at hl 1 rfl) ?_
      refine lv_iconst (v := (0 : Int32)) hx hb dX0_begin_40 (by decide) ?_
      obtain ⟨h3, hok⟩ := hok
      refine N_rg_st (M2 := (ms M 25 (upd (M 25) x2.toNatClampNeg (0 : Int32)))) C h h3 rfl dX0_begin_41 (fun H locs h => ?_)
      refine lv_iinc (v := (x2 + (1 : Int32))) (lv' := [(2, .int (x2 + (1 : Int32))), (0, .ref (ad 7))]) hx hb dX0_begin_42 hl (k := 1) rfl rfl (by decide) rfl (fun ls hl => ?_)
      refine lv_goto (tgt := 29) hx hb dX0_begin_45 (by decide) ?_
      exact ih (ms M 25 (upd (M 25) x2.toNatClampNeg (0 : Int32))) (x2 + (1 : Int32)) _ _ _ hok hres h (lv_sub hl [1, 0] rfl)
set_option maxRecDepth 100000 in
set_option maxHeartbeats 4000000 in
theorem k_X0_begin_0 {p : Program} {l : Launch} {e : Env} {s : State} {m : MethodId} {args : Array Value} {below : List Frame} {meth : Method} {c : Code} {D : va_G} {cI : ClassId} {ad : Nat → Nat} {A : Nat → Prop} {cells slots : Nat} {R : Room} (hcs : cells ≤ R.cells ∧ slots ≤ R.slots) (hrf : rmX0_begin.frames ≤ R.frames) (hrl : rmX0_begin.locals ≤ R.locals) {res : Mem} (C : CX p s m args meth c RX0 cX0_begin 3 none) : ∀ (M : Mem) (a1 : Int32) (H : Heap) (locs : List Loc) (ls : Array Slot), ok_X0_begin M a1 → f_X0_begin M a1 = res → WH D [(cI, .int)] (wN cI ad) A s H locs M → lv_has ls 3 [(0, .ref (ad 7)), (1, .int a1)] → W p l e R s m args below meth c H locs cells slots (MQ below (PV D [(cI, .int)] (wN cI ad) A res) args s cells slots A) (F0 m 0 ls []) := by
  have hx := C.1
  have hb := C.2.1
  have hown := C.2.2.2.2.1
  have hts := C.2.2.2.2.2.1
  intro M a1 H locs ls hok hres h hl
  rw [ok_X0_begin] at hok
  rw [f_X0_begin] at hres
  refine lv_aload_n hx hb dX0_begin_0 rfl (lv_at hl 0 rfl) ?_
  refine lv_iload_n hx hb dX0_begin_1 rfl (lv_at hl 1 rfl) ?_
  refine N_X0_task_put (v := a1) (M2 := (ms M 15 (fun _ => a1))) C h in_fX0_31 rfl dX0_begin_2 (fun H locs h => ?_)
  refine lv_aload_n hx hb dX0_begin_5 rfl (lv_at hl 0 rfl) ?_
  refine lv_iconst (v := (0 : Int32)) hx hb dX0_begin_6 (by decide) ?_
  refine N_X0_next_put (v := (0 : Int32)) (M2 := (ms (ms M 15 (fun _ => a1)) 16 (fun _ => (0 : Int32)))) C h in_fX0_35 rfl dX0_begin_7 (fun H locs h => ?_)
  refine lv_aload_n hx hb dX0_begin_10 rfl (lv_at hl 0 rfl) ?_
  refine lv_iconst (v := (0 : Int32)) hx hb dX0_begin_11 (by decide) ?_
  refine N_X0_spent_put (v := (0 : Int32)) (M2 := (ms (ms (ms M 15 (fun _ => a1)) 16 (fun _ => (0 : Int32))) 17 (fun _ => (0 : Int32)))) C h in_fX0_38 rfl dX0_begin_12 (fun H locs h => ?_)
  refine lv_aload_n hx hb dX0_begin_15 rfl (lv_at hl 0 rfl) ?_
  refine lv_iconst (v := (0 : Int32)) hx hb dX0_begin_16 (by decide) ?_
  refine N_X0_isBound_put (v := (0 : Int32)) (M2 := (ms (ms (ms (ms M 15 (fun _ => a1)) 16 (fun _ => (0 : Int32))) 17 (fun _ => (0 : Int32))) 19 (fun _ => (0 : Int32)))) C h in_fX0_41 nb_0 rfl dX0_begin_17 (fun H locs h => ?_)
  refine lv_aload_n hx hb dX0_begin_20 rfl (lv_at hl 0 rfl) ?_
  refine N_X0_pending_get C h in_fX0_24 dX0_begin_21 ?_
  obtain ⟨h4, hok⟩ := hok
  refine wh_cvv (As := []) (rest := []) hcs C h (c_X2_clear (ms (ms (ms (ms M 15 (fun _ => a1)) 16 (fun _ => (0 : Int32))) 17 (fun _ => (0 : Int32))) 19 (fun _ => (0 : Int32))) h4) yw_X2_clear in_mX0_45 hl.1 rfl rfl (Nat.le_of_ble_eq_true rfl) ⟨Nat.le_trans (Nat.le_of_ble_eq_true rfl) hrf, Nat.le_trans (Nat.le_of_ble_eq_true rfl) hrl⟩ dX0_begin_24 (fun M1 H locs e1 h => ?_)
  rw [e1] at hres
  have hres := bv_e hres
  rw [e1] at hok
  have hok := bv_o hok
  refine lv_iconst (v := (0 : Int32)) hx hb dX0_begin_27 (by decide) ?_
  refine lv_istore_n (lv' := [(2, .int (0 : Int32)), (0, .ref (ad 7)), (1, .int a1)]) hx hb dX0_begin_28 rfl hl (by decide) rfl (fun ls hl => ?_)
  exact k_X0_begin_29 hcs hrf hrl C 9 M1 (0 : Int32) _ _ _ hok hres h (lv_sub hl [1, 0] rfl)
theorem yw_X0_begin {cI : ClassId} {ad : Nat → Nat} : YV (wN cI ad) (ad 7) yX0_begin cX0_begin 3 none rmX0_begin 1 := ⟨fun M => ⟨7, 0, _, _, rfl, rfl, rfl⟩, in_cX0_begin, in_nX0_begin, in_vX0_begin, in_iX0, by decide +kernel, rfl, rfl⟩
theorem c_X0_begin {l : Launch} {D : va_G} {cI : ClassId} {ad : Nat → Nat} (M : Mem) (a1 : Int32) (hok : ok_X0_begin M a1) : KV l D [(cI, .int)] (wN cI ad) yX0_begin cX0_begin 3 rmX0_begin [.ref (ad 7), .int a1] M (f_X0_begin M a1) := met_v (by decide) (Nat.le_of_ble_eq_true rfl) (fun p e s m below meth c A C h ls hl => k_X0_begin_0 ⟨Nat.le_refl _, Nat.le_refl _⟩ (Nat.le_refl _) (Nat.le_refl _) C M a1 _ _ ls hok rfl h hl)
abbrev rmX0_bind : Room := { frames := 0, cells := 0, slots := 0, locals := 0 }
def f_X0_bind (M : Mem) (a1 : Int32) : Mem := (ms (ms M 19 (fun _ => (1 : Int32))) 18 (fun _ => a1))
set_option maxRecDepth 100000 in
set_option maxHeartbeats 4000000 in
theorem k_X0_bind_0 {p : Program} {l : Launch} {e : Env} {s : State} {m : MethodId} {args : Array Value} {below : List Frame} {meth : Method} {c : Code} {D : va_G} {cI : ClassId} {ad : Nat → Nat} {A : Nat → Prop} {cells slots : Nat} {R : Room} (hcs : cells ≤ R.cells ∧ slots ≤ R.slots) (hrf : rmX0_bind.frames ≤ R.frames) (hrl : rmX0_bind.locals ≤ R.locals) {res : Mem} (C : CX p s m args meth c RX0 cX0_bind 2 none) : ∀ (M : Mem) (a1 : Int32) (H : Heap) (locs : List Loc) (ls : Array Slot), f_X0_bind M a1 = res → WH D [(cI, .int)] (wN cI ad) A s H locs M → lv_has ls 2 [(0, .ref (ad 7)), (1, .int a1)] → W p l e R s m args below meth c H locs cells slots (MQ below (PV D [(cI, .int)] (wN cI ad) A res) args s cells slots A) (F0 m 0 ls []) := by
  have hx := C.1
  have hb := C.2.1
  have hown := C.2.2.2.2.1
  have hts := C.2.2.2.2.2.1
  intro M a1 H locs ls hres h hl
  rw [f_X0_bind] at hres
  refine lv_aload_n hx hb dX0_bind_0 rfl (lv_at hl 0 rfl) ?_
  refine lv_iconst (v := (1 : Int32)) hx hb dX0_bind_1 (by decide) ?_
  refine N_X0_isBound_put (v := (1 : Int32)) (M2 := (ms M 19 (fun _ => (1 : Int32)))) C h in_fX0_41 nb_1 rfl dX0_bind_2 (fun H locs h => ?_)
  refine lv_aload_n hx hb dX0_bind_5 rfl (lv_at hl 0 rfl) ?_
  refine lv_iload_n hx hb dX0_bind_6 rfl (lv_at hl 1 rfl) ?_
  refine N_X0_boundSlot_put (v := a1) (M2 := (ms (ms M 19 (fun _ => (1 : Int32))) 18 (fun _ => a1))) C h in_fX0_48 rfl dX0_bind_7 (fun H locs h => ?_)
  exact wh_vret C h hres dX0_bind_10
theorem yw_X0_bind {cI : ClassId} {ad : Nat → Nat} : YV (wN cI ad) (ad 7) yX0_bind cX0_bind 2 none rmX0_bind 1 := ⟨fun M => ⟨7, 0, _, _, rfl, rfl, rfl⟩, in_cX0_bind, in_nX0_bind, in_vX0_bind, in_iX0, by decide +kernel, rfl, rfl⟩
theorem c_X0_bind {l : Launch} {D : va_G} {cI : ClassId} {ad : Nat → Nat} (M : Mem) (a1 : Int32) : KV l D [(cI, .int)] (wN cI ad) yX0_bind cX0_bind 2 rmX0_bind [.ref (ad 7), .int a1] M (f_X0_bind M a1) := met_v (by decide) (Nat.le_of_ble_eq_true rfl) (fun p e s m below meth c A C h ls hl => k_X0_bind_0 ⟨Nat.le_refl _, Nat.le_refl _⟩ (Nat.le_refl _) (Nat.le_refl _) C M a1 _ _ ls rfl h hl)
abbrev rmX0_isTooLate : Room := { frames := 0, cells := 0, slots := 0, locals := 0 }
def f_X0_isTooLate (M : Mem) (a1 a2 : Int32) : Int32 := (if (M 19 0) = 0 then (0 : Int32) else (if (a1 - (M 18 0)) ≤ a2 then (0 : Int32) else (1 : Int32)))
set_option maxRecDepth 100000 in
set_option maxHeartbeats 4000000 in
theorem k_X0_isTooLate_0 {p : Program} {l : Launch} {e : Env} {s : State} {m : MethodId} {args : Array Value} {below : List Frame} {meth : Method} {c : Code} {D : va_G} {cI : ClassId} {ad : Nat → Nat} {A : Nat → Prop} {cells slots : Nat} {R : Room} (hcs : cells ≤ R.cells ∧ slots ≤ R.slots) (hrf : rmX0_isTooLate.frames ≤ R.frames) (hrl : rmX0_isTooLate.locals ≤ R.locals) {r0 : Int32} (C : CX p s m args meth c RX0 cX0_isTooLate 3 (some .boolean)) : ∀ (M : Mem) (a1 a2 : Int32) (H : Heap) (locs : List Loc) (ls : Array Slot), f_X0_isTooLate M a1 a2 = r0 → WH D [(cI, .int)] (wN cI ad) A s H locs M → lv_has ls 3 [(0, .ref (ad 7)), (1, .int a1), (2, .int a2)] → W p l e R s m args below meth c H locs cells slots (MQ below (PZ D [(cI, .int)] (wN cI ad) A (M, r0)) args s cells slots A) (F0 m 0 ls []) := by
  have hx := C.1
  have hb := C.2.1
  have hown := C.2.2.2.2.1
  have hts := C.2.2.2.2.2.1
  intro M a1 a2 H locs ls hres h hl
  rw [f_X0_isTooLate] at hres
  refine lv_aload_n hx hb dX0_isTooLate_0 rfl (lv_at hl 0 rfl) ?_
  refine N_X0_isBound_get (v := (M 19 0)) C h in_fX0_41 rfl dX0_isTooLate_1 ?_
  refine lv_if_eq (tgt := 21) hx hb dX0_isTooLate_4 (by decide) (fun c1 => ?_) (fun c1 => ?_)
  · have hres := it_p hres c1
    refine lv_iconst (v := (0 : Int32)) hx hb dX0_isTooLate_21 (by decide) ?_
    exact wh_zret C h nb_0 (cz hres) dX0_isTooLate_22
  · have hres := it_n hres c1
    refine lv_iload_n hx hb dX0_isTooLate_7 rfl (lv_at hl 1 rfl) ?_
    refine lv_aload_n hx hb dX0_isTooLate_8 rfl (lv_at hl 0 rfl) ?_
    refine N_X0_boundSlot_get (v := (M 18 0)) C h in_fX0_48 rfl dX0_isTooLate_9 ?_
    refine lv_isub hx hb dX0_isTooLate_12 ?_
    refine lv_iload_n hx hb dX0_isTooLate_13 rfl (lv_at hl 2 rfl) ?_
    refine lv_icmp_le (tgt := 21) hx hb dX0_isTooLate_14 (by decide) (fun c2 => ?_) (fun c2 => ?_)
    · have hres := it_p hres c2
      refine lv_iconst (v := (0 : Int32)) hx hb dX0_isTooLate_21 (by decide) ?_
      exact wh_zret C h nb_0 (cz hres) dX0_isTooLate_22
    · have hres := it_n hres c2
      refine lv_iconst (v := (1 : Int32)) hx hb dX0_isTooLate_17 (by decide) ?_
      refine lv_goto (tgt := 22) hx hb dX0_isTooLate_18 (by decide) ?_
      exact wh_zret C h nb_1 (cz hres) dX0_isTooLate_22
theorem yw_X0_isTooLate {cI : ClassId} {ad : Nat → Nat} : YV (wN cI ad) (ad 7) yX0_isTooLate cX0_isTooLate 3 (some .boolean) rmX0_isTooLate 2 := ⟨fun M => ⟨7, 0, _, _, rfl, rfl, rfl⟩, in_cX0_isTooLate, in_nX0_isTooLate, in_vX0_isTooLate, in_iX0, by decide +kernel, rfl, rfl⟩
theorem c_X0_isTooLate {l : Launch} {D : va_G} {cI : ClassId} {ad : Nat → Nat} (M : Mem) (a1 a2 : Int32) : KZ l D [(cI, .int)] (wN cI ad) yX0_isTooLate cX0_isTooLate 3 rmX0_isTooLate [.ref (ad 7), .int a1, .int a2] M (M, f_X0_isTooLate M a1 a2) := met_z (by decide) (Nat.le_of_ble_eq_true rfl) (fun p e s m below meth c A C h ls hl => k_X0_isTooLate_0 ⟨Nat.le_refl _, Nat.le_refl _⟩ (Nat.le_refl _) (Nat.le_refl _) C M a1 a2 _ _ ls rfl h hl)
abbrev rmX0_writeIfRoom : Room := { frames := 1, cells := 0, slots := 0, locals := 22 }
def f_X0_writeIfRoom (M : Mem) (a1 a2 : Int32) : Mem := (if (f_X2_hasRoomFor M a1) = 0 then M else (bv (f_X2_write M a1 a2) (fun M3 => M3)))
def ok_X0_writeIfRoom (M : Mem) (a1 a2 : Int32) : Prop := ok_X2_hasRoomFor M a1 ∧ (if (f_X2_hasRoomFor M a1) = 0 then True else ok_X2_write M a1 a2)
set_option maxRecDepth 100000 in
set_option maxHeartbeats 4000000 in
theorem k_X0_writeIfRoom_0 {p : Program} {l : Launch} {e : Env} {s : State} {m : MethodId} {args : Array Value} {below : List Frame} {meth : Method} {c : Code} {D : va_G} {cI : ClassId} {ad : Nat → Nat} {A : Nat → Prop} {cells slots : Nat} {R : Room} (hcs : cells ≤ R.cells ∧ slots ≤ R.slots) (hrf : rmX0_writeIfRoom.frames ≤ R.frames) (hrl : rmX0_writeIfRoom.locals ≤ R.locals) {res : Mem} (C : CX p s m args meth c RX0 cX0_writeIfRoom 3 none) : ∀ (M : Mem) (a1 a2 : Int32) (H : Heap) (locs : List Loc) (ls : Array Slot), ok_X0_writeIfRoom M a1 a2 → f_X0_writeIfRoom M a1 a2 = res → WH D [(cI, .int)] (wN cI ad) A s H locs M → lv_has ls 3 [(0, .ref (ad 7)), (1, .int a1), (2, .int a2)] → W p l e R s m args below meth c H locs cells slots (MQ below (PV D [(cI, .int)] (wN cI ad) A res) args s cells slots A) (F0 m 0 ls []) := by
  have hx := C.1
  have hb := C.2.1
  have hown := C.2.2.2.2.1
  have hts := C.2.2.2.2.2.1
  intro M a1 a2 H locs ls hok hres h hl
  rw [ok_X0_writeIfRoom] at hok
  rw [f_X0_writeIfRoom] at hres
  refine lv_aload_n hx hb dX0_writeIfRoom_0 rfl (lv_at hl 0 rfl) ?_
  refine N_X0_pending_get C h in_fX0_24 dX0_writeIfRoom_1 ?_
  refine lv_iload_n hx hb dX0_writeIfRoom_4 rfl (lv_at hl 1 rfl) ?_
  obtain ⟨h5, hok⟩ := hok
  refine wh_cvzp (As := [.int a1]) (rest := []) hcs C h (c_X2_hasRoomFor M a1 h5) yw_X2_hasRoomFor in_mX0_89 hl.1 rfl rfl (Nat.le_of_ble_eq_true rfl) ⟨Nat.le_trans (Nat.le_of_ble_eq_true rfl) hrf, Nat.le_trans (Nat.le_of_ble_eq_true rfl) hrl⟩ dX0_writeIfRoom_5 (fun H locs z1 h => ?_)
  refine lv_if_eq (tgt := 20) hx hb dX0_writeIfRoom_8 (by decide) (fun c2 => ?_) (fun c2 => ?_)
  · have hres := it_p hres c2
    exact wh_vret C h hres dX0_writeIfRoom_20
  · have hres := it_n hres c2
    have hok := io_n hok c2
    refine lv_aload_n hx hb dX0_writeIfRoom_11 rfl (lv_at hl 0 rfl) ?_
    refine N_X0_pending_get C h in_fX0_24 dX0_writeIfRoom_12 ?_
    refine lv_iload_n hx hb dX0_writeIfRoom_15 rfl (lv_at hl 1 rfl) ?_
    refine lv_iload_n hx hb dX0_writeIfRoom_16 rfl (lv_at hl 2 rfl) ?_
    have h4 := hok
    refine wh_cvv (As := [.int a1, .int a2]) (rest := []) hcs C h (c_X2_write M a1 a2 h4) yw_X2_write in_mX0_93 hl.1 rfl rfl (Nat.le_of_ble_eq_true rfl) ⟨Nat.le_trans (Nat.le_of_ble_eq_true rfl) hrf, Nat.le_trans (Nat.le_of_ble_eq_true rfl) hrl⟩ dX0_writeIfRoom_17 (fun M3 H locs e3 h => ?_)
    rw [e3] at hres
    have hres := bv_e hres
    exact wh_vret C h hres dX0_writeIfRoom_20
theorem yw_X0_writeIfRoom {cI : ClassId} {ad : Nat → Nat} : YV (wN cI ad) (ad 7) yX0_writeIfRoom cX0_writeIfRoom 3 none rmX0_writeIfRoom 2 := ⟨fun M => ⟨7, 0, _, _, rfl, rfl, rfl⟩, in_cX0_writeIfRoom, in_nX0_writeIfRoom, in_vX0_writeIfRoom, in_iX0, by decide +kernel, rfl, rfl⟩
theorem c_X0_writeIfRoom {l : Launch} {D : va_G} {cI : ClassId} {ad : Nat → Nat} (M : Mem) (a1 a2 : Int32) (hok : ok_X0_writeIfRoom M a1 a2) : KV l D [(cI, .int)] (wN cI ad) yX0_writeIfRoom cX0_writeIfRoom 3 rmX0_writeIfRoom [.ref (ad 7), .int a1, .int a2] M (f_X0_writeIfRoom M a1 a2) := met_v (by decide) (Nat.le_of_ble_eq_true rfl) (fun p e s m below meth c A C h ls hl => k_X0_writeIfRoom_0 ⟨Nat.le_refl _, Nat.le_refl _⟩ (Nat.le_refl _) (Nat.le_refl _) C M a1 a2 _ _ ls hok rfl h hl)
abbrev rmX0_wordOfRow : Room := { frames := 0, cells := 0, slots := 0, locals := 0 }
def f_X0_wordOfRow (M : Mem) (a1 a2 : Int32) : Int32 := (((24 : Int32) + (a1 * (8 : Int32))) + (a2 &&& (7 : Int32)))
set_option maxRecDepth 100000 in
set_option maxHeartbeats 4000000 in
theorem k_X0_wordOfRow_0 {p : Program} {l : Launch} {e : Env} {s : State} {m : MethodId} {args : Array Value} {below : List Frame} {meth : Method} {c : Code} {D : va_G} {cI : ClassId} {ad : Nat → Nat} {A : Nat → Prop} {cells slots : Nat} {R : Room} (hcs : cells ≤ R.cells ∧ slots ≤ R.slots) (hrf : rmX0_wordOfRow.frames ≤ R.frames) (hrl : rmX0_wordOfRow.locals ≤ R.locals) {r0 : Int32} (C : CX p s m args meth c RX0 cX0_wordOfRow 2 (some .int)) : ∀ (M : Mem) (a1 a2 : Int32) (H : Heap) (locs : List Loc) (ls : Array Slot), f_X0_wordOfRow M a1 a2 = r0 → WH D [(cI, .int)] (wN cI ad) A s H locs M → lv_has ls 2 [(0, .int a1), (1, .int a2)] → W p l e R s m args below meth c H locs cells slots (MQ below (PI D [(cI, .int)] (wN cI ad) A (M, r0)) args s cells slots A) (F0 m 0 ls []) := by
  have hx := C.1
  have hb := C.2.1
  have hown := C.2.2.2.2.1
  have hts := C.2.2.2.2.2.1
  intro M a1 a2 H locs ls hres h hl
  rw [f_X0_wordOfRow] at hres
  refine lv_bipush (v := (24 : Int32)) hx hb dX0_wordOfRow_0 (by decide) ?_
  refine lv_iload_n hx hb dX0_wordOfRow_2 rfl (lv_at hl 0 rfl) ?_
  refine lv_bipush (v := (8 : Int32)) hx hb dX0_wordOfRow_3 (by decide) ?_
  refine lv_imul hx hb dX0_wordOfRow_5 ?_
  refine lv_iadd hx hb dX0_wordOfRow_6 ?_
  refine lv_iload_n hx hb dX0_wordOfRow_7 rfl (lv_at hl 1 rfl) ?_
  refine lv_bipush (v := (7 : Int32)) hx hb dX0_wordOfRow_8 (by decide) ?_
  refine lv_iand hx hb dX0_wordOfRow_10 ?_
  refine lv_iadd hx hb dX0_wordOfRow_11 ?_
  exact wh_iret C h (cz hres) dX0_wordOfRow_12
theorem yw_X0_wordOfRow : YS yX0_wordOfRow cX0_wordOfRow 2 (some .int) rmX0_wordOfRow 2 := ⟨in_cX0_wordOfRow, in_sX0_wordOfRow, in_iX0, by decide +kernel, rfl, rfl⟩
theorem c_X0_wordOfRow {l : Launch} {D : va_G} {cI : ClassId} {ad : Nat → Nat} (M : Mem) (a1 a2 : Int32) : KI l D [(cI, .int)] (wN cI ad) yX0_wordOfRow cX0_wordOfRow 2 rmX0_wordOfRow [.int a1, .int a2] M (M, f_X0_wordOfRow M a1 a2) := met_i (by decide) (Nat.le_of_ble_eq_true rfl) (fun p e s m below meth c A C h ls hl => k_X0_wordOfRow_0 ⟨Nat.le_refl _, Nat.le_refl _⟩ (Nat.le_refl _) (Nat.le_refl _) C M a1 a2 _ _ ls rfl h hl)
abbrev rmX0_placeOfQueue : Room := { frames := 0, cells := 0, slots := 0, locals := 0 }
def f_X0_placeOfQueue (M : Mem) (a1 a2 : Int32) : Int32 := ((a1 + (2 : Int32)) + (a2 &&& (3 : Int32)))
set_option maxRecDepth 100000 in
set_option maxHeartbeats 4000000 in
theorem k_X0_placeOfQueue_0 {p : Program} {l : Launch} {e : Env} {s : State} {m : MethodId} {args : Array Value} {below : List Frame} {meth : Method} {c : Code} {D : va_G} {cI : ClassId} {ad : Nat → Nat} {A : Nat → Prop} {cells slots : Nat} {R : Room} (hcs : cells ≤ R.cells ∧ slots ≤ R.slots) (hrf : rmX0_placeOfQueue.frames ≤ R.frames) (hrl : rmX0_placeOfQueue.locals ≤ R.locals) {r0 : Int32} (C : CX p s m args meth c RX0 cX0_placeOfQueue 2 (some .int)) : ∀ (M : Mem) (a1 a2 : Int32) (H : Heap) (locs : List Loc) (ls : Array Slot), f_X0_placeOfQueue M a1 a2 = r0 → WH D [(cI, .int)] (wN cI ad) A s H locs M → lv_has ls 2 [(0, .int a1), (1, .int a2)] → W p l e R s m args below meth c H locs cells slots (MQ below (PI D [(cI, .int)] (wN cI ad) A (M, r0)) args s cells slots A) (F0 m 0 ls []) := by
  have hx := C.1
  have hb := C.2.1
  have hown := C.2.2.2.2.1
  have hts := C.2.2.2.2.2.1
  intro M a1 a2 H locs ls hres h hl
  rw [f_X0_placeOfQueue] at hres
  refine lv_iload_n hx hb dX0_placeOfQueue_0 rfl (lv_at hl 0 rfl) ?_
  refine lv_iconst (v := (2 : Int32)) hx hb dX0_placeOfQueue_1 (by decide) ?_
  refine lv_iadd hx hb dX0_placeOfQueue_2 ?_
  refine lv_iload_n hx hb dX0_placeOfQueue_3 rfl (lv_at hl 1 rfl) ?_
  refine lv_iconst (v := (3 : Int32)) hx hb dX0_placeOfQueue_4 (by decide) ?_
  refine lv_iand hx hb dX0_placeOfQueue_5 ?_
  refine lv_iadd hx hb dX0_placeOfQueue_6 ?_
  exact wh_iret C h (cz hres) dX0_placeOfQueue_7
theorem yw_X0_placeOfQueue : YS yX0_placeOfQueue cX0_placeOfQueue 2 (some .int) rmX0_placeOfQueue 2 := ⟨in_cX0_placeOfQueue, in_sX0_placeOfQueue, in_iX0, by decide +kernel, rfl, rfl⟩
theorem c_X0_placeOfQueue {l : Launch} {D : va_G} {cI : ClassId} {ad : Nat → Nat} (M : Mem) (a1 a2 : Int32) : KI l D [(cI, .int)] (wN cI ad) yX0_placeOfQueue cX0_placeOfQueue 2 rmX0_placeOfQueue [.int a1, .int a2] M (M, f_X0_placeOfQueue M a1 a2) := met_i (by decide) (Nat.le_of_ble_eq_true rfl) (fun p e s m below meth c A C h ls hl => k_X0_placeOfQueue_0 ⟨Nat.le_refl _, Nat.le_refl _⟩ (Nat.le_refl _) (Nat.le_refl _) C M a1 a2 _ _ ls rfl h hl)
abbrev rmX0_writeBothIfRoom : Room := { frames := 1, cells := 0, slots := 0, locals := 23 }
def f_X0_writeBothIfRoom (M : Mem) (a1 a2 a3 a4 : Int32) : Mem × Int32 := (if (f_X2_hasRoomForBoth M a1 a3) = 0 then (M, (0 : Int32)) else (bv (f_X2_write M a1 a2) (fun M3 => (bv (f_X2_write M3 a3 a4) (fun M4 => (M4, (1 : Int32)))))))
def ok_X0_writeBothIfRoom (M : Mem) (a1 a2 a3 a4 : Int32) : Prop := ok_X2_hasRoomForBoth M a1 a3 ∧ (if (f_X2_hasRoomForBoth M a1 a3) = 0 then True else ok_X2_write M a1 a2 ∧ (bv (f_X2_write M a1 a2) (fun M3 => ok_X2_write M3 a3 a4)))
set_option maxRecDepth 100000 in
set_option maxHeartbeats 4000000 in
theorem k_X0_writeBothIfRoom_0 {p : Program} {l : Launch} {e : Env} {s : State} {m : MethodId} {args : Array Value} {below : List Frame} {meth : Method} {c : Code} {D : va_G} {cI : ClassId} {ad : Nat → Nat} {A : Nat → Prop} {cells slots : Nat} {R : Room} (hcs : cells ≤ R.cells ∧ slots ≤ R.slots) (hrf : rmX0_writeBothIfRoom.frames ≤ R.frames) (hrl : rmX0_writeBothIfRoom.locals ≤ R.locals) {res : Mem × Int32} (C : CX p s m args meth c RX0 cX0_writeBothIfRoom 5 (some .boolean)) : ∀ (M : Mem) (a1 a2 a3 a4 : Int32) (H : Heap) (locs : List Loc) (ls : Array Slot), ok_X0_writeBothIfRoom M a1 a2 a3 a4 → f_X0_writeBothIfRoom M a1 a2 a3 a4 = res → WH D [(cI, .int)] (wN cI ad) A s H locs M → lv_has ls 5 [(0, .ref (ad 7)), (1, .int a1), (2, .int a2), (3, .int a3), (4, .int a4)] → W p l e R s m args below meth c H locs cells slots (MQ below (PZ D [(cI, .int)] (wN cI ad) A res) args s cells slots A) (F0 m 0 ls []) := by
  have hx := C.1
  have hb := C.2.1
  have hown := C.2.2.2.2.1
  have hts := C.2.2.2.2.2.1
  intro M a1 a2 a3 a4 H locs ls hok hres h hl
  rw [ok_X0_writeBothIfRoom] at hok
  rw [f_X0_writeBothIfRoom] at hres
  refine lv_aload_n hx hb dX0_writeBothIfRoom_0 rfl (lv_at hl 0 rfl) ?_
  refine N_X0_pending_get C h in_fX0_24 dX0_writeBothIfRoom_1 ?_
  refine lv_iload_n hx hb dX0_writeBothIfRoom_4 rfl (lv_at hl 1 rfl) ?_
  refine lv_iload_n hx hb dX0_writeBothIfRoom_5 rfl (lv_at hl 3 rfl) ?_
  obtain ⟨h7, hok⟩ := hok
  refine wh_cvzp (As := [.int a1, .int a3]) (rest := []) hcs C h (c_X2_hasRoomForBoth M a1 a3 h7) yw_X2_hasRoomForBoth in_mX0_96 hl.1 rfl rfl (Nat.le_of_ble_eq_true rfl) ⟨Nat.le_trans (Nat.le_of_ble_eq_true rfl) hrf, Nat.le_trans (Nat.le_of_ble_eq_true rfl) hrl⟩ dX0_writeBothIfRoom_6 (fun H locs z1 h => ?_)
  refine lv_if_ne (tgt := 14) hx hb dX0_writeBothIfRoom_9 (by decide) (fun c2 => ?_) (fun c2 => ?_)
  · have hres := it_n hres c2
    have hok := io_n hok c2
    refine lv_aload_n hx hb dX0_writeBothIfRoom_14 rfl (lv_at hl 0 rfl) ?_
    refine N_X0_pending_get C h in_fX0_24 dX0_writeBothIfRoom_15 ?_
    refine lv_iload_n hx hb dX0_writeBothIfRoom_18 rfl (lv_at hl 1 rfl) ?_
    refine lv_iload_n hx hb dX0_writeBothIfRoom_19 rfl (lv_at hl 2 rfl) ?_
    obtain ⟨h6, hok⟩ := hok
    refine wh_cvv (As := [.int a1, .int a2]) (rest := []) hcs C h (c_X2_write M a1 a2 h6) yw_X2_write in_mX0_93 hl.1 rfl rfl (Nat.le_of_ble_eq_true rfl) ⟨Nat.le_trans (Nat.le_of_ble_eq_true rfl) hrf, Nat.le_trans (Nat.le_of_ble_eq_true rfl) hrl⟩ dX0_writeBothIfRoom_20 (fun M3 H locs e3 h => ?_)
    rw [e3] at hres
    have hres := bv_e hres
    rw [e3] at hok
    have hok := bv_o hok
    refine lv_aload_n hx hb dX0_writeBothIfRoom_23 rfl (lv_at hl 0 rfl) ?_
    refine N_X0_pending_get C h in_fX0_24 dX0_writeBothIfRoom_24 ?_
    refine lv_iload_n hx hb dX0_writeBothIfRoom_27 rfl (lv_at hl 3 rfl) ?_
    refine lv_iload hx hb dX0_writeBothIfRoom_28 (lv_at hl 4 rfl) ?_
    have h5 := hok
    refine wh_cvv (As := [.int a3, .int a4]) (rest := []) hcs C h (c_X2_write M3 a3 a4 h5) yw_X2_write in_mX0_93 hl.1 rfl rfl (Nat.le_of_ble_eq_true rfl) ⟨Nat.le_trans (Nat.le_of_ble_eq_true rfl) hrf, Nat.le_trans (Nat.le_of_ble_eq_true rfl) hrl⟩ dX0_writeBothIfRoom_30 (fun M4 H locs e4 h => ?_)
    rw [e4] at hres
    have hres := bv_e hres
    refine lv_iconst (v := (1 : Int32)) hx hb dX0_writeBothIfRoom_33 (by decide) ?_
    exact wh_zret C h nb_1 hres dX0_writeBothIfRoom_34
  · have hres := it_p hres c2
    refine lv_iconst (v := (0 : Int32)) hx hb dX0_writeBothIfRoom_12 (by decide) ?_
    exact wh_zret C h nb_0 hres dX0_writeBothIfRoom_13
theorem yw_X0_writeBothIfRoom {cI : ClassId} {ad : Nat → Nat} : YV (wN cI ad) (ad 7) yX0_writeBothIfRoom cX0_writeBothIfRoom 5 (some .boolean) rmX0_writeBothIfRoom 4 := ⟨fun M => ⟨7, 0, _, _, rfl, rfl, rfl⟩, in_cX0_writeBothIfRoom, in_nX0_writeBothIfRoom, in_vX0_writeBothIfRoom, in_iX0, by decide +kernel, rfl, rfl⟩
theorem c_X0_writeBothIfRoom {l : Launch} {D : va_G} {cI : ClassId} {ad : Nat → Nat} (M : Mem) (a1 a2 a3 a4 : Int32) (hok : ok_X0_writeBothIfRoom M a1 a2 a3 a4) : KZ l D [(cI, .int)] (wN cI ad) yX0_writeBothIfRoom cX0_writeBothIfRoom 5 rmX0_writeBothIfRoom [.ref (ad 7), .int a1, .int a2, .int a3, .int a4] M (f_X0_writeBothIfRoom M a1 a2 a3 a4) := met_z (by decide) (Nat.le_of_ble_eq_true rfl) (fun p e s m below meth c A C h ls hl => k_X0_writeBothIfRoom_0 ⟨Nat.le_refl _, Nat.le_refl _⟩ (Nat.le_refl _) (Nat.le_refl _) C M a1 a2 a3 a4 _ _ ls hok rfl h hl)
abbrev rmX0_push : Room := { frames := 2, cells := 0, slots := 0, locals := 47 }
def f_X0_push_55 (M : Mem) (t0 : Int32) : Mem := (if t0 = 0 then (ms M 25 (upd (M 25) 7 (0 : Int32))) else (ms M 25 (upd (M 25) 7 (1 : Int32))))
def f_X0_push_54 (M : Mem) : Mem := (f_X0_push_55 M (0 : Int32))
def f_X0_push (M : Mem) (a1 a2 : Int32) : Mem := (if (4 : Int32) ≤ (f_X2_read M (a2 + (1 : Int32))) then (f_X0_push_54 M) else (bc (f_X0_writeBothIfRoom M (f_X0_placeOfQueue M a2 ((f_X2_read M a2) + (f_X2_read M (a2 + (1 : Int32))))) a1 (a2 + (1 : Int32)) ((f_X2_read M (a2 + (1 : Int32))) + (1 : Int32))) (fun M6 r6 => (if r6 = 0 then (f_X0_push_54 M6) else (f_X0_push_55 M6 (1 : Int32))))))
def ok_X0_push (M : Mem) (a1 a2 : Int32) : Prop := ok_X2_read M a2 ∧ ok_X2_read M (a2 + (1 : Int32)) ∧ (if (4 : Int32) ≤ (f_X2_read M (a2 + (1 : Int32))) then True else ok_X0_writeBothIfRoom M (f_X0_placeOfQueue M a2 ((f_X2_read M a2) + (f_X2_read M (a2 + (1 : Int32))))) a1 (a2 + (1 : Int32)) ((f_X2_read M (a2 + (1 : Int32))) + (1 : Int32)))
set_option maxRecDepth 100000 in
set_option maxHeartbeats 4000000 in
theorem k_X0_push_55 {p : Program} {l : Launch} {e : Env} {s : State} {m : MethodId} {args : Array Value} {below : List Frame} {meth : Method} {c : Code} {D : va_G} {cI : ClassId} {ad : Nat → Nat} {A : Nat → Prop} {cells slots : Nat} {R : Room} (hcs : cells ≤ R.cells ∧ slots ≤ R.slots) (hrf : rmX0_push.frames ≤ R.frames) (hrl : rmX0_push.locals ≤ R.locals) {res : Mem} (C : CX p s m args meth c RX0 cX0_push 6 none) : ∀ (M : Mem) (t0 : Int32) (H : Heap) (locs : List Loc) (ls : Array Slot), f_X0_push_55 M t0 = res → WH D [(cI, .int)] (wN cI ad) A s H locs M → lv_has ls 6 [(0, .ref (ad 7))] → W p l e R s m args below meth c H locs cells slots (MQ below (PV D [(cI, .int)] (wN cI ad) A res) args s cells slots A) (F0 m 55 ls [.int t0]) := by
  have hx := C.1
  have hb := C.2.1
  have hown := C.2.2.2.2.1
  have hts := C.2.2.2.2.2.1
  intro M t0 H locs ls hres h hl
  rw [f_X0_push_55] at hres
  refine lv_istore (lv' := [(5, .int t0), (0, .ref (ad 7))]) hx hb dX0_push_55 hl (by decide) rfl (fun ls hl => ?_)
  refine lv_aload_n hx hb dX0_push_57 rfl (lv_at hl 1 rfl) ?_
  refine N_X0_registers_get C h in_fX0_28 dX0_push_58 ?_
  refine lv_bipush (v := (7 : Int32)) hx hb dX0_push_61 (by decide) ?_
  refine lv_iload hx hb dX0_push_63 (lv_at hl 0 rfl) ?_
  refine lv_if_eq (tgt := 72) hx hb dX0_push_65 (by decide) (fun c4 => ?_) (fun c4 => ?_)
  · have hres := it_p hres c4
    refine lv_iconst (v := (0 : Int32)) hx hb dX0_push_72 (by decide) ?_
    refine N_rg_st (M2 := (ms M 25 (upd (M 25) 7 (0 : Int32)))) C h (vp_l (by decide)) rfl dX0_push_73 (fun H locs h => ?_)
    exact wh_vret C h hres dX0_push_74
  · have hres := it_n hres c4
    refine lv_iconst (v := (1 : Int32)) hx hb dX0_push_68 (by decide) ?_
    refine lv_goto (tgt := 73) hx hb dX0_push_69 (by decide) ?_
    refine N_rg_st (M2 := (ms M 25 (upd (M 25) 7 (1 : Int32)))) C h (vp_l (by decide)) rfl dX0_push_73 (fun H locs h => ?_)
    exact wh_vret C h hres dX0_push_74
set_option maxRecDepth 100000 in
set_option maxHeartbeats 4000000 in
theorem k_X0_push_54 {p : Program} {l : Launch} {e : Env} {s : State} {m : MethodId} {args : Array Value} {below : List Frame} {meth : Method} {c : Code} {D : va_G} {cI : ClassId} {ad : Nat → Nat} {A : Nat → Prop} {cells slots : Nat} {R : Room} (hcs : cells ≤ R.cells ∧ slots ≤ R.slots) (hrf : rmX0_push.frames ≤ R.frames) (hrl : rmX0_push.locals ≤ R.locals) {res : Mem} (C : CX p s m args meth c RX0 cX0_push 6 none) : ∀ (M : Mem) (H : Heap) (locs : List Loc) (ls : Array Slot), f_X0_push_54 M = res → WH D [(cI, .int)] (wN cI ad) A s H locs M → lv_has ls 6 [(0, .ref (ad 7))] → W p l e R s m args below meth c H locs cells slots (MQ below (PV D [(cI, .int)] (wN cI ad) A res) args s cells slots A) (F0 m 54 ls []) := by
  have hx := C.1
  have hb := C.2.1
  have hown := C.2.2.2.2.1
  have hts := C.2.2.2.2.2.1
  intro M H locs ls hres h hl
  rw [f_X0_push_54] at hres
  refine lv_iconst (v := (0 : Int32)) hx hb dX0_push_54 (by decide) ?_
  exact k_X0_push_55 hcs hrf hrl C M (0 : Int32) _ _ _  hres h (lv_sub hl [0] rfl)
set_option maxRecDepth 100000 in
set_option maxHeartbeats 4000000 in
theorem k_X0_push_0 {p : Program} {l : Launch} {e : Env} {s : State} {m : MethodId} {args : Array Value} {below : List Frame} {meth : Method} {c : Code} {D : va_G} {cI : ClassId} {ad : Nat → Nat} {A : Nat → Prop} {cells slots : Nat} {R : Room} (hcs : cells ≤ R.cells ∧ slots ≤ R.slots) (hrf : rmX0_push.frames ≤ R.frames) (hrl : rmX0_push.locals ≤ R.locals) {res : Mem} (C : CX p s m args meth c RX0 cX0_push 6 none) : ∀ (M : Mem) (a1 a2 : Int32) (H : Heap) (locs : List Loc) (ls : Array Slot), ok_X0_push M a1 a2 → f_X0_push M a1 a2 = res → WH D [(cI, .int)] (wN cI ad) A s H locs M → lv_has ls 6 [(0, .ref (ad 7)), (1, .int a1), (2, .int a2)] → W p l e R s m args below meth c H locs cells slots (MQ below (PV D [(cI, .int)] (wN cI ad) A res) args s cells slots A) (F0 m 0 ls []) := by
  have hx := C.1
  have hb := C.2.1
  have hown := C.2.2.2.2.1
  have hts := C.2.2.2.2.2.1
  intro M a1 a2 H locs ls hok hres h hl
  rw [ok_X0_push] at hok
  rw [f_X0_push] at hres
  refine lv_aload_n hx hb dX0_push_0 rfl (lv_at hl 0 rfl) ?_
  refine N_X0_pending_get C h in_fX0_24 dX0_push_1 ?_
  refine lv_iload_n hx hb dX0_push_4 rfl (lv_at hl 2 rfl) ?_
  obtain ⟨h10, hok⟩ := hok
  refine wh_cvip (As := [.int a2]) (rest := []) hcs C h (c_X2_read M a2 h10) yw_X2_read in_mX0_68 hl.1 rfl rfl (Nat.le_of_ble_eq_true rfl) ⟨Nat.le_trans (Nat.le_of_ble_eq_true rfl) hrf, Nat.le_trans (Nat.le_of_ble_eq_true rfl) hrl⟩ dX0_push_5 (fun H locs h => ?_)
  refine lv_istore_n (lv' := [(3, .int (f_X2_read M a2)), (0, .ref (ad 7)), (1, .int a1), (2, .int a2)]) hx hb dX0_push_8 rfl hl (by decide) rfl (fun ls hl => ?_)
  refine lv_aload_n hx hb dX0_push_9 rfl (lv_at hl 1 rfl) ?_
  refine N_X0_pending_get C h in_fX0_24 dX0_push_10 ?_
  refine lv_iload_n hx hb dX0_push_13 rfl (lv_at hl 3 rfl) ?_
  refine lv_iconst (v := (1 : Int32)) hx hb dX0_push_14 (by decide) ?_
  refine lv_iadd hx hb dX0_push_15 ?_
  obtain ⟨h9, hok⟩ := hok
  refine wh_cvip (As := [.int (a2 + (1 : Int32))]) (rest := []) hcs C h (c_X2_read M (a2 + (1 : Int32)) h9) yw_X2_read in_mX0_68 hl.1 rfl rfl (Nat.le_of_ble_eq_true rfl) ⟨Nat.le_trans (Nat.le_of_ble_eq_true rfl) hrf, Nat.le_trans (Nat.le_of_ble_eq_true rfl) hrl⟩ dX0_push_16 (fun H locs h => ?_)
  refine lv_istore (lv' := [(4, .int (f_X2_read M (a2 + (1 : Int32)))), (3, .int (f_X2_read M a2)), (0, .ref (ad 7)), (1, .int a1), (2, .int a2)]) hx hb dX0_push_19 hl (by decide) rfl (fun ls hl => ?_)
  refine lv_iload hx hb dX0_push_21 (lv_at hl 0 rfl) ?_
  refine lv_iconst (v := (4 : Int32)) hx hb dX0_push_23 (by decide) ?_
  refine lv_icmp_ge (tgt := 54) hx hb dX0_push_24 (by decide) (fun c3 => ?_) (fun c3 => ?_)
  · have hres := it_p hres c3
    exact k_X0_push_54 hcs hrf hrl C M _ _ _  hres h (lv_sub hl [2] rfl)
  · have hres := it_n hres c3
    have hok := io_n hok c3
    refine lv_aload_n hx hb dX0_push_27 rfl (lv_at hl 2 rfl) ?_
    refine lv_iload_n hx hb dX0_push_28 rfl (lv_at hl 4 rfl) ?_
    refine lv_iload_n hx hb dX0_push_29 rfl (lv_at hl 1 rfl) ?_
    refine lv_iload hx hb dX0_push_30 (lv_at hl 0 rfl) ?_
    refine lv_iadd hx hb dX0_push_32 ?_
    refine wh_csip (As := [.int a2, .int ((f_X2_read M a2) + (f_X2_read M (a2 + (1 : Int32))))]) (rest := [.ref (ad 7)]) hcs C h (c_X0_placeOfQueue M a2 ((f_X2_read M a2) + (f_X2_read M (a2 + (1 : Int32))))) yw_X0_placeOfQueue in_mX0_100 hl.1 rfl rfl (Nat.le_of_ble_eq_true rfl) ⟨Nat.le_trans (Nat.le_of_ble_eq_true rfl) hrf, Nat.le_trans (Nat.le_of_ble_eq_true rfl) hrl⟩ dX0_push_33 (fun H locs h => ?_)
    refine lv_iload_n hx hb dX0_push_36 rfl (lv_at hl 3 rfl) ?_
    refine lv_iload_n hx hb dX0_push_37 rfl (lv_at hl 4 rfl) ?_
    refine lv_iconst (v := (1 : Int32)) hx hb dX0_push_38 (by decide) ?_
    refine lv_iadd hx hb dX0_push_39 ?_
    refine lv_iload hx hb dX0_push_40 (lv_at hl 0 rfl) ?_
    refine lv_iconst (v := (1 : Int32)) hx hb dX0_push_42 (by decide) ?_
    refine lv_iadd hx hb dX0_push_43 ?_
    have h8 := hok
    refine wh_cvz (As := [.int (f_X0_placeOfQueue M a2 ((f_X2_read M a2) + (f_X2_read M (a2 + (1 : Int32))))), .int a1, .int (a2 + (1 : Int32)), .int ((f_X2_read M (a2 + (1 : Int32))) + (1 : Int32))]) (rest := []) hcs C h (c_X0_writeBothIfRoom M (f_X0_placeOfQueue M a2 ((f_X2_read M a2) + (f_X2_read M (a2 + (1 : Int32))))) a1 (a2 + (1 : Int32)) ((f_X2_read M (a2 + (1 : Int32))) + (1 : Int32)) h8) yw_X0_writeBothIfRoom in_mX0_103 hl.1 rfl rfl (Nat.le_of_ble_eq_true rfl) ⟨Nat.le_trans (Nat.le_of_ble_eq_true rfl) hrf, Nat.le_trans (Nat.le_of_ble_eq_true rfl) hrl⟩ dX0_push_44 (fun M6 r6 H locs e6 z6 h => ?_)
    rw [e6] at hres
    have hres := bc_e hres
    refine lv_if_eq (tgt := 54) hx hb dX0_push_47 (by decide) (fun c7 => ?_) (fun c7 => ?_)
    · have hres := it_p hres c7
      exact k_X0_push_54 hcs hrf hrl C M6 _ _ _  hres h (lv_sub hl [2] rfl)
    · have hres := it_n hres c7
      refine lv_iconst (v := (1 : Int32)) hx hb dX0_push_50 (by decide) ?_
      refine lv_goto (tgt := 55) hx hb dX0_push_51 (by decide) ?_
      exact k_X0_push_55 hcs hrf hrl C M6 (1 : Int32) _ _ _  hres h (lv_sub hl [2] rfl)
theorem yw_X0_push {cI : ClassId} {ad : Nat → Nat} : YV (wN cI ad) (ad 7) yX0_push cX0_push 6 none rmX0_push 2 := ⟨fun M => ⟨7, 0, _, _, rfl, rfl, rfl⟩, in_cX0_push, in_nX0_push, in_vX0_push, in_iX0, by decide +kernel, rfl, rfl⟩
theorem c_X0_push {l : Launch} {D : va_G} {cI : ClassId} {ad : Nat → Nat} (M : Mem) (a1 a2 : Int32) (hok : ok_X0_push M a1 a2) : KV l D [(cI, .int)] (wN cI ad) yX0_push cX0_push 6 rmX0_push [.ref (ad 7), .int a1, .int a2] M (f_X0_push M a1 a2) := met_v (by decide) (Nat.le_of_ble_eq_true rfl) (fun p e s m below meth c A C h ls hl => k_X0_push_0 ⟨Nat.le_refl _, Nat.le_refl _⟩ (Nat.le_refl _) (Nat.le_refl _) C M a1 a2 _ _ ls hok rfl h hl)
abbrev rmX0_pop : Room := { frames := 2, cells := 0, slots := 0, locals := 47 }
def f_X0_pop_91 (M : Mem) (x5 : Int32) : Mem := (if x5 = 0 then (ms M 25 (upd (M 25) 7 (0 : Int32))) else (ms M 25 (upd (M 25) 7 (1 : Int32))))
def f_X0_pop_51 (M : Mem) (x1 x2 x3 x4 t0 : Int32) : Mem := (if t0 = 0 then (if x4 = 0 then (f_X0_pop_91 (ms M 25 (upd (M 25) x1.toNatClampNeg (0 : Int32))) t0) else (f_X0_pop_91 M t0)) else (f_X0_pop_91 (ms M 25 (upd (M 25) x1.toNatClampNeg (f_X2_read M (f_X0_placeOfQueue M x2 x3)))) t0))
def ok_X0_pop_51 (M : Mem) (x1 x2 x3 x4 t0 : Int32) : Prop := (if t0 = 0 then (if x4 = 0 then vp_in x1 8 else True) else ok_X2_read M (f_X0_placeOfQueue M x2 x3) ∧ vp_in x1 8)
def f_X0_pop_50 (M : Mem) (x1 x2 x3 x4 : Int32) : Mem := (f_X0_pop_51 M x1 x2 x3 x4 (0 : Int32))
def ok_X0_pop_50 (M : Mem) (x1 x2 x3 x4 : Int32) : Prop := ok_X0_pop_51 M x1 x2 x3 x4 (0 : Int32)
def f_X0_pop (M : Mem) (a1 a2 : Int32) : Mem := (if (f_X2_read M (a2 + (1 : Int32))) ≤ 0 then (f_X0_pop_50 M a1 a2 (f_X2_read M a2) (f_X2_read M (a2 + (1 : Int32)))) else (bc (f_X0_writeBothIfRoom M a2 (((f_X2_read M a2) + (1 : Int32)) &&& (3 : Int32)) (a2 + (1 : Int32)) ((f_X2_read M (a2 + (1 : Int32))) - (1 : Int32))) (fun M12 r12 => (if r12 = 0 then (f_X0_pop_50 M12 a1 a2 (f_X2_read M a2) (f_X2_read M (a2 + (1 : Int32)))) else (f_X0_pop_51 M12 a1 a2 (f_X2_read M a2) (f_X2_read M (a2 + (1 : Int32))) (1 : Int32))))))
def ok_X0_pop (M : Mem) (a1 a2 : Int32) : Prop := ok_X2_read M a2 ∧ ok_X2_read M (a2 + (1 : Int32)) ∧ (if (f_X2_read M (a2 + (1 : Int32))) ≤ 0 then ok_X0_pop_50 M a1 a2 (f_X2_read M a2) (f_X2_read M (a2 + (1 : Int32))) else ok_X0_writeBothIfRoom M a2 (((f_X2_read M a2) + (1 : Int32)) &&& (3 : Int32)) (a2 + (1 : Int32)) ((f_X2_read M (a2 + (1 : Int32))) - (1 : Int32)) ∧ (bc (f_X0_writeBothIfRoom M a2 (((f_X2_read M a2) + (1 : Int32)) &&& (3 : Int32)) (a2 + (1 : Int32)) ((f_X2_read M (a2 + (1 : Int32))) - (1 : Int32))) (fun M12 r12 => (if r12 = 0 then ok_X0_pop_50 M12 a1 a2 (f_X2_read M a2) (f_X2_read M (a2 + (1 : Int32))) else ok_X0_pop_51 M12 a1 a2 (f_X2_read M a2) (f_X2_read M (a2 + (1 : Int32))) (1 : Int32)))))
set_option maxRecDepth 100000 in
set_option maxHeartbeats 4000000 in
theorem k_X0_pop_91 {p : Program} {l : Launch} {e : Env} {s : State} {m : MethodId} {args : Array Value} {below : List Frame} {meth : Method} {c : Code} {D : va_G} {cI : ClassId} {ad : Nat → Nat} {A : Nat → Prop} {cells slots : Nat} {R : Room} (hcs : cells ≤ R.cells ∧ slots ≤ R.slots) (hrf : rmX0_pop.frames ≤ R.frames) (hrl : rmX0_pop.locals ≤ R.locals) {res : Mem} (C : CX p s m args meth c RX0 cX0_pop 6 none) : ∀ (M : Mem) (x5 : Int32) (H : Heap) (locs : List Loc) (ls : Array Slot), f_X0_pop_91 M x5 = res → WH D [(cI, .int)] (wN cI ad) A s H locs M → lv_has ls 6 [(0, .ref (ad 7)), (5, .int x5)] → W p l e R s m args below meth c H locs cells slots (MQ below (PV D [(cI, .int)] (wN cI ad) A res) args s cells slots A) (F0 m 91 ls []) := by
  have hx := C.1
  have hb := C.2.1
  have hown := C.2.2.2.2.1
  have hts := C.2.2.2.2.2.1
  intro M x5 H locs ls hres h hl
  rw [f_X0_pop_91] at hres
  refine lv_aload_n hx hb dX0_pop_91 rfl (lv_at hl 0 rfl) ?_
  refine N_X0_registers_get C h in_fX0_28 dX0_pop_92 ?_
  refine lv_bipush (v := (7 : Int32)) hx hb dX0_pop_95 (by decide) ?_
  refine lv_iload hx hb dX0_pop_97 (lv_at hl 1 rfl) ?_
  refine lv_if_eq (tgt := 106) hx hb dX0_pop_99 (by decide) (fun c6 => ?_) (fun c6 => ?_)
  · have hres := it_p hres c6
    refine lv_iconst (v := (0 : Int32)) hx hb dX0_pop_106 (by decide) ?_
    refine N_rg_st (M2 := (ms M 25 (upd (M 25) 7 (0 : Int32)))) C h (vp_l (by decide)) rfl dX0_pop_107 (fun H locs h => ?_)
    exact wh_vret C h hres dX0_pop_108
  · have hres := it_n hres c6
    refine lv_iconst (v := (1 : Int32)) hx hb dX0_pop_102 (by decide) ?_
    refine lv_goto (tgt := 107) hx hb dX0_pop_103 (by decide) ?_
    refine N_rg_st (M2 := (ms M 25 (upd (M 25) 7 (1 : Int32)))) C h (vp_l (by decide)) rfl dX0_pop_107 (fun H locs h => ?_)
    exact wh_vret C h hres dX0_pop_108
set_option maxRecDepth 100000 in
set_option maxHeartbeats 4000000 in
theorem k_X0_pop_51 {p : Program} {l : Launch} {e : Env} {s : State} {m : MethodId} {args : Array Value} {below : List Frame} {meth : Method} {c : Code} {D : va_G} {cI : ClassId} {ad : Nat → Nat} {A : Nat → Prop} {cells slots : Nat} {R : Room} (hcs : cells ≤ R.cells ∧ slots ≤ R.slots) (hrf : rmX0_pop.frames ≤ R.frames) (hrl : rmX0_pop.locals ≤ R.locals) {res : Mem} (C : CX p s m args meth c RX0 cX0_pop 6 none) : ∀ (M : Mem) (x1 x2 x3 x4 t0 : Int32) (H : Heap) (locs : List Loc) (ls : Array Slot), ok_X0_pop_51 M x1 x2 x3 x4 t0 → f_X0_pop_51 M x1 x2 x3 x4 t0 = res → WH D [(cI, .int)] (wN cI ad) A s H locs M → lv_has ls 6 [(0, .ref (ad 7)), (1, .int x1), (2, .int x2), (3, .int x3), (4, .int x4)] → W p l e R s m args below meth c H locs cells slots (MQ below (PV D [(cI, .int)] (wN cI ad) A res) args s cells slots A) (F0 m 51 ls [.int t0]) := by
  have hx := C.1
  have hb := C.2.1
  have hown := C.2.2.2.2.1
  have hts := C.2.2.2.2.2.1
  intro M x1 x2 x3 x4 t0 H locs ls hok hres h hl
  rw [ok_X0_pop_51] at hok
  rw [f_X0_pop_51] at hres
  refine lv_istore (lv' := [(5, .int t0), (0, .ref (ad 7)), (1, .int x1), (2, .int x2), (3, .int x3), (4, .int x4)]) hx hb dX0_pop_51 hl (by decide) rfl (fun ls hl => ?_)
  refine lv_iload hx hb dX0_pop_53 (lv_at hl 0 rfl) ?_
  refine lv_if_eq (tgt := 79) hx hb dX0_pop_55 (by decide) (fun c4 => ?_) (fun c4 => ?_)
  · have hres := it_p hres c4
    have hok := io_p hok c4
    refine lv_iload hx hb dX0_pop_79 (lv_at hl 5 rfl) ?_
    refine lv_if_ne (tgt := 91) hx hb dX0_pop_81 (by decide) (fun c5 => ?_) (fun c5 => ?_)
    · have hres := it_n hres c5
      exact k_X0_pop_91 hcs hrf hrl C M t0 _ _ _  hres h (lv_sub hl [1, 0] rfl)
    · have hres := it_p hres c5
      have hok := io_p hok c5
      refine lv_aload_n hx hb dX0_pop_84 rfl (lv_at hl 1 rfl) ?_
      refine N_X0_registers_get C h in_fX0_28 dX0_pop_85 ?_
      refine lv_iload_n hx hb dX0_pop_88 rfl (lv_at hl 2 rfl) ?_
      refine lv_iconst (v := (0 : Int32)) hx hb dX0_pop_89 (by decide) ?_
      have h7 := hok
      refine N_rg_st (M2 := (ms M 25 (upd (M 25) x1.toNatClampNeg (0 : Int32)))) C h h7 rfl dX0_pop_90 (fun H locs h => ?_)
      exact k_X0_pop_91 hcs hrf hrl C (ms M 25 (upd (M 25) x1.toNatClampNeg (0 : Int32))) t0 _ _ _  hres h (lv_sub hl [1, 0] rfl)
  · have hres := it_n hres c4
    have hok := io_n hok c4
    refine lv_aload_n hx hb dX0_pop_58 rfl (lv_at hl 1 rfl) ?_
    refine N_X0_registers_get C h in_fX0_28 dX0_pop_59 ?_
    refine lv_iload_n hx hb dX0_pop_62 rfl (lv_at hl 2 rfl) ?_
    refine lv_aload_n hx hb dX0_pop_63 rfl (lv_at hl 1 rfl) ?_
    refine N_X0_pending_get C h in_fX0_24 dX0_pop_64 ?_
    refine lv_iload_n hx hb dX0_pop_67 rfl (lv_at hl 3 rfl) ?_
    refine lv_iload_n hx hb dX0_pop_68 rfl (lv_at hl 4 rfl) ?_
    refine wh_csip (As := [.int x2, .int x3]) (rest := [.ref (ad 8), .int x1, .ref (ad 13)]) hcs C h (c_X0_placeOfQueue M x2 x3) yw_X0_placeOfQueue in_mX0_100 hl.1 rfl rfl (Nat.le_of_ble_eq_true rfl) ⟨Nat.le_trans (Nat.le_of_ble_eq_true rfl) hrf, Nat.le_trans (Nat.le_of_ble_eq_true rfl) hrl⟩ dX0_pop_69 (fun H locs h => ?_)
    obtain ⟨h11, hok⟩ := hok
    refine wh_cvip (As := [.int (f_X0_placeOfQueue M x2 x3)]) (rest := [.int x1, .ref (ad 13)]) hcs C h (c_X2_read M (f_X0_placeOfQueue M x2 x3) h11) yw_X2_read in_mX0_68 hl.1 rfl rfl (Nat.le_of_ble_eq_true rfl) ⟨Nat.le_trans (Nat.le_of_ble_eq_true rfl) hrf, Nat.le_trans (Nat.le_of_ble_eq_true rfl) hrl⟩ dX0_pop_72 (fun H locs h => ?_)
    have h10 := hok
    refine N_rg_st (M2 := (ms M 25 (upd (M 25) x1.toNatClampNeg (f_X2_read M (f_X0_placeOfQueue M x2 x3))))) C h h10 rfl dX0_pop_75 (fun H locs h => ?_)
    refine lv_goto (tgt := 91) hx hb dX0_pop_76 (by decide) ?_
    exact k_X0_pop_91 hcs hrf hrl C (ms M 25 (upd (M 25) x1.toNatClampNeg (f_X2_read M (f_X0_placeOfQueue M x2 x3)))) t0 _ _ _  hres h (lv_sub hl [1, 0] rfl)
set_option maxRecDepth 100000 in
set_option maxHeartbeats 4000000 in
theorem k_X0_pop_50 {p : Program} {l : Launch} {e : Env} {s : State} {m : MethodId} {args : Array Value} {below : List Frame} {meth : Method} {c : Code} {D : va_G} {cI : ClassId} {ad : Nat → Nat} {A : Nat → Prop} {cells slots : Nat} {R : Room} (hcs : cells ≤ R.cells ∧ slots ≤ R.slots) (hrf : rmX0_pop.frames ≤ R.frames) (hrl : rmX0_pop.locals ≤ R.locals) {res : Mem} (C : CX p s m args meth c RX0 cX0_pop 6 none) : ∀ (M : Mem) (x1 x2 x3 x4 : Int32) (H : Heap) (locs : List Loc) (ls : Array Slot), ok_X0_pop_50 M x1 x2 x3 x4 → f_X0_pop_50 M x1 x2 x3 x4 = res → WH D [(cI, .int)] (wN cI ad) A s H locs M → lv_has ls 6 [(0, .ref (ad 7)), (1, .int x1), (2, .int x2), (3, .int x3), (4, .int x4)] → W p l e R s m args below meth c H locs cells slots (MQ below (PV D [(cI, .int)] (wN cI ad) A res) args s cells slots A) (F0 m 50 ls []) := by
  have hx := C.1
  have hb := C.2.1
  have hown := C.2.2.2.2.1
  have hts := C.2.2.2.2.2.1
  intro M x1 x2 x3 x4 H locs ls hok hres h hl
  rw [ok_X0_pop_50] at hok
  rw [f_X0_pop_50] at hres
  refine lv_iconst (v := (0 : Int32)) hx hb dX0_pop_50 (by decide) ?_
  exact k_X0_pop_51 hcs hrf hrl C M x1 x2 x3 x4 (0 : Int32) _ _ _ hok hres h (lv_sub hl [0, 1, 2, 3, 4] rfl)
set_option maxRecDepth 100000 in
set_option maxHeartbeats 4000000 in
theorem k_X0_pop_0 {p : Program} {l : Launch} {e : Env} {s : State} {m : MethodId} {args : Array Value} {below : List Frame} {meth : Method} {c : Code} {D : va_G} {cI : ClassId} {ad : Nat → Nat} {A : Nat → Prop} {cells slots : Nat} {R : Room} (hcs : cells ≤ R.cells ∧ slots ≤ R.slots) (hrf : rmX0_pop.frames ≤ R.frames) (hrl : rmX0_pop.locals ≤ R.locals) {res : Mem} (C : CX p s m args meth c RX0 cX0_pop 6 none) : ∀ (M : Mem) (a1 a2 : Int32) (H : Heap) (locs : List Loc) (ls : Array Slot), ok_X0_pop M a1 a2 → f_X0_pop M a1 a2 = res → WH D [(cI, .int)] (wN cI ad) A s H locs M → lv_has ls 6 [(0, .ref (ad 7)), (1, .int a1), (2, .int a2)] → W p l e R s m args below meth c H locs cells slots (MQ below (PV D [(cI, .int)] (wN cI ad) A res) args s cells slots A) (F0 m 0 ls []) := by
  have hx := C.1
  have hb := C.2.1
  have hown := C.2.2.2.2.1
  have hts := C.2.2.2.2.2.1
  intro M a1 a2 H locs ls hok hres h hl
  rw [ok_X0_pop] at hok
  rw [f_X0_pop] at hres
  refine lv_aload_n hx hb dX0_pop_0 rfl (lv_at hl 0 rfl) ?_
  refine N_X0_pending_get C h in_fX0_24 dX0_pop_1 ?_
  refine lv_iload_n hx hb dX0_pop_4 rfl (lv_at hl 2 rfl) ?_
  obtain ⟨h16, hok⟩ := hok
  refine wh_cvip (As := [.int a2]) (rest := []) hcs C h (c_X2_read M a2 h16) yw_X2_read in_mX0_68 hl.1 rfl rfl (Nat.le_of_ble_eq_true rfl) ⟨Nat.le_trans (Nat.le_of_ble_eq_true rfl) hrf, Nat.le_trans (Nat.le_of_ble_eq_true rfl) hrl⟩ dX0_pop_5 (fun H locs h => ?_)
  refine lv_istore_n (lv' := [(3, .int (f_X2_read M a2)), (0, .ref (ad 7)), (1, .int a1), (2, .int a2)]) hx hb dX0_pop_8 rfl hl (by decide) rfl (fun ls hl => ?_)
  refine lv_aload_n hx hb dX0_pop_9 rfl (lv_at hl 1 rfl) ?_
  refine N_X0_pending_get C h in_fX0_24 dX0_pop_10 ?_
  refine lv_iload_n hx hb dX0_pop_13 rfl (lv_at hl 3 rfl) ?_
  refine lv_iconst (v := (1 : Int32)) hx hb dX0_pop_14 (by decide) ?_
  refine lv_iadd hx hb dX0_pop_15 ?_
  obtain ⟨h15, hok⟩ := hok
  refine wh_cvip (As := [.int (a2 + (1 : Int32))]) (rest := []) hcs C h (c_X2_read M (a2 + (1 : Int32)) h15) yw_X2_read in_mX0_68 hl.1 rfl rfl (Nat.le_of_ble_eq_true rfl) ⟨Nat.le_trans (Nat.le_of_ble_eq_true rfl) hrf, Nat.le_trans (Nat.le_of_ble_eq_true rfl) hrl⟩ dX0_pop_16 (fun H locs h => ?_)
  refine lv_istore (lv' := [(4, .int (f_X2_read M (a2 + (1 : Int32)))), (3, .int (f_X2_read M a2)), (0, .ref (ad 7)), (1, .int a1), (2, .int a2)]) hx hb dX0_pop_19 hl (by decide) rfl (fun ls hl => ?_)
  refine lv_iload hx hb dX0_pop_21 (lv_at hl 0 rfl) ?_
  refine lv_if_le (tgt := 50) hx hb dX0_pop_23 (by decide) (fun c3 => ?_) (fun c3 => ?_)
  · have hres := it_p hres c3
    have hok := io_p hok c3
    exact k_X0_pop_50 hcs hrf hrl C M a1 a2 (f_X2_read M a2) (f_X2_read M (a2 + (1 : Int32))) _ _ _ hok hres h (lv_sub hl [2, 3, 4, 1, 0] rfl)
  · have hres := it_n hres c3
    have hok := io_n hok c3
    refine lv_aload_n hx hb dX0_pop_26 rfl (lv_at hl 2 rfl) ?_
    refine lv_iload_n hx hb dX0_pop_27 rfl (lv_at hl 4 rfl) ?_
    refine lv_iload_n hx hb dX0_pop_28 rfl (lv_at hl 1 rfl) ?_
    refine lv_iconst (v := (1 : Int32)) hx hb dX0_pop_29 (by decide) ?_
    refine lv_iadd hx hb dX0_pop_30 ?_
    refine lv_iconst (v := (3 : Int32)) hx hb dX0_pop_31 (by decide) ?_
    refine lv_iand hx hb dX0_pop_32 ?_
    refine lv_iload_n hx hb dX0_pop_33 rfl (lv_at hl 4 rfl) ?_
    refine lv_iconst (v := (1 : Int32)) hx hb dX0_pop_34 (by decide) ?_
    refine lv_iadd hx hb dX0_pop_35 ?_
    refine lv_iload hx hb dX0_pop_36 (lv_at hl 0 rfl) ?_
    refine lv_iconst (v := (1 : Int32)) hx hb dX0_pop_38 (by decide) ?_
    refine lv_isub hx hb dX0_pop_39 ?_
    obtain ⟨h14, hok⟩ := hok
    refine wh_cvz (As := [.int a2, .int (((f_X2_read M a2) + (1 : Int32)) &&& (3 : Int32)), .int (a2 + (1 : Int32)), .int ((f_X2_read M (a2 + (1 : Int32))) - (1 : Int32))]) (rest := []) hcs C h (c_X0_writeBothIfRoom M a2 (((f_X2_read M a2) + (1 : Int32)) &&& (3 : Int32)) (a2 + (1 : Int32)) ((f_X2_read M (a2 + (1 : Int32))) - (1 : Int32)) h14) yw_X0_writeBothIfRoom in_mX0_103 hl.1 rfl rfl (Nat.le_of_ble_eq_true rfl) ⟨Nat.le_trans (Nat.le_of_ble_eq_true rfl) hrf, Nat.le_trans (Nat.le_of_ble_eq_true rfl) hrl⟩ dX0_pop_40 (fun M12 r12 H locs e12 z12 h => ?_)
    rw [e12] at hres
    have hres := bc_e hres
    rw [e12] at hok
    have hok := bc_o hok
    refine lv_if_eq (tgt := 50) hx hb dX0_pop_43 (by decide) (fun c13 => ?_) (fun c13 => ?_)
    · have hres := it_p hres c13
      have hok := io_p hok c13
      exact k_X0_pop_50 hcs hrf hrl C M12 a1 a2 (f_X2_read M a2) (f_X2_read M (a2 + (1 : Int32))) _ _ _ hok hres h (lv_sub hl [2, 3, 4, 1, 0] rfl)
    · have hres := it_n hres c13
      have hok := io_n hok c13
      refine lv_iconst (v := (1 : Int32)) hx hb dX0_pop_46 (by decide) ?_
      refine lv_goto (tgt := 51) hx hb dX0_pop_47 (by decide) ?_
      exact k_X0_pop_51 hcs hrf hrl C M12 a1 a2 (f_X2_read M a2) (f_X2_read M (a2 + (1 : Int32))) (1 : Int32) _ _ _ hok hres h (lv_sub hl [2, 3, 4, 1, 0] rfl)
theorem yw_X0_pop {cI : ClassId} {ad : Nat → Nat} : YV (wN cI ad) (ad 7) yX0_pop cX0_pop 6 none rmX0_pop 2 := ⟨fun M => ⟨7, 0, _, _, rfl, rfl, rfl⟩, in_cX0_pop, in_nX0_pop, in_vX0_pop, in_iX0, by decide +kernel, rfl, rfl⟩
theorem c_X0_pop {l : Launch} {D : va_G} {cI : ClassId} {ad : Nat → Nat} (M : Mem) (a1 a2 : Int32) (hok : ok_X0_pop M a1 a2) : KV l D [(cI, .int)] (wN cI ad) yX0_pop cX0_pop 6 rmX0_pop [.ref (ad 7), .int a1, .int a2] M (f_X0_pop M a1 a2) := met_v (by decide) (Nat.le_of_ble_eq_true rfl) (fun p e s m below meth c A C h ls hl => k_X0_pop_0 ⟨Nat.le_refl _, Nat.le_refl _⟩ (Nat.le_refl _) (Nat.le_refl _) C M a1 a2 _ _ ls hok rfl h hl)
abbrev rmX0_send : Room := { frames := 2, cells := 0, slots := 0, locals := 47 }
def f_X0_send_46 (M : Mem) (t0 : Int32) : Mem := (if t0 = 0 then (ms M 25 (upd (M 25) 7 (0 : Int32))) else (ms M 25 (upd (M 25) 7 (1 : Int32))))
def f_X0_send_45 (M : Mem) : Mem := (f_X0_send_46 M (0 : Int32))
def f_X0_send (M : Mem) (a1 : Int32) : Mem := (if (16 : Int32) ≤ ((f_X2_read M (3 : Int32)) - ((M 13) 4)) then (f_X0_send_45 M) else (bc (f_X0_writeBothIfRoom M (f_X4_payloadOf M (f_X2_read M (3 : Int32))) a1 (3 : Int32) ((f_X2_read M (3 : Int32)) + (1 : Int32))) (fun M5 r5 => (if r5 = 0 then (f_X0_send_45 M5) else (f_X0_send_46 M5 (1 : Int32))))))
def ok_X0_send (M : Mem) (a1 : Int32) : Prop := ok_X2_read M (3 : Int32) ∧ (if (16 : Int32) ≤ ((f_X2_read M (3 : Int32)) - ((M 13) 4)) then True else ok_X0_writeBothIfRoom M (f_X4_payloadOf M (f_X2_read M (3 : Int32))) a1 (3 : Int32) ((f_X2_read M (3 : Int32)) + (1 : Int32)))
set_option maxRecDepth 100000 in
set_option maxHeartbeats 4000000 in
theorem k_X0_send_46 {p : Program} {l : Launch} {e : Env} {s : State} {m : MethodId} {args : Array Value} {below : List Frame} {meth : Method} {c : Code} {D : va_G} {cI : ClassId} {ad : Nat → Nat} {A : Nat → Prop} {cells slots : Nat} {R : Room} (hcs : cells ≤ R.cells ∧ slots ≤ R.slots) (hrf : rmX0_send.frames ≤ R.frames) (hrl : rmX0_send.locals ≤ R.locals) {res : Mem} (C : CX p s m args meth c RX0 cX0_send 4 none) : ∀ (M : Mem) (t0 : Int32) (H : Heap) (locs : List Loc) (ls : Array Slot), f_X0_send_46 M t0 = res → WH D [(cI, .int)] (wN cI ad) A s H locs M → lv_has ls 4 [(0, .ref (ad 7))] → W p l e R s m args below meth c H locs cells slots (MQ below (PV D [(cI, .int)] (wN cI ad) A res) args s cells slots A) (F0 m 46 ls [.int t0]) := by
  have hx := C.1
  have hb := C.2.1
  have hown := C.2.2.2.2.1
  have hts := C.2.2.2.2.2.1
  intro M t0 H locs ls hres h hl
  rw [f_X0_send_46] at hres
  refine lv_istore_n (lv' := [(3, .int t0), (0, .ref (ad 7))]) hx hb dX0_send_46 rfl hl (by decide) rfl (fun ls hl => ?_)
  refine lv_aload_n hx hb dX0_send_47 rfl (lv_at hl 1 rfl) ?_
  refine N_X0_registers_get C h in_fX0_28 dX0_send_48 ?_
  refine lv_bipush (v := (7 : Int32)) hx hb dX0_send_51 (by decide) ?_
  refine lv_iload_n hx hb dX0_send_53 rfl (lv_at hl 0 rfl) ?_
  refine lv_if_eq (tgt := 61) hx hb dX0_send_54 (by decide) (fun c3 => ?_) (fun c3 => ?_)
  · have hres := it_p hres c3
    refine lv_iconst (v := (0 : Int32)) hx hb dX0_send_61 (by decide) ?_
    refine N_rg_st (M2 := (ms M 25 (upd (M 25) 7 (0 : Int32)))) C h (vp_l (by decide)) rfl dX0_send_62 (fun H locs h => ?_)
    exact wh_vret C h hres dX0_send_63
  · have hres := it_n hres c3
    refine lv_iconst (v := (1 : Int32)) hx hb dX0_send_57 (by decide) ?_
    refine lv_goto (tgt := 62) hx hb dX0_send_58 (by decide) ?_
    refine N_rg_st (M2 := (ms M 25 (upd (M 25) 7 (1 : Int32)))) C h (vp_l (by decide)) rfl dX0_send_62 (fun H locs h => ?_)
    exact wh_vret C h hres dX0_send_63
set_option maxRecDepth 100000 in
set_option maxHeartbeats 4000000 in
theorem k_X0_send_45 {p : Program} {l : Launch} {e : Env} {s : State} {m : MethodId} {args : Array Value} {below : List Frame} {meth : Method} {c : Code} {D : va_G} {cI : ClassId} {ad : Nat → Nat} {A : Nat → Prop} {cells slots : Nat} {R : Room} (hcs : cells ≤ R.cells ∧ slots ≤ R.slots) (hrf : rmX0_send.frames ≤ R.frames) (hrl : rmX0_send.locals ≤ R.locals) {res : Mem} (C : CX p s m args meth c RX0 cX0_send 4 none) : ∀ (M : Mem) (H : Heap) (locs : List Loc) (ls : Array Slot), f_X0_send_45 M = res → WH D [(cI, .int)] (wN cI ad) A s H locs M → lv_has ls 4 [(0, .ref (ad 7))] → W p l e R s m args below meth c H locs cells slots (MQ below (PV D [(cI, .int)] (wN cI ad) A res) args s cells slots A) (F0 m 45 ls []) := by
  have hx := C.1
  have hb := C.2.1
  have hown := C.2.2.2.2.1
  have hts := C.2.2.2.2.2.1
  intro M H locs ls hres h hl
  rw [f_X0_send_45] at hres
  refine lv_iconst (v := (0 : Int32)) hx hb dX0_send_45 (by decide) ?_
  exact k_X0_send_46 hcs hrf hrl C M (0 : Int32) _ _ _  hres h (lv_sub hl [0] rfl)
set_option maxRecDepth 100000 in
set_option maxHeartbeats 4000000 in
theorem k_X0_send_0 {p : Program} {l : Launch} {e : Env} {s : State} {m : MethodId} {args : Array Value} {below : List Frame} {meth : Method} {c : Code} {D : va_G} {cI : ClassId} {ad : Nat → Nat} {A : Nat → Prop} {cells slots : Nat} {R : Room} (hcs : cells ≤ R.cells ∧ slots ≤ R.slots) (hrf : rmX0_send.frames ≤ R.frames) (hrl : rmX0_send.locals ≤ R.locals) {res : Mem} (C : CX p s m args meth c RX0 cX0_send 4 none) : ∀ (M : Mem) (a1 : Int32) (H : Heap) (locs : List Loc) (ls : Array Slot), ok_X0_send M a1 → f_X0_send M a1 = res → WH D [(cI, .int)] (wN cI ad) A s H locs M → lv_has ls 4 [(0, .ref (ad 7)), (1, .int a1)] → W p l e R s m args below meth c H locs cells slots (MQ below (PV D [(cI, .int)] (wN cI ad) A res) args s cells slots A) (F0 m 0 ls []) := by
  have hx := C.1
  have hb := C.2.1
  have hown := C.2.2.2.2.1
  have hts := C.2.2.2.2.2.1
  intro M a1 H locs ls hok hres h hl
  rw [ok_X0_send] at hok
  rw [f_X0_send] at hres
  refine lv_aload_n hx hb dX0_send_0 rfl (lv_at hl 0 rfl) ?_
  refine N_X0_pending_get C h in_fX0_24 dX0_send_1 ?_
  refine lv_iconst (v := (3 : Int32)) hx hb dX0_send_4 (by decide) ?_
  obtain ⟨h8, hok⟩ := hok
  refine wh_cvip (As := [.int (3 : Int32)]) (rest := []) hcs C h (c_X2_read M (3 : Int32) h8) yw_X2_read in_mX0_68 hl.1 rfl rfl (Nat.le_of_ble_eq_true rfl) ⟨Nat.le_trans (Nat.le_of_ble_eq_true rfl) hrf, Nat.le_trans (Nat.le_of_ble_eq_true rfl) hrl⟩ dX0_send_5 (fun H locs h => ?_)
  refine lv_istore_n (lv' := [(2, .int (f_X2_read M (3 : Int32))), (0, .ref (ad 7)), (1, .int a1)]) hx hb dX0_send_8 rfl hl (by decide) rfl (fun ls hl => ?_)
  refine lv_iload_n hx hb dX0_send_9 rfl (lv_at hl 0 rfl) ?_
  refine lv_aload_n hx hb dX0_send_10 rfl (lv_at hl 1 rfl) ?_
  refine N_X0_store_get C h in_fX0_9 dX0_send_11 ?_
  refine N_X4_words_get C h in_fX0_107 dX0_send_14 ?_
  refine lv_iconst (v := (4 : Int32)) hx hb dX0_send_17 (by decide) ?_
  refine N_sw_ld (v := ((M 13) 4)) C h (vp_l (by decide)) rfl dX0_send_18 ?_
  refine lv_isub hx hb dX0_send_19 ?_
  refine lv_bipush (v := (16 : Int32)) hx hb dX0_send_20 (by decide) ?_
  refine lv_icmp_ge (tgt := 45) hx hb dX0_send_22 (by decide) (fun c2 => ?_) (fun c2 => ?_)
  · have hres := it_p hres c2
    exact k_X0_send_45 hcs hrf hrl C M _ _ _  hres h (lv_sub hl [1] rfl)
  · have hres := it_n hres c2
    have hok := io_n hok c2
    refine lv_aload_n hx hb dX0_send_25 rfl (lv_at hl 1 rfl) ?_
    refine lv_iload_n hx hb dX0_send_26 rfl (lv_at hl 0 rfl) ?_
    refine wh_csip (As := [.int (f_X2_read M (3 : Int32))]) (rest := [.ref (ad 7)]) hcs C h (c_X4_payloadOf M (f_X2_read M (3 : Int32))) yw_X4_payloadOf in_mX0_110 hl.1 rfl rfl (Nat.le_of_ble_eq_true rfl) ⟨Nat.le_trans (Nat.le_of_ble_eq_true rfl) hrf, Nat.le_trans (Nat.le_of_ble_eq_true rfl) hrl⟩ dX0_send_27 (fun H locs h => ?_)
    refine lv_iload_n hx hb dX0_send_30 rfl (lv_at hl 2 rfl) ?_
    refine lv_iconst (v := (3 : Int32)) hx hb dX0_send_31 (by decide) ?_
    refine lv_iload_n hx hb dX0_send_32 rfl (lv_at hl 0 rfl) ?_
    refine lv_iconst (v := (1 : Int32)) hx hb dX0_send_33 (by decide) ?_
    refine lv_iadd hx hb dX0_send_34 ?_
    have h7 := hok
    refine wh_cvz (As := [.int (f_X4_payloadOf M (f_X2_read M (3 : Int32))), .int a1, .int (3 : Int32), .int ((f_X2_read M (3 : Int32)) + (1 : Int32))]) (rest := []) hcs C h (c_X0_writeBothIfRoom M (f_X4_payloadOf M (f_X2_read M (3 : Int32))) a1 (3 : Int32) ((f_X2_read M (3 : Int32)) + (1 : Int32)) h7) yw_X0_writeBothIfRoom in_mX0_103 hl.1 rfl rfl (Nat.le_of_ble_eq_true rfl) ⟨Nat.le_trans (Nat.le_of_ble_eq_true rfl) hrf, Nat.le_trans (Nat.le_of_ble_eq_true rfl) hrl⟩ dX0_send_35 (fun M5 r5 H locs e5 z5 h => ?_)
    rw [e5] at hres
    have hres := bc_e hres
    refine lv_if_eq (tgt := 45) hx hb dX0_send_38 (by decide) (fun c6 => ?_) (fun c6 => ?_)
    · have hres := it_p hres c6
      exact k_X0_send_45 hcs hrf hrl C M5 _ _ _  hres h (lv_sub hl [1] rfl)
    · have hres := it_n hres c6
      refine lv_iconst (v := (1 : Int32)) hx hb dX0_send_41 (by decide) ?_
      refine lv_goto (tgt := 46) hx hb dX0_send_42 (by decide) ?_
      exact k_X0_send_46 hcs hrf hrl C M5 (1 : Int32) _ _ _  hres h (lv_sub hl [1] rfl)
theorem yw_X0_send {cI : ClassId} {ad : Nat → Nat} : YV (wN cI ad) (ad 7) yX0_send cX0_send 4 none rmX0_send 1 := ⟨fun M => ⟨7, 0, _, _, rfl, rfl, rfl⟩, in_cX0_send, in_nX0_send, in_vX0_send, in_iX0, by decide +kernel, rfl, rfl⟩
theorem c_X0_send {l : Launch} {D : va_G} {cI : ClassId} {ad : Nat → Nat} (M : Mem) (a1 : Int32) (hok : ok_X0_send M a1) : KV l D [(cI, .int)] (wN cI ad) yX0_send cX0_send 4 rmX0_send [.ref (ad 7), .int a1] M (f_X0_send M a1) := met_v (by decide) (Nat.le_of_ble_eq_true rfl) (fun p e s m below meth c A C h ls hl => k_X0_send_0 ⟨Nat.le_refl _, Nat.le_refl _⟩ (Nat.le_refl _) (Nat.le_refl _) C M a1 _ _ ls hok rfl h hl)
abbrev rmX0_work : Room := { frames := 3, cells := 0, slots := 0, locals := 72 }
def f_X0_work (M : Mem) (a1 : Int32) : Mem := (if (f_X1_op M a1) = (1 : Int32) then (ms M 25 (upd (M 25) (f_X1_a M a1).toNatClampNeg (sx a1))) else (if (f_X1_op M a1) = (2 : Int32) then (ms M 25 (upd (M 25) (f_X1_a M a1).toNatClampNeg (((M 25) (f_X1_b M a1).toNatClampNeg) + ((M 25) (f_X1_c M a1).toNatClampNeg)))) else (if (f_X1_op M a1) = (3 : Int32) then (ms M 25 (upd (M 25) (f_X1_a M a1).toNatClampNeg (((M 25) (f_X1_b M a1).toNatClampNeg) - ((M 25) (f_X1_c M a1).toNatClampNeg)))) else (if (f_X1_op M a1) = (4 : Int32) then (ms M 25 (upd (M 25) (f_X1_a M a1).toNatClampNeg (((M 25) (f_X1_b M a1).toNatClampNeg) * ((M 25) (f_X1_c M a1).toNatClampNeg)))) else (if (f_X1_op M a1) = (5 : Int32) then (ms M 25 (upd (M 25) (f_X1_a M a1).toNatClampNeg (((M 25) (f_X1_b M a1).toNatClampNeg) ^^^ ((M 25) (f_X1_c M a1).toNatClampNeg)))) else (if (f_X1_op M a1) = (6 : Int32) then (if ((M 25) (f_X1_a M a1).toNatClampNeg) = 0 then (ms M 16 (fun _ => (f_X1_b M a1))) else (ms M 16 (fun _ => (M 16 0)))) else (if (f_X1_op M a1) = (7 : Int32) then (ms M 16 (fun _ => (f_X1_b M a1))) else (if (f_X1_op M a1) = (8 : Int32) then (ms M 25 (upd (M 25) (f_X1_a M a1).toNatClampNeg (f_X2_read M ((8 : Int32) + (f_X1_b M a1))))) else (if (f_X1_op M a1) = (9 : Int32) then (bv (f_X0_writeIfRoom M ((8 : Int32) + (f_X1_b M a1)) ((M 25) (f_X1_a M a1).toNatClampNeg)) (fun M32 => M32)) else (if (f_X1_op M a1) = (10 : Int32) then (ms M 25 (upd (M 25) (f_X1_a M a1).toNatClampNeg (f_X2_read M (f_X0_wordOfRow M (f_X1_b M a1) ((M 25) (f_X1_c M a1).toNatClampNeg))))) else (if (f_X1_op M a1) = (11 : Int32) then (bv (f_X0_writeIfRoom M (f_X0_wordOfRow M (f_X1_b M a1) ((M 25) (f_X1_c M a1).toNatClampNeg)) ((M 25) (f_X1_a M a1).toNatClampNeg)) (fun M43 => M43)) else (if (f_X1_op M a1) = (12 : Int32) then (bv (f_X0_push M ((M 25) (f_X1_a M a1).toNatClampNeg) ((56 : Int32) + ((f_X1_b M a1) * (6 : Int32)))) (fun M48 => M48)) else (if (f_X1_op M a1) = (13 : Int32) then (bv (f_X0_pop M (f_X1_a M a1) ((56 : Int32) + ((f_X1_b M a1) * (6 : Int32)))) (fun M52 => M52)) else (if (f_X1_op M a1) = (14 : Int32) then (ms M 25 (upd (M 25) (f_X1_a M a1).toNatClampNeg ((M 24) (f_X1_b M a1).toNatClampNeg))) else (if (f_X1_op M a1) = (15 : Int32) then (bv (f_X0_send M ((M 25) (f_X1_a M a1).toNatClampNeg)) (fun M58 => M58)) else M)))))))))))))))
def ok_X0_work (M : Mem) (a1 : Int32) : Prop := (if (f_X1_op M a1) = (1 : Int32) then vp_in (f_X1_a M a1) 8 else (if (f_X1_op M a1) = (2 : Int32) then vp_in (f_X1_b M a1) 8 ∧ vp_in (f_X1_c M a1) 8 ∧ vp_in (f_X1_a M a1) 8 else (if (f_X1_op M a1) = (3 : Int32) then vp_in (f_X1_b M a1) 8 ∧ vp_in (f_X1_c M a1) 8 ∧ vp_in (f_X1_a M a1) 8 else (if (f_X1_op M a1) = (4 : Int32) then vp_in (f_X1_b M a1) 8 ∧ vp_in (f_X1_c M a1) 8 ∧ vp_in (f_X1_a M a1) 8 else (if (f_X1_op M a1) = (5 : Int32) then vp_in (f_X1_b M a1) 8 ∧ vp_in (f_X1_c M a1) 8 ∧ vp_in (f_X1_a M a1) 8 else (if (f_X1_op M a1) = (6 : Int32) then vp_in (f_X1_a M a1) 8 else (if (f_X1_op M a1) = (7 : Int32) then True else (if (f_X1_op M a1) = (8 : Int32) then ok_X2_read M ((8 : Int32) + (f_X1_b M a1)) ∧ vp_in (f_X1_a M a1) 8 else (if (f_X1_op M a1) = (9 : Int32) then vp_in (f_X1_a M a1) 8 ∧ ok_X0_writeIfRoom M ((8 : Int32) + (f_X1_b M a1)) ((M 25) (f_X1_a M a1).toNatClampNeg) else (if (f_X1_op M a1) = (10 : Int32) then vp_in (f_X1_c M a1) 8 ∧ ok_X2_read M (f_X0_wordOfRow M (f_X1_b M a1) ((M 25) (f_X1_c M a1).toNatClampNeg)) ∧ vp_in (f_X1_a M a1) 8 else (if (f_X1_op M a1) = (11 : Int32) then vp_in (f_X1_c M a1) 8 ∧ vp_in (f_X1_a M a1) 8 ∧ ok_X0_writeIfRoom M (f_X0_wordOfRow M (f_X1_b M a1) ((M 25) (f_X1_c M a1).toNatClampNeg)) ((M 25) (f_X1_a M a1).toNatClampNeg) else (if (f_X1_op M a1) = (12 : Int32) then vp_in (f_X1_a M a1) 8 ∧ ok_X0_push M ((M 25) (f_X1_a M a1).toNatClampNeg) ((56 : Int32) + ((f_X1_b M a1) * (6 : Int32))) else (if (f_X1_op M a1) = (13 : Int32) then ok_X0_pop M (f_X1_a M a1) ((56 : Int32) + ((f_X1_b M a1) * (6 : Int32))) else (if (f_X1_op M a1) = (14 : Int32) then vp_in (f_X1_b M a1) 4 ∧ vp_in (f_X1_a M a1) 8 else (if (f_X1_op M a1) = (15 : Int32) then vp_in (f_X1_a M a1) 8 ∧ ok_X0_send M ((M 25) (f_X1_a M a1).toNatClampNeg) else True)))))))))))))))
set_option maxRecDepth 100000 in
set_option maxHeartbeats 4000000 in
theorem k_X0_work_0 {p : Program} {l : Launch} {e : Env} {s : State} {m : MethodId} {args : Array Value} {below : List Frame} {meth : Method} {c : Code} {D : va_G} {cI : ClassId} {ad : Nat → Nat} {A : Nat → Prop} {cells slots : Nat} {R : Room} (hcs : cells ≤ R.cells ∧ slots ≤ R.slots) (hrf : rmX0_work.frames ≤ R.frames) (hrl : rmX0_work.locals ≤ R.locals) {res : Mem} (C : CX p s m args meth c RX0 cX0_work 5 none) : ∀ (M : Mem) (a1 : Int32) (H : Heap) (locs : List Loc) (ls : Array Slot), ok_X0_work M a1 → f_X0_work M a1 = res → WH D [(cI, .int)] (wN cI ad) A s H locs M → lv_has ls 5 [(0, .ref (ad 7)), (1, .int a1)] → W p l e R s m args below meth c H locs cells slots (MQ below (PV D [(cI, .int)] (wN cI ad) A res) args s cells slots A) (F0 m 0 ls []) := by
  have hx := C.1
  have hb := C.2.1
  have hown := C.2.2.2.2.1
  have hts := C.2.2.2.2.2.1
  intro M a1 H locs ls hok hres h hl
  rw [ok_X0_work] at hok
  rw [f_X0_work] at hres
  refine lv_iload_n hx hb dX0_work_0 rfl (lv_at hl 1 rfl) ?_
  refine wh_csip (As := [.int a1]) (rest := []) hcs C h (c_X1_a M a1) yw_X1_a in_mX0_51 hl.1 rfl rfl (Nat.le_of_ble_eq_true rfl) ⟨Nat.le_trans (Nat.le_of_ble_eq_true rfl) hrf, Nat.le_trans (Nat.le_of_ble_eq_true rfl) hrl⟩ dX0_work_1 (fun H locs h => ?_)
  refine lv_istore_n (lv' := [(2, .int (f_X1_a M a1)), (0, .ref (ad 7)), (1, .int a1)]) hx hb dX0_work_4 rfl hl (by decide) rfl (fun ls hl => ?_)
  refine lv_iload_n hx hb dX0_work_5 rfl (lv_at hl 2 rfl) ?_
  refine wh_csip (As := [.int a1]) (rest := []) hcs C h (c_X1_b M a1) yw_X1_b in_mX0_57 hl.1 rfl rfl (Nat.le_of_ble_eq_true rfl) ⟨Nat.le_trans (Nat.le_of_ble_eq_true rfl) hrf, Nat.le_trans (Nat.le_of_ble_eq_true rfl) hrl⟩ dX0_work_6 (fun H locs h => ?_)
  refine lv_istore_n (lv' := [(3, .int (f_X1_b M a1)), (2, .int (f_X1_a M a1)), (0, .ref (ad 7)), (1, .int a1)]) hx hb dX0_work_9 rfl hl (by decide) rfl (fun ls hl => ?_)
  refine lv_iload_n hx hb dX0_work_10 rfl (lv_at hl 3 rfl) ?_
  refine wh_csip (As := [.int a1]) (rest := []) hcs C h (c_X1_c M a1) yw_X1_c in_mX0_60 hl.1 rfl rfl (Nat.le_of_ble_eq_true rfl) ⟨Nat.le_trans (Nat.le_of_ble_eq_true rfl) hrf, Nat.le_trans (Nat.le_of_ble_eq_true rfl) hrl⟩ dX0_work_11 (fun H locs h => ?_)
  refine lv_istore (lv' := [(4, .int (f_X1_c M a1)), (3, .int (f_X1_b M a1)), (2, .int (f_X1_a M a1)), (0, .ref (ad 7)), (1, .int a1)]) hx hb dX0_work_14 hl (by decide) rfl (fun ls hl => ?_)
  refine lv_iload_n hx hb dX0_work_16 rfl (lv_at hl 4 rfl) ?_
  refine wh_csip (As := [.int a1]) (rest := []) hcs C h (c_X1_op M a1) yw_X1_op in_mX0_63 hl.1 rfl rfl (Nat.le_of_ble_eq_true rfl) ⟨Nat.le_trans (Nat.le_of_ble_eq_true rfl) hrf, Nat.le_trans (Nat.le_of_ble_eq_true rfl) hrl⟩ dX0_work_17 (fun H locs h => ?_)
  refine (Classical.em ((f_X1_op M a1) = (1 : Int32))).elim (fun c5 => ?_) (fun c5 => ?_)
  · have hres := it_p hres c5
    have hok := io_p hok c5
    refine sw_in (k := (1 : Int32)) (tgt := 96) c5 hx hb dX0_work_20 (by decide) (by decide) rfl (by decide) ?_
    refine lv_aload_n hx hb dX0_work_96 rfl (lv_at hl 3 rfl) ?_
    refine N_X0_registers_get C h in_fX0_28 dX0_work_97 ?_
    refine lv_iload_n hx hb dX0_work_100 rfl (lv_at hl 2 rfl) ?_
    refine lv_iload_n hx hb dX0_work_101 rfl (lv_at hl 4 rfl) ?_
    refine lv_i2s (v := (sx a1)) hx hb dX0_work_102 rfl ?_
    have h6 := hok
    refine N_rg_st (M2 := (ms M 25 (upd (M 25) (f_X1_a M a1).toNatClampNeg (sx a1)))) C h h6 rfl dX0_work_103 (fun H locs h => ?_)
    refine lv_goto (tgt := 382) hx hb dX0_work_104 (by decide) ?_
    exact wh_vret C h hres dX0_work_382
  · have hres := it_n hres c5
    have hok := io_n hok c5
    refine (Classical.em ((f_X1_op M a1) = (2 : Int32))).elim (fun c7 => ?_) (fun c7 => ?_)
    · have hres := it_p hres c7
      have hok := io_p hok c7
      refine sw_in (k := (2 : Int32)) (tgt := 107) c7 hx hb dX0_work_20 (by decide) (by decide) rfl (by decide) ?_
      refine lv_aload_n hx hb dX0_work_107 rfl (lv_at hl 3 rfl) ?_
      refine N_X0_registers_get C h in_fX0_28 dX0_work_108 ?_
      refine lv_iload_n hx hb dX0_work_111 rfl (lv_at hl 2 rfl) ?_
      refine lv_aload_n hx hb dX0_work_112 rfl (lv_at hl 3 rfl) ?_
      refine N_X0_registers_get C h in_fX0_28 dX0_work_113 ?_
      refine lv_iload_n hx hb dX0_work_116 rfl (lv_at hl 1 rfl) ?_
      obtain ⟨h10, hok⟩ := hok
      refine N_rg_ld (v := ((M 25) (f_X1_b M a1).toNatClampNeg)) C h h10 rfl dX0_work_117 ?_
      refine lv_aload_n hx hb dX0_work_118 rfl (lv_at hl 3 rfl) ?_
      refine N_X0_registers_get C h in_fX0_28 dX0_work_119 ?_
      refine lv_iload hx hb dX0_work_122 (lv_at hl 0 rfl) ?_
      obtain ⟨h9, hok⟩ := hok
      refine N_rg_ld (v := ((M 25) (f_X1_c M a1).toNatClampNeg)) C h h9 rfl dX0_work_124 ?_
      refine lv_iadd hx hb dX0_work_125 ?_
      have h8 := hok
      refine N_rg_st (M2 := (ms M 25 (upd (M 25) (f_X1_a M a1).toNatClampNeg (((M 25) (f_X1_b M a1).toNatClampNeg) + ((M 25) (f_X1_c M a1).toNatClampNeg))))) C h h8 rfl dX0_work_126 (fun H locs h => ?_)
      refine lv_goto (tgt := 382) hx hb dX0_work_127 (by decide) ?_
      exact wh_vret C h hres dX0_work_382
    · have hres := it_n hres c7
      have hok := io_n hok c7
      refine (Classical.em ((f_X1_op M a1) = (3 : Int32))).elim (fun c11 => ?_) (fun c11 => ?_)
      · have hres := it_p hres c11
        have hok := io_p hok c11
        refine sw_in (k := (3 : Int32)) (tgt := 130) c11 hx hb dX0_work_20 (by decide) (by decide) rfl (by decide) ?_
        refine lv_aload_n hx hb dX0_work_130 rfl (lv_at hl 3 rfl) ?_
        refine N_X0_registers_get C h in_fX0_28 dX0_work_131 ?_
        refine lv_iload_n hx hb dX0_work_134 rfl (lv_at hl 2 rfl) ?_
        refine lv_aload_n hx hb dX0_work_135 rfl (lv_at hl 3 rfl) ?_
        refine N_X0_registers_get C h in_fX0_28 dX0_work_136 ?_
        refine lv_iload_n hx hb dX0_work_139 rfl (lv_at hl 1 rfl) ?_
        obtain ⟨h14, hok⟩ := hok
        refine N_rg_ld (v := ((M 25) (f_X1_b M a1).toNatClampNeg)) C h h14 rfl dX0_work_140 ?_
        refine lv_aload_n hx hb dX0_work_141 rfl (lv_at hl 3 rfl) ?_
        refine N_X0_registers_get C h in_fX0_28 dX0_work_142 ?_
        refine lv_iload hx hb dX0_work_145 (lv_at hl 0 rfl) ?_
        obtain ⟨h13, hok⟩ := hok
        refine N_rg_ld (v := ((M 25) (f_X1_c M a1).toNatClampNeg)) C h h13 rfl dX0_work_147 ?_
        refine lv_isub hx hb dX0_work_148 ?_
        have h12 := hok
        refine N_rg_st (M2 := (ms M 25 (upd (M 25) (f_X1_a M a1).toNatClampNeg (((M 25) (f_X1_b M a1).toNatClampNeg) - ((M 25) (f_X1_c M a1).toNatClampNeg))))) C h h12 rfl dX0_work_149 (fun H locs h => ?_)
        refine lv_goto (tgt := 382) hx hb dX0_work_150 (by decide) ?_
        exact wh_vret C h hres dX0_work_382
      · have hres := it_n hres c11
        have hok := io_n hok c11
        refine (Classical.em ((f_X1_op M a1) = (4 : Int32))).elim (fun c15 => ?_) (fun c15 => ?_)
        · have hres := it_p hres c15
          have hok := io_p hok c15
          refine sw_in (k := (4 : Int32)) (tgt := 153) c15 hx hb dX0_work_20 (by decide) (by decide) rfl (by decide) ?_
          refine lv_aload_n hx hb dX0_work_153 rfl (lv_at hl 3 rfl) ?_
          refine N_X0_registers_get C h in_fX0_28 dX0_work_154 ?_
          refine lv_iload_n hx hb dX0_work_157 rfl (lv_at hl 2 rfl) ?_
          refine lv_aload_n hx hb dX0_work_158 rfl (lv_at hl 3 rfl) ?_
          refine N_X0_registers_get C h in_fX0_28 dX0_work_159 ?_
          refine lv_iload_n hx hb dX0_work_162 rfl (lv_at hl 1 rfl) ?_
          obtain ⟨h18, hok⟩ := hok
          refine N_rg_ld (v := ((M 25) (f_X1_b M a1).toNatClampNeg)) C h h18 rfl dX0_work_163 ?_
          refine lv_aload_n hx hb dX0_work_164 rfl (lv_at hl 3 rfl) ?_
          refine N_X0_registers_get C h in_fX0_28 dX0_work_165 ?_
          refine lv_iload hx hb dX0_work_168 (lv_at hl 0 rfl) ?_
          obtain ⟨h17, hok⟩ := hok
          refine N_rg_ld (v := ((M 25) (f_X1_c M a1).toNatClampNeg)) C h h17 rfl dX0_work_170 ?_
          refine lv_imul hx hb dX0_work_171 ?_
          have h16 := hok
          refine N_rg_st (M2 := (ms M 25 (upd (M 25) (f_X1_a M a1).toNatClampNeg (((M 25) (f_X1_b M a1).toNatClampNeg) * ((M 25) (f_X1_c M a1).toNatClampNeg))))) C h h16 rfl dX0_work_172 (fun H locs h => ?_)
          refine lv_goto (tgt := 382) hx hb dX0_work_173 (by decide) ?_
          exact wh_vret C h hres dX0_work_382
        · have hres := it_n hres c15
          have hok := io_n hok c15
          refine (Classical.em ((f_X1_op M a1) = (5 : Int32))).elim (fun c19 => ?_) (fun c19 => ?_)
          · have hres := it_p hres c19
            have hok := io_p hok c19
            refine sw_in (k := (5 : Int32)) (tgt := 176) c19 hx hb dX0_work_20 (by decide) (by decide) rfl (by decide) ?_
            refine lv_aload_n hx hb dX0_work_176 rfl (lv_at hl 3 rfl) ?_
            refine N_X0_registers_get C h in_fX0_28 dX0_work_177 ?_
            refine lv_iload_n hx hb dX0_work_180 rfl (lv_at hl 2 rfl) ?_
            refine lv_aload_n hx hb dX0_work_181 rfl (lv_at hl 3 rfl) ?_
            refine N_X0_registers_get C h in_fX0_28 dX0_work_182 ?_
            refine lv_iload_n hx hb dX0_work_185 rfl (lv_at hl 1 rfl) ?_
            obtain ⟨h22, hok⟩ := hok
            refine N_rg_ld (v := ((M 25) (f_X1_b M a1).toNatClampNeg)) C h h22 rfl dX0_work_186 ?_
            refine lv_aload_n hx hb dX0_work_187 rfl (lv_at hl 3 rfl) ?_
            refine N_X0_registers_get C h in_fX0_28 dX0_work_188 ?_
            refine lv_iload hx hb dX0_work_191 (lv_at hl 0 rfl) ?_
            obtain ⟨h21, hok⟩ := hok
            refine N_rg_ld (v := ((M 25) (f_X1_c M a1).toNatClampNeg)) C h h21 rfl dX0_work_193 ?_
            refine lv_ixor hx hb dX0_work_194 ?_
            have h20 := hok
            refine N_rg_st (M2 := (ms M 25 (upd (M 25) (f_X1_a M a1).toNatClampNeg (((M 25) (f_X1_b M a1).toNatClampNeg) ^^^ ((M 25) (f_X1_c M a1).toNatClampNeg))))) C h h20 rfl dX0_work_195 (fun H locs h => ?_)
            refine lv_goto (tgt := 382) hx hb dX0_work_196 (by decide) ?_
            exact wh_vret C h hres dX0_work_382
          · have hres := it_n hres c19
            have hok := io_n hok c19
            refine (Classical.em ((f_X1_op M a1) = (6 : Int32))).elim (fun c23 => ?_) (fun c23 => ?_)
            · have hres := it_p hres c23
              have hok := io_p hok c23
              refine sw_in (k := (6 : Int32)) (tgt := 199) c23 hx hb dX0_work_20 (by decide) (by decide) rfl (by decide) ?_
              refine lv_aload_n hx hb dX0_work_199 rfl (lv_at hl 3 rfl) ?_
              refine lv_aload_n hx hb dX0_work_200 rfl (lv_at hl 3 rfl) ?_
              refine N_X0_registers_get C h in_fX0_28 dX0_work_201 ?_
              refine lv_iload_n hx hb dX0_work_204 rfl (lv_at hl 2 rfl) ?_
              have h25 := hok
              refine N_rg_ld (v := ((M 25) (f_X1_a M a1).toNatClampNeg)) C h h25 rfl dX0_work_205 ?_
              refine lv_if_ne (tgt := 213) hx hb dX0_work_206 (by decide) (fun c24 => ?_) (fun c24 => ?_)
              · have hres := it_n hres c24
                refine lv_aload_n hx hb dX0_work_213 rfl (lv_at hl 3 rfl) ?_
                refine N_X0_next_get (v := (M 16 0)) C h in_fX0_35 rfl dX0_work_214 ?_
                refine N_X0_next_put (v := (M 16 0)) (M2 := (ms M 16 (fun _ => (M 16 0)))) C h in_fX0_35 rfl dX0_work_217 (fun H locs h => ?_)
                refine lv_goto (tgt := 382) hx hb dX0_work_220 (by decide) ?_
                exact wh_vret C h hres dX0_work_382
              · have hres := it_p hres c24
                refine lv_iload_n hx hb dX0_work_209 rfl (lv_at hl 1 rfl) ?_
                refine lv_goto (tgt := 217) hx hb dX0_work_210 (by decide) ?_
                refine N_X0_next_put (v := (f_X1_b M a1)) (M2 := (ms M 16 (fun _ => (f_X1_b M a1)))) C h in_fX0_35 rfl dX0_work_217 (fun H locs h => ?_)
                refine lv_goto (tgt := 382) hx hb dX0_work_220 (by decide) ?_
                exact wh_vret C h hres dX0_work_382
            · have hres := it_n hres c23
              have hok := io_n hok c23
              refine (Classical.em ((f_X1_op M a1) = (7 : Int32))).elim (fun c26 => ?_) (fun c26 => ?_)
              · have hres := it_p hres c26
                refine sw_in (k := (7 : Int32)) (tgt := 223) c26 hx hb dX0_work_20 (by decide) (by decide) rfl (by decide) ?_
                refine lv_aload_n hx hb dX0_work_223 rfl (lv_at hl 3 rfl) ?_
                refine lv_iload_n hx hb dX0_work_224 rfl (lv_at hl 1 rfl) ?_
                refine N_X0_next_put (v := (f_X1_b M a1)) (M2 := (ms M 16 (fun _ => (f_X1_b M a1)))) C h in_fX0_35 rfl dX0_work_225 (fun H locs h => ?_)
                refine lv_goto (tgt := 382) hx hb dX0_work_228 (by decide) ?_
                exact wh_vret C h hres dX0_work_382
              · have hres := it_n hres c26
                have hok := io_n hok c26
                refine (Classical.em ((f_X1_op M a1) = (8 : Int32))).elim (fun c27 => ?_) (fun c27 => ?_)
                · have hres := it_p hres c27
                  have hok := io_p hok c27
                  refine sw_in (k := (8 : Int32)) (tgt := 246) c27 hx hb dX0_work_20 (by decide) (by decide) rfl (by decide) ?_
                  refine lv_aload_n hx hb dX0_work_246 rfl (lv_at hl 3 rfl) ?_
                  refine N_X0_registers_get C h in_fX0_28 dX0_work_247 ?_
                  refine lv_iload_n hx hb dX0_work_250 rfl (lv_at hl 2 rfl) ?_
                  refine lv_aload_n hx hb dX0_work_251 rfl (lv_at hl 3 rfl) ?_
                  refine N_X0_pending_get C h in_fX0_24 dX0_work_252 ?_
                  refine lv_bipush (v := (8 : Int32)) hx hb dX0_work_255 (by decide) ?_
                  refine lv_iload_n hx hb dX0_work_257 rfl (lv_at hl 1 rfl) ?_
                  refine lv_iadd hx hb dX0_work_258 ?_
                  obtain ⟨h30, hok⟩ := hok
                  refine wh_cvip (As := [.int ((8 : Int32) + (f_X1_b M a1))]) (rest := [.int (f_X1_a M a1), .ref (ad 13)]) hcs C h (c_X2_read M ((8 : Int32) + (f_X1_b M a1)) h30) yw_X2_read in_mX0_68 hl.1 rfl rfl (Nat.le_of_ble_eq_true rfl) ⟨Nat.le_trans (Nat.le_of_ble_eq_true rfl) hrf, Nat.le_trans (Nat.le_of_ble_eq_true rfl) hrl⟩ dX0_work_259 (fun H locs h => ?_)
                  have h29 := hok
                  refine N_rg_st (M2 := (ms M 25 (upd (M 25) (f_X1_a M a1).toNatClampNeg (f_X2_read M ((8 : Int32) + (f_X1_b M a1)))))) C h h29 rfl dX0_work_262 (fun H locs h => ?_)
                  refine lv_goto (tgt := 382) hx hb dX0_work_263 (by decide) ?_
                  exact wh_vret C h hres dX0_work_382
                · have hres := it_n hres c27
                  have hok := io_n hok c27
                  refine (Classical.em ((f_X1_op M a1) = (9 : Int32))).elim (fun c31 => ?_) (fun c31 => ?_)
                  · have hres := it_p hres c31
                    have hok := io_p hok c31
                    refine sw_in (k := (9 : Int32)) (tgt := 266) c31 hx hb dX0_work_20 (by decide) (by decide) rfl (by decide) ?_
                    refine lv_aload_n hx hb dX0_work_266 rfl (lv_at hl 3 rfl) ?_
                    refine lv_bipush (v := (8 : Int32)) hx hb dX0_work_267 (by decide) ?_
                    refine lv_iload_n hx hb dX0_work_269 rfl (lv_at hl 1 rfl) ?_
                    refine lv_iadd hx hb dX0_work_270 ?_
                    refine lv_aload_n hx hb dX0_work_271 rfl (lv_at hl 3 rfl) ?_
                    refine N_X0_registers_get C h in_fX0_28 dX0_work_272 ?_
                    refine lv_iload_n hx hb dX0_work_275 rfl (lv_at hl 2 rfl) ?_
                    obtain ⟨h34, hok⟩ := hok
                    refine N_rg_ld (v := ((M 25) (f_X1_a M a1).toNatClampNeg)) C h h34 rfl dX0_work_276 ?_
                    have h33 := hok
                    refine wh_cvv (As := [.int ((8 : Int32) + (f_X1_b M a1)), .int ((M 25) (f_X1_a M a1).toNatClampNeg)]) (rest := []) hcs C h (c_X0_writeIfRoom M ((8 : Int32) + (f_X1_b M a1)) ((M 25) (f_X1_a M a1).toNatClampNeg) h33) yw_X0_writeIfRoom in_mX0_71 hl.1 rfl rfl (Nat.le_of_ble_eq_true rfl) ⟨Nat.le_trans (Nat.le_of_ble_eq_true rfl) hrf, Nat.le_trans (Nat.le_of_ble_eq_true rfl) hrl⟩ dX0_work_277 (fun M32 H locs e32 h => ?_)
                    rw [e32] at hres
                    have hres := bv_e hres
                    refine lv_goto (tgt := 382) hx hb dX0_work_280 (by decide) ?_
                    exact wh_vret C h hres dX0_work_382
                  · have hres := it_n hres c31
                    have hok := io_n hok c31
                    refine (Classical.em ((f_X1_op M a1) = (10 : Int32))).elim (fun c35 => ?_) (fun c35 => ?_)
                    · have hres := it_p hres c35
                      have hok := io_p hok c35
                      refine sw_in (k := (10 : Int32)) (tgt := 283) c35 hx hb dX0_work_20 (by decide) (by decide) rfl (by decide) ?_
                      refine lv_aload_n hx hb dX0_work_283 rfl (lv_at hl 3 rfl) ?_
                      refine N_X0_registers_get C h in_fX0_28 dX0_work_284 ?_
                      refine lv_iload_n hx hb dX0_work_287 rfl (lv_at hl 2 rfl) ?_
                      refine lv_aload_n hx hb dX0_work_288 rfl (lv_at hl 3 rfl) ?_
                      refine N_X0_pending_get C h in_fX0_24 dX0_work_289 ?_
                      refine lv_iload_n hx hb dX0_work_292 rfl (lv_at hl 1 rfl) ?_
                      refine lv_aload_n hx hb dX0_work_293 rfl (lv_at hl 3 rfl) ?_
                      refine N_X0_registers_get C h in_fX0_28 dX0_work_294 ?_
                      refine lv_iload hx hb dX0_work_297 (lv_at hl 0 rfl) ?_
                      obtain ⟨h40, hok⟩ := hok
                      refine N_rg_ld (v := ((M 25) (f_X1_c M a1).toNatClampNeg)) C h h40 rfl dX0_work_299 ?_
                      refine wh_csip (As := [.int (f_X1_b M a1), .int ((M 25) (f_X1_c M a1).toNatClampNeg)]) (rest := [.ref (ad 8), .int (f_X1_a M a1), .ref (ad 13)]) hcs C h (c_X0_wordOfRow M (f_X1_b M a1) ((M 25) (f_X1_c M a1).toNatClampNeg)) yw_X0_wordOfRow in_mX0_75 hl.1 rfl rfl (Nat.le_of_ble_eq_true rfl) ⟨Nat.le_trans (Nat.le_of_ble_eq_true rfl) hrf, Nat.le_trans (Nat.le_of_ble_eq_true rfl) hrl⟩ dX0_work_300 (fun H locs h => ?_)
                      obtain ⟨h39, hok⟩ := hok
                      refine wh_cvip (As := [.int (f_X0_wordOfRow M (f_X1_b M a1) ((M 25) (f_X1_c M a1).toNatClampNeg))]) (rest := [.int (f_X1_a M a1), .ref (ad 13)]) hcs C h (c_X2_read M (f_X0_wordOfRow M (f_X1_b M a1) ((M 25) (f_X1_c M a1).toNatClampNeg)) h39) yw_X2_read in_mX0_68 hl.1 rfl rfl (Nat.le_of_ble_eq_true rfl) ⟨Nat.le_trans (Nat.le_of_ble_eq_true rfl) hrf, Nat.le_trans (Nat.le_of_ble_eq_true rfl) hrl⟩ dX0_work_303 (fun H locs h => ?_)
                      have h38 := hok
                      refine N_rg_st (M2 := (ms M 25 (upd (M 25) (f_X1_a M a1).toNatClampNeg (f_X2_read M (f_X0_wordOfRow M (f_X1_b M a1) ((M 25) (f_X1_c M a1).toNatClampNeg)))))) C h h38 rfl dX0_work_306 (fun H locs h => ?_)
                      refine lv_goto (tgt := 382) hx hb dX0_work_307 (by decide) ?_
                      exact wh_vret C h hres dX0_work_382
                    · have hres := it_n hres c35
                      have hok := io_n hok c35
                      refine (Classical.em ((f_X1_op M a1) = (11 : Int32))).elim (fun c41 => ?_) (fun c41 => ?_)
                      · have hres := it_p hres c41
                        have hok := io_p hok c41
                        refine sw_in (k := (11 : Int32)) (tgt := 310) c41 hx hb dX0_work_20 (by decide) (by decide) rfl (by decide) ?_
                        refine lv_aload_n hx hb dX0_work_310 rfl (lv_at hl 3 rfl) ?_
                        refine lv_iload_n hx hb dX0_work_311 rfl (lv_at hl 1 rfl) ?_
                        refine lv_aload_n hx hb dX0_work_312 rfl (lv_at hl 3 rfl) ?_
                        refine N_X0_registers_get C h in_fX0_28 dX0_work_313 ?_
                        refine lv_iload hx hb dX0_work_316 (lv_at hl 0 rfl) ?_
                        obtain ⟨h46, hok⟩ := hok
                        refine N_rg_ld (v := ((M 25) (f_X1_c M a1).toNatClampNeg)) C h h46 rfl dX0_work_318 ?_
                        refine wh_csip (As := [.int (f_X1_b M a1), .int ((M 25) (f_X1_c M a1).toNatClampNeg)]) (rest := [.ref (ad 7)]) hcs C h (c_X0_wordOfRow M (f_X1_b M a1) ((M 25) (f_X1_c M a1).toNatClampNeg)) yw_X0_wordOfRow in_mX0_75 hl.1 rfl rfl (Nat.le_of_ble_eq_true rfl) ⟨Nat.le_trans (Nat.le_of_ble_eq_true rfl) hrf, Nat.le_trans (Nat.le_of_ble_eq_true rfl) hrl⟩ dX0_work_319 (fun H locs h => ?_)
                        refine lv_aload_n hx hb dX0_work_322 rfl (lv_at hl 3 rfl) ?_
                        refine N_X0_registers_get C h in_fX0_28 dX0_work_323 ?_
                        refine lv_iload_n hx hb dX0_work_326 rfl (lv_at hl 2 rfl) ?_
                        obtain ⟨h45, hok⟩ := hok
                        refine N_rg_ld (v := ((M 25) (f_X1_a M a1).toNatClampNeg)) C h h45 rfl dX0_work_327 ?_
                        have h44 := hok
                        refine wh_cvv (As := [.int (f_X0_wordOfRow M (f_X1_b M a1) ((M 25) (f_X1_c M a1).toNatClampNeg)), .int ((M 25) (f_X1_a M a1).toNatClampNeg)]) (rest := []) hcs C h (c_X0_writeIfRoom M (f_X0_wordOfRow M (f_X1_b M a1) ((M 25) (f_X1_c M a1).toNatClampNeg)) ((M 25) (f_X1_a M a1).toNatClampNeg) h44) yw_X0_writeIfRoom in_mX0_71 hl.1 rfl rfl (Nat.le_of_ble_eq_true rfl) ⟨Nat.le_trans (Nat.le_of_ble_eq_true rfl) hrf, Nat.le_trans (Nat.le_of_ble_eq_true rfl) hrl⟩ dX0_work_328 (fun M43 H locs e43 h => ?_)
                        rw [e43] at hres
                        have hres := bv_e hres
                        refine lv_goto (tgt := 382) hx hb dX0_work_331 (by decide) ?_
                        exact wh_vret C h hres dX0_work_382
                      · have hres := it_n hres c41
                        have hok := io_n hok c41
                        refine (Classical.em ((f_X1_op M a1) = (12 : Int32))).elim (fun c47 => ?_) (fun c47 => ?_)
                        · have hres := it_p hres c47
                          have hok := io_p hok c47
                          refine sw_in (k := (12 : Int32)) (tgt := 334) c47 hx hb dX0_work_20 (by decide) (by decide) rfl (by decide) ?_
                          refine lv_aload_n hx hb dX0_work_334 rfl (lv_at hl 3 rfl) ?_
                          refine lv_aload_n hx hb dX0_work_335 rfl (lv_at hl 3 rfl) ?_
                          refine N_X0_registers_get C h in_fX0_28 dX0_work_336 ?_
                          refine lv_iload_n hx hb dX0_work_339 rfl (lv_at hl 2 rfl) ?_
                          obtain ⟨h50, hok⟩ := hok
                          refine N_rg_ld (v := ((M 25) (f_X1_a M a1).toNatClampNeg)) C h h50 rfl dX0_work_340 ?_
                          refine lv_bipush (v := (56 : Int32)) hx hb dX0_work_341 (by decide) ?_
                          refine lv_iload_n hx hb dX0_work_343 rfl (lv_at hl 1 rfl) ?_
                          refine lv_bipush (v := (6 : Int32)) hx hb dX0_work_344 (by decide) ?_
                          refine lv_imul hx hb dX0_work_346 ?_
                          refine lv_iadd hx hb dX0_work_347 ?_
                          have h49 := hok
                          refine wh_cvv (As := [.int ((M 25) (f_X1_a M a1).toNatClampNeg), .int ((56 : Int32) + ((f_X1_b M a1) * (6 : Int32)))]) (rest := []) hcs C h (c_X0_push M ((M 25) (f_X1_a M a1).toNatClampNeg) ((56 : Int32) + ((f_X1_b M a1) * (6 : Int32))) h49) yw_X0_push in_mX0_79 hl.1 rfl rfl (Nat.le_of_ble_eq_true rfl) ⟨Nat.le_trans (Nat.le_of_ble_eq_true rfl) hrf, Nat.le_trans (Nat.le_of_ble_eq_true rfl) hrl⟩ dX0_work_348 (fun M48 H locs e48 h => ?_)
                          rw [e48] at hres
                          have hres := bv_e hres
                          refine lv_goto (tgt := 382) hx hb dX0_work_351 (by decide) ?_
                          exact wh_vret C h hres dX0_work_382
                        · have hres := it_n hres c47
                          have hok := io_n hok c47
                          refine (Classical.em ((f_X1_op M a1) = (13 : Int32))).elim (fun c51 => ?_) (fun c51 => ?_)
                          · have hres := it_p hres c51
                            have hok := io_p hok c51
                            refine sw_in (k := (13 : Int32)) (tgt := 354) c51 hx hb dX0_work_20 (by decide) (by decide) rfl (by decide) ?_
                            refine lv_aload_n hx hb dX0_work_354 rfl (lv_at hl 3 rfl) ?_
                            refine lv_iload_n hx hb dX0_work_355 rfl (lv_at hl 2 rfl) ?_
                            refine lv_bipush (v := (56 : Int32)) hx hb dX0_work_356 (by decide) ?_
                            refine lv_iload_n hx hb dX0_work_358 rfl (lv_at hl 1 rfl) ?_
                            refine lv_bipush (v := (6 : Int32)) hx hb dX0_work_359 (by decide) ?_
                            refine lv_imul hx hb dX0_work_361 ?_
                            refine lv_iadd hx hb dX0_work_362 ?_
                            have h53 := hok
                            refine wh_cvv (As := [.int (f_X1_a M a1), .int ((56 : Int32) + ((f_X1_b M a1) * (6 : Int32)))]) (rest := []) hcs C h (c_X0_pop M (f_X1_a M a1) ((56 : Int32) + ((f_X1_b M a1) * (6 : Int32))) h53) yw_X0_pop in_mX0_82 hl.1 rfl rfl (Nat.le_of_ble_eq_true rfl) ⟨Nat.le_trans (Nat.le_of_ble_eq_true rfl) hrf, Nat.le_trans (Nat.le_of_ble_eq_true rfl) hrl⟩ dX0_work_363 (fun M52 H locs e52 h => ?_)
                            rw [e52] at hres
                            have hres := bv_e hres
                            refine lv_goto (tgt := 382) hx hb dX0_work_366 (by decide) ?_
                            exact wh_vret C h hres dX0_work_382
                          · have hres := it_n hres c51
                            have hok := io_n hok c51
                            refine (Classical.em ((f_X1_op M a1) = (14 : Int32))).elim (fun c54 => ?_) (fun c54 => ?_)
                            · have hres := it_p hres c54
                              have hok := io_p hok c54
                              refine sw_in (k := (14 : Int32)) (tgt := 231) c54 hx hb dX0_work_20 (by decide) (by decide) rfl (by decide) ?_
                              refine lv_aload_n hx hb dX0_work_231 rfl (lv_at hl 3 rfl) ?_
                              refine N_X0_registers_get C h in_fX0_28 dX0_work_232 ?_
                              refine lv_iload_n hx hb dX0_work_235 rfl (lv_at hl 2 rfl) ?_
                              refine lv_aload_n hx hb dX0_work_236 rfl (lv_at hl 3 rfl) ?_
                              refine N_X0_readings_get C h in_fX0_15 dX0_work_237 ?_
                              refine lv_iload_n hx hb dX0_work_240 rfl (lv_at hl 1 rfl) ?_
                              obtain ⟨h56, hok⟩ := hok
                              refine N_rd_ld (v := ((M 24) (f_X1_b M a1).toNatClampNeg)) C h h56 rfl dX0_work_241 ?_
                              have h55 := hok
                              refine N_rg_st (M2 := (ms M 25 (upd (M 25) (f_X1_a M a1).toNatClampNeg ((M 24) (f_X1_b M a1).toNatClampNeg)))) C h h55 rfl dX0_work_242 (fun H locs h => ?_)
                              refine lv_goto (tgt := 382) hx hb dX0_work_243 (by decide) ?_
                              exact wh_vret C h hres dX0_work_382
                            · have hres := it_n hres c54
                              have hok := io_n hok c54
                              refine (Classical.em ((f_X1_op M a1) = (15 : Int32))).elim (fun c57 => ?_) (fun c57 => ?_)
                              · have hres := it_p hres c57
                                have hok := io_p hok c57
                                refine sw_in (k := (15 : Int32)) (tgt := 369) c57 hx hb dX0_work_20 (by decide) (by decide) rfl (by decide) ?_
                                refine lv_aload_n hx hb dX0_work_369 rfl (lv_at hl 3 rfl) ?_
                                refine lv_aload_n hx hb dX0_work_370 rfl (lv_at hl 3 rfl) ?_
                                refine N_X0_registers_get C h in_fX0_28 dX0_work_371 ?_
                                refine lv_iload_n hx hb dX0_work_374 rfl (lv_at hl 2 rfl) ?_
                                obtain ⟨h60, hok⟩ := hok
                                refine N_rg_ld (v := ((M 25) (f_X1_a M a1).toNatClampNeg)) C h h60 rfl dX0_work_375 ?_
                                have h59 := hok
                                refine wh_cvv (As := [.int ((M 25) (f_X1_a M a1).toNatClampNeg)]) (rest := []) hcs C h (c_X0_send M ((M 25) (f_X1_a M a1).toNatClampNeg) h59) yw_X0_send in_mX0_85 hl.1 rfl rfl (Nat.le_of_ble_eq_true rfl) ⟨Nat.le_trans (Nat.le_of_ble_eq_true rfl) hrf, Nat.le_trans (Nat.le_of_ble_eq_true rfl) hrl⟩ dX0_work_376 (fun M58 H locs e58 h => ?_)
                                rw [e58] at hres
                                have hres := bv_e hres
                                refine lv_goto (tgt := 382) hx hb dX0_work_379 (by decide) ?_
                                exact wh_vret C h hres dX0_work_382
                              · have hres := it_n hres c57
                                refine lv_tableOut (tgt := 382) hx hb dX0_work_20 (by have q := And.intro trivial trivial; have n1 := lv_neT c5 (a := 1) (by decide); have n2 := lv_neT c7 (a := 2) (by decide); have n3 := lv_neT c11 (a := 3) (by decide); have n4 := lv_neT c15 (a := 4) (by decide); have n5 := lv_neT c19 (a := 5) (by decide); have n6 := lv_neT c23 (a := 6) (by decide); have n7 := lv_neT c26 (a := 7) (by decide); have n8 := lv_neT c27 (a := 8) (by decide); have n9 := lv_neT c31 (a := 9) (by decide); have n10 := lv_neT c35 (a := 10) (by decide); have n11 := lv_neT c41 (a := 11) (by decide); have n12 := lv_neT c47 (a := 12) (by decide); have n13 := lv_neT c51 (a := 13) (by decide); have n14 := lv_neT c54 (a := 14) (by decide); have n15 := lv_neT c57 (a := 15) (by decide); omega) (by decide) ?_
                                exact wh_vret C h hres dX0_work_382
theorem yw_X0_work {cI : ClassId} {ad : Nat → Nat} : YV (wN cI ad) (ad 7) yX0_work cX0_work 5 none rmX0_work 1 := ⟨fun M => ⟨7, 0, _, _, rfl, rfl, rfl⟩, in_cX0_work, in_nX0_work, in_vX0_work, in_iX0, by decide +kernel, rfl, rfl⟩
theorem c_X0_work {l : Launch} {D : va_G} {cI : ClassId} {ad : Nat → Nat} (M : Mem) (a1 : Int32) (hok : ok_X0_work M a1) : KV l D [(cI, .int)] (wN cI ad) yX0_work cX0_work 5 rmX0_work [.ref (ad 7), .int a1] M (f_X0_work M a1) := met_v (by decide) (Nat.le_of_ble_eq_true rfl) (fun p e s m below meth c A C h ls hl => k_X0_work_0 ⟨Nat.le_refl _, Nat.le_refl _⟩ (Nat.le_refl _) (Nat.le_refl _) C M a1 _ _ ls hok rfl h hl)
