abbrev rmX2_clear : Room := { frames := 0, cells := 0, slots := 0, locals := 0 }
def f_X2_clear_2 : Nat → Mem → Int32 → Mem
  | 0, M, _ => M
  | n + 1, M, x1 => (if (M 20 0) ≤ x1 then (ms M 20 (fun _ => (0 : Int32))) else (f_X2_clear_2 n (ms M 23 (upd (M 23) ((M 21) x1.toNatClampNeg).toNatClampNeg (0 : Int32))) (x1 + (1 : Int32))))
def ok_X2_clear_2 : Nat → Mem → Int32 → Prop
  | 0, _, _ => False
  | n + 1, M, x1 => (if (M 20 0) ≤ x1 then True else vp_in x1 40 ∧ vp_in ((M 21) x1.toNatClampNeg) 164 ∧ ok_X2_clear_2 n (ms M 23 (upd (M 23) ((M 21) x1.toNatClampNeg).toNatClampNeg (0 : Int32))) (x1 + (1 : Int32)))
def f_X2_clear (M : Mem) : Mem := (f_X2_clear_2 41 M (0 : Int32))
def ok_X2_clear (M : Mem) : Prop := ok_X2_clear_2 41 M (0 : Int32)
set_option maxRecDepth 100000 in
set_option maxHeartbeats 4000000 in
theorem k_X2_clear_2 {p : Program} {l : Launch} {e : Env} {s : State} {m : MethodId} {args : Array Value} {below : List Frame} {meth : Method} {c : Code} {D : va_G} {cI : ClassId} {ad : Nat → Nat} {A : Nat → Prop} {cells slots : Nat} {R : Room} (hcs : cells ≤ R.cells ∧ slots ≤ R.slots) (hrf : rmX2_clear.frames ≤ R.frames) (hrl : rmX2_clear.locals ≤ R.locals) {res : Mem} (C : CX p s m args meth c RX2 cX2_clear 2 none) : ∀ (n : Nat) (M : Mem) (x1 : Int32) (H : Heap) (locs : List Loc) (ls : Array Slot), ok_X2_clear_2 n M x1 → f_X2_clear_2 n M x1 = res → WH D [(cI, .int)] (wN cI ad) A s H locs M → lv_has ls 2 [(0, .ref (ad 8)), (1, .int x1)] → W p l e R s m args below meth c H locs cells slots (MQ below (PV D [(cI, .int)] (wN cI ad) A res) args s cells slots A) (F0 m 2 ls []) := by
  have hx := C.1
  have hb := C.2.1
  have hown := C.2.2.2.2.1
  have hts := C.2.2.2.2.2.1
  intro n
  induction n with
  | zero =>
    intro M x1 H locs ls hok
    exact absurd hok (by intro z; exact z)
  | succ n ih =>
    intro M x1 H locs ls hok hres h hl
    rw [ok_X2_clear_2] at hok
    rw [f_X2_clear_2] at hres
    refine lv_iload_n hx hb dX2_clear_2 rfl (lv_at hl 1 rfl) ?_
    refine lv_aload_n hx hb dX2_clear_3 rfl (lv_at hl 0 rfl) ?_
    refine N_X2_count_get (v := (M 20 0)) C h in_fX2_25 rfl dX2_clear_4 ?_
    refine lv_icmp_ge (tgt := 28) hx hb dX2_clear_7 (by decide) (fun c1 => ?_) (fun c1 => ?_)
    · have hres := it_p hres c1
      refine lv_aload_n hx hb dX2_clear_28 rfl (lv_at hl 0 rfl) ?_
      refine lv_iconst (v := (0 : Int32)) hx hb dX2_clear_29 (by decide) ?_
      refine N_X2_count_put (v := (0 : Int32)) (M2 := (ms M 20 (fun _ => (0 : Int32)))) C h in_fX2_25 rfl dX2_clear_30 (fun H locs h => ?_)
      exact wh_vret C h hres dX2_clear_33
    · have hres := it_n hres c1
      have hok := io_n hok c1
      refine lv_aload_n hx hb dX2_clear_10 rfl (lv_at hl 0 rfl) ?_
      refine N_X2_entryOver_get C h in_fX2_22 dX2_clear_11 ?_
      refine lv_aload_n hx hb dX2_clear_14 rfl (lv_at hl 0 rfl) ?_
      refine N_X2_places_get C h in_fX2_13 dX2_clear_15 ?_
      refine lv_iload_n hx hb dX2_clear_18 rfl (lv_at hl 1 rfl) ?_
      obtain ⟨h3, hok⟩ := hok
      refine N_pp_ld (v := ((M 21) x1.toNatClampNeg)) C h h3 rfl dX2_clear_19 ?_
      refine lv_iconst (v := (0 : Int32)) hx hb dX2_clear_20 (by decide) ?_
      obtain ⟨h2, hok⟩ := hok
      refine N_po_st (M2 := (ms M 23 (upd (M 23) ((M 21) x1.toNatClampNeg).toNatClampNeg (0 : Int32)))) C h h2 rfl dX2_clear_21 (fun H locs h => ?_)
      refine lv_iinc (v := (x1 + (1 : Int32))) (lv' := [(1, .int (x1 + (1 : Int32))), (0, .ref (ad 8))]) hx hb dX2_clear_22 hl (k := 1) rfl rfl (by decide) rfl (fun ls hl => ?_)
      refine lv_goto (tgt := 2) hx hb dX2_clear_25 (by decide) ?_
      exact ih (ms M 23 (upd (M 23) ((M 21) x1.toNatClampNeg).toNatClampNeg (0 : Int32))) (x1 + (1 : Int32)) _ _ _ hok hres h (lv_sub hl [1, 0] rfl)
set_option maxRecDepth 100000 in
set_option maxHeartbeats 4000000 in
theorem k_X2_clear_0 {p : Program} {l : Launch} {e : Env} {s : State} {m : MethodId} {args : Array Value} {below : List Frame} {meth : Method} {c : Code} {D : va_G} {cI : ClassId} {ad : Nat → Nat} {A : Nat → Prop} {cells slots : Nat} {R : Room} (hcs : cells ≤ R.cells ∧ slots ≤ R.slots) (hrf : rmX2_clear.frames ≤ R.frames) (hrl : rmX2_clear.locals ≤ R.locals) {res : Mem} (C : CX p s m args meth c RX2 cX2_clear 2 none) : ∀ (M : Mem) (H : Heap) (locs : List Loc) (ls : Array Slot), ok_X2_clear M → f_X2_clear M = res → WH D [(cI, .int)] (wN cI ad) A s H locs M → lv_has ls 2 [(0, .ref (ad 8))] → W p l e R s m args below meth c H locs cells slots (MQ below (PV D [(cI, .int)] (wN cI ad) A res) args s cells slots A) (F0 m 0 ls []) := by
  have hx := C.1
  have hb := C.2.1
  have hown := C.2.2.2.2.1
  have hts := C.2.2.2.2.2.1
  intro M H locs ls hok hres h hl
  rw [ok_X2_clear] at hok
  rw [f_X2_clear] at hres
  refine lv_iconst (v := (0 : Int32)) hx hb dX2_clear_0 (by decide) ?_
  refine lv_istore_n (lv' := [(1, .int (0 : Int32)), (0, .ref (ad 8))]) hx hb dX2_clear_1 rfl hl (by decide) rfl (fun ls hl => ?_)
  exact k_X2_clear_2 hcs hrf hrl C 41 M (0 : Int32) _ _ _ hok hres h (lv_sub hl [1, 0] rfl)
theorem yw_X2_clear {cI : ClassId} {ad : Nat → Nat} : YV (wN cI ad) (ad 8) yX2_clear cX2_clear 2 none rmX2_clear 0 := ⟨fun M => ⟨8, 2, _, _, rfl, rfl, rfl⟩, in_cX2_clear, in_nX2_clear, in_vX2_clear, in_iX2, by decide +kernel, rfl, rfl⟩
theorem c_X2_clear {l : Launch} {D : va_G} {cI : ClassId} {ad : Nat → Nat} (M : Mem) (hok : ok_X2_clear M) : KV l D [(cI, .int)] (wN cI ad) yX2_clear cX2_clear 2 rmX2_clear [.ref (ad 8)] M (f_X2_clear M) := met_v (by decide) (Nat.le_of_ble_eq_true rfl) (fun p e s m below meth c A C h ls hl => k_X2_clear_0 ⟨Nat.le_refl _, Nat.le_refl _⟩ (Nat.le_refl _) (Nat.le_refl _) C M _ _ ls hok rfl h hl)
abbrev rmX2_read : Room := { frames := 0, cells := 0, slots := 0, locals := 0 }
def f_X2_read (M : Mem) (a1 : Int32) : Int32 := (if (((M 23) a1.toNatClampNeg) - (1 : Int32)) < 0 then ((M 13) a1.toNatClampNeg) else ((M 22) (((M 23) a1.toNatClampNeg) - (1 : Int32)).toNatClampNeg))
def ok_X2_read (M : Mem) (a1 : Int32) : Prop := vp_in a1 164 ∧ (if (((M 23) a1.toNatClampNeg) - (1 : Int32)) < 0 then vp_in a1 164 else vp_in (((M 23) a1.toNatClampNeg) - (1 : Int32)) 40)
set_option maxRecDepth 100000 in
set_option maxHeartbeats 4000000 in
theorem k_X2_read_0 {p : Program} {l : Launch} {e : Env} {s : State} {m : MethodId} {args : Array Value} {below : List Frame} {meth : Method} {c : Code} {D : va_G} {cI : ClassId} {ad : Nat → Nat} {A : Nat → Prop} {cells slots : Nat} {R : Room} (hcs : cells ≤ R.cells ∧ slots ≤ R.slots) (hrf : rmX2_read.frames ≤ R.frames) (hrl : rmX2_read.locals ≤ R.locals) {r0 : Int32} (C : CX p s m args meth c RX2 cX2_read 3 (some .int)) : ∀ (M : Mem) (a1 : Int32) (H : Heap) (locs : List Loc) (ls : Array Slot), ok_X2_read M a1 → f_X2_read M a1 = r0 → WH D [(cI, .int)] (wN cI ad) A s H locs M → lv_has ls 3 [(0, .ref (ad 8)), (1, .int a1)] → W p l e R s m args below meth c H locs cells slots (MQ below (PI D [(cI, .int)] (wN cI ad) A (M, r0)) args s cells slots A) (F0 m 0 ls []) := by
  have hx := C.1
  have hb := C.2.1
  have hown := C.2.2.2.2.1
  have hts := C.2.2.2.2.2.1
  intro M a1 H locs ls hok hres h hl
  rw [ok_X2_read] at hok
  rw [f_X2_read] at hres
  refine lv_aload_n hx hb dX2_read_0 rfl (lv_at hl 0 rfl) ?_
  refine N_X2_entryOver_get C h in_fX2_22 dX2_read_1 ?_
  refine lv_iload_n hx hb dX2_read_4 rfl (lv_at hl 1 rfl) ?_
  obtain ⟨h4, hok⟩ := hok
  refine N_po_ld (v := ((M 23) a1.toNatClampNeg)) C h h4 rfl dX2_read_5 ?_
  refine lv_iconst (v := (1 : Int32)) hx hb dX2_read_6 (by decide) ?_
  refine lv_isub hx hb dX2_read_7 ?_
  refine lv_istore_n (lv' := [(2, .int (((M 23) a1.toNatClampNeg) - (1 : Int32))), (0, .ref (ad 8)), (1, .int a1)]) hx hb dX2_read_8 rfl hl (by decide) rfl (fun ls hl => ?_)
  refine lv_iload_n hx hb dX2_read_9 rfl (lv_at hl 0 rfl) ?_
  refine lv_if_lt (tgt := 22) hx hb dX2_read_10 (by decide) (fun c1 => ?_) (fun c1 => ?_)
  · have hres := it_p hres c1
    have hok := io_p hok c1
    refine lv_aload_n hx hb dX2_read_22 rfl (lv_at hl 1 rfl) ?_
    refine N_X2_store_get C h in_fX2_7 dX2_read_23 ?_
    refine N_X4_words_get C h in_fX2_29 dX2_read_26 ?_
    refine lv_iload_n hx hb dX2_read_29 rfl (lv_at hl 2 rfl) ?_
    have h2 := hok
    refine N_sw_ld (v := ((M 13) a1.toNatClampNeg)) C h h2 rfl dX2_read_30 ?_
    exact wh_iret C h (cz hres) dX2_read_31
  · have hres := it_n hres c1
    have hok := io_n hok c1
    refine lv_aload_n hx hb dX2_read_13 rfl (lv_at hl 1 rfl) ?_
    refine N_X2_values_get C h in_fX2_17 dX2_read_14 ?_
    refine lv_iload_n hx hb dX2_read_17 rfl (lv_at hl 0 rfl) ?_
    have h3 := hok
    refine N_pv_ld (v := ((M 22) (((M 23) a1.toNatClampNeg) - (1 : Int32)).toNatClampNeg)) C h h3 rfl dX2_read_18 ?_
    refine lv_goto (tgt := 31) hx hb dX2_read_19 (by decide) ?_
    exact wh_iret C h (cz hres) dX2_read_31
theorem yw_X2_read {cI : ClassId} {ad : Nat → Nat} : YV (wN cI ad) (ad 8) yX2_read cX2_read 3 (some .int) rmX2_read 1 := ⟨fun M => ⟨8, 2, _, _, rfl, rfl, rfl⟩, in_cX2_read, in_nX2_read, in_vX2_read, in_iX2, by decide +kernel, rfl, rfl⟩
theorem c_X2_read {l : Launch} {D : va_G} {cI : ClassId} {ad : Nat → Nat} (M : Mem) (a1 : Int32) (hok : ok_X2_read M a1) : KI l D [(cI, .int)] (wN cI ad) yX2_read cX2_read 3 rmX2_read [.ref (ad 8), .int a1] M (M, f_X2_read M a1) := met_i (by decide) (Nat.le_of_ble_eq_true rfl) (fun p e s m below meth c A C h ls hl => k_X2_read_0 ⟨Nat.le_refl _, Nat.le_refl _⟩ (Nat.le_refl _) (Nat.le_refl _) C M a1 _ _ ls hok rfl h hl)
abbrev rmX2_hasRoomFor : Room := { frames := 0, cells := 0, slots := 0, locals := 0 }
def f_X2_hasRoomFor (M : Mem) (a1 : Int32) : Int32 := (if ((M 23) a1.toNatClampNeg) = 0 then (if (38 : Int32) ≤ (M 20 0) then (0 : Int32) else (1 : Int32)) else (1 : Int32))
def ok_X2_hasRoomFor (M : Mem) (a1 : Int32) : Prop := vp_in a1 164
set_option maxRecDepth 100000 in
set_option maxHeartbeats 4000000 in
theorem k_X2_hasRoomFor_0 {p : Program} {l : Launch} {e : Env} {s : State} {m : MethodId} {args : Array Value} {below : List Frame} {meth : Method} {c : Code} {D : va_G} {cI : ClassId} {ad : Nat → Nat} {A : Nat → Prop} {cells slots : Nat} {R : Room} (hcs : cells ≤ R.cells ∧ slots ≤ R.slots) (hrf : rmX2_hasRoomFor.frames ≤ R.frames) (hrl : rmX2_hasRoomFor.locals ≤ R.locals) {r0 : Int32} (C : CX p s m args meth c RX2 cX2_hasRoomFor 2 (some .boolean)) : ∀ (M : Mem) (a1 : Int32) (H : Heap) (locs : List Loc) (ls : Array Slot), ok_X2_hasRoomFor M a1 → f_X2_hasRoomFor M a1 = r0 → WH D [(cI, .int)] (wN cI ad) A s H locs M → lv_has ls 2 [(0, .ref (ad 8)), (1, .int a1)] → W p l e R s m args below meth c H locs cells slots (MQ below (PZ D [(cI, .int)] (wN cI ad) A (M, r0)) args s cells slots A) (F0 m 0 ls []) := by
  have hx := C.1
  have hb := C.2.1
  have hown := C.2.2.2.2.1
  have hts := C.2.2.2.2.2.1
  intro M a1 H locs ls hok hres h hl
  rw [ok_X2_hasRoomFor] at hok
  rw [f_X2_hasRoomFor] at hres
  refine lv_aload_n hx hb dX2_hasRoomFor_0 rfl (lv_at hl 0 rfl) ?_
  refine N_X2_entryOver_get C h in_fX2_22 dX2_hasRoomFor_1 ?_
  refine lv_iload_n hx hb dX2_hasRoomFor_4 rfl (lv_at hl 1 rfl) ?_
  have h3 := hok
  refine N_po_ld (v := ((M 23) a1.toNatClampNeg)) C h h3 rfl dX2_hasRoomFor_5 ?_
  refine lv_if_ne (tgt := 18) hx hb dX2_hasRoomFor_6 (by decide) (fun c1 => ?_) (fun c1 => ?_)
  · have hres := it_n hres c1
    refine lv_iconst (v := (1 : Int32)) hx hb dX2_hasRoomFor_18 (by decide) ?_
    refine lv_goto (tgt := 23) hx hb dX2_hasRoomFor_19 (by decide) ?_
    exact wh_zret C h nb_1 (cz hres) dX2_hasRoomFor_23
  · have hres := it_p hres c1
    refine lv_aload_n hx hb dX2_hasRoomFor_9 rfl (lv_at hl 0 rfl) ?_
    refine N_X2_count_get (v := (M 20 0)) C h in_fX2_25 rfl dX2_hasRoomFor_10 ?_
    refine lv_bipush (v := (38 : Int32)) hx hb dX2_hasRoomFor_13 (by decide) ?_
    refine lv_icmp_ge (tgt := 22) hx hb dX2_hasRoomFor_15 (by decide) (fun c2 => ?_) (fun c2 => ?_)
    · have hres := it_p hres c2
      refine lv_iconst (v := (0 : Int32)) hx hb dX2_hasRoomFor_22 (by decide) ?_
      exact wh_zret C h nb_0 (cz hres) dX2_hasRoomFor_23
    · have hres := it_n hres c2
      refine lv_iconst (v := (1 : Int32)) hx hb dX2_hasRoomFor_18 (by decide) ?_
      refine lv_goto (tgt := 23) hx hb dX2_hasRoomFor_19 (by decide) ?_
      exact wh_zret C h nb_1 (cz hres) dX2_hasRoomFor_23
theorem yw_X2_hasRoomFor {cI : ClassId} {ad : Nat → Nat} : YV (wN cI ad) (ad 8) yX2_hasRoomFor cX2_hasRoomFor 2 (some .boolean) rmX2_hasRoomFor 1 := ⟨fun M => ⟨8, 2, _, _, rfl, rfl, rfl⟩, in_cX2_hasRoomFor, in_nX2_hasRoomFor, in_vX2_hasRoomFor, in_iX2, by decide +kernel, rfl, rfl⟩
theorem c_X2_hasRoomFor {l : Launch} {D : va_G} {cI : ClassId} {ad : Nat → Nat} (M : Mem) (a1 : Int32) (hok : ok_X2_hasRoomFor M a1) : KZ l D [(cI, .int)] (wN cI ad) yX2_hasRoomFor cX2_hasRoomFor 2 rmX2_hasRoomFor [.ref (ad 8), .int a1] M (M, f_X2_hasRoomFor M a1) := met_z (by decide) (Nat.le_of_ble_eq_true rfl) (fun p e s m below meth c A C h ls hl => k_X2_hasRoomFor_0 ⟨Nat.le_refl _, Nat.le_refl _⟩ (Nat.le_refl _) (Nat.le_refl _) C M a1 _ _ ls hok rfl h hl)
abbrev rmX2_hasRoomForBoth : Room := { frames := 0, cells := 0, slots := 0, locals := 0 }
def f_X2_hasRoomForBoth_28 (M : Mem) (t0 t1 : Int32) : Int32 := (if (38 : Int32) < ((M 20 0) + (t1 + t0)) then (0 : Int32) else (1 : Int32))
def f_X2_hasRoomForBoth_14 (M : Mem) (x2 t0 : Int32) : Int32 := (if ((M 23) x2.toNatClampNeg) = 0 then (f_X2_hasRoomForBoth_28 M (1 : Int32) t0) else (f_X2_hasRoomForBoth_28 M (0 : Int32) t0))
def ok_X2_hasRoomForBoth_14 (M : Mem) (x2 t0 : Int32) : Prop := vp_in x2 164
def f_X2_hasRoomForBoth (M : Mem) (a1 a2 : Int32) : Int32 := (if ((M 23) a1.toNatClampNeg) = 0 then (f_X2_hasRoomForBoth_14 M a2 (1 : Int32)) else (f_X2_hasRoomForBoth_14 M a2 (0 : Int32)))
def ok_X2_hasRoomForBoth (M : Mem) (a1 a2 : Int32) : Prop := vp_in a1 164 ∧ (if ((M 23) a1.toNatClampNeg) = 0 then ok_X2_hasRoomForBoth_14 M a2 (1 : Int32) else ok_X2_hasRoomForBoth_14 M a2 (0 : Int32))
set_option maxRecDepth 100000 in
set_option maxHeartbeats 4000000 in
theorem k_X2_hasRoomForBoth_28 {p : Program} {l : Launch} {e : Env} {s : State} {m : MethodId} {args : Array Value} {below : List Frame} {meth : Method} {c : Code} {D : va_G} {cI : ClassId} {ad : Nat → Nat} {A : Nat → Prop} {cells slots : Nat} {R : Room} (hcs : cells ≤ R.cells ∧ slots ≤ R.slots) (hrf : rmX2_hasRoomForBoth.frames ≤ R.frames) (hrl : rmX2_hasRoomForBoth.locals ≤ R.locals) {r0 : Int32} (C : CX p s m args meth c RX2 cX2_hasRoomForBoth 4 (some .boolean)) : ∀ (M : Mem) (t0 t1 : Int32) (H : Heap) (locs : List Loc) (ls : Array Slot), f_X2_hasRoomForBoth_28 M t0 t1 = r0 → WH D [(cI, .int)] (wN cI ad) A s H locs M → lv_has ls 4 [(0, .ref (ad 8))] → W p l e R s m args below meth c H locs cells slots (MQ below (PZ D [(cI, .int)] (wN cI ad) A (M, r0)) args s cells slots A) (F0 m 28 ls [.int t0, .int t1]) := by
  have hx := C.1
  have hb := C.2.1
  have hown := C.2.2.2.2.1
  have hts := C.2.2.2.2.2.1
  intro M t0 t1 H locs ls hres h hl
  rw [f_X2_hasRoomForBoth_28] at hres
  refine lv_iadd hx hb dX2_hasRoomForBoth_28 ?_
  refine lv_istore_n (lv' := [(3, .int (t1 + t0)), (0, .ref (ad 8))]) hx hb dX2_hasRoomForBoth_29 rfl hl (by decide) rfl (fun ls hl => ?_)
  refine lv_aload_n hx hb dX2_hasRoomForBoth_30 rfl (lv_at hl 1 rfl) ?_
  refine N_X2_count_get (v := (M 20 0)) C h in_fX2_25 rfl dX2_hasRoomForBoth_31 ?_
  refine lv_iload_n hx hb dX2_hasRoomForBoth_34 rfl (lv_at hl 0 rfl) ?_
  refine lv_iadd hx hb dX2_hasRoomForBoth_35 ?_
  refine lv_bipush (v := (38 : Int32)) hx hb dX2_hasRoomForBoth_36 (by decide) ?_
  refine lv_icmp_gt (tgt := 45) hx hb dX2_hasRoomForBoth_38 (by decide) (fun c3 => ?_) (fun c3 => ?_)
  · have hres := it_p hres c3
    refine lv_iconst (v := (0 : Int32)) hx hb dX2_hasRoomForBoth_45 (by decide) ?_
    exact wh_zret C h nb_0 (cz hres) dX2_hasRoomForBoth_46
  · have hres := it_n hres c3
    refine lv_iconst (v := (1 : Int32)) hx hb dX2_hasRoomForBoth_41 (by decide) ?_
    refine lv_goto (tgt := 46) hx hb dX2_hasRoomForBoth_42 (by decide) ?_
    exact wh_zret C h nb_1 (cz hres) dX2_hasRoomForBoth_46
set_option maxRecDepth 100000 in
set_option maxHeartbeats 4000000 in
theorem k_X2_hasRoomForBoth_14 {p : Program} {l : Launch} {e : Env} {s : State} {m : MethodId} {args : Array Value} {below : List Frame} {meth : Method} {c : Code} {D : va_G} {cI : ClassId} {ad : Nat → Nat} {A : Nat → Prop} {cells slots : Nat} {R : Room} (hcs : cells ≤ R.cells ∧ slots ≤ R.slots) (hrf : rmX2_hasRoomForBoth.frames ≤ R.frames) (hrl : rmX2_hasRoomForBoth.locals ≤ R.locals) {r0 : Int32} (C : CX p s m args meth c RX2 cX2_hasRoomForBoth 4 (some .boolean)) : ∀ (M : Mem) (x2 t0 : Int32) (H : Heap) (locs : List Loc) (ls : Array Slot), ok_X2_hasRoomForBoth_14 M x2 t0 → f_X2_hasRoomForBoth_14 M x2 t0 = r0 → WH D [(cI, .int)] (wN cI ad) A s H locs M → lv_has ls 4 [(0, .ref (ad 8)), (2, .int x2)] → W p l e R s m args below meth c H locs cells slots (MQ below (PZ D [(cI, .int)] (wN cI ad) A (M, r0)) args s cells slots A) (F0 m 14 ls [.int t0]) := by
  have hx := C.1
  have hb := C.2.1
  have hown := C.2.2.2.2.1
  have hts := C.2.2.2.2.2.1
  intro M x2 t0 H locs ls hok hres h hl
  rw [ok_X2_hasRoomForBoth_14] at hok
  rw [f_X2_hasRoomForBoth_14] at hres
  refine lv_aload_n hx hb dX2_hasRoomForBoth_14 rfl (lv_at hl 0 rfl) ?_
  refine N_X2_entryOver_get C h in_fX2_22 dX2_hasRoomForBoth_15 ?_
  refine lv_iload_n hx hb dX2_hasRoomForBoth_18 rfl (lv_at hl 1 rfl) ?_
  have h4 := hok
  refine N_po_ld (v := ((M 23) x2.toNatClampNeg)) C h h4 rfl dX2_hasRoomForBoth_19 ?_
  refine lv_if_ne (tgt := 27) hx hb dX2_hasRoomForBoth_20 (by decide) (fun c2 => ?_) (fun c2 => ?_)
  · have hres := it_n hres c2
    refine lv_iconst (v := (0 : Int32)) hx hb dX2_hasRoomForBoth_27 (by decide) ?_
    exact k_X2_hasRoomForBoth_28 hcs hrf hrl C M (0 : Int32) t0 _ _ _  hres h (lv_sub hl [0] rfl)
  · have hres := it_p hres c2
    refine lv_iconst (v := (1 : Int32)) hx hb dX2_hasRoomForBoth_23 (by decide) ?_
    refine lv_goto (tgt := 28) hx hb dX2_hasRoomForBoth_24 (by decide) ?_
    exact k_X2_hasRoomForBoth_28 hcs hrf hrl C M (1 : Int32) t0 _ _ _  hres h (lv_sub hl [0] rfl)
set_option maxRecDepth 100000 in
set_option maxHeartbeats 4000000 in
theorem k_X2_hasRoomForBoth_0 {p : Program} {l : Launch} {e : Env} {s : State} {m : MethodId} {args : Array Value} {below : List Frame} {meth : Method} {c : Code} {D : va_G} {cI : ClassId} {ad : Nat → Nat} {A : Nat → Prop} {cells slots : Nat} {R : Room} (hcs : cells ≤ R.cells ∧ slots ≤ R.slots) (hrf : rmX2_hasRoomForBoth.frames ≤ R.frames) (hrl : rmX2_hasRoomForBoth.locals ≤ R.locals) {r0 : Int32} (C : CX p s m args meth c RX2 cX2_hasRoomForBoth 4 (some .boolean)) : ∀ (M : Mem) (a1 a2 : Int32) (H : Heap) (locs : List Loc) (ls : Array Slot), ok_X2_hasRoomForBoth M a1 a2 → f_X2_hasRoomForBoth M a1 a2 = r0 → WH D [(cI, .int)] (wN cI ad) A s H locs M → lv_has ls 4 [(0, .ref (ad 8)), (1, .int a1), (2, .int a2)] → W p l e R s m args below meth c H locs cells slots (MQ below (PZ D [(cI, .int)] (wN cI ad) A (M, r0)) args s cells slots A) (F0 m 0 ls []) := by
  have hx := C.1
  have hb := C.2.1
  have hown := C.2.2.2.2.1
  have hts := C.2.2.2.2.2.1
  intro M a1 a2 H locs ls hok hres h hl
  rw [ok_X2_hasRoomForBoth] at hok
  rw [f_X2_hasRoomForBoth] at hres
  refine lv_aload_n hx hb dX2_hasRoomForBoth_0 rfl (lv_at hl 0 rfl) ?_
  refine N_X2_entryOver_get C h in_fX2_22 dX2_hasRoomForBoth_1 ?_
  refine lv_iload_n hx hb dX2_hasRoomForBoth_4 rfl (lv_at hl 1 rfl) ?_
  obtain ⟨h5, hok⟩ := hok
  refine N_po_ld (v := ((M 23) a1.toNatClampNeg)) C h h5 rfl dX2_hasRoomForBoth_5 ?_
  refine lv_if_ne (tgt := 13) hx hb dX2_hasRoomForBoth_6 (by decide) (fun c1 => ?_) (fun c1 => ?_)
  · have hres := it_n hres c1
    have hok := io_n hok c1
    refine lv_iconst (v := (0 : Int32)) hx hb dX2_hasRoomForBoth_13 (by decide) ?_
    exact k_X2_hasRoomForBoth_14 hcs hrf hrl C M a2 (0 : Int32) _ _ _ hok hres h (lv_sub hl [0, 2] rfl)
  · have hres := it_p hres c1
    have hok := io_p hok c1
    refine lv_iconst (v := (1 : Int32)) hx hb dX2_hasRoomForBoth_9 (by decide) ?_
    refine lv_goto (tgt := 14) hx hb dX2_hasRoomForBoth_10 (by decide) ?_
    exact k_X2_hasRoomForBoth_14 hcs hrf hrl C M a2 (1 : Int32) _ _ _ hok hres h (lv_sub hl [0, 2] rfl)
theorem yw_X2_hasRoomForBoth {cI : ClassId} {ad : Nat → Nat} : YV (wN cI ad) (ad 8) yX2_hasRoomForBoth cX2_hasRoomForBoth 4 (some .boolean) rmX2_hasRoomForBoth 2 := ⟨fun M => ⟨8, 2, _, _, rfl, rfl, rfl⟩, in_cX2_hasRoomForBoth, in_nX2_hasRoomForBoth, in_vX2_hasRoomForBoth, in_iX2, by decide +kernel, rfl, rfl⟩
theorem c_X2_hasRoomForBoth {l : Launch} {D : va_G} {cI : ClassId} {ad : Nat → Nat} (M : Mem) (a1 a2 : Int32) (hok : ok_X2_hasRoomForBoth M a1 a2) : KZ l D [(cI, .int)] (wN cI ad) yX2_hasRoomForBoth cX2_hasRoomForBoth 4 rmX2_hasRoomForBoth [.ref (ad 8), .int a1, .int a2] M (M, f_X2_hasRoomForBoth M a1 a2) := met_z (by decide) (Nat.le_of_ble_eq_true rfl) (fun p e s m below meth c A C h ls hl => k_X2_hasRoomForBoth_0 ⟨Nat.le_refl _, Nat.le_refl _⟩ (Nat.le_refl _) (Nat.le_refl _) C M a1 a2 _ _ ls hok rfl h hl)
abbrev rmX2_write : Room := { frames := 0, cells := 0, slots := 0, locals := 0 }
def f_X2_write_39 (M : Mem) (x1 x2 : Int32) : Mem := (ms M 22 (upd (M 22) (((M 23) x1.toNatClampNeg) - (1 : Int32)).toNatClampNeg x2))
def ok_X2_write_39 (M : Mem) (x1 x2 : Int32) : Prop := vp_in x1 164 ∧ vp_in (((M 23) x1.toNatClampNeg) - (1 : Int32)) 40
def f_X2_write (M : Mem) (a1 a2 : Int32) : Mem := (if ((M 23) a1.toNatClampNeg) = 0 then (f_X2_write_39 (ms (ms (ms M 21 (upd (M 21) (M 20 0).toNatClampNeg a1)) 20 (fun _ => ((M 20 0) + (1 : Int32)))) 23 (upd (M 23) a1.toNatClampNeg ((M 20 0) + (1 : Int32)))) a1 a2) else (f_X2_write_39 M a1 a2))
def ok_X2_write (M : Mem) (a1 a2 : Int32) : Prop := vp_in a1 164 ∧ (if ((M 23) a1.toNatClampNeg) = 0 then vp_in (M 20 0) 40 ∧ vp_in a1 164 ∧ ok_X2_write_39 (ms (ms (ms M 21 (upd (M 21) (M 20 0).toNatClampNeg a1)) 20 (fun _ => ((M 20 0) + (1 : Int32)))) 23 (upd (M 23) a1.toNatClampNeg ((M 20 0) + (1 : Int32)))) a1 a2 else ok_X2_write_39 M a1 a2)
set_option maxRecDepth 100000 in
set_option maxHeartbeats 4000000 in
theorem k_X2_write_39 {p : Program} {l : Launch} {e : Env} {s : State} {m : MethodId} {args : Array Value} {below : List Frame} {meth : Method} {c : Code} {D : va_G} {cI : ClassId} {ad : Nat → Nat} {A : Nat → Prop} {cells slots : Nat} {R : Room} (hcs : cells ≤ R.cells ∧ slots ≤ R.slots) (hrf : rmX2_write.frames ≤ R.frames) (hrl : rmX2_write.locals ≤ R.locals) {res : Mem} (C : CX p s m args meth c RX2 cX2_write 3 none) : ∀ (M : Mem) (x1 x2 : Int32) (H : Heap) (locs : List Loc) (ls : Array Slot), ok_X2_write_39 M x1 x2 → f_X2_write_39 M x1 x2 = res → WH D [(cI, .int)] (wN cI ad) A s H locs M → lv_has ls 3 [(0, .ref (ad 8)), (1, .int x1), (2, .int x2)] → W p l e R s m args below meth c H locs cells slots (MQ below (PV D [(cI, .int)] (wN cI ad) A res) args s cells slots A) (F0 m 39 ls []) := by
  have hx := C.1
  have hb := C.2.1
  have hown := C.2.2.2.2.1
  have hts := C.2.2.2.2.2.1
  intro M x1 x2 H locs ls hok hres h hl
  rw [ok_X2_write_39] at hok
  rw [f_X2_write_39] at hres
  refine lv_aload_n hx hb dX2_write_39 rfl (lv_at hl 0 rfl) ?_
  refine N_X2_values_get C h in_fX2_17 dX2_write_40 ?_
  refine lv_aload_n hx hb dX2_write_43 rfl (lv_at hl 0 rfl) ?_
  refine N_X2_entryOver_get C h in_fX2_22 dX2_write_44 ?_
  refine lv_iload_n hx hb dX2_write_47 rfl (lv_at hl 1 rfl) ?_
  obtain ⟨h3, hok⟩ := hok
  refine N_po_ld (v := ((M 23) x1.toNatClampNeg)) C h h3 rfl dX2_write_48 ?_
  refine lv_iconst (v := (1 : Int32)) hx hb dX2_write_49 (by decide) ?_
  refine lv_isub hx hb dX2_write_50 ?_
  refine lv_iload_n hx hb dX2_write_51 rfl (lv_at hl 2 rfl) ?_
  have h2 := hok
  refine N_pv_st (M2 := (ms M 22 (upd (M 22) (((M 23) x1.toNatClampNeg) - (1 : Int32)).toNatClampNeg x2))) C h h2 rfl dX2_write_52 (fun H locs h => ?_)
  exact wh_vret C h hres dX2_write_53
set_option maxRecDepth 100000 in
set_option maxHeartbeats 4000000 in
theorem k_X2_write_0 {p : Program} {l : Launch} {e : Env} {s : State} {m : MethodId} {args : Array Value} {below : List Frame} {meth : Method} {c : Code} {D : va_G} {cI : ClassId} {ad : Nat → Nat} {A : Nat → Prop} {cells slots : Nat} {R : Room} (hcs : cells ≤ R.cells ∧ slots ≤ R.slots) (hrf : rmX2_write.frames ≤ R.frames) (hrl : rmX2_write.locals ≤ R.locals) {res : Mem} (C : CX p s m args meth c RX2 cX2_write 3 none) : ∀ (M : Mem) (a1 a2 : Int32) (H : Heap) (locs : List Loc) (ls : Array Slot), ok_X2_write M a1 a2 → f_X2_write M a1 a2 = res → WH D [(cI, .int)] (wN cI ad) A s H locs M → lv_has ls 3 [(0, .ref (ad 8)), (1, .int a1), (2, .int a2)] → W p l e R s m args below meth c H locs cells slots (MQ below (PV D [(cI, .int)] (wN cI ad) A res) args s cells slots A) (F0 m 0 ls []) := by
  have hx := C.1
  have hb := C.2.1
  have hown := C.2.2.2.2.1
  have hts := C.2.2.2.2.2.1
  intro M a1 a2 H locs ls hok hres h hl
  rw [ok_X2_write] at hok
  rw [f_X2_write] at hres
  refine lv_aload_n hx hb dX2_write_0 rfl (lv_at hl 0 rfl) ?_
  refine N_X2_entryOver_get C h in_fX2_22 dX2_write_1 ?_
  refine lv_iload_n hx hb dX2_write_4 rfl (lv_at hl 1 rfl) ?_
  obtain ⟨h6, hok⟩ := hok
  refine N_po_ld (v := ((M 23) a1.toNatClampNeg)) C h h6 rfl dX2_write_5 ?_
  refine lv_if_ne (tgt := 39) hx hb dX2_write_6 (by decide) (fun c1 => ?_) (fun c1 => ?_)
  · have hres := it_n hres c1
    have hok := io_n hok c1
    exact k_X2_write_39 hcs hrf hrl C M a1 a2 _ _ _ hok hres h (lv_sub hl [0, 1, 2] rfl)
  · have hres := it_p hres c1
    have hok := io_p hok c1
    refine lv_aload_n hx hb dX2_write_9 rfl (lv_at hl 0 rfl) ?_
    refine N_X2_places_get C h in_fX2_13 dX2_write_10 ?_
    refine lv_aload_n hx hb dX2_write_13 rfl (lv_at hl 0 rfl) ?_
    refine N_X2_count_get (v := (M 20 0)) C h in_fX2_25 rfl dX2_write_14 ?_
    refine lv_iload_n hx hb dX2_write_17 rfl (lv_at hl 1 rfl) ?_
    obtain ⟨h5, hok⟩ := hok
    refine N_pp_st (M2 := (ms M 21 (upd (M 21) (M 20 0).toNatClampNeg a1))) C h h5 rfl dX2_write_18 (fun H locs h => ?_)
    refine lv_aload_n hx hb dX2_write_19 rfl (lv_at hl 0 rfl) ?_
    refine lv_dup hx hb dX2_write_20 rfl ?_
    refine N_X2_count_get (v := (M 20 0)) C h in_fX2_25 rfl dX2_write_21 ?_
    refine lv_iconst (v := (1 : Int32)) hx hb dX2_write_24 (by decide) ?_
    refine lv_iadd hx hb dX2_write_25 ?_
    refine N_X2_count_put (v := ((M 20 0) + (1 : Int32))) (M2 := (ms (ms M 21 (upd (M 21) (M 20 0).toNatClampNeg a1)) 20 (fun _ => ((M 20 0) + (1 : Int32))))) C h in_fX2_25 rfl dX2_write_26 (fun H locs h => ?_)
    refine lv_aload_n hx hb dX2_write_29 rfl (lv_at hl 0 rfl) ?_
    refine N_X2_entryOver_get C h in_fX2_22 dX2_write_30 ?_
    refine lv_iload_n hx hb dX2_write_33 rfl (lv_at hl 1 rfl) ?_
    refine lv_aload_n hx hb dX2_write_34 rfl (lv_at hl 0 rfl) ?_
    refine N_X2_count_get (v := ((M 20 0) + (1 : Int32))) C h in_fX2_25 rfl dX2_write_35 ?_
    obtain ⟨h4, hok⟩ := hok
    refine N_po_st (M2 := (ms (ms (ms M 21 (upd (M 21) (M 20 0).toNatClampNeg a1)) 20 (fun _ => ((M 20 0) + (1 : Int32)))) 23 (upd (M 23) a1.toNatClampNeg ((M 20 0) + (1 : Int32))))) C h h4 rfl dX2_write_38 (fun H locs h => ?_)
    exact k_X2_write_39 hcs hrf hrl C (ms (ms (ms M 21 (upd (M 21) (M 20 0).toNatClampNeg a1)) 20 (fun _ => ((M 20 0) + (1 : Int32)))) 23 (upd (M 23) a1.toNatClampNeg ((M 20 0) + (1 : Int32)))) a1 a2 _ _ _ hok hres h (lv_sub hl [0, 1, 2] rfl)
theorem yw_X2_write {cI : ClassId} {ad : Nat → Nat} : YV (wN cI ad) (ad 8) yX2_write cX2_write 3 none rmX2_write 2 := ⟨fun M => ⟨8, 2, _, _, rfl, rfl, rfl⟩, in_cX2_write, in_nX2_write, in_vX2_write, in_iX2, by decide +kernel, rfl, rfl⟩
theorem c_X2_write {l : Launch} {D : va_G} {cI : ClassId} {ad : Nat → Nat} (M : Mem) (a1 a2 : Int32) (hok : ok_X2_write M a1 a2) : KV l D [(cI, .int)] (wN cI ad) yX2_write cX2_write 3 rmX2_write [.ref (ad 8), .int a1, .int a2] M (f_X2_write M a1 a2) := met_v (by decide) (Nat.le_of_ble_eq_true rfl) (fun p e s m below meth c A C h ls hl => k_X2_write_0 ⟨Nat.le_refl _, Nat.le_refl _⟩ (Nat.le_refl _) (Nat.le_refl _) C M a1 a2 _ _ ls hok rfl h hl)
abbrev rmX2_close : Room := { frames := 0, cells := 0, slots := 0, locals := 0 }
def f_X2_close (M : Mem) (a1 a2 : Int32) : Mem := (ms (ms (ms (ms M 21 (upd (M 21) (M 20 0).toNatClampNeg (0 : Int32))) 22 (upd (M 22) (M 20 0).toNatClampNeg a1)) 21 (upd (upd (M 21) (M 20 0).toNatClampNeg (0 : Int32)) ((M 20 0) + (1 : Int32)).toNatClampNeg (1 : Int32))) 22 (upd (upd (M 22) (M 20 0).toNatClampNeg a1) ((M 20 0) + (1 : Int32)).toNatClampNeg a2))
def ok_X2_close (M : Mem) (a1 a2 : Int32) : Prop := vp_in (M 20 0) 40 ∧ vp_in (M 20 0) 40 ∧ vp_in ((M 20 0) + (1 : Int32)) 40 ∧ vp_in ((M 20 0) + (1 : Int32)) 40
set_option maxRecDepth 100000 in
set_option maxHeartbeats 4000000 in
theorem k_X2_close_0 {p : Program} {l : Launch} {e : Env} {s : State} {m : MethodId} {args : Array Value} {below : List Frame} {meth : Method} {c : Code} {D : va_G} {cI : ClassId} {ad : Nat → Nat} {A : Nat → Prop} {cells slots : Nat} {R : Room} (hcs : cells ≤ R.cells ∧ slots ≤ R.slots) (hrf : rmX2_close.frames ≤ R.frames) (hrl : rmX2_close.locals ≤ R.locals) {res : Mem} (C : CX p s m args meth c RX2 cX2_close 3 none) : ∀ (M : Mem) (a1 a2 : Int32) (H : Heap) (locs : List Loc) (ls : Array Slot), ok_X2_close M a1 a2 → f_X2_close M a1 a2 = res → WH D [(cI, .int)] (wN cI ad) A s H locs M → lv_has ls 3 [(0, .ref (ad 8)), (1, .int a1), (2, .int a2)] → W p l e R s m args below meth c H locs cells slots (MQ below (PV D [(cI, .int)] (wN cI ad) A res) args s cells slots A) (F0 m 0 ls []) := by
  have hx := C.1
  have hb := C.2.1
  have hown := C.2.2.2.2.1
  have hts := C.2.2.2.2.2.1
  intro M a1 a2 H locs ls hok hres h hl
  rw [ok_X2_close] at hok
  rw [f_X2_close] at hres
  refine lv_aload_n hx hb dX2_close_0 rfl (lv_at hl 0 rfl) ?_
  refine N_X2_places_get C h in_fX2_13 dX2_close_1 ?_
  refine lv_aload_n hx hb dX2_close_4 rfl (lv_at hl 0 rfl) ?_
  refine N_X2_count_get (v := (M 20 0)) C h in_fX2_25 rfl dX2_close_5 ?_
  refine lv_iconst (v := (0 : Int32)) hx hb dX2_close_8 (by decide) ?_
  obtain ⟨h4, hok⟩ := hok
  refine N_pp_st (M2 := (ms M 21 (upd (M 21) (M 20 0).toNatClampNeg (0 : Int32)))) C h h4 rfl dX2_close_9 (fun H locs h => ?_)
  refine lv_aload_n hx hb dX2_close_10 rfl (lv_at hl 0 rfl) ?_
  refine N_X2_values_get C h in_fX2_17 dX2_close_11 ?_
  refine lv_aload_n hx hb dX2_close_14 rfl (lv_at hl 0 rfl) ?_
  refine N_X2_count_get (v := (M 20 0)) C h in_fX2_25 rfl dX2_close_15 ?_
  refine lv_iload_n hx hb dX2_close_18 rfl (lv_at hl 1 rfl) ?_
  obtain ⟨h3, hok⟩ := hok
  refine N_pv_st (M2 := (ms (ms M 21 (upd (M 21) (M 20 0).toNatClampNeg (0 : Int32))) 22 (upd (M 22) (M 20 0).toNatClampNeg a1))) C h h3 rfl dX2_close_19 (fun H locs h => ?_)
  refine lv_aload_n hx hb dX2_close_20 rfl (lv_at hl 0 rfl) ?_
  refine N_X2_places_get C h in_fX2_13 dX2_close_21 ?_
  refine lv_aload_n hx hb dX2_close_24 rfl (lv_at hl 0 rfl) ?_
  refine N_X2_count_get (v := (M 20 0)) C h in_fX2_25 rfl dX2_close_25 ?_
  refine lv_iconst (v := (1 : Int32)) hx hb dX2_close_28 (by decide) ?_
  refine lv_iadd hx hb dX2_close_29 ?_
  refine lv_iconst (v := (1 : Int32)) hx hb dX2_close_30 (by decide) ?_
  obtain ⟨h2, hok⟩ := hok
  refine N_pp_st (M2 := (ms (ms (ms M 21 (upd (M 21) (M 20 0).toNatClampNeg (0 : Int32))) 22 (upd (M 22) (M 20 0).toNatClampNeg a1)) 21 (upd (upd (M 21) (M 20 0).toNatClampNeg (0 : Int32)) ((M 20 0) + (1 : Int32)).toNatClampNeg (1 : Int32)))) C h h2 rfl dX2_close_31 (fun H locs h => ?_)
  refine lv_aload_n hx hb dX2_close_32 rfl (lv_at hl 0 rfl) ?_
  refine N_X2_values_get C h in_fX2_17 dX2_close_33 ?_
  refine lv_aload_n hx hb dX2_close_36 rfl (lv_at hl 0 rfl) ?_
  refine N_X2_count_get (v := (M 20 0)) C h in_fX2_25 rfl dX2_close_37 ?_
  refine lv_iconst (v := (1 : Int32)) hx hb dX2_close_40 (by decide) ?_
  refine lv_iadd hx hb dX2_close_41 ?_
  refine lv_iload_n hx hb dX2_close_42 rfl (lv_at hl 2 rfl) ?_
  have h1 := hok
  refine N_pv_st (M2 := (ms (ms (ms (ms M 21 (upd (M 21) (M 20 0).toNatClampNeg (0 : Int32))) 22 (upd (M 22) (M 20 0).toNatClampNeg a1)) 21 (upd (upd (M 21) (M 20 0).toNatClampNeg (0 : Int32)) ((M 20 0) + (1 : Int32)).toNatClampNeg (1 : Int32))) 22 (upd (upd (M 22) (M 20 0).toNatClampNeg a1) ((M 20 0) + (1 : Int32)).toNatClampNeg a2))) C h h1 rfl dX2_close_43 (fun H locs h => ?_)
  exact wh_vret C h hres dX2_close_44
theorem yw_X2_close {cI : ClassId} {ad : Nat → Nat} : YV (wN cI ad) (ad 8) yX2_close cX2_close 3 none rmX2_close 2 := ⟨fun M => ⟨8, 2, _, _, rfl, rfl, rfl⟩, in_cX2_close, in_nX2_close, in_vX2_close, in_iX2, by decide +kernel, rfl, rfl⟩
theorem c_X2_close {l : Launch} {D : va_G} {cI : ClassId} {ad : Nat → Nat} (M : Mem) (a1 a2 : Int32) (hok : ok_X2_close M a1 a2) : KV l D [(cI, .int)] (wN cI ad) yX2_close cX2_close 3 rmX2_close [.ref (ad 8), .int a1, .int a2] M (f_X2_close M a1 a2) := met_v (by decide) (Nat.le_of_ble_eq_true rfl) (fun p e s m below meth c A C h ls hl => k_X2_close_0 ⟨Nat.le_refl _, Nat.le_refl _⟩ (Nat.le_refl _) (Nat.le_refl _) C M a1 a2 _ _ ls hok rfl h hl)
abbrev rmX2_entries : Room := { frames := 0, cells := 0, slots := 0, locals := 0 }
def f_X2_entries (M : Mem) : Int32 := ((M 20 0) + (2 : Int32))
set_option maxRecDepth 100000 in
set_option maxHeartbeats 4000000 in
theorem k_X2_entries_0 {p : Program} {l : Launch} {e : Env} {s : State} {m : MethodId} {args : Array Value} {below : List Frame} {meth : Method} {c : Code} {D : va_G} {cI : ClassId} {ad : Nat → Nat} {A : Nat → Prop} {cells slots : Nat} {R : Room} (hcs : cells ≤ R.cells ∧ slots ≤ R.slots) (hrf : rmX2_entries.frames ≤ R.frames) (hrl : rmX2_entries.locals ≤ R.locals) {r0 : Int32} (C : CX p s m args meth c RX2 cX2_entries 1 (some .int)) : ∀ (M : Mem) (H : Heap) (locs : List Loc) (ls : Array Slot), f_X2_entries M = r0 → WH D [(cI, .int)] (wN cI ad) A s H locs M → lv_has ls 1 [(0, .ref (ad 8))] → W p l e R s m args below meth c H locs cells slots (MQ below (PI D [(cI, .int)] (wN cI ad) A (M, r0)) args s cells slots A) (F0 m 0 ls []) := by
  have hx := C.1
  have hb := C.2.1
  have hown := C.2.2.2.2.1
  have hts := C.2.2.2.2.2.1
  intro M H locs ls hres h hl
  rw [f_X2_entries] at hres
  refine lv_aload_n hx hb dX2_entries_0 rfl (lv_at hl 0 rfl) ?_
  refine N_X2_count_get (v := (M 20 0)) C h in_fX2_25 rfl dX2_entries_1 ?_
  refine lv_iconst (v := (2 : Int32)) hx hb dX2_entries_4 (by decide) ?_
  refine lv_iadd hx hb dX2_entries_5 ?_
  exact wh_iret C h (cz hres) dX2_entries_6
theorem yw_X2_entries {cI : ClassId} {ad : Nat → Nat} : YV (wN cI ad) (ad 8) yX2_entries cX2_entries 1 (some .int) rmX2_entries 0 := ⟨fun M => ⟨8, 2, _, _, rfl, rfl, rfl⟩, in_cX2_entries, in_nX2_entries, in_vX2_entries, in_iX2, by decide +kernel, rfl, rfl⟩
theorem c_X2_entries {l : Launch} {D : va_G} {cI : ClassId} {ad : Nat → Nat} (M : Mem) : KI l D [(cI, .int)] (wN cI ad) yX2_entries cX2_entries 1 rmX2_entries [.ref (ad 8)] M (M, f_X2_entries M) := met_i (by decide) (Nat.le_of_ble_eq_true rfl) (fun p e s m below meth c A C h ls hl => k_X2_entries_0 ⟨Nat.le_refl _, Nat.le_refl _⟩ (Nat.le_refl _) (Nat.le_refl _) C M _ _ ls rfl h hl)
abbrev rmX2_listWord : Room := { frames := 0, cells := 0, slots := 0, locals := 0 }
def f_X2_listWord (M : Mem) (a1 : Int32) : Int32 := (if (a1 - a1 / (2 : Int32) * (2 : Int32)) = 0 then ((M 21) (a1 / (2 : Int32)).toNatClampNeg) else ((M 22) (a1 / (2 : Int32)).toNatClampNeg))
def ok_X2_listWord (M : Mem) (a1 : Int32) : Prop := (if (a1 - a1 / (2 : Int32) * (2 : Int32)) = 0 then vp_in (a1 / (2 : Int32)) 40 else vp_in (a1 / (2 : Int32)) 40)
set_option maxRecDepth 100000 in
set_option maxHeartbeats 4000000 in
theorem k_X2_listWord_0 {p : Program} {l : Launch} {e : Env} {s : State} {m : MethodId} {args : Array Value} {below : List Frame} {meth : Method} {c : Code} {D : va_G} {cI : ClassId} {ad : Nat → Nat} {A : Nat → Prop} {cells slots : Nat} {R : Room} (hcs : cells ≤ R.cells ∧ slots ≤ R.slots) (hrf : rmX2_listWord.frames ≤ R.frames) (hrl : rmX2_listWord.locals ≤ R.locals) {r0 : Int32} (C : CX p s m args meth c RX2 cX2_listWord 2 (some .int)) : ∀ (M : Mem) (a1 : Int32) (H : Heap) (locs : List Loc) (ls : Array Slot), ok_X2_listWord M a1 → f_X2_listWord M a1 = r0 → WH D [(cI, .int)] (wN cI ad) A s H locs M → lv_has ls 2 [(0, .ref (ad 8)), (1, .int a1)] → W p l e R s m args below meth c H locs cells slots (MQ below (PI D [(cI, .int)] (wN cI ad) A (M, r0)) args s cells slots A) (F0 m 0 ls []) := by
  have hx := C.1
  have hb := C.2.1
  have hown := C.2.2.2.2.1
  have hts := C.2.2.2.2.2.1
  intro M a1 H locs ls hok hres h hl
  rw [ok_X2_listWord] at hok
  rw [f_X2_listWord] at hres
  refine lv_iload_n hx hb dX2_listWord_0 rfl (lv_at hl 1 rfl) ?_
  refine lv_iconst (v := (2 : Int32)) hx hb dX2_listWord_1 (by decide) ?_
  refine lv_irem hx hb dX2_listWord_2 (by decide) ?_
  refine lv_if_ne (tgt := 17) hx hb dX2_listWord_3 (by decide) (fun c1 => ?_) (fun c1 => ?_)
  · have hres := it_n hres c1
    have hok := io_n hok c1
    refine lv_aload_n hx hb dX2_listWord_17 rfl (lv_at hl 0 rfl) ?_
    refine N_X2_values_get C h in_fX2_17 dX2_listWord_18 ?_
    refine lv_iload_n hx hb dX2_listWord_21 rfl (lv_at hl 1 rfl) ?_
    refine lv_iconst (v := (2 : Int32)) hx hb dX2_listWord_22 (by decide) ?_
    refine lv_idiv hx hb dX2_listWord_23 (by decide) ?_
    have h2 := hok
    refine N_pv_ld (v := ((M 22) (a1 / (2 : Int32)).toNatClampNeg)) C h h2 rfl dX2_listWord_24 ?_
    exact wh_iret C h (cz hres) dX2_listWord_25
  · have hres := it_p hres c1
    have hok := io_p hok c1
    refine lv_aload_n hx hb dX2_listWord_6 rfl (lv_at hl 0 rfl) ?_
    refine N_X2_places_get C h in_fX2_13 dX2_listWord_7 ?_
    refine lv_iload_n hx hb dX2_listWord_10 rfl (lv_at hl 1 rfl) ?_
    refine lv_iconst (v := (2 : Int32)) hx hb dX2_listWord_11 (by decide) ?_
    refine lv_idiv hx hb dX2_listWord_12 (by decide) ?_
    have h3 := hok
    refine N_pp_ld (v := ((M 21) (a1 / (2 : Int32)).toNatClampNeg)) C h h3 rfl dX2_listWord_13 ?_
    refine lv_goto (tgt := 25) hx hb dX2_listWord_14 (by decide) ?_
    exact wh_iret C h (cz hres) dX2_listWord_25
theorem yw_X2_listWord {cI : ClassId} {ad : Nat → Nat} : YV (wN cI ad) (ad 8) yX2_listWord cX2_listWord 2 (some .int) rmX2_listWord 1 := ⟨fun M => ⟨8, 2, _, _, rfl, rfl, rfl⟩, in_cX2_listWord, in_nX2_listWord, in_vX2_listWord, in_iX2, by decide +kernel, rfl, rfl⟩
theorem c_X2_listWord {l : Launch} {D : va_G} {cI : ClassId} {ad : Nat → Nat} (M : Mem) (a1 : Int32) (hok : ok_X2_listWord M a1) : KI l D [(cI, .int)] (wN cI ad) yX2_listWord cX2_listWord 2 rmX2_listWord [.ref (ad 8), .int a1] M (M, f_X2_listWord M a1) := met_i (by decide) (Nat.le_of_ble_eq_true rfl) (fun p e s m below meth c A C h ls hl => k_X2_listWord_0 ⟨Nat.le_refl _, Nat.le_refl _⟩ (Nat.le_refl _) (Nat.le_refl _) C M a1 _ _ ls hok rfl h hl)
