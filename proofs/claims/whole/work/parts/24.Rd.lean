abbrev rmX6_commitOne : Room := { frames := 3, cells := 0, slots := 0, locals := 64 }
def f_X6_commitOne_180 (M : Mem) : Mem := (bv (f_X6_endAttempt (ms (ms (ms M 24 (upd (M 24) (M 17 0).toNatClampNeg (0 : Int32))) 4 (fun _ => (2 : Int32))) 10 (fun _ => (0 : Int32)))) (fun M8 => M8))
def ok_X6_commitOne_180 (M : Mem) : Prop := vp_in (M 17 0) 16 ∧ ok_X6_endAttempt (ms (ms (ms M 24 (upd (M 24) (M 17 0).toNatClampNeg (0 : Int32))) 4 (fun _ => (2 : Int32))) 10 (fun _ => (0 : Int32)))
def f_X6_commitOne_123 (M : Mem) (x3 t0 : Int32) : Mem := (bv (f_X6_write (ms M 17 (fun _ => t0)) ((M 26) x3.toNatClampNeg) ((M 27) x3.toNatClampNeg)) (fun M15 => M15))
def ok_X6_commitOne_123 (M : Mem) (x3 t0 : Int32) : Prop := vp_in x3 40 ∧ vp_in x3 40 ∧ ok_X6_write (ms M 17 (fun _ => t0)) ((M 26) x3.toNatClampNeg) ((M 27) x3.toNatClampNeg)
def f_X6_commitOne (M : Mem) : Mem := (bc (f_X6_pays M (4 : Int32)) (fun M1 r1 => (if r1 = 0 then M1 else (if ((2 : Int32) * ((M1 14 0) + (2 : Int32))) ≤ (M1 15 0) then (if (M1 15 0) = ((2 : Int32) * ((M1 14 0) + (2 : Int32))) then (bv (f_X6_write (ms M1 15 (fun _ => ((M1 15 0) + (1 : Int32)))) (2 : Int32) ((M1 14 0) + (2 : Int32))) (fun M19 => M19)) else (if ((3 : Int32) * ((M1 14 0) + (2 : Int32))) < (M1 15 0) then (bv (f_X6_write (ms M1 15 (fun _ => ((M1 15 0) + (1 : Int32)))) (2 : Int32) (0 : Int32)) (fun M6 => (if (M6 12 0) ≤ ((M6 23) (M6 17 0).toNatClampNeg) then (f_X6_commitOne_180 M6) else (f_X6_commitOne_180 (ms M6 23 (upd (M6 23) (M6 17 0).toNatClampNeg (M6 12 0))))))) else (if (((M1 15 0) - ((2 : Int32) * ((M1 14 0) + (2 : Int32)))) - (1 : Int32)) = 0 then (f_X6_commitOne_123 (ms M1 15 (fun _ => ((M1 15 0) + (1 : Int32)))) (((M1 15 0) - ((2 : Int32) * ((M1 14 0) + (2 : Int32)))) - (1 : Int32)) ((M1 20) 0)) else (f_X6_commitOne_123 (ms M1 15 (fun _ => ((M1 15 0) + (1 : Int32)))) (((M1 15 0) - ((2 : Int32) * ((M1 14 0) + (2 : Int32)))) - (1 : Int32)) (M1 17 0))))) else (if ((M1 15 0) - (M1 15 0) / (2 : Int32) * (2 : Int32)) = 0 then (bv (f_X6_write (ms M1 15 (fun _ => ((M1 15 0) + (1 : Int32)))) ((84 : Int32) + (M1 15 0)) ((M1 26) ((M1 15 0) / (2 : Int32)).toNatClampNeg)) (fun M25 => M25)) else (bv (f_X6_write (ms M1 15 (fun _ => ((M1 15 0) + (1 : Int32)))) ((84 : Int32) + (M1 15 0)) ((M1 27) ((M1 15 0) / (2 : Int32)).toNatClampNeg)) (fun M22 => M22)))))))
def ok_X6_commitOne (M : Mem) : Prop := ok_X6_pays M (4 : Int32) ∧ (bc (f_X6_pays M (4 : Int32)) (fun M1 r1 => (if r1 = 0 then True else (if ((2 : Int32) * ((M1 14 0) + (2 : Int32))) ≤ (M1 15 0) then (if (M1 15 0) = ((2 : Int32) * ((M1 14 0) + (2 : Int32))) then ok_X6_write (ms M1 15 (fun _ => ((M1 15 0) + (1 : Int32)))) (2 : Int32) ((M1 14 0) + (2 : Int32)) else (if ((3 : Int32) * ((M1 14 0) + (2 : Int32))) < (M1 15 0) then ok_X6_write (ms M1 15 (fun _ => ((M1 15 0) + (1 : Int32)))) (2 : Int32) (0 : Int32) ∧ (bv (f_X6_write (ms M1 15 (fun _ => ((M1 15 0) + (1 : Int32)))) (2 : Int32) (0 : Int32)) (fun M6 => vp_in (M6 17 0) 16 ∧ (if (M6 12 0) ≤ ((M6 23) (M6 17 0).toNatClampNeg) then ok_X6_commitOne_180 M6 else vp_in (M6 17 0) 16 ∧ ok_X6_commitOne_180 (ms M6 23 (upd (M6 23) (M6 17 0).toNatClampNeg (M6 12 0)))))) else (if (((M1 15 0) - ((2 : Int32) * ((M1 14 0) + (2 : Int32)))) - (1 : Int32)) = 0 then ok_X6_commitOne_123 (ms M1 15 (fun _ => ((M1 15 0) + (1 : Int32)))) (((M1 15 0) - ((2 : Int32) * ((M1 14 0) + (2 : Int32)))) - (1 : Int32)) ((M1 20) 0) else ok_X6_commitOne_123 (ms M1 15 (fun _ => ((M1 15 0) + (1 : Int32)))) (((M1 15 0) - ((2 : Int32) * ((M1 14 0) + (2 : Int32)))) - (1 : Int32)) (M1 17 0)))) else (if ((M1 15 0) - (M1 15 0) / (2 : Int32) * (2 : Int32)) = 0 then vp_in ((M1 15 0) / (2 : Int32)) 40 ∧ ok_X6_write (ms M1 15 (fun _ => ((M1 15 0) + (1 : Int32)))) ((84 : Int32) + (M1 15 0)) ((M1 26) ((M1 15 0) / (2 : Int32)).toNatClampNeg) else vp_in ((M1 15 0) / (2 : Int32)) 40 ∧ ok_X6_write (ms M1 15 (fun _ => ((M1 15 0) + (1 : Int32)))) ((84 : Int32) + (M1 15 0)) ((M1 27) ((M1 15 0) / (2 : Int32)).toNatClampNeg))))))
set_option maxRecDepth 100000 in
set_option maxHeartbeats 4000000 in
theorem k_X6_commitOne_180 {p : Program} {l : Launch} {e : Env} {s : State} {m : MethodId} {args : Array Value} {below : List Frame} {meth : Method} {c : Code} {D : va_G} {cI : ClassId} {ad : Nat → Nat} {A : Nat → Prop} {cells slots : Nat} {R : Room} (hcs : cells ≤ R.cells ∧ slots ≤ R.slots) (hrf : rmX6_commitOne.frames ≤ R.frames) (hrl : rmX6_commitOne.locals ≤ R.locals) {res : Mem} (C : CX p s m args meth c RX6 cX6_commitOne 4 none) : ∀ (M : Mem) (H : Heap) (locs : List Loc) (ls : Array Slot), ok_X6_commitOne_180 M → f_X6_commitOne_180 M = res → WH D [(cI, .int)] (wR cI ad) A s H locs M → lv_has ls 4 [(0, .ref (ad 0))] → W p l e R s m args below meth c H locs cells slots (MQ below (PV D [(cI, .int)] (wR cI ad) A res) args s cells slots A) (F0 m 180 ls []) := by
  have hx := C.1
  have hb := C.2.1
  have hown := C.2.2.2.2.1
  have hts := C.2.2.2.2.2.1
  intro M H locs ls hok hres h hl
  rw [ok_X6_commitOne_180] at hok
  rw [f_X6_commitOne_180] at hres
  refine lv_aload_n hx hb dX6_commitOne_180 rfl (lv_at hl 0 rfl) ?_
  refine R_X6_failures_get C h in_fX6_28 dX6_commitOne_181 ?_
  refine lv_aload_n hx hb dX6_commitOne_184 rfl (lv_at hl 0 rfl) ?_
  refine R_X6_runningTask_get (v := (M 17 0)) C h in_fX6_161 rfl dX6_commitOne_185 ?_
  refine lv_iconst (v := (0 : Int32)) hx hb dX6_commitOne_188 (by decide) ?_
  obtain ⟨h10, hok⟩ := hok
  refine R_failures_st (M2 := (ms M 24 (upd (M 24) (M 17 0).toNatClampNeg (0 : Int32)))) C h h10 rfl dX6_commitOne_189 (fun H locs h => ?_)
  refine lv_aload_n hx hb dX6_commitOne_190 rfl (lv_at hl 0 rfl) ?_
  refine lv_iconst (v := (2 : Int32)) hx hb dX6_commitOne_191 (by decide) ?_
  refine R_X6_phase_put (v := (2 : Int32)) (M2 := (ms (ms M 24 (upd (M 24) (M 17 0).toNatClampNeg (0 : Int32))) 4 (fun _ => (2 : Int32)))) C h in_fX6_93 rfl dX6_commitOne_192 (fun H locs h => ?_)
  refine lv_aload_n hx hb dX6_commitOne_195 rfl (lv_at hl 0 rfl) ?_
  refine lv_iconst (v := (0 : Int32)) hx hb dX6_commitOne_196 (by decide) ?_
  refine R_X6_onAir_put (v := (0 : Int32)) (M2 := (ms (ms (ms M 24 (upd (M 24) (M 17 0).toNatClampNeg (0 : Int32))) 4 (fun _ => (2 : Int32))) 10 (fun _ => (0 : Int32)))) C h in_fX6_127 nb_0 rfl dX6_commitOne_197 (fun H locs h => ?_)
  refine lv_aload_n hx hb dX6_commitOne_200 rfl (lv_at hl 0 rfl) ?_
  have h9 := hok
  refine wh_cvv (As := []) (rest := []) hcs C h (c_X6_endAttempt (ms (ms (ms M 24 (upd (M 24) (M 17 0).toNatClampNeg (0 : Int32))) 4 (fun _ => (2 : Int32))) 10 (fun _ => (0 : Int32))) h9) yw_X6_endAttempt in_mX6_99 hl.1 rfl rfl (Nat.le_of_ble_eq_true rfl) ⟨Nat.le_trans (Nat.le_of_ble_eq_true rfl) hrf, Nat.le_trans (Nat.le_of_ble_eq_true rfl) hrl⟩ dX6_commitOne_201 (fun M8 H locs e8 h => ?_)
  rw [e8] at hres
  have hres := bv_e hres
  exact wh_vret C h hres dX6_commitOne_204
set_option maxRecDepth 100000 in
set_option maxHeartbeats 4000000 in
theorem k_X6_commitOne_123 {p : Program} {l : Launch} {e : Env} {s : State} {m : MethodId} {args : Array Value} {below : List Frame} {meth : Method} {c : Code} {D : va_G} {cI : ClassId} {ad : Nat → Nat} {A : Nat → Prop} {cells slots : Nat} {R : Room} (hcs : cells ≤ R.cells ∧ slots ≤ R.slots) (hrf : rmX6_commitOne.frames ≤ R.frames) (hrl : rmX6_commitOne.locals ≤ R.locals) {res : Mem} (C : CX p s m args meth c RX6 cX6_commitOne 4 none) : ∀ (M : Mem) (x3 t0 : Int32) (H : Heap) (locs : List Loc) (ls : Array Slot), ok_X6_commitOne_123 M x3 t0 → f_X6_commitOne_123 M x3 t0 = res → WH D [(cI, .int)] (wR cI ad) A s H locs M → lv_has ls 4 [(0, .ref (ad 0)), (3, .int x3)] → W p l e R s m args below meth c H locs cells slots (MQ below (PV D [(cI, .int)] (wR cI ad) A res) args s cells slots A) (F0 m 123 ls [.int t0, .ref (ad 0)]) := by
  have hx := C.1
  have hb := C.2.1
  have hown := C.2.2.2.2.1
  have hts := C.2.2.2.2.2.1
  intro M x3 t0 H locs ls hok hres h hl
  rw [ok_X6_commitOne_123] at hok
  rw [f_X6_commitOne_123] at hres
  refine R_X6_runningTask_put (v := t0) (M2 := (ms M 17 (fun _ => t0))) C h in_fX6_161 rfl dX6_commitOne_123 (fun H locs h => ?_)
  refine lv_aload_n hx hb dX6_commitOne_126 rfl (lv_at hl 0 rfl) ?_
  refine lv_aload_n hx hb dX6_commitOne_127 rfl (lv_at hl 0 rfl) ?_
  refine R_X6_where_get C h in_fX6_38 dX6_commitOne_128 ?_
  refine lv_iload_n hx hb dX6_commitOne_131 rfl (lv_at hl 1 rfl) ?_
  obtain ⟨h18, hok⟩ := hok
  refine R_where_ld (v := ((M 26) x3.toNatClampNeg)) C h h18 rfl dX6_commitOne_132 ?_
  refine lv_aload_n hx hb dX6_commitOne_133 rfl (lv_at hl 0 rfl) ?_
  refine R_X6_what_get C h in_fX6_41 dX6_commitOne_134 ?_
  refine lv_iload_n hx hb dX6_commitOne_137 rfl (lv_at hl 1 rfl) ?_
  obtain ⟨h17, hok⟩ := hok
  refine R_what_ld (v := ((M 27) x3.toNatClampNeg)) C h h17 rfl dX6_commitOne_138 ?_
  have h16 := hok
  refine wh_cvv (As := [.int ((M 26) x3.toNatClampNeg), .int ((M 27) x3.toNatClampNeg)]) (rest := []) hcs C h (c_X6_write (ms M 17 (fun _ => t0)) ((M 26) x3.toNatClampNeg) ((M 27) x3.toNatClampNeg) h16) yw_X6_write in_mX6_123 hl.1 rfl rfl (Nat.le_of_ble_eq_true rfl) ⟨Nat.le_trans (Nat.le_of_ble_eq_true rfl) hrf, Nat.le_trans (Nat.le_of_ble_eq_true rfl) hrl⟩ dX6_commitOne_139 (fun M15 H locs e15 h => ?_)
  rw [e15] at hres
  have hres := bv_e hres
  refine lv_goto (tgt := 204) hx hb dX6_commitOne_142 (by decide) ?_
  exact wh_vret C h hres dX6_commitOne_204
set_option maxRecDepth 100000 in
set_option maxHeartbeats 4000000 in
theorem k_X6_commitOne_0 {p : Program} {l : Launch} {e : Env} {s : State} {m : MethodId} {args : Array Value} {below : List Frame} {meth : Method} {c : Code} {D : va_G} {cI : ClassId} {ad : Nat → Nat} {A : Nat → Prop} {cells slots : Nat} {R : Room} (hcs : cells ≤ R.cells ∧ slots ≤ R.slots) (hrf : rmX6_commitOne.frames ≤ R.frames) (hrl : rmX6_commitOne.locals ≤ R.locals) {res : Mem} (C : CX p s m args meth c RX6 cX6_commitOne 4 none) : ∀ (M : Mem) (H : Heap) (locs : List Loc) (ls : Array Slot), ok_X6_commitOne M → f_X6_commitOne M = res → WH D [(cI, .int)] (wR cI ad) A s H locs M → lv_has ls 4 [(0, .ref (ad 0))] → W p l e R s m args below meth c H locs cells slots (MQ below (PV D [(cI, .int)] (wR cI ad) A res) args s cells slots A) (F0 m 0 ls []) := by
  have hx := C.1
  have hb := C.2.1
  have hown := C.2.2.2.2.1
  have hts := C.2.2.2.2.2.1
  intro M H locs ls hok hres h hl
  rw [ok_X6_commitOne] at hok
  rw [f_X6_commitOne] at hres
  refine lv_aload_n hx hb dX6_commitOne_0 rfl (lv_at hl 0 rfl) ?_
  refine lv_iconst (v := (4 : Int32)) hx hb dX6_commitOne_1 (by decide) ?_
  obtain ⟨h28, hok⟩ := hok
  refine wh_cvz (As := [.int (4 : Int32)]) (rest := []) hcs C h (c_X6_pays M (4 : Int32) h28) yw_X6_pays in_mX6_117 hl.1 rfl rfl (Nat.le_of_ble_eq_true rfl) ⟨Nat.le_trans (Nat.le_of_ble_eq_true rfl) hrf, Nat.le_trans (Nat.le_of_ble_eq_true rfl) hrl⟩ dX6_commitOne_2 (fun M1 r1 H locs e1 z1 h => ?_)
  rw [e1] at hres
  have hres := bc_e hres
  rw [e1] at hok
  have hok := bc_o hok
  refine lv_if_ne (tgt := 9) hx hb dX6_commitOne_5 (by decide) (fun c2 => ?_) (fun c2 => ?_)
  · have hres := it_n hres c2
    have hok := io_n hok c2
    refine lv_aload_n hx hb dX6_commitOne_9 rfl (lv_at hl 0 rfl) ?_
    refine R_X6_pending_get (v := (M1 14 0)) C h in_fX6_84 rfl dX6_commitOne_10 ?_
    refine lv_iconst (v := (2 : Int32)) hx hb dX6_commitOne_13 (by decide) ?_
    refine lv_iadd hx hb dX6_commitOne_14 ?_
    refine lv_istore_n (lv' := [(1, .int ((M1 14 0) + (2 : Int32))), (0, .ref (ad 0))]) hx hb dX6_commitOne_15 rfl hl (by decide) rfl (fun ls hl => ?_)
    refine lv_aload_n hx hb dX6_commitOne_16 rfl (lv_at hl 1 rfl) ?_
    refine R_X6_commitStep_get (v := (M1 15 0)) C h in_fX6_108 rfl dX6_commitOne_17 ?_
    refine lv_istore_n (lv' := [(2, .int (M1 15 0)), (1, .int ((M1 14 0) + (2 : Int32))), (0, .ref (ad 0))]) hx hb dX6_commitOne_20 rfl hl (by decide) rfl (fun ls hl => ?_)
    refine lv_aload_n hx hb dX6_commitOne_21 rfl (lv_at hl 2 rfl) ?_
    refine lv_dup hx hb dX6_commitOne_22 rfl ?_
    refine R_X6_commitStep_get (v := (M1 15 0)) C h in_fX6_108 rfl dX6_commitOne_23 ?_
    refine lv_iconst (v := (1 : Int32)) hx hb dX6_commitOne_26 (by decide) ?_
    refine lv_iadd hx hb dX6_commitOne_27 ?_
    refine R_X6_commitStep_put (v := ((M1 15 0) + (1 : Int32))) (M2 := (ms M1 15 (fun _ => ((M1 15 0) + (1 : Int32))))) C h in_fX6_108 rfl dX6_commitOne_28 (fun H locs h => ?_)
    refine lv_iload_n hx hb dX6_commitOne_31 rfl (lv_at hl 0 rfl) ?_
    refine lv_iconst (v := (2 : Int32)) hx hb dX6_commitOne_32 (by decide) ?_
    refine lv_iload_n hx hb dX6_commitOne_33 rfl (lv_at hl 1 rfl) ?_
    refine lv_imul hx hb dX6_commitOne_34 ?_
    refine lv_icmp_ge (tgt := 74) hx hb dX6_commitOne_35 (by decide) (fun c3 => ?_) (fun c3 => ?_)
    · have hres := it_p hres c3
      have hok := io_p hok c3
      refine lv_iload_n hx hb dX6_commitOne_74 rfl (lv_at hl 0 rfl) ?_
      refine lv_iconst (v := (2 : Int32)) hx hb dX6_commitOne_75 (by decide) ?_
      refine lv_iload_n hx hb dX6_commitOne_76 rfl (lv_at hl 1 rfl) ?_
      refine lv_imul hx hb dX6_commitOne_77 ?_
      refine lv_icmp_ne (tgt := 90) hx hb dX6_commitOne_78 (by decide) (fun c4 => ?_) (fun c4 => ?_)
      · have hres := it_n hres c4
        have hok := io_n hok c4
        refine lv_iload_n hx hb dX6_commitOne_90 rfl (lv_at hl 0 rfl) ?_
        refine lv_iconst (v := (3 : Int32)) hx hb dX6_commitOne_91 (by decide) ?_
        refine lv_iload_n hx hb dX6_commitOne_92 rfl (lv_at hl 1 rfl) ?_
        refine lv_imul hx hb dX6_commitOne_93 ?_
        refine lv_icmp_gt (tgt := 145) hx hb dX6_commitOne_94 (by decide) (fun c5 => ?_) (fun c5 => ?_)
        · have hres := it_p hres c5
          have hok := io_p hok c5
          refine lv_aload_n hx hb dX6_commitOne_145 rfl (lv_at hl 2 rfl) ?_
          refine lv_iconst (v := (2 : Int32)) hx hb dX6_commitOne_146 (by decide) ?_
          refine lv_iconst (v := (0 : Int32)) hx hb dX6_commitOne_147 (by decide) ?_
          obtain ⟨h13, hok⟩ := hok
          refine wh_cvv (As := [.int (2 : Int32), .int (0 : Int32)]) (rest := []) hcs C h (c_X6_write (ms M1 15 (fun _ => ((M1 15 0) + (1 : Int32)))) (2 : Int32) (0 : Int32) h13) yw_X6_write in_mX6_123 hl.1 rfl rfl (Nat.le_of_ble_eq_true rfl) ⟨Nat.le_trans (Nat.le_of_ble_eq_true rfl) hrf, Nat.le_trans (Nat.le_of_ble_eq_true rfl) hrl⟩ dX6_commitOne_148 (fun M6 H locs e6 h => ?_)
          rw [e6] at hres
          have hres := bv_e hres
          rw [e6] at hok
          have hok := bv_o hok
          refine lv_aload_n hx hb dX6_commitOne_151 rfl (lv_at hl 2 rfl) ?_
          refine R_X6_spent_get (v := (M6 12 0)) C h in_fX6_96 rfl dX6_commitOne_152 ?_
          refine lv_aload_n hx hb dX6_commitOne_155 rfl (lv_at hl 2 rfl) ?_
          refine R_X6_estimate_get C h in_fX6_25 dX6_commitOne_156 ?_
          refine lv_aload_n hx hb dX6_commitOne_159 rfl (lv_at hl 2 rfl) ?_
          refine R_X6_runningTask_get (v := (M6 17 0)) C h in_fX6_161 rfl dX6_commitOne_160 ?_
          obtain ⟨h12, hok⟩ := hok
          refine R_estimate_ld (v := ((M6 23) (M6 17 0).toNatClampNeg)) C h h12 rfl dX6_commitOne_163 ?_
          refine lv_icmp_le (tgt := 180) hx hb dX6_commitOne_164 (by decide) (fun c7 => ?_) (fun c7 => ?_)
          · have hres := it_p hres c7
            have hok := io_p hok c7
            exact k_X6_commitOne_180 hcs hrf hrl C M6 _ _ _ hok hres h (lv_sub hl [2] rfl)
          · have hres := it_n hres c7
            have hok := io_n hok c7
            refine lv_aload_n hx hb dX6_commitOne_167 rfl (lv_at hl 2 rfl) ?_
            refine R_X6_estimate_get C h in_fX6_25 dX6_commitOne_168 ?_
            refine lv_aload_n hx hb dX6_commitOne_171 rfl (lv_at hl 2 rfl) ?_
            refine R_X6_runningTask_get (v := (M6 17 0)) C h in_fX6_161 rfl dX6_commitOne_172 ?_
            refine lv_aload_n hx hb dX6_commitOne_175 rfl (lv_at hl 2 rfl) ?_
            refine R_X6_spent_get (v := (M6 12 0)) C h in_fX6_96 rfl dX6_commitOne_176 ?_
            obtain ⟨h11, hok⟩ := hok
            refine R_estimate_st (M2 := (ms M6 23 (upd (M6 23) (M6 17 0).toNatClampNeg (M6 12 0)))) C h h11 rfl dX6_commitOne_179 (fun H locs h => ?_)
            exact k_X6_commitOne_180 hcs hrf hrl C (ms M6 23 (upd (M6 23) (M6 17 0).toNatClampNeg (M6 12 0))) _ _ _ hok hres h (lv_sub hl [2] rfl)
        · have hres := it_n hres c5
          have hok := io_n hok c5
          refine lv_iload_n hx hb dX6_commitOne_97 rfl (lv_at hl 0 rfl) ?_
          refine lv_iconst (v := (2 : Int32)) hx hb dX6_commitOne_98 (by decide) ?_
          refine lv_iload_n hx hb dX6_commitOne_99 rfl (lv_at hl 1 rfl) ?_
          refine lv_imul hx hb dX6_commitOne_100 ?_
          refine lv_isub hx hb dX6_commitOne_101 ?_
          refine lv_iconst (v := (1 : Int32)) hx hb dX6_commitOne_102 (by decide) ?_
          refine lv_isub hx hb dX6_commitOne_103 ?_
          refine lv_istore_n (lv' := [(3, .int (((M1 15 0) - ((2 : Int32) * ((M1 14 0) + (2 : Int32)))) - (1 : Int32))), (2, .int (M1 15 0)), (1, .int ((M1 14 0) + (2 : Int32))), (0, .ref (ad 0))]) hx hb dX6_commitOne_104 rfl hl (by decide) rfl (fun ls hl => ?_)
          refine lv_aload_n hx hb dX6_commitOne_105 rfl (lv_at hl 3 rfl) ?_
          refine lv_iload_n hx hb dX6_commitOne_106 rfl (lv_at hl 0 rfl) ?_
          refine lv_if_ne (tgt := 119) hx hb dX6_commitOne_107 (by decide) (fun c14 => ?_) (fun c14 => ?_)
          · have hres := it_n hres c14
            have hok := io_n hok c14
            refine lv_aload_n hx hb dX6_commitOne_119 rfl (lv_at hl 3 rfl) ?_
            refine R_X6_runningTask_get (v := (M1 17 0)) C h in_fX6_161 rfl dX6_commitOne_120 ?_
            exact k_X6_commitOne_123 hcs hrf hrl C (ms M1 15 (fun _ => ((M1 15 0) + (1 : Int32)))) (((M1 15 0) - ((2 : Int32) * ((M1 14 0) + (2 : Int32)))) - (1 : Int32)) (M1 17 0) _ _ _ hok hres h (lv_sub hl [3, 0] rfl)
          · have hres := it_p hres c14
            have hok := io_p hok c14
            refine lv_aload_n hx hb dX6_commitOne_110 rfl (lv_at hl 3 rfl) ?_
            refine R_X6_kept_get C h in_fX6_16 dX6_commitOne_111 ?_
            refine lv_iconst (v := (0 : Int32)) hx hb dX6_commitOne_114 (by decide) ?_
            refine R_kept_ld (v := ((M1 20) 0)) C h (vp_l (by decide)) rfl dX6_commitOne_115 ?_
            refine lv_goto (tgt := 123) hx hb dX6_commitOne_116 (by decide) ?_
            exact k_X6_commitOne_123 hcs hrf hrl C (ms M1 15 (fun _ => ((M1 15 0) + (1 : Int32)))) (((M1 15 0) - ((2 : Int32) * ((M1 14 0) + (2 : Int32)))) - (1 : Int32)) ((M1 20) 0) _ _ _ hok hres h (lv_sub hl [3, 0] rfl)
      · have hres := it_p hres c4
        have hok := io_p hok c4
        refine lv_aload_n hx hb dX6_commitOne_81 rfl (lv_at hl 2 rfl) ?_
        refine lv_iconst (v := (2 : Int32)) hx hb dX6_commitOne_82 (by decide) ?_
        refine lv_iload_n hx hb dX6_commitOne_83 rfl (lv_at hl 1 rfl) ?_
        have h20 := hok
        refine wh_cvv (As := [.int (2 : Int32), .int ((M1 14 0) + (2 : Int32))]) (rest := []) hcs C h (c_X6_write (ms M1 15 (fun _ => ((M1 15 0) + (1 : Int32)))) (2 : Int32) ((M1 14 0) + (2 : Int32)) h20) yw_X6_write in_mX6_123 hl.1 rfl rfl (Nat.le_of_ble_eq_true rfl) ⟨Nat.le_trans (Nat.le_of_ble_eq_true rfl) hrf, Nat.le_trans (Nat.le_of_ble_eq_true rfl) hrl⟩ dX6_commitOne_84 (fun M19 H locs e19 h => ?_)
        rw [e19] at hres
        have hres := bv_e hres
        refine lv_goto (tgt := 204) hx hb dX6_commitOne_87 (by decide) ?_
        exact wh_vret C h hres dX6_commitOne_204
    · have hres := it_n hres c3
      have hok := io_n hok c3
      refine lv_aload_n hx hb dX6_commitOne_38 rfl (lv_at hl 2 rfl) ?_
      refine lv_bipush (v := (84 : Int32)) hx hb dX6_commitOne_39 (by decide) ?_
      refine lv_iload_n hx hb dX6_commitOne_41 rfl (lv_at hl 0 rfl) ?_
      refine lv_iadd hx hb dX6_commitOne_42 ?_
      refine lv_iload_n hx hb dX6_commitOne_43 rfl (lv_at hl 0 rfl) ?_
      refine lv_iconst (v := (2 : Int32)) hx hb dX6_commitOne_44 (by decide) ?_
      refine lv_irem hx hb dX6_commitOne_45 (by decide) ?_
      refine lv_if_ne (tgt := 60) hx hb dX6_commitOne_46 (by decide) (fun c21 => ?_) (fun c21 => ?_)
      · have hres := it_n hres c21
        have hok := io_n hok c21
        refine lv_aload_n hx hb dX6_commitOne_60 rfl (lv_at hl 2 rfl) ?_
        refine R_X6_what_get C h in_fX6_41 dX6_commitOne_61 ?_
        refine lv_iload_n hx hb dX6_commitOne_64 rfl (lv_at hl 0 rfl) ?_
        refine lv_iconst (v := (2 : Int32)) hx hb dX6_commitOne_65 (by decide) ?_
        refine lv_idiv hx hb dX6_commitOne_66 (by decide) ?_
        obtain ⟨h24, hok⟩ := hok
        refine R_what_ld (v := ((M1 27) ((M1 15 0) / (2 : Int32)).toNatClampNeg)) C h h24 rfl dX6_commitOne_67 ?_
        have h23 := hok
        refine wh_cvv (As := [.int ((84 : Int32) + (M1 15 0)), .int ((M1 27) ((M1 15 0) / (2 : Int32)).toNatClampNeg)]) (rest := []) hcs C h (c_X6_write (ms M1 15 (fun _ => ((M1 15 0) + (1 : Int32)))) ((84 : Int32) + (M1 15 0)) ((M1 27) ((M1 15 0) / (2 : Int32)).toNatClampNeg) h23) yw_X6_write in_mX6_123 hl.1 rfl rfl (Nat.le_of_ble_eq_true rfl) ⟨Nat.le_trans (Nat.le_of_ble_eq_true rfl) hrf, Nat.le_trans (Nat.le_of_ble_eq_true rfl) hrl⟩ dX6_commitOne_68 (fun M22 H locs e22 h => ?_)
        rw [e22] at hres
        have hres := bv_e hres
        refine lv_goto (tgt := 204) hx hb dX6_commitOne_71 (by decide) ?_
        exact wh_vret C h hres dX6_commitOne_204
      · have hres := it_p hres c21
        have hok := io_p hok c21
        refine lv_aload_n hx hb dX6_commitOne_49 rfl (lv_at hl 2 rfl) ?_
        refine R_X6_where_get C h in_fX6_38 dX6_commitOne_50 ?_
        refine lv_iload_n hx hb dX6_commitOne_53 rfl (lv_at hl 0 rfl) ?_
        refine lv_iconst (v := (2 : Int32)) hx hb dX6_commitOne_54 (by decide) ?_
        refine lv_idiv hx hb dX6_commitOne_55 (by decide) ?_
        obtain ⟨h27, hok⟩ := hok
        refine R_where_ld (v := ((M1 26) ((M1 15 0) / (2 : Int32)).toNatClampNeg)) C h h27 rfl dX6_commitOne_56 ?_
        refine lv_goto (tgt := 68) hx hb dX6_commitOne_57 (by decide) ?_
        have h26 := hok
        refine wh_cvv (As := [.int ((84 : Int32) + (M1 15 0)), .int ((M1 26) ((M1 15 0) / (2 : Int32)).toNatClampNeg)]) (rest := []) hcs C h (c_X6_write (ms M1 15 (fun _ => ((M1 15 0) + (1 : Int32)))) ((84 : Int32) + (M1 15 0)) ((M1 26) ((M1 15 0) / (2 : Int32)).toNatClampNeg) h26) yw_X6_write in_mX6_123 hl.1 rfl rfl (Nat.le_of_ble_eq_true rfl) ⟨Nat.le_trans (Nat.le_of_ble_eq_true rfl) hrf, Nat.le_trans (Nat.le_of_ble_eq_true rfl) hrl⟩ dX6_commitOne_68 (fun M25 H locs e25 h => ?_)
        rw [e25] at hres
        have hres := bv_e hres
        refine lv_goto (tgt := 204) hx hb dX6_commitOne_71 (by decide) ?_
        exact wh_vret C h hres dX6_commitOne_204
  · have hres := it_p hres c2
    exact wh_vret C h hres dX6_commitOne_8
theorem yw_X6_commitOne {cI : ClassId} {ad : Nat → Nat} : YV (wR cI ad) (ad 0) yX6_commitOne cX6_commitOne 4 none rmX6_commitOne 0 := ⟨fun M => ⟨0, 6, _, _, rfl, rfl, rfl⟩, in_cX6_commitOne, in_nX6_commitOne, in_vX6_commitOne, in_iX6, by decide +kernel, rfl, rfl⟩
theorem c_X6_commitOne {l : Launch} {D : va_G} {cI : ClassId} {ad : Nat → Nat} (M : Mem) (hok : ok_X6_commitOne M) : KV l D [(cI, .int)] (wR cI ad) yX6_commitOne cX6_commitOne 4 rmX6_commitOne [.ref (ad 0)] M (f_X6_commitOne M) := met_v (by decide) (Nat.le_of_ble_eq_true rfl) (fun p e s m below meth c A C h ls hl => k_X6_commitOne_0 ⟨Nat.le_refl _, Nat.le_refl _⟩ (Nat.le_refl _) (Nat.le_refl _) C M _ _ ls hok rfl h hl)
abbrev rmX6_beginAttempt : Room := { frames := 1, cells := 0, slots := 0, locals := 21 }
def f_X6_beginAttempt (M : Mem) : Mem := (bv (f_X6_endAttempt M) (fun M1 => (ms M1 4 (fun _ => (3 : Int32)))))
def ok_X6_beginAttempt (M : Mem) : Prop := ok_X6_endAttempt M
set_option maxRecDepth 100000 in
set_option maxHeartbeats 4000000 in
theorem k_X6_beginAttempt_0 {p : Program} {l : Launch} {e : Env} {s : State} {m : MethodId} {args : Array Value} {below : List Frame} {meth : Method} {c : Code} {D : va_G} {cI : ClassId} {ad : Nat → Nat} {A : Nat → Prop} {cells slots : Nat} {R : Room} (hcs : cells ≤ R.cells ∧ slots ≤ R.slots) (hrf : rmX6_beginAttempt.frames ≤ R.frames) (hrl : rmX6_beginAttempt.locals ≤ R.locals) {res : Mem} (C : CX p s m args meth c RX6 cX6_beginAttempt 1 none) : ∀ (M : Mem) (H : Heap) (locs : List Loc) (ls : Array Slot), ok_X6_beginAttempt M → f_X6_beginAttempt M = res → WH D [(cI, .int)] (wR cI ad) A s H locs M → lv_has ls 1 [(0, .ref (ad 0))] → W p l e R s m args below meth c H locs cells slots (MQ below (PV D [(cI, .int)] (wR cI ad) A res) args s cells slots A) (F0 m 0 ls []) := by
  have hx := C.1
  have hb := C.2.1
  have hown := C.2.2.2.2.1
  have hts := C.2.2.2.2.2.1
  intro M H locs ls hok hres h hl
  rw [ok_X6_beginAttempt] at hok
  rw [f_X6_beginAttempt] at hres
  refine lv_aload_n hx hb dX6_beginAttempt_0 rfl (lv_at hl 0 rfl) ?_
  have h2 := hok
  refine wh_cvv (As := []) (rest := []) hcs C h (c_X6_endAttempt M h2) yw_X6_endAttempt in_mX6_99 hl.1 rfl rfl (Nat.le_of_ble_eq_true rfl) ⟨Nat.le_trans (Nat.le_of_ble_eq_true rfl) hrf, Nat.le_trans (Nat.le_of_ble_eq_true rfl) hrl⟩ dX6_beginAttempt_1 (fun M1 H locs e1 h => ?_)
  rw [e1] at hres
  have hres := bv_e hres
  refine lv_aload_n hx hb dX6_beginAttempt_4 rfl (lv_at hl 0 rfl) ?_
  refine lv_iconst (v := (3 : Int32)) hx hb dX6_beginAttempt_5 (by decide) ?_
  refine R_X6_phase_put (v := (3 : Int32)) (M2 := (ms M1 4 (fun _ => (3 : Int32)))) C h in_fX6_93 rfl dX6_beginAttempt_6 (fun H locs h => ?_)
  exact wh_vret C h hres dX6_beginAttempt_9
theorem yw_X6_beginAttempt {cI : ClassId} {ad : Nat → Nat} : YV (wR cI ad) (ad 0) yX6_beginAttempt cX6_beginAttempt 1 none rmX6_beginAttempt 0 := ⟨fun M => ⟨0, 6, _, _, rfl, rfl, rfl⟩, in_cX6_beginAttempt, in_nX6_beginAttempt, in_vX6_beginAttempt, in_iX6, by decide +kernel, rfl, rfl⟩
theorem c_X6_beginAttempt {l : Launch} {D : va_G} {cI : ClassId} {ad : Nat → Nat} (M : Mem) (hok : ok_X6_beginAttempt M) : KV l D [(cI, .int)] (wR cI ad) yX6_beginAttempt cX6_beginAttempt 1 rmX6_beginAttempt [.ref (ad 0)] M (f_X6_beginAttempt M) := met_v (by decide) (Nat.le_of_ble_eq_true rfl) (fun p e s m below meth c A C h ls hl => k_X6_beginAttempt_0 ⟨Nat.le_refl _, Nat.le_refl _⟩ (Nat.le_refl _) (Nat.le_refl _) C M _ _ ls hok rfl h hl)
abbrev rmX6_stepOnce : Room := { frames := 4, cells := 0, slots := 0, locals := 96 }
def f_X6_stepOnce_93 (M : Mem) (x1 : Int32) : Mem × Int32 := (if (M 6 0) = x1 then (if (M 8 0) ≤ 0 then (M, (1 : Int32)) else (if ((M 8 0) - (1 : Int32)) = 0 then (bv (f_X6_fail (ms M 8 (fun _ => ((M 8 0) - (1 : Int32))))) (fun M7 => (M7, (1 : Int32)))) else ((ms M 8 (fun _ => ((M 8 0) - (1 : Int32)))), (1 : Int32)))) else (M, (0 : Int32)))
def ok_X6_stepOnce_93 (M : Mem) (x1 : Int32) : Prop := (if (M 6 0) = x1 then (if (M 8 0) ≤ 0 then True else (if ((M 8 0) - (1 : Int32)) = 0 then ok_X6_fail (ms M 8 (fun _ => ((M 8 0) - (1 : Int32)))) else True)) else True)
def f_X6_stepOnce_34 (M : Mem) : Mem × Int32 := (if (M 4 0) = (1 : Int32) then (bv (f_X6_replayStep M) (fun M3 => (f_X6_stepOnce_93 M3 (M 6 0)))) else (if (M 4 0) = (2 : Int32) then (bv (f_X6_airStep M) (fun M11 => (f_X6_stepOnce_93 M11 (M 6 0)))) else (if (M 4 0) = (3 : Int32) then (bv (f_X6_runStep M) (fun M14 => (f_X6_stepOnce_93 M14 (M 6 0)))) else (bv (f_X6_commitOne M) (fun M16 => (f_X6_stepOnce_93 M16 (M 6 0)))))))
def ok_X6_stepOnce_34 (M : Mem) : Prop := (if (M 4 0) = (1 : Int32) then ok_X6_replayStep M ∧ (bv (f_X6_replayStep M) (fun M3 => ok_X6_stepOnce_93 M3 (M 6 0))) else (if (M 4 0) = (2 : Int32) then ok_X6_airStep M ∧ (bv (f_X6_airStep M) (fun M11 => ok_X6_stepOnce_93 M11 (M 6 0))) else (if (M 4 0) = (3 : Int32) then ok_X6_runStep M ∧ (bv (f_X6_runStep M) (fun M14 => ok_X6_stepOnce_93 M14 (M 6 0))) else ok_X6_commitOne M ∧ (bv (f_X6_commitOne M) (fun M16 => ok_X6_stepOnce_93 M16 (M 6 0))))))
def f_X6_stepOnce (M : Mem) : Mem × Int32 := (if (M 4 0) = (2 : Int32) then (if (M 10 0) = 0 then (if ((M 20) 4) = ((M 20) 3) then (bv (f_X6_beginAttempt M) (fun M20 => (f_X6_stepOnce_34 M20))) else (f_X6_stepOnce_34 M)) else (f_X6_stepOnce_34 M)) else (f_X6_stepOnce_34 M))
def ok_X6_stepOnce (M : Mem) : Prop := (if (M 4 0) = (2 : Int32) then (if (M 10 0) = 0 then (if ((M 20) 4) = ((M 20) 3) then ok_X6_beginAttempt M ∧ (bv (f_X6_beginAttempt M) (fun M20 => ok_X6_stepOnce_34 M20)) else ok_X6_stepOnce_34 M) else ok_X6_stepOnce_34 M) else ok_X6_stepOnce_34 M)
set_option maxRecDepth 100000 in
set_option maxHeartbeats 4000000 in
theorem k_X6_stepOnce_93 {p : Program} {l : Launch} {e : Env} {s : State} {m : MethodId} {args : Array Value} {below : List Frame} {meth : Method} {c : Code} {D : va_G} {cI : ClassId} {ad : Nat → Nat} {A : Nat → Prop} {cells slots : Nat} {R : Room} (hcs : cells ≤ R.cells ∧ slots ≤ R.slots) (hrf : rmX6_stepOnce.frames ≤ R.frames) (hrl : rmX6_stepOnce.locals ≤ R.locals) {res : Mem × Int32} (C : CX p s m args meth c RX6 cX6_stepOnce 2 (some .boolean)) : ∀ (M : Mem) (x1 : Int32) (H : Heap) (locs : List Loc) (ls : Array Slot), ok_X6_stepOnce_93 M x1 → f_X6_stepOnce_93 M x1 = res → WH D [(cI, .int)] (wR cI ad) A s H locs M → lv_has ls 2 [(0, .ref (ad 0)), (1, .int x1)] → W p l e R s m args below meth c H locs cells slots (MQ below (PZ D [(cI, .int)] (wR cI ad) A res) args s cells slots A) (F0 m 93 ls []) := by
  have hx := C.1
  have hb := C.2.1
  have hown := C.2.2.2.2.1
  have hts := C.2.2.2.2.2.1
  intro M x1 H locs ls hok hres h hl
  rw [ok_X6_stepOnce_93] at hok
  rw [f_X6_stepOnce_93] at hres
  refine lv_aload_n hx hb dX6_stepOnce_93 rfl (lv_at hl 0 rfl) ?_
  refine R_X6_fails_get (v := (M 6 0)) C h in_fX6_90 rfl dX6_stepOnce_94 ?_
  refine lv_iload_n hx hb dX6_stepOnce_97 rfl (lv_at hl 1 rfl) ?_
  refine lv_icmp_eq (tgt := 103) hx hb dX6_stepOnce_98 (by decide) (fun c4 => ?_) (fun c4 => ?_)
  · have hres := it_p hres c4
    have hok := io_p hok c4
    refine lv_aload_n hx hb dX6_stepOnce_103 rfl (lv_at hl 0 rfl) ?_
    refine R_X6_cutIn_get (v := (M 8 0)) C h in_fX6_179 rfl dX6_stepOnce_104 ?_
    refine lv_if_le (tgt := 131) hx hb dX6_stepOnce_107 (by decide) (fun c5 => ?_) (fun c5 => ?_)
    · have hres := it_p hres c5
      refine lv_iconst (v := (1 : Int32)) hx hb dX6_stepOnce_131 (by decide) ?_
      exact wh_zret C h nb_1 hres dX6_stepOnce_132
    · have hres := it_n hres c5
      have hok := io_n hok c5
      refine lv_aload_n hx hb dX6_stepOnce_110 rfl (lv_at hl 0 rfl) ?_
      refine lv_dup hx hb dX6_stepOnce_111 rfl ?_
      refine R_X6_cutIn_get (v := (M 8 0)) C h in_fX6_179 rfl dX6_stepOnce_112 ?_
      refine lv_iconst (v := (1 : Int32)) hx hb dX6_stepOnce_115 (by decide) ?_
      refine lv_isub hx hb dX6_stepOnce_116 ?_
      refine R_X6_cutIn_put (v := ((M 8 0) - (1 : Int32))) (M2 := (ms M 8 (fun _ => ((M 8 0) - (1 : Int32))))) C h in_fX6_179 rfl dX6_stepOnce_117 (fun H locs h => ?_)
      refine lv_aload_n hx hb dX6_stepOnce_120 rfl (lv_at hl 0 rfl) ?_
      refine R_X6_cutIn_get (v := ((M 8 0) - (1 : Int32))) C h in_fX6_179 rfl dX6_stepOnce_121 ?_
      refine lv_if_ne (tgt := 131) hx hb dX6_stepOnce_124 (by decide) (fun c6 => ?_) (fun c6 => ?_)
      · have hres := it_n hres c6
        refine lv_iconst (v := (1 : Int32)) hx hb dX6_stepOnce_131 (by decide) ?_
        exact wh_zret C h nb_1 hres dX6_stepOnce_132
      · have hres := it_p hres c6
        have hok := io_p hok c6
        refine lv_aload_n hx hb dX6_stepOnce_127 rfl (lv_at hl 0 rfl) ?_
        have h8 := hok
        refine wh_cvv (As := []) (rest := []) hcs C h (c_X6_fail (ms M 8 (fun _ => ((M 8 0) - (1 : Int32)))) h8) yw_X6_fail in_mX6_114 hl.1 rfl rfl (Nat.le_of_ble_eq_true rfl) ⟨Nat.le_trans (Nat.le_of_ble_eq_true rfl) hrf, Nat.le_trans (Nat.le_of_ble_eq_true rfl) hrl⟩ dX6_stepOnce_128 (fun M7 H locs e7 h => ?_)
        rw [e7] at hres
        have hres := bv_e hres
        refine lv_iconst (v := (1 : Int32)) hx hb dX6_stepOnce_131 (by decide) ?_
        exact wh_zret C h nb_1 hres dX6_stepOnce_132
  · have hres := it_n hres c4
    refine lv_iconst (v := (0 : Int32)) hx hb dX6_stepOnce_101 (by decide) ?_
    exact wh_zret C h nb_0 hres dX6_stepOnce_102
set_option maxRecDepth 100000 in
set_option maxHeartbeats 4000000 in
theorem k_X6_stepOnce_34 {p : Program} {l : Launch} {e : Env} {s : State} {m : MethodId} {args : Array Value} {below : List Frame} {meth : Method} {c : Code} {D : va_G} {cI : ClassId} {ad : Nat → Nat} {A : Nat → Prop} {cells slots : Nat} {R : Room} (hcs : cells ≤ R.cells ∧ slots ≤ R.slots) (hrf : rmX6_stepOnce.frames ≤ R.frames) (hrl : rmX6_stepOnce.locals ≤ R.locals) {res : Mem × Int32} (C : CX p s m args meth c RX6 cX6_stepOnce 2 (some .boolean)) : ∀ (M : Mem) (H : Heap) (locs : List Loc) (ls : Array Slot), ok_X6_stepOnce_34 M → f_X6_stepOnce_34 M = res → WH D [(cI, .int)] (wR cI ad) A s H locs M → lv_has ls 2 [(0, .ref (ad 0))] → W p l e R s m args below meth c H locs cells slots (MQ below (PZ D [(cI, .int)] (wR cI ad) A res) args s cells slots A) (F0 m 34 ls []) := by
  have hx := C.1
  have hb := C.2.1
  have hown := C.2.2.2.2.1
  have hts := C.2.2.2.2.2.1
  intro M H locs ls hok hres h hl
  rw [ok_X6_stepOnce_34] at hok
  rw [f_X6_stepOnce_34] at hres
  refine lv_aload_n hx hb dX6_stepOnce_34 rfl (lv_at hl 0 rfl) ?_
  refine R_X6_fails_get (v := (M 6 0)) C h in_fX6_90 rfl dX6_stepOnce_35 ?_
  refine lv_istore_n (lv' := [(1, .int (M 6 0)), (0, .ref (ad 0))]) hx hb dX6_stepOnce_38 rfl hl (by decide) rfl (fun ls hl => ?_)
  refine lv_aload_n hx hb dX6_stepOnce_39 rfl (lv_at hl 1 rfl) ?_
  refine R_X6_phase_get (v := (M 4 0)) C h in_fX6_93 rfl dX6_stepOnce_40 ?_
  refine (Classical.em ((M 4 0) = (1 : Int32))).elim (fun c2 => ?_) (fun c2 => ?_)
  · have hres := it_p hres c2
    have hok := io_p hok c2
    refine sw_in (k := (1 : Int32)) (tgt := 68) c2 hx hb dX6_stepOnce_43 (by decide) (by decide) rfl (by decide) ?_
    refine lv_aload_n hx hb dX6_stepOnce_68 rfl (lv_at hl 1 rfl) ?_
    obtain ⟨h9, hok⟩ := hok
    refine wh_cvv (As := []) (rest := []) hcs C h (c_X6_replayStep M h9) yw_X6_replayStep in_mX6_167 hl.1 rfl rfl (Nat.le_of_ble_eq_true rfl) ⟨Nat.le_trans (Nat.le_of_ble_eq_true rfl) hrf, Nat.le_trans (Nat.le_of_ble_eq_true rfl) hrl⟩ dX6_stepOnce_69 (fun M3 H locs e3 h => ?_)
    rw [e3] at hres
    have hres := bv_e hres
    rw [e3] at hok
    have hok := bv_o hok
    refine lv_goto (tgt := 93) hx hb dX6_stepOnce_72 (by decide) ?_
    exact k_X6_stepOnce_93 hcs hrf hrl C M3 (M 6 0) _ _ _ hok hres h (lv_sub hl [1, 0] rfl)
  · have hres := it_n hres c2
    have hok := io_n hok c2
    refine (Classical.em ((M 4 0) = (2 : Int32))).elim (fun c10 => ?_) (fun c10 => ?_)
    · have hres := it_p hres c10
      have hok := io_p hok c10
      refine sw_in (k := (2 : Int32)) (tgt := 75) c10 hx hb dX6_stepOnce_43 (by decide) (by decide) rfl (by decide) ?_
      refine lv_aload_n hx hb dX6_stepOnce_75 rfl (lv_at hl 1 rfl) ?_
      obtain ⟨h12, hok⟩ := hok
      refine wh_cvv (As := []) (rest := []) hcs C h (c_X6_airStep M h12) yw_X6_airStep in_mX6_170 hl.1 rfl rfl (Nat.le_of_ble_eq_true rfl) ⟨Nat.le_trans (Nat.le_of_ble_eq_true rfl) hrf, Nat.le_trans (Nat.le_of_ble_eq_true rfl) hrl⟩ dX6_stepOnce_76 (fun M11 H locs e11 h => ?_)
      rw [e11] at hres
      have hres := bv_e hres
      rw [e11] at hok
      have hok := bv_o hok
      refine lv_goto (tgt := 93) hx hb dX6_stepOnce_79 (by decide) ?_
      exact k_X6_stepOnce_93 hcs hrf hrl C M11 (M 6 0) _ _ _ hok hres h (lv_sub hl [1, 0] rfl)
    · have hres := it_n hres c10
      have hok := io_n hok c10
      refine (Classical.em ((M 4 0) = (3 : Int32))).elim (fun c13 => ?_) (fun c13 => ?_)
      · have hres := it_p hres c13
        have hok := io_p hok c13
        refine sw_in (k := (3 : Int32)) (tgt := 82) c13 hx hb dX6_stepOnce_43 (by decide) (by decide) rfl (by decide) ?_
        refine lv_aload_n hx hb dX6_stepOnce_82 rfl (lv_at hl 1 rfl) ?_
        obtain ⟨h15, hok⟩ := hok
        refine wh_cvv (As := []) (rest := []) hcs C h (c_X6_runStep M h15) yw_X6_runStep in_mX6_173 hl.1 rfl rfl (Nat.le_of_ble_eq_true rfl) ⟨Nat.le_trans (Nat.le_of_ble_eq_true rfl) hrf, Nat.le_trans (Nat.le_of_ble_eq_true rfl) hrl⟩ dX6_stepOnce_83 (fun M14 H locs e14 h => ?_)
        rw [e14] at hres
        have hres := bv_e hres
        rw [e14] at hok
        have hok := bv_o hok
        refine lv_goto (tgt := 93) hx hb dX6_stepOnce_86 (by decide) ?_
        exact k_X6_stepOnce_93 hcs hrf hrl C M14 (M 6 0) _ _ _ hok hres h (lv_sub hl [1, 0] rfl)
      · have hres := it_n hres c13
        have hok := io_n hok c13
        refine lv_tableOut (tgt := 89) hx hb dX6_stepOnce_43 (by have q := And.intro trivial trivial; have n1 := lv_neT c2 (a := 1) (by decide); have n2 := lv_neT c10 (a := 2) (by decide); have n3 := lv_neT c13 (a := 3) (by decide); omega) (by decide) ?_
        refine lv_aload_n hx hb dX6_stepOnce_89 rfl (lv_at hl 1 rfl) ?_
        obtain ⟨h17, hok⟩ := hok
        refine wh_cvv (As := []) (rest := []) hcs C h (c_X6_commitOne M h17) yw_X6_commitOne in_mX6_176 hl.1 rfl rfl (Nat.le_of_ble_eq_true rfl) ⟨Nat.le_trans (Nat.le_of_ble_eq_true rfl) hrf, Nat.le_trans (Nat.le_of_ble_eq_true rfl) hrl⟩ dX6_stepOnce_90 (fun M16 H locs e16 h => ?_)
        rw [e16] at hres
        have hres := bv_e hres
        rw [e16] at hok
        have hok := bv_o hok
        exact k_X6_stepOnce_93 hcs hrf hrl C M16 (M 6 0) _ _ _ hok hres h (lv_sub hl [1, 0] rfl)
set_option maxRecDepth 100000 in
set_option maxHeartbeats 4000000 in
theorem k_X6_stepOnce_0 {p : Program} {l : Launch} {e : Env} {s : State} {m : MethodId} {args : Array Value} {below : List Frame} {meth : Method} {c : Code} {D : va_G} {cI : ClassId} {ad : Nat → Nat} {A : Nat → Prop} {cells slots : Nat} {R : Room} (hcs : cells ≤ R.cells ∧ slots ≤ R.slots) (hrf : rmX6_stepOnce.frames ≤ R.frames) (hrl : rmX6_stepOnce.locals ≤ R.locals) {res : Mem × Int32} (C : CX p s m args meth c RX6 cX6_stepOnce 2 (some .boolean)) : ∀ (M : Mem) (H : Heap) (locs : List Loc) (ls : Array Slot), ok_X6_stepOnce M → f_X6_stepOnce M = res → WH D [(cI, .int)] (wR cI ad) A s H locs M → lv_has ls 2 [(0, .ref (ad 0))] → W p l e R s m args below meth c H locs cells slots (MQ below (PZ D [(cI, .int)] (wR cI ad) A res) args s cells slots A) (F0 m 0 ls []) := by
  have hx := C.1
  have hb := C.2.1
  have hown := C.2.2.2.2.1
  have hts := C.2.2.2.2.2.1
  intro M H locs ls hok hres h hl
  rw [ok_X6_stepOnce] at hok
  rw [f_X6_stepOnce] at hres
  refine lv_aload_n hx hb dX6_stepOnce_0 rfl (lv_at hl 0 rfl) ?_
  refine R_X6_phase_get (v := (M 4 0)) C h in_fX6_93 rfl dX6_stepOnce_1 ?_
  refine lv_iconst (v := (2 : Int32)) hx hb dX6_stepOnce_4 (by decide) ?_
  refine lv_icmp_ne (tgt := 34) hx hb dX6_stepOnce_5 (by decide) (fun c1 => ?_) (fun c1 => ?_)
  · have hres := it_n hres c1
    have hok := io_n hok c1
    exact k_X6_stepOnce_34 hcs hrf hrl C M _ _ _ hok hres h (lv_sub hl [0] rfl)
  · have hres := it_p hres c1
    have hok := io_p hok c1
    refine lv_aload_n hx hb dX6_stepOnce_8 rfl (lv_at hl 0 rfl) ?_
    refine R_X6_onAir_get (v := (M 10 0)) C h in_fX6_127 rfl dX6_stepOnce_9 ?_
    refine lv_if_ne (tgt := 34) hx hb dX6_stepOnce_12 (by decide) (fun c18 => ?_) (fun c18 => ?_)
    · have hres := it_n hres c18
      have hok := io_n hok c18
      exact k_X6_stepOnce_34 hcs hrf hrl C M _ _ _ hok hres h (lv_sub hl [0] rfl)
    · have hres := it_p hres c18
      have hok := io_p hok c18
      refine lv_aload_n hx hb dX6_stepOnce_15 rfl (lv_at hl 0 rfl) ?_
      refine R_X6_kept_get C h in_fX6_16 dX6_stepOnce_16 ?_
      refine lv_iconst (v := (4 : Int32)) hx hb dX6_stepOnce_19 (by decide) ?_
      refine R_kept_ld (v := ((M 20) 4)) C h (vp_l (by decide)) rfl dX6_stepOnce_20 ?_
      refine lv_aload_n hx hb dX6_stepOnce_21 rfl (lv_at hl 0 rfl) ?_
      refine R_X6_kept_get C h in_fX6_16 dX6_stepOnce_22 ?_
      refine lv_iconst (v := (3 : Int32)) hx hb dX6_stepOnce_25 (by decide) ?_
      refine R_kept_ld (v := ((M 20) 3)) C h (vp_l (by decide)) rfl dX6_stepOnce_26 ?_
      refine lv_icmp_ne (tgt := 34) hx hb dX6_stepOnce_27 (by decide) (fun c19 => ?_) (fun c19 => ?_)
      · have hres := it_n hres c19
        have hok := io_n hok c19
        exact k_X6_stepOnce_34 hcs hrf hrl C M _ _ _ hok hres h (lv_sub hl [0] rfl)
      · have hres := it_p hres c19
        have hok := io_p hok c19
        refine lv_aload_n hx hb dX6_stepOnce_30 rfl (lv_at hl 0 rfl) ?_
        obtain ⟨h21, hok⟩ := hok
        refine wh_cvv (As := []) (rest := []) hcs C h (c_X6_beginAttempt M h21) yw_X6_beginAttempt in_mX6_164 hl.1 rfl rfl (Nat.le_of_ble_eq_true rfl) ⟨Nat.le_trans (Nat.le_of_ble_eq_true rfl) hrf, Nat.le_trans (Nat.le_of_ble_eq_true rfl) hrl⟩ dX6_stepOnce_31 (fun M20 H locs e20 h => ?_)
        rw [e20] at hres
        have hres := bv_e hres
        rw [e20] at hok
        have hok := bv_o hok
        exact k_X6_stepOnce_34 hcs hrf hrl C M20 _ _ _ hok hres h (lv_sub hl [0] rfl)
theorem yw_X6_stepOnce {cI : ClassId} {ad : Nat → Nat} : YV (wR cI ad) (ad 0) yX6_stepOnce cX6_stepOnce 2 (some .boolean) rmX6_stepOnce 0 := ⟨fun M => ⟨0, 6, _, _, rfl, rfl, rfl⟩, in_cX6_stepOnce, in_nX6_stepOnce, in_vX6_stepOnce, in_iX6, by decide +kernel, rfl, rfl⟩
theorem c_X6_stepOnce {l : Launch} {D : va_G} {cI : ClassId} {ad : Nat → Nat} (M : Mem) (hok : ok_X6_stepOnce M) : KZ l D [(cI, .int)] (wR cI ad) yX6_stepOnce cX6_stepOnce 2 rmX6_stepOnce [.ref (ad 0)] M (f_X6_stepOnce M) := met_z (by decide) (Nat.le_of_ble_eq_true rfl) (fun p e s m below meth c A C h ls hl => k_X6_stepOnce_0 ⟨Nat.le_refl _, Nat.le_refl _⟩ (Nat.le_refl _) (Nat.le_refl _) C M _ _ ls hok rfl h hl)
abbrev rmX6_slot : Room := { frames := 5, cells := 0, slots := 0, locals := 117 }
def f_X6_slot_174 : Nat → Mem → Int32 → Int32 → Mem × Int32
  | 0, M, _, _ => (M, 0)
  | n + 1, M, x2, x3 => (if (16 : Int32) ≤ x3 then (M, x2) else (if (M 4 0) = 0 then (M, x2) else (bc (f_X6_stepOnce M) (fun M8 r8 => (if r8 = 0 then (f_X6_slot_174 n M8 x2 (x3 + (1 : Int32))) else (f_X6_slot_174 n M8 (x2 + (1 : Int32)) (x3 + (1 : Int32))))))))
def ok_X6_slot_174 : Nat → Mem → Int32 → Int32 → Prop
  | 0, _, _, _ => False
  | n + 1, M, x2, x3 => (if (16 : Int32) ≤ x3 then True else (if (M 4 0) = 0 then True else ok_X6_stepOnce M ∧ (bc (f_X6_stepOnce M) (fun M8 r8 => (if r8 = 0 then ok_X6_slot_174 n M8 x2 (x3 + (1 : Int32)) else ok_X6_slot_174 n M8 (x2 + (1 : Int32)) (x3 + (1 : Int32)))))))
def f_X6_slot_170 (M : Mem) : Mem × Int32 := (f_X6_slot_174 17 M (0 : Int32) (0 : Int32))
def ok_X6_slot_170 (M : Mem) : Prop := ok_X6_slot_174 17 M (0 : Int32) (0 : Int32)
def f_X6_slot_167 (M : Mem) (t0 : Int32) : Mem × Int32 := (f_X6_slot_170 (ms M 4 (fun _ => t0)))
def ok_X6_slot_167 (M : Mem) (t0 : Int32) : Prop := ok_X6_slot_170 (ms M 4 (fun _ => t0))
def f_X6_slot_126 (M : Mem) (t0 t1 : Int32) : Mem × Int32 := (if t0 ≤ t1 then (if ((M 20) 2) = 0 then (f_X6_slot_167 (ms (ms (ms M 2 (fun _ => ((M 2 0) - (60 : Int32)))) 9 (fun _ => (0 : Int32))) 10 (fun _ => (0 : Int32))) (2 : Int32)) else (f_X6_slot_167 (ms (ms (ms M 2 (fun _ => ((M 2 0) - (60 : Int32)))) 9 (fun _ => (0 : Int32))) 10 (fun _ => (0 : Int32))) (1 : Int32))) else (M, (-1 : Int32)))
def ok_X6_slot_126 (M : Mem) (t0 t1 : Int32) : Prop := (if t0 ≤ t1 then (if ((M 20) 2) = 0 then ok_X6_slot_167 (ms (ms (ms M 2 (fun _ => ((M 2 0) - (60 : Int32)))) 9 (fun _ => (0 : Int32))) 10 (fun _ => (0 : Int32))) (2 : Int32) else ok_X6_slot_167 (ms (ms (ms M 2 (fun _ => ((M 2 0) - (60 : Int32)))) 9 (fun _ => (0 : Int32))) 10 (fun _ => (0 : Int32))) (1 : Int32)) else True)
def f_X6_slot_65 (M : Mem) (t0 : Int32) : Mem × Int32 := (if (M 4 0) = 0 then (if (M 5 0) = (-1 : Int32) then (if ((60 : Int32) + ((M 23) ((M 20) 0).toNatClampNeg)) ≤ (2000 : Int32) then (f_X6_slot_126 (ms (ms M 2 (fun _ => t0)) 3 (fun _ => ((M 3 0) + (1 : Int32)))) ((60 : Int32) + ((M 23) ((M 20) 0).toNatClampNeg)) t0) else (f_X6_slot_126 (ms (ms M 2 (fun _ => t0)) 3 (fun _ => ((M 3 0) + (1 : Int32)))) (2000 : Int32) t0)) else ((ms (ms M 2 (fun _ => t0)) 3 (fun _ => ((M 3 0) + (1 : Int32)))), (-1 : Int32))) else (f_X6_slot_170 (ms (ms M 2 (fun _ => t0)) 3 (fun _ => ((M 3 0) + (1 : Int32))))))
def ok_X6_slot_65 (M : Mem) (t0 : Int32) : Prop := (if (M 4 0) = 0 then vp_in ((M 20) 0) 16 ∧ (if (M 5 0) = (-1 : Int32) then (if ((60 : Int32) + ((M 23) ((M 20) 0).toNatClampNeg)) ≤ (2000 : Int32) then ok_X6_slot_126 (ms (ms M 2 (fun _ => t0)) 3 (fun _ => ((M 3 0) + (1 : Int32)))) ((60 : Int32) + ((M 23) ((M 20) 0).toNatClampNeg)) t0 else ok_X6_slot_126 (ms (ms M 2 (fun _ => t0)) 3 (fun _ => ((M 3 0) + (1 : Int32)))) (2000 : Int32) t0) else True) else ok_X6_slot_170 (ms (ms M 2 (fun _ => t0)) 3 (fun _ => ((M 3 0) + (1 : Int32)))))
def f_X6_slot_28 (M : Mem) (x1 t0 : Int32) : Mem × Int32 := (if t0 = 0 then (if ((M 2 0) + x1) ≤ (2000 : Int32) then (f_X6_slot_65 (ms M 0 (fun _ => t0)) ((M 2 0) + x1)) else (f_X6_slot_65 (ms M 0 (fun _ => t0)) (2000 : Int32))) else ((ms M 0 (fun _ => t0)), (0 : Int32)))
def ok_X6_slot_28 (M : Mem) (x1 t0 : Int32) : Prop := (if t0 = 0 then (if ((M 2 0) + x1) ≤ (2000 : Int32) then ok_X6_slot_65 (ms M 0 (fun _ => t0)) ((M 2 0) + x1) else ok_X6_slot_65 (ms M 0 (fun _ => t0)) (2000 : Int32)) else True)
def f_X6_slot_23 (M : Mem) (x1 : Int32) : Mem × Int32 := (f_X6_slot_28 M x1 (2 : Int32))
def ok_X6_slot_23 (M : Mem) (x1 : Int32) : Prop := ok_X6_slot_28 M x1 (2 : Int32)
def f_X6_slot (M : Mem) (a1 : Int32) : Mem × Int32 := (if (M 1 0) = 0 then (f_X6_slot_28 M a1 (1 : Int32)) else (if a1 < 0 then (f_X6_slot_23 M a1) else (if a1 ≤ (500 : Int32) then (f_X6_slot_28 M a1 (0 : Int32)) else (f_X6_slot_23 M a1))))
def ok_X6_slot (M : Mem) (a1 : Int32) : Prop := (if (M 1 0) = 0 then ok_X6_slot_28 M a1 (1 : Int32) else (if a1 < 0 then ok_X6_slot_23 M a1 else (if a1 ≤ (500 : Int32) then ok_X6_slot_28 M a1 (0 : Int32) else ok_X6_slot_23 M a1)))
set_option maxRecDepth 100000 in
set_option maxHeartbeats 4000000 in
theorem k_X6_slot_174 {p : Program} {l : Launch} {e : Env} {s : State} {m : MethodId} {args : Array Value} {below : List Frame} {meth : Method} {c : Code} {D : va_G} {cI : ClassId} {ad : Nat → Nat} {A : Nat → Prop} {cells slots : Nat} {R : Room} (hcs : cells ≤ R.cells ∧ slots ≤ R.slots) (hrf : rmX6_slot.frames ≤ R.frames) (hrl : rmX6_slot.locals ≤ R.locals) {res : Mem × Int32} (C : CX p s m args meth c RX6 cX6_slot 4 (some .int)) : ∀ (n : Nat) (M : Mem) (x2 x3 : Int32) (H : Heap) (locs : List Loc) (ls : Array Slot), ok_X6_slot_174 n M x2 x3 → f_X6_slot_174 n M x2 x3 = res → WH D [(cI, .int)] (wR cI ad) A s H locs M → lv_has ls 4 [(0, .ref (ad 0)), (2, .int x2), (3, .int x3)] → W p l e R s m args below meth c H locs cells slots (MQ below (PI D [(cI, .int)] (wR cI ad) A res) args s cells slots A) (F0 m 174 ls []) := by
  have hx := C.1
  have hb := C.2.1
  have hown := C.2.2.2.2.1
  have hts := C.2.2.2.2.2.1
  intro n
  induction n with
  | zero =>
    intro M x2 x3 H locs ls hok
    exact absurd hok (by intro z; exact z)
  | succ n ih =>
    intro M x2 x3 H locs ls hok hres h hl
    rw [ok_X6_slot_174] at hok
    rw [f_X6_slot_174] at hres
    refine lv_iload_n hx hb dX6_slot_174 rfl (lv_at hl 2 rfl) ?_
    refine lv_bipush (v := (16 : Int32)) hx hb dX6_slot_175 (by decide) ?_
    refine lv_icmp_ge (tgt := 203) hx hb dX6_slot_177 (by decide) (fun c6 => ?_) (fun c6 => ?_)
    · have hres := it_p hres c6
      refine lv_iload_n hx hb dX6_slot_203 rfl (lv_at hl 1 rfl) ?_
      exact wh_iret C h hres dX6_slot_204
    · have hres := it_n hres c6
      have hok := io_n hok c6
      refine lv_aload_n hx hb dX6_slot_180 rfl (lv_at hl 0 rfl) ?_
      refine R_X6_phase_get (v := (M 4 0)) C h in_fX6_93 rfl dX6_slot_181 ?_
      refine lv_if_eq (tgt := 203) hx hb dX6_slot_184 (by decide) (fun c7 => ?_) (fun c7 => ?_)
      · have hres := it_p hres c7
        refine lv_iload_n hx hb dX6_slot_203 rfl (lv_at hl 1 rfl) ?_
        exact wh_iret C h hres dX6_slot_204
      · have hres := it_n hres c7
        have hok := io_n hok c7
        refine lv_aload_n hx hb dX6_slot_187 rfl (lv_at hl 0 rfl) ?_
        obtain ⟨h10, hok⟩ := hok
        refine wh_cvz (As := []) (rest := []) hcs C h (c_X6_stepOnce M h10) yw_X6_stepOnce in_mX6_182 hl.1 rfl rfl (Nat.le_of_ble_eq_true rfl) ⟨Nat.le_trans (Nat.le_of_ble_eq_true rfl) hrf, Nat.le_trans (Nat.le_of_ble_eq_true rfl) hrl⟩ dX6_slot_188 (fun M8 r8 H locs e8 z8 h => ?_)
        rw [e8] at hres
        have hres := bc_e hres
        rw [e8] at hok
        have hok := bc_o hok
        refine lv_if_eq (tgt := 197) hx hb dX6_slot_191 (by decide) (fun c9 => ?_) (fun c9 => ?_)
        · have hres := it_p hres c9
          have hok := io_p hok c9
          refine lv_iinc (v := (x3 + (1 : Int32))) (lv' := [(3, .int (x3 + (1 : Int32))), (0, .ref (ad 0)), (2, .int x2)]) hx hb dX6_slot_197 hl (k := 2) rfl rfl (by decide) rfl (fun ls hl => ?_)
          refine lv_goto (tgt := 174) hx hb dX6_slot_200 (by decide) ?_
          exact ih M8 x2 (x3 + (1 : Int32)) _ _ _ hok hres h (lv_sub hl [1, 2, 0] rfl)
        · have hres := it_n hres c9
          have hok := io_n hok c9
          refine lv_iinc (v := (x2 + (1 : Int32))) (lv' := [(2, .int (x2 + (1 : Int32))), (0, .ref (ad 0)), (3, .int x3)]) hx hb dX6_slot_194 hl (k := 1) rfl rfl (by decide) rfl (fun ls hl => ?_)
          refine lv_iinc (v := (x3 + (1 : Int32))) (lv' := [(3, .int (x3 + (1 : Int32))), (2, .int (x2 + (1 : Int32))), (0, .ref (ad 0))]) hx hb dX6_slot_197 hl (k := 2) rfl rfl (by decide) rfl (fun ls hl => ?_)
          refine lv_goto (tgt := 174) hx hb dX6_slot_200 (by decide) ?_
          exact ih M8 (x2 + (1 : Int32)) (x3 + (1 : Int32)) _ _ _ hok hres h (lv_sub hl [2, 1, 0] rfl)
set_option maxRecDepth 100000 in
set_option maxHeartbeats 4000000 in
theorem k_X6_slot_170 {p : Program} {l : Launch} {e : Env} {s : State} {m : MethodId} {args : Array Value} {below : List Frame} {meth : Method} {c : Code} {D : va_G} {cI : ClassId} {ad : Nat → Nat} {A : Nat → Prop} {cells slots : Nat} {R : Room} (hcs : cells ≤ R.cells ∧ slots ≤ R.slots) (hrf : rmX6_slot.frames ≤ R.frames) (hrl : rmX6_slot.locals ≤ R.locals) {res : Mem × Int32} (C : CX p s m args meth c RX6 cX6_slot 4 (some .int)) : ∀ (M : Mem) (H : Heap) (locs : List Loc) (ls : Array Slot), ok_X6_slot_170 M → f_X6_slot_170 M = res → WH D [(cI, .int)] (wR cI ad) A s H locs M → lv_has ls 4 [(0, .ref (ad 0))] → W p l e R s m args below meth c H locs cells slots (MQ below (PI D [(cI, .int)] (wR cI ad) A res) args s cells slots A) (F0 m 170 ls []) := by
  have hx := C.1
  have hb := C.2.1
  have hown := C.2.2.2.2.1
  have hts := C.2.2.2.2.2.1
  intro M H locs ls hok hres h hl
  rw [ok_X6_slot_170] at hok
  rw [f_X6_slot_170] at hres
  refine lv_iconst (v := (0 : Int32)) hx hb dX6_slot_170 (by decide) ?_
  refine lv_istore_n (lv' := [(2, .int (0 : Int32)), (0, .ref (ad 0))]) hx hb dX6_slot_171 rfl hl (by decide) rfl (fun ls hl => ?_)
  refine lv_iconst (v := (0 : Int32)) hx hb dX6_slot_172 (by decide) ?_
  refine lv_istore_n (lv' := [(3, .int (0 : Int32)), (2, .int (0 : Int32)), (0, .ref (ad 0))]) hx hb dX6_slot_173 rfl hl (by decide) rfl (fun ls hl => ?_)
  exact k_X6_slot_174 hcs hrf hrl C 17 M (0 : Int32) (0 : Int32) _ _ _ hok hres h (lv_sub hl [2, 1, 0] rfl)
set_option maxRecDepth 100000 in
set_option maxHeartbeats 4000000 in
theorem k_X6_slot_167 {p : Program} {l : Launch} {e : Env} {s : State} {m : MethodId} {args : Array Value} {below : List Frame} {meth : Method} {c : Code} {D : va_G} {cI : ClassId} {ad : Nat → Nat} {A : Nat → Prop} {cells slots : Nat} {R : Room} (hcs : cells ≤ R.cells ∧ slots ≤ R.slots) (hrf : rmX6_slot.frames ≤ R.frames) (hrl : rmX6_slot.locals ≤ R.locals) {res : Mem × Int32} (C : CX p s m args meth c RX6 cX6_slot 4 (some .int)) : ∀ (M : Mem) (t0 : Int32) (H : Heap) (locs : List Loc) (ls : Array Slot), ok_X6_slot_167 M t0 → f_X6_slot_167 M t0 = res → WH D [(cI, .int)] (wR cI ad) A s H locs M → lv_has ls 4 [(0, .ref (ad 0))] → W p l e R s m args below meth c H locs cells slots (MQ below (PI D [(cI, .int)] (wR cI ad) A res) args s cells slots A) (F0 m 167 ls [.int t0, .ref (ad 0)]) := by
  have hx := C.1
  have hb := C.2.1
  have hown := C.2.2.2.2.1
  have hts := C.2.2.2.2.2.1
  intro M t0 H locs ls hok hres h hl
  rw [ok_X6_slot_167] at hok
  rw [f_X6_slot_167] at hres
  refine R_X6_phase_put (v := t0) (M2 := (ms M 4 (fun _ => t0))) C h in_fX6_93 rfl dX6_slot_167 (fun H locs h => ?_)
  exact k_X6_slot_170 hcs hrf hrl C (ms M 4 (fun _ => t0)) _ _ _ hok hres h (lv_sub hl [0] rfl)
set_option maxRecDepth 100000 in
set_option maxHeartbeats 4000000 in
theorem k_X6_slot_126 {p : Program} {l : Launch} {e : Env} {s : State} {m : MethodId} {args : Array Value} {below : List Frame} {meth : Method} {c : Code} {D : va_G} {cI : ClassId} {ad : Nat → Nat} {A : Nat → Prop} {cells slots : Nat} {R : Room} (hcs : cells ≤ R.cells ∧ slots ≤ R.slots) (hrf : rmX6_slot.frames ≤ R.frames) (hrl : rmX6_slot.locals ≤ R.locals) {res : Mem × Int32} (C : CX p s m args meth c RX6 cX6_slot 4 (some .int)) : ∀ (M : Mem) (t0 t1 : Int32) (H : Heap) (locs : List Loc) (ls : Array Slot), ok_X6_slot_126 M t0 t1 → f_X6_slot_126 M t0 t1 = res → WH D [(cI, .int)] (wR cI ad) A s H locs M → lv_has ls 4 [(0, .ref (ad 0))] → W p l e R s m args below meth c H locs cells slots (MQ below (PI D [(cI, .int)] (wR cI ad) A res) args s cells slots A) (F0 m 126 ls [.int t0, .int t1]) := by
  have hx := C.1
  have hb := C.2.1
  have hown := C.2.2.2.2.1
  have hts := C.2.2.2.2.2.1
  intro M t0 t1 H locs ls hok hres h hl
  rw [ok_X6_slot_126] at hok
  rw [f_X6_slot_126] at hres
  refine lv_icmp_ge (tgt := 131) hx hb dX6_slot_126 (by decide) (fun c13 => ?_) (fun c13 => ?_)
  · have hres := it_p hres c13
    have hok := io_p hok c13
    refine lv_aload_n hx hb dX6_slot_131 rfl (lv_at hl 0 rfl) ?_
    refine lv_dup hx hb dX6_slot_132 rfl ?_
    refine R_X6_energy_get (v := (M 2 0)) C h in_fX6_111 rfl dX6_slot_133 ?_
    refine lv_bipush (v := (60 : Int32)) hx hb dX6_slot_136 (by decide) ?_
    refine lv_isub hx hb dX6_slot_138 ?_
    refine R_X6_energy_put (v := ((M 2 0) - (60 : Int32))) (M2 := (ms M 2 (fun _ => ((M 2 0) - (60 : Int32))))) C h in_fX6_111 rfl dX6_slot_139 (fun H locs h => ?_)
    refine lv_aload_n hx hb dX6_slot_142 rfl (lv_at hl 0 rfl) ?_
    refine lv_iconst (v := (0 : Int32)) hx hb dX6_slot_143 (by decide) ?_
    refine R_X6_applied_put (v := (0 : Int32)) (M2 := (ms (ms M 2 (fun _ => ((M 2 0) - (60 : Int32)))) 9 (fun _ => (0 : Int32)))) C h in_fX6_120 rfl dX6_slot_144 (fun H locs h => ?_)
    refine lv_aload_n hx hb dX6_slot_147 rfl (lv_at hl 0 rfl) ?_
    refine lv_iconst (v := (0 : Int32)) hx hb dX6_slot_148 (by decide) ?_
    refine R_X6_onAir_put (v := (0 : Int32)) (M2 := (ms (ms (ms M 2 (fun _ => ((M 2 0) - (60 : Int32)))) 9 (fun _ => (0 : Int32))) 10 (fun _ => (0 : Int32)))) C h in_fX6_127 nb_0 rfl dX6_slot_149 (fun H locs h => ?_)
    refine lv_aload_n hx hb dX6_slot_152 rfl (lv_at hl 0 rfl) ?_
    refine lv_aload_n hx hb dX6_slot_153 rfl (lv_at hl 0 rfl) ?_
    refine R_X6_kept_get C h in_fX6_16 dX6_slot_154 ?_
    refine lv_iconst (v := (2 : Int32)) hx hb dX6_slot_157 (by decide) ?_
    refine R_kept_ld (v := ((M 20) 2)) C h (vp_l (by decide)) rfl dX6_slot_158 ?_
    refine lv_if_eq (tgt := 166) hx hb dX6_slot_159 (by decide) (fun c14 => ?_) (fun c14 => ?_)
    · have hres := it_p hres c14
      have hok := io_p hok c14
      refine lv_iconst (v := (2 : Int32)) hx hb dX6_slot_166 (by decide) ?_
      exact k_X6_slot_167 hcs hrf hrl C (ms (ms (ms M 2 (fun _ => ((M 2 0) - (60 : Int32)))) 9 (fun _ => (0 : Int32))) 10 (fun _ => (0 : Int32))) (2 : Int32) _ _ _ hok hres h (lv_sub hl [0] rfl)
    · have hres := it_n hres c14
      have hok := io_n hok c14
      refine lv_iconst (v := (1 : Int32)) hx hb dX6_slot_162 (by decide) ?_
      refine lv_goto (tgt := 167) hx hb dX6_slot_163 (by decide) ?_
      exact k_X6_slot_167 hcs hrf hrl C (ms (ms (ms M 2 (fun _ => ((M 2 0) - (60 : Int32)))) 9 (fun _ => (0 : Int32))) 10 (fun _ => (0 : Int32))) (1 : Int32) _ _ _ hok hres h (lv_sub hl [0] rfl)
  · have hres := it_n hres c13
    refine lv_iconst (v := (-1 : Int32)) hx hb dX6_slot_129 (by decide) ?_
    exact wh_iret C h hres dX6_slot_130
set_option maxRecDepth 100000 in
set_option maxHeartbeats 4000000 in
theorem k_X6_slot_65 {p : Program} {l : Launch} {e : Env} {s : State} {m : MethodId} {args : Array Value} {below : List Frame} {meth : Method} {c : Code} {D : va_G} {cI : ClassId} {ad : Nat → Nat} {A : Nat → Prop} {cells slots : Nat} {R : Room} (hcs : cells ≤ R.cells ∧ slots ≤ R.slots) (hrf : rmX6_slot.frames ≤ R.frames) (hrl : rmX6_slot.locals ≤ R.locals) {res : Mem × Int32} (C : CX p s m args meth c RX6 cX6_slot 4 (some .int)) : ∀ (M : Mem) (t0 : Int32) (H : Heap) (locs : List Loc) (ls : Array Slot), ok_X6_slot_65 M t0 → f_X6_slot_65 M t0 = res → WH D [(cI, .int)] (wR cI ad) A s H locs M → lv_has ls 4 [(0, .ref (ad 0))] → W p l e R s m args below meth c H locs cells slots (MQ below (PI D [(cI, .int)] (wR cI ad) A res) args s cells slots A) (F0 m 65 ls [.int t0, .ref (ad 0)]) := by
  have hx := C.1
  have hb := C.2.1
  have hown := C.2.2.2.2.1
  have hts := C.2.2.2.2.2.1
  intro M t0 H locs ls hok hres h hl
  rw [ok_X6_slot_65] at hok
  rw [f_X6_slot_65] at hres
  refine R_X6_energy_put (v := t0) (M2 := (ms M 2 (fun _ => t0))) C h in_fX6_111 rfl dX6_slot_65 (fun H locs h => ?_)
  refine lv_aload_n hx hb dX6_slot_68 rfl (lv_at hl 0 rfl) ?_
  refine lv_dup hx hb dX6_slot_69 rfl ?_
  refine R_X6_slots_get (v := (M 3 0)) C h in_fX6_155 rfl dX6_slot_70 ?_
  refine lv_iconst (v := (1 : Int32)) hx hb dX6_slot_73 (by decide) ?_
  refine lv_iadd hx hb dX6_slot_74 ?_
  refine R_X6_slots_put (v := ((M 3 0) + (1 : Int32))) (M2 := (ms (ms M 2 (fun _ => t0)) 3 (fun _ => ((M 3 0) + (1 : Int32))))) C h in_fX6_155 rfl dX6_slot_75 (fun H locs h => ?_)
  refine lv_aload_n hx hb dX6_slot_78 rfl (lv_at hl 0 rfl) ?_
  refine R_X6_phase_get (v := (M 4 0)) C h in_fX6_93 rfl dX6_slot_79 ?_
  refine lv_if_ne (tgt := 170) hx hb dX6_slot_82 (by decide) (fun c5 => ?_) (fun c5 => ?_)
  · have hres := it_n hres c5
    have hok := io_n hok c5
    exact k_X6_slot_170 hcs hrf hrl C (ms (ms M 2 (fun _ => t0)) 3 (fun _ => ((M 3 0) + (1 : Int32)))) _ _ _ hok hres h (lv_sub hl [0] rfl)
  · have hres := it_p hres c5
    have hok := io_p hok c5
    refine lv_bipush (v := (60 : Int32)) hx hb dX6_slot_85 (by decide) ?_
    refine lv_aload_n hx hb dX6_slot_87 rfl (lv_at hl 0 rfl) ?_
    refine R_X6_estimate_get C h in_fX6_25 dX6_slot_88 ?_
    refine lv_aload_n hx hb dX6_slot_91 rfl (lv_at hl 0 rfl) ?_
    refine R_X6_kept_get C h in_fX6_16 dX6_slot_92 ?_
    refine lv_iconst (v := (0 : Int32)) hx hb dX6_slot_95 (by decide) ?_
    refine R_kept_ld (v := ((M 20) 0)) C h (vp_l (by decide)) rfl dX6_slot_96 ?_
    obtain ⟨h15, hok⟩ := hok
    refine R_estimate_ld (v := ((M 23) ((M 20) 0).toNatClampNeg)) C h h15 rfl dX6_slot_97 ?_
    refine lv_iadd hx hb dX6_slot_98 ?_
    refine lv_istore_n (lv' := [(2, .int ((60 : Int32) + ((M 23) ((M 20) 0).toNatClampNeg))), (0, .ref (ad 0))]) hx hb dX6_slot_99 rfl hl (by decide) rfl (fun ls hl => ?_)
    refine lv_aload_n hx hb dX6_slot_100 rfl (lv_at hl 1 rfl) ?_
    refine R_X6_givenUp_get (v := (M 5 0)) C h in_fX6_31 rfl dX6_slot_101 ?_
    refine lv_iconst (v := (-1 : Int32)) hx hb dX6_slot_104 (by decide) ?_
    refine lv_icmp_ne (tgt := 129) hx hb dX6_slot_105 (by decide) (fun c11 => ?_) (fun c11 => ?_)
    · have hres := it_n hres c11
      refine lv_iconst (v := (-1 : Int32)) hx hb dX6_slot_129 (by decide) ?_
      exact wh_iret C h hres dX6_slot_130
    · have hres := it_p hres c11
      have hok := io_p hok c11
      refine lv_aload_n hx hb dX6_slot_108 rfl (lv_at hl 1 rfl) ?_
      refine R_X6_energy_get (v := t0) C h in_fX6_111 rfl dX6_slot_109 ?_
      refine lv_iload_n hx hb dX6_slot_112 rfl (lv_at hl 0 rfl) ?_
      refine lv_sipush (v := (2000 : Int32)) hx hb dX6_slot_113 (by decide) ?_
      refine lv_icmp_le (tgt := 125) hx hb dX6_slot_116 (by decide) (fun c12 => ?_) (fun c12 => ?_)
      · have hres := it_p hres c12
        have hok := io_p hok c12
        refine lv_iload_n hx hb dX6_slot_125 rfl (lv_at hl 0 rfl) ?_
        exact k_X6_slot_126 hcs hrf hrl C (ms (ms M 2 (fun _ => t0)) 3 (fun _ => ((M 3 0) + (1 : Int32)))) ((60 : Int32) + ((M 23) ((M 20) 0).toNatClampNeg)) t0 _ _ _ hok hres h (lv_sub hl [1] rfl)
      · have hres := it_n hres c12
        have hok := io_n hok c12
        refine lv_sipush (v := (2000 : Int32)) hx hb dX6_slot_119 (by decide) ?_
        refine lv_goto (tgt := 126) hx hb dX6_slot_122 (by decide) ?_
        exact k_X6_slot_126 hcs hrf hrl C (ms (ms M 2 (fun _ => t0)) 3 (fun _ => ((M 3 0) + (1 : Int32)))) (2000 : Int32) t0 _ _ _ hok hres h (lv_sub hl [1] rfl)
set_option maxRecDepth 100000 in
set_option maxHeartbeats 4000000 in
theorem k_X6_slot_28 {p : Program} {l : Launch} {e : Env} {s : State} {m : MethodId} {args : Array Value} {below : List Frame} {meth : Method} {c : Code} {D : va_G} {cI : ClassId} {ad : Nat → Nat} {A : Nat → Prop} {cells slots : Nat} {R : Room} (hcs : cells ≤ R.cells ∧ slots ≤ R.slots) (hrf : rmX6_slot.frames ≤ R.frames) (hrl : rmX6_slot.locals ≤ R.locals) {res : Mem × Int32} (C : CX p s m args meth c RX6 cX6_slot 4 (some .int)) : ∀ (M : Mem) (x1 t0 : Int32) (H : Heap) (locs : List Loc) (ls : Array Slot), ok_X6_slot_28 M x1 t0 → f_X6_slot_28 M x1 t0 = res → WH D [(cI, .int)] (wR cI ad) A s H locs M → lv_has ls 4 [(0, .ref (ad 0)), (1, .int x1)] → W p l e R s m args below meth c H locs cells slots (MQ below (PI D [(cI, .int)] (wR cI ad) A res) args s cells slots A) (F0 m 28 ls [.int t0, .ref (ad 0)]) := by
  have hx := C.1
  have hb := C.2.1
  have hown := C.2.2.2.2.1
  have hts := C.2.2.2.2.2.1
  intro M x1 t0 H locs ls hok hres h hl
  rw [ok_X6_slot_28] at hok
  rw [f_X6_slot_28] at hres
  refine R_X6_thrown_put (v := t0) (M2 := (ms M 0 (fun _ => t0))) C h in_fX6_56 rfl dX6_slot_28 (fun H locs h => ?_)
  refine lv_aload_n hx hb dX6_slot_31 rfl (lv_at hl 0 rfl) ?_
  refine R_X6_thrown_get (v := t0) C h in_fX6_56 rfl dX6_slot_32 ?_
  refine lv_if_eq (tgt := 40) hx hb dX6_slot_35 (by decide) (fun c3 => ?_) (fun c3 => ?_)
  · have hres := it_p hres c3
    have hok := io_p hok c3
    refine lv_aload_n hx hb dX6_slot_40 rfl (lv_at hl 0 rfl) ?_
    refine lv_aload_n hx hb dX6_slot_41 rfl (lv_at hl 0 rfl) ?_
    refine R_X6_energy_get (v := (M 2 0)) C h in_fX6_111 rfl dX6_slot_42 ?_
    refine lv_iload_n hx hb dX6_slot_45 rfl (lv_at hl 1 rfl) ?_
    refine lv_iadd hx hb dX6_slot_46 ?_
    refine lv_sipush (v := (2000 : Int32)) hx hb dX6_slot_47 (by decide) ?_
    refine lv_icmp_le (tgt := 59) hx hb dX6_slot_50 (by decide) (fun c4 => ?_) (fun c4 => ?_)
    · have hres := it_p hres c4
      have hok := io_p hok c4
      refine lv_aload_n hx hb dX6_slot_59 rfl (lv_at hl 0 rfl) ?_
      refine R_X6_energy_get (v := (M 2 0)) C h in_fX6_111 rfl dX6_slot_60 ?_
      refine lv_iload_n hx hb dX6_slot_63 rfl (lv_at hl 1 rfl) ?_
      refine lv_iadd hx hb dX6_slot_64 ?_
      exact k_X6_slot_65 hcs hrf hrl C (ms M 0 (fun _ => t0)) ((M 2 0) + x1) _ _ _ hok hres h (lv_sub hl [0] rfl)
    · have hres := it_n hres c4
      have hok := io_n hok c4
      refine lv_sipush (v := (2000 : Int32)) hx hb dX6_slot_53 (by decide) ?_
      refine lv_goto (tgt := 65) hx hb dX6_slot_56 (by decide) ?_
      exact k_X6_slot_65 hcs hrf hrl C (ms M 0 (fun _ => t0)) (2000 : Int32) _ _ _ hok hres h (lv_sub hl [0] rfl)
  · have hres := it_n hres c3
    refine lv_iconst (v := (0 : Int32)) hx hb dX6_slot_38 (by decide) ?_
    exact wh_iret C h hres dX6_slot_39
set_option maxRecDepth 100000 in
set_option maxHeartbeats 4000000 in
theorem k_X6_slot_23 {p : Program} {l : Launch} {e : Env} {s : State} {m : MethodId} {args : Array Value} {below : List Frame} {meth : Method} {c : Code} {D : va_G} {cI : ClassId} {ad : Nat → Nat} {A : Nat → Prop} {cells slots : Nat} {R : Room} (hcs : cells ≤ R.cells ∧ slots ≤ R.slots) (hrf : rmX6_slot.frames ≤ R.frames) (hrl : rmX6_slot.locals ≤ R.locals) {res : Mem × Int32} (C : CX p s m args meth c RX6 cX6_slot 4 (some .int)) : ∀ (M : Mem) (x1 : Int32) (H : Heap) (locs : List Loc) (ls : Array Slot), ok_X6_slot_23 M x1 → f_X6_slot_23 M x1 = res → WH D [(cI, .int)] (wR cI ad) A s H locs M → lv_has ls 4 [(0, .ref (ad 0)), (1, .int x1)] → W p l e R s m args below meth c H locs cells slots (MQ below (PI D [(cI, .int)] (wR cI ad) A res) args s cells slots A) (F0 m 23 ls [.ref (ad 0)]) := by
  have hx := C.1
  have hb := C.2.1
  have hown := C.2.2.2.2.1
  have hts := C.2.2.2.2.2.1
  intro M x1 H locs ls hok hres h hl
  rw [ok_X6_slot_23] at hok
  rw [f_X6_slot_23] at hres
  refine lv_iconst (v := (2 : Int32)) hx hb dX6_slot_23 (by decide) ?_
  refine lv_goto (tgt := 28) hx hb dX6_slot_24 (by decide) ?_
  exact k_X6_slot_28 hcs hrf hrl C M x1 (2 : Int32) _ _ _ hok hres h (lv_sub hl [0, 1] rfl)
set_option maxRecDepth 100000 in
set_option maxHeartbeats 4000000 in
theorem k_X6_slot_0 {p : Program} {l : Launch} {e : Env} {s : State} {m : MethodId} {args : Array Value} {below : List Frame} {meth : Method} {c : Code} {D : va_G} {cI : ClassId} {ad : Nat → Nat} {A : Nat → Prop} {cells slots : Nat} {R : Room} (hcs : cells ≤ R.cells ∧ slots ≤ R.slots) (hrf : rmX6_slot.frames ≤ R.frames) (hrl : rmX6_slot.locals ≤ R.locals) {res : Mem × Int32} (C : CX p s m args meth c RX6 cX6_slot 4 (some .int)) : ∀ (M : Mem) (a1 : Int32) (H : Heap) (locs : List Loc) (ls : Array Slot), ok_X6_slot M a1 → f_X6_slot M a1 = res → WH D [(cI, .int)] (wR cI ad) A s H locs M → lv_has ls 4 [(0, .ref (ad 0)), (1, .int a1)] → W p l e R s m args below meth c H locs cells slots (MQ below (PI D [(cI, .int)] (wR cI ad) A res) args s cells slots A) (F0 m 0 ls []) := by
  have hx := C.1
  have hb := C.2.1
  have hown := C.2.2.2.2.1
  have hts := C.2.2.2.2.2.1
  intro M a1 H locs ls hok hres h hl
  rw [ok_X6_slot] at hok
  rw [f_X6_slot] at hres
  refine lv_aload_n hx hb dX6_slot_0 rfl (lv_at hl 0 rfl) ?_
  refine lv_aload_n hx hb dX6_slot_1 rfl (lv_at hl 0 rfl) ?_
  refine R_X6_sealed_get (v := (M 1 0)) C h in_fX6_59 rfl dX6_slot_2 ?_
  refine lv_if_ne (tgt := 12) hx hb dX6_slot_5 (by decide) (fun c1 => ?_) (fun c1 => ?_)
  · have hres := it_n hres c1
    have hok := io_n hok c1
    refine lv_iload_n hx hb dX6_slot_12 rfl (lv_at hl 1 rfl) ?_
    refine lv_if_lt (tgt := 23) hx hb dX6_slot_13 (by decide) (fun c2 => ?_) (fun c2 => ?_)
    · have hres := it_p hres c2
      have hok := io_p hok c2
      exact k_X6_slot_23 hcs hrf hrl C M a1 _ _ _ hok hres h (lv_sub hl [0, 1] rfl)
    · have hres := it_n hres c2
      have hok := io_n hok c2
      refine lv_iload_n hx hb dX6_slot_16 rfl (lv_at hl 1 rfl) ?_
      refine lv_sipush (v := (500 : Int32)) hx hb dX6_slot_17 (by decide) ?_
      refine lv_icmp_le (tgt := 27) hx hb dX6_slot_20 (by decide) (fun c16 => ?_) (fun c16 => ?_)
      · have hres := it_p hres c16
        have hok := io_p hok c16
        refine lv_iconst (v := (0 : Int32)) hx hb dX6_slot_27 (by decide) ?_
        exact k_X6_slot_28 hcs hrf hrl C M a1 (0 : Int32) _ _ _ hok hres h (lv_sub hl [0, 1] rfl)
      · have hres := it_n hres c16
        have hok := io_n hok c16
        exact k_X6_slot_23 hcs hrf hrl C M a1 _ _ _ hok hres h (lv_sub hl [0, 1] rfl)
  · have hres := it_p hres c1
    have hok := io_p hok c1
    refine lv_iconst (v := (1 : Int32)) hx hb dX6_slot_8 (by decide) ?_
    refine lv_goto (tgt := 28) hx hb dX6_slot_9 (by decide) ?_
    exact k_X6_slot_28 hcs hrf hrl C M a1 (1 : Int32) _ _ _ hok hres h (lv_sub hl [0, 1] rfl)
theorem yw_X6_slot {cI : ClassId} {ad : Nat → Nat} : YV (wR cI ad) (ad 0) yX6_slot cX6_slot 4 (some .int) rmX6_slot 1 := ⟨fun M => ⟨0, 6, _, _, rfl, rfl, rfl⟩, in_cX6_slot, in_nX6_slot, in_vX6_slot, in_iX6, by decide +kernel, rfl, rfl⟩
theorem c_X6_slot {l : Launch} {D : va_G} {cI : ClassId} {ad : Nat → Nat} (M : Mem) (a1 : Int32) (hok : ok_X6_slot M a1) : KI l D [(cI, .int)] (wR cI ad) yX6_slot cX6_slot 4 rmX6_slot [.ref (ad 0), .int a1] M (f_X6_slot M a1) := met_i (by decide) (Nat.le_of_ble_eq_true rfl) (fun p e s m below meth c A C h ls hl => k_X6_slot_0 ⟨Nat.le_refl _, Nat.le_refl _⟩ (Nat.le_refl _) (Nat.le_refl _) C M a1 _ _ ls hok rfl h hl)
