abbrev rmX6_push : Room := { frames := 2, cells := 0, slots := 0, locals := 45 }
def f_X6_push (M : Mem) (a1 a2 : Int32) : Mem := (if (f_X6_see M (((56 : Int32) + ((6 : Int32) * a1)) + (1 : Int32))) = (4 : Int32) then (ms M 25 (upd (M 25) 7 (0 : Int32))) else (if (f_X6_hasRoom (ms M 25 (upd (M 25) 7 (0 : Int32))) ((((56 : Int32) + ((6 : Int32) * a1)) + (2 : Int32)) + (((f_X6_see M ((56 : Int32) + ((6 : Int32) * a1))) + (f_X6_see M (((56 : Int32) + ((6 : Int32) * a1)) + (1 : Int32)))) - ((f_X6_see M ((56 : Int32) + ((6 : Int32) * a1))) + (f_X6_see M (((56 : Int32) + ((6 : Int32) * a1)) + (1 : Int32)))) / (4 : Int32) * (4 : Int32))) (((56 : Int32) + ((6 : Int32) * a1)) + (1 : Int32))) = 0 then (ms M 25 (upd (M 25) 7 (0 : Int32))) else (bv (f_X6_put (ms M 25 (upd (M 25) 7 (0 : Int32))) ((((56 : Int32) + ((6 : Int32) * a1)) + (2 : Int32)) + (((f_X6_see M ((56 : Int32) + ((6 : Int32) * a1))) + (f_X6_see M (((56 : Int32) + ((6 : Int32) * a1)) + (1 : Int32)))) - ((f_X6_see M ((56 : Int32) + ((6 : Int32) * a1))) + (f_X6_see M (((56 : Int32) + ((6 : Int32) * a1)) + (1 : Int32)))) / (4 : Int32) * (4 : Int32))) a2) (fun M6 => (bv (f_X6_put M6 (((56 : Int32) + ((6 : Int32) * a1)) + (1 : Int32)) ((f_X6_see M (((56 : Int32) + ((6 : Int32) * a1)) + (1 : Int32))) + (1 : Int32))) (fun M7 => (ms M7 25 (upd (M7 25) 7 (1 : Int32)))))))))
def ok_X6_push (M : Mem) (a1 a2 : Int32) : Prop := ok_X6_see M (((56 : Int32) + ((6 : Int32) * a1)) + (1 : Int32)) ∧ ok_X6_see M ((56 : Int32) + ((6 : Int32) * a1)) ∧ (if (f_X6_see M (((56 : Int32) + ((6 : Int32) * a1)) + (1 : Int32))) = (4 : Int32) then True else ok_X6_hasRoom (ms M 25 (upd (M 25) 7 (0 : Int32))) ((((56 : Int32) + ((6 : Int32) * a1)) + (2 : Int32)) + (((f_X6_see M ((56 : Int32) + ((6 : Int32) * a1))) + (f_X6_see M (((56 : Int32) + ((6 : Int32) * a1)) + (1 : Int32)))) - ((f_X6_see M ((56 : Int32) + ((6 : Int32) * a1))) + (f_X6_see M (((56 : Int32) + ((6 : Int32) * a1)) + (1 : Int32)))) / (4 : Int32) * (4 : Int32))) (((56 : Int32) + ((6 : Int32) * a1)) + (1 : Int32)) ∧ (if (f_X6_hasRoom (ms M 25 (upd (M 25) 7 (0 : Int32))) ((((56 : Int32) + ((6 : Int32) * a1)) + (2 : Int32)) + (((f_X6_see M ((56 : Int32) + ((6 : Int32) * a1))) + (f_X6_see M (((56 : Int32) + ((6 : Int32) * a1)) + (1 : Int32)))) - ((f_X6_see M ((56 : Int32) + ((6 : Int32) * a1))) + (f_X6_see M (((56 : Int32) + ((6 : Int32) * a1)) + (1 : Int32)))) / (4 : Int32) * (4 : Int32))) (((56 : Int32) + ((6 : Int32) * a1)) + (1 : Int32))) = 0 then True else ok_X6_put (ms M 25 (upd (M 25) 7 (0 : Int32))) ((((56 : Int32) + ((6 : Int32) * a1)) + (2 : Int32)) + (((f_X6_see M ((56 : Int32) + ((6 : Int32) * a1))) + (f_X6_see M (((56 : Int32) + ((6 : Int32) * a1)) + (1 : Int32)))) - ((f_X6_see M ((56 : Int32) + ((6 : Int32) * a1))) + (f_X6_see M (((56 : Int32) + ((6 : Int32) * a1)) + (1 : Int32)))) / (4 : Int32) * (4 : Int32))) a2 ∧ (bv (f_X6_put (ms M 25 (upd (M 25) 7 (0 : Int32))) ((((56 : Int32) + ((6 : Int32) * a1)) + (2 : Int32)) + (((f_X6_see M ((56 : Int32) + ((6 : Int32) * a1))) + (f_X6_see M (((56 : Int32) + ((6 : Int32) * a1)) + (1 : Int32)))) - ((f_X6_see M ((56 : Int32) + ((6 : Int32) * a1))) + (f_X6_see M (((56 : Int32) + ((6 : Int32) * a1)) + (1 : Int32)))) / (4 : Int32) * (4 : Int32))) a2) (fun M6 => ok_X6_put M6 (((56 : Int32) + ((6 : Int32) * a1)) + (1 : Int32)) ((f_X6_see M (((56 : Int32) + ((6 : Int32) * a1)) + (1 : Int32))) + (1 : Int32))))))
set_option maxRecDepth 100000 in
set_option maxHeartbeats 4000000 in
theorem k_X6_push_0 {p : Program} {l : Launch} {e : Env} {s : State} {m : MethodId} {args : Array Value} {below : List Frame} {meth : Method} {c : Code} {D : va_G} {cI : ClassId} {ad : Nat → Nat} {A : Nat → Prop} {cells slots : Nat} {R : Room} (hcs : cells ≤ R.cells ∧ slots ≤ R.slots) (hrf : rmX6_push.frames ≤ R.frames) (hrl : rmX6_push.locals ≤ R.locals) {res : Mem} (C : CX p s m args meth c RX6 cX6_push 6 none) : ∀ (M : Mem) (a1 a2 : Int32) (H : Heap) (locs : List Loc) (ls : Array Slot), ok_X6_push M a1 a2 → f_X6_push M a1 a2 = res → WH D [(cI, .int)] (wR cI ad) A s H locs M → lv_has ls 6 [(0, .ref (ad 0)), (1, .int a1), (2, .int a2)] → W p l e R s m args below meth c H locs cells slots (MQ below (PV D [(cI, .int)] (wR cI ad) A res) args s cells slots A) (F0 m 0 ls []) := by
  have hx := C.1
  have hb := C.2.1
  have hown := C.2.2.2.2.1
  have hts := C.2.2.2.2.2.1
  intro M a1 a2 H locs ls hok hres h hl
  rw [ok_X6_push] at hok
  rw [f_X6_push] at hres
  refine lv_bipush (v := (56 : Int32)) hx hb dX6_push_0 (by decide) ?_
  refine lv_bipush (v := (6 : Int32)) hx hb dX6_push_2 (by decide) ?_
  refine lv_iload_n hx hb dX6_push_4 rfl (lv_at hl 1 rfl) ?_
  refine lv_imul hx hb dX6_push_5 ?_
  refine lv_iadd hx hb dX6_push_6 ?_
  refine lv_istore_n (lv' := [(3, .int ((56 : Int32) + ((6 : Int32) * a1))), (0, .ref (ad 0)), (1, .int a1), (2, .int a2)]) hx hb dX6_push_7 rfl hl (by decide) rfl (fun ls hl => ?_)
  refine lv_aload_n hx hb dX6_push_8 rfl (lv_at hl 1 rfl) ?_
  refine lv_iload_n hx hb dX6_push_9 rfl (lv_at hl 0 rfl) ?_
  refine lv_iconst (v := (1 : Int32)) hx hb dX6_push_10 (by decide) ?_
  refine lv_iadd hx hb dX6_push_11 ?_
  obtain ⟨h12, hok⟩ := hok
  refine wh_cvip (As := [.int (((56 : Int32) + ((6 : Int32) * a1)) + (1 : Int32))]) (rest := []) hcs C h (c_X6_see M (((56 : Int32) + ((6 : Int32) * a1)) + (1 : Int32)) h12) yw_X6_see in_mX6_133 hl.1 rfl rfl (Nat.le_of_ble_eq_true rfl) ⟨Nat.le_trans (Nat.le_of_ble_eq_true rfl) hrf, Nat.le_trans (Nat.le_of_ble_eq_true rfl) hrl⟩ dX6_push_12 (fun H locs h => ?_)
  refine lv_istore (lv' := [(4, .int (f_X6_see M (((56 : Int32) + ((6 : Int32) * a1)) + (1 : Int32)))), (3, .int ((56 : Int32) + ((6 : Int32) * a1))), (0, .ref (ad 0)), (1, .int a1), (2, .int a2)]) hx hb dX6_push_15 hl (by decide) rfl (fun ls hl => ?_)
  refine lv_iload_n hx hb dX6_push_17 rfl (lv_at hl 1 rfl) ?_
  refine lv_iconst (v := (2 : Int32)) hx hb dX6_push_18 (by decide) ?_
  refine lv_iadd hx hb dX6_push_19 ?_
  refine lv_aload_n hx hb dX6_push_20 rfl (lv_at hl 2 rfl) ?_
  refine lv_iload_n hx hb dX6_push_21 rfl (lv_at hl 1 rfl) ?_
  obtain ⟨h11, hok⟩ := hok
  refine wh_cvip (As := [.int ((56 : Int32) + ((6 : Int32) * a1))]) (rest := [.int (((56 : Int32) + ((6 : Int32) * a1)) + (2 : Int32))]) hcs C h (c_X6_see M ((56 : Int32) + ((6 : Int32) * a1)) h11) yw_X6_see in_mX6_133 hl.1 rfl rfl (Nat.le_of_ble_eq_true rfl) ⟨Nat.le_trans (Nat.le_of_ble_eq_true rfl) hrf, Nat.le_trans (Nat.le_of_ble_eq_true rfl) hrl⟩ dX6_push_22 (fun H locs h => ?_)
  refine lv_iload hx hb dX6_push_25 (lv_at hl 0 rfl) ?_
  refine lv_iadd hx hb dX6_push_27 ?_
  refine lv_iconst (v := (4 : Int32)) hx hb dX6_push_28 (by decide) ?_
  refine lv_irem hx hb dX6_push_29 (by decide) ?_
  refine lv_iadd hx hb dX6_push_30 ?_
  refine lv_istore (lv' := [(5, .int ((((56 : Int32) + ((6 : Int32) * a1)) + (2 : Int32)) + (((f_X6_see M ((56 : Int32) + ((6 : Int32) * a1))) + (f_X6_see M (((56 : Int32) + ((6 : Int32) * a1)) + (1 : Int32)))) - ((f_X6_see M ((56 : Int32) + ((6 : Int32) * a1))) + (f_X6_see M (((56 : Int32) + ((6 : Int32) * a1)) + (1 : Int32)))) / (4 : Int32) * (4 : Int32)))), (4, .int (f_X6_see M (((56 : Int32) + ((6 : Int32) * a1)) + (1 : Int32)))), (3, .int ((56 : Int32) + ((6 : Int32) * a1))), (0, .ref (ad 0)), (1, .int a1), (2, .int a2)]) hx hb dX6_push_31 hl (by decide) rfl (fun ls hl => ?_)
  refine lv_aload_n hx hb dX6_push_33 rfl (lv_at hl 3 rfl) ?_
  refine R_X6_register_get C h in_fX6_35 dX6_push_34 ?_
  refine lv_bipush (v := (7 : Int32)) hx hb dX6_push_37 (by decide) ?_
  refine lv_iconst (v := (0 : Int32)) hx hb dX6_push_39 (by decide) ?_
  refine R_register_st (M2 := (ms M 25 (upd (M 25) 7 (0 : Int32)))) C h (vp_l (by decide)) rfl dX6_push_40 (fun H locs h => ?_)
  refine lv_iload hx hb dX6_push_41 (lv_at hl 1 rfl) ?_
  refine lv_iconst (v := (4 : Int32)) hx hb dX6_push_43 (by decide) ?_
  refine lv_icmp_eq (tgt := 59) hx hb dX6_push_44 (by decide) (fun c3 => ?_) (fun c3 => ?_)
  · have hres := it_p hres c3
    exact wh_vret C h hres dX6_push_59
  · have hres := it_n hres c3
    have hok := io_n hok c3
    refine lv_aload_n hx hb dX6_push_47 rfl (lv_at hl 3 rfl) ?_
    refine lv_iload hx hb dX6_push_48 (lv_at hl 0 rfl) ?_
    refine lv_iload_n hx hb dX6_push_50 rfl (lv_at hl 2 rfl) ?_
    refine lv_iconst (v := (1 : Int32)) hx hb dX6_push_51 (by decide) ?_
    refine lv_iadd hx hb dX6_push_52 ?_
    obtain ⟨h10, hok⟩ := hok
    refine wh_cvzp (As := [.int ((((56 : Int32) + ((6 : Int32) * a1)) + (2 : Int32)) + (((f_X6_see M ((56 : Int32) + ((6 : Int32) * a1))) + (f_X6_see M (((56 : Int32) + ((6 : Int32) * a1)) + (1 : Int32)))) - ((f_X6_see M ((56 : Int32) + ((6 : Int32) * a1))) + (f_X6_see M (((56 : Int32) + ((6 : Int32) * a1)) + (1 : Int32)))) / (4 : Int32) * (4 : Int32))), .int (((56 : Int32) + ((6 : Int32) * a1)) + (1 : Int32))]) (rest := []) hcs C h (c_X6_hasRoom (ms M 25 (upd (M 25) 7 (0 : Int32))) ((((56 : Int32) + ((6 : Int32) * a1)) + (2 : Int32)) + (((f_X6_see M ((56 : Int32) + ((6 : Int32) * a1))) + (f_X6_see M (((56 : Int32) + ((6 : Int32) * a1)) + (1 : Int32)))) - ((f_X6_see M ((56 : Int32) + ((6 : Int32) * a1))) + (f_X6_see M (((56 : Int32) + ((6 : Int32) * a1)) + (1 : Int32)))) / (4 : Int32) * (4 : Int32))) (((56 : Int32) + ((6 : Int32) * a1)) + (1 : Int32)) h10) yw_X6_hasRoom in_mX6_136 hl.1 rfl rfl (Nat.le_of_ble_eq_true rfl) ⟨Nat.le_trans (Nat.le_of_ble_eq_true rfl) hrf, Nat.le_trans (Nat.le_of_ble_eq_true rfl) hrl⟩ dX6_push_53 (fun H locs z4 h => ?_)
    refine lv_if_ne (tgt := 60) hx hb dX6_push_56 (by decide) (fun c5 => ?_) (fun c5 => ?_)
    · have hres := it_n hres c5
      have hok := io_n hok c5
      refine lv_aload_n hx hb dX6_push_60 rfl (lv_at hl 3 rfl) ?_
      refine lv_iload hx hb dX6_push_61 (lv_at hl 0 rfl) ?_
      refine lv_iload_n hx hb dX6_push_63 rfl (lv_at hl 5 rfl) ?_
      obtain ⟨h9, hok⟩ := hok
      refine wh_cvv (As := [.int ((((56 : Int32) + ((6 : Int32) * a1)) + (2 : Int32)) + (((f_X6_see M ((56 : Int32) + ((6 : Int32) * a1))) + (f_X6_see M (((56 : Int32) + ((6 : Int32) * a1)) + (1 : Int32)))) - ((f_X6_see M ((56 : Int32) + ((6 : Int32) * a1))) + (f_X6_see M (((56 : Int32) + ((6 : Int32) * a1)) + (1 : Int32)))) / (4 : Int32) * (4 : Int32))), .int a2]) (rest := []) hcs C h (c_X6_put (ms M 25 (upd (M 25) 7 (0 : Int32))) ((((56 : Int32) + ((6 : Int32) * a1)) + (2 : Int32)) + (((f_X6_see M ((56 : Int32) + ((6 : Int32) * a1))) + (f_X6_see M (((56 : Int32) + ((6 : Int32) * a1)) + (1 : Int32)))) - ((f_X6_see M ((56 : Int32) + ((6 : Int32) * a1))) + (f_X6_see M (((56 : Int32) + ((6 : Int32) * a1)) + (1 : Int32)))) / (4 : Int32) * (4 : Int32))) a2 h9) yw_X6_put in_mX6_139 hl.1 rfl rfl (Nat.le_of_ble_eq_true rfl) ⟨Nat.le_trans (Nat.le_of_ble_eq_true rfl) hrf, Nat.le_trans (Nat.le_of_ble_eq_true rfl) hrl⟩ dX6_push_64 (fun M6 H locs e6 h => ?_)
      rw [e6] at hres
      have hres := bv_e hres
      rw [e6] at hok
      have hok := bv_o hok
      refine lv_aload_n hx hb dX6_push_67 rfl (lv_at hl 3 rfl) ?_
      refine lv_iload_n hx hb dX6_push_68 rfl (lv_at hl 2 rfl) ?_
      refine lv_iconst (v := (1 : Int32)) hx hb dX6_push_69 (by decide) ?_
      refine lv_iadd hx hb dX6_push_70 ?_
      refine lv_iload hx hb dX6_push_71 (lv_at hl 1 rfl) ?_
      refine lv_iconst (v := (1 : Int32)) hx hb dX6_push_73 (by decide) ?_
      refine lv_iadd hx hb dX6_push_74 ?_
      have h8 := hok
      refine wh_cvv (As := [.int (((56 : Int32) + ((6 : Int32) * a1)) + (1 : Int32)), .int ((f_X6_see M (((56 : Int32) + ((6 : Int32) * a1)) + (1 : Int32))) + (1 : Int32))]) (rest := []) hcs C h (c_X6_put M6 (((56 : Int32) + ((6 : Int32) * a1)) + (1 : Int32)) ((f_X6_see M (((56 : Int32) + ((6 : Int32) * a1)) + (1 : Int32))) + (1 : Int32)) h8) yw_X6_put in_mX6_139 hl.1 rfl rfl (Nat.le_of_ble_eq_true rfl) ⟨Nat.le_trans (Nat.le_of_ble_eq_true rfl) hrf, Nat.le_trans (Nat.le_of_ble_eq_true rfl) hrl⟩ dX6_push_75 (fun M7 H locs e7 h => ?_)
      rw [e7] at hres
      have hres := bv_e hres
      refine lv_aload_n hx hb dX6_push_78 rfl (lv_at hl 3 rfl) ?_
      refine R_X6_register_get C h in_fX6_35 dX6_push_79 ?_
      refine lv_bipush (v := (7 : Int32)) hx hb dX6_push_82 (by decide) ?_
      refine lv_iconst (v := (1 : Int32)) hx hb dX6_push_84 (by decide) ?_
      refine R_register_st (M2 := (ms M7 25 (upd (M7 25) 7 (1 : Int32)))) C h (vp_l (by decide)) rfl dX6_push_85 (fun H locs h => ?_)
      exact wh_vret C h hres dX6_push_86
    · have hres := it_p hres c5
      exact wh_vret C h hres dX6_push_59
theorem yw_X6_push {cI : ClassId} {ad : Nat → Nat} : YV (wR cI ad) (ad 0) yX6_push cX6_push 6 none rmX6_push 2 := ⟨fun M => ⟨0, 6, _, _, rfl, rfl, rfl⟩, in_cX6_push, in_nX6_push, in_vX6_push, in_iX6, by decide +kernel, rfl, rfl⟩
theorem c_X6_push {l : Launch} {D : va_G} {cI : ClassId} {ad : Nat → Nat} (M : Mem) (a1 a2 : Int32) (hok : ok_X6_push M a1 a2) : KV l D [(cI, .int)] (wR cI ad) yX6_push cX6_push 6 rmX6_push [.ref (ad 0), .int a1, .int a2] M (f_X6_push M a1 a2) := met_v (by decide) (Nat.le_of_ble_eq_true rfl) (fun p e s m below meth c A C h ls hl => k_X6_push_0 ⟨Nat.le_refl _, Nat.le_refl _⟩ (Nat.le_refl _) (Nat.le_refl _) C M a1 a2 _ _ ls hok rfl h hl)
abbrev rmX6_pop : Room := { frames := 2, cells := 0, slots := 0, locals := 45 }
def f_X6_pop (M : Mem) (a1 a2 : Int32) : Mem := (if (f_X6_see M (((56 : Int32) + ((6 : Int32) * a1)) + (1 : Int32))) = 0 then (ms (ms M 25 (upd (M 25) a2.toNatClampNeg (0 : Int32))) 25 (upd (upd (M 25) a2.toNatClampNeg (0 : Int32)) 7 (0 : Int32))) else (if (f_X6_hasRoom M ((56 : Int32) + ((6 : Int32) * a1)) (((56 : Int32) + ((6 : Int32) * a1)) + (1 : Int32))) = 0 then (ms M 25 (upd (M 25) 7 (0 : Int32))) else (bv (f_X6_put (ms M 25 (upd (M 25) a2.toNatClampNeg (f_X6_see M ((((56 : Int32) + ((6 : Int32) * a1)) + (2 : Int32)) + (f_X6_see M ((56 : Int32) + ((6 : Int32) * a1))))))) ((56 : Int32) + ((6 : Int32) * a1)) (((f_X6_see M ((56 : Int32) + ((6 : Int32) * a1))) + (1 : Int32)) - ((f_X6_see M ((56 : Int32) + ((6 : Int32) * a1))) + (1 : Int32)) / (4 : Int32) * (4 : Int32))) (fun M7 => (bv (f_X6_put M7 (((56 : Int32) + ((6 : Int32) * a1)) + (1 : Int32)) ((f_X6_see M (((56 : Int32) + ((6 : Int32) * a1)) + (1 : Int32))) - (1 : Int32))) (fun M8 => (ms M8 25 (upd (M8 25) 7 (1 : Int32)))))))))
def ok_X6_pop (M : Mem) (a1 a2 : Int32) : Prop := ok_X6_see M ((56 : Int32) + ((6 : Int32) * a1)) ∧ ok_X6_see M (((56 : Int32) + ((6 : Int32) * a1)) + (1 : Int32)) ∧ (if (f_X6_see M (((56 : Int32) + ((6 : Int32) * a1)) + (1 : Int32))) = 0 then vp_in a2 8 else ok_X6_hasRoom M ((56 : Int32) + ((6 : Int32) * a1)) (((56 : Int32) + ((6 : Int32) * a1)) + (1 : Int32)) ∧ (if (f_X6_hasRoom M ((56 : Int32) + ((6 : Int32) * a1)) (((56 : Int32) + ((6 : Int32) * a1)) + (1 : Int32))) = 0 then True else ok_X6_see M ((((56 : Int32) + ((6 : Int32) * a1)) + (2 : Int32)) + (f_X6_see M ((56 : Int32) + ((6 : Int32) * a1)))) ∧ vp_in a2 8 ∧ ok_X6_put (ms M 25 (upd (M 25) a2.toNatClampNeg (f_X6_see M ((((56 : Int32) + ((6 : Int32) * a1)) + (2 : Int32)) + (f_X6_see M ((56 : Int32) + ((6 : Int32) * a1))))))) ((56 : Int32) + ((6 : Int32) * a1)) (((f_X6_see M ((56 : Int32) + ((6 : Int32) * a1))) + (1 : Int32)) - ((f_X6_see M ((56 : Int32) + ((6 : Int32) * a1))) + (1 : Int32)) / (4 : Int32) * (4 : Int32)) ∧ (bv (f_X6_put (ms M 25 (upd (M 25) a2.toNatClampNeg (f_X6_see M ((((56 : Int32) + ((6 : Int32) * a1)) + (2 : Int32)) + (f_X6_see M ((56 : Int32) + ((6 : Int32) * a1))))))) ((56 : Int32) + ((6 : Int32) * a1)) (((f_X6_see M ((56 : Int32) + ((6 : Int32) * a1))) + (1 : Int32)) - ((f_X6_see M ((56 : Int32) + ((6 : Int32) * a1))) + (1 : Int32)) / (4 : Int32) * (4 : Int32))) (fun M7 => ok_X6_put M7 (((56 : Int32) + ((6 : Int32) * a1)) + (1 : Int32)) ((f_X6_see M (((56 : Int32) + ((6 : Int32) * a1)) + (1 : Int32))) - (1 : Int32))))))
set_option maxRecDepth 100000 in
set_option maxHeartbeats 4000000 in
theorem k_X6_pop_0 {p : Program} {l : Launch} {e : Env} {s : State} {m : MethodId} {args : Array Value} {below : List Frame} {meth : Method} {c : Code} {D : va_G} {cI : ClassId} {ad : Nat → Nat} {A : Nat → Prop} {cells slots : Nat} {R : Room} (hcs : cells ≤ R.cells ∧ slots ≤ R.slots) (hrf : rmX6_pop.frames ≤ R.frames) (hrl : rmX6_pop.locals ≤ R.locals) {res : Mem} (C : CX p s m args meth c RX6 cX6_pop 6 none) : ∀ (M : Mem) (a1 a2 : Int32) (H : Heap) (locs : List Loc) (ls : Array Slot), ok_X6_pop M a1 a2 → f_X6_pop M a1 a2 = res → WH D [(cI, .int)] (wR cI ad) A s H locs M → lv_has ls 6 [(0, .ref (ad 0)), (1, .int a1), (2, .int a2)] → W p l e R s m args below meth c H locs cells slots (MQ below (PV D [(cI, .int)] (wR cI ad) A res) args s cells slots A) (F0 m 0 ls []) := by
  have hx := C.1
  have hb := C.2.1
  have hown := C.2.2.2.2.1
  have hts := C.2.2.2.2.2.1
  intro M a1 a2 H locs ls hok hres h hl
  rw [ok_X6_pop] at hok
  rw [f_X6_pop] at hres
  refine lv_bipush (v := (56 : Int32)) hx hb dX6_pop_0 (by decide) ?_
  refine lv_bipush (v := (6 : Int32)) hx hb dX6_pop_2 (by decide) ?_
  refine lv_iload_n hx hb dX6_pop_4 rfl (lv_at hl 1 rfl) ?_
  refine lv_imul hx hb dX6_pop_5 ?_
  refine lv_iadd hx hb dX6_pop_6 ?_
  refine lv_istore_n (lv' := [(3, .int ((56 : Int32) + ((6 : Int32) * a1))), (0, .ref (ad 0)), (1, .int a1), (2, .int a2)]) hx hb dX6_pop_7 rfl hl (by decide) rfl (fun ls hl => ?_)
  refine lv_aload_n hx hb dX6_pop_8 rfl (lv_at hl 1 rfl) ?_
  refine lv_iload_n hx hb dX6_pop_9 rfl (lv_at hl 0 rfl) ?_
  obtain ⟨h16, hok⟩ := hok
  refine wh_cvip (As := [.int ((56 : Int32) + ((6 : Int32) * a1))]) (rest := []) hcs C h (c_X6_see M ((56 : Int32) + ((6 : Int32) * a1)) h16) yw_X6_see in_mX6_133 hl.1 rfl rfl (Nat.le_of_ble_eq_true rfl) ⟨Nat.le_trans (Nat.le_of_ble_eq_true rfl) hrf, Nat.le_trans (Nat.le_of_ble_eq_true rfl) hrl⟩ dX6_pop_10 (fun H locs h => ?_)
  refine lv_istore (lv' := [(4, .int (f_X6_see M ((56 : Int32) + ((6 : Int32) * a1)))), (3, .int ((56 : Int32) + ((6 : Int32) * a1))), (0, .ref (ad 0)), (1, .int a1), (2, .int a2)]) hx hb dX6_pop_13 hl (by decide) rfl (fun ls hl => ?_)
  refine lv_aload_n hx hb dX6_pop_15 rfl (lv_at hl 2 rfl) ?_
  refine lv_iload_n hx hb dX6_pop_16 rfl (lv_at hl 1 rfl) ?_
  refine lv_iconst (v := (1 : Int32)) hx hb dX6_pop_17 (by decide) ?_
  refine lv_iadd hx hb dX6_pop_18 ?_
  obtain ⟨h15, hok⟩ := hok
  refine wh_cvip (As := [.int (((56 : Int32) + ((6 : Int32) * a1)) + (1 : Int32))]) (rest := []) hcs C h (c_X6_see M (((56 : Int32) + ((6 : Int32) * a1)) + (1 : Int32)) h15) yw_X6_see in_mX6_133 hl.1 rfl rfl (Nat.le_of_ble_eq_true rfl) ⟨Nat.le_trans (Nat.le_of_ble_eq_true rfl) hrf, Nat.le_trans (Nat.le_of_ble_eq_true rfl) hrl⟩ dX6_pop_19 (fun H locs h => ?_)
  refine lv_istore (lv' := [(5, .int (f_X6_see M (((56 : Int32) + ((6 : Int32) * a1)) + (1 : Int32)))), (4, .int (f_X6_see M ((56 : Int32) + ((6 : Int32) * a1)))), (3, .int ((56 : Int32) + ((6 : Int32) * a1))), (0, .ref (ad 0)), (1, .int a1), (2, .int a2)]) hx hb dX6_pop_22 hl (by decide) rfl (fun ls hl => ?_)
  refine lv_iload hx hb dX6_pop_24 (lv_at hl 0 rfl) ?_
  refine lv_if_ne (tgt := 45) hx hb dX6_pop_26 (by decide) (fun c3 => ?_) (fun c3 => ?_)
  · have hres := it_n hres c3
    have hok := io_n hok c3
    refine lv_aload_n hx hb dX6_pop_45 rfl (lv_at hl 3 rfl) ?_
    refine lv_iload_n hx hb dX6_pop_46 rfl (lv_at hl 2 rfl) ?_
    refine lv_iload_n hx hb dX6_pop_47 rfl (lv_at hl 2 rfl) ?_
    refine lv_iconst (v := (1 : Int32)) hx hb dX6_pop_48 (by decide) ?_
    refine lv_iadd hx hb dX6_pop_49 ?_
    obtain ⟨h13, hok⟩ := hok
    refine wh_cvzp (As := [.int ((56 : Int32) + ((6 : Int32) * a1)), .int (((56 : Int32) + ((6 : Int32) * a1)) + (1 : Int32))]) (rest := []) hcs C h (c_X6_hasRoom M ((56 : Int32) + ((6 : Int32) * a1)) (((56 : Int32) + ((6 : Int32) * a1)) + (1 : Int32)) h13) yw_X6_hasRoom in_mX6_136 hl.1 rfl rfl (Nat.le_of_ble_eq_true rfl) ⟨Nat.le_trans (Nat.le_of_ble_eq_true rfl) hrf, Nat.le_trans (Nat.le_of_ble_eq_true rfl) hrl⟩ dX6_pop_50 (fun H locs z4 h => ?_)
    refine lv_if_ne (tgt := 65) hx hb dX6_pop_53 (by decide) (fun c5 => ?_) (fun c5 => ?_)
    · have hres := it_n hres c5
      have hok := io_n hok c5
      refine lv_aload_n hx hb dX6_pop_65 rfl (lv_at hl 3 rfl) ?_
      refine R_X6_register_get C h in_fX6_35 dX6_pop_66 ?_
      refine lv_iload_n hx hb dX6_pop_69 rfl (lv_at hl 5 rfl) ?_
      refine lv_aload_n hx hb dX6_pop_70 rfl (lv_at hl 3 rfl) ?_
      refine lv_iload_n hx hb dX6_pop_71 rfl (lv_at hl 2 rfl) ?_
      refine lv_iconst (v := (2 : Int32)) hx hb dX6_pop_72 (by decide) ?_
      refine lv_iadd hx hb dX6_pop_73 ?_
      refine lv_iload hx hb dX6_pop_74 (lv_at hl 1 rfl) ?_
      refine lv_iadd hx hb dX6_pop_76 ?_
      obtain ⟨h12, hok⟩ := hok
      refine wh_cvip (As := [.int ((((56 : Int32) + ((6 : Int32) * a1)) + (2 : Int32)) + (f_X6_see M ((56 : Int32) + ((6 : Int32) * a1))))]) (rest := [.int a2, .ref (ad 8)]) hcs C h (c_X6_see M ((((56 : Int32) + ((6 : Int32) * a1)) + (2 : Int32)) + (f_X6_see M ((56 : Int32) + ((6 : Int32) * a1)))) h12) yw_X6_see in_mX6_133 hl.1 rfl rfl (Nat.le_of_ble_eq_true rfl) ⟨Nat.le_trans (Nat.le_of_ble_eq_true rfl) hrf, Nat.le_trans (Nat.le_of_ble_eq_true rfl) hrl⟩ dX6_pop_77 (fun H locs h => ?_)
      obtain ⟨h11, hok⟩ := hok
      refine R_register_st (M2 := (ms M 25 (upd (M 25) a2.toNatClampNeg (f_X6_see M ((((56 : Int32) + ((6 : Int32) * a1)) + (2 : Int32)) + (f_X6_see M ((56 : Int32) + ((6 : Int32) * a1)))))))) C h h11 rfl dX6_pop_80 (fun H locs h => ?_)
      refine lv_aload_n hx hb dX6_pop_81 rfl (lv_at hl 3 rfl) ?_
      refine lv_iload_n hx hb dX6_pop_82 rfl (lv_at hl 2 rfl) ?_
      refine lv_iload hx hb dX6_pop_83 (lv_at hl 1 rfl) ?_
      refine lv_iconst (v := (1 : Int32)) hx hb dX6_pop_85 (by decide) ?_
      refine lv_iadd hx hb dX6_pop_86 ?_
      refine lv_iconst (v := (4 : Int32)) hx hb dX6_pop_87 (by decide) ?_
      refine lv_irem hx hb dX6_pop_88 (by decide) ?_
      obtain ⟨h10, hok⟩ := hok
      refine wh_cvv (As := [.int ((56 : Int32) + ((6 : Int32) * a1)), .int (((f_X6_see M ((56 : Int32) + ((6 : Int32) * a1))) + (1 : Int32)) - ((f_X6_see M ((56 : Int32) + ((6 : Int32) * a1))) + (1 : Int32)) / (4 : Int32) * (4 : Int32))]) (rest := []) hcs C h (c_X6_put (ms M 25 (upd (M 25) a2.toNatClampNeg (f_X6_see M ((((56 : Int32) + ((6 : Int32) * a1)) + (2 : Int32)) + (f_X6_see M ((56 : Int32) + ((6 : Int32) * a1))))))) ((56 : Int32) + ((6 : Int32) * a1)) (((f_X6_see M ((56 : Int32) + ((6 : Int32) * a1))) + (1 : Int32)) - ((f_X6_see M ((56 : Int32) + ((6 : Int32) * a1))) + (1 : Int32)) / (4 : Int32) * (4 : Int32)) h10) yw_X6_put in_mX6_139 hl.1 rfl rfl (Nat.le_of_ble_eq_true rfl) ⟨Nat.le_trans (Nat.le_of_ble_eq_true rfl) hrf, Nat.le_trans (Nat.le_of_ble_eq_true rfl) hrl⟩ dX6_pop_89 (fun M7 H locs e7 h => ?_)
      rw [e7] at hres
      have hres := bv_e hres
      rw [e7] at hok
      have hok := bv_o hok
      refine lv_aload_n hx hb dX6_pop_92 rfl (lv_at hl 3 rfl) ?_
      refine lv_iload_n hx hb dX6_pop_93 rfl (lv_at hl 2 rfl) ?_
      refine lv_iconst (v := (1 : Int32)) hx hb dX6_pop_94 (by decide) ?_
      refine lv_iadd hx hb dX6_pop_95 ?_
      refine lv_iload hx hb dX6_pop_96 (lv_at hl 0 rfl) ?_
      refine lv_iconst (v := (1 : Int32)) hx hb dX6_pop_98 (by decide) ?_
      refine lv_isub hx hb dX6_pop_99 ?_
      have h9 := hok
      refine wh_cvv (As := [.int (((56 : Int32) + ((6 : Int32) * a1)) + (1 : Int32)), .int ((f_X6_see M (((56 : Int32) + ((6 : Int32) * a1)) + (1 : Int32))) - (1 : Int32))]) (rest := []) hcs C h (c_X6_put M7 (((56 : Int32) + ((6 : Int32) * a1)) + (1 : Int32)) ((f_X6_see M (((56 : Int32) + ((6 : Int32) * a1)) + (1 : Int32))) - (1 : Int32)) h9) yw_X6_put in_mX6_139 hl.1 rfl rfl (Nat.le_of_ble_eq_true rfl) ⟨Nat.le_trans (Nat.le_of_ble_eq_true rfl) hrf, Nat.le_trans (Nat.le_of_ble_eq_true rfl) hrl⟩ dX6_pop_100 (fun M8 H locs e8 h => ?_)
      rw [e8] at hres
      have hres := bv_e hres
      refine lv_aload_n hx hb dX6_pop_103 rfl (lv_at hl 3 rfl) ?_
      refine R_X6_register_get C h in_fX6_35 dX6_pop_104 ?_
      refine lv_bipush (v := (7 : Int32)) hx hb dX6_pop_107 (by decide) ?_
      refine lv_iconst (v := (1 : Int32)) hx hb dX6_pop_109 (by decide) ?_
      refine R_register_st (M2 := (ms M8 25 (upd (M8 25) 7 (1 : Int32)))) C h (vp_l (by decide)) rfl dX6_pop_110 (fun H locs h => ?_)
      exact wh_vret C h hres dX6_pop_111
    · have hres := it_p hres c5
      refine lv_aload_n hx hb dX6_pop_56 rfl (lv_at hl 3 rfl) ?_
      refine R_X6_register_get C h in_fX6_35 dX6_pop_57 ?_
      refine lv_bipush (v := (7 : Int32)) hx hb dX6_pop_60 (by decide) ?_
      refine lv_iconst (v := (0 : Int32)) hx hb dX6_pop_62 (by decide) ?_
      refine R_register_st (M2 := (ms M 25 (upd (M 25) 7 (0 : Int32)))) C h (vp_l (by decide)) rfl dX6_pop_63 (fun H locs h => ?_)
      exact wh_vret C h hres dX6_pop_64
  · have hres := it_p hres c3
    have hok := io_p hok c3
    refine lv_aload_n hx hb dX6_pop_29 rfl (lv_at hl 3 rfl) ?_
    refine R_X6_register_get C h in_fX6_35 dX6_pop_30 ?_
    refine lv_iload_n hx hb dX6_pop_33 rfl (lv_at hl 5 rfl) ?_
    refine lv_iconst (v := (0 : Int32)) hx hb dX6_pop_34 (by decide) ?_
    have h14 := hok
    refine R_register_st (M2 := (ms M 25 (upd (M 25) a2.toNatClampNeg (0 : Int32)))) C h h14 rfl dX6_pop_35 (fun H locs h => ?_)
    refine lv_aload_n hx hb dX6_pop_36 rfl (lv_at hl 3 rfl) ?_
    refine R_X6_register_get C h in_fX6_35 dX6_pop_37 ?_
    refine lv_bipush (v := (7 : Int32)) hx hb dX6_pop_40 (by decide) ?_
    refine lv_iconst (v := (0 : Int32)) hx hb dX6_pop_42 (by decide) ?_
    refine R_register_st (M2 := (ms (ms M 25 (upd (M 25) a2.toNatClampNeg (0 : Int32))) 25 (upd (upd (M 25) a2.toNatClampNeg (0 : Int32)) 7 (0 : Int32)))) C h (vp_l (by decide)) rfl dX6_pop_43 (fun H locs h => ?_)
    exact wh_vret C h hres dX6_pop_44
theorem yw_X6_pop {cI : ClassId} {ad : Nat → Nat} : YV (wR cI ad) (ad 0) yX6_pop cX6_pop 6 none rmX6_pop 2 := ⟨fun M => ⟨0, 6, _, _, rfl, rfl, rfl⟩, in_cX6_pop, in_nX6_pop, in_vX6_pop, in_iX6, by decide +kernel, rfl, rfl⟩
theorem c_X6_pop {l : Launch} {D : va_G} {cI : ClassId} {ad : Nat → Nat} (M : Mem) (a1 a2 : Int32) (hok : ok_X6_pop M a1 a2) : KV l D [(cI, .int)] (wR cI ad) yX6_pop cX6_pop 6 rmX6_pop [.ref (ad 0), .int a1, .int a2] M (f_X6_pop M a1 a2) := met_v (by decide) (Nat.le_of_ble_eq_true rfl) (fun p e s m below meth c A C h ls hl => k_X6_pop_0 ⟨Nat.le_refl _, Nat.le_refl _⟩ (Nat.le_refl _) (Nat.le_refl _) C M a1 a2 _ _ ls hok rfl h hl)
abbrev rmX6_sendFrame : Room := { frames := 2, cells := 0, slots := 0, locals := 45 }
def f_X6_sendFrame (M : Mem) (a1 : Int32) : Mem := (if ((f_X6_see M (3 : Int32)) - ((M 20) 4)) = (16 : Int32) then (ms M 25 (upd (M 25) 7 (0 : Int32))) else (if (f_X6_hasRoom (ms M 25 (upd (M 25) 7 (0 : Int32))) ((68 : Int32) + ((f_X6_see M (3 : Int32)) - (f_X6_see M (3 : Int32)) / (16 : Int32) * (16 : Int32))) (3 : Int32)) = 0 then (ms M 25 (upd (M 25) 7 (0 : Int32))) else (bv (f_X6_put (ms M 25 (upd (M 25) 7 (0 : Int32))) ((68 : Int32) + ((f_X6_see M (3 : Int32)) - (f_X6_see M (3 : Int32)) / (16 : Int32) * (16 : Int32))) a1) (fun M5 => (bv (f_X6_put M5 (3 : Int32) ((f_X6_see M (3 : Int32)) + (1 : Int32))) (fun M6 => (ms M6 25 (upd (M6 25) 7 (1 : Int32)))))))))
def ok_X6_sendFrame (M : Mem) (a1 : Int32) : Prop := ok_X6_see M (3 : Int32) ∧ (if ((f_X6_see M (3 : Int32)) - ((M 20) 4)) = (16 : Int32) then True else ok_X6_hasRoom (ms M 25 (upd (M 25) 7 (0 : Int32))) ((68 : Int32) + ((f_X6_see M (3 : Int32)) - (f_X6_see M (3 : Int32)) / (16 : Int32) * (16 : Int32))) (3 : Int32) ∧ (if (f_X6_hasRoom (ms M 25 (upd (M 25) 7 (0 : Int32))) ((68 : Int32) + ((f_X6_see M (3 : Int32)) - (f_X6_see M (3 : Int32)) / (16 : Int32) * (16 : Int32))) (3 : Int32)) = 0 then True else ok_X6_put (ms M 25 (upd (M 25) 7 (0 : Int32))) ((68 : Int32) + ((f_X6_see M (3 : Int32)) - (f_X6_see M (3 : Int32)) / (16 : Int32) * (16 : Int32))) a1 ∧ (bv (f_X6_put (ms M 25 (upd (M 25) 7 (0 : Int32))) ((68 : Int32) + ((f_X6_see M (3 : Int32)) - (f_X6_see M (3 : Int32)) / (16 : Int32) * (16 : Int32))) a1) (fun M5 => ok_X6_put M5 (3 : Int32) ((f_X6_see M (3 : Int32)) + (1 : Int32))))))
set_option maxRecDepth 100000 in
set_option maxHeartbeats 4000000 in
theorem k_X6_sendFrame_0 {p : Program} {l : Launch} {e : Env} {s : State} {m : MethodId} {args : Array Value} {below : List Frame} {meth : Method} {c : Code} {D : va_G} {cI : ClassId} {ad : Nat → Nat} {A : Nat → Prop} {cells slots : Nat} {R : Room} (hcs : cells ≤ R.cells ∧ slots ≤ R.slots) (hrf : rmX6_sendFrame.frames ≤ R.frames) (hrl : rmX6_sendFrame.locals ≤ R.locals) {res : Mem} (C : CX p s m args meth c RX6 cX6_sendFrame 3 none) : ∀ (M : Mem) (a1 : Int32) (H : Heap) (locs : List Loc) (ls : Array Slot), ok_X6_sendFrame M a1 → f_X6_sendFrame M a1 = res → WH D [(cI, .int)] (wR cI ad) A s H locs M → lv_has ls 3 [(0, .ref (ad 0)), (1, .int a1)] → W p l e R s m args below meth c H locs cells slots (MQ below (PV D [(cI, .int)] (wR cI ad) A res) args s cells slots A) (F0 m 0 ls []) := by
  have hx := C.1
  have hb := C.2.1
  have hown := C.2.2.2.2.1
  have hts := C.2.2.2.2.2.1
  intro M a1 H locs ls hok hres h hl
  rw [ok_X6_sendFrame] at hok
  rw [f_X6_sendFrame] at hres
  refine lv_aload_n hx hb dX6_sendFrame_0 rfl (lv_at hl 0 rfl) ?_
  refine lv_iconst (v := (3 : Int32)) hx hb dX6_sendFrame_1 (by decide) ?_
  obtain ⟨h10, hok⟩ := hok
  refine wh_cvip (As := [.int (3 : Int32)]) (rest := []) hcs C h (c_X6_see M (3 : Int32) h10) yw_X6_see in_mX6_133 hl.1 rfl rfl (Nat.le_of_ble_eq_true rfl) ⟨Nat.le_trans (Nat.le_of_ble_eq_true rfl) hrf, Nat.le_trans (Nat.le_of_ble_eq_true rfl) hrl⟩ dX6_sendFrame_2 (fun H locs h => ?_)
  refine lv_istore_n (lv' := [(2, .int (f_X6_see M (3 : Int32))), (0, .ref (ad 0)), (1, .int a1)]) hx hb dX6_sendFrame_5 rfl hl (by decide) rfl (fun ls hl => ?_)
  refine lv_aload_n hx hb dX6_sendFrame_6 rfl (lv_at hl 1 rfl) ?_
  refine R_X6_register_get C h in_fX6_35 dX6_sendFrame_7 ?_
  refine lv_bipush (v := (7 : Int32)) hx hb dX6_sendFrame_10 (by decide) ?_
  refine lv_iconst (v := (0 : Int32)) hx hb dX6_sendFrame_12 (by decide) ?_
  refine R_register_st (M2 := (ms M 25 (upd (M 25) 7 (0 : Int32)))) C h (vp_l (by decide)) rfl dX6_sendFrame_13 (fun H locs h => ?_)
  refine lv_iload_n hx hb dX6_sendFrame_14 rfl (lv_at hl 0 rfl) ?_
  refine lv_aload_n hx hb dX6_sendFrame_15 rfl (lv_at hl 1 rfl) ?_
  refine R_X6_kept_get C h in_fX6_16 dX6_sendFrame_16 ?_
  refine lv_iconst (v := (4 : Int32)) hx hb dX6_sendFrame_19 (by decide) ?_
  refine R_kept_ld (v := ((M 20) 4)) C h (vp_l (by decide)) rfl dX6_sendFrame_20 ?_
  refine lv_isub hx hb dX6_sendFrame_21 ?_
  refine lv_bipush (v := (16 : Int32)) hx hb dX6_sendFrame_22 (by decide) ?_
  refine lv_icmp_eq (tgt := 42) hx hb dX6_sendFrame_24 (by decide) (fun c2 => ?_) (fun c2 => ?_)
  · have hres := it_p hres c2
    exact wh_vret C h hres dX6_sendFrame_42
  · have hres := it_n hres c2
    have hok := io_n hok c2
    refine lv_aload_n hx hb dX6_sendFrame_27 rfl (lv_at hl 1 rfl) ?_
    refine lv_bipush (v := (68 : Int32)) hx hb dX6_sendFrame_28 (by decide) ?_
    refine lv_iload_n hx hb dX6_sendFrame_30 rfl (lv_at hl 0 rfl) ?_
    refine lv_bipush (v := (16 : Int32)) hx hb dX6_sendFrame_31 (by decide) ?_
    refine lv_irem hx hb dX6_sendFrame_33 (by decide) ?_
    refine lv_iadd hx hb dX6_sendFrame_34 ?_
    refine lv_iconst (v := (3 : Int32)) hx hb dX6_sendFrame_35 (by decide) ?_
    obtain ⟨h9, hok⟩ := hok
    refine wh_cvzp (As := [.int ((68 : Int32) + ((f_X6_see M (3 : Int32)) - (f_X6_see M (3 : Int32)) / (16 : Int32) * (16 : Int32))), .int (3 : Int32)]) (rest := []) hcs C h (c_X6_hasRoom (ms M 25 (upd (M 25) 7 (0 : Int32))) ((68 : Int32) + ((f_X6_see M (3 : Int32)) - (f_X6_see M (3 : Int32)) / (16 : Int32) * (16 : Int32))) (3 : Int32) h9) yw_X6_hasRoom in_mX6_136 hl.1 rfl rfl (Nat.le_of_ble_eq_true rfl) ⟨Nat.le_trans (Nat.le_of_ble_eq_true rfl) hrf, Nat.le_trans (Nat.le_of_ble_eq_true rfl) hrl⟩ dX6_sendFrame_36 (fun H locs z3 h => ?_)
    refine lv_if_ne (tgt := 43) hx hb dX6_sendFrame_39 (by decide) (fun c4 => ?_) (fun c4 => ?_)
    · have hres := it_n hres c4
      have hok := io_n hok c4
      refine lv_aload_n hx hb dX6_sendFrame_43 rfl (lv_at hl 1 rfl) ?_
      refine lv_bipush (v := (68 : Int32)) hx hb dX6_sendFrame_44 (by decide) ?_
      refine lv_iload_n hx hb dX6_sendFrame_46 rfl (lv_at hl 0 rfl) ?_
      refine lv_bipush (v := (16 : Int32)) hx hb dX6_sendFrame_47 (by decide) ?_
      refine lv_irem hx hb dX6_sendFrame_49 (by decide) ?_
      refine lv_iadd hx hb dX6_sendFrame_50 ?_
      refine lv_iload_n hx hb dX6_sendFrame_51 rfl (lv_at hl 2 rfl) ?_
      obtain ⟨h8, hok⟩ := hok
      refine wh_cvv (As := [.int ((68 : Int32) + ((f_X6_see M (3 : Int32)) - (f_X6_see M (3 : Int32)) / (16 : Int32) * (16 : Int32))), .int a1]) (rest := []) hcs C h (c_X6_put (ms M 25 (upd (M 25) 7 (0 : Int32))) ((68 : Int32) + ((f_X6_see M (3 : Int32)) - (f_X6_see M (3 : Int32)) / (16 : Int32) * (16 : Int32))) a1 h8) yw_X6_put in_mX6_139 hl.1 rfl rfl (Nat.le_of_ble_eq_true rfl) ⟨Nat.le_trans (Nat.le_of_ble_eq_true rfl) hrf, Nat.le_trans (Nat.le_of_ble_eq_true rfl) hrl⟩ dX6_sendFrame_52 (fun M5 H locs e5 h => ?_)
      rw [e5] at hres
      have hres := bv_e hres
      rw [e5] at hok
      have hok := bv_o hok
      refine lv_aload_n hx hb dX6_sendFrame_55 rfl (lv_at hl 1 rfl) ?_
      refine lv_iconst (v := (3 : Int32)) hx hb dX6_sendFrame_56 (by decide) ?_
      refine lv_iload_n hx hb dX6_sendFrame_57 rfl (lv_at hl 0 rfl) ?_
      refine lv_iconst (v := (1 : Int32)) hx hb dX6_sendFrame_58 (by decide) ?_
      refine lv_iadd hx hb dX6_sendFrame_59 ?_
      have h7 := hok
      refine wh_cvv (As := [.int (3 : Int32), .int ((f_X6_see M (3 : Int32)) + (1 : Int32))]) (rest := []) hcs C h (c_X6_put M5 (3 : Int32) ((f_X6_see M (3 : Int32)) + (1 : Int32)) h7) yw_X6_put in_mX6_139 hl.1 rfl rfl (Nat.le_of_ble_eq_true rfl) ⟨Nat.le_trans (Nat.le_of_ble_eq_true rfl) hrf, Nat.le_trans (Nat.le_of_ble_eq_true rfl) hrl⟩ dX6_sendFrame_60 (fun M6 H locs e6 h => ?_)
      rw [e6] at hres
      have hres := bv_e hres
      refine lv_aload_n hx hb dX6_sendFrame_63 rfl (lv_at hl 1 rfl) ?_
      refine R_X6_register_get C h in_fX6_35 dX6_sendFrame_64 ?_
      refine lv_bipush (v := (7 : Int32)) hx hb dX6_sendFrame_67 (by decide) ?_
      refine lv_iconst (v := (1 : Int32)) hx hb dX6_sendFrame_69 (by decide) ?_
      refine R_register_st (M2 := (ms M6 25 (upd (M6 25) 7 (1 : Int32)))) C h (vp_l (by decide)) rfl dX6_sendFrame_70 (fun H locs h => ?_)
      exact wh_vret C h hres dX6_sendFrame_71
    · have hres := it_p hres c4
      exact wh_vret C h hres dX6_sendFrame_42
theorem yw_X6_sendFrame {cI : ClassId} {ad : Nat → Nat} : YV (wR cI ad) (ad 0) yX6_sendFrame cX6_sendFrame 3 none rmX6_sendFrame 1 := ⟨fun M => ⟨0, 6, _, _, rfl, rfl, rfl⟩, in_cX6_sendFrame, in_nX6_sendFrame, in_vX6_sendFrame, in_iX6, by decide +kernel, rfl, rfl⟩
theorem c_X6_sendFrame {l : Launch} {D : va_G} {cI : ClassId} {ad : Nat → Nat} (M : Mem) (a1 : Int32) (hok : ok_X6_sendFrame M a1) : KV l D [(cI, .int)] (wR cI ad) yX6_sendFrame cX6_sendFrame 3 rmX6_sendFrame [.ref (ad 0), .int a1] M (f_X6_sendFrame M a1) := met_v (by decide) (Nat.le_of_ble_eq_true rfl) (fun p e s m below meth c A C h ls hl => k_X6_sendFrame_0 ⟨Nat.le_refl _, Nat.le_refl _⟩ (Nat.le_refl _) (Nat.le_refl _) C M a1 _ _ ls hok rfl h hl)
abbrev rmX6_runStep : Room := { frames := 3, cells := 0, slots := 0, locals := 70 }
def f_X6_runStep (M : Mem) : Mem := (bc (f_X6_pays M (f_X6_cost M (f_X6_op M ((M 18) (((32 : Int32) * ((M 20) 0)) + (M 11 0)).toNatClampNeg)))) (fun M3 r3 => (if r3 = 0 then M3 else (if (f_X6_op (ms M3 11 (fun _ => ((M3 11 0) + (1 : Int32)))) ((M 18) (((32 : Int32) * ((M 20) 0)) + (M 11 0)).toNatClampNeg)) = (0 : Int32) then (ms (ms (ms (ms (ms (ms (ms M3 11 (fun _ => ((M3 11 0) + (1 : Int32)))) 4 (fun _ => (4 : Int32))) 26 (upd (M3 26) (M3 14 0).toNatClampNeg (0 : Int32))) 27 (upd (M3 27) (M3 14 0).toNatClampNeg (f_X6_a M3 ((M 18) (((32 : Int32) * ((M 20) 0)) + (M 11 0)).toNatClampNeg)))) 26 (upd (upd (M3 26) (M3 14 0).toNatClampNeg (0 : Int32)) ((M3 14 0) + (1 : Int32)).toNatClampNeg (1 : Int32))) 27 (upd (upd (M3 27) (M3 14 0).toNatClampNeg (f_X6_a M3 ((M 18) (((32 : Int32) * ((M 20) 0)) + (M 11 0)).toNatClampNeg))) ((M3 14 0) + (1 : Int32)).toNatClampNeg (((M3 20) 1) + (1 : Int32)))) 15 (fun _ => (0 : Int32))) else (if (f_X6_op (ms M3 11 (fun _ => ((M3 11 0) + (1 : Int32)))) ((M 18) (((32 : Int32) * ((M 20) 0)) + (M 11 0)).toNatClampNeg)) = (1 : Int32) then (ms (ms M3 11 (fun _ => ((M3 11 0) + (1 : Int32)))) 25 (upd (M3 25) (f_X6_a M3 ((M 18) (((32 : Int32) * ((M 20) 0)) + (M 11 0)).toNatClampNeg)).toNatClampNeg (sx (((256 : Int32) * (f_X6_b M3 ((M 18) (((32 : Int32) * ((M 20) 0)) + (M 11 0)).toNatClampNeg))) + (f_X6_c M3 ((M 18) (((32 : Int32) * ((M 20) 0)) + (M 11 0)).toNatClampNeg)))))) else (if (f_X6_op (ms M3 11 (fun _ => ((M3 11 0) + (1 : Int32)))) ((M 18) (((32 : Int32) * ((M 20) 0)) + (M 11 0)).toNatClampNeg)) = (2 : Int32) then (ms (ms M3 11 (fun _ => ((M3 11 0) + (1 : Int32)))) 25 (upd (M3 25) (f_X6_a M3 ((M 18) (((32 : Int32) * ((M 20) 0)) + (M 11 0)).toNatClampNeg)).toNatClampNeg (((M3 25) (f_X6_b M3 ((M 18) (((32 : Int32) * ((M 20) 0)) + (M 11 0)).toNatClampNeg)).toNatClampNeg) + ((M3 25) (f_X6_c M3 ((M 18) (((32 : Int32) * ((M 20) 0)) + (M 11 0)).toNatClampNeg)).toNatClampNeg)))) else (if (f_X6_op (ms M3 11 (fun _ => ((M3 11 0) + (1 : Int32)))) ((M 18) (((32 : Int32) * ((M 20) 0)) + (M 11 0)).toNatClampNeg)) = (3 : Int32) then (ms (ms M3 11 (fun _ => ((M3 11 0) + (1 : Int32)))) 25 (upd (M3 25) (f_X6_a M3 ((M 18) (((32 : Int32) * ((M 20) 0)) + (M 11 0)).toNatClampNeg)).toNatClampNeg (((M3 25) (f_X6_b M3 ((M 18) (((32 : Int32) * ((M 20) 0)) + (M 11 0)).toNatClampNeg)).toNatClampNeg) - ((M3 25) (f_X6_c M3 ((M 18) (((32 : Int32) * ((M 20) 0)) + (M 11 0)).toNatClampNeg)).toNatClampNeg)))) else (if (f_X6_op (ms M3 11 (fun _ => ((M3 11 0) + (1 : Int32)))) ((M 18) (((32 : Int32) * ((M 20) 0)) + (M 11 0)).toNatClampNeg)) = (4 : Int32) then (ms (ms M3 11 (fun _ => ((M3 11 0) + (1 : Int32)))) 25 (upd (M3 25) (f_X6_a M3 ((M 18) (((32 : Int32) * ((M 20) 0)) + (M 11 0)).toNatClampNeg)).toNatClampNeg (((M3 25) (f_X6_b M3 ((M 18) (((32 : Int32) * ((M 20) 0)) + (M 11 0)).toNatClampNeg)).toNatClampNeg) * ((M3 25) (f_X6_c M3 ((M 18) (((32 : Int32) * ((M 20) 0)) + (M 11 0)).toNatClampNeg)).toNatClampNeg)))) else (if (f_X6_op (ms M3 11 (fun _ => ((M3 11 0) + (1 : Int32)))) ((M 18) (((32 : Int32) * ((M 20) 0)) + (M 11 0)).toNatClampNeg)) = (5 : Int32) then (ms (ms M3 11 (fun _ => ((M3 11 0) + (1 : Int32)))) 25 (upd (M3 25) (f_X6_a M3 ((M 18) (((32 : Int32) * ((M 20) 0)) + (M 11 0)).toNatClampNeg)).toNatClampNeg (((M3 25) (f_X6_b M3 ((M 18) (((32 : Int32) * ((M 20) 0)) + (M 11 0)).toNatClampNeg)).toNatClampNeg) ^^^ ((M3 25) (f_X6_c M3 ((M 18) (((32 : Int32) * ((M 20) 0)) + (M 11 0)).toNatClampNeg)).toNatClampNeg)))) else (if (f_X6_op (ms M3 11 (fun _ => ((M3 11 0) + (1 : Int32)))) ((M 18) (((32 : Int32) * ((M 20) 0)) + (M 11 0)).toNatClampNeg)) = (6 : Int32) then (if ((M3 25) (f_X6_a M3 ((M 18) (((32 : Int32) * ((M 20) 0)) + (M 11 0)).toNatClampNeg)).toNatClampNeg) = 0 then (ms (ms M3 11 (fun _ => ((M3 11 0) + (1 : Int32)))) 11 (fun _ => (f_X6_b M3 ((M 18) (((32 : Int32) * ((M 20) 0)) + (M 11 0)).toNatClampNeg)))) else (ms M3 11 (fun _ => ((M3 11 0) + (1 : Int32))))) else (if (f_X6_op (ms M3 11 (fun _ => ((M3 11 0) + (1 : Int32)))) ((M 18) (((32 : Int32) * ((M 20) 0)) + (M 11 0)).toNatClampNeg)) = (7 : Int32) then (ms (ms M3 11 (fun _ => ((M3 11 0) + (1 : Int32)))) 11 (fun _ => (f_X6_b M3 ((M 18) (((32 : Int32) * ((M 20) 0)) + (M 11 0)).toNatClampNeg)))) else (if (f_X6_op (ms M3 11 (fun _ => ((M3 11 0) + (1 : Int32)))) ((M 18) (((32 : Int32) * ((M 20) 0)) + (M 11 0)).toNatClampNeg)) = (8 : Int32) then (ms (ms M3 11 (fun _ => ((M3 11 0) + (1 : Int32)))) 25 (upd (M3 25) (f_X6_a M3 ((M 18) (((32 : Int32) * ((M 20) 0)) + (M 11 0)).toNatClampNeg)).toNatClampNeg (f_X6_see (ms M3 11 (fun _ => ((M3 11 0) + (1 : Int32)))) ((8 : Int32) + (f_X6_b M3 ((M 18) (((32 : Int32) * ((M 20) 0)) + (M 11 0)).toNatClampNeg)))))) else (if (f_X6_op (ms M3 11 (fun _ => ((M3 11 0) + (1 : Int32)))) ((M 18) (((32 : Int32) * ((M 20) 0)) + (M 11 0)).toNatClampNeg)) = (9 : Int32) then (if (f_X6_hasRoom (ms M3 11 (fun _ => ((M3 11 0) + (1 : Int32)))) ((8 : Int32) + (f_X6_b M3 ((M 18) (((32 : Int32) * ((M 20) 0)) + (M 11 0)).toNatClampNeg))) ((8 : Int32) + (f_X6_b M3 ((M 18) (((32 : Int32) * ((M 20) 0)) + (M 11 0)).toNatClampNeg)))) = 0 then (ms M3 11 (fun _ => ((M3 11 0) + (1 : Int32)))) else (bv (f_X6_put (ms M3 11 (fun _ => ((M3 11 0) + (1 : Int32)))) ((8 : Int32) + (f_X6_b M3 ((M 18) (((32 : Int32) * ((M 20) 0)) + (M 11 0)).toNatClampNeg))) ((M3 25) (f_X6_a M3 ((M 18) (((32 : Int32) * ((M 20) 0)) + (M 11 0)).toNatClampNeg)).toNatClampNeg)) (fun M43 => M43))) else (if (f_X6_op (ms M3 11 (fun _ => ((M3 11 0) + (1 : Int32)))) ((M 18) (((32 : Int32) * ((M 20) 0)) + (M 11 0)).toNatClampNeg)) = (10 : Int32) then (ms (ms M3 11 (fun _ => ((M3 11 0) + (1 : Int32)))) 25 (upd (M3 25) (f_X6_a M3 ((M 18) (((32 : Int32) * ((M 20) 0)) + (M 11 0)).toNatClampNeg)).toNatClampNeg (f_X6_see (ms M3 11 (fun _ => ((M3 11 0) + (1 : Int32)))) (((24 : Int32) + ((8 : Int32) * (f_X6_b M3 ((M 18) (((32 : Int32) * ((M 20) 0)) + (M 11 0)).toNatClampNeg)))) + (((M3 25) (f_X6_c M3 ((M 18) (((32 : Int32) * ((M 20) 0)) + (M 11 0)).toNatClampNeg)).toNatClampNeg) &&& (7 : Int32)))))) else (if (f_X6_op (ms M3 11 (fun _ => ((M3 11 0) + (1 : Int32)))) ((M 18) (((32 : Int32) * ((M 20) 0)) + (M 11 0)).toNatClampNeg)) = (11 : Int32) then (if (f_X6_hasRoom (ms M3 11 (fun _ => ((M3 11 0) + (1 : Int32)))) (((24 : Int32) + ((8 : Int32) * (f_X6_b M3 ((M 18) (((32 : Int32) * ((M 20) 0)) + (M 11 0)).toNatClampNeg)))) + (((M3 25) (f_X6_c M3 ((M 18) (((32 : Int32) * ((M 20) 0)) + (M 11 0)).toNatClampNeg)).toNatClampNeg) &&& (7 : Int32))) (((24 : Int32) + ((8 : Int32) * (f_X6_b M3 ((M 18) (((32 : Int32) * ((M 20) 0)) + (M 11 0)).toNatClampNeg)))) + (((M3 25) (f_X6_c M3 ((M 18) (((32 : Int32) * ((M 20) 0)) + (M 11 0)).toNatClampNeg)).toNatClampNeg) &&& (7 : Int32)))) = 0 then (ms M3 11 (fun _ => ((M3 11 0) + (1 : Int32)))) else (bv (f_X6_put (ms M3 11 (fun _ => ((M3 11 0) + (1 : Int32)))) (((24 : Int32) + ((8 : Int32) * (f_X6_b M3 ((M 18) (((32 : Int32) * ((M 20) 0)) + (M 11 0)).toNatClampNeg)))) + (((M3 25) (f_X6_c M3 ((M 18) (((32 : Int32) * ((M 20) 0)) + (M 11 0)).toNatClampNeg)).toNatClampNeg) &&& (7 : Int32))) ((M3 25) (f_X6_a M3 ((M 18) (((32 : Int32) * ((M 20) 0)) + (M 11 0)).toNatClampNeg)).toNatClampNeg)) (fun M55 => M55))) else (if (f_X6_op (ms M3 11 (fun _ => ((M3 11 0) + (1 : Int32)))) ((M 18) (((32 : Int32) * ((M 20) 0)) + (M 11 0)).toNatClampNeg)) = (12 : Int32) then (bv (f_X6_push (ms M3 11 (fun _ => ((M3 11 0) + (1 : Int32)))) (f_X6_b M3 ((M 18) (((32 : Int32) * ((M 20) 0)) + (M 11 0)).toNatClampNeg)) ((M3 25) (f_X6_a M3 ((M 18) (((32 : Int32) * ((M 20) 0)) + (M 11 0)).toNatClampNeg)).toNatClampNeg)) (fun M61 => M61)) else (if (f_X6_op (ms M3 11 (fun _ => ((M3 11 0) + (1 : Int32)))) ((M 18) (((32 : Int32) * ((M 20) 0)) + (M 11 0)).toNatClampNeg)) = (13 : Int32) then (bv (f_X6_pop (ms M3 11 (fun _ => ((M3 11 0) + (1 : Int32)))) (f_X6_b M3 ((M 18) (((32 : Int32) * ((M 20) 0)) + (M 11 0)).toNatClampNeg)) (f_X6_a M3 ((M 18) (((32 : Int32) * ((M 20) 0)) + (M 11 0)).toNatClampNeg))) (fun M65 => M65)) else (if (f_X6_op (ms M3 11 (fun _ => ((M3 11 0) + (1 : Int32)))) ((M 18) (((32 : Int32) * ((M 20) 0)) + (M 11 0)).toNatClampNeg)) = (14 : Int32) then (ms (ms M3 11 (fun _ => ((M3 11 0) + (1 : Int32)))) 25 (upd (M3 25) (f_X6_a M3 ((M 18) (((32 : Int32) * ((M 20) 0)) + (M 11 0)).toNatClampNeg)).toNatClampNeg ((M3 22) (f_X6_b M3 ((M 18) (((32 : Int32) * ((M 20) 0)) + (M 11 0)).toNatClampNeg)).toNatClampNeg))) else (if (f_X6_op (ms M3 11 (fun _ => ((M3 11 0) + (1 : Int32)))) ((M 18) (((32 : Int32) * ((M 20) 0)) + (M 11 0)).toNatClampNeg)) = (15 : Int32) then (bv (f_X6_sendFrame (ms M3 11 (fun _ => ((M3 11 0) + (1 : Int32)))) ((M3 25) (f_X6_a M3 ((M 18) (((32 : Int32) * ((M 20) 0)) + (M 11 0)).toNatClampNeg)).toNatClampNeg)) (fun M71 => M71)) else (if (f_X6_op (ms M3 11 (fun _ => ((M3 11 0) + (1 : Int32)))) ((M 18) (((32 : Int32) * ((M 20) 0)) + (M 11 0)).toNatClampNeg)) = (16 : Int32) then (ms (ms M3 11 (fun _ => ((M3 11 0) + (1 : Int32)))) 13 (fun _ => (M3 3 0))) else (if (M3 13 0) = (-1 : Int32) then (ms M3 11 (fun _ => ((M3 11 0) + (1 : Int32)))) else (if ((M3 3 0) - (M3 13 0)) ≤ (f_X6_a M3 ((M 18) (((32 : Int32) * ((M 20) 0)) + (M 11 0)).toNatClampNeg)) then (ms M3 11 (fun _ => ((M3 11 0) + (1 : Int32)))) else (bv (f_X6_endAttempt (ms (ms (ms (ms M3 11 (fun _ => ((M3 11 0) + (1 : Int32)))) 7 (fun _ => ((M3 7 0) + (1 : Int32)))) 4 (fun _ => (2 : Int32))) 10 (fun _ => (0 : Int32)))) (fun M77 => M77))))))))))))))))))))))))
def ok_X6_runStep (M : Mem) : Prop := vp_in (((32 : Int32) * ((M 20) 0)) + (M 11 0)) 512 ∧ ok_X6_pays M (f_X6_cost M (f_X6_op M ((M 18) (((32 : Int32) * ((M 20) 0)) + (M 11 0)).toNatClampNeg))) ∧ (bc (f_X6_pays M (f_X6_cost M (f_X6_op M ((M 18) (((32 : Int32) * ((M 20) 0)) + (M 11 0)).toNatClampNeg)))) (fun M3 r3 => (if r3 = 0 then True else (if (f_X6_op (ms M3 11 (fun _ => ((M3 11 0) + (1 : Int32)))) ((M 18) (((32 : Int32) * ((M 20) 0)) + (M 11 0)).toNatClampNeg)) = (0 : Int32) then vp_in (M3 14 0) 40 ∧ vp_in (M3 14 0) 40 ∧ vp_in ((M3 14 0) + (1 : Int32)) 40 ∧ vp_in ((M3 14 0) + (1 : Int32)) 40 else (if (f_X6_op (ms M3 11 (fun _ => ((M3 11 0) + (1 : Int32)))) ((M 18) (((32 : Int32) * ((M 20) 0)) + (M 11 0)).toNatClampNeg)) = (1 : Int32) then vp_in (f_X6_a M3 ((M 18) (((32 : Int32) * ((M 20) 0)) + (M 11 0)).toNatClampNeg)) 8 else (if (f_X6_op (ms M3 11 (fun _ => ((M3 11 0) + (1 : Int32)))) ((M 18) (((32 : Int32) * ((M 20) 0)) + (M 11 0)).toNatClampNeg)) = (2 : Int32) then vp_in (f_X6_b M3 ((M 18) (((32 : Int32) * ((M 20) 0)) + (M 11 0)).toNatClampNeg)) 8 ∧ vp_in (f_X6_c M3 ((M 18) (((32 : Int32) * ((M 20) 0)) + (M 11 0)).toNatClampNeg)) 8 ∧ vp_in (f_X6_a M3 ((M 18) (((32 : Int32) * ((M 20) 0)) + (M 11 0)).toNatClampNeg)) 8 else (if (f_X6_op (ms M3 11 (fun _ => ((M3 11 0) + (1 : Int32)))) ((M 18) (((32 : Int32) * ((M 20) 0)) + (M 11 0)).toNatClampNeg)) = (3 : Int32) then vp_in (f_X6_b M3 ((M 18) (((32 : Int32) * ((M 20) 0)) + (M 11 0)).toNatClampNeg)) 8 ∧ vp_in (f_X6_c M3 ((M 18) (((32 : Int32) * ((M 20) 0)) + (M 11 0)).toNatClampNeg)) 8 ∧ vp_in (f_X6_a M3 ((M 18) (((32 : Int32) * ((M 20) 0)) + (M 11 0)).toNatClampNeg)) 8 else (if (f_X6_op (ms M3 11 (fun _ => ((M3 11 0) + (1 : Int32)))) ((M 18) (((32 : Int32) * ((M 20) 0)) + (M 11 0)).toNatClampNeg)) = (4 : Int32) then vp_in (f_X6_b M3 ((M 18) (((32 : Int32) * ((M 20) 0)) + (M 11 0)).toNatClampNeg)) 8 ∧ vp_in (f_X6_c M3 ((M 18) (((32 : Int32) * ((M 20) 0)) + (M 11 0)).toNatClampNeg)) 8 ∧ vp_in (f_X6_a M3 ((M 18) (((32 : Int32) * ((M 20) 0)) + (M 11 0)).toNatClampNeg)) 8 else (if (f_X6_op (ms M3 11 (fun _ => ((M3 11 0) + (1 : Int32)))) ((M 18) (((32 : Int32) * ((M 20) 0)) + (M 11 0)).toNatClampNeg)) = (5 : Int32) then vp_in (f_X6_b M3 ((M 18) (((32 : Int32) * ((M 20) 0)) + (M 11 0)).toNatClampNeg)) 8 ∧ vp_in (f_X6_c M3 ((M 18) (((32 : Int32) * ((M 20) 0)) + (M 11 0)).toNatClampNeg)) 8 ∧ vp_in (f_X6_a M3 ((M 18) (((32 : Int32) * ((M 20) 0)) + (M 11 0)).toNatClampNeg)) 8 else (if (f_X6_op (ms M3 11 (fun _ => ((M3 11 0) + (1 : Int32)))) ((M 18) (((32 : Int32) * ((M 20) 0)) + (M 11 0)).toNatClampNeg)) = (6 : Int32) then vp_in (f_X6_a M3 ((M 18) (((32 : Int32) * ((M 20) 0)) + (M 11 0)).toNatClampNeg)) 8 else (if (f_X6_op (ms M3 11 (fun _ => ((M3 11 0) + (1 : Int32)))) ((M 18) (((32 : Int32) * ((M 20) 0)) + (M 11 0)).toNatClampNeg)) = (7 : Int32) then True else (if (f_X6_op (ms M3 11 (fun _ => ((M3 11 0) + (1 : Int32)))) ((M 18) (((32 : Int32) * ((M 20) 0)) + (M 11 0)).toNatClampNeg)) = (8 : Int32) then ok_X6_see (ms M3 11 (fun _ => ((M3 11 0) + (1 : Int32)))) ((8 : Int32) + (f_X6_b M3 ((M 18) (((32 : Int32) * ((M 20) 0)) + (M 11 0)).toNatClampNeg))) ∧ vp_in (f_X6_a M3 ((M 18) (((32 : Int32) * ((M 20) 0)) + (M 11 0)).toNatClampNeg)) 8 else (if (f_X6_op (ms M3 11 (fun _ => ((M3 11 0) + (1 : Int32)))) ((M 18) (((32 : Int32) * ((M 20) 0)) + (M 11 0)).toNatClampNeg)) = (9 : Int32) then ok_X6_hasRoom (ms M3 11 (fun _ => ((M3 11 0) + (1 : Int32)))) ((8 : Int32) + (f_X6_b M3 ((M 18) (((32 : Int32) * ((M 20) 0)) + (M 11 0)).toNatClampNeg))) ((8 : Int32) + (f_X6_b M3 ((M 18) (((32 : Int32) * ((M 20) 0)) + (M 11 0)).toNatClampNeg))) ∧ (if (f_X6_hasRoom (ms M3 11 (fun _ => ((M3 11 0) + (1 : Int32)))) ((8 : Int32) + (f_X6_b M3 ((M 18) (((32 : Int32) * ((M 20) 0)) + (M 11 0)).toNatClampNeg))) ((8 : Int32) + (f_X6_b M3 ((M 18) (((32 : Int32) * ((M 20) 0)) + (M 11 0)).toNatClampNeg)))) = 0 then True else vp_in (f_X6_a M3 ((M 18) (((32 : Int32) * ((M 20) 0)) + (M 11 0)).toNatClampNeg)) 8 ∧ ok_X6_put (ms M3 11 (fun _ => ((M3 11 0) + (1 : Int32)))) ((8 : Int32) + (f_X6_b M3 ((M 18) (((32 : Int32) * ((M 20) 0)) + (M 11 0)).toNatClampNeg))) ((M3 25) (f_X6_a M3 ((M 18) (((32 : Int32) * ((M 20) 0)) + (M 11 0)).toNatClampNeg)).toNatClampNeg)) else (if (f_X6_op (ms M3 11 (fun _ => ((M3 11 0) + (1 : Int32)))) ((M 18) (((32 : Int32) * ((M 20) 0)) + (M 11 0)).toNatClampNeg)) = (10 : Int32) then vp_in (f_X6_c M3 ((M 18) (((32 : Int32) * ((M 20) 0)) + (M 11 0)).toNatClampNeg)) 8 ∧ ok_X6_see (ms M3 11 (fun _ => ((M3 11 0) + (1 : Int32)))) (((24 : Int32) + ((8 : Int32) * (f_X6_b M3 ((M 18) (((32 : Int32) * ((M 20) 0)) + (M 11 0)).toNatClampNeg)))) + (((M3 25) (f_X6_c M3 ((M 18) (((32 : Int32) * ((M 20) 0)) + (M 11 0)).toNatClampNeg)).toNatClampNeg) &&& (7 : Int32))) ∧ vp_in (f_X6_a M3 ((M 18) (((32 : Int32) * ((M 20) 0)) + (M 11 0)).toNatClampNeg)) 8 else (if (f_X6_op (ms M3 11 (fun _ => ((M3 11 0) + (1 : Int32)))) ((M 18) (((32 : Int32) * ((M 20) 0)) + (M 11 0)).toNatClampNeg)) = (11 : Int32) then vp_in (f_X6_c M3 ((M 18) (((32 : Int32) * ((M 20) 0)) + (M 11 0)).toNatClampNeg)) 8 ∧ ok_X6_hasRoom (ms M3 11 (fun _ => ((M3 11 0) + (1 : Int32)))) (((24 : Int32) + ((8 : Int32) * (f_X6_b M3 ((M 18) (((32 : Int32) * ((M 20) 0)) + (M 11 0)).toNatClampNeg)))) + (((M3 25) (f_X6_c M3 ((M 18) (((32 : Int32) * ((M 20) 0)) + (M 11 0)).toNatClampNeg)).toNatClampNeg) &&& (7 : Int32))) (((24 : Int32) + ((8 : Int32) * (f_X6_b M3 ((M 18) (((32 : Int32) * ((M 20) 0)) + (M 11 0)).toNatClampNeg)))) + (((M3 25) (f_X6_c M3 ((M 18) (((32 : Int32) * ((M 20) 0)) + (M 11 0)).toNatClampNeg)).toNatClampNeg) &&& (7 : Int32))) ∧ (if (f_X6_hasRoom (ms M3 11 (fun _ => ((M3 11 0) + (1 : Int32)))) (((24 : Int32) + ((8 : Int32) * (f_X6_b M3 ((M 18) (((32 : Int32) * ((M 20) 0)) + (M 11 0)).toNatClampNeg)))) + (((M3 25) (f_X6_c M3 ((M 18) (((32 : Int32) * ((M 20) 0)) + (M 11 0)).toNatClampNeg)).toNatClampNeg) &&& (7 : Int32))) (((24 : Int32) + ((8 : Int32) * (f_X6_b M3 ((M 18) (((32 : Int32) * ((M 20) 0)) + (M 11 0)).toNatClampNeg)))) + (((M3 25) (f_X6_c M3 ((M 18) (((32 : Int32) * ((M 20) 0)) + (M 11 0)).toNatClampNeg)).toNatClampNeg) &&& (7 : Int32)))) = 0 then True else vp_in (f_X6_a M3 ((M 18) (((32 : Int32) * ((M 20) 0)) + (M 11 0)).toNatClampNeg)) 8 ∧ ok_X6_put (ms M3 11 (fun _ => ((M3 11 0) + (1 : Int32)))) (((24 : Int32) + ((8 : Int32) * (f_X6_b M3 ((M 18) (((32 : Int32) * ((M 20) 0)) + (M 11 0)).toNatClampNeg)))) + (((M3 25) (f_X6_c M3 ((M 18) (((32 : Int32) * ((M 20) 0)) + (M 11 0)).toNatClampNeg)).toNatClampNeg) &&& (7 : Int32))) ((M3 25) (f_X6_a M3 ((M 18) (((32 : Int32) * ((M 20) 0)) + (M 11 0)).toNatClampNeg)).toNatClampNeg)) else (if (f_X6_op (ms M3 11 (fun _ => ((M3 11 0) + (1 : Int32)))) ((M 18) (((32 : Int32) * ((M 20) 0)) + (M 11 0)).toNatClampNeg)) = (12 : Int32) then vp_in (f_X6_a M3 ((M 18) (((32 : Int32) * ((M 20) 0)) + (M 11 0)).toNatClampNeg)) 8 ∧ ok_X6_push (ms M3 11 (fun _ => ((M3 11 0) + (1 : Int32)))) (f_X6_b M3 ((M 18) (((32 : Int32) * ((M 20) 0)) + (M 11 0)).toNatClampNeg)) ((M3 25) (f_X6_a M3 ((M 18) (((32 : Int32) * ((M 20) 0)) + (M 11 0)).toNatClampNeg)).toNatClampNeg) else (if (f_X6_op (ms M3 11 (fun _ => ((M3 11 0) + (1 : Int32)))) ((M 18) (((32 : Int32) * ((M 20) 0)) + (M 11 0)).toNatClampNeg)) = (13 : Int32) then ok_X6_pop (ms M3 11 (fun _ => ((M3 11 0) + (1 : Int32)))) (f_X6_b M3 ((M 18) (((32 : Int32) * ((M 20) 0)) + (M 11 0)).toNatClampNeg)) (f_X6_a M3 ((M 18) (((32 : Int32) * ((M 20) 0)) + (M 11 0)).toNatClampNeg)) else (if (f_X6_op (ms M3 11 (fun _ => ((M3 11 0) + (1 : Int32)))) ((M 18) (((32 : Int32) * ((M 20) 0)) + (M 11 0)).toNatClampNeg)) = (14 : Int32) then vp_in (f_X6_b M3 ((M 18) (((32 : Int32) * ((M 20) 0)) + (M 11 0)).toNatClampNeg)) 4 ∧ vp_in (f_X6_a M3 ((M 18) (((32 : Int32) * ((M 20) 0)) + (M 11 0)).toNatClampNeg)) 8 else (if (f_X6_op (ms M3 11 (fun _ => ((M3 11 0) + (1 : Int32)))) ((M 18) (((32 : Int32) * ((M 20) 0)) + (M 11 0)).toNatClampNeg)) = (15 : Int32) then vp_in (f_X6_a M3 ((M 18) (((32 : Int32) * ((M 20) 0)) + (M 11 0)).toNatClampNeg)) 8 ∧ ok_X6_sendFrame (ms M3 11 (fun _ => ((M3 11 0) + (1 : Int32)))) ((M3 25) (f_X6_a M3 ((M 18) (((32 : Int32) * ((M 20) 0)) + (M 11 0)).toNatClampNeg)).toNatClampNeg) else (if (f_X6_op (ms M3 11 (fun _ => ((M3 11 0) + (1 : Int32)))) ((M 18) (((32 : Int32) * ((M 20) 0)) + (M 11 0)).toNatClampNeg)) = (16 : Int32) then True else (if (M3 13 0) = (-1 : Int32) then True else (if ((M3 3 0) - (M3 13 0)) ≤ (f_X6_a M3 ((M 18) (((32 : Int32) * ((M 20) 0)) + (M 11 0)).toNatClampNeg)) then True else ok_X6_endAttempt (ms (ms (ms (ms M3 11 (fun _ => ((M3 11 0) + (1 : Int32)))) 7 (fun _ => ((M3 7 0) + (1 : Int32)))) 4 (fun _ => (2 : Int32))) 10 (fun _ => (0 : Int32)))))))))))))))))))))))))
set_option maxRecDepth 100000 in
set_option maxHeartbeats 4000000 in
theorem k_X6_runStep_0 {p : Program} {l : Launch} {e : Env} {s : State} {m : MethodId} {args : Array Value} {below : List Frame} {meth : Method} {c : Code} {D : va_G} {cI : ClassId} {ad : Nat → Nat} {A : Nat → Prop} {cells slots : Nat} {R : Room} (hcs : cells ≤ R.cells ∧ slots ≤ R.slots) (hrf : rmX6_runStep.frames ≤ R.frames) (hrl : rmX6_runStep.locals ≤ R.locals) {res : Mem} (C : CX p s m args meth c RX6 cX6_runStep 7 none) : ∀ (M : Mem) (H : Heap) (locs : List Loc) (ls : Array Slot), ok_X6_runStep M → f_X6_runStep M = res → WH D [(cI, .int)] (wR cI ad) A s H locs M → lv_has ls 7 [(0, .ref (ad 0))] → W p l e R s m args below meth c H locs cells slots (MQ below (PV D [(cI, .int)] (wR cI ad) A res) args s cells slots A) (F0 m 0 ls []) := by
  have hx := C.1
  have hb := C.2.1
  have hown := C.2.2.2.2.1
  have hts := C.2.2.2.2.2.1
  intro M H locs ls hok hres h hl
  rw [ok_X6_runStep] at hok
  rw [f_X6_runStep] at hres
  refine lv_aload_n hx hb dX6_runStep_0 rfl (lv_at hl 0 rfl) ?_
  refine R_X6_kept_get C h in_fX6_16 dX6_runStep_1 ?_
  refine lv_iconst (v := (0 : Int32)) hx hb dX6_runStep_4 (by decide) ?_
  refine R_kept_ld (v := ((M 20) 0)) C h (vp_l (by decide)) rfl dX6_runStep_5 ?_
  refine lv_istore_n (lv' := [(1, .int ((M 20) 0)), (0, .ref (ad 0))]) hx hb dX6_runStep_6 rfl hl (by decide) rfl (fun ls hl => ?_)
  refine lv_aload_n hx hb dX6_runStep_7 rfl (lv_at hl 1 rfl) ?_
  refine R_X6_code_get C h in_fX6_7 dX6_runStep_8 ?_
  refine lv_bipush (v := (32 : Int32)) hx hb dX6_runStep_11 (by decide) ?_
  refine lv_iload_n hx hb dX6_runStep_13 rfl (lv_at hl 0 rfl) ?_
  refine lv_imul hx hb dX6_runStep_14 ?_
  refine lv_aload_n hx hb dX6_runStep_15 rfl (lv_at hl 1 rfl) ?_
  refine R_X6_next_get (v := (M 11 0)) C h in_fX6_102 rfl dX6_runStep_16 ?_
  refine lv_iadd hx hb dX6_runStep_19 ?_
  obtain ⟨h80, hok⟩ := hok
  refine R_code_ld (v := ((M 18) (((32 : Int32) * ((M 20) 0)) + (M 11 0)).toNatClampNeg)) C h h80 rfl dX6_runStep_20 ?_
  refine lv_istore_n (lv' := [(2, .int ((M 18) (((32 : Int32) * ((M 20) 0)) + (M 11 0)).toNatClampNeg)), (1, .int ((M 20) 0)), (0, .ref (ad 0))]) hx hb dX6_runStep_21 rfl hl (by decide) rfl (fun ls hl => ?_)
  refine lv_aload_n hx hb dX6_runStep_22 rfl (lv_at hl 2 rfl) ?_
  refine lv_iload_n hx hb dX6_runStep_23 rfl (lv_at hl 0 rfl) ?_
  refine wh_csip (As := [.int ((M 18) (((32 : Int32) * ((M 20) 0)) + (M 11 0)).toNatClampNeg)]) (rest := [.ref (ad 0)]) hcs C h (c_X6_op M ((M 18) (((32 : Int32) * ((M 20) 0)) + (M 11 0)).toNatClampNeg)) yw_X6_op in_mX6_67 hl.1 rfl rfl (Nat.le_of_ble_eq_true rfl) ⟨Nat.le_trans (Nat.le_of_ble_eq_true rfl) hrf, Nat.le_trans (Nat.le_of_ble_eq_true rfl) hrl⟩ dX6_runStep_24 (fun H locs h => ?_)
  refine wh_csip (As := [.int (f_X6_op M ((M 18) (((32 : Int32) * ((M 20) 0)) + (M 11 0)).toNatClampNeg))]) (rest := [.ref (ad 0)]) hcs C h (c_X6_cost M (f_X6_op M ((M 18) (((32 : Int32) * ((M 20) 0)) + (M 11 0)).toNatClampNeg))) yw_X6_cost in_mX6_142 hl.1 rfl rfl (Nat.le_of_ble_eq_true rfl) ⟨Nat.le_trans (Nat.le_of_ble_eq_true rfl) hrf, Nat.le_trans (Nat.le_of_ble_eq_true rfl) hrl⟩ dX6_runStep_27 (fun H locs h => ?_)
  obtain ⟨h79, hok⟩ := hok
  refine wh_cvz (As := [.int (f_X6_cost M (f_X6_op M ((M 18) (((32 : Int32) * ((M 20) 0)) + (M 11 0)).toNatClampNeg)))]) (rest := []) hcs C h (c_X6_pays M (f_X6_cost M (f_X6_op M ((M 18) (((32 : Int32) * ((M 20) 0)) + (M 11 0)).toNatClampNeg))) h79) yw_X6_pays in_mX6_117 hl.1 rfl rfl (Nat.le_of_ble_eq_true rfl) ⟨Nat.le_trans (Nat.le_of_ble_eq_true rfl) hrf, Nat.le_trans (Nat.le_of_ble_eq_true rfl) hrl⟩ dX6_runStep_30 (fun M3 r3 H locs e3 z3 h => ?_)
  rw [e3] at hres
  have hres := bc_e hres
  rw [e3] at hok
  have hok := bc_o hok
  refine lv_if_ne (tgt := 37) hx hb dX6_runStep_33 (by decide) (fun c4 => ?_) (fun c4 => ?_)
  · have hres := it_n hres c4
    have hok := io_n hok c4
    refine lv_iload_n hx hb dX6_runStep_37 rfl (lv_at hl 0 rfl) ?_
    refine wh_csip (As := [.int ((M 18) (((32 : Int32) * ((M 20) 0)) + (M 11 0)).toNatClampNeg)]) (rest := []) hcs C h (c_X6_a M3 ((M 18) (((32 : Int32) * ((M 20) 0)) + (M 11 0)).toNatClampNeg)) yw_X6_a in_mX6_71 hl.1 rfl rfl (Nat.le_of_ble_eq_true rfl) ⟨Nat.le_trans (Nat.le_of_ble_eq_true rfl) hrf, Nat.le_trans (Nat.le_of_ble_eq_true rfl) hrl⟩ dX6_runStep_38 (fun H locs h => ?_)
    refine lv_istore_n (lv' := [(3, .int (f_X6_a M3 ((M 18) (((32 : Int32) * ((M 20) 0)) + (M 11 0)).toNatClampNeg))), (2, .int ((M 18) (((32 : Int32) * ((M 20) 0)) + (M 11 0)).toNatClampNeg)), (1, .int ((M 20) 0)), (0, .ref (ad 0))]) hx hb dX6_runStep_41 rfl hl (by decide) rfl (fun ls hl => ?_)
    refine lv_iload_n hx hb dX6_runStep_42 rfl (lv_at hl 1 rfl) ?_
    refine wh_csip (As := [.int ((M 18) (((32 : Int32) * ((M 20) 0)) + (M 11 0)).toNatClampNeg)]) (rest := []) hcs C h (c_X6_b M3 ((M 18) (((32 : Int32) * ((M 20) 0)) + (M 11 0)).toNatClampNeg)) yw_X6_b in_mX6_74 hl.1 rfl rfl (Nat.le_of_ble_eq_true rfl) ⟨Nat.le_trans (Nat.le_of_ble_eq_true rfl) hrf, Nat.le_trans (Nat.le_of_ble_eq_true rfl) hrl⟩ dX6_runStep_43 (fun H locs h => ?_)
    refine lv_istore (lv' := [(4, .int (f_X6_b M3 ((M 18) (((32 : Int32) * ((M 20) 0)) + (M 11 0)).toNatClampNeg))), (3, .int (f_X6_a M3 ((M 18) (((32 : Int32) * ((M 20) 0)) + (M 11 0)).toNatClampNeg))), (2, .int ((M 18) (((32 : Int32) * ((M 20) 0)) + (M 11 0)).toNatClampNeg)), (1, .int ((M 20) 0)), (0, .ref (ad 0))]) hx hb dX6_runStep_46 hl (by decide) rfl (fun ls hl => ?_)
    refine lv_iload_n hx hb dX6_runStep_48 rfl (lv_at hl 2 rfl) ?_
    refine wh_csip (As := [.int ((M 18) (((32 : Int32) * ((M 20) 0)) + (M 11 0)).toNatClampNeg)]) (rest := []) hcs C h (c_X6_c M3 ((M 18) (((32 : Int32) * ((M 20) 0)) + (M 11 0)).toNatClampNeg)) yw_X6_c in_mX6_77 hl.1 rfl rfl (Nat.le_of_ble_eq_true rfl) ⟨Nat.le_trans (Nat.le_of_ble_eq_true rfl) hrf, Nat.le_trans (Nat.le_of_ble_eq_true rfl) hrl⟩ dX6_runStep_49 (fun H locs h => ?_)
    refine lv_istore (lv' := [(5, .int (f_X6_c M3 ((M 18) (((32 : Int32) * ((M 20) 0)) + (M 11 0)).toNatClampNeg))), (4, .int (f_X6_b M3 ((M 18) (((32 : Int32) * ((M 20) 0)) + (M 11 0)).toNatClampNeg))), (3, .int (f_X6_a M3 ((M 18) (((32 : Int32) * ((M 20) 0)) + (M 11 0)).toNatClampNeg))), (2, .int ((M 18) (((32 : Int32) * ((M 20) 0)) + (M 11 0)).toNatClampNeg)), (1, .int ((M 20) 0)), (0, .ref (ad 0))]) hx hb dX6_runStep_52 hl (by decide) rfl (fun ls hl => ?_)
    refine lv_aload_n hx hb dX6_runStep_54 rfl (lv_at hl 5 rfl) ?_
    refine lv_dup hx hb dX6_runStep_55 rfl ?_
    refine R_X6_next_get (v := (M3 11 0)) C h in_fX6_102 rfl dX6_runStep_56 ?_
    refine lv_iconst (v := (1 : Int32)) hx hb dX6_runStep_59 (by decide) ?_
    refine lv_iadd hx hb dX6_runStep_60 ?_
    refine R_X6_next_put (v := ((M3 11 0) + (1 : Int32))) (M2 := (ms M3 11 (fun _ => ((M3 11 0) + (1 : Int32))))) C h in_fX6_102 rfl dX6_runStep_61 (fun H locs h => ?_)
    refine lv_iload_n hx hb dX6_runStep_64 rfl (lv_at hl 3 rfl) ?_
    refine wh_csip (As := [.int ((M 18) (((32 : Int32) * ((M 20) 0)) + (M 11 0)).toNatClampNeg)]) (rest := []) hcs C h (c_X6_op (ms M3 11 (fun _ => ((M3 11 0) + (1 : Int32)))) ((M 18) (((32 : Int32) * ((M 20) 0)) + (M 11 0)).toNatClampNeg)) yw_X6_op in_mX6_67 hl.1 rfl rfl (Nat.le_of_ble_eq_true rfl) ⟨Nat.le_trans (Nat.le_of_ble_eq_true rfl) hrf, Nat.le_trans (Nat.le_of_ble_eq_true rfl) hrl⟩ dX6_runStep_65 (fun H locs h => ?_)
    refine (Classical.em ((f_X6_op (ms M3 11 (fun _ => ((M3 11 0) + (1 : Int32)))) ((M 18) (((32 : Int32) * ((M 20) 0)) + (M 11 0)).toNatClampNeg)) = (0 : Int32))).elim (fun c9 => ?_) (fun c9 => ?_)
    · have hres := it_p hres c9
      have hok := io_p hok c9
      refine sw_in (k := (0 : Int32)) (tgt := 152) c9 hx hb dX6_runStep_68 (by decide) (by decide) rfl (by decide) ?_
      refine lv_aload_n hx hb dX6_runStep_152 rfl (lv_at hl 5 rfl) ?_
      refine lv_iconst (v := (4 : Int32)) hx hb dX6_runStep_153 (by decide) ?_
      refine R_X6_phase_put (v := (4 : Int32)) (M2 := (ms (ms M3 11 (fun _ => ((M3 11 0) + (1 : Int32)))) 4 (fun _ => (4 : Int32)))) C h in_fX6_93 rfl dX6_runStep_154 (fun H locs h => ?_)
      refine lv_aload_n hx hb dX6_runStep_157 rfl (lv_at hl 5 rfl) ?_
      refine R_X6_where_get C h in_fX6_38 dX6_runStep_158 ?_
      refine lv_aload_n hx hb dX6_runStep_161 rfl (lv_at hl 5 rfl) ?_
      refine R_X6_pending_get (v := (M3 14 0)) C h in_fX6_84 rfl dX6_runStep_162 ?_
      refine lv_iconst (v := (0 : Int32)) hx hb dX6_runStep_165 (by decide) ?_
      obtain ⟨h13, hok⟩ := hok
      refine R_where_st (M2 := (ms (ms (ms M3 11 (fun _ => ((M3 11 0) + (1 : Int32)))) 4 (fun _ => (4 : Int32))) 26 (upd (M3 26) (M3 14 0).toNatClampNeg (0 : Int32)))) C h h13 rfl dX6_runStep_166 (fun H locs h => ?_)
      refine lv_aload_n hx hb dX6_runStep_167 rfl (lv_at hl 5 rfl) ?_
      refine R_X6_what_get C h in_fX6_41 dX6_runStep_168 ?_
      refine lv_aload_n hx hb dX6_runStep_171 rfl (lv_at hl 5 rfl) ?_
      refine R_X6_pending_get (v := (M3 14 0)) C h in_fX6_84 rfl dX6_runStep_172 ?_
      refine lv_iload_n hx hb dX6_runStep_175 rfl (lv_at hl 2 rfl) ?_
      obtain ⟨h12, hok⟩ := hok
      refine R_what_st (M2 := (ms (ms (ms (ms M3 11 (fun _ => ((M3 11 0) + (1 : Int32)))) 4 (fun _ => (4 : Int32))) 26 (upd (M3 26) (M3 14 0).toNatClampNeg (0 : Int32))) 27 (upd (M3 27) (M3 14 0).toNatClampNeg (f_X6_a M3 ((M 18) (((32 : Int32) * ((M 20) 0)) + (M 11 0)).toNatClampNeg))))) C h h12 rfl dX6_runStep_176 (fun H locs h => ?_)
      refine lv_aload_n hx hb dX6_runStep_177 rfl (lv_at hl 5 rfl) ?_
      refine R_X6_where_get C h in_fX6_38 dX6_runStep_178 ?_
      refine lv_aload_n hx hb dX6_runStep_181 rfl (lv_at hl 5 rfl) ?_
      refine R_X6_pending_get (v := (M3 14 0)) C h in_fX6_84 rfl dX6_runStep_182 ?_
      refine lv_iconst (v := (1 : Int32)) hx hb dX6_runStep_185 (by decide) ?_
      refine lv_iadd hx hb dX6_runStep_186 ?_
      refine lv_iconst (v := (1 : Int32)) hx hb dX6_runStep_187 (by decide) ?_
      obtain ⟨h11, hok⟩ := hok
      refine R_where_st (M2 := (ms (ms (ms (ms (ms M3 11 (fun _ => ((M3 11 0) + (1 : Int32)))) 4 (fun _ => (4 : Int32))) 26 (upd (M3 26) (M3 14 0).toNatClampNeg (0 : Int32))) 27 (upd (M3 27) (M3 14 0).toNatClampNeg (f_X6_a M3 ((M 18) (((32 : Int32) * ((M 20) 0)) + (M 11 0)).toNatClampNeg)))) 26 (upd (upd (M3 26) (M3 14 0).toNatClampNeg (0 : Int32)) ((M3 14 0) + (1 : Int32)).toNatClampNeg (1 : Int32)))) C h h11 rfl dX6_runStep_188 (fun H locs h => ?_)
      refine lv_aload_n hx hb dX6_runStep_189 rfl (lv_at hl 5 rfl) ?_
      refine R_X6_what_get C h in_fX6_41 dX6_runStep_190 ?_
      refine lv_aload_n hx hb dX6_runStep_193 rfl (lv_at hl 5 rfl) ?_
      refine R_X6_pending_get (v := (M3 14 0)) C h in_fX6_84 rfl dX6_runStep_194 ?_
      refine lv_iconst (v := (1 : Int32)) hx hb dX6_runStep_197 (by decide) ?_
      refine lv_iadd hx hb dX6_runStep_198 ?_
      refine lv_aload_n hx hb dX6_runStep_199 rfl (lv_at hl 5 rfl) ?_
      refine R_X6_kept_get C h in_fX6_16 dX6_runStep_200 ?_
      refine lv_iconst (v := (1 : Int32)) hx hb dX6_runStep_203 (by decide) ?_
      refine R_kept_ld (v := ((M3 20) 1)) C h (vp_l (by decide)) rfl dX6_runStep_204 ?_
      refine lv_iconst (v := (1 : Int32)) hx hb dX6_runStep_205 (by decide) ?_
      refine lv_iadd hx hb dX6_runStep_206 ?_
      have h10 := hok
      refine R_what_st (M2 := (ms (ms (ms (ms (ms (ms M3 11 (fun _ => ((M3 11 0) + (1 : Int32)))) 4 (fun _ => (4 : Int32))) 26 (upd (M3 26) (M3 14 0).toNatClampNeg (0 : Int32))) 27 (upd (M3 27) (M3 14 0).toNatClampNeg (f_X6_a M3 ((M 18) (((32 : Int32) * ((M 20) 0)) + (M 11 0)).toNatClampNeg)))) 26 (upd (upd (M3 26) (M3 14 0).toNatClampNeg (0 : Int32)) ((M3 14 0) + (1 : Int32)).toNatClampNeg (1 : Int32))) 27 (upd (upd (M3 27) (M3 14 0).toNatClampNeg (f_X6_a M3 ((M 18) (((32 : Int32) * ((M 20) 0)) + (M 11 0)).toNatClampNeg))) ((M3 14 0) + (1 : Int32)).toNatClampNeg (((M3 20) 1) + (1 : Int32))))) C h h10 rfl dX6_runStep_207 (fun H locs h => ?_)
      refine lv_aload_n hx hb dX6_runStep_208 rfl (lv_at hl 5 rfl) ?_
      refine lv_iconst (v := (0 : Int32)) hx hb dX6_runStep_209 (by decide) ?_
      refine R_X6_commitStep_put (v := (0 : Int32)) (M2 := (ms (ms (ms (ms (ms (ms (ms M3 11 (fun _ => ((M3 11 0) + (1 : Int32)))) 4 (fun _ => (4 : Int32))) 26 (upd (M3 26) (M3 14 0).toNatClampNeg (0 : Int32))) 27 (upd (M3 27) (M3 14 0).toNatClampNeg (f_X6_a M3 ((M 18) (((32 : Int32) * ((M 20) 0)) + (M 11 0)).toNatClampNeg)))) 26 (upd (upd (M3 26) (M3 14 0).toNatClampNeg (0 : Int32)) ((M3 14 0) + (1 : Int32)).toNatClampNeg (1 : Int32))) 27 (upd (upd (M3 27) (M3 14 0).toNatClampNeg (f_X6_a M3 ((M 18) (((32 : Int32) * ((M 20) 0)) + (M 11 0)).toNatClampNeg))) ((M3 14 0) + (1 : Int32)).toNatClampNeg (((M3 20) 1) + (1 : Int32)))) 15 (fun _ => (0 : Int32)))) C h in_fX6_108 rfl dX6_runStep_210 (fun H locs h => ?_)
      refine lv_goto (tgt := 600) hx hb dX6_runStep_213 (by decide) ?_
      exact wh_vret C h hres dX6_runStep_600
    · have hres := it_n hres c9
      have hok := io_n hok c9
      refine (Classical.em ((f_X6_op (ms M3 11 (fun _ => ((M3 11 0) + (1 : Int32)))) ((M 18) (((32 : Int32) * ((M 20) 0)) + (M 11 0)).toNatClampNeg)) = (1 : Int32))).elim (fun c14 => ?_) (fun c14 => ?_)
      · have hres := it_p hres c14
        have hok := io_p hok c14
        refine sw_in (k := (1 : Int32)) (tgt := 216) c14 hx hb dX6_runStep_68 (by decide) (by decide) rfl (by decide) ?_
        refine lv_aload_n hx hb dX6_runStep_216 rfl (lv_at hl 5 rfl) ?_
        refine R_X6_register_get C h in_fX6_35 dX6_runStep_217 ?_
        refine lv_iload_n hx hb dX6_runStep_220 rfl (lv_at hl 2 rfl) ?_
        refine lv_sipush (v := (256 : Int32)) hx hb dX6_runStep_221 (by decide) ?_
        refine lv_iload hx hb dX6_runStep_224 (lv_at hl 1 rfl) ?_
        refine lv_imul hx hb dX6_runStep_226 ?_
        refine lv_iload hx hb dX6_runStep_227 (lv_at hl 0 rfl) ?_
        refine lv_iadd hx hb dX6_runStep_229 ?_
        refine lv_i2s (v := (sx (((256 : Int32) * (f_X6_b M3 ((M 18) (((32 : Int32) * ((M 20) 0)) + (M 11 0)).toNatClampNeg))) + (f_X6_c M3 ((M 18) (((32 : Int32) * ((M 20) 0)) + (M 11 0)).toNatClampNeg))))) hx hb dX6_runStep_230 rfl ?_
        have h15 := hok
        refine R_register_st (M2 := (ms (ms M3 11 (fun _ => ((M3 11 0) + (1 : Int32)))) 25 (upd (M3 25) (f_X6_a M3 ((M 18) (((32 : Int32) * ((M 20) 0)) + (M 11 0)).toNatClampNeg)).toNatClampNeg (sx (((256 : Int32) * (f_X6_b M3 ((M 18) (((32 : Int32) * ((M 20) 0)) + (M 11 0)).toNatClampNeg))) + (f_X6_c M3 ((M 18) (((32 : Int32) * ((M 20) 0)) + (M 11 0)).toNatClampNeg))))))) C h h15 rfl dX6_runStep_231 (fun H locs h => ?_)
        refine lv_goto (tgt := 600) hx hb dX6_runStep_232 (by decide) ?_
        exact wh_vret C h hres dX6_runStep_600
      · have hres := it_n hres c14
        have hok := io_n hok c14
        refine (Classical.em ((f_X6_op (ms M3 11 (fun _ => ((M3 11 0) + (1 : Int32)))) ((M 18) (((32 : Int32) * ((M 20) 0)) + (M 11 0)).toNatClampNeg)) = (2 : Int32))).elim (fun c16 => ?_) (fun c16 => ?_)
        · have hres := it_p hres c16
          have hok := io_p hok c16
          refine sw_in (k := (2 : Int32)) (tgt := 235) c16 hx hb dX6_runStep_68 (by decide) (by decide) rfl (by decide) ?_
          refine lv_aload_n hx hb dX6_runStep_235 rfl (lv_at hl 5 rfl) ?_
          refine R_X6_register_get C h in_fX6_35 dX6_runStep_236 ?_
          refine lv_iload_n hx hb dX6_runStep_239 rfl (lv_at hl 2 rfl) ?_
          refine lv_aload_n hx hb dX6_runStep_240 rfl (lv_at hl 5 rfl) ?_
          refine R_X6_register_get C h in_fX6_35 dX6_runStep_241 ?_
          refine lv_iload hx hb dX6_runStep_244 (lv_at hl 1 rfl) ?_
          obtain ⟨h19, hok⟩ := hok
          refine R_register_ld (v := ((M3 25) (f_X6_b M3 ((M 18) (((32 : Int32) * ((M 20) 0)) + (M 11 0)).toNatClampNeg)).toNatClampNeg)) C h h19 rfl dX6_runStep_246 ?_
          refine lv_aload_n hx hb dX6_runStep_247 rfl (lv_at hl 5 rfl) ?_
          refine R_X6_register_get C h in_fX6_35 dX6_runStep_248 ?_
          refine lv_iload hx hb dX6_runStep_251 (lv_at hl 0 rfl) ?_
          obtain ⟨h18, hok⟩ := hok
          refine R_register_ld (v := ((M3 25) (f_X6_c M3 ((M 18) (((32 : Int32) * ((M 20) 0)) + (M 11 0)).toNatClampNeg)).toNatClampNeg)) C h h18 rfl dX6_runStep_253 ?_
          refine lv_iadd hx hb dX6_runStep_254 ?_
          have h17 := hok
          refine R_register_st (M2 := (ms (ms M3 11 (fun _ => ((M3 11 0) + (1 : Int32)))) 25 (upd (M3 25) (f_X6_a M3 ((M 18) (((32 : Int32) * ((M 20) 0)) + (M 11 0)).toNatClampNeg)).toNatClampNeg (((M3 25) (f_X6_b M3 ((M 18) (((32 : Int32) * ((M 20) 0)) + (M 11 0)).toNatClampNeg)).toNatClampNeg) + ((M3 25) (f_X6_c M3 ((M 18) (((32 : Int32) * ((M 20) 0)) + (M 11 0)).toNatClampNeg)).toNatClampNeg))))) C h h17 rfl dX6_runStep_255 (fun H locs h => ?_)
          refine lv_goto (tgt := 600) hx hb dX6_runStep_256 (by decide) ?_
          exact wh_vret C h hres dX6_runStep_600
        · have hres := it_n hres c16
          have hok := io_n hok c16
          refine (Classical.em ((f_X6_op (ms M3 11 (fun _ => ((M3 11 0) + (1 : Int32)))) ((M 18) (((32 : Int32) * ((M 20) 0)) + (M 11 0)).toNatClampNeg)) = (3 : Int32))).elim (fun c20 => ?_) (fun c20 => ?_)
          · have hres := it_p hres c20
            have hok := io_p hok c20
            refine sw_in (k := (3 : Int32)) (tgt := 259) c20 hx hb dX6_runStep_68 (by decide) (by decide) rfl (by decide) ?_
            refine lv_aload_n hx hb dX6_runStep_259 rfl (lv_at hl 5 rfl) ?_
            refine R_X6_register_get C h in_fX6_35 dX6_runStep_260 ?_
            refine lv_iload_n hx hb dX6_runStep_263 rfl (lv_at hl 2 rfl) ?_
            refine lv_aload_n hx hb dX6_runStep_264 rfl (lv_at hl 5 rfl) ?_
            refine R_X6_register_get C h in_fX6_35 dX6_runStep_265 ?_
            refine lv_iload hx hb dX6_runStep_268 (lv_at hl 1 rfl) ?_
            obtain ⟨h23, hok⟩ := hok
            refine R_register_ld (v := ((M3 25) (f_X6_b M3 ((M 18) (((32 : Int32) * ((M 20) 0)) + (M 11 0)).toNatClampNeg)).toNatClampNeg)) C h h23 rfl dX6_runStep_270 ?_
            refine lv_aload_n hx hb dX6_runStep_271 rfl (lv_at hl 5 rfl) ?_
            refine R_X6_register_get C h in_fX6_35 dX6_runStep_272 ?_
            refine lv_iload hx hb dX6_runStep_275 (lv_at hl 0 rfl) ?_
            obtain ⟨h22, hok⟩ := hok
            refine R_register_ld (v := ((M3 25) (f_X6_c M3 ((M 18) (((32 : Int32) * ((M 20) 0)) + (M 11 0)).toNatClampNeg)).toNatClampNeg)) C h h22 rfl dX6_runStep_277 ?_
            refine lv_isub hx hb dX6_runStep_278 ?_
            have h21 := hok
            refine R_register_st (M2 := (ms (ms M3 11 (fun _ => ((M3 11 0) + (1 : Int32)))) 25 (upd (M3 25) (f_X6_a M3 ((M 18) (((32 : Int32) * ((M 20) 0)) + (M 11 0)).toNatClampNeg)).toNatClampNeg (((M3 25) (f_X6_b M3 ((M 18) (((32 : Int32) * ((M 20) 0)) + (M 11 0)).toNatClampNeg)).toNatClampNeg) - ((M3 25) (f_X6_c M3 ((M 18) (((32 : Int32) * ((M 20) 0)) + (M 11 0)).toNatClampNeg)).toNatClampNeg))))) C h h21 rfl dX6_runStep_279 (fun H locs h => ?_)
            refine lv_goto (tgt := 600) hx hb dX6_runStep_280 (by decide) ?_
            exact wh_vret C h hres dX6_runStep_600
          · have hres := it_n hres c20
            have hok := io_n hok c20
            refine (Classical.em ((f_X6_op (ms M3 11 (fun _ => ((M3 11 0) + (1 : Int32)))) ((M 18) (((32 : Int32) * ((M 20) 0)) + (M 11 0)).toNatClampNeg)) = (4 : Int32))).elim (fun c24 => ?_) (fun c24 => ?_)
            · have hres := it_p hres c24
              have hok := io_p hok c24
              refine sw_in (k := (4 : Int32)) (tgt := 283) c24 hx hb dX6_runStep_68 (by decide) (by decide) rfl (by decide) ?_
              refine lv_aload_n hx hb dX6_runStep_283 rfl (lv_at hl 5 rfl) ?_
              refine R_X6_register_get C h in_fX6_35 dX6_runStep_284 ?_
              refine lv_iload_n hx hb dX6_runStep_287 rfl (lv_at hl 2 rfl) ?_
              refine lv_aload_n hx hb dX6_runStep_288 rfl (lv_at hl 5 rfl) ?_
              refine R_X6_register_get C h in_fX6_35 dX6_runStep_289 ?_
              refine lv_iload hx hb dX6_runStep_292 (lv_at hl 1 rfl) ?_
              obtain ⟨h27, hok⟩ := hok
              refine R_register_ld (v := ((M3 25) (f_X6_b M3 ((M 18) (((32 : Int32) * ((M 20) 0)) + (M 11 0)).toNatClampNeg)).toNatClampNeg)) C h h27 rfl dX6_runStep_294 ?_
              refine lv_aload_n hx hb dX6_runStep_295 rfl (lv_at hl 5 rfl) ?_
              refine R_X6_register_get C h in_fX6_35 dX6_runStep_296 ?_
              refine lv_iload hx hb dX6_runStep_299 (lv_at hl 0 rfl) ?_
              obtain ⟨h26, hok⟩ := hok
              refine R_register_ld (v := ((M3 25) (f_X6_c M3 ((M 18) (((32 : Int32) * ((M 20) 0)) + (M 11 0)).toNatClampNeg)).toNatClampNeg)) C h h26 rfl dX6_runStep_301 ?_
              refine lv_imul hx hb dX6_runStep_302 ?_
              have h25 := hok
              refine R_register_st (M2 := (ms (ms M3 11 (fun _ => ((M3 11 0) + (1 : Int32)))) 25 (upd (M3 25) (f_X6_a M3 ((M 18) (((32 : Int32) * ((M 20) 0)) + (M 11 0)).toNatClampNeg)).toNatClampNeg (((M3 25) (f_X6_b M3 ((M 18) (((32 : Int32) * ((M 20) 0)) + (M 11 0)).toNatClampNeg)).toNatClampNeg) * ((M3 25) (f_X6_c M3 ((M 18) (((32 : Int32) * ((M 20) 0)) + (M 11 0)).toNatClampNeg)).toNatClampNeg))))) C h h25 rfl dX6_runStep_303 (fun H locs h => ?_)
              refine lv_goto (tgt := 600) hx hb dX6_runStep_304 (by decide) ?_
              exact wh_vret C h hres dX6_runStep_600
            · have hres := it_n hres c24
              have hok := io_n hok c24
              refine (Classical.em ((f_X6_op (ms M3 11 (fun _ => ((M3 11 0) + (1 : Int32)))) ((M 18) (((32 : Int32) * ((M 20) 0)) + (M 11 0)).toNatClampNeg)) = (5 : Int32))).elim (fun c28 => ?_) (fun c28 => ?_)
              · have hres := it_p hres c28
                have hok := io_p hok c28
                refine sw_in (k := (5 : Int32)) (tgt := 307) c28 hx hb dX6_runStep_68 (by decide) (by decide) rfl (by decide) ?_
                refine lv_aload_n hx hb dX6_runStep_307 rfl (lv_at hl 5 rfl) ?_
                refine R_X6_register_get C h in_fX6_35 dX6_runStep_308 ?_
                refine lv_iload_n hx hb dX6_runStep_311 rfl (lv_at hl 2 rfl) ?_
                refine lv_aload_n hx hb dX6_runStep_312 rfl (lv_at hl 5 rfl) ?_
                refine R_X6_register_get C h in_fX6_35 dX6_runStep_313 ?_
                refine lv_iload hx hb dX6_runStep_316 (lv_at hl 1 rfl) ?_
                obtain ⟨h31, hok⟩ := hok
                refine R_register_ld (v := ((M3 25) (f_X6_b M3 ((M 18) (((32 : Int32) * ((M 20) 0)) + (M 11 0)).toNatClampNeg)).toNatClampNeg)) C h h31 rfl dX6_runStep_318 ?_
                refine lv_aload_n hx hb dX6_runStep_319 rfl (lv_at hl 5 rfl) ?_
                refine R_X6_register_get C h in_fX6_35 dX6_runStep_320 ?_
                refine lv_iload hx hb dX6_runStep_323 (lv_at hl 0 rfl) ?_
                obtain ⟨h30, hok⟩ := hok
                refine R_register_ld (v := ((M3 25) (f_X6_c M3 ((M 18) (((32 : Int32) * ((M 20) 0)) + (M 11 0)).toNatClampNeg)).toNatClampNeg)) C h h30 rfl dX6_runStep_325 ?_
                refine lv_ixor hx hb dX6_runStep_326 ?_
                have h29 := hok
                refine R_register_st (M2 := (ms (ms M3 11 (fun _ => ((M3 11 0) + (1 : Int32)))) 25 (upd (M3 25) (f_X6_a M3 ((M 18) (((32 : Int32) * ((M 20) 0)) + (M 11 0)).toNatClampNeg)).toNatClampNeg (((M3 25) (f_X6_b M3 ((M 18) (((32 : Int32) * ((M 20) 0)) + (M 11 0)).toNatClampNeg)).toNatClampNeg) ^^^ ((M3 25) (f_X6_c M3 ((M 18) (((32 : Int32) * ((M 20) 0)) + (M 11 0)).toNatClampNeg)).toNatClampNeg))))) C h h29 rfl dX6_runStep_327 (fun H locs h => ?_)
                refine lv_goto (tgt := 600) hx hb dX6_runStep_328 (by decide) ?_
                exact wh_vret C h hres dX6_runStep_600
              · have hres := it_n hres c28
                have hok := io_n hok c28
                refine (Classical.em ((f_X6_op (ms M3 11 (fun _ => ((M3 11 0) + (1 : Int32)))) ((M 18) (((32 : Int32) * ((M 20) 0)) + (M 11 0)).toNatClampNeg)) = (6 : Int32))).elim (fun c32 => ?_) (fun c32 => ?_)
                · have hres := it_p hres c32
                  have hok := io_p hok c32
                  refine sw_in (k := (6 : Int32)) (tgt := 331) c32 hx hb dX6_runStep_68 (by decide) (by decide) rfl (by decide) ?_
                  refine lv_aload_n hx hb dX6_runStep_331 rfl (lv_at hl 5 rfl) ?_
                  refine R_X6_register_get C h in_fX6_35 dX6_runStep_332 ?_
                  refine lv_iload_n hx hb dX6_runStep_335 rfl (lv_at hl 2 rfl) ?_
                  have h34 := hok
                  refine R_register_ld (v := ((M3 25) (f_X6_a M3 ((M 18) (((32 : Int32) * ((M 20) 0)) + (M 11 0)).toNatClampNeg)).toNatClampNeg)) C h h34 rfl dX6_runStep_336 ?_
                  refine lv_if_ne (tgt := 600) hx hb dX6_runStep_337 (by decide) (fun c33 => ?_) (fun c33 => ?_)
                  · have hres := it_n hres c33
                    exact wh_vret C h hres dX6_runStep_600
                  · have hres := it_p hres c33
                    refine lv_aload_n hx hb dX6_runStep_340 rfl (lv_at hl 5 rfl) ?_
                    refine lv_iload hx hb dX6_runStep_341 (lv_at hl 1 rfl) ?_
                    refine R_X6_next_put (v := (f_X6_b M3 ((M 18) (((32 : Int32) * ((M 20) 0)) + (M 11 0)).toNatClampNeg))) (M2 := (ms (ms M3 11 (fun _ => ((M3 11 0) + (1 : Int32)))) 11 (fun _ => (f_X6_b M3 ((M 18) (((32 : Int32) * ((M 20) 0)) + (M 11 0)).toNatClampNeg))))) C h in_fX6_102 rfl dX6_runStep_343 (fun H locs h => ?_)
                    refine lv_goto (tgt := 600) hx hb dX6_runStep_346 (by decide) ?_
                    exact wh_vret C h hres dX6_runStep_600
                · have hres := it_n hres c32
                  have hok := io_n hok c32
                  refine (Classical.em ((f_X6_op (ms M3 11 (fun _ => ((M3 11 0) + (1 : Int32)))) ((M 18) (((32 : Int32) * ((M 20) 0)) + (M 11 0)).toNatClampNeg)) = (7 : Int32))).elim (fun c35 => ?_) (fun c35 => ?_)
                  · have hres := it_p hres c35
                    refine sw_in (k := (7 : Int32)) (tgt := 349) c35 hx hb dX6_runStep_68 (by decide) (by decide) rfl (by decide) ?_
                    refine lv_aload_n hx hb dX6_runStep_349 rfl (lv_at hl 5 rfl) ?_
                    refine lv_iload hx hb dX6_runStep_350 (lv_at hl 1 rfl) ?_
                    refine R_X6_next_put (v := (f_X6_b M3 ((M 18) (((32 : Int32) * ((M 20) 0)) + (M 11 0)).toNatClampNeg))) (M2 := (ms (ms M3 11 (fun _ => ((M3 11 0) + (1 : Int32)))) 11 (fun _ => (f_X6_b M3 ((M 18) (((32 : Int32) * ((M 20) 0)) + (M 11 0)).toNatClampNeg))))) C h in_fX6_102 rfl dX6_runStep_352 (fun H locs h => ?_)
                    refine lv_goto (tgt := 600) hx hb dX6_runStep_355 (by decide) ?_
                    exact wh_vret C h hres dX6_runStep_600
                  · have hres := it_n hres c35
                    have hok := io_n hok c35
                    refine (Classical.em ((f_X6_op (ms M3 11 (fun _ => ((M3 11 0) + (1 : Int32)))) ((M 18) (((32 : Int32) * ((M 20) 0)) + (M 11 0)).toNatClampNeg)) = (8 : Int32))).elim (fun c36 => ?_) (fun c36 => ?_)
                    · have hres := it_p hres c36
                      have hok := io_p hok c36
                      refine sw_in (k := (8 : Int32)) (tgt := 358) c36 hx hb dX6_runStep_68 (by decide) (by decide) rfl (by decide) ?_
                      refine lv_aload_n hx hb dX6_runStep_358 rfl (lv_at hl 5 rfl) ?_
                      refine R_X6_register_get C h in_fX6_35 dX6_runStep_359 ?_
                      refine lv_iload_n hx hb dX6_runStep_362 rfl (lv_at hl 2 rfl) ?_
                      refine lv_aload_n hx hb dX6_runStep_363 rfl (lv_at hl 5 rfl) ?_
                      refine lv_bipush (v := (8 : Int32)) hx hb dX6_runStep_364 (by decide) ?_
                      refine lv_iload hx hb dX6_runStep_366 (lv_at hl 1 rfl) ?_
                      refine lv_iadd hx hb dX6_runStep_368 ?_
                      obtain ⟨h39, hok⟩ := hok
                      refine wh_cvip (As := [.int ((8 : Int32) + (f_X6_b M3 ((M 18) (((32 : Int32) * ((M 20) 0)) + (M 11 0)).toNatClampNeg)))]) (rest := [.int (f_X6_a M3 ((M 18) (((32 : Int32) * ((M 20) 0)) + (M 11 0)).toNatClampNeg)), .ref (ad 8)]) hcs C h (c_X6_see (ms M3 11 (fun _ => ((M3 11 0) + (1 : Int32)))) ((8 : Int32) + (f_X6_b M3 ((M 18) (((32 : Int32) * ((M 20) 0)) + (M 11 0)).toNatClampNeg))) h39) yw_X6_see in_mX6_133 hl.1 rfl rfl (Nat.le_of_ble_eq_true rfl) ⟨Nat.le_trans (Nat.le_of_ble_eq_true rfl) hrf, Nat.le_trans (Nat.le_of_ble_eq_true rfl) hrl⟩ dX6_runStep_369 (fun H locs h => ?_)
                      have h38 := hok
                      refine R_register_st (M2 := (ms (ms M3 11 (fun _ => ((M3 11 0) + (1 : Int32)))) 25 (upd (M3 25) (f_X6_a M3 ((M 18) (((32 : Int32) * ((M 20) 0)) + (M 11 0)).toNatClampNeg)).toNatClampNeg (f_X6_see (ms M3 11 (fun _ => ((M3 11 0) + (1 : Int32)))) ((8 : Int32) + (f_X6_b M3 ((M 18) (((32 : Int32) * ((M 20) 0)) + (M 11 0)).toNatClampNeg))))))) C h h38 rfl dX6_runStep_372 (fun H locs h => ?_)
                      refine lv_goto (tgt := 600) hx hb dX6_runStep_373 (by decide) ?_
                      exact wh_vret C h hres dX6_runStep_600
                    · have hres := it_n hres c36
                      have hok := io_n hok c36
                      refine (Classical.em ((f_X6_op (ms M3 11 (fun _ => ((M3 11 0) + (1 : Int32)))) ((M 18) (((32 : Int32) * ((M 20) 0)) + (M 11 0)).toNatClampNeg)) = (9 : Int32))).elim (fun c40 => ?_) (fun c40 => ?_)
                      · have hres := it_p hres c40
                        have hok := io_p hok c40
                        refine sw_in (k := (9 : Int32)) (tgt := 376) c40 hx hb dX6_runStep_68 (by decide) (by decide) rfl (by decide) ?_
                        refine lv_aload_n hx hb dX6_runStep_376 rfl (lv_at hl 5 rfl) ?_
                        refine lv_bipush (v := (8 : Int32)) hx hb dX6_runStep_377 (by decide) ?_
                        refine lv_iload hx hb dX6_runStep_379 (lv_at hl 1 rfl) ?_
                        refine lv_iadd hx hb dX6_runStep_381 ?_
                        refine lv_bipush (v := (8 : Int32)) hx hb dX6_runStep_382 (by decide) ?_
                        refine lv_iload hx hb dX6_runStep_384 (lv_at hl 1 rfl) ?_
                        refine lv_iadd hx hb dX6_runStep_386 ?_
                        obtain ⟨h46, hok⟩ := hok
                        refine wh_cvzp (As := [.int ((8 : Int32) + (f_X6_b M3 ((M 18) (((32 : Int32) * ((M 20) 0)) + (M 11 0)).toNatClampNeg))), .int ((8 : Int32) + (f_X6_b M3 ((M 18) (((32 : Int32) * ((M 20) 0)) + (M 11 0)).toNatClampNeg)))]) (rest := []) hcs C h (c_X6_hasRoom (ms M3 11 (fun _ => ((M3 11 0) + (1 : Int32)))) ((8 : Int32) + (f_X6_b M3 ((M 18) (((32 : Int32) * ((M 20) 0)) + (M 11 0)).toNatClampNeg))) ((8 : Int32) + (f_X6_b M3 ((M 18) (((32 : Int32) * ((M 20) 0)) + (M 11 0)).toNatClampNeg))) h46) yw_X6_hasRoom in_mX6_136 hl.1 rfl rfl (Nat.le_of_ble_eq_true rfl) ⟨Nat.le_trans (Nat.le_of_ble_eq_true rfl) hrf, Nat.le_trans (Nat.le_of_ble_eq_true rfl) hrl⟩ dX6_runStep_387 (fun H locs z41 h => ?_)
                        refine lv_if_eq (tgt := 600) hx hb dX6_runStep_390 (by decide) (fun c42 => ?_) (fun c42 => ?_)
                        · have hres := it_p hres c42
                          exact wh_vret C h hres dX6_runStep_600
                        · have hres := it_n hres c42
                          have hok := io_n hok c42
                          refine lv_aload_n hx hb dX6_runStep_393 rfl (lv_at hl 5 rfl) ?_
                          refine lv_bipush (v := (8 : Int32)) hx hb dX6_runStep_394 (by decide) ?_
                          refine lv_iload hx hb dX6_runStep_396 (lv_at hl 1 rfl) ?_
                          refine lv_iadd hx hb dX6_runStep_398 ?_
                          refine lv_aload_n hx hb dX6_runStep_399 rfl (lv_at hl 5 rfl) ?_
                          refine R_X6_register_get C h in_fX6_35 dX6_runStep_400 ?_
                          refine lv_iload_n hx hb dX6_runStep_403 rfl (lv_at hl 2 rfl) ?_
                          obtain ⟨h45, hok⟩ := hok
                          refine R_register_ld (v := ((M3 25) (f_X6_a M3 ((M 18) (((32 : Int32) * ((M 20) 0)) + (M 11 0)).toNatClampNeg)).toNatClampNeg)) C h h45 rfl dX6_runStep_404 ?_
                          have h44 := hok
                          refine wh_cvv (As := [.int ((8 : Int32) + (f_X6_b M3 ((M 18) (((32 : Int32) * ((M 20) 0)) + (M 11 0)).toNatClampNeg))), .int ((M3 25) (f_X6_a M3 ((M 18) (((32 : Int32) * ((M 20) 0)) + (M 11 0)).toNatClampNeg)).toNatClampNeg)]) (rest := []) hcs C h (c_X6_put (ms M3 11 (fun _ => ((M3 11 0) + (1 : Int32)))) ((8 : Int32) + (f_X6_b M3 ((M 18) (((32 : Int32) * ((M 20) 0)) + (M 11 0)).toNatClampNeg))) ((M3 25) (f_X6_a M3 ((M 18) (((32 : Int32) * ((M 20) 0)) + (M 11 0)).toNatClampNeg)).toNatClampNeg) h44) yw_X6_put in_mX6_139 hl.1 rfl rfl (Nat.le_of_ble_eq_true rfl) ⟨Nat.le_trans (Nat.le_of_ble_eq_true rfl) hrf, Nat.le_trans (Nat.le_of_ble_eq_true rfl) hrl⟩ dX6_runStep_405 (fun M43 H locs e43 h => ?_)
                          rw [e43] at hres
                          have hres := bv_e hres
                          refine lv_goto (tgt := 600) hx hb dX6_runStep_408 (by decide) ?_
                          exact wh_vret C h hres dX6_runStep_600
                      · have hres := it_n hres c40
                        have hok := io_n hok c40
                        refine (Classical.em ((f_X6_op (ms M3 11 (fun _ => ((M3 11 0) + (1 : Int32)))) ((M 18) (((32 : Int32) * ((M 20) 0)) + (M 11 0)).toNatClampNeg)) = (10 : Int32))).elim (fun c47 => ?_) (fun c47 => ?_)
                        · have hres := it_p hres c47
                          have hok := io_p hok c47
                          refine sw_in (k := (10 : Int32)) (tgt := 411) c47 hx hb dX6_runStep_68 (by decide) (by decide) rfl (by decide) ?_
                          refine lv_aload_n hx hb dX6_runStep_411 rfl (lv_at hl 5 rfl) ?_
                          refine R_X6_register_get C h in_fX6_35 dX6_runStep_412 ?_
                          refine lv_iload_n hx hb dX6_runStep_415 rfl (lv_at hl 2 rfl) ?_
                          refine lv_aload_n hx hb dX6_runStep_416 rfl (lv_at hl 5 rfl) ?_
                          refine lv_bipush (v := (24 : Int32)) hx hb dX6_runStep_417 (by decide) ?_
                          refine lv_bipush (v := (8 : Int32)) hx hb dX6_runStep_419 (by decide) ?_
                          refine lv_iload hx hb dX6_runStep_421 (lv_at hl 1 rfl) ?_
                          refine lv_imul hx hb dX6_runStep_423 ?_
                          refine lv_iadd hx hb dX6_runStep_424 ?_
                          refine lv_aload_n hx hb dX6_runStep_425 rfl (lv_at hl 5 rfl) ?_
                          refine R_X6_register_get C h in_fX6_35 dX6_runStep_426 ?_
                          refine lv_iload hx hb dX6_runStep_429 (lv_at hl 0 rfl) ?_
                          obtain ⟨h51, hok⟩ := hok
                          refine R_register_ld (v := ((M3 25) (f_X6_c M3 ((M 18) (((32 : Int32) * ((M 20) 0)) + (M 11 0)).toNatClampNeg)).toNatClampNeg)) C h h51 rfl dX6_runStep_431 ?_
                          refine lv_bipush (v := (7 : Int32)) hx hb dX6_runStep_432 (by decide) ?_
                          refine lv_iand hx hb dX6_runStep_434 ?_
                          refine lv_iadd hx hb dX6_runStep_435 ?_
                          obtain ⟨h50, hok⟩ := hok
                          refine wh_cvip (As := [.int (((24 : Int32) + ((8 : Int32) * (f_X6_b M3 ((M 18) (((32 : Int32) * ((M 20) 0)) + (M 11 0)).toNatClampNeg)))) + (((M3 25) (f_X6_c M3 ((M 18) (((32 : Int32) * ((M 20) 0)) + (M 11 0)).toNatClampNeg)).toNatClampNeg) &&& (7 : Int32)))]) (rest := [.int (f_X6_a M3 ((M 18) (((32 : Int32) * ((M 20) 0)) + (M 11 0)).toNatClampNeg)), .ref (ad 8)]) hcs C h (c_X6_see (ms M3 11 (fun _ => ((M3 11 0) + (1 : Int32)))) (((24 : Int32) + ((8 : Int32) * (f_X6_b M3 ((M 18) (((32 : Int32) * ((M 20) 0)) + (M 11 0)).toNatClampNeg)))) + (((M3 25) (f_X6_c M3 ((M 18) (((32 : Int32) * ((M 20) 0)) + (M 11 0)).toNatClampNeg)).toNatClampNeg) &&& (7 : Int32))) h50) yw_X6_see in_mX6_133 hl.1 rfl rfl (Nat.le_of_ble_eq_true rfl) ⟨Nat.le_trans (Nat.le_of_ble_eq_true rfl) hrf, Nat.le_trans (Nat.le_of_ble_eq_true rfl) hrl⟩ dX6_runStep_436 (fun H locs h => ?_)
                          have h49 := hok
                          refine R_register_st (M2 := (ms (ms M3 11 (fun _ => ((M3 11 0) + (1 : Int32)))) 25 (upd (M3 25) (f_X6_a M3 ((M 18) (((32 : Int32) * ((M 20) 0)) + (M 11 0)).toNatClampNeg)).toNatClampNeg (f_X6_see (ms M3 11 (fun _ => ((M3 11 0) + (1 : Int32)))) (((24 : Int32) + ((8 : Int32) * (f_X6_b M3 ((M 18) (((32 : Int32) * ((M 20) 0)) + (M 11 0)).toNatClampNeg)))) + (((M3 25) (f_X6_c M3 ((M 18) (((32 : Int32) * ((M 20) 0)) + (M 11 0)).toNatClampNeg)).toNatClampNeg) &&& (7 : Int32))))))) C h h49 rfl dX6_runStep_439 (fun H locs h => ?_)
                          refine lv_goto (tgt := 600) hx hb dX6_runStep_440 (by decide) ?_
                          exact wh_vret C h hres dX6_runStep_600
                        · have hres := it_n hres c47
                          have hok := io_n hok c47
                          refine (Classical.em ((f_X6_op (ms M3 11 (fun _ => ((M3 11 0) + (1 : Int32)))) ((M 18) (((32 : Int32) * ((M 20) 0)) + (M 11 0)).toNatClampNeg)) = (11 : Int32))).elim (fun c52 => ?_) (fun c52 => ?_)
                          · have hres := it_p hres c52
                            have hok := io_p hok c52
                            refine sw_in (k := (11 : Int32)) (tgt := 443) c52 hx hb dX6_runStep_68 (by decide) (by decide) rfl (by decide) ?_
                            refine lv_bipush (v := (24 : Int32)) hx hb dX6_runStep_443 (by decide) ?_
                            refine lv_bipush (v := (8 : Int32)) hx hb dX6_runStep_445 (by decide) ?_
                            refine lv_iload hx hb dX6_runStep_447 (lv_at hl 1 rfl) ?_
                            refine lv_imul hx hb dX6_runStep_449 ?_
                            refine lv_iadd hx hb dX6_runStep_450 ?_
                            refine lv_aload_n hx hb dX6_runStep_451 rfl (lv_at hl 5 rfl) ?_
                            refine R_X6_register_get C h in_fX6_35 dX6_runStep_452 ?_
                            refine lv_iload hx hb dX6_runStep_455 (lv_at hl 0 rfl) ?_
                            obtain ⟨h59, hok⟩ := hok
                            refine R_register_ld (v := ((M3 25) (f_X6_c M3 ((M 18) (((32 : Int32) * ((M 20) 0)) + (M 11 0)).toNatClampNeg)).toNatClampNeg)) C h h59 rfl dX6_runStep_457 ?_
                            refine lv_bipush (v := (7 : Int32)) hx hb dX6_runStep_458 (by decide) ?_
                            refine lv_iand hx hb dX6_runStep_460 ?_
                            refine lv_iadd hx hb dX6_runStep_461 ?_
                            refine lv_istore (lv' := [(6, .int (((24 : Int32) + ((8 : Int32) * (f_X6_b M3 ((M 18) (((32 : Int32) * ((M 20) 0)) + (M 11 0)).toNatClampNeg)))) + (((M3 25) (f_X6_c M3 ((M 18) (((32 : Int32) * ((M 20) 0)) + (M 11 0)).toNatClampNeg)).toNatClampNeg) &&& (7 : Int32)))), (5, .int (f_X6_c M3 ((M 18) (((32 : Int32) * ((M 20) 0)) + (M 11 0)).toNatClampNeg))), (4, .int (f_X6_b M3 ((M 18) (((32 : Int32) * ((M 20) 0)) + (M 11 0)).toNatClampNeg))), (3, .int (f_X6_a M3 ((M 18) (((32 : Int32) * ((M 20) 0)) + (M 11 0)).toNatClampNeg))), (2, .int ((M 18) (((32 : Int32) * ((M 20) 0)) + (M 11 0)).toNatClampNeg)), (1, .int ((M 20) 0)), (0, .ref (ad 0))]) hx hb dX6_runStep_462 hl (by decide) rfl (fun ls hl => ?_)
                            refine lv_aload_n hx hb dX6_runStep_464 rfl (lv_at hl 6 rfl) ?_
                            refine lv_iload hx hb dX6_runStep_465 (lv_at hl 0 rfl) ?_
                            refine lv_iload hx hb dX6_runStep_467 (lv_at hl 0 rfl) ?_
                            obtain ⟨h58, hok⟩ := hok
                            refine wh_cvzp (As := [.int (((24 : Int32) + ((8 : Int32) * (f_X6_b M3 ((M 18) (((32 : Int32) * ((M 20) 0)) + (M 11 0)).toNatClampNeg)))) + (((M3 25) (f_X6_c M3 ((M 18) (((32 : Int32) * ((M 20) 0)) + (M 11 0)).toNatClampNeg)).toNatClampNeg) &&& (7 : Int32))), .int (((24 : Int32) + ((8 : Int32) * (f_X6_b M3 ((M 18) (((32 : Int32) * ((M 20) 0)) + (M 11 0)).toNatClampNeg)))) + (((M3 25) (f_X6_c M3 ((M 18) (((32 : Int32) * ((M 20) 0)) + (M 11 0)).toNatClampNeg)).toNatClampNeg) &&& (7 : Int32)))]) (rest := []) hcs C h (c_X6_hasRoom (ms M3 11 (fun _ => ((M3 11 0) + (1 : Int32)))) (((24 : Int32) + ((8 : Int32) * (f_X6_b M3 ((M 18) (((32 : Int32) * ((M 20) 0)) + (M 11 0)).toNatClampNeg)))) + (((M3 25) (f_X6_c M3 ((M 18) (((32 : Int32) * ((M 20) 0)) + (M 11 0)).toNatClampNeg)).toNatClampNeg) &&& (7 : Int32))) (((24 : Int32) + ((8 : Int32) * (f_X6_b M3 ((M 18) (((32 : Int32) * ((M 20) 0)) + (M 11 0)).toNatClampNeg)))) + (((M3 25) (f_X6_c M3 ((M 18) (((32 : Int32) * ((M 20) 0)) + (M 11 0)).toNatClampNeg)).toNatClampNeg) &&& (7 : Int32))) h58) yw_X6_hasRoom in_mX6_136 hl.1 rfl rfl (Nat.le_of_ble_eq_true rfl) ⟨Nat.le_trans (Nat.le_of_ble_eq_true rfl) hrf, Nat.le_trans (Nat.le_of_ble_eq_true rfl) hrl⟩ dX6_runStep_469 (fun H locs z53 h => ?_)
                            refine lv_if_eq (tgt := 600) hx hb dX6_runStep_472 (by decide) (fun c54 => ?_) (fun c54 => ?_)
                            · have hres := it_p hres c54
                              exact wh_vret C h hres dX6_runStep_600
                            · have hres := it_n hres c54
                              have hok := io_n hok c54
                              refine lv_aload_n hx hb dX6_runStep_475 rfl (lv_at hl 6 rfl) ?_
                              refine lv_iload hx hb dX6_runStep_476 (lv_at hl 0 rfl) ?_
                              refine lv_aload_n hx hb dX6_runStep_478 rfl (lv_at hl 6 rfl) ?_
                              refine R_X6_register_get C h in_fX6_35 dX6_runStep_479 ?_
                              refine lv_iload_n hx hb dX6_runStep_482 rfl (lv_at hl 3 rfl) ?_
                              obtain ⟨h57, hok⟩ := hok
                              refine R_register_ld (v := ((M3 25) (f_X6_a M3 ((M 18) (((32 : Int32) * ((M 20) 0)) + (M 11 0)).toNatClampNeg)).toNatClampNeg)) C h h57 rfl dX6_runStep_483 ?_
                              have h56 := hok
                              refine wh_cvv (As := [.int (((24 : Int32) + ((8 : Int32) * (f_X6_b M3 ((M 18) (((32 : Int32) * ((M 20) 0)) + (M 11 0)).toNatClampNeg)))) + (((M3 25) (f_X6_c M3 ((M 18) (((32 : Int32) * ((M 20) 0)) + (M 11 0)).toNatClampNeg)).toNatClampNeg) &&& (7 : Int32))), .int ((M3 25) (f_X6_a M3 ((M 18) (((32 : Int32) * ((M 20) 0)) + (M 11 0)).toNatClampNeg)).toNatClampNeg)]) (rest := []) hcs C h (c_X6_put (ms M3 11 (fun _ => ((M3 11 0) + (1 : Int32)))) (((24 : Int32) + ((8 : Int32) * (f_X6_b M3 ((M 18) (((32 : Int32) * ((M 20) 0)) + (M 11 0)).toNatClampNeg)))) + (((M3 25) (f_X6_c M3 ((M 18) (((32 : Int32) * ((M 20) 0)) + (M 11 0)).toNatClampNeg)).toNatClampNeg) &&& (7 : Int32))) ((M3 25) (f_X6_a M3 ((M 18) (((32 : Int32) * ((M 20) 0)) + (M 11 0)).toNatClampNeg)).toNatClampNeg) h56) yw_X6_put in_mX6_139 hl.1 rfl rfl (Nat.le_of_ble_eq_true rfl) ⟨Nat.le_trans (Nat.le_of_ble_eq_true rfl) hrf, Nat.le_trans (Nat.le_of_ble_eq_true rfl) hrl⟩ dX6_runStep_484 (fun M55 H locs e55 h => ?_)
                              rw [e55] at hres
                              have hres := bv_e hres
                              refine lv_goto (tgt := 600) hx hb dX6_runStep_487 (by decide) ?_
                              exact wh_vret C h hres dX6_runStep_600
                          · have hres := it_n hres c52
                            have hok := io_n hok c52
                            refine (Classical.em ((f_X6_op (ms M3 11 (fun _ => ((M3 11 0) + (1 : Int32)))) ((M 18) (((32 : Int32) * ((M 20) 0)) + (M 11 0)).toNatClampNeg)) = (12 : Int32))).elim (fun c60 => ?_) (fun c60 => ?_)
                            · have hres := it_p hres c60
                              have hok := io_p hok c60
                              refine sw_in (k := (12 : Int32)) (tgt := 490) c60 hx hb dX6_runStep_68 (by decide) (by decide) rfl (by decide) ?_
                              refine lv_aload_n hx hb dX6_runStep_490 rfl (lv_at hl 5 rfl) ?_
                              refine lv_iload hx hb dX6_runStep_491 (lv_at hl 1 rfl) ?_
                              refine lv_aload_n hx hb dX6_runStep_493 rfl (lv_at hl 5 rfl) ?_
                              refine R_X6_register_get C h in_fX6_35 dX6_runStep_494 ?_
                              refine lv_iload_n hx hb dX6_runStep_497 rfl (lv_at hl 2 rfl) ?_
                              obtain ⟨h63, hok⟩ := hok
                              refine R_register_ld (v := ((M3 25) (f_X6_a M3 ((M 18) (((32 : Int32) * ((M 20) 0)) + (M 11 0)).toNatClampNeg)).toNatClampNeg)) C h h63 rfl dX6_runStep_498 ?_
                              have h62 := hok
                              refine wh_cvv (As := [.int (f_X6_b M3 ((M 18) (((32 : Int32) * ((M 20) 0)) + (M 11 0)).toNatClampNeg)), .int ((M3 25) (f_X6_a M3 ((M 18) (((32 : Int32) * ((M 20) 0)) + (M 11 0)).toNatClampNeg)).toNatClampNeg)]) (rest := []) hcs C h (c_X6_push (ms M3 11 (fun _ => ((M3 11 0) + (1 : Int32)))) (f_X6_b M3 ((M 18) (((32 : Int32) * ((M 20) 0)) + (M 11 0)).toNatClampNeg)) ((M3 25) (f_X6_a M3 ((M 18) (((32 : Int32) * ((M 20) 0)) + (M 11 0)).toNatClampNeg)).toNatClampNeg) h62) yw_X6_push in_mX6_145 hl.1 rfl rfl (Nat.le_of_ble_eq_true rfl) ⟨Nat.le_trans (Nat.le_of_ble_eq_true rfl) hrf, Nat.le_trans (Nat.le_of_ble_eq_true rfl) hrl⟩ dX6_runStep_499 (fun M61 H locs e61 h => ?_)
                              rw [e61] at hres
                              have hres := bv_e hres
                              refine lv_goto (tgt := 600) hx hb dX6_runStep_502 (by decide) ?_
                              exact wh_vret C h hres dX6_runStep_600
                            · have hres := it_n hres c60
                              have hok := io_n hok c60
                              refine (Classical.em ((f_X6_op (ms M3 11 (fun _ => ((M3 11 0) + (1 : Int32)))) ((M 18) (((32 : Int32) * ((M 20) 0)) + (M 11 0)).toNatClampNeg)) = (13 : Int32))).elim (fun c64 => ?_) (fun c64 => ?_)
                              · have hres := it_p hres c64
                                have hok := io_p hok c64
                                refine sw_in (k := (13 : Int32)) (tgt := 505) c64 hx hb dX6_runStep_68 (by decide) (by decide) rfl (by decide) ?_
                                refine lv_aload_n hx hb dX6_runStep_505 rfl (lv_at hl 5 rfl) ?_
                                refine lv_iload hx hb dX6_runStep_506 (lv_at hl 1 rfl) ?_
                                refine lv_iload_n hx hb dX6_runStep_508 rfl (lv_at hl 2 rfl) ?_
                                have h66 := hok
                                refine wh_cvv (As := [.int (f_X6_b M3 ((M 18) (((32 : Int32) * ((M 20) 0)) + (M 11 0)).toNatClampNeg)), .int (f_X6_a M3 ((M 18) (((32 : Int32) * ((M 20) 0)) + (M 11 0)).toNatClampNeg))]) (rest := []) hcs C h (c_X6_pop (ms M3 11 (fun _ => ((M3 11 0) + (1 : Int32)))) (f_X6_b M3 ((M 18) (((32 : Int32) * ((M 20) 0)) + (M 11 0)).toNatClampNeg)) (f_X6_a M3 ((M 18) (((32 : Int32) * ((M 20) 0)) + (M 11 0)).toNatClampNeg)) h66) yw_X6_pop in_mX6_148 hl.1 rfl rfl (Nat.le_of_ble_eq_true rfl) ⟨Nat.le_trans (Nat.le_of_ble_eq_true rfl) hrf, Nat.le_trans (Nat.le_of_ble_eq_true rfl) hrl⟩ dX6_runStep_509 (fun M65 H locs e65 h => ?_)
                                rw [e65] at hres
                                have hres := bv_e hres
                                refine lv_goto (tgt := 600) hx hb dX6_runStep_512 (by decide) ?_
                                exact wh_vret C h hres dX6_runStep_600
                              · have hres := it_n hres c64
                                have hok := io_n hok c64
                                refine (Classical.em ((f_X6_op (ms M3 11 (fun _ => ((M3 11 0) + (1 : Int32)))) ((M 18) (((32 : Int32) * ((M 20) 0)) + (M 11 0)).toNatClampNeg)) = (14 : Int32))).elim (fun c67 => ?_) (fun c67 => ?_)
                                · have hres := it_p hres c67
                                  have hok := io_p hok c67
                                  refine sw_in (k := (14 : Int32)) (tgt := 515) c67 hx hb dX6_runStep_68 (by decide) (by decide) rfl (by decide) ?_
                                  refine lv_aload_n hx hb dX6_runStep_515 rfl (lv_at hl 5 rfl) ?_
                                  refine R_X6_register_get C h in_fX6_35 dX6_runStep_516 ?_
                                  refine lv_iload_n hx hb dX6_runStep_519 rfl (lv_at hl 2 rfl) ?_
                                  refine lv_aload_n hx hb dX6_runStep_520 rfl (lv_at hl 5 rfl) ?_
                                  refine R_X6_sensor_get C h in_fX6_22 dX6_runStep_521 ?_
                                  refine lv_iload hx hb dX6_runStep_524 (lv_at hl 1 rfl) ?_
                                  obtain ⟨h69, hok⟩ := hok
                                  refine R_sensor_ld (v := ((M3 22) (f_X6_b M3 ((M 18) (((32 : Int32) * ((M 20) 0)) + (M 11 0)).toNatClampNeg)).toNatClampNeg)) C h h69 rfl dX6_runStep_526 ?_
                                  have h68 := hok
                                  refine R_register_st (M2 := (ms (ms M3 11 (fun _ => ((M3 11 0) + (1 : Int32)))) 25 (upd (M3 25) (f_X6_a M3 ((M 18) (((32 : Int32) * ((M 20) 0)) + (M 11 0)).toNatClampNeg)).toNatClampNeg ((M3 22) (f_X6_b M3 ((M 18) (((32 : Int32) * ((M 20) 0)) + (M 11 0)).toNatClampNeg)).toNatClampNeg)))) C h h68 rfl dX6_runStep_527 (fun H locs h => ?_)
                                  refine lv_goto (tgt := 600) hx hb dX6_runStep_528 (by decide) ?_
                                  exact wh_vret C h hres dX6_runStep_600
                                · have hres := it_n hres c67
                                  have hok := io_n hok c67
                                  refine (Classical.em ((f_X6_op (ms M3 11 (fun _ => ((M3 11 0) + (1 : Int32)))) ((M 18) (((32 : Int32) * ((M 20) 0)) + (M 11 0)).toNatClampNeg)) = (15 : Int32))).elim (fun c70 => ?_) (fun c70 => ?_)
                                  · have hres := it_p hres c70
                                    have hok := io_p hok c70
                                    refine sw_in (k := (15 : Int32)) (tgt := 531) c70 hx hb dX6_runStep_68 (by decide) (by decide) rfl (by decide) ?_
                                    refine lv_aload_n hx hb dX6_runStep_531 rfl (lv_at hl 5 rfl) ?_
                                    refine lv_aload_n hx hb dX6_runStep_532 rfl (lv_at hl 5 rfl) ?_
                                    refine R_X6_register_get C h in_fX6_35 dX6_runStep_533 ?_
                                    refine lv_iload_n hx hb dX6_runStep_536 rfl (lv_at hl 2 rfl) ?_
                                    obtain ⟨h73, hok⟩ := hok
                                    refine R_register_ld (v := ((M3 25) (f_X6_a M3 ((M 18) (((32 : Int32) * ((M 20) 0)) + (M 11 0)).toNatClampNeg)).toNatClampNeg)) C h h73 rfl dX6_runStep_537 ?_
                                    have h72 := hok
                                    refine wh_cvv (As := [.int ((M3 25) (f_X6_a M3 ((M 18) (((32 : Int32) * ((M 20) 0)) + (M 11 0)).toNatClampNeg)).toNatClampNeg)]) (rest := []) hcs C h (c_X6_sendFrame (ms M3 11 (fun _ => ((M3 11 0) + (1 : Int32)))) ((M3 25) (f_X6_a M3 ((M 18) (((32 : Int32) * ((M 20) 0)) + (M 11 0)).toNatClampNeg)).toNatClampNeg) h72) yw_X6_sendFrame in_mX6_151 hl.1 rfl rfl (Nat.le_of_ble_eq_true rfl) ⟨Nat.le_trans (Nat.le_of_ble_eq_true rfl) hrf, Nat.le_trans (Nat.le_of_ble_eq_true rfl) hrl⟩ dX6_runStep_538 (fun M71 H locs e71 h => ?_)
                                    rw [e71] at hres
                                    have hres := bv_e hres
                                    refine lv_goto (tgt := 600) hx hb dX6_runStep_541 (by decide) ?_
                                    exact wh_vret C h hres dX6_runStep_600
                                  · have hres := it_n hres c70
                                    have hok := io_n hok c70
                                    refine (Classical.em ((f_X6_op (ms M3 11 (fun _ => ((M3 11 0) + (1 : Int32)))) ((M 18) (((32 : Int32) * ((M 20) 0)) + (M 11 0)).toNatClampNeg)) = (16 : Int32))).elim (fun c74 => ?_) (fun c74 => ?_)
                                    · have hres := it_p hres c74
                                      refine sw_in (k := (16 : Int32)) (tgt := 544) c74 hx hb dX6_runStep_68 (by decide) (by decide) rfl (by decide) ?_
                                      refine lv_aload_n hx hb dX6_runStep_544 rfl (lv_at hl 5 rfl) ?_
                                      refine lv_aload_n hx hb dX6_runStep_545 rfl (lv_at hl 5 rfl) ?_
                                      refine R_X6_slots_get (v := (M3 3 0)) C h in_fX6_155 rfl dX6_runStep_546 ?_
                                      refine R_X6_bound_put (v := (M3 3 0)) (M2 := (ms (ms M3 11 (fun _ => ((M3 11 0) + (1 : Int32)))) 13 (fun _ => (M3 3 0)))) C h in_fX6_105 rfl dX6_runStep_549 (fun H locs h => ?_)
                                      refine lv_goto (tgt := 600) hx hb dX6_runStep_552 (by decide) ?_
                                      exact wh_vret C h hres dX6_runStep_600
                                    · have hres := it_n hres c74
                                      have hok := io_n hok c74
                                      refine lv_tableOut (tgt := 555) hx hb dX6_runStep_68 (by have q := And.intro trivial trivial; have n0 := lv_neT c9 (a := 0) (by decide); have n1 := lv_neT c14 (a := 1) (by decide); have n2 := lv_neT c16 (a := 2) (by decide); have n3 := lv_neT c20 (a := 3) (by decide); have n4 := lv_neT c24 (a := 4) (by decide); have n5 := lv_neT c28 (a := 5) (by decide); have n6 := lv_neT c32 (a := 6) (by decide); have n7 := lv_neT c35 (a := 7) (by decide); have n8 := lv_neT c36 (a := 8) (by decide); have n9 := lv_neT c40 (a := 9) (by decide); have n10 := lv_neT c47 (a := 10) (by decide); have n11 := lv_neT c52 (a := 11) (by decide); have n12 := lv_neT c60 (a := 12) (by decide); have n13 := lv_neT c64 (a := 13) (by decide); have n14 := lv_neT c67 (a := 14) (by decide); have n15 := lv_neT c70 (a := 15) (by decide); have n16 := lv_neT c74 (a := 16) (by decide); omega) (by decide) ?_
                                      refine lv_aload_n hx hb dX6_runStep_555 rfl (lv_at hl 5 rfl) ?_
                                      refine R_X6_bound_get (v := (M3 13 0)) C h in_fX6_105 rfl dX6_runStep_556 ?_
                                      refine lv_iconst (v := (-1 : Int32)) hx hb dX6_runStep_559 (by decide) ?_
                                      refine lv_icmp_eq (tgt := 600) hx hb dX6_runStep_560 (by decide) (fun c75 => ?_) (fun c75 => ?_)
                                      · have hres := it_p hres c75
                                        exact wh_vret C h hres dX6_runStep_600
                                      · have hres := it_n hres c75
                                        have hok := io_n hok c75
                                        refine lv_aload_n hx hb dX6_runStep_563 rfl (lv_at hl 5 rfl) ?_
                                        refine R_X6_slots_get (v := (M3 3 0)) C h in_fX6_155 rfl dX6_runStep_564 ?_
                                        refine lv_aload_n hx hb dX6_runStep_567 rfl (lv_at hl 5 rfl) ?_
                                        refine R_X6_bound_get (v := (M3 13 0)) C h in_fX6_105 rfl dX6_runStep_568 ?_
                                        refine lv_isub hx hb dX6_runStep_571 ?_
                                        refine lv_iload_n hx hb dX6_runStep_572 rfl (lv_at hl 2 rfl) ?_
                                        refine lv_icmp_le (tgt := 600) hx hb dX6_runStep_573 (by decide) (fun c76 => ?_) (fun c76 => ?_)
                                        · have hres := it_p hres c76
                                          exact wh_vret C h hres dX6_runStep_600
                                        · have hres := it_n hres c76
                                          have hok := io_n hok c76
                                          refine lv_aload_n hx hb dX6_runStep_576 rfl (lv_at hl 5 rfl) ?_
                                          refine lv_dup hx hb dX6_runStep_577 rfl ?_
                                          refine R_X6_abandoned_get (v := (M3 7 0)) C h in_fX6_158 rfl dX6_runStep_578 ?_
                                          refine lv_iconst (v := (1 : Int32)) hx hb dX6_runStep_581 (by decide) ?_
                                          refine lv_iadd hx hb dX6_runStep_582 ?_
                                          refine R_X6_abandoned_put (v := ((M3 7 0) + (1 : Int32))) (M2 := (ms (ms M3 11 (fun _ => ((M3 11 0) + (1 : Int32)))) 7 (fun _ => ((M3 7 0) + (1 : Int32))))) C h in_fX6_158 rfl dX6_runStep_583 (fun H locs h => ?_)
                                          refine lv_aload_n hx hb dX6_runStep_586 rfl (lv_at hl 5 rfl) ?_
                                          refine lv_iconst (v := (2 : Int32)) hx hb dX6_runStep_587 (by decide) ?_
                                          refine R_X6_phase_put (v := (2 : Int32)) (M2 := (ms (ms (ms M3 11 (fun _ => ((M3 11 0) + (1 : Int32)))) 7 (fun _ => ((M3 7 0) + (1 : Int32)))) 4 (fun _ => (2 : Int32)))) C h in_fX6_93 rfl dX6_runStep_588 (fun H locs h => ?_)
                                          refine lv_aload_n hx hb dX6_runStep_591 rfl (lv_at hl 5 rfl) ?_
                                          refine lv_iconst (v := (0 : Int32)) hx hb dX6_runStep_592 (by decide) ?_
                                          refine R_X6_onAir_put (v := (0 : Int32)) (M2 := (ms (ms (ms (ms M3 11 (fun _ => ((M3 11 0) + (1 : Int32)))) 7 (fun _ => ((M3 7 0) + (1 : Int32)))) 4 (fun _ => (2 : Int32))) 10 (fun _ => (0 : Int32)))) C h in_fX6_127 nb_0 rfl dX6_runStep_593 (fun H locs h => ?_)
                                          refine lv_aload_n hx hb dX6_runStep_596 rfl (lv_at hl 5 rfl) ?_
                                          have h78 := hok
                                          refine wh_cvv (As := []) (rest := []) hcs C h (c_X6_endAttempt (ms (ms (ms (ms M3 11 (fun _ => ((M3 11 0) + (1 : Int32)))) 7 (fun _ => ((M3 7 0) + (1 : Int32)))) 4 (fun _ => (2 : Int32))) 10 (fun _ => (0 : Int32))) h78) yw_X6_endAttempt in_mX6_99 hl.1 rfl rfl (Nat.le_of_ble_eq_true rfl) ⟨Nat.le_trans (Nat.le_of_ble_eq_true rfl) hrf, Nat.le_trans (Nat.le_of_ble_eq_true rfl) hrl⟩ dX6_runStep_597 (fun M77 H locs e77 h => ?_)
                                          rw [e77] at hres
                                          have hres := bv_e hres
                                          exact wh_vret C h hres dX6_runStep_600
  · have hres := it_p hres c4
    exact wh_vret C h hres dX6_runStep_36
theorem yw_X6_runStep {cI : ClassId} {ad : Nat → Nat} : YV (wR cI ad) (ad 0) yX6_runStep cX6_runStep 7 none rmX6_runStep 0 := ⟨fun M => ⟨0, 6, _, _, rfl, rfl, rfl⟩, in_cX6_runStep, in_nX6_runStep, in_vX6_runStep, in_iX6, by decide +kernel, rfl, rfl⟩
theorem c_X6_runStep {l : Launch} {D : va_G} {cI : ClassId} {ad : Nat → Nat} (M : Mem) (hok : ok_X6_runStep M) : KV l D [(cI, .int)] (wR cI ad) yX6_runStep cX6_runStep 7 rmX6_runStep [.ref (ad 0)] M (f_X6_runStep M) := met_v (by decide) (Nat.le_of_ble_eq_true rfl) (fun p e s m below meth c A C h ls hl => k_X6_runStep_0 ⟨Nat.le_refl _, Nat.le_refl _⟩ (Nat.le_refl _) (Nat.le_refl _) C M _ _ ls hok rfl h hl)
