abbrev rmX6_isRight : Room := { frames := 1, cells := 0, slots := 0, locals := 20 }
def f_X6_isRight_56 (M : Mem) (x1 x3 x4 : Int32) : Int32 := (if x4 = (0 : Int32) then (if (f_X6_isTask M (f_X6_a M x3)) = 0 then (0 : Int32) else (if ((M 19) (f_X6_a M x3).toNatClampNeg) ≤ 0 then (0 : Int32) else (1 : Int32))) else (if x4 = (1 : Int32) then (if (8 : Int32) ≤ (f_X6_a M x3) then (0 : Int32) else (1 : Int32)) else (if x4 = (2 : Int32) then (if (8 : Int32) ≤ (f_X6_a M x3) then (0 : Int32) else (if (8 : Int32) ≤ (f_X6_b M x3) then (0 : Int32) else (if (8 : Int32) ≤ (f_X6_c M x3) then (0 : Int32) else (1 : Int32)))) else (if x4 = (3 : Int32) then (if (8 : Int32) ≤ (f_X6_a M x3) then (0 : Int32) else (if (8 : Int32) ≤ (f_X6_b M x3) then (0 : Int32) else (if (8 : Int32) ≤ (f_X6_c M x3) then (0 : Int32) else (1 : Int32)))) else (if x4 = (4 : Int32) then (if (8 : Int32) ≤ (f_X6_a M x3) then (0 : Int32) else (if (8 : Int32) ≤ (f_X6_b M x3) then (0 : Int32) else (if (8 : Int32) ≤ (f_X6_c M x3) then (0 : Int32) else (1 : Int32)))) else (if x4 = (5 : Int32) then (if (8 : Int32) ≤ (f_X6_a M x3) then (0 : Int32) else (if (8 : Int32) ≤ (f_X6_b M x3) then (0 : Int32) else (if (8 : Int32) ≤ (f_X6_c M x3) then (0 : Int32) else (1 : Int32)))) else (if x4 = (6 : Int32) then (if (8 : Int32) ≤ (f_X6_a M x3) then (0 : Int32) else (if ((M 19) x1.toNatClampNeg) ≤ (f_X6_b M x3) then (0 : Int32) else (1 : Int32))) else (if x4 = (7 : Int32) then (if ((M 19) x1.toNatClampNeg) ≤ (f_X6_b M x3) then (0 : Int32) else (1 : Int32)) else (if x4 = (8 : Int32) then (if (8 : Int32) ≤ (f_X6_a M x3) then (0 : Int32) else (if (16 : Int32) ≤ (f_X6_b M x3) then (0 : Int32) else (1 : Int32))) else (if x4 = (9 : Int32) then (if (8 : Int32) ≤ (f_X6_a M x3) then (0 : Int32) else (if (16 : Int32) ≤ (f_X6_b M x3) then (0 : Int32) else (1 : Int32))) else (if x4 = (10 : Int32) then (if (8 : Int32) ≤ (f_X6_a M x3) then (0 : Int32) else (if (4 : Int32) ≤ (f_X6_b M x3) then (0 : Int32) else (if (8 : Int32) ≤ (f_X6_c M x3) then (0 : Int32) else (1 : Int32)))) else (if x4 = (11 : Int32) then (if (8 : Int32) ≤ (f_X6_a M x3) then (0 : Int32) else (if (4 : Int32) ≤ (f_X6_b M x3) then (0 : Int32) else (if (8 : Int32) ≤ (f_X6_c M x3) then (0 : Int32) else (1 : Int32)))) else (if x4 = (12 : Int32) then (if (8 : Int32) ≤ (f_X6_a M x3) then (0 : Int32) else (if (2 : Int32) ≤ (f_X6_b M x3) then (0 : Int32) else (1 : Int32))) else (if x4 = (13 : Int32) then (if (8 : Int32) ≤ (f_X6_a M x3) then (0 : Int32) else (if (2 : Int32) ≤ (f_X6_b M x3) then (0 : Int32) else (1 : Int32))) else (if x4 = (14 : Int32) then (if (8 : Int32) ≤ (f_X6_a M x3) then (0 : Int32) else (if (4 : Int32) ≤ (f_X6_b M x3) then (0 : Int32) else (1 : Int32))) else (if x4 = (15 : Int32) then (if (8 : Int32) ≤ (f_X6_a M x3) then (0 : Int32) else (1 : Int32)) else (if x4 = (16 : Int32) then (1 : Int32) else (if x4 = (17 : Int32) then (1 : Int32) else (0 : Int32)))))))))))))))))))
def ok_X6_isRight_56 (M : Mem) (x1 x3 x4 : Int32) : Prop := (if x4 = (0 : Int32) then (if (f_X6_isTask M (f_X6_a M x3)) = 0 then True else vp_in (f_X6_a M x3) 16) else (if x4 = (1 : Int32) then True else (if x4 = (2 : Int32) then True else (if x4 = (3 : Int32) then True else (if x4 = (4 : Int32) then True else (if x4 = (5 : Int32) then True else (if x4 = (6 : Int32) then (if (8 : Int32) ≤ (f_X6_a M x3) then True else vp_in x1 16) else (if x4 = (7 : Int32) then vp_in x1 16 else True))))))))
def f_X6_isRight_35 (M : Mem) (x1 x3 x4 t0 : Int32) : Int32 := (if t0 = 0 then (f_X6_isRight_56 M x1 x3 x4) else (if x4 = 0 then (f_X6_isRight_56 M x1 x3 x4) else (if x4 = (7 : Int32) then (f_X6_isRight_56 M x1 x3 x4) else (0 : Int32))))
def ok_X6_isRight_35 (M : Mem) (x1 x3 x4 t0 : Int32) : Prop := (if t0 = 0 then ok_X6_isRight_56 M x1 x3 x4 else (if x4 = 0 then ok_X6_isRight_56 M x1 x3 x4 else (if x4 = (7 : Int32) then ok_X6_isRight_56 M x1 x3 x4 else True)))
def f_X6_isRight (M : Mem) (a1 a2 : Int32) : Int32 := (if (a2 + (1 : Int32)) = ((M 19) a1.toNatClampNeg) then (f_X6_isRight_35 M a1 ((M 18) (((32 : Int32) * a1) + a2).toNatClampNeg) (f_X6_op M ((M 18) (((32 : Int32) * a1) + a2).toNatClampNeg)) (1 : Int32)) else (f_X6_isRight_35 M a1 ((M 18) (((32 : Int32) * a1) + a2).toNatClampNeg) (f_X6_op M ((M 18) (((32 : Int32) * a1) + a2).toNatClampNeg)) (0 : Int32)))
def ok_X6_isRight (M : Mem) (a1 a2 : Int32) : Prop := vp_in (((32 : Int32) * a1) + a2) 512 ∧ vp_in a1 16 ∧ (if (a2 + (1 : Int32)) = ((M 19) a1.toNatClampNeg) then ok_X6_isRight_35 M a1 ((M 18) (((32 : Int32) * a1) + a2).toNatClampNeg) (f_X6_op M ((M 18) (((32 : Int32) * a1) + a2).toNatClampNeg)) (1 : Int32) else ok_X6_isRight_35 M a1 ((M 18) (((32 : Int32) * a1) + a2).toNatClampNeg) (f_X6_op M ((M 18) (((32 : Int32) * a1) + a2).toNatClampNeg)) (0 : Int32))
set_option maxRecDepth 100000 in
set_option maxHeartbeats 4000000 in
theorem k_X6_isRight_56 {p : Program} {l : Launch} {e : Env} {s : State} {m : MethodId} {args : Array Value} {below : List Frame} {meth : Method} {c : Code} {D : va_G} {cI : ClassId} {ad : Nat → Nat} {A : Nat → Prop} {cells slots : Nat} {R : Room} (hcs : cells ≤ R.cells ∧ slots ≤ R.slots) (hrf : rmX6_isRight.frames ≤ R.frames) (hrl : rmX6_isRight.locals ≤ R.locals) {r0 : Int32} (C : CX p s m args meth c RX6 cX6_isRight 6 (some .boolean)) : ∀ (M : Mem) (x1 x3 x4 : Int32) (H : Heap) (locs : List Loc) (ls : Array Slot), ok_X6_isRight_56 M x1 x3 x4 → f_X6_isRight_56 M x1 x3 x4 = r0 → WH D [(cI, .int)] (wR cI ad) A s H locs M → lv_has ls 6 [(0, .ref (ad 0)), (1, .int x1), (3, .int x3), (4, .int x4)] → W p l e R s m args below meth c H locs cells slots (MQ below (PZ D [(cI, .int)] (wR cI ad) A (M, r0)) args s cells slots A) (F0 m 56 ls []) := by
  have hx := C.1
  have hb := C.2.1
  have hown := C.2.2.2.2.1
  have hts := C.2.2.2.2.2.1
  intro M x1 x3 x4 H locs ls hok hres h hl
  rw [ok_X6_isRight_56] at hok
  rw [f_X6_isRight_56] at hres
  refine lv_iload hx hb dX6_isRight_56 (lv_at hl 3 rfl) ?_
  refine (Classical.em (x4 = (0 : Int32))).elim (fun c4 => ?_) (fun c4 => ?_)
  · have hres := it_p hres c4
    have hok := io_p hok c4
    refine sw_in (k := (0 : Int32)) (tgt := 144) c4 hx hb dX6_isRight_58 (by decide) (by decide) rfl (by decide) ?_
    refine lv_iload_n hx hb dX6_isRight_144 rfl (lv_at hl 2 rfl) ?_
    refine wh_csip (As := [.int x3]) (rest := []) hcs C h (c_X6_a M x3) yw_X6_a in_mX6_71 hl.1 rfl rfl (Nat.le_of_ble_eq_true rfl) ⟨Nat.le_trans (Nat.le_of_ble_eq_true rfl) hrf, Nat.le_trans (Nat.le_of_ble_eq_true rfl) hrl⟩ dX6_isRight_145 (fun H locs h => ?_)
    refine wh_cszp (As := [.int (f_X6_a M x3)]) (rest := []) hcs C h (c_X6_isTask M (f_X6_a M x3)) yw_X6_isTask in_mX6_63 hl.1 rfl rfl (Nat.le_of_ble_eq_true rfl) ⟨Nat.le_trans (Nat.le_of_ble_eq_true rfl) hrf, Nat.le_trans (Nat.le_of_ble_eq_true rfl) hrl⟩ dX6_isRight_148 (fun H locs z6 h => ?_)
    refine lv_if_eq (tgt := 170) hx hb dX6_isRight_151 (by decide) (fun c7 => ?_) (fun c7 => ?_)
    · have hres := it_p hres c7
      refine lv_iconst (v := (0 : Int32)) hx hb dX6_isRight_170 (by decide) ?_
      exact wh_zret C h nb_0 (cz hres) dX6_isRight_171
    · have hres := it_n hres c7
      have hok := io_n hok c7
      refine lv_aload_n hx hb dX6_isRight_154 rfl (lv_at hl 0 rfl) ?_
      refine R_X6_size_get C h in_fX6_13 dX6_isRight_155 ?_
      refine lv_iload_n hx hb dX6_isRight_158 rfl (lv_at hl 2 rfl) ?_
      refine wh_csip (As := [.int x3]) (rest := [.ref (ad 2)]) hcs C h (c_X6_a M x3) yw_X6_a in_mX6_71 hl.1 rfl rfl (Nat.le_of_ble_eq_true rfl) ⟨Nat.le_trans (Nat.le_of_ble_eq_true rfl) hrf, Nat.le_trans (Nat.le_of_ble_eq_true rfl) hrl⟩ dX6_isRight_159 (fun H locs h => ?_)
      have h10 := hok
      refine R_size_ld (v := ((M 19) (f_X6_a M x3).toNatClampNeg)) C h h10 rfl dX6_isRight_162 ?_
      refine lv_if_le (tgt := 170) hx hb dX6_isRight_163 (by decide) (fun c9 => ?_) (fun c9 => ?_)
      · have hres := it_p hres c9
        refine lv_iconst (v := (0 : Int32)) hx hb dX6_isRight_170 (by decide) ?_
        exact wh_zret C h nb_0 (cz hres) dX6_isRight_171
      · have hres := it_n hres c9
        refine lv_iconst (v := (1 : Int32)) hx hb dX6_isRight_166 (by decide) ?_
        refine lv_goto (tgt := 171) hx hb dX6_isRight_167 (by decide) ?_
        exact wh_zret C h nb_1 (cz hres) dX6_isRight_171
  · have hres := it_n hres c4
    have hok := io_n hok c4
    refine (Classical.em (x4 = (1 : Int32))).elim (fun c11 => ?_) (fun c11 => ?_)
    · have hres := it_p hres c11
      refine sw_in (k := (1 : Int32)) (tgt := 172) c11 hx hb dX6_isRight_58 (by decide) (by decide) rfl (by decide) ?_
      refine lv_iload_n hx hb dX6_isRight_172 rfl (lv_at hl 2 rfl) ?_
      refine wh_csip (As := [.int x3]) (rest := []) hcs C h (c_X6_a M x3) yw_X6_a in_mX6_71 hl.1 rfl rfl (Nat.le_of_ble_eq_true rfl) ⟨Nat.le_trans (Nat.le_of_ble_eq_true rfl) hrf, Nat.le_trans (Nat.le_of_ble_eq_true rfl) hrl⟩ dX6_isRight_173 (fun H locs h => ?_)
      refine lv_bipush (v := (8 : Int32)) hx hb dX6_isRight_176 (by decide) ?_
      refine lv_icmp_ge (tgt := 185) hx hb dX6_isRight_178 (by decide) (fun c13 => ?_) (fun c13 => ?_)
      · have hres := it_p hres c13
        refine lv_iconst (v := (0 : Int32)) hx hb dX6_isRight_185 (by decide) ?_
        exact wh_zret C h nb_0 (cz hres) dX6_isRight_186
      · have hres := it_n hres c13
        refine lv_iconst (v := (1 : Int32)) hx hb dX6_isRight_181 (by decide) ?_
        refine lv_goto (tgt := 186) hx hb dX6_isRight_182 (by decide) ?_
        exact wh_zret C h nb_1 (cz hres) dX6_isRight_186
    · have hres := it_n hres c11
      have hok := io_n hok c11
      refine (Classical.em (x4 = (2 : Int32))).elim (fun c14 => ?_) (fun c14 => ?_)
      · have hres := it_p hres c14
        refine sw_in (k := (2 : Int32)) (tgt := 187) c14 hx hb dX6_isRight_58 (by decide) (by decide) rfl (by decide) ?_
        refine lv_iload_n hx hb dX6_isRight_187 rfl (lv_at hl 2 rfl) ?_
        refine wh_csip (As := [.int x3]) (rest := []) hcs C h (c_X6_a M x3) yw_X6_a in_mX6_71 hl.1 rfl rfl (Nat.le_of_ble_eq_true rfl) ⟨Nat.le_trans (Nat.le_of_ble_eq_true rfl) hrf, Nat.le_trans (Nat.le_of_ble_eq_true rfl) hrl⟩ dX6_isRight_188 (fun H locs h => ?_)
        refine lv_bipush (v := (8 : Int32)) hx hb dX6_isRight_191 (by decide) ?_
        refine lv_icmp_ge (tgt := 218) hx hb dX6_isRight_193 (by decide) (fun c16 => ?_) (fun c16 => ?_)
        · have hres := it_p hres c16
          refine lv_iconst (v := (0 : Int32)) hx hb dX6_isRight_218 (by decide) ?_
          exact wh_zret C h nb_0 (cz hres) dX6_isRight_219
        · have hres := it_n hres c16
          refine lv_iload_n hx hb dX6_isRight_196 rfl (lv_at hl 2 rfl) ?_
          refine wh_csip (As := [.int x3]) (rest := []) hcs C h (c_X6_b M x3) yw_X6_b in_mX6_74 hl.1 rfl rfl (Nat.le_of_ble_eq_true rfl) ⟨Nat.le_trans (Nat.le_of_ble_eq_true rfl) hrf, Nat.le_trans (Nat.le_of_ble_eq_true rfl) hrl⟩ dX6_isRight_197 (fun H locs h => ?_)
          refine lv_bipush (v := (8 : Int32)) hx hb dX6_isRight_200 (by decide) ?_
          refine lv_icmp_ge (tgt := 218) hx hb dX6_isRight_202 (by decide) (fun c18 => ?_) (fun c18 => ?_)
          · have hres := it_p hres c18
            refine lv_iconst (v := (0 : Int32)) hx hb dX6_isRight_218 (by decide) ?_
            exact wh_zret C h nb_0 (cz hres) dX6_isRight_219
          · have hres := it_n hres c18
            refine lv_iload_n hx hb dX6_isRight_205 rfl (lv_at hl 2 rfl) ?_
            refine wh_csip (As := [.int x3]) (rest := []) hcs C h (c_X6_c M x3) yw_X6_c in_mX6_77 hl.1 rfl rfl (Nat.le_of_ble_eq_true rfl) ⟨Nat.le_trans (Nat.le_of_ble_eq_true rfl) hrf, Nat.le_trans (Nat.le_of_ble_eq_true rfl) hrl⟩ dX6_isRight_206 (fun H locs h => ?_)
            refine lv_bipush (v := (8 : Int32)) hx hb dX6_isRight_209 (by decide) ?_
            refine lv_icmp_ge (tgt := 218) hx hb dX6_isRight_211 (by decide) (fun c20 => ?_) (fun c20 => ?_)
            · have hres := it_p hres c20
              refine lv_iconst (v := (0 : Int32)) hx hb dX6_isRight_218 (by decide) ?_
              exact wh_zret C h nb_0 (cz hres) dX6_isRight_219
            · have hres := it_n hres c20
              refine lv_iconst (v := (1 : Int32)) hx hb dX6_isRight_214 (by decide) ?_
              refine lv_goto (tgt := 219) hx hb dX6_isRight_215 (by decide) ?_
              exact wh_zret C h nb_1 (cz hres) dX6_isRight_219
      · have hres := it_n hres c14
        have hok := io_n hok c14
        refine (Classical.em (x4 = (3 : Int32))).elim (fun c21 => ?_) (fun c21 => ?_)
        · have hres := it_p hres c21
          refine sw_in (k := (3 : Int32)) (tgt := 187) c21 hx hb dX6_isRight_58 (by decide) (by decide) rfl (by decide) ?_
          refine lv_iload_n hx hb dX6_isRight_187 rfl (lv_at hl 2 rfl) ?_
          refine wh_csip (As := [.int x3]) (rest := []) hcs C h (c_X6_a M x3) yw_X6_a in_mX6_71 hl.1 rfl rfl (Nat.le_of_ble_eq_true rfl) ⟨Nat.le_trans (Nat.le_of_ble_eq_true rfl) hrf, Nat.le_trans (Nat.le_of_ble_eq_true rfl) hrl⟩ dX6_isRight_188 (fun H locs h => ?_)
          refine lv_bipush (v := (8 : Int32)) hx hb dX6_isRight_191 (by decide) ?_
          refine lv_icmp_ge (tgt := 218) hx hb dX6_isRight_193 (by decide) (fun c23 => ?_) (fun c23 => ?_)
          · have hres := it_p hres c23
            refine lv_iconst (v := (0 : Int32)) hx hb dX6_isRight_218 (by decide) ?_
            exact wh_zret C h nb_0 (cz hres) dX6_isRight_219
          · have hres := it_n hres c23
            refine lv_iload_n hx hb dX6_isRight_196 rfl (lv_at hl 2 rfl) ?_
            refine wh_csip (As := [.int x3]) (rest := []) hcs C h (c_X6_b M x3) yw_X6_b in_mX6_74 hl.1 rfl rfl (Nat.le_of_ble_eq_true rfl) ⟨Nat.le_trans (Nat.le_of_ble_eq_true rfl) hrf, Nat.le_trans (Nat.le_of_ble_eq_true rfl) hrl⟩ dX6_isRight_197 (fun H locs h => ?_)
            refine lv_bipush (v := (8 : Int32)) hx hb dX6_isRight_200 (by decide) ?_
            refine lv_icmp_ge (tgt := 218) hx hb dX6_isRight_202 (by decide) (fun c25 => ?_) (fun c25 => ?_)
            · have hres := it_p hres c25
              refine lv_iconst (v := (0 : Int32)) hx hb dX6_isRight_218 (by decide) ?_
              exact wh_zret C h nb_0 (cz hres) dX6_isRight_219
            · have hres := it_n hres c25
              refine lv_iload_n hx hb dX6_isRight_205 rfl (lv_at hl 2 rfl) ?_
              refine wh_csip (As := [.int x3]) (rest := []) hcs C h (c_X6_c M x3) yw_X6_c in_mX6_77 hl.1 rfl rfl (Nat.le_of_ble_eq_true rfl) ⟨Nat.le_trans (Nat.le_of_ble_eq_true rfl) hrf, Nat.le_trans (Nat.le_of_ble_eq_true rfl) hrl⟩ dX6_isRight_206 (fun H locs h => ?_)
              refine lv_bipush (v := (8 : Int32)) hx hb dX6_isRight_209 (by decide) ?_
              refine lv_icmp_ge (tgt := 218) hx hb dX6_isRight_211 (by decide) (fun c27 => ?_) (fun c27 => ?_)
              · have hres := it_p hres c27
                refine lv_iconst (v := (0 : Int32)) hx hb dX6_isRight_218 (by decide) ?_
                exact wh_zret C h nb_0 (cz hres) dX6_isRight_219
              · have hres := it_n hres c27
                refine lv_iconst (v := (1 : Int32)) hx hb dX6_isRight_214 (by decide) ?_
                refine lv_goto (tgt := 219) hx hb dX6_isRight_215 (by decide) ?_
                exact wh_zret C h nb_1 (cz hres) dX6_isRight_219
        · have hres := it_n hres c21
          have hok := io_n hok c21
          refine (Classical.em (x4 = (4 : Int32))).elim (fun c28 => ?_) (fun c28 => ?_)
          · have hres := it_p hres c28
            refine sw_in (k := (4 : Int32)) (tgt := 187) c28 hx hb dX6_isRight_58 (by decide) (by decide) rfl (by decide) ?_
            refine lv_iload_n hx hb dX6_isRight_187 rfl (lv_at hl 2 rfl) ?_
            refine wh_csip (As := [.int x3]) (rest := []) hcs C h (c_X6_a M x3) yw_X6_a in_mX6_71 hl.1 rfl rfl (Nat.le_of_ble_eq_true rfl) ⟨Nat.le_trans (Nat.le_of_ble_eq_true rfl) hrf, Nat.le_trans (Nat.le_of_ble_eq_true rfl) hrl⟩ dX6_isRight_188 (fun H locs h => ?_)
            refine lv_bipush (v := (8 : Int32)) hx hb dX6_isRight_191 (by decide) ?_
            refine lv_icmp_ge (tgt := 218) hx hb dX6_isRight_193 (by decide) (fun c30 => ?_) (fun c30 => ?_)
            · have hres := it_p hres c30
              refine lv_iconst (v := (0 : Int32)) hx hb dX6_isRight_218 (by decide) ?_
              exact wh_zret C h nb_0 (cz hres) dX6_isRight_219
            · have hres := it_n hres c30
              refine lv_iload_n hx hb dX6_isRight_196 rfl (lv_at hl 2 rfl) ?_
              refine wh_csip (As := [.int x3]) (rest := []) hcs C h (c_X6_b M x3) yw_X6_b in_mX6_74 hl.1 rfl rfl (Nat.le_of_ble_eq_true rfl) ⟨Nat.le_trans (Nat.le_of_ble_eq_true rfl) hrf, Nat.le_trans (Nat.le_of_ble_eq_true rfl) hrl⟩ dX6_isRight_197 (fun H locs h => ?_)
              refine lv_bipush (v := (8 : Int32)) hx hb dX6_isRight_200 (by decide) ?_
              refine lv_icmp_ge (tgt := 218) hx hb dX6_isRight_202 (by decide) (fun c32 => ?_) (fun c32 => ?_)
              · have hres := it_p hres c32
                refine lv_iconst (v := (0 : Int32)) hx hb dX6_isRight_218 (by decide) ?_
                exact wh_zret C h nb_0 (cz hres) dX6_isRight_219
              · have hres := it_n hres c32
                refine lv_iload_n hx hb dX6_isRight_205 rfl (lv_at hl 2 rfl) ?_
                refine wh_csip (As := [.int x3]) (rest := []) hcs C h (c_X6_c M x3) yw_X6_c in_mX6_77 hl.1 rfl rfl (Nat.le_of_ble_eq_true rfl) ⟨Nat.le_trans (Nat.le_of_ble_eq_true rfl) hrf, Nat.le_trans (Nat.le_of_ble_eq_true rfl) hrl⟩ dX6_isRight_206 (fun H locs h => ?_)
                refine lv_bipush (v := (8 : Int32)) hx hb dX6_isRight_209 (by decide) ?_
                refine lv_icmp_ge (tgt := 218) hx hb dX6_isRight_211 (by decide) (fun c34 => ?_) (fun c34 => ?_)
                · have hres := it_p hres c34
                  refine lv_iconst (v := (0 : Int32)) hx hb dX6_isRight_218 (by decide) ?_
                  exact wh_zret C h nb_0 (cz hres) dX6_isRight_219
                · have hres := it_n hres c34
                  refine lv_iconst (v := (1 : Int32)) hx hb dX6_isRight_214 (by decide) ?_
                  refine lv_goto (tgt := 219) hx hb dX6_isRight_215 (by decide) ?_
                  exact wh_zret C h nb_1 (cz hres) dX6_isRight_219
          · have hres := it_n hres c28
            have hok := io_n hok c28
            refine (Classical.em (x4 = (5 : Int32))).elim (fun c35 => ?_) (fun c35 => ?_)
            · have hres := it_p hres c35
              refine sw_in (k := (5 : Int32)) (tgt := 187) c35 hx hb dX6_isRight_58 (by decide) (by decide) rfl (by decide) ?_
              refine lv_iload_n hx hb dX6_isRight_187 rfl (lv_at hl 2 rfl) ?_
              refine wh_csip (As := [.int x3]) (rest := []) hcs C h (c_X6_a M x3) yw_X6_a in_mX6_71 hl.1 rfl rfl (Nat.le_of_ble_eq_true rfl) ⟨Nat.le_trans (Nat.le_of_ble_eq_true rfl) hrf, Nat.le_trans (Nat.le_of_ble_eq_true rfl) hrl⟩ dX6_isRight_188 (fun H locs h => ?_)
              refine lv_bipush (v := (8 : Int32)) hx hb dX6_isRight_191 (by decide) ?_
              refine lv_icmp_ge (tgt := 218) hx hb dX6_isRight_193 (by decide) (fun c37 => ?_) (fun c37 => ?_)
              · have hres := it_p hres c37
                refine lv_iconst (v := (0 : Int32)) hx hb dX6_isRight_218 (by decide) ?_
                exact wh_zret C h nb_0 (cz hres) dX6_isRight_219
              · have hres := it_n hres c37
                refine lv_iload_n hx hb dX6_isRight_196 rfl (lv_at hl 2 rfl) ?_
                refine wh_csip (As := [.int x3]) (rest := []) hcs C h (c_X6_b M x3) yw_X6_b in_mX6_74 hl.1 rfl rfl (Nat.le_of_ble_eq_true rfl) ⟨Nat.le_trans (Nat.le_of_ble_eq_true rfl) hrf, Nat.le_trans (Nat.le_of_ble_eq_true rfl) hrl⟩ dX6_isRight_197 (fun H locs h => ?_)
                refine lv_bipush (v := (8 : Int32)) hx hb dX6_isRight_200 (by decide) ?_
                refine lv_icmp_ge (tgt := 218) hx hb dX6_isRight_202 (by decide) (fun c39 => ?_) (fun c39 => ?_)
                · have hres := it_p hres c39
                  refine lv_iconst (v := (0 : Int32)) hx hb dX6_isRight_218 (by decide) ?_
                  exact wh_zret C h nb_0 (cz hres) dX6_isRight_219
                · have hres := it_n hres c39
                  refine lv_iload_n hx hb dX6_isRight_205 rfl (lv_at hl 2 rfl) ?_
                  refine wh_csip (As := [.int x3]) (rest := []) hcs C h (c_X6_c M x3) yw_X6_c in_mX6_77 hl.1 rfl rfl (Nat.le_of_ble_eq_true rfl) ⟨Nat.le_trans (Nat.le_of_ble_eq_true rfl) hrf, Nat.le_trans (Nat.le_of_ble_eq_true rfl) hrl⟩ dX6_isRight_206 (fun H locs h => ?_)
                  refine lv_bipush (v := (8 : Int32)) hx hb dX6_isRight_209 (by decide) ?_
                  refine lv_icmp_ge (tgt := 218) hx hb dX6_isRight_211 (by decide) (fun c41 => ?_) (fun c41 => ?_)
                  · have hres := it_p hres c41
                    refine lv_iconst (v := (0 : Int32)) hx hb dX6_isRight_218 (by decide) ?_
                    exact wh_zret C h nb_0 (cz hres) dX6_isRight_219
                  · have hres := it_n hres c41
                    refine lv_iconst (v := (1 : Int32)) hx hb dX6_isRight_214 (by decide) ?_
                    refine lv_goto (tgt := 219) hx hb dX6_isRight_215 (by decide) ?_
                    exact wh_zret C h nb_1 (cz hres) dX6_isRight_219
            · have hres := it_n hres c35
              have hok := io_n hok c35
              refine (Classical.em (x4 = (6 : Int32))).elim (fun c42 => ?_) (fun c42 => ?_)
              · have hres := it_p hres c42
                have hok := io_p hok c42
                refine sw_in (k := (6 : Int32)) (tgt := 220) c42 hx hb dX6_isRight_58 (by decide) (by decide) rfl (by decide) ?_
                refine lv_iload_n hx hb dX6_isRight_220 rfl (lv_at hl 2 rfl) ?_
                refine wh_csip (As := [.int x3]) (rest := []) hcs C h (c_X6_a M x3) yw_X6_a in_mX6_71 hl.1 rfl rfl (Nat.le_of_ble_eq_true rfl) ⟨Nat.le_trans (Nat.le_of_ble_eq_true rfl) hrf, Nat.le_trans (Nat.le_of_ble_eq_true rfl) hrl⟩ dX6_isRight_221 (fun H locs h => ?_)
                refine lv_bipush (v := (8 : Int32)) hx hb dX6_isRight_224 (by decide) ?_
                refine lv_icmp_ge (tgt := 246) hx hb dX6_isRight_226 (by decide) (fun c44 => ?_) (fun c44 => ?_)
                · have hres := it_p hres c44
                  refine lv_iconst (v := (0 : Int32)) hx hb dX6_isRight_246 (by decide) ?_
                  exact wh_zret C h nb_0 (cz hres) dX6_isRight_247
                · have hres := it_n hres c44
                  have hok := io_n hok c44
                  refine lv_iload_n hx hb dX6_isRight_229 rfl (lv_at hl 2 rfl) ?_
                  refine wh_csip (As := [.int x3]) (rest := []) hcs C h (c_X6_b M x3) yw_X6_b in_mX6_74 hl.1 rfl rfl (Nat.le_of_ble_eq_true rfl) ⟨Nat.le_trans (Nat.le_of_ble_eq_true rfl) hrf, Nat.le_trans (Nat.le_of_ble_eq_true rfl) hrl⟩ dX6_isRight_230 (fun H locs h => ?_)
                  refine lv_aload_n hx hb dX6_isRight_233 rfl (lv_at hl 0 rfl) ?_
                  refine R_X6_size_get C h in_fX6_13 dX6_isRight_234 ?_
                  refine lv_iload_n hx hb dX6_isRight_237 rfl (lv_at hl 1 rfl) ?_
                  have h47 := hok
                  refine R_size_ld (v := ((M 19) x1.toNatClampNeg)) C h h47 rfl dX6_isRight_238 ?_
                  refine lv_icmp_ge (tgt := 246) hx hb dX6_isRight_239 (by decide) (fun c46 => ?_) (fun c46 => ?_)
                  · have hres := it_p hres c46
                    refine lv_iconst (v := (0 : Int32)) hx hb dX6_isRight_246 (by decide) ?_
                    exact wh_zret C h nb_0 (cz hres) dX6_isRight_247
                  · have hres := it_n hres c46
                    refine lv_iconst (v := (1 : Int32)) hx hb dX6_isRight_242 (by decide) ?_
                    refine lv_goto (tgt := 247) hx hb dX6_isRight_243 (by decide) ?_
                    exact wh_zret C h nb_1 (cz hres) dX6_isRight_247
              · have hres := it_n hres c42
                have hok := io_n hok c42
                refine (Classical.em (x4 = (7 : Int32))).elim (fun c48 => ?_) (fun c48 => ?_)
                · have hres := it_p hres c48
                  have hok := io_p hok c48
                  refine sw_in (k := (7 : Int32)) (tgt := 248) c48 hx hb dX6_isRight_58 (by decide) (by decide) rfl (by decide) ?_
                  refine lv_iload_n hx hb dX6_isRight_248 rfl (lv_at hl 2 rfl) ?_
                  refine wh_csip (As := [.int x3]) (rest := []) hcs C h (c_X6_b M x3) yw_X6_b in_mX6_74 hl.1 rfl rfl (Nat.le_of_ble_eq_true rfl) ⟨Nat.le_trans (Nat.le_of_ble_eq_true rfl) hrf, Nat.le_trans (Nat.le_of_ble_eq_true rfl) hrl⟩ dX6_isRight_249 (fun H locs h => ?_)
                  refine lv_aload_n hx hb dX6_isRight_252 rfl (lv_at hl 0 rfl) ?_
                  refine R_X6_size_get C h in_fX6_13 dX6_isRight_253 ?_
                  refine lv_iload_n hx hb dX6_isRight_256 rfl (lv_at hl 1 rfl) ?_
                  have h51 := hok
                  refine R_size_ld (v := ((M 19) x1.toNatClampNeg)) C h h51 rfl dX6_isRight_257 ?_
                  refine lv_icmp_ge (tgt := 265) hx hb dX6_isRight_258 (by decide) (fun c50 => ?_) (fun c50 => ?_)
                  · have hres := it_p hres c50
                    refine lv_iconst (v := (0 : Int32)) hx hb dX6_isRight_265 (by decide) ?_
                    exact wh_zret C h nb_0 (cz hres) dX6_isRight_266
                  · have hres := it_n hres c50
                    refine lv_iconst (v := (1 : Int32)) hx hb dX6_isRight_261 (by decide) ?_
                    refine lv_goto (tgt := 266) hx hb dX6_isRight_262 (by decide) ?_
                    exact wh_zret C h nb_1 (cz hres) dX6_isRight_266
                · have hres := it_n hres c48
                  refine (Classical.em (x4 = (8 : Int32))).elim (fun c52 => ?_) (fun c52 => ?_)
                  · have hres := it_p hres c52
                    refine sw_in (k := (8 : Int32)) (tgt := 267) c52 hx hb dX6_isRight_58 (by decide) (by decide) rfl (by decide) ?_
                    refine lv_iload_n hx hb dX6_isRight_267 rfl (lv_at hl 2 rfl) ?_
                    refine wh_csip (As := [.int x3]) (rest := []) hcs C h (c_X6_a M x3) yw_X6_a in_mX6_71 hl.1 rfl rfl (Nat.le_of_ble_eq_true rfl) ⟨Nat.le_trans (Nat.le_of_ble_eq_true rfl) hrf, Nat.le_trans (Nat.le_of_ble_eq_true rfl) hrl⟩ dX6_isRight_268 (fun H locs h => ?_)
                    refine lv_bipush (v := (8 : Int32)) hx hb dX6_isRight_271 (by decide) ?_
                    refine lv_icmp_ge (tgt := 289) hx hb dX6_isRight_273 (by decide) (fun c54 => ?_) (fun c54 => ?_)
                    · have hres := it_p hres c54
                      refine lv_iconst (v := (0 : Int32)) hx hb dX6_isRight_289 (by decide) ?_
                      exact wh_zret C h nb_0 (cz hres) dX6_isRight_290
                    · have hres := it_n hres c54
                      refine lv_iload_n hx hb dX6_isRight_276 rfl (lv_at hl 2 rfl) ?_
                      refine wh_csip (As := [.int x3]) (rest := []) hcs C h (c_X6_b M x3) yw_X6_b in_mX6_74 hl.1 rfl rfl (Nat.le_of_ble_eq_true rfl) ⟨Nat.le_trans (Nat.le_of_ble_eq_true rfl) hrf, Nat.le_trans (Nat.le_of_ble_eq_true rfl) hrl⟩ dX6_isRight_277 (fun H locs h => ?_)
                      refine lv_bipush (v := (16 : Int32)) hx hb dX6_isRight_280 (by decide) ?_
                      refine lv_icmp_ge (tgt := 289) hx hb dX6_isRight_282 (by decide) (fun c56 => ?_) (fun c56 => ?_)
                      · have hres := it_p hres c56
                        refine lv_iconst (v := (0 : Int32)) hx hb dX6_isRight_289 (by decide) ?_
                        exact wh_zret C h nb_0 (cz hres) dX6_isRight_290
                      · have hres := it_n hres c56
                        refine lv_iconst (v := (1 : Int32)) hx hb dX6_isRight_285 (by decide) ?_
                        refine lv_goto (tgt := 290) hx hb dX6_isRight_286 (by decide) ?_
                        exact wh_zret C h nb_1 (cz hres) dX6_isRight_290
                  · have hres := it_n hres c52
                    refine (Classical.em (x4 = (9 : Int32))).elim (fun c57 => ?_) (fun c57 => ?_)
                    · have hres := it_p hres c57
                      refine sw_in (k := (9 : Int32)) (tgt := 267) c57 hx hb dX6_isRight_58 (by decide) (by decide) rfl (by decide) ?_
                      refine lv_iload_n hx hb dX6_isRight_267 rfl (lv_at hl 2 rfl) ?_
                      refine wh_csip (As := [.int x3]) (rest := []) hcs C h (c_X6_a M x3) yw_X6_a in_mX6_71 hl.1 rfl rfl (Nat.le_of_ble_eq_true rfl) ⟨Nat.le_trans (Nat.le_of_ble_eq_true rfl) hrf, Nat.le_trans (Nat.le_of_ble_eq_true rfl) hrl⟩ dX6_isRight_268 (fun H locs h => ?_)
                      refine lv_bipush (v := (8 : Int32)) hx hb dX6_isRight_271 (by decide) ?_
                      refine lv_icmp_ge (tgt := 289) hx hb dX6_isRight_273 (by decide) (fun c59 => ?_) (fun c59 => ?_)
                      · have hres := it_p hres c59
                        refine lv_iconst (v := (0 : Int32)) hx hb dX6_isRight_289 (by decide) ?_
                        exact wh_zret C h nb_0 (cz hres) dX6_isRight_290
                      · have hres := it_n hres c59
                        refine lv_iload_n hx hb dX6_isRight_276 rfl (lv_at hl 2 rfl) ?_
                        refine wh_csip (As := [.int x3]) (rest := []) hcs C h (c_X6_b M x3) yw_X6_b in_mX6_74 hl.1 rfl rfl (Nat.le_of_ble_eq_true rfl) ⟨Nat.le_trans (Nat.le_of_ble_eq_true rfl) hrf, Nat.le_trans (Nat.le_of_ble_eq_true rfl) hrl⟩ dX6_isRight_277 (fun H locs h => ?_)
                        refine lv_bipush (v := (16 : Int32)) hx hb dX6_isRight_280 (by decide) ?_
                        refine lv_icmp_ge (tgt := 289) hx hb dX6_isRight_282 (by decide) (fun c61 => ?_) (fun c61 => ?_)
                        · have hres := it_p hres c61
                          refine lv_iconst (v := (0 : Int32)) hx hb dX6_isRight_289 (by decide) ?_
                          exact wh_zret C h nb_0 (cz hres) dX6_isRight_290
                        · have hres := it_n hres c61
                          refine lv_iconst (v := (1 : Int32)) hx hb dX6_isRight_285 (by decide) ?_
                          refine lv_goto (tgt := 290) hx hb dX6_isRight_286 (by decide) ?_
                          exact wh_zret C h nb_1 (cz hres) dX6_isRight_290
                    · have hres := it_n hres c57
                      refine (Classical.em (x4 = (10 : Int32))).elim (fun c62 => ?_) (fun c62 => ?_)
                      · have hres := it_p hres c62
                        refine sw_in (k := (10 : Int32)) (tgt := 291) c62 hx hb dX6_isRight_58 (by decide) (by decide) rfl (by decide) ?_
                        refine lv_iload_n hx hb dX6_isRight_291 rfl (lv_at hl 2 rfl) ?_
                        refine wh_csip (As := [.int x3]) (rest := []) hcs C h (c_X6_a M x3) yw_X6_a in_mX6_71 hl.1 rfl rfl (Nat.le_of_ble_eq_true rfl) ⟨Nat.le_trans (Nat.le_of_ble_eq_true rfl) hrf, Nat.le_trans (Nat.le_of_ble_eq_true rfl) hrl⟩ dX6_isRight_292 (fun H locs h => ?_)
                        refine lv_bipush (v := (8 : Int32)) hx hb dX6_isRight_295 (by decide) ?_
                        refine lv_icmp_ge (tgt := 321) hx hb dX6_isRight_297 (by decide) (fun c64 => ?_) (fun c64 => ?_)
                        · have hres := it_p hres c64
                          refine lv_iconst (v := (0 : Int32)) hx hb dX6_isRight_321 (by decide) ?_
                          exact wh_zret C h nb_0 (cz hres) dX6_isRight_322
                        · have hres := it_n hres c64
                          refine lv_iload_n hx hb dX6_isRight_300 rfl (lv_at hl 2 rfl) ?_
                          refine wh_csip (As := [.int x3]) (rest := []) hcs C h (c_X6_b M x3) yw_X6_b in_mX6_74 hl.1 rfl rfl (Nat.le_of_ble_eq_true rfl) ⟨Nat.le_trans (Nat.le_of_ble_eq_true rfl) hrf, Nat.le_trans (Nat.le_of_ble_eq_true rfl) hrl⟩ dX6_isRight_301 (fun H locs h => ?_)
                          refine lv_iconst (v := (4 : Int32)) hx hb dX6_isRight_304 (by decide) ?_
                          refine lv_icmp_ge (tgt := 321) hx hb dX6_isRight_305 (by decide) (fun c66 => ?_) (fun c66 => ?_)
                          · have hres := it_p hres c66
                            refine lv_iconst (v := (0 : Int32)) hx hb dX6_isRight_321 (by decide) ?_
                            exact wh_zret C h nb_0 (cz hres) dX6_isRight_322
                          · have hres := it_n hres c66
                            refine lv_iload_n hx hb dX6_isRight_308 rfl (lv_at hl 2 rfl) ?_
                            refine wh_csip (As := [.int x3]) (rest := []) hcs C h (c_X6_c M x3) yw_X6_c in_mX6_77 hl.1 rfl rfl (Nat.le_of_ble_eq_true rfl) ⟨Nat.le_trans (Nat.le_of_ble_eq_true rfl) hrf, Nat.le_trans (Nat.le_of_ble_eq_true rfl) hrl⟩ dX6_isRight_309 (fun H locs h => ?_)
                            refine lv_bipush (v := (8 : Int32)) hx hb dX6_isRight_312 (by decide) ?_
                            refine lv_icmp_ge (tgt := 321) hx hb dX6_isRight_314 (by decide) (fun c68 => ?_) (fun c68 => ?_)
                            · have hres := it_p hres c68
                              refine lv_iconst (v := (0 : Int32)) hx hb dX6_isRight_321 (by decide) ?_
                              exact wh_zret C h nb_0 (cz hres) dX6_isRight_322
                            · have hres := it_n hres c68
                              refine lv_iconst (v := (1 : Int32)) hx hb dX6_isRight_317 (by decide) ?_
                              refine lv_goto (tgt := 322) hx hb dX6_isRight_318 (by decide) ?_
                              exact wh_zret C h nb_1 (cz hres) dX6_isRight_322
                      · have hres := it_n hres c62
                        refine (Classical.em (x4 = (11 : Int32))).elim (fun c69 => ?_) (fun c69 => ?_)
                        · have hres := it_p hres c69
                          refine sw_in (k := (11 : Int32)) (tgt := 291) c69 hx hb dX6_isRight_58 (by decide) (by decide) rfl (by decide) ?_
                          refine lv_iload_n hx hb dX6_isRight_291 rfl (lv_at hl 2 rfl) ?_
                          refine wh_csip (As := [.int x3]) (rest := []) hcs C h (c_X6_a M x3) yw_X6_a in_mX6_71 hl.1 rfl rfl (Nat.le_of_ble_eq_true rfl) ⟨Nat.le_trans (Nat.le_of_ble_eq_true rfl) hrf, Nat.le_trans (Nat.le_of_ble_eq_true rfl) hrl⟩ dX6_isRight_292 (fun H locs h => ?_)
                          refine lv_bipush (v := (8 : Int32)) hx hb dX6_isRight_295 (by decide) ?_
                          refine lv_icmp_ge (tgt := 321) hx hb dX6_isRight_297 (by decide) (fun c71 => ?_) (fun c71 => ?_)
                          · have hres := it_p hres c71
                            refine lv_iconst (v := (0 : Int32)) hx hb dX6_isRight_321 (by decide) ?_
                            exact wh_zret C h nb_0 (cz hres) dX6_isRight_322
                          · have hres := it_n hres c71
                            refine lv_iload_n hx hb dX6_isRight_300 rfl (lv_at hl 2 rfl) ?_
                            refine wh_csip (As := [.int x3]) (rest := []) hcs C h (c_X6_b M x3) yw_X6_b in_mX6_74 hl.1 rfl rfl (Nat.le_of_ble_eq_true rfl) ⟨Nat.le_trans (Nat.le_of_ble_eq_true rfl) hrf, Nat.le_trans (Nat.le_of_ble_eq_true rfl) hrl⟩ dX6_isRight_301 (fun H locs h => ?_)
                            refine lv_iconst (v := (4 : Int32)) hx hb dX6_isRight_304 (by decide) ?_
                            refine lv_icmp_ge (tgt := 321) hx hb dX6_isRight_305 (by decide) (fun c73 => ?_) (fun c73 => ?_)
                            · have hres := it_p hres c73
                              refine lv_iconst (v := (0 : Int32)) hx hb dX6_isRight_321 (by decide) ?_
                              exact wh_zret C h nb_0 (cz hres) dX6_isRight_322
                            · have hres := it_n hres c73
                              refine lv_iload_n hx hb dX6_isRight_308 rfl (lv_at hl 2 rfl) ?_
                              refine wh_csip (As := [.int x3]) (rest := []) hcs C h (c_X6_c M x3) yw_X6_c in_mX6_77 hl.1 rfl rfl (Nat.le_of_ble_eq_true rfl) ⟨Nat.le_trans (Nat.le_of_ble_eq_true rfl) hrf, Nat.le_trans (Nat.le_of_ble_eq_true rfl) hrl⟩ dX6_isRight_309 (fun H locs h => ?_)
                              refine lv_bipush (v := (8 : Int32)) hx hb dX6_isRight_312 (by decide) ?_
                              refine lv_icmp_ge (tgt := 321) hx hb dX6_isRight_314 (by decide) (fun c75 => ?_) (fun c75 => ?_)
                              · have hres := it_p hres c75
                                refine lv_iconst (v := (0 : Int32)) hx hb dX6_isRight_321 (by decide) ?_
                                exact wh_zret C h nb_0 (cz hres) dX6_isRight_322
                              · have hres := it_n hres c75
                                refine lv_iconst (v := (1 : Int32)) hx hb dX6_isRight_317 (by decide) ?_
                                refine lv_goto (tgt := 322) hx hb dX6_isRight_318 (by decide) ?_
                                exact wh_zret C h nb_1 (cz hres) dX6_isRight_322
                        · have hres := it_n hres c69
                          refine (Classical.em (x4 = (12 : Int32))).elim (fun c76 => ?_) (fun c76 => ?_)
                          · have hres := it_p hres c76
                            refine sw_in (k := (12 : Int32)) (tgt := 323) c76 hx hb dX6_isRight_58 (by decide) (by decide) rfl (by decide) ?_
                            refine lv_iload_n hx hb dX6_isRight_323 rfl (lv_at hl 2 rfl) ?_
                            refine wh_csip (As := [.int x3]) (rest := []) hcs C h (c_X6_a M x3) yw_X6_a in_mX6_71 hl.1 rfl rfl (Nat.le_of_ble_eq_true rfl) ⟨Nat.le_trans (Nat.le_of_ble_eq_true rfl) hrf, Nat.le_trans (Nat.le_of_ble_eq_true rfl) hrl⟩ dX6_isRight_324 (fun H locs h => ?_)
                            refine lv_bipush (v := (8 : Int32)) hx hb dX6_isRight_327 (by decide) ?_
                            refine lv_icmp_ge (tgt := 344) hx hb dX6_isRight_329 (by decide) (fun c78 => ?_) (fun c78 => ?_)
                            · have hres := it_p hres c78
                              refine lv_iconst (v := (0 : Int32)) hx hb dX6_isRight_344 (by decide) ?_
                              exact wh_zret C h nb_0 (cz hres) dX6_isRight_345
                            · have hres := it_n hres c78
                              refine lv_iload_n hx hb dX6_isRight_332 rfl (lv_at hl 2 rfl) ?_
                              refine wh_csip (As := [.int x3]) (rest := []) hcs C h (c_X6_b M x3) yw_X6_b in_mX6_74 hl.1 rfl rfl (Nat.le_of_ble_eq_true rfl) ⟨Nat.le_trans (Nat.le_of_ble_eq_true rfl) hrf, Nat.le_trans (Nat.le_of_ble_eq_true rfl) hrl⟩ dX6_isRight_333 (fun H locs h => ?_)
                              refine lv_iconst (v := (2 : Int32)) hx hb dX6_isRight_336 (by decide) ?_
                              refine lv_icmp_ge (tgt := 344) hx hb dX6_isRight_337 (by decide) (fun c80 => ?_) (fun c80 => ?_)
                              · have hres := it_p hres c80
                                refine lv_iconst (v := (0 : Int32)) hx hb dX6_isRight_344 (by decide) ?_
                                exact wh_zret C h nb_0 (cz hres) dX6_isRight_345
                              · have hres := it_n hres c80
                                refine lv_iconst (v := (1 : Int32)) hx hb dX6_isRight_340 (by decide) ?_
                                refine lv_goto (tgt := 345) hx hb dX6_isRight_341 (by decide) ?_
                                exact wh_zret C h nb_1 (cz hres) dX6_isRight_345
                          · have hres := it_n hres c76
                            refine (Classical.em (x4 = (13 : Int32))).elim (fun c81 => ?_) (fun c81 => ?_)
                            · have hres := it_p hres c81
                              refine sw_in (k := (13 : Int32)) (tgt := 323) c81 hx hb dX6_isRight_58 (by decide) (by decide) rfl (by decide) ?_
                              refine lv_iload_n hx hb dX6_isRight_323 rfl (lv_at hl 2 rfl) ?_
                              refine wh_csip (As := [.int x3]) (rest := []) hcs C h (c_X6_a M x3) yw_X6_a in_mX6_71 hl.1 rfl rfl (Nat.le_of_ble_eq_true rfl) ⟨Nat.le_trans (Nat.le_of_ble_eq_true rfl) hrf, Nat.le_trans (Nat.le_of_ble_eq_true rfl) hrl⟩ dX6_isRight_324 (fun H locs h => ?_)
                              refine lv_bipush (v := (8 : Int32)) hx hb dX6_isRight_327 (by decide) ?_
                              refine lv_icmp_ge (tgt := 344) hx hb dX6_isRight_329 (by decide) (fun c83 => ?_) (fun c83 => ?_)
                              · have hres := it_p hres c83
                                refine lv_iconst (v := (0 : Int32)) hx hb dX6_isRight_344 (by decide) ?_
                                exact wh_zret C h nb_0 (cz hres) dX6_isRight_345
                              · have hres := it_n hres c83
                                refine lv_iload_n hx hb dX6_isRight_332 rfl (lv_at hl 2 rfl) ?_
                                refine wh_csip (As := [.int x3]) (rest := []) hcs C h (c_X6_b M x3) yw_X6_b in_mX6_74 hl.1 rfl rfl (Nat.le_of_ble_eq_true rfl) ⟨Nat.le_trans (Nat.le_of_ble_eq_true rfl) hrf, Nat.le_trans (Nat.le_of_ble_eq_true rfl) hrl⟩ dX6_isRight_333 (fun H locs h => ?_)
                                refine lv_iconst (v := (2 : Int32)) hx hb dX6_isRight_336 (by decide) ?_
                                refine lv_icmp_ge (tgt := 344) hx hb dX6_isRight_337 (by decide) (fun c85 => ?_) (fun c85 => ?_)
                                · have hres := it_p hres c85
                                  refine lv_iconst (v := (0 : Int32)) hx hb dX6_isRight_344 (by decide) ?_
                                  exact wh_zret C h nb_0 (cz hres) dX6_isRight_345
                                · have hres := it_n hres c85
                                  refine lv_iconst (v := (1 : Int32)) hx hb dX6_isRight_340 (by decide) ?_
                                  refine lv_goto (tgt := 345) hx hb dX6_isRight_341 (by decide) ?_
                                  exact wh_zret C h nb_1 (cz hres) dX6_isRight_345
                            · have hres := it_n hres c81
                              refine (Classical.em (x4 = (14 : Int32))).elim (fun c86 => ?_) (fun c86 => ?_)
                              · have hres := it_p hres c86
                                refine sw_in (k := (14 : Int32)) (tgt := 346) c86 hx hb dX6_isRight_58 (by decide) (by decide) rfl (by decide) ?_
                                refine lv_iload_n hx hb dX6_isRight_346 rfl (lv_at hl 2 rfl) ?_
                                refine wh_csip (As := [.int x3]) (rest := []) hcs C h (c_X6_a M x3) yw_X6_a in_mX6_71 hl.1 rfl rfl (Nat.le_of_ble_eq_true rfl) ⟨Nat.le_trans (Nat.le_of_ble_eq_true rfl) hrf, Nat.le_trans (Nat.le_of_ble_eq_true rfl) hrl⟩ dX6_isRight_347 (fun H locs h => ?_)
                                refine lv_bipush (v := (8 : Int32)) hx hb dX6_isRight_350 (by decide) ?_
                                refine lv_icmp_ge (tgt := 367) hx hb dX6_isRight_352 (by decide) (fun c88 => ?_) (fun c88 => ?_)
                                · have hres := it_p hres c88
                                  refine lv_iconst (v := (0 : Int32)) hx hb dX6_isRight_367 (by decide) ?_
                                  exact wh_zret C h nb_0 (cz hres) dX6_isRight_368
                                · have hres := it_n hres c88
                                  refine lv_iload_n hx hb dX6_isRight_355 rfl (lv_at hl 2 rfl) ?_
                                  refine wh_csip (As := [.int x3]) (rest := []) hcs C h (c_X6_b M x3) yw_X6_b in_mX6_74 hl.1 rfl rfl (Nat.le_of_ble_eq_true rfl) ⟨Nat.le_trans (Nat.le_of_ble_eq_true rfl) hrf, Nat.le_trans (Nat.le_of_ble_eq_true rfl) hrl⟩ dX6_isRight_356 (fun H locs h => ?_)
                                  refine lv_iconst (v := (4 : Int32)) hx hb dX6_isRight_359 (by decide) ?_
                                  refine lv_icmp_ge (tgt := 367) hx hb dX6_isRight_360 (by decide) (fun c90 => ?_) (fun c90 => ?_)
                                  · have hres := it_p hres c90
                                    refine lv_iconst (v := (0 : Int32)) hx hb dX6_isRight_367 (by decide) ?_
                                    exact wh_zret C h nb_0 (cz hres) dX6_isRight_368
                                  · have hres := it_n hres c90
                                    refine lv_iconst (v := (1 : Int32)) hx hb dX6_isRight_363 (by decide) ?_
                                    refine lv_goto (tgt := 368) hx hb dX6_isRight_364 (by decide) ?_
                                    exact wh_zret C h nb_1 (cz hres) dX6_isRight_368
                              · have hres := it_n hres c86
                                refine (Classical.em (x4 = (15 : Int32))).elim (fun c91 => ?_) (fun c91 => ?_)
                                · have hres := it_p hres c91
                                  refine sw_in (k := (15 : Int32)) (tgt := 172) c91 hx hb dX6_isRight_58 (by decide) (by decide) rfl (by decide) ?_
                                  refine lv_iload_n hx hb dX6_isRight_172 rfl (lv_at hl 2 rfl) ?_
                                  refine wh_csip (As := [.int x3]) (rest := []) hcs C h (c_X6_a M x3) yw_X6_a in_mX6_71 hl.1 rfl rfl (Nat.le_of_ble_eq_true rfl) ⟨Nat.le_trans (Nat.le_of_ble_eq_true rfl) hrf, Nat.le_trans (Nat.le_of_ble_eq_true rfl) hrl⟩ dX6_isRight_173 (fun H locs h => ?_)
                                  refine lv_bipush (v := (8 : Int32)) hx hb dX6_isRight_176 (by decide) ?_
                                  refine lv_icmp_ge (tgt := 185) hx hb dX6_isRight_178 (by decide) (fun c93 => ?_) (fun c93 => ?_)
                                  · have hres := it_p hres c93
                                    refine lv_iconst (v := (0 : Int32)) hx hb dX6_isRight_185 (by decide) ?_
                                    exact wh_zret C h nb_0 (cz hres) dX6_isRight_186
                                  · have hres := it_n hres c93
                                    refine lv_iconst (v := (1 : Int32)) hx hb dX6_isRight_181 (by decide) ?_
                                    refine lv_goto (tgt := 186) hx hb dX6_isRight_182 (by decide) ?_
                                    exact wh_zret C h nb_1 (cz hres) dX6_isRight_186
                                · have hres := it_n hres c91
                                  refine (Classical.em (x4 = (16 : Int32))).elim (fun c94 => ?_) (fun c94 => ?_)
                                  · have hres := it_p hres c94
                                    refine sw_in (k := (16 : Int32)) (tgt := 369) c94 hx hb dX6_isRight_58 (by decide) (by decide) rfl (by decide) ?_
                                    refine lv_iconst (v := (1 : Int32)) hx hb dX6_isRight_369 (by decide) ?_
                                    exact wh_zret C h nb_1 (cz hres) dX6_isRight_370
                                  · have hres := it_n hres c94
                                    refine (Classical.em (x4 = (17 : Int32))).elim (fun c95 => ?_) (fun c95 => ?_)
                                    · have hres := it_p hres c95
                                      refine sw_in (k := (17 : Int32)) (tgt := 369) c95 hx hb dX6_isRight_58 (by decide) (by decide) rfl (by decide) ?_
                                      refine lv_iconst (v := (1 : Int32)) hx hb dX6_isRight_369 (by decide) ?_
                                      exact wh_zret C h nb_1 (cz hres) dX6_isRight_370
                                    · have hres := it_n hres c95
                                      refine lv_tableOut (tgt := 371) hx hb dX6_isRight_58 (by have q := And.intro trivial trivial; have n0 := lv_neT c4 (a := 0) (by decide); have n1 := lv_neT c11 (a := 1) (by decide); have n2 := lv_neT c14 (a := 2) (by decide); have n3 := lv_neT c21 (a := 3) (by decide); have n4 := lv_neT c28 (a := 4) (by decide); have n5 := lv_neT c35 (a := 5) (by decide); have n6 := lv_neT c42 (a := 6) (by decide); have n7 := lv_neT c48 (a := 7) (by decide); have n8 := lv_neT c52 (a := 8) (by decide); have n9 := lv_neT c57 (a := 9) (by decide); have n10 := lv_neT c62 (a := 10) (by decide); have n11 := lv_neT c69 (a := 11) (by decide); have n12 := lv_neT c76 (a := 12) (by decide); have n13 := lv_neT c81 (a := 13) (by decide); have n14 := lv_neT c86 (a := 14) (by decide); have n15 := lv_neT c91 (a := 15) (by decide); have n16 := lv_neT c94 (a := 16) (by decide); have n17 := lv_neT c95 (a := 17) (by decide); omega) (by decide) ?_
                                      refine lv_iconst (v := (0 : Int32)) hx hb dX6_isRight_371 (by decide) ?_
                                      exact wh_zret C h nb_0 (cz hres) dX6_isRight_372
set_option maxRecDepth 100000 in
set_option maxHeartbeats 4000000 in
theorem k_X6_isRight_35 {p : Program} {l : Launch} {e : Env} {s : State} {m : MethodId} {args : Array Value} {below : List Frame} {meth : Method} {c : Code} {D : va_G} {cI : ClassId} {ad : Nat → Nat} {A : Nat → Prop} {cells slots : Nat} {R : Room} (hcs : cells ≤ R.cells ∧ slots ≤ R.slots) (hrf : rmX6_isRight.frames ≤ R.frames) (hrl : rmX6_isRight.locals ≤ R.locals) {r0 : Int32} (C : CX p s m args meth c RX6 cX6_isRight 6 (some .boolean)) : ∀ (M : Mem) (x1 x3 x4 t0 : Int32) (H : Heap) (locs : List Loc) (ls : Array Slot), ok_X6_isRight_35 M x1 x3 x4 t0 → f_X6_isRight_35 M x1 x3 x4 t0 = r0 → WH D [(cI, .int)] (wR cI ad) A s H locs M → lv_has ls 6 [(0, .ref (ad 0)), (1, .int x1), (3, .int x3), (4, .int x4)] → W p l e R s m args below meth c H locs cells slots (MQ below (PZ D [(cI, .int)] (wR cI ad) A (M, r0)) args s cells slots A) (F0 m 35 ls [.int t0]) := by
  have hx := C.1
  have hb := C.2.1
  have hown := C.2.2.2.2.1
  have hts := C.2.2.2.2.2.1
  intro M x1 x3 x4 t0 H locs ls hok hres h hl
  rw [ok_X6_isRight_35] at hok
  rw [f_X6_isRight_35] at hres
  refine lv_istore (lv' := [(5, .int t0), (0, .ref (ad 0)), (1, .int x1), (3, .int x3), (4, .int x4)]) hx hb dX6_isRight_35 hl (by decide) rfl (fun ls hl => ?_)
  refine lv_iload hx hb dX6_isRight_37 (lv_at hl 0 rfl) ?_
  refine lv_if_eq (tgt := 56) hx hb dX6_isRight_39 (by decide) (fun c3 => ?_) (fun c3 => ?_)
  · have hres := it_p hres c3
    have hok := io_p hok c3
    exact k_X6_isRight_56 hcs hrf hrl C M x1 x3 x4 _ _ _ hok hres h (lv_sub hl [1, 2, 3, 4] rfl)
  · have hres := it_n hres c3
    have hok := io_n hok c3
    refine lv_iload hx hb dX6_isRight_42 (lv_at hl 4 rfl) ?_
    refine lv_if_eq (tgt := 56) hx hb dX6_isRight_44 (by decide) (fun c96 => ?_) (fun c96 => ?_)
    · have hres := it_p hres c96
      have hok := io_p hok c96
      exact k_X6_isRight_56 hcs hrf hrl C M x1 x3 x4 _ _ _ hok hres h (lv_sub hl [1, 2, 3, 4] rfl)
    · have hres := it_n hres c96
      have hok := io_n hok c96
      refine lv_iload hx hb dX6_isRight_47 (lv_at hl 4 rfl) ?_
      refine lv_bipush (v := (7 : Int32)) hx hb dX6_isRight_49 (by decide) ?_
      refine lv_icmp_eq (tgt := 56) hx hb dX6_isRight_51 (by decide) (fun c97 => ?_) (fun c97 => ?_)
      · have hres := it_p hres c97
        have hok := io_p hok c97
        exact k_X6_isRight_56 hcs hrf hrl C M x1 x3 x4 _ _ _ hok hres h (lv_sub hl [1, 2, 3, 4] rfl)
      · have hres := it_n hres c97
        refine lv_iconst (v := (0 : Int32)) hx hb dX6_isRight_54 (by decide) ?_
        exact wh_zret C h nb_0 (cz hres) dX6_isRight_55
set_option maxRecDepth 100000 in
set_option maxHeartbeats 4000000 in
theorem k_X6_isRight_0 {p : Program} {l : Launch} {e : Env} {s : State} {m : MethodId} {args : Array Value} {below : List Frame} {meth : Method} {c : Code} {D : va_G} {cI : ClassId} {ad : Nat → Nat} {A : Nat → Prop} {cells slots : Nat} {R : Room} (hcs : cells ≤ R.cells ∧ slots ≤ R.slots) (hrf : rmX6_isRight.frames ≤ R.frames) (hrl : rmX6_isRight.locals ≤ R.locals) {r0 : Int32} (C : CX p s m args meth c RX6 cX6_isRight 6 (some .boolean)) : ∀ (M : Mem) (a1 a2 : Int32) (H : Heap) (locs : List Loc) (ls : Array Slot), ok_X6_isRight M a1 a2 → f_X6_isRight M a1 a2 = r0 → WH D [(cI, .int)] (wR cI ad) A s H locs M → lv_has ls 6 [(0, .ref (ad 0)), (1, .int a1), (2, .int a2)] → W p l e R s m args below meth c H locs cells slots (MQ below (PZ D [(cI, .int)] (wR cI ad) A (M, r0)) args s cells slots A) (F0 m 0 ls []) := by
  have hx := C.1
  have hb := C.2.1
  have hown := C.2.2.2.2.1
  have hts := C.2.2.2.2.2.1
  intro M a1 a2 H locs ls hok hres h hl
  rw [ok_X6_isRight] at hok
  rw [f_X6_isRight] at hres
  refine lv_aload_n hx hb dX6_isRight_0 rfl (lv_at hl 0 rfl) ?_
  refine R_X6_code_get C h in_fX6_7 dX6_isRight_1 ?_
  refine lv_bipush (v := (32 : Int32)) hx hb dX6_isRight_4 (by decide) ?_
  refine lv_iload_n hx hb dX6_isRight_6 rfl (lv_at hl 1 rfl) ?_
  refine lv_imul hx hb dX6_isRight_7 ?_
  refine lv_iload_n hx hb dX6_isRight_8 rfl (lv_at hl 2 rfl) ?_
  refine lv_iadd hx hb dX6_isRight_9 ?_
  obtain ⟨h99, hok⟩ := hok
  refine R_code_ld (v := ((M 18) (((32 : Int32) * a1) + a2).toNatClampNeg)) C h h99 rfl dX6_isRight_10 ?_
  refine lv_istore_n (lv' := [(3, .int ((M 18) (((32 : Int32) * a1) + a2).toNatClampNeg)), (0, .ref (ad 0)), (1, .int a1), (2, .int a2)]) hx hb dX6_isRight_11 rfl hl (by decide) rfl (fun ls hl => ?_)
  refine lv_iload_n hx hb dX6_isRight_12 rfl (lv_at hl 0 rfl) ?_
  refine wh_csip (As := [.int ((M 18) (((32 : Int32) * a1) + a2).toNatClampNeg)]) (rest := []) hcs C h (c_X6_op M ((M 18) (((32 : Int32) * a1) + a2).toNatClampNeg)) yw_X6_op in_mX6_67 hl.1 rfl rfl (Nat.le_of_ble_eq_true rfl) ⟨Nat.le_trans (Nat.le_of_ble_eq_true rfl) hrf, Nat.le_trans (Nat.le_of_ble_eq_true rfl) hrl⟩ dX6_isRight_13 (fun H locs h => ?_)
  refine lv_istore (lv' := [(4, .int (f_X6_op M ((M 18) (((32 : Int32) * a1) + a2).toNatClampNeg))), (3, .int ((M 18) (((32 : Int32) * a1) + a2).toNatClampNeg)), (0, .ref (ad 0)), (1, .int a1), (2, .int a2)]) hx hb dX6_isRight_16 hl (by decide) rfl (fun ls hl => ?_)
  refine lv_iload_n hx hb dX6_isRight_18 rfl (lv_at hl 4 rfl) ?_
  refine lv_iconst (v := (1 : Int32)) hx hb dX6_isRight_19 (by decide) ?_
  refine lv_iadd hx hb dX6_isRight_20 ?_
  refine lv_aload_n hx hb dX6_isRight_21 rfl (lv_at hl 2 rfl) ?_
  refine R_X6_size_get C h in_fX6_13 dX6_isRight_22 ?_
  refine lv_iload_n hx hb dX6_isRight_25 rfl (lv_at hl 3 rfl) ?_
  obtain ⟨h98, hok⟩ := hok
  refine R_size_ld (v := ((M 19) a1.toNatClampNeg)) C h h98 rfl dX6_isRight_26 ?_
  refine lv_icmp_ne (tgt := 34) hx hb dX6_isRight_27 (by decide) (fun c2 => ?_) (fun c2 => ?_)
  · have hres := it_n hres c2
    have hok := io_n hok c2
    refine lv_iconst (v := (0 : Int32)) hx hb dX6_isRight_34 (by decide) ?_
    exact k_X6_isRight_35 hcs hrf hrl C M a1 ((M 18) (((32 : Int32) * a1) + a2).toNatClampNeg) (f_X6_op M ((M 18) (((32 : Int32) * a1) + a2).toNatClampNeg)) (0 : Int32) _ _ _ hok hres h (lv_sub hl [2, 3, 1, 0] rfl)
  · have hres := it_p hres c2
    have hok := io_p hok c2
    refine lv_iconst (v := (1 : Int32)) hx hb dX6_isRight_30 (by decide) ?_
    refine lv_goto (tgt := 35) hx hb dX6_isRight_31 (by decide) ?_
    exact k_X6_isRight_35 hcs hrf hrl C M a1 ((M 18) (((32 : Int32) * a1) + a2).toNatClampNeg) (f_X6_op M ((M 18) (((32 : Int32) * a1) + a2).toNatClampNeg)) (1 : Int32) _ _ _ hok hres h (lv_sub hl [2, 3, 1, 0] rfl)
theorem yw_X6_isRight {cI : ClassId} {ad : Nat → Nat} : YV (wR cI ad) (ad 0) yX6_isRight cX6_isRight 6 (some .boolean) rmX6_isRight 2 := ⟨fun M => ⟨0, 6, _, _, rfl, rfl, rfl⟩, in_cX6_isRight, in_nX6_isRight, in_vX6_isRight, in_iX6, by decide +kernel, rfl, rfl⟩
theorem c_X6_isRight {l : Launch} {D : va_G} {cI : ClassId} {ad : Nat → Nat} (M : Mem) (a1 a2 : Int32) (hok : ok_X6_isRight M a1 a2) : KZ l D [(cI, .int)] (wR cI ad) yX6_isRight cX6_isRight 6 rmX6_isRight [.ref (ad 0), .int a1, .int a2] M (M, f_X6_isRight M a1 a2) := met_z (by decide) (Nat.le_of_ble_eq_true rfl) (fun p e s m below meth c A C h ls hl => k_X6_isRight_0 ⟨Nat.le_refl _, Nat.le_refl _⟩ (Nat.le_refl _) (Nat.le_refl _) C M a1 a2 _ _ ls hok rfl h hl)
abbrev rmX6_seal : Room := { frames := 2, cells := 0, slots := 0, locals := 45 }
def f_X6_seal_L : Nat → Nat → Mem → Int32 → Int32 → Mem × Int32
  | 0, _, M, _, _ => (M, 0)
  | n + 1, k, M, x1, x2 => (if k = 27 then (if (16 : Int32) ≤ x1 then ((ms M 1 (fun _ => (1 : Int32))), (0 : Int32)) else (f_X6_seal_L n 35 M x1 (0 : Int32))) else (if ((M 19) x1.toNatClampNeg) ≤ x2 then (f_X6_seal_L n 27 M (x1 + (1 : Int32)) (0 : Int32)) else (if (f_X6_isRight M x1 x2) = 0 then (M, (((1 : Int32) + ((32 : Int32) * x1)) + x2)) else (f_X6_seal_L n 35 M x1 (x2 + (1 : Int32))))))
def ok_X6_seal_L : Nat → Nat → Mem → Int32 → Int32 → Prop
  | 0, _, _, _, _ => False
  | n + 1, k, M, x1, x2 => (if k = 27 then (if (16 : Int32) ≤ x1 then True else ok_X6_seal_L n 35 M x1 (0 : Int32)) else vp_in x1 16 ∧ (if ((M 19) x1.toNatClampNeg) ≤ x2 then ok_X6_seal_L n 27 M (x1 + (1 : Int32)) (0 : Int32) else ok_X6_isRight M x1 x2 ∧ (if (f_X6_isRight M x1 x2) = 0 then True else ok_X6_seal_L n 35 M x1 (x2 + (1 : Int32)))))
def f_X6_seal (M : Mem) : Mem × Int32 := (if (M 1 0) = 0 then (if ((M 19) 0) = 0 then ((ms M 0 (fun _ => (0 : Int32))), (1 : Int32)) else (f_X6_seal_L 600 27 (ms M 0 (fun _ => (0 : Int32))) (0 : Int32) (0 : Int32))) else ((ms M 0 (fun _ => (0 : Int32))), (0 : Int32)))
def ok_X6_seal (M : Mem) : Prop := (if (M 1 0) = 0 then (if ((M 19) 0) = 0 then True else ok_X6_seal_L 600 27 (ms M 0 (fun _ => (0 : Int32))) (0 : Int32) (0 : Int32)) else True)
set_option maxRecDepth 100000 in
set_option maxHeartbeats 4000000 in
theorem k_X6_seal_L {p : Program} {l : Launch} {e : Env} {s : State} {m : MethodId} {args : Array Value} {below : List Frame} {meth : Method} {c : Code} {D : va_G} {cI : ClassId} {ad : Nat → Nat} {A : Nat → Prop} {cells slots : Nat} {R : Room} (hcs : cells ≤ R.cells ∧ slots ≤ R.slots) (hrf : rmX6_seal.frames ≤ R.frames) (hrl : rmX6_seal.locals ≤ R.locals) {res : Mem × Int32} (C : CX p s m args meth c RX6 cX6_seal 3 (some .int)) : ∀ n : Nat, (∀ (M : Mem) (x1 x2 : Int32) (H : Heap) (locs : List Loc) (ls : Array Slot), ok_X6_seal_L n 27 M x1 x2 → f_X6_seal_L n 27 M x1 x2 = res → WH D [(cI, .int)] (wR cI ad) A s H locs M → lv_has ls 3 [(0, .ref (ad 0)), (1, .int x1)] → W p l e R s m args below meth c H locs cells slots (MQ below (PI D [(cI, .int)] (wR cI ad) A res) args s cells slots A) (F0 m 27 ls [])) ∧ (∀ (M : Mem) (x1 x2 : Int32) (H : Heap) (locs : List Loc) (ls : Array Slot), ok_X6_seal_L n 35 M x1 x2 → f_X6_seal_L n 35 M x1 x2 = res → WH D [(cI, .int)] (wR cI ad) A s H locs M → lv_has ls 3 [(0, .ref (ad 0)), (1, .int x1), (2, .int x2)] → W p l e R s m args below meth c H locs cells slots (MQ below (PI D [(cI, .int)] (wR cI ad) A res) args s cells slots A) (F0 m 35 ls [])) := by
  have hx := C.1
  have hb := C.2.1
  have hown := C.2.2.2.2.1
  have hts := C.2.2.2.2.2.1
  intro n
  induction n with
  | zero => exact ⟨fun M x1 x2 H locs ls hok => absurd hok (by intro z; exact z), fun M x1 x2 H locs ls hok => absurd hok (by intro z; exact z)⟩
  | succ n ih =>
    refine ⟨?_, ?_⟩
    · intro M x1 x2 H locs ls hok hres h hl
      rw [ok_X6_seal_L] at hok
      rw [f_X6_seal_L] at hres
      have hres := it_p hres rfl
      have hok := io_p hok rfl
      refine lv_iload_n hx hb dX6_seal_27 rfl (lv_at hl 1 rfl) ?_
      refine lv_bipush (v := (16 : Int32)) hx hb dX6_seal_28 (by decide) ?_
      refine lv_icmp_ge (tgt := 75) hx hb dX6_seal_30 (by decide) (fun c3 => ?_) (fun c3 => ?_)
      · have hres := it_p hres c3
        refine lv_aload_n hx hb dX6_seal_75 rfl (lv_at hl 0 rfl) ?_
        refine lv_iconst (v := (1 : Int32)) hx hb dX6_seal_76 (by decide) ?_
        refine R_X6_sealed_put (v := (1 : Int32)) (M2 := (ms M 1 (fun _ => (1 : Int32)))) C h in_fX6_59 nb_1 rfl dX6_seal_77 (fun H locs h => ?_)
        refine lv_iconst (v := (0 : Int32)) hx hb dX6_seal_80 (by decide) ?_
        exact wh_iret C h hres dX6_seal_81
      · have hres := it_n hres c3
        have hok := io_n hok c3
        refine lv_iconst (v := (0 : Int32)) hx hb dX6_seal_33 (by decide) ?_
        refine lv_istore_n (lv' := [(2, .int (0 : Int32)), (0, .ref (ad 0)), (1, .int x1)]) hx hb dX6_seal_34 rfl hl (by decide) rfl (fun ls hl => ?_)
        exact ih.2 M x1 (0 : Int32) _ _ _ hok hres h (lv_sub hl [1, 2, 0] rfl)
    · intro M x1 x2 H locs ls hok hres h hl
      rw [ok_X6_seal_L] at hok
      rw [f_X6_seal_L] at hres
      have hres := it_n hres (by decide)
      have hok := io_n hok (by decide)
      refine lv_iload_n hx hb dX6_seal_35 rfl (lv_at hl 2 rfl) ?_
      refine lv_aload_n hx hb dX6_seal_36 rfl (lv_at hl 0 rfl) ?_
      refine R_X6_size_get C h in_fX6_13 dX6_seal_37 ?_
      refine lv_iload_n hx hb dX6_seal_40 rfl (lv_at hl 1 rfl) ?_
      obtain ⟨h8, hok⟩ := hok
      refine R_size_ld (v := ((M 19) x1.toNatClampNeg)) C h h8 rfl dX6_seal_41 ?_
      refine lv_icmp_ge (tgt := 69) hx hb dX6_seal_42 (by decide) (fun c4 => ?_) (fun c4 => ?_)
      · have hres := it_p hres c4
        have hok := io_p hok c4
        refine lv_iinc (v := (x1 + (1 : Int32))) (lv' := [(1, .int (x1 + (1 : Int32))), (0, .ref (ad 0)), (2, .int x2)]) hx hb dX6_seal_69 hl (k := 1) rfl rfl (by decide) rfl (fun ls hl => ?_)
        refine lv_goto (tgt := 27) hx hb dX6_seal_72 (by decide) ?_
        exact ih.1 M (x1 + (1 : Int32)) (0 : Int32) _ _ _ hok hres h (lv_sub hl [1, 0] rfl)
      · have hres := it_n hres c4
        have hok := io_n hok c4
        refine lv_aload_n hx hb dX6_seal_45 rfl (lv_at hl 0 rfl) ?_
        refine lv_iload_n hx hb dX6_seal_46 rfl (lv_at hl 1 rfl) ?_
        refine lv_iload_n hx hb dX6_seal_47 rfl (lv_at hl 2 rfl) ?_
        obtain ⟨h7, hok⟩ := hok
        refine wh_cvzp (As := [.int x1, .int x2]) (rest := []) hcs C h (c_X6_isRight M x1 x2 h7) yw_X6_isRight in_mX6_80 hl.1 rfl rfl (Nat.le_of_ble_eq_true rfl) ⟨Nat.le_trans (Nat.le_of_ble_eq_true rfl) hrf, Nat.le_trans (Nat.le_of_ble_eq_true rfl) hrl⟩ dX6_seal_48 (fun H locs z5 h => ?_)
        refine lv_if_ne (tgt := 63) hx hb dX6_seal_51 (by decide) (fun c6 => ?_) (fun c6 => ?_)
        · have hres := it_n hres c6
          have hok := io_n hok c6
          refine lv_iinc (v := (x2 + (1 : Int32))) (lv' := [(2, .int (x2 + (1 : Int32))), (0, .ref (ad 0)), (1, .int x1)]) hx hb dX6_seal_63 hl (k := 2) rfl rfl (by decide) rfl (fun ls hl => ?_)
          refine lv_goto (tgt := 35) hx hb dX6_seal_66 (by decide) ?_
          exact ih.2 M x1 (x2 + (1 : Int32)) _ _ _ hok hres h (lv_sub hl [1, 2, 0] rfl)
        · have hres := it_p hres c6
          refine lv_iconst (v := (1 : Int32)) hx hb dX6_seal_54 (by decide) ?_
          refine lv_bipush (v := (32 : Int32)) hx hb dX6_seal_55 (by decide) ?_
          refine lv_iload_n hx hb dX6_seal_57 rfl (lv_at hl 1 rfl) ?_
          refine lv_imul hx hb dX6_seal_58 ?_
          refine lv_iadd hx hb dX6_seal_59 ?_
          refine lv_iload_n hx hb dX6_seal_60 rfl (lv_at hl 2 rfl) ?_
          refine lv_iadd hx hb dX6_seal_61 ?_
          exact wh_iret C h hres dX6_seal_62
set_option maxRecDepth 100000 in
set_option maxHeartbeats 4000000 in
theorem k_X6_seal_0 {p : Program} {l : Launch} {e : Env} {s : State} {m : MethodId} {args : Array Value} {below : List Frame} {meth : Method} {c : Code} {D : va_G} {cI : ClassId} {ad : Nat → Nat} {A : Nat → Prop} {cells slots : Nat} {R : Room} (hcs : cells ≤ R.cells ∧ slots ≤ R.slots) (hrf : rmX6_seal.frames ≤ R.frames) (hrl : rmX6_seal.locals ≤ R.locals) {res : Mem × Int32} (C : CX p s m args meth c RX6 cX6_seal 3 (some .int)) : ∀ (M : Mem) (H : Heap) (locs : List Loc) (ls : Array Slot), ok_X6_seal M → f_X6_seal M = res → WH D [(cI, .int)] (wR cI ad) A s H locs M → lv_has ls 3 [(0, .ref (ad 0))] → W p l e R s m args below meth c H locs cells slots (MQ below (PI D [(cI, .int)] (wR cI ad) A res) args s cells slots A) (F0 m 0 ls []) := by
  have hx := C.1
  have hb := C.2.1
  have hown := C.2.2.2.2.1
  have hts := C.2.2.2.2.2.1
  intro M H locs ls hok hres h hl
  rw [ok_X6_seal] at hok
  rw [f_X6_seal] at hres
  refine lv_aload_n hx hb dX6_seal_0 rfl (lv_at hl 0 rfl) ?_
  refine lv_iconst (v := (0 : Int32)) hx hb dX6_seal_1 (by decide) ?_
  refine R_X6_thrown_put (v := (0 : Int32)) (M2 := (ms M 0 (fun _ => (0 : Int32)))) C h in_fX6_56 rfl dX6_seal_2 (fun H locs h => ?_)
  refine lv_aload_n hx hb dX6_seal_5 rfl (lv_at hl 0 rfl) ?_
  refine R_X6_sealed_get (v := (M 1 0)) C h in_fX6_59 rfl dX6_seal_6 ?_
  refine lv_if_eq (tgt := 14) hx hb dX6_seal_9 (by decide) (fun c1 => ?_) (fun c1 => ?_)
  · have hres := it_p hres c1
    have hok := io_p hok c1
    refine lv_aload_n hx hb dX6_seal_14 rfl (lv_at hl 0 rfl) ?_
    refine R_X6_size_get C h in_fX6_13 dX6_seal_15 ?_
    refine lv_iconst (v := (0 : Int32)) hx hb dX6_seal_18 (by decide) ?_
    refine R_size_ld (v := ((M 19) 0)) C h (vp_l (by decide)) rfl dX6_seal_19 ?_
    refine lv_if_ne (tgt := 25) hx hb dX6_seal_20 (by decide) (fun c2 => ?_) (fun c2 => ?_)
    · have hres := it_n hres c2
      have hok := io_n hok c2
      refine lv_iconst (v := (0 : Int32)) hx hb dX6_seal_25 (by decide) ?_
      refine lv_istore_n (lv' := [(1, .int (0 : Int32)), (0, .ref (ad 0))]) hx hb dX6_seal_26 rfl hl (by decide) rfl (fun ls hl => ?_)
      exact (k_X6_seal_L hcs hrf hrl C 600).1 (ms M 0 (fun _ => (0 : Int32))) (0 : Int32) (0 : Int32) _ _ _ hok hres h (lv_sub hl [1, 0] rfl)
    · have hres := it_p hres c2
      refine lv_iconst (v := (1 : Int32)) hx hb dX6_seal_23 (by decide) ?_
      exact wh_iret C h hres dX6_seal_24
  · have hres := it_n hres c1
    refine lv_iconst (v := (0 : Int32)) hx hb dX6_seal_12 (by decide) ?_
    exact wh_iret C h hres dX6_seal_13
theorem yw_X6_seal {cI : ClassId} {ad : Nat → Nat} : YV (wR cI ad) (ad 0) yX6_seal cX6_seal 3 (some .int) rmX6_seal 0 := ⟨fun M => ⟨0, 6, _, _, rfl, rfl, rfl⟩, in_cX6_seal, in_nX6_seal, in_vX6_seal, in_iX6, by decide +kernel, rfl, rfl⟩
theorem c_X6_seal {l : Launch} {D : va_G} {cI : ClassId} {ad : Nat → Nat} (M : Mem) (hok : ok_X6_seal M) : KI l D [(cI, .int)] (wR cI ad) yX6_seal cX6_seal 3 rmX6_seal [.ref (ad 0)] M (f_X6_seal M) := met_i (by decide) (Nat.le_of_ble_eq_true rfl) (fun p e s m below meth c A C h ls hl => k_X6_seal_0 ⟨Nat.le_refl _, Nat.le_refl _⟩ (Nat.le_refl _) (Nat.le_refl _) C M _ _ ls hok rfl h hl)
abbrev rmX6_replayStep : Room := { frames := 3, cells := 0, slots := 0, locals := 64 }
def f_X6_replayStep (M : Mem) : Mem := (bc (f_X6_pays M (4 : Int32)) (fun M1 r1 => (if r1 = 0 then M1 else (if ((M1 20) 2) ≤ (M1 9 0) then (bv (f_X6_write M1 (2 : Int32) (0 : Int32)) (fun M4 => (ms (ms M4 4 (fun _ => (2 : Int32))) 10 (fun _ => (0 : Int32))))) else (bv (f_X6_write M1 ((M1 20) ((84 : Int32) + ((2 : Int32) * (M1 9 0))).toNatClampNeg) ((M1 20) (((84 : Int32) + ((2 : Int32) * (M1 9 0))) + (1 : Int32)).toNatClampNeg)) (fun M6 => (ms M6 9 (fun _ => ((M6 9 0) + (1 : Int32))))))))))
def ok_X6_replayStep (M : Mem) : Prop := ok_X6_pays M (4 : Int32) ∧ (bc (f_X6_pays M (4 : Int32)) (fun M1 r1 => (if r1 = 0 then True else (if ((M1 20) 2) ≤ (M1 9 0) then ok_X6_write M1 (2 : Int32) (0 : Int32) else vp_in ((84 : Int32) + ((2 : Int32) * (M1 9 0))) 164 ∧ vp_in (((84 : Int32) + ((2 : Int32) * (M1 9 0))) + (1 : Int32)) 164 ∧ ok_X6_write M1 ((M1 20) ((84 : Int32) + ((2 : Int32) * (M1 9 0))).toNatClampNeg) ((M1 20) (((84 : Int32) + ((2 : Int32) * (M1 9 0))) + (1 : Int32)).toNatClampNeg)))))
set_option maxRecDepth 100000 in
set_option maxHeartbeats 4000000 in
theorem k_X6_replayStep_0 {p : Program} {l : Launch} {e : Env} {s : State} {m : MethodId} {args : Array Value} {below : List Frame} {meth : Method} {c : Code} {D : va_G} {cI : ClassId} {ad : Nat → Nat} {A : Nat → Prop} {cells slots : Nat} {R : Room} (hcs : cells ≤ R.cells ∧ slots ≤ R.slots) (hrf : rmX6_replayStep.frames ≤ R.frames) (hrl : rmX6_replayStep.locals ≤ R.locals) {res : Mem} (C : CX p s m args meth c RX6 cX6_replayStep 1 none) : ∀ (M : Mem) (H : Heap) (locs : List Loc) (ls : Array Slot), ok_X6_replayStep M → f_X6_replayStep M = res → WH D [(cI, .int)] (wR cI ad) A s H locs M → lv_has ls 1 [(0, .ref (ad 0))] → W p l e R s m args below meth c H locs cells slots (MQ below (PV D [(cI, .int)] (wR cI ad) A res) args s cells slots A) (F0 m 0 ls []) := by
  have hx := C.1
  have hb := C.2.1
  have hown := C.2.2.2.2.1
  have hts := C.2.2.2.2.2.1
  intro M H locs ls hok hres h hl
  rw [ok_X6_replayStep] at hok
  rw [f_X6_replayStep] at hres
  refine lv_aload_n hx hb dX6_replayStep_0 rfl (lv_at hl 0 rfl) ?_
  refine lv_iconst (v := (4 : Int32)) hx hb dX6_replayStep_1 (by decide) ?_
  obtain ⟨h10, hok⟩ := hok
  refine wh_cvz (As := [.int (4 : Int32)]) (rest := []) hcs C h (c_X6_pays M (4 : Int32) h10) yw_X6_pays in_mX6_117 hl.1 rfl rfl (Nat.le_of_ble_eq_true rfl) ⟨Nat.le_trans (Nat.le_of_ble_eq_true rfl) hrf, Nat.le_trans (Nat.le_of_ble_eq_true rfl) hrl⟩ dX6_replayStep_2 (fun M1 r1 H locs e1 z1 h => ?_)
  rw [e1] at hres
  have hres := bc_e hres
  rw [e1] at hok
  have hok := bc_o hok
  refine lv_if_ne (tgt := 9) hx hb dX6_replayStep_5 (by decide) (fun c2 => ?_) (fun c2 => ?_)
  · have hres := it_n hres c2
    have hok := io_n hok c2
    refine lv_aload_n hx hb dX6_replayStep_9 rfl (lv_at hl 0 rfl) ?_
    refine R_X6_applied_get (v := (M1 9 0)) C h in_fX6_120 rfl dX6_replayStep_10 ?_
    refine lv_aload_n hx hb dX6_replayStep_13 rfl (lv_at hl 0 rfl) ?_
    refine R_X6_kept_get C h in_fX6_16 dX6_replayStep_14 ?_
    refine lv_iconst (v := (2 : Int32)) hx hb dX6_replayStep_17 (by decide) ?_
    refine R_kept_ld (v := ((M1 20) 2)) C h (vp_l (by decide)) rfl dX6_replayStep_18 ?_
    refine lv_icmp_ge (tgt := 69) hx hb dX6_replayStep_19 (by decide) (fun c3 => ?_) (fun c3 => ?_)
    · have hres := it_p hres c3
      have hok := io_p hok c3
      refine lv_aload_n hx hb dX6_replayStep_69 rfl (lv_at hl 0 rfl) ?_
      refine lv_iconst (v := (2 : Int32)) hx hb dX6_replayStep_70 (by decide) ?_
      refine lv_iconst (v := (0 : Int32)) hx hb dX6_replayStep_71 (by decide) ?_
      have h5 := hok
      refine wh_cvv (As := [.int (2 : Int32), .int (0 : Int32)]) (rest := []) hcs C h (c_X6_write M1 (2 : Int32) (0 : Int32) h5) yw_X6_write in_mX6_123 hl.1 rfl rfl (Nat.le_of_ble_eq_true rfl) ⟨Nat.le_trans (Nat.le_of_ble_eq_true rfl) hrf, Nat.le_trans (Nat.le_of_ble_eq_true rfl) hrl⟩ dX6_replayStep_72 (fun M4 H locs e4 h => ?_)
      rw [e4] at hres
      have hres := bv_e hres
      refine lv_aload_n hx hb dX6_replayStep_75 rfl (lv_at hl 0 rfl) ?_
      refine lv_iconst (v := (2 : Int32)) hx hb dX6_replayStep_76 (by decide) ?_
      refine R_X6_phase_put (v := (2 : Int32)) (M2 := (ms M4 4 (fun _ => (2 : Int32)))) C h in_fX6_93 rfl dX6_replayStep_77 (fun H locs h => ?_)
      refine lv_aload_n hx hb dX6_replayStep_80 rfl (lv_at hl 0 rfl) ?_
      refine lv_iconst (v := (0 : Int32)) hx hb dX6_replayStep_81 (by decide) ?_
      refine R_X6_onAir_put (v := (0 : Int32)) (M2 := (ms (ms M4 4 (fun _ => (2 : Int32))) 10 (fun _ => (0 : Int32)))) C h in_fX6_127 nb_0 rfl dX6_replayStep_82 (fun H locs h => ?_)
      exact wh_vret C h hres dX6_replayStep_85
    · have hres := it_n hres c3
      have hok := io_n hok c3
      refine lv_aload_n hx hb dX6_replayStep_22 rfl (lv_at hl 0 rfl) ?_
      refine lv_aload_n hx hb dX6_replayStep_23 rfl (lv_at hl 0 rfl) ?_
      refine R_X6_kept_get C h in_fX6_16 dX6_replayStep_24 ?_
      refine lv_bipush (v := (84 : Int32)) hx hb dX6_replayStep_27 (by decide) ?_
      refine lv_iconst (v := (2 : Int32)) hx hb dX6_replayStep_29 (by decide) ?_
      refine lv_aload_n hx hb dX6_replayStep_30 rfl (lv_at hl 0 rfl) ?_
      refine R_X6_applied_get (v := (M1 9 0)) C h in_fX6_120 rfl dX6_replayStep_31 ?_
      refine lv_imul hx hb dX6_replayStep_34 ?_
      refine lv_iadd hx hb dX6_replayStep_35 ?_
      obtain ⟨h9, hok⟩ := hok
      refine R_kept_ld (v := ((M1 20) ((84 : Int32) + ((2 : Int32) * (M1 9 0))).toNatClampNeg)) C h h9 rfl dX6_replayStep_36 ?_
      refine lv_aload_n hx hb dX6_replayStep_37 rfl (lv_at hl 0 rfl) ?_
      refine R_X6_kept_get C h in_fX6_16 dX6_replayStep_38 ?_
      refine lv_bipush (v := (84 : Int32)) hx hb dX6_replayStep_41 (by decide) ?_
      refine lv_iconst (v := (2 : Int32)) hx hb dX6_replayStep_43 (by decide) ?_
      refine lv_aload_n hx hb dX6_replayStep_44 rfl (lv_at hl 0 rfl) ?_
      refine R_X6_applied_get (v := (M1 9 0)) C h in_fX6_120 rfl dX6_replayStep_45 ?_
      refine lv_imul hx hb dX6_replayStep_48 ?_
      refine lv_iadd hx hb dX6_replayStep_49 ?_
      refine lv_iconst (v := (1 : Int32)) hx hb dX6_replayStep_50 (by decide) ?_
      refine lv_iadd hx hb dX6_replayStep_51 ?_
      obtain ⟨h8, hok⟩ := hok
      refine R_kept_ld (v := ((M1 20) (((84 : Int32) + ((2 : Int32) * (M1 9 0))) + (1 : Int32)).toNatClampNeg)) C h h8 rfl dX6_replayStep_52 ?_
      have h7 := hok
      refine wh_cvv (As := [.int ((M1 20) ((84 : Int32) + ((2 : Int32) * (M1 9 0))).toNatClampNeg), .int ((M1 20) (((84 : Int32) + ((2 : Int32) * (M1 9 0))) + (1 : Int32)).toNatClampNeg)]) (rest := []) hcs C h (c_X6_write M1 ((M1 20) ((84 : Int32) + ((2 : Int32) * (M1 9 0))).toNatClampNeg) ((M1 20) (((84 : Int32) + ((2 : Int32) * (M1 9 0))) + (1 : Int32)).toNatClampNeg) h7) yw_X6_write in_mX6_123 hl.1 rfl rfl (Nat.le_of_ble_eq_true rfl) ⟨Nat.le_trans (Nat.le_of_ble_eq_true rfl) hrf, Nat.le_trans (Nat.le_of_ble_eq_true rfl) hrl⟩ dX6_replayStep_53 (fun M6 H locs e6 h => ?_)
      rw [e6] at hres
      have hres := bv_e hres
      refine lv_aload_n hx hb dX6_replayStep_56 rfl (lv_at hl 0 rfl) ?_
      refine lv_dup hx hb dX6_replayStep_57 rfl ?_
      refine R_X6_applied_get (v := (M6 9 0)) C h in_fX6_120 rfl dX6_replayStep_58 ?_
      refine lv_iconst (v := (1 : Int32)) hx hb dX6_replayStep_61 (by decide) ?_
      refine lv_iadd hx hb dX6_replayStep_62 ?_
      refine R_X6_applied_put (v := ((M6 9 0) + (1 : Int32))) (M2 := (ms M6 9 (fun _ => ((M6 9 0) + (1 : Int32))))) C h in_fX6_120 rfl dX6_replayStep_63 (fun H locs h => ?_)
      refine lv_goto (tgt := 85) hx hb dX6_replayStep_66 (by decide) ?_
      exact wh_vret C h hres dX6_replayStep_85
  · have hres := it_p hres c2
    exact wh_vret C h hres dX6_replayStep_8
theorem yw_X6_replayStep {cI : ClassId} {ad : Nat → Nat} : YV (wR cI ad) (ad 0) yX6_replayStep cX6_replayStep 1 none rmX6_replayStep 0 := ⟨fun M => ⟨0, 6, _, _, rfl, rfl, rfl⟩, in_cX6_replayStep, in_nX6_replayStep, in_vX6_replayStep, in_iX6, by decide +kernel, rfl, rfl⟩
theorem c_X6_replayStep {l : Launch} {D : va_G} {cI : ClassId} {ad : Nat → Nat} (M : Mem) (hok : ok_X6_replayStep M) : KV l D [(cI, .int)] (wR cI ad) yX6_replayStep cX6_replayStep 1 rmX6_replayStep [.ref (ad 0)] M (f_X6_replayStep M) := met_v (by decide) (Nat.le_of_ble_eq_true rfl) (fun p e s m below meth c A C h ls hl => k_X6_replayStep_0 ⟨Nat.le_refl _, Nat.le_refl _⟩ (Nat.le_refl _) (Nat.le_refl _) C M _ _ ls hok rfl h hl)
abbrev rmX6_airStep : Room := { frames := 3, cells := 0, slots := 0, locals := 64 }
def f_X6_airStep_14 (M : Mem) (t0 : Int32) : Mem := (bc (f_X6_pays M t0) (fun M2 r2 => (if r2 = 0 then M2 else (if (M2 10 0) = 0 then (if ((M2 30) (((M2 20) 4) - ((M2 20) 4) / (64 : Int32) * (64 : Int32)).toNatClampNeg) = ((M2 20) 4) then (ms (ms (ms (ms M2 10 (fun _ => (1 : Int32))) 28 (upd (M2 28) ((M2 16 0) - (M2 16 0) / (64 : Int32) * (64 : Int32)).toNatClampNeg ((M2 20) 4))) 29 (upd (M2 29) ((M2 16 0) - (M2 16 0) / (64 : Int32) * (64 : Int32)).toNatClampNeg ((M2 20) ((68 : Int32) + (((M2 20) 4) - ((M2 20) 4) / (16 : Int32) * (16 : Int32))).toNatClampNeg))) 16 (fun _ => ((M2 16 0) + (1 : Int32)))) else (ms (ms (ms (ms (ms (ms M2 10 (fun _ => (1 : Int32))) 28 (upd (M2 28) ((M2 16 0) - (M2 16 0) / (64 : Int32) * (64 : Int32)).toNatClampNeg ((M2 20) 4))) 29 (upd (M2 29) ((M2 16 0) - (M2 16 0) / (64 : Int32) * (64 : Int32)).toNatClampNeg ((M2 20) ((68 : Int32) + (((M2 20) 4) - ((M2 20) 4) / (16 : Int32) * (16 : Int32))).toNatClampNeg))) 16 (fun _ => ((M2 16 0) + (1 : Int32)))) 30 (upd (M2 30) (((M2 20) 4) - ((M2 20) 4) / (64 : Int32) * (64 : Int32)).toNatClampNeg ((M2 20) 4))) 31 (upd (M2 31) (((M2 20) 4) - ((M2 20) 4) / (64 : Int32) * (64 : Int32)).toNatClampNeg ((M2 20) ((68 : Int32) + (((M2 20) 4) - ((M2 20) 4) / (16 : Int32) * (16 : Int32))).toNatClampNeg)))) else (bv (f_X6_write (ms M2 10 (fun _ => (0 : Int32))) (4 : Int32) (((M2 20) 4) + (1 : Int32))) (fun M12 => M12))))))
def ok_X6_airStep_14 (M : Mem) (t0 : Int32) : Prop := ok_X6_pays M t0 ∧ (bc (f_X6_pays M t0) (fun M2 r2 => (if r2 = 0 then True else (if (M2 10 0) = 0 then vp_in ((68 : Int32) + (((M2 20) 4) - ((M2 20) 4) / (16 : Int32) * (16 : Int32))) 164 ∧ vp_in ((M2 16 0) - (M2 16 0) / (64 : Int32) * (64 : Int32)) 64 ∧ vp_in ((M2 16 0) - (M2 16 0) / (64 : Int32) * (64 : Int32)) 64 ∧ vp_in (((M2 20) 4) - ((M2 20) 4) / (64 : Int32) * (64 : Int32)) 64 ∧ (if ((M2 30) (((M2 20) 4) - ((M2 20) 4) / (64 : Int32) * (64 : Int32)).toNatClampNeg) = ((M2 20) 4) then True else vp_in (((M2 20) 4) - ((M2 20) 4) / (64 : Int32) * (64 : Int32)) 64 ∧ vp_in (((M2 20) 4) - ((M2 20) 4) / (64 : Int32) * (64 : Int32)) 64) else ok_X6_write (ms M2 10 (fun _ => (0 : Int32))) (4 : Int32) (((M2 20) 4) + (1 : Int32))))))
def f_X6_airStep (M : Mem) : Mem := (if (M 10 0) = 0 then (f_X6_airStep_14 M (20 : Int32)) else (f_X6_airStep_14 M (4 : Int32)))
def ok_X6_airStep (M : Mem) : Prop := (if (M 10 0) = 0 then ok_X6_airStep_14 M (20 : Int32) else ok_X6_airStep_14 M (4 : Int32))
set_option maxRecDepth 100000 in
set_option maxHeartbeats 4000000 in
theorem k_X6_airStep_14 {p : Program} {l : Launch} {e : Env} {s : State} {m : MethodId} {args : Array Value} {below : List Frame} {meth : Method} {c : Code} {D : va_G} {cI : ClassId} {ad : Nat → Nat} {A : Nat → Prop} {cells slots : Nat} {R : Room} (hcs : cells ≤ R.cells ∧ slots ≤ R.slots) (hrf : rmX6_airStep.frames ≤ R.frames) (hrl : rmX6_airStep.locals ≤ R.locals) {res : Mem} (C : CX p s m args meth c RX6 cX6_airStep 3 none) : ∀ (M : Mem) (t0 : Int32) (H : Heap) (locs : List Loc) (ls : Array Slot), ok_X6_airStep_14 M t0 → f_X6_airStep_14 M t0 = res → WH D [(cI, .int)] (wR cI ad) A s H locs M → lv_has ls 3 [(0, .ref (ad 0))] → W p l e R s m args below meth c H locs cells slots (MQ below (PV D [(cI, .int)] (wR cI ad) A res) args s cells slots A) (F0 m 14 ls [.int t0, .ref (ad 0)]) := by
  have hx := C.1
  have hb := C.2.1
  have hown := C.2.2.2.2.1
  have hts := C.2.2.2.2.2.1
  intro M t0 H locs ls hok hres h hl
  rw [ok_X6_airStep_14] at hok
  rw [f_X6_airStep_14] at hres
  obtain ⟨h14, hok⟩ := hok
  refine wh_cvz (As := [.int t0]) (rest := []) hcs C h (c_X6_pays M t0 h14) yw_X6_pays in_mX6_117 hl.1 rfl rfl (Nat.le_of_ble_eq_true rfl) ⟨Nat.le_trans (Nat.le_of_ble_eq_true rfl) hrf, Nat.le_trans (Nat.le_of_ble_eq_true rfl) hrl⟩ dX6_airStep_14 (fun M2 r2 H locs e2 z2 h => ?_)
  rw [e2] at hres
  have hres := bc_e hres
  rw [e2] at hok
  have hok := bc_o hok
  refine lv_if_ne (tgt := 21) hx hb dX6_airStep_17 (by decide) (fun c3 => ?_) (fun c3 => ?_)
  · have hres := it_n hres c3
    have hok := io_n hok c3
    refine lv_aload_n hx hb dX6_airStep_21 rfl (lv_at hl 0 rfl) ?_
    refine R_X6_onAir_get (v := (M2 10 0)) C h in_fX6_127 rfl dX6_airStep_22 ?_
    refine lv_if_eq (tgt := 47) hx hb dX6_airStep_25 (by decide) (fun c4 => ?_) (fun c4 => ?_)
    · have hres := it_p hres c4
      have hok := io_p hok c4
      refine lv_aload_n hx hb dX6_airStep_47 rfl (lv_at hl 0 rfl) ?_
      refine lv_iconst (v := (1 : Int32)) hx hb dX6_airStep_48 (by decide) ?_
      refine R_X6_onAir_put (v := (1 : Int32)) (M2 := (ms M2 10 (fun _ => (1 : Int32)))) C h in_fX6_127 nb_1 rfl dX6_airStep_49 (fun H locs h => ?_)
      refine lv_aload_n hx hb dX6_airStep_52 rfl (lv_at hl 0 rfl) ?_
      refine R_X6_kept_get C h in_fX6_16 dX6_airStep_53 ?_
      refine lv_iconst (v := (4 : Int32)) hx hb dX6_airStep_56 (by decide) ?_
      refine R_kept_ld (v := ((M2 20) 4)) C h (vp_l (by decide)) rfl dX6_airStep_57 ?_
      refine lv_istore_n (lv' := [(1, .int ((M2 20) 4)), (0, .ref (ad 0))]) hx hb dX6_airStep_58 rfl hl (by decide) rfl (fun ls hl => ?_)
      refine lv_aload_n hx hb dX6_airStep_59 rfl (lv_at hl 1 rfl) ?_
      refine R_X6_kept_get C h in_fX6_16 dX6_airStep_60 ?_
      refine lv_bipush (v := (68 : Int32)) hx hb dX6_airStep_63 (by decide) ?_
      refine lv_iload_n hx hb dX6_airStep_65 rfl (lv_at hl 0 rfl) ?_
      refine lv_bipush (v := (16 : Int32)) hx hb dX6_airStep_66 (by decide) ?_
      refine lv_irem hx hb dX6_airStep_68 (by decide) ?_
      refine lv_iadd hx hb dX6_airStep_69 ?_
      obtain ⟨h11, hok⟩ := hok
      refine R_kept_ld (v := ((M2 20) ((68 : Int32) + (((M2 20) 4) - ((M2 20) 4) / (16 : Int32) * (16 : Int32))).toNatClampNeg)) C h h11 rfl dX6_airStep_70 ?_
      refine lv_istore_n (lv' := [(2, .int ((M2 20) ((68 : Int32) + (((M2 20) 4) - ((M2 20) 4) / (16 : Int32) * (16 : Int32))).toNatClampNeg)), (1, .int ((M2 20) 4)), (0, .ref (ad 0))]) hx hb dX6_airStep_71 rfl hl (by decide) rfl (fun ls hl => ?_)
      refine lv_aload_n hx hb dX6_airStep_72 rfl (lv_at hl 2 rfl) ?_
      refine R_X6_airNumber_get C h in_fX6_44 dX6_airStep_73 ?_
      refine lv_aload_n hx hb dX6_airStep_76 rfl (lv_at hl 2 rfl) ?_
      refine R_X6_aired_get (v := (M2 16 0)) C h in_fX6_130 rfl dX6_airStep_77 ?_
      refine lv_bipush (v := (64 : Int32)) hx hb dX6_airStep_80 (by decide) ?_
      refine lv_irem hx hb dX6_airStep_82 (by decide) ?_
      refine lv_iload_n hx hb dX6_airStep_83 rfl (lv_at hl 1 rfl) ?_
      obtain ⟨h10, hok⟩ := hok
      refine R_airNumber_st (M2 := (ms (ms M2 10 (fun _ => (1 : Int32))) 28 (upd (M2 28) ((M2 16 0) - (M2 16 0) / (64 : Int32) * (64 : Int32)).toNatClampNeg ((M2 20) 4)))) C h h10 rfl dX6_airStep_84 (fun H locs h => ?_)
      refine lv_aload_n hx hb dX6_airStep_85 rfl (lv_at hl 2 rfl) ?_
      refine R_X6_airPayload_get C h in_fX6_47 dX6_airStep_86 ?_
      refine lv_aload_n hx hb dX6_airStep_89 rfl (lv_at hl 2 rfl) ?_
      refine R_X6_aired_get (v := (M2 16 0)) C h in_fX6_130 rfl dX6_airStep_90 ?_
      refine lv_bipush (v := (64 : Int32)) hx hb dX6_airStep_93 (by decide) ?_
      refine lv_irem hx hb dX6_airStep_95 (by decide) ?_
      refine lv_iload_n hx hb dX6_airStep_96 rfl (lv_at hl 0 rfl) ?_
      obtain ⟨h9, hok⟩ := hok
      refine R_airPayload_st (M2 := (ms (ms (ms M2 10 (fun _ => (1 : Int32))) 28 (upd (M2 28) ((M2 16 0) - (M2 16 0) / (64 : Int32) * (64 : Int32)).toNatClampNeg ((M2 20) 4))) 29 (upd (M2 29) ((M2 16 0) - (M2 16 0) / (64 : Int32) * (64 : Int32)).toNatClampNeg ((M2 20) ((68 : Int32) + (((M2 20) 4) - ((M2 20) 4) / (16 : Int32) * (16 : Int32))).toNatClampNeg)))) C h h9 rfl dX6_airStep_97 (fun H locs h => ?_)
      refine lv_aload_n hx hb dX6_airStep_98 rfl (lv_at hl 2 rfl) ?_
      refine lv_dup hx hb dX6_airStep_99 rfl ?_
      refine R_X6_aired_get (v := (M2 16 0)) C h in_fX6_130 rfl dX6_airStep_100 ?_
      refine lv_iconst (v := (1 : Int32)) hx hb dX6_airStep_103 (by decide) ?_
      refine lv_iadd hx hb dX6_airStep_104 ?_
      refine R_X6_aired_put (v := ((M2 16 0) + (1 : Int32))) (M2 := (ms (ms (ms (ms M2 10 (fun _ => (1 : Int32))) 28 (upd (M2 28) ((M2 16 0) - (M2 16 0) / (64 : Int32) * (64 : Int32)).toNatClampNeg ((M2 20) 4))) 29 (upd (M2 29) ((M2 16 0) - (M2 16 0) / (64 : Int32) * (64 : Int32)).toNatClampNeg ((M2 20) ((68 : Int32) + (((M2 20) 4) - ((M2 20) 4) / (16 : Int32) * (16 : Int32))).toNatClampNeg))) 16 (fun _ => ((M2 16 0) + (1 : Int32))))) C h in_fX6_130 rfl dX6_airStep_105 (fun H locs h => ?_)
      refine lv_aload_n hx hb dX6_airStep_108 rfl (lv_at hl 2 rfl) ?_
      refine R_X6_farNumber_get C h in_fX6_50 dX6_airStep_109 ?_
      refine lv_iload_n hx hb dX6_airStep_112 rfl (lv_at hl 1 rfl) ?_
      refine lv_bipush (v := (64 : Int32)) hx hb dX6_airStep_113 (by decide) ?_
      refine lv_irem hx hb dX6_airStep_115 (by decide) ?_
      obtain ⟨h8, hok⟩ := hok
      refine R_farNumber_ld (v := ((M2 30) (((M2 20) 4) - ((M2 20) 4) / (64 : Int32) * (64 : Int32)).toNatClampNeg)) C h h8 rfl dX6_airStep_116 ?_
      refine lv_iload_n hx hb dX6_airStep_117 rfl (lv_at hl 1 rfl) ?_
      refine lv_icmp_eq (tgt := 141) hx hb dX6_airStep_118 (by decide) (fun c5 => ?_) (fun c5 => ?_)
      · have hres := it_p hres c5
        exact wh_vret C h hres dX6_airStep_141
      · have hres := it_n hres c5
        have hok := io_n hok c5
        refine lv_aload_n hx hb dX6_airStep_121 rfl (lv_at hl 2 rfl) ?_
        refine R_X6_farNumber_get C h in_fX6_50 dX6_airStep_122 ?_
        refine lv_iload_n hx hb dX6_airStep_125 rfl (lv_at hl 1 rfl) ?_
        refine lv_bipush (v := (64 : Int32)) hx hb dX6_airStep_126 (by decide) ?_
        refine lv_irem hx hb dX6_airStep_128 (by decide) ?_
        refine lv_iload_n hx hb dX6_airStep_129 rfl (lv_at hl 1 rfl) ?_
        obtain ⟨h7, hok⟩ := hok
        refine R_farNumber_st (M2 := (ms (ms (ms (ms (ms M2 10 (fun _ => (1 : Int32))) 28 (upd (M2 28) ((M2 16 0) - (M2 16 0) / (64 : Int32) * (64 : Int32)).toNatClampNeg ((M2 20) 4))) 29 (upd (M2 29) ((M2 16 0) - (M2 16 0) / (64 : Int32) * (64 : Int32)).toNatClampNeg ((M2 20) ((68 : Int32) + (((M2 20) 4) - ((M2 20) 4) / (16 : Int32) * (16 : Int32))).toNatClampNeg))) 16 (fun _ => ((M2 16 0) + (1 : Int32)))) 30 (upd (M2 30) (((M2 20) 4) - ((M2 20) 4) / (64 : Int32) * (64 : Int32)).toNatClampNeg ((M2 20) 4)))) C h h7 rfl dX6_airStep_130 (fun H locs h => ?_)
        refine lv_aload_n hx hb dX6_airStep_131 rfl (lv_at hl 2 rfl) ?_
        refine R_X6_farPayload_get C h in_fX6_53 dX6_airStep_132 ?_
        refine lv_iload_n hx hb dX6_airStep_135 rfl (lv_at hl 1 rfl) ?_
        refine lv_bipush (v := (64 : Int32)) hx hb dX6_airStep_136 (by decide) ?_
        refine lv_irem hx hb dX6_airStep_138 (by decide) ?_
        refine lv_iload_n hx hb dX6_airStep_139 rfl (lv_at hl 0 rfl) ?_
        have h6 := hok
        refine R_farPayload_st (M2 := (ms (ms (ms (ms (ms (ms M2 10 (fun _ => (1 : Int32))) 28 (upd (M2 28) ((M2 16 0) - (M2 16 0) / (64 : Int32) * (64 : Int32)).toNatClampNeg ((M2 20) 4))) 29 (upd (M2 29) ((M2 16 0) - (M2 16 0) / (64 : Int32) * (64 : Int32)).toNatClampNeg ((M2 20) ((68 : Int32) + (((M2 20) 4) - ((M2 20) 4) / (16 : Int32) * (16 : Int32))).toNatClampNeg))) 16 (fun _ => ((M2 16 0) + (1 : Int32)))) 30 (upd (M2 30) (((M2 20) 4) - ((M2 20) 4) / (64 : Int32) * (64 : Int32)).toNatClampNeg ((M2 20) 4))) 31 (upd (M2 31) (((M2 20) 4) - ((M2 20) 4) / (64 : Int32) * (64 : Int32)).toNatClampNeg ((M2 20) ((68 : Int32) + (((M2 20) 4) - ((M2 20) 4) / (16 : Int32) * (16 : Int32))).toNatClampNeg)))) C h h6 rfl dX6_airStep_140 (fun H locs h => ?_)
        exact wh_vret C h hres dX6_airStep_141
    · have hres := it_n hres c4
      have hok := io_n hok c4
      refine lv_aload_n hx hb dX6_airStep_28 rfl (lv_at hl 0 rfl) ?_
      refine lv_iconst (v := (0 : Int32)) hx hb dX6_airStep_29 (by decide) ?_
      refine R_X6_onAir_put (v := (0 : Int32)) (M2 := (ms M2 10 (fun _ => (0 : Int32)))) C h in_fX6_127 nb_0 rfl dX6_airStep_30 (fun H locs h => ?_)
      refine lv_aload_n hx hb dX6_airStep_33 rfl (lv_at hl 0 rfl) ?_
      refine lv_iconst (v := (4 : Int32)) hx hb dX6_airStep_34 (by decide) ?_
      refine lv_aload_n hx hb dX6_airStep_35 rfl (lv_at hl 0 rfl) ?_
      refine R_X6_kept_get C h in_fX6_16 dX6_airStep_36 ?_
      refine lv_iconst (v := (4 : Int32)) hx hb dX6_airStep_39 (by decide) ?_
      refine R_kept_ld (v := ((M2 20) 4)) C h (vp_l (by decide)) rfl dX6_airStep_40 ?_
      refine lv_iconst (v := (1 : Int32)) hx hb dX6_airStep_41 (by decide) ?_
      refine lv_iadd hx hb dX6_airStep_42 ?_
      have h13 := hok
      refine wh_cvv (As := [.int (4 : Int32), .int (((M2 20) 4) + (1 : Int32))]) (rest := []) hcs C h (c_X6_write (ms M2 10 (fun _ => (0 : Int32))) (4 : Int32) (((M2 20) 4) + (1 : Int32)) h13) yw_X6_write in_mX6_123 hl.1 rfl rfl (Nat.le_of_ble_eq_true rfl) ⟨Nat.le_trans (Nat.le_of_ble_eq_true rfl) hrf, Nat.le_trans (Nat.le_of_ble_eq_true rfl) hrl⟩ dX6_airStep_43 (fun M12 H locs e12 h => ?_)
      rw [e12] at hres
      have hres := bv_e hres
      exact wh_vret C h hres dX6_airStep_46
  · have hres := it_p hres c3
    exact wh_vret C h hres dX6_airStep_20
set_option maxRecDepth 100000 in
set_option maxHeartbeats 4000000 in
theorem k_X6_airStep_0 {p : Program} {l : Launch} {e : Env} {s : State} {m : MethodId} {args : Array Value} {below : List Frame} {meth : Method} {c : Code} {D : va_G} {cI : ClassId} {ad : Nat → Nat} {A : Nat → Prop} {cells slots : Nat} {R : Room} (hcs : cells ≤ R.cells ∧ slots ≤ R.slots) (hrf : rmX6_airStep.frames ≤ R.frames) (hrl : rmX6_airStep.locals ≤ R.locals) {res : Mem} (C : CX p s m args meth c RX6 cX6_airStep 3 none) : ∀ (M : Mem) (H : Heap) (locs : List Loc) (ls : Array Slot), ok_X6_airStep M → f_X6_airStep M = res → WH D [(cI, .int)] (wR cI ad) A s H locs M → lv_has ls 3 [(0, .ref (ad 0))] → W p l e R s m args below meth c H locs cells slots (MQ below (PV D [(cI, .int)] (wR cI ad) A res) args s cells slots A) (F0 m 0 ls []) := by
  have hx := C.1
  have hb := C.2.1
  have hown := C.2.2.2.2.1
  have hts := C.2.2.2.2.2.1
  intro M H locs ls hok hres h hl
  rw [ok_X6_airStep] at hok
  rw [f_X6_airStep] at hres
  refine lv_aload_n hx hb dX6_airStep_0 rfl (lv_at hl 0 rfl) ?_
  refine lv_aload_n hx hb dX6_airStep_1 rfl (lv_at hl 0 rfl) ?_
  refine R_X6_onAir_get (v := (M 10 0)) C h in_fX6_127 rfl dX6_airStep_2 ?_
  refine lv_if_eq (tgt := 12) hx hb dX6_airStep_5 (by decide) (fun c1 => ?_) (fun c1 => ?_)
  · have hres := it_p hres c1
    have hok := io_p hok c1
    refine lv_bipush (v := (20 : Int32)) hx hb dX6_airStep_12 (by decide) ?_
    exact k_X6_airStep_14 hcs hrf hrl C M (20 : Int32) _ _ _ hok hres h (lv_sub hl [0] rfl)
  · have hres := it_n hres c1
    have hok := io_n hok c1
    refine lv_iconst (v := (4 : Int32)) hx hb dX6_airStep_8 (by decide) ?_
    refine lv_goto (tgt := 14) hx hb dX6_airStep_9 (by decide) ?_
    exact k_X6_airStep_14 hcs hrf hrl C M (4 : Int32) _ _ _ hok hres h (lv_sub hl [0] rfl)
theorem yw_X6_airStep {cI : ClassId} {ad : Nat → Nat} : YV (wR cI ad) (ad 0) yX6_airStep cX6_airStep 3 none rmX6_airStep 0 := ⟨fun M => ⟨0, 6, _, _, rfl, rfl, rfl⟩, in_cX6_airStep, in_nX6_airStep, in_vX6_airStep, in_iX6, by decide +kernel, rfl, rfl⟩
theorem c_X6_airStep {l : Launch} {D : va_G} {cI : ClassId} {ad : Nat → Nat} (M : Mem) (hok : ok_X6_airStep M) : KV l D [(cI, .int)] (wR cI ad) yX6_airStep cX6_airStep 3 rmX6_airStep [.ref (ad 0)] M (f_X6_airStep M) := met_v (by decide) (Nat.le_of_ble_eq_true rfl) (fun p e s m below meth c A C h ls hl => k_X6_airStep_0 ⟨Nat.le_refl _, Nat.le_refl _⟩ (Nat.le_refl _) (Nat.le_refl _) C M _ _ ls hok rfl h hl)
abbrev rmX6_aired : Room := { frames := 0, cells := 0, slots := 0, locals := 0 }
def f_X6_aired (M : Mem) (a1 a2 : Int32) : Mem × Int32 := (if a1 < 0 then ((ms M 0 (fun _ => (0 : Int32))), (-1 : Int32)) else (if (64 : Int32) ≤ a1 then ((ms M 0 (fun _ => (0 : Int32))), (-1 : Int32)) else (if (M 16 0) ≤ a1 then ((ms M 0 (fun _ => (0 : Int32))), (-1 : Int32)) else (if a2 < 0 then ((ms M 0 (fun _ => (0 : Int32))), (-1 : Int32)) else (if a2 ≤ (1 : Int32) then (if a2 = 0 then ((ms M 0 (fun _ => (0 : Int32))), ((M 28) ((((M 16 0) - (1 : Int32)) - a1) - (((M 16 0) - (1 : Int32)) - a1) / (64 : Int32) * (64 : Int32)).toNatClampNeg)) else ((ms M 0 (fun _ => (0 : Int32))), ((M 29) ((((M 16 0) - (1 : Int32)) - a1) - (((M 16 0) - (1 : Int32)) - a1) / (64 : Int32) * (64 : Int32)).toNatClampNeg))) else ((ms M 0 (fun _ => (0 : Int32))), (-1 : Int32)))))))
def ok_X6_aired (M : Mem) (a1 a2 : Int32) : Prop := (if a1 < 0 then True else (if (64 : Int32) ≤ a1 then True else (if (M 16 0) ≤ a1 then True else (if a2 < 0 then True else (if a2 ≤ (1 : Int32) then (if a2 = 0 then vp_in ((((M 16 0) - (1 : Int32)) - a1) - (((M 16 0) - (1 : Int32)) - a1) / (64 : Int32) * (64 : Int32)) 64 else vp_in ((((M 16 0) - (1 : Int32)) - a1) - (((M 16 0) - (1 : Int32)) - a1) / (64 : Int32) * (64 : Int32)) 64) else True)))))
set_option maxRecDepth 100000 in
set_option maxHeartbeats 4000000 in
theorem k_X6_aired_0 {p : Program} {l : Launch} {e : Env} {s : State} {m : MethodId} {args : Array Value} {below : List Frame} {meth : Method} {c : Code} {D : va_G} {cI : ClassId} {ad : Nat → Nat} {A : Nat → Prop} {cells slots : Nat} {R : Room} (hcs : cells ≤ R.cells ∧ slots ≤ R.slots) (hrf : rmX6_aired.frames ≤ R.frames) (hrl : rmX6_aired.locals ≤ R.locals) {res : Mem × Int32} (C : CX p s m args meth c RX6 cX6_aired 4 (some .int)) : ∀ (M : Mem) (a1 a2 : Int32) (H : Heap) (locs : List Loc) (ls : Array Slot), ok_X6_aired M a1 a2 → f_X6_aired M a1 a2 = res → WH D [(cI, .int)] (wR cI ad) A s H locs M → lv_has ls 4 [(0, .ref (ad 0)), (1, .int a1), (2, .int a2)] → W p l e R s m args below meth c H locs cells slots (MQ below (PI D [(cI, .int)] (wR cI ad) A res) args s cells slots A) (F0 m 0 ls []) := by
  have hx := C.1
  have hb := C.2.1
  have hown := C.2.2.2.2.1
  have hts := C.2.2.2.2.2.1
  intro M a1 a2 H locs ls hok hres h hl
  rw [ok_X6_aired] at hok
  rw [f_X6_aired] at hres
  refine lv_aload_n hx hb dX6_aired_0 rfl (lv_at hl 0 rfl) ?_
  refine lv_iconst (v := (0 : Int32)) hx hb dX6_aired_1 (by decide) ?_
  refine R_X6_thrown_put (v := (0 : Int32)) (M2 := (ms M 0 (fun _ => (0 : Int32)))) C h in_fX6_56 rfl dX6_aired_2 (fun H locs h => ?_)
  refine lv_iload_n hx hb dX6_aired_5 rfl (lv_at hl 1 rfl) ?_
  refine lv_if_lt (tgt := 32) hx hb dX6_aired_6 (by decide) (fun c1 => ?_) (fun c1 => ?_)
  · have hres := it_p hres c1
    refine lv_iconst (v := (-1 : Int32)) hx hb dX6_aired_32 (by decide) ?_
    exact wh_iret C h hres dX6_aired_33
  · have hres := it_n hres c1
    have hok := io_n hok c1
    refine lv_iload_n hx hb dX6_aired_9 rfl (lv_at hl 1 rfl) ?_
    refine lv_bipush (v := (64 : Int32)) hx hb dX6_aired_10 (by decide) ?_
    refine lv_icmp_ge (tgt := 32) hx hb dX6_aired_12 (by decide) (fun c2 => ?_) (fun c2 => ?_)
    · have hres := it_p hres c2
      refine lv_iconst (v := (-1 : Int32)) hx hb dX6_aired_32 (by decide) ?_
      exact wh_iret C h hres dX6_aired_33
    · have hres := it_n hres c2
      have hok := io_n hok c2
      refine lv_iload_n hx hb dX6_aired_15 rfl (lv_at hl 1 rfl) ?_
      refine lv_aload_n hx hb dX6_aired_16 rfl (lv_at hl 0 rfl) ?_
      refine R_X6_aired_get (v := (M 16 0)) C h in_fX6_130 rfl dX6_aired_17 ?_
      refine lv_icmp_ge (tgt := 32) hx hb dX6_aired_20 (by decide) (fun c3 => ?_) (fun c3 => ?_)
      · have hres := it_p hres c3
        refine lv_iconst (v := (-1 : Int32)) hx hb dX6_aired_32 (by decide) ?_
        exact wh_iret C h hres dX6_aired_33
      · have hres := it_n hres c3
        have hok := io_n hok c3
        refine lv_iload_n hx hb dX6_aired_23 rfl (lv_at hl 2 rfl) ?_
        refine lv_if_lt (tgt := 32) hx hb dX6_aired_24 (by decide) (fun c4 => ?_) (fun c4 => ?_)
        · have hres := it_p hres c4
          refine lv_iconst (v := (-1 : Int32)) hx hb dX6_aired_32 (by decide) ?_
          exact wh_iret C h hres dX6_aired_33
        · have hres := it_n hres c4
          have hok := io_n hok c4
          refine lv_iload_n hx hb dX6_aired_27 rfl (lv_at hl 2 rfl) ?_
          refine lv_iconst (v := (1 : Int32)) hx hb dX6_aired_28 (by decide) ?_
          refine lv_icmp_le (tgt := 34) hx hb dX6_aired_29 (by decide) (fun c5 => ?_) (fun c5 => ?_)
          · have hres := it_p hres c5
            have hok := io_p hok c5
            refine lv_aload_n hx hb dX6_aired_34 rfl (lv_at hl 0 rfl) ?_
            refine R_X6_aired_get (v := (M 16 0)) C h in_fX6_130 rfl dX6_aired_35 ?_
            refine lv_iconst (v := (1 : Int32)) hx hb dX6_aired_38 (by decide) ?_
            refine lv_isub hx hb dX6_aired_39 ?_
            refine lv_iload_n hx hb dX6_aired_40 rfl (lv_at hl 1 rfl) ?_
            refine lv_isub hx hb dX6_aired_41 ?_
            refine lv_bipush (v := (64 : Int32)) hx hb dX6_aired_42 (by decide) ?_
            refine lv_irem hx hb dX6_aired_44 (by decide) ?_
            refine lv_istore_n (lv' := [(3, .int ((((M 16 0) - (1 : Int32)) - a1) - (((M 16 0) - (1 : Int32)) - a1) / (64 : Int32) * (64 : Int32))), (0, .ref (ad 0)), (1, .int a1), (2, .int a2)]) hx hb dX6_aired_45 rfl hl (by decide) rfl (fun ls hl => ?_)
            refine lv_iload_n hx hb dX6_aired_46 rfl (lv_at hl 3 rfl) ?_
            refine lv_if_ne (tgt := 59) hx hb dX6_aired_47 (by decide) (fun c6 => ?_) (fun c6 => ?_)
            · have hres := it_n hres c6
              have hok := io_n hok c6
              refine lv_aload_n hx hb dX6_aired_59 rfl (lv_at hl 1 rfl) ?_
              refine R_X6_airPayload_get C h in_fX6_47 dX6_aired_60 ?_
              refine lv_iload_n hx hb dX6_aired_63 rfl (lv_at hl 0 rfl) ?_
              have h7 := hok
              refine R_airPayload_ld (v := ((M 29) ((((M 16 0) - (1 : Int32)) - a1) - (((M 16 0) - (1 : Int32)) - a1) / (64 : Int32) * (64 : Int32)).toNatClampNeg)) C h h7 rfl dX6_aired_64 ?_
              exact wh_iret C h hres dX6_aired_65
            · have hres := it_p hres c6
              have hok := io_p hok c6
              refine lv_aload_n hx hb dX6_aired_50 rfl (lv_at hl 1 rfl) ?_
              refine R_X6_airNumber_get C h in_fX6_44 dX6_aired_51 ?_
              refine lv_iload_n hx hb dX6_aired_54 rfl (lv_at hl 0 rfl) ?_
              have h8 := hok
              refine R_airNumber_ld (v := ((M 28) ((((M 16 0) - (1 : Int32)) - a1) - (((M 16 0) - (1 : Int32)) - a1) / (64 : Int32) * (64 : Int32)).toNatClampNeg)) C h h8 rfl dX6_aired_55 ?_
              refine lv_goto (tgt := 65) hx hb dX6_aired_56 (by decide) ?_
              exact wh_iret C h hres dX6_aired_65
          · have hres := it_n hres c5
            refine lv_iconst (v := (-1 : Int32)) hx hb dX6_aired_32 (by decide) ?_
            exact wh_iret C h hres dX6_aired_33
theorem yw_X6_aired {cI : ClassId} {ad : Nat → Nat} : YV (wR cI ad) (ad 0) yX6_aired cX6_aired 4 (some .int) rmX6_aired 2 := ⟨fun M => ⟨0, 6, _, _, rfl, rfl, rfl⟩, in_cX6_aired, in_nX6_aired, in_vX6_aired, in_iX6, by decide +kernel, rfl, rfl⟩
theorem c_X6_aired {l : Launch} {D : va_G} {cI : ClassId} {ad : Nat → Nat} (M : Mem) (a1 a2 : Int32) (hok : ok_X6_aired M a1 a2) : KI l D [(cI, .int)] (wR cI ad) yX6_aired cX6_aired 4 rmX6_aired [.ref (ad 0), .int a1, .int a2] M (f_X6_aired M a1 a2) := met_i (by decide) (Nat.le_of_ble_eq_true rfl) (fun p e s m below meth c A C h ls hl => k_X6_aired_0 ⟨Nat.le_refl _, Nat.le_refl _⟩ (Nat.le_refl _) (Nat.le_refl _) C M a1 a2 _ _ ls hok rfl h hl)
abbrev rmX6_state : Room := { frames := 0, cells := 0, slots := 0, locals := 0 }
def f_X6_state_26 (M : Mem) (x1 t0 : Int32) : Mem × Int32 := (if x1 = (0 : Int32) then (M, (M 4 0)) else (if x1 = (1 : Int32) then (M, (M 2 0)) else (if x1 = (2 : Int32) then (M, (M 3 0)) else (if x1 = (3 : Int32) then (if t0 = 0 then (M, (0 : Int32)) else (M, (M 12 0))) else (if x1 = (4 : Int32) then (if t0 = 0 then (M, (0 : Int32)) else (M, (M 14 0))) else (if x1 = (5 : Int32) then (if (M 4 0) = (3 : Int32) then (M, (M 11 0)) else (M, (0 : Int32))) else (if x1 = (6 : Int32) then (M, (M 5 0)) else (if x1 = (7 : Int32) then (M, (M 6 0)) else (if x1 = (8 : Int32) then (M, (M 7 0)) else (if x1 = (9 : Int32) then (M, (M 16 0)) else (M, (-1 : Int32))))))))))))
def f_X6_state_21 (M : Mem) (x1 : Int32) : Mem × Int32 := (f_X6_state_26 M x1 (1 : Int32))
def f_X6_state (M : Mem) (a1 : Int32) : Mem × Int32 := (if (M 4 0) = (3 : Int32) then (f_X6_state_21 (ms M 0 (fun _ => (0 : Int32))) a1) else (if (M 4 0) = (4 : Int32) then (f_X6_state_21 (ms M 0 (fun _ => (0 : Int32))) a1) else (f_X6_state_26 (ms M 0 (fun _ => (0 : Int32))) a1 (0 : Int32))))
set_option maxRecDepth 100000 in
set_option maxHeartbeats 4000000 in
theorem k_X6_state_26 {p : Program} {l : Launch} {e : Env} {s : State} {m : MethodId} {args : Array Value} {below : List Frame} {meth : Method} {c : Code} {D : va_G} {cI : ClassId} {ad : Nat → Nat} {A : Nat → Prop} {cells slots : Nat} {R : Room} (hcs : cells ≤ R.cells ∧ slots ≤ R.slots) (hrf : rmX6_state.frames ≤ R.frames) (hrl : rmX6_state.locals ≤ R.locals) {res : Mem × Int32} (C : CX p s m args meth c RX6 cX6_state 3 (some .int)) : ∀ (M : Mem) (x1 t0 : Int32) (H : Heap) (locs : List Loc) (ls : Array Slot), f_X6_state_26 M x1 t0 = res → WH D [(cI, .int)] (wR cI ad) A s H locs M → lv_has ls 3 [(0, .ref (ad 0)), (1, .int x1)] → W p l e R s m args below meth c H locs cells slots (MQ below (PI D [(cI, .int)] (wR cI ad) A res) args s cells slots A) (F0 m 26 ls [.int t0]) := by
  have hx := C.1
  have hb := C.2.1
  have hown := C.2.2.2.2.1
  have hts := C.2.2.2.2.2.1
  intro M x1 t0 H locs ls hres h hl
  rw [f_X6_state_26] at hres
  refine lv_istore_n (lv' := [(2, .int t0), (0, .ref (ad 0)), (1, .int x1)]) hx hb dX6_state_26 rfl hl (by decide) rfl (fun ls hl => ?_)
  refine lv_iload_n hx hb dX6_state_27 rfl (lv_at hl 2 rfl) ?_
  refine (Classical.em (x1 = (0 : Int32))).elim (fun c2 => ?_) (fun c2 => ?_)
  · have hres := it_p hres c2
    refine sw_in (k := (0 : Int32)) (tgt := 84) c2 hx hb dX6_state_28 (by decide) (by decide) rfl (by decide) ?_
    refine lv_aload_n hx hb dX6_state_84 rfl (lv_at hl 1 rfl) ?_
    refine R_X6_phase_get (v := (M 4 0)) C h in_fX6_93 rfl dX6_state_85 ?_
    exact wh_iret C h hres dX6_state_88
  · have hres := it_n hres c2
    refine (Classical.em (x1 = (1 : Int32))).elim (fun c3 => ?_) (fun c3 => ?_)
    · have hres := it_p hres c3
      refine sw_in (k := (1 : Int32)) (tgt := 89) c3 hx hb dX6_state_28 (by decide) (by decide) rfl (by decide) ?_
      refine lv_aload_n hx hb dX6_state_89 rfl (lv_at hl 1 rfl) ?_
      refine R_X6_energy_get (v := (M 2 0)) C h in_fX6_111 rfl dX6_state_90 ?_
      exact wh_iret C h hres dX6_state_93
    · have hres := it_n hres c3
      refine (Classical.em (x1 = (2 : Int32))).elim (fun c4 => ?_) (fun c4 => ?_)
      · have hres := it_p hres c4
        refine sw_in (k := (2 : Int32)) (tgt := 94) c4 hx hb dX6_state_28 (by decide) (by decide) rfl (by decide) ?_
        refine lv_aload_n hx hb dX6_state_94 rfl (lv_at hl 1 rfl) ?_
        refine R_X6_slots_get (v := (M 3 0)) C h in_fX6_155 rfl dX6_state_95 ?_
        exact wh_iret C h hres dX6_state_98
      · have hres := it_n hres c4
        refine (Classical.em (x1 = (3 : Int32))).elim (fun c5 => ?_) (fun c5 => ?_)
        · have hres := it_p hres c5
          refine sw_in (k := (3 : Int32)) (tgt := 99) c5 hx hb dX6_state_28 (by decide) (by decide) rfl (by decide) ?_
          refine lv_iload_n hx hb dX6_state_99 rfl (lv_at hl 0 rfl) ?_
          refine lv_if_eq (tgt := 110) hx hb dX6_state_100 (by decide) (fun c6 => ?_) (fun c6 => ?_)
          · have hres := it_p hres c6
            refine lv_iconst (v := (0 : Int32)) hx hb dX6_state_110 (by decide) ?_
            exact wh_iret C h hres dX6_state_111
          · have hres := it_n hres c6
            refine lv_aload_n hx hb dX6_state_103 rfl (lv_at hl 1 rfl) ?_
            refine R_X6_spent_get (v := (M 12 0)) C h in_fX6_96 rfl dX6_state_104 ?_
            refine lv_goto (tgt := 111) hx hb dX6_state_107 (by decide) ?_
            exact wh_iret C h hres dX6_state_111
        · have hres := it_n hres c5
          refine (Classical.em (x1 = (4 : Int32))).elim (fun c7 => ?_) (fun c7 => ?_)
          · have hres := it_p hres c7
            refine sw_in (k := (4 : Int32)) (tgt := 112) c7 hx hb dX6_state_28 (by decide) (by decide) rfl (by decide) ?_
            refine lv_iload_n hx hb dX6_state_112 rfl (lv_at hl 0 rfl) ?_
            refine lv_if_eq (tgt := 123) hx hb dX6_state_113 (by decide) (fun c8 => ?_) (fun c8 => ?_)
            · have hres := it_p hres c8
              refine lv_iconst (v := (0 : Int32)) hx hb dX6_state_123 (by decide) ?_
              exact wh_iret C h hres dX6_state_124
            · have hres := it_n hres c8
              refine lv_aload_n hx hb dX6_state_116 rfl (lv_at hl 1 rfl) ?_
              refine R_X6_pending_get (v := (M 14 0)) C h in_fX6_84 rfl dX6_state_117 ?_
              refine lv_goto (tgt := 124) hx hb dX6_state_120 (by decide) ?_
              exact wh_iret C h hres dX6_state_124
          · have hres := it_n hres c7
            refine (Classical.em (x1 = (5 : Int32))).elim (fun c9 => ?_) (fun c9 => ?_)
            · have hres := it_p hres c9
              refine sw_in (k := (5 : Int32)) (tgt := 125) c9 hx hb dX6_state_28 (by decide) (by decide) rfl (by decide) ?_
              refine lv_aload_n hx hb dX6_state_125 rfl (lv_at hl 1 rfl) ?_
              refine R_X6_phase_get (v := (M 4 0)) C h in_fX6_93 rfl dX6_state_126 ?_
              refine lv_iconst (v := (3 : Int32)) hx hb dX6_state_129 (by decide) ?_
              refine lv_icmp_ne (tgt := 140) hx hb dX6_state_130 (by decide) (fun c10 => ?_) (fun c10 => ?_)
              · have hres := it_n hres c10
                refine lv_iconst (v := (0 : Int32)) hx hb dX6_state_140 (by decide) ?_
                exact wh_iret C h hres dX6_state_141
              · have hres := it_p hres c10
                refine lv_aload_n hx hb dX6_state_133 rfl (lv_at hl 1 rfl) ?_
                refine R_X6_next_get (v := (M 11 0)) C h in_fX6_102 rfl dX6_state_134 ?_
                refine lv_goto (tgt := 141) hx hb dX6_state_137 (by decide) ?_
                exact wh_iret C h hres dX6_state_141
            · have hres := it_n hres c9
              refine (Classical.em (x1 = (6 : Int32))).elim (fun c11 => ?_) (fun c11 => ?_)
              · have hres := it_p hres c11
                refine sw_in (k := (6 : Int32)) (tgt := 142) c11 hx hb dX6_state_28 (by decide) (by decide) rfl (by decide) ?_
                refine lv_aload_n hx hb dX6_state_142 rfl (lv_at hl 1 rfl) ?_
                refine R_X6_givenUp_get (v := (M 5 0)) C h in_fX6_31 rfl dX6_state_143 ?_
                exact wh_iret C h hres dX6_state_146
              · have hres := it_n hres c11
                refine (Classical.em (x1 = (7 : Int32))).elim (fun c12 => ?_) (fun c12 => ?_)
                · have hres := it_p hres c12
                  refine sw_in (k := (7 : Int32)) (tgt := 147) c12 hx hb dX6_state_28 (by decide) (by decide) rfl (by decide) ?_
                  refine lv_aload_n hx hb dX6_state_147 rfl (lv_at hl 1 rfl) ?_
                  refine R_X6_fails_get (v := (M 6 0)) C h in_fX6_90 rfl dX6_state_148 ?_
                  exact wh_iret C h hres dX6_state_151
                · have hres := it_n hres c12
                  refine (Classical.em (x1 = (8 : Int32))).elim (fun c13 => ?_) (fun c13 => ?_)
                  · have hres := it_p hres c13
                    refine sw_in (k := (8 : Int32)) (tgt := 152) c13 hx hb dX6_state_28 (by decide) (by decide) rfl (by decide) ?_
                    refine lv_aload_n hx hb dX6_state_152 rfl (lv_at hl 1 rfl) ?_
                    refine R_X6_abandoned_get (v := (M 7 0)) C h in_fX6_158 rfl dX6_state_153 ?_
                    exact wh_iret C h hres dX6_state_156
                  · have hres := it_n hres c13
                    refine (Classical.em (x1 = (9 : Int32))).elim (fun c14 => ?_) (fun c14 => ?_)
                    · have hres := it_p hres c14
                      refine sw_in (k := (9 : Int32)) (tgt := 157) c14 hx hb dX6_state_28 (by decide) (by decide) rfl (by decide) ?_
                      refine lv_aload_n hx hb dX6_state_157 rfl (lv_at hl 1 rfl) ?_
                      refine R_X6_aired_get (v := (M 16 0)) C h in_fX6_130 rfl dX6_state_158 ?_
                      exact wh_iret C h hres dX6_state_161
                    · have hres := it_n hres c14
                      refine lv_tableOut (tgt := 162) hx hb dX6_state_28 (by have q := And.intro trivial trivial; have n0 := lv_neT c2 (a := 0) (by decide); have n1 := lv_neT c3 (a := 1) (by decide); have n2 := lv_neT c4 (a := 2) (by decide); have n3 := lv_neT c5 (a := 3) (by decide); have n4 := lv_neT c7 (a := 4) (by decide); have n5 := lv_neT c9 (a := 5) (by decide); have n6 := lv_neT c11 (a := 6) (by decide); have n7 := lv_neT c12 (a := 7) (by decide); have n8 := lv_neT c13 (a := 8) (by decide); have n9 := lv_neT c14 (a := 9) (by decide); omega) (by decide) ?_
                      refine lv_iconst (v := (-1 : Int32)) hx hb dX6_state_162 (by decide) ?_
                      exact wh_iret C h hres dX6_state_163
set_option maxRecDepth 100000 in
set_option maxHeartbeats 4000000 in
theorem k_X6_state_21 {p : Program} {l : Launch} {e : Env} {s : State} {m : MethodId} {args : Array Value} {below : List Frame} {meth : Method} {c : Code} {D : va_G} {cI : ClassId} {ad : Nat → Nat} {A : Nat → Prop} {cells slots : Nat} {R : Room} (hcs : cells ≤ R.cells ∧ slots ≤ R.slots) (hrf : rmX6_state.frames ≤ R.frames) (hrl : rmX6_state.locals ≤ R.locals) {res : Mem × Int32} (C : CX p s m args meth c RX6 cX6_state 3 (some .int)) : ∀ (M : Mem) (x1 : Int32) (H : Heap) (locs : List Loc) (ls : Array Slot), f_X6_state_21 M x1 = res → WH D [(cI, .int)] (wR cI ad) A s H locs M → lv_has ls 3 [(0, .ref (ad 0)), (1, .int x1)] → W p l e R s m args below meth c H locs cells slots (MQ below (PI D [(cI, .int)] (wR cI ad) A res) args s cells slots A) (F0 m 21 ls []) := by
  have hx := C.1
  have hb := C.2.1
  have hown := C.2.2.2.2.1
  have hts := C.2.2.2.2.2.1
  intro M x1 H locs ls hres h hl
  rw [f_X6_state_21] at hres
  refine lv_iconst (v := (1 : Int32)) hx hb dX6_state_21 (by decide) ?_
  refine lv_goto (tgt := 26) hx hb dX6_state_22 (by decide) ?_
  exact k_X6_state_26 hcs hrf hrl C M x1 (1 : Int32) _ _ _  hres h (lv_sub hl [0, 1] rfl)
set_option maxRecDepth 100000 in
set_option maxHeartbeats 4000000 in
theorem k_X6_state_0 {p : Program} {l : Launch} {e : Env} {s : State} {m : MethodId} {args : Array Value} {below : List Frame} {meth : Method} {c : Code} {D : va_G} {cI : ClassId} {ad : Nat → Nat} {A : Nat → Prop} {cells slots : Nat} {R : Room} (hcs : cells ≤ R.cells ∧ slots ≤ R.slots) (hrf : rmX6_state.frames ≤ R.frames) (hrl : rmX6_state.locals ≤ R.locals) {res : Mem × Int32} (C : CX p s m args meth c RX6 cX6_state 3 (some .int)) : ∀ (M : Mem) (a1 : Int32) (H : Heap) (locs : List Loc) (ls : Array Slot), f_X6_state M a1 = res → WH D [(cI, .int)] (wR cI ad) A s H locs M → lv_has ls 3 [(0, .ref (ad 0)), (1, .int a1)] → W p l e R s m args below meth c H locs cells slots (MQ below (PI D [(cI, .int)] (wR cI ad) A res) args s cells slots A) (F0 m 0 ls []) := by
  have hx := C.1
  have hb := C.2.1
  have hown := C.2.2.2.2.1
  have hts := C.2.2.2.2.2.1
  intro M a1 H locs ls hres h hl
  rw [f_X6_state] at hres
  refine lv_aload_n hx hb dX6_state_0 rfl (lv_at hl 0 rfl) ?_
  refine lv_iconst (v := (0 : Int32)) hx hb dX6_state_1 (by decide) ?_
  refine R_X6_thrown_put (v := (0 : Int32)) (M2 := (ms M 0 (fun _ => (0 : Int32)))) C h in_fX6_56 rfl dX6_state_2 (fun H locs h => ?_)
  refine lv_aload_n hx hb dX6_state_5 rfl (lv_at hl 0 rfl) ?_
  refine R_X6_phase_get (v := (M 4 0)) C h in_fX6_93 rfl dX6_state_6 ?_
  refine lv_iconst (v := (3 : Int32)) hx hb dX6_state_9 (by decide) ?_
  refine lv_icmp_eq (tgt := 21) hx hb dX6_state_10 (by decide) (fun c1 => ?_) (fun c1 => ?_)
  · have hres := it_p hres c1
    exact k_X6_state_21 hcs hrf hrl C (ms M 0 (fun _ => (0 : Int32))) a1 _ _ _  hres h (lv_sub hl [0, 1] rfl)
  · have hres := it_n hres c1
    refine lv_aload_n hx hb dX6_state_13 rfl (lv_at hl 0 rfl) ?_
    refine R_X6_phase_get (v := (M 4 0)) C h in_fX6_93 rfl dX6_state_14 ?_
    refine lv_iconst (v := (4 : Int32)) hx hb dX6_state_17 (by decide) ?_
    refine lv_icmp_ne (tgt := 25) hx hb dX6_state_18 (by decide) (fun c15 => ?_) (fun c15 => ?_)
    · have hres := it_n hres c15
      refine lv_iconst (v := (0 : Int32)) hx hb dX6_state_25 (by decide) ?_
      exact k_X6_state_26 hcs hrf hrl C (ms M 0 (fun _ => (0 : Int32))) a1 (0 : Int32) _ _ _  hres h (lv_sub hl [0, 1] rfl)
    · have hres := it_p hres c15
      exact k_X6_state_21 hcs hrf hrl C (ms M 0 (fun _ => (0 : Int32))) a1 _ _ _  hres h (lv_sub hl [0, 1] rfl)
theorem yw_X6_state {cI : ClassId} {ad : Nat → Nat} : YV (wR cI ad) (ad 0) yX6_state cX6_state 3 (some .int) rmX6_state 1 := ⟨fun M => ⟨0, 6, _, _, rfl, rfl, rfl⟩, in_cX6_state, in_nX6_state, in_vX6_state, in_iX6, by decide +kernel, rfl, rfl⟩
theorem c_X6_state {l : Launch} {D : va_G} {cI : ClassId} {ad : Nat → Nat} (M : Mem) (a1 : Int32) : KI l D [(cI, .int)] (wR cI ad) yX6_state cX6_state 3 rmX6_state [.ref (ad 0), .int a1] M (f_X6_state M a1) := met_i (by decide) (Nat.le_of_ble_eq_true rfl) (fun p e s m below meth c A C h ls hl => k_X6_state_0 ⟨Nat.le_refl _, Nat.le_refl _⟩ (Nat.le_refl _) (Nat.le_refl _) C M a1 _ _ ls rfl h hl)
