set_option maxHeartbeats 4000000 in
set_option maxRecDepth 100000 in
/-- Stock.put -/
theorem k_X4_put (l : Launch) (E : rg_Env) (B : Nat) (M : rg_Mem) (k : Nat) (a : Int32) (b : Int32) (d : Int32) (hc : M.1 1 4 = nI k) (hk : k < 40) : Met l yX4_put (rg_w yX4_put cX4_put 4 (some (FieldType.int))) ({ frames := 1, cells := 0, slots := 0, locals := 20 } : Room) (va_Pc [.ref (B + 1), .int (a), .int (b), .int (d)] (rg_Pre E B 422 rg_R0 M)) (rg_Ri E B 422 rg_R0 (rg_I (rg_I (rg_I (rg_I M 2 k a) 3 k b) 4 k d) 1 4 (nI (k + 1))) (fun r => r = nI k)) 0 0 (rg_A B) := by
  refine rg_ofW (by decide +kernel) rfl (Nat.le_of_ble_eq_true rfl) ?_
  intro p e s m args below meth c ls C0 hH hl hr hlocks hnm
  replace hl : lv_has ls 4 [(0, .ref (B + 1)), (1, .int (a)), (2, .int (b)), (3, .int (d))] := hl
  have hx := C0.1.1
  have hb := C0.1.2.1
  generalize hH9 : s.heap = H at hH ⊢
  generalize hL9 : ([] : List Loc) = locs at hH ⊢
  clear hH9 hL9
  refine lv_aload_n hx hb dX4_put_0 rfl (lv_at hl 0 rfl) ?_
  refine rg_callGi C0 hH (As := []) (rest := []) (o := 1) (ci := 4) (k_X4_isFull l E B M) (rg_cw 0 C0.1.2.2.2.2 tw_m_X4_29 tw_i_X4_isFull tw_v_X4_isFull tw_n_X4 tw_c_X4_isFull rfl rfl hd_X4_isFull ⟨Nat.le_of_ble_eq_true rfl, Nat.le_of_ble_eq_true rfl⟩) rfl (by decide) rfl (by decide) rfl hl.1 rfl (Nat.le_of_ble_eq_true rfl) dX4_put_1 ⟨Nat.le_of_ble_eq_true rfl, Nat.le_of_ble_eq_true rfl⟩ (fun H locs hH => ?_)
  refine lv_if_eq (tgt := 9) hx hb dX4_put_4 (by decide) (fun c_4 => ?_) (fun c_4 => ?_)
  · refine lv_aload_n hx hb dX4_put_9 rfl (lv_at hl 0 rfl) ?_
    refine rg_gR C0 hH (o2 := 2) (ci := 4) (k := 0) (o := 1) rfl rfl inT_X4 (by decide) tw_f_X4_9 (by decide) rfl (by decide) rfl dX4_put_10 ?_
    refine lv_aload_n hx hb dX4_put_13 rfl (lv_at hl 0 rfl) ?_
    refine rg_gI C0 hH (ci := 4) (k := 4) (o := 1) rfl inT_X4 (by decide) tw_f_X4_25 (by decide) rfl (by decide) rfl dX4_put_14 ?_
    refine rg_topi (y := nI k) (by exact hc) ?_
    refine lv_iload_n hx hb dX4_put_17 rfl (lv_at hl 1 rfl) ?_
    refine rg_iastN C0 hH (o := 2) (j := k) (n0 := 40) (by decide) rfl rfl (by omega) dX4_put_18 (fun H locs hH => ?_)
    refine lv_aload_n hx hb dX4_put_19 rfl (lv_at hl 0 rfl) ?_
    refine rg_gR C0 hH (o2 := 3) (ci := 4) (k := 1) (o := 1) rfl rfl inT_X4 (by decide) tw_f_X4_15 (by decide) rfl (by decide) rfl dX4_put_20 ?_
    refine lv_aload_n hx hb dX4_put_23 rfl (lv_at hl 0 rfl) ?_
    refine rg_gI C0 hH (ci := 4) (k := 4) (o := 1) rfl inT_X4 (by decide) tw_f_X4_25 (by decide) rfl (by decide) rfl dX4_put_24 ?_
    refine rg_topi (y := nI k) (by simpa [rg_I] using hc) ?_
    refine lv_iload_n hx hb dX4_put_27 rfl (lv_at hl 2 rfl) ?_
    refine rg_iastN C0 hH (o := 3) (j := k) (n0 := 40) (by decide) rfl rfl (by omega) dX4_put_28 (fun H locs hH => ?_)
    refine lv_aload_n hx hb dX4_put_29 rfl (lv_at hl 0 rfl) ?_
    refine rg_gR C0 hH (o2 := 4) (ci := 4) (k := 2) (o := 1) rfl rfl inT_X4 (by decide) tw_f_X4_18 (by decide) rfl (by decide) rfl dX4_put_30 ?_
    refine lv_aload_n hx hb dX4_put_33 rfl (lv_at hl 0 rfl) ?_
    refine rg_gI C0 hH (ci := 4) (k := 4) (o := 1) rfl inT_X4 (by decide) tw_f_X4_25 (by decide) rfl (by decide) rfl dX4_put_34 ?_
    refine rg_topi (y := nI k) (by simpa [rg_I] using hc) ?_
    refine lv_iload_n hx hb dX4_put_37 rfl (lv_at hl 3 rfl) ?_
    refine rg_iastN C0 hH (o := 4) (j := k) (n0 := 40) (by decide) rfl rfl (by omega) dX4_put_38 (fun H locs hH => ?_)
    refine lv_aload_n hx hb dX4_put_39 rfl (lv_at hl 0 rfl) ?_
    refine lv_dup hx hb dX4_put_40 rfl ?_
    refine rg_gI C0 hH (ci := 4) (k := 4) (o := 1) rfl inT_X4 (by decide) tw_f_X4_25 (by decide) rfl (by decide) rfl dX4_put_41 ?_
    refine rg_topi (y := nI k) (by simpa [rg_I] using hc) ?_
    refine lv_iconst (v := 1) hx hb dX4_put_44 (by decide) ?_
    refine lv_iadd hx hb dX4_put_45 ?_
    refine rg_topi (y := nI (k + 1)) (by exact nI_1 k) ?_
    refine rg_pI C0 hH (v := nI (k + 1)) tyX4 tyX4_ok nmX4 (ci := 4) (k := 4) (o := 1) rfl inT_X4 (by decide) tw_f_X4_25 (by decide) rfl (by decide) rfl rfl rfl rfl dX4_put_46 (fun H locs hH => ?_)
    refine lv_aload_n hx hb dX4_put_49 rfl (lv_at hl 0 rfl) ?_
    refine rg_gI C0 hH (ci := 4) (k := 4) (o := 1) rfl inT_X4 (by decide) tw_f_X4_25 (by decide) rfl (by decide) rfl dX4_put_50 ?_
    refine rg_topi (y := nI (k + 1)) (by simp [rg_I]) ?_
    refine lv_iconst (v := 1) hx hb dX4_put_53 (by decide) ?_
    refine lv_isub hx hb dX4_put_54 ?_
    refine rg_topi (y := nI k) (by exact nI_pred k) ?_
    exact rg_retRi C0 hH hr hlocks rfl rfl dX4_put_55
  · exact absurd (rg_b_ne.mp c_4) (by rw [hc]; exact nI_ge (a := k) (b := 40) hk (by omega))

set_option maxHeartbeats 4000000 in
set_option maxRecDepth 100000 in
/-- Stock.bind -/
theorem k_X4_bind (l : Launch) (E : rg_Env) (B : Nat) (M : rg_Mem) (w : Int32) (x : Int32) (hn : rg_cn M) (hw : rg_has M w) (hx9 : rg_has M x) : Met l yX4_bind (rg_w yX4_bind cX4_bind 4 (some (FieldType.boolean))) ({ frames := 1, cells := 0, slots := 0, locals := 21 } : Room) (va_Pc [.ref (B + 1), .int (w), .int (x)] (rg_Pre E B 422 rg_R0 M)) (rg_Ri E B 422 rg_R0 (rg_J (rg_J M 5 w.toNatClampNeg (M.2 5 w.toNatClampNeg ||| (1 : Int64) <<< (x.toInt64 &&& 63))) 5 x.toNatClampNeg ((rg_J M 5 w.toNatClampNeg (M.2 5 w.toNatClampNeg ||| (1 : Int64) <<< (x.toInt64 &&& 63))).2 5 x.toNatClampNeg ||| (1 : Int64) <<< (w.toInt64 &&& 63))) (fun r => r = rg_b (¬ (M.2 5 w.toNatClampNeg >>> (x.toInt64 &&& 63)) &&& 1 = 0))) 0 0 (rg_A B) := by
  refine rg_ofW (by decide +kernel) rfl (Nat.le_of_ble_eq_true rfl) ?_
  intro p e s m args below meth c ls C0 hH hl hr hlocks hnm
  replace hl : lv_has ls 4 [(0, .ref (B + 1)), (1, .int (w)), (2, .int (x))] := hl
  have hx := C0.1.1
  have hb := C0.1.2.1
  generalize hH9 : s.heap = H at hH ⊢
  generalize hL9 : ([] : List Loc) = locs at hH ⊢
  clear hH9 hL9
  refine lv_aload_n hx hb dX4_bind_0 rfl (lv_at hl 0 rfl) ?_
  refine lv_iload_n hx hb dX4_bind_1 rfl (lv_at hl 1 rfl) ?_
  refine rg_callGi C0 hH (As := [.int (w)]) (rest := []) (o := 1) (ci := 4) (k_X4_has l E B M w) (rg_cw 1 C0.1.2.2.2.2 tw_m_X4_33 tw_i_X4_has tw_v_X4_has tw_n_X4 tw_c_X4_has rfl rfl hd_X4_has ⟨Nat.le_of_ble_eq_true rfl, Nat.le_of_ble_eq_true rfl⟩) rfl (by decide) rfl (by decide) rfl hl.1 rfl (Nat.le_of_ble_eq_true rfl) dX4_bind_2 ⟨Nat.le_of_ble_eq_true rfl, Nat.le_of_ble_eq_true rfl⟩ (fun H locs hH => ?_)
  refine lv_if_eq (tgt := 16) hx hb dX4_bind_5 (by decide) (fun c_5 => ?_) (fun c_5 => ?_)
  · exact absurd hw (rg_b_eq.mp c_5)
  · refine lv_aload_n hx hb dX4_bind_8 rfl (lv_at hl 0 rfl) ?_
    refine lv_iload_n hx hb dX4_bind_9 rfl (lv_at hl 2 rfl) ?_
    refine rg_callGi C0 hH (As := [.int (x)]) (rest := []) (o := 1) (ci := 4) (k_X4_has l E B M x) (rg_cw 1 C0.1.2.2.2.2 tw_m_X4_33 tw_i_X4_has tw_v_X4_has tw_n_X4 tw_c_X4_has rfl rfl hd_X4_has ⟨Nat.le_of_ble_eq_true rfl, Nat.le_of_ble_eq_true rfl⟩) rfl (by decide) rfl (by decide) rfl hl.1 rfl (Nat.le_of_ble_eq_true rfl) dX4_bind_10 ⟨Nat.le_of_ble_eq_true rfl, Nat.le_of_ble_eq_true rfl⟩ (fun H locs hH => ?_)
    refine lv_if_ne (tgt := 18) hx hb dX4_bind_13 (by decide) (fun c_13 => ?_) (fun c_13 => ?_)
    · refine lv_aload_n hx hb dX4_bind_18 rfl (lv_at hl 0 rfl) ?_
      refine rg_gR C0 hH (o2 := 5) (ci := 4) (k := 3) (o := 1) rfl rfl inT_X4 (by decide) tw_f_X4_21 (by decide) rfl (by decide) rfl dX4_bind_19 ?_
      refine lv_iload_n hx hb dX4_bind_22 rfl (lv_at hl 1 rfl) ?_
      refine rg_lald C0 hH (o := 5) (by decide) rfl (rg_vin rfl (by exact rg_has_in hn hw)) dX4_bind_23 ?_
      refine lv_iload_n hx hb dX4_bind_24 rfl (lv_at hl 2 rfl) ?_
      refine lv_lshr hx hb dX4_bind_25 rfl ?_
      refine lv_lconst (v := 1) hx hb dX4_bind_26 (by decide) ?_
      refine lv_land hx hb dX4_bind_27 ?_
      refine lv_lconst (v := 0) hx hb dX4_bind_28 (by decide) ?_
      refine W.lcmp hx hb dX4_bind_29 ?_
      refine lv_if_eq (tgt := 37) hx hb dX4_bind_30 (by decide) (fun c_30 => ?_) (fun c_30 => ?_)
      · refine lv_iconst (v := 0) hx hb dX4_bind_37 (by decide) ?_
        refine lv_istore_n (lv' := [(3, .int (0)), (0, .ref (B + 1)), (1, .int (w)), (2, .int (x))]) hx hb dX4_bind_38 rfl hl (by decide) rfl (fun ls hl => ?_)
        refine lv_aload_n hx hb dX4_bind_39 rfl (lv_at hl 1 rfl) ?_
        refine rg_gR C0 hH (o2 := 5) (ci := 4) (k := 3) (o := 1) rfl rfl inT_X4 (by decide) tw_f_X4_21 (by decide) rfl (by decide) rfl dX4_bind_40 ?_
        refine lv_iload_n hx hb dX4_bind_43 rfl (lv_at hl 2 rfl) ?_
        refine lv_dup2_11 hx hb dX4_bind_44 rfl rfl ?_
        refine rg_lald C0 hH (o := 5) (by decide) rfl (rg_vin rfl (by exact rg_has_in hn hw)) dX4_bind_45 ?_
        refine lv_lconst (v := 1) hx hb dX4_bind_46 (by decide) ?_
        refine lv_iload_n hx hb dX4_bind_47 rfl (lv_at hl 3 rfl) ?_
        refine lv_lshl hx hb dX4_bind_48 rfl ?_
        refine lv_lor hx hb dX4_bind_49 ?_
        refine rg_last C0 hH (o := 5) (by decide) rfl (rg_vin rfl (by exact rg_has_in hn hw)) dX4_bind_50 (fun H locs hH => ?_)
        refine lv_aload_n hx hb dX4_bind_51 rfl (lv_at hl 1 rfl) ?_
        refine rg_gR C0 hH (o2 := 5) (ci := 4) (k := 3) (o := 1) rfl rfl inT_X4 (by decide) tw_f_X4_21 (by decide) rfl (by decide) rfl dX4_bind_52 ?_
        refine lv_iload_n hx hb dX4_bind_55 rfl (lv_at hl 3 rfl) ?_
        refine lv_dup2_11 hx hb dX4_bind_56 rfl rfl ?_
        refine rg_lald C0 hH (o := 5) (by decide) rfl (rg_vin rfl (by exact rg_has_in hn hx9)) dX4_bind_57 ?_
        refine lv_lconst (v := 1) hx hb dX4_bind_58 (by decide) ?_
        refine lv_iload_n hx hb dX4_bind_59 rfl (lv_at hl 2 rfl) ?_
        refine lv_lshl hx hb dX4_bind_60 rfl ?_
        refine lv_lor hx hb dX4_bind_61 ?_
        refine rg_last C0 hH (o := 5) (by decide) rfl (rg_vin rfl (by exact rg_has_in hn hx9)) dX4_bind_62 (fun H locs hH => ?_)
        refine lv_iload_n hx hb dX4_bind_63 rfl (lv_at hl 0 rfl) ?_
        exact rg_retRz C0 hH hr hlocks (Or.inl rfl) (by rfl) (by exact rg_b_f (fun q => q (rg_cmp0.mp c_30))) dX4_bind_64
      · refine lv_iconst (v := 1) hx hb dX4_bind_33 (by decide) ?_
        refine lv_goto (tgt := 38) hx hb dX4_bind_34 (by decide) ?_
        refine lv_istore_n (lv' := [(3, .int (1)), (0, .ref (B + 1)), (1, .int (w)), (2, .int (x))]) hx hb dX4_bind_38 rfl hl (by decide) rfl (fun ls hl => ?_)
        refine lv_aload_n hx hb dX4_bind_39 rfl (lv_at hl 1 rfl) ?_
        refine rg_gR C0 hH (o2 := 5) (ci := 4) (k := 3) (o := 1) rfl rfl inT_X4 (by decide) tw_f_X4_21 (by decide) rfl (by decide) rfl dX4_bind_40 ?_
        refine lv_iload_n hx hb dX4_bind_43 rfl (lv_at hl 2 rfl) ?_
        refine lv_dup2_11 hx hb dX4_bind_44 rfl rfl ?_
        refine rg_lald C0 hH (o := 5) (by decide) rfl (rg_vin rfl (by exact rg_has_in hn hw)) dX4_bind_45 ?_
        refine lv_lconst (v := 1) hx hb dX4_bind_46 (by decide) ?_
        refine lv_iload_n hx hb dX4_bind_47 rfl (lv_at hl 3 rfl) ?_
        refine lv_lshl hx hb dX4_bind_48 rfl ?_
        refine lv_lor hx hb dX4_bind_49 ?_
        refine rg_last C0 hH (o := 5) (by decide) rfl (rg_vin rfl (by exact rg_has_in hn hw)) dX4_bind_50 (fun H locs hH => ?_)
        refine lv_aload_n hx hb dX4_bind_51 rfl (lv_at hl 1 rfl) ?_
        refine rg_gR C0 hH (o2 := 5) (ci := 4) (k := 3) (o := 1) rfl rfl inT_X4 (by decide) tw_f_X4_21 (by decide) rfl (by decide) rfl dX4_bind_52 ?_
        refine lv_iload_n hx hb dX4_bind_55 rfl (lv_at hl 3 rfl) ?_
        refine lv_dup2_11 hx hb dX4_bind_56 rfl rfl ?_
        refine rg_lald C0 hH (o := 5) (by decide) rfl (rg_vin rfl (by exact rg_has_in hn hx9)) dX4_bind_57 ?_
        refine lv_lconst (v := 1) hx hb dX4_bind_58 (by decide) ?_
        refine lv_iload_n hx hb dX4_bind_59 rfl (lv_at hl 2 rfl) ?_
        refine lv_lshl hx hb dX4_bind_60 rfl ?_
        refine lv_lor hx hb dX4_bind_61 ?_
        refine rg_last C0 hH (o := 5) (by decide) rfl (rg_vin rfl (by exact rg_has_in hn hx9)) dX4_bind_62 (fun H locs hH => ?_)
        refine lv_iload_n hx hb dX4_bind_63 rfl (lv_at hl 0 rfl) ?_
        exact rg_retRz C0 hH hr hlocks (Or.inr rfl) (by rfl) (by exact rg_b_t (fun q => c_30 (rg_cmp0.mpr q))) dX4_bind_64
    · exact absurd hx9 (rg_b_eq.mp c_13)

set_option maxHeartbeats 4000000 in
set_option maxRecDepth 100000 in
/-- Poem.setSeat -/
theorem k_X1_setSeat (l : Launch) (E : rg_Env) (B : Nat) (M : rg_Mem) (x : Int32) (y : Int32) (h1 : ¬ x < 0) (h2 : ¬ 36 ≤ x) : Met l yX1_setSeat (rg_w yX1_setSeat cX1_setSeat 3 none) ({ frames := 0, cells := 0, slots := 0, locals := 0 } : Room) (va_Pc [.ref (B + 6), .int (x), .int (y)] (rg_Pre E B 422 rg_R0 M)) (rg_Rv E B 422 rg_R0 (rg_I M 7 x.toNatClampNeg y) (True)) 0 0 (rg_A B) := by
  refine rg_ofW (by decide +kernel) rfl (Nat.le_of_ble_eq_true rfl) ?_
  intro p e s m args below meth c ls C0 hH hl hr hlocks hnm
  replace hl : lv_has ls 3 [(0, .ref (B + 6)), (1, .int (x)), (2, .int (y))] := hl
  have hx := C0.1.1
  have hb := C0.1.2.1
  generalize hH9 : s.heap = H at hH ⊢
  generalize hL9 : ([] : List Loc) = locs at hH ⊢
  clear hH9 hL9
  refine lv_iload_n hx hb dX1_setSeat_0 rfl (lv_at hl 1 rfl) ?_
  refine lv_if_lt (tgt := 17) hx hb dX1_setSeat_1 (by decide) (fun c_1 => ?_) (fun c_1 => ?_)
  · exact absurd c_1 h1
  · refine lv_iload_n hx hb dX1_setSeat_4 rfl (lv_at hl 1 rfl) ?_
    refine lv_bipush (v := 36) hx hb dX1_setSeat_5 (by decide) ?_
    refine lv_icmp_ge (tgt := 17) hx hb dX1_setSeat_7 (by decide) (fun c_7 => ?_) (fun c_7 => ?_)
    · exact absurd c_7 h2
    · refine lv_aload_n hx hb dX1_setSeat_10 rfl (lv_at hl 0 rfl) ?_
      refine rg_gR C0 hH (o2 := 7) (ci := 1) (k := 5) (o := 6) rfl rfl inT_X1 (by decide) tw_f_X1_9 (by decide) rfl (by decide) rfl dX1_setSeat_11 ?_
      refine lv_iload_n hx hb dX1_setSeat_14 rfl (lv_at hl 1 rfl) ?_
      refine lv_iload_n hx hb dX1_setSeat_15 rfl (lv_at hl 2 rfl) ?_
      refine rg_iast C0 hH (o := 7) (by decide) rfl (rg_vin rfl (by exact rg_lit_in (m := 36) rfl h1 h2)) dX1_setSeat_16 (fun H locs hH => ?_)
      exact rg_retRv C0 hH hr hlocks rfl (by trivial) dX1_setSeat_17

set_option maxHeartbeats 4000000 in
set_option maxRecDepth 100000 in
/-- Poem.pointsOf -/
theorem k_X1_pointsOf (l : Launch) (E : rg_Env) (B : Nat) (M : rg_Mem) (x : Int32) (y : Int32) (hm : rg_mn M) : Met l yX1_pointsOf (rg_w yX1_pointsOf cX1_pointsOf 4 (some (FieldType.int))) ({ frames := 1, cells := 0, slots := 0, locals := 21 } : Room) (va_Pc [.ref (B + 6), .int (x), .int (y)] (rg_Pre E B 422 rg_R0 M)) (rg_Ri E B 422 rg_R0 (M) (fun r => r = if ¬ x < 0 ∧ ¬ 4 ≤ x ∧ rg_hl M y then M.1 (13 + x.toNatClampNeg) y.toNatClampNeg else -1)) 0 0 (rg_A B) := by
  refine rg_ofW (by decide +kernel) rfl (Nat.le_of_ble_eq_true rfl) ?_
  intro p e s m args below meth c ls C0 hH hl hr hlocks hnm
  replace hl : lv_has ls 4 [(0, .ref (B + 6)), (1, .int (x)), (2, .int (y))] := hl
  have hx := C0.1.1
  have hb := C0.1.2.1
  generalize hH9 : s.heap = H at hH ⊢
  generalize hL9 : ([] : List Loc) = locs at hH ⊢
  clear hH9 hL9
  refine lv_iload_n hx hb dX1_pointsOf_0 rfl (lv_at hl 1 rfl) ?_
  refine lv_if_lt (tgt := 21) hx hb dX1_pointsOf_1 (by decide) (fun c_1 => ?_) (fun c_1 => ?_)
  · refine lv_iconst (v := 0) hx hb dX1_pointsOf_21 (by decide) ?_
    refine lv_istore_n (lv' := [(3, .int (0)), (0, .ref (B + 6)), (1, .int (x)), (2, .int (y))]) hx hb dX1_pointsOf_22 rfl hl (by decide) rfl (fun ls hl => ?_)
    refine lv_iload_n hx hb dX1_pointsOf_23 rfl (lv_at hl 0 rfl) ?_
    refine lv_if_eq (tgt := 38) hx hb dX1_pointsOf_24 (by decide) (fun c_24 => ?_) (fun c_24 => ?_)
    · refine lv_iconst (v := (-1)) hx hb dX1_pointsOf_38 (by decide) ?_
      exact rg_retRi C0 hH hr hlocks rfl (by rw [if_neg (fun q => absurd c_1 q.1)]) dX1_pointsOf_39
    · exact absurd c_24 (by decide)
  · refine lv_iload_n hx hb dX1_pointsOf_4 rfl (lv_at hl 1 rfl) ?_
    refine lv_iconst (v := 4) hx hb dX1_pointsOf_5 (by decide) ?_
    refine lv_icmp_ge (tgt := 21) hx hb dX1_pointsOf_6 (by decide) (fun c_6 => ?_) (fun c_6 => ?_)
    · refine lv_iconst (v := 0) hx hb dX1_pointsOf_21 (by decide) ?_
      refine lv_istore_n (lv' := [(3, .int (0)), (0, .ref (B + 6)), (1, .int (x)), (2, .int (y))]) hx hb dX1_pointsOf_22 rfl hl (by decide) rfl (fun ls hl => ?_)
      refine lv_iload_n hx hb dX1_pointsOf_23 rfl (lv_at hl 0 rfl) ?_
      refine lv_if_eq (tgt := 38) hx hb dX1_pointsOf_24 (by decide) (fun c_24 => ?_) (fun c_24 => ?_)
      · refine lv_iconst (v := (-1)) hx hb dX1_pointsOf_38 (by decide) ?_
        exact rg_retRi C0 hH hr hlocks rfl (by rw [if_neg (fun q => absurd c_6 q.2.1)]) dX1_pointsOf_39
      · exact absurd c_24 (by decide)
    · refine lv_aload_n hx hb dX1_pointsOf_9 rfl (lv_at hl 0 rfl) ?_
      refine lv_iload_n hx hb dX1_pointsOf_10 rfl (lv_at hl 2 rfl) ?_
      refine rg_callGi C0 hH (As := [.int (y)]) (rest := []) (o := 6) (ci := 1) (k_X1_has l E B M y) (rg_cw 1 C0.1.2.2.2.2 tw_m_X1_57 tw_i_X1_has tw_v_X1_has tw_n_X1 tw_c_X1_has rfl rfl hd_X1_has ⟨Nat.le_of_ble_eq_true rfl, Nat.le_of_ble_eq_true rfl⟩) rfl (by decide) rfl (by decide) rfl hl.1 rfl (Nat.le_of_ble_eq_true rfl) dX1_pointsOf_11 ⟨Nat.le_of_ble_eq_true rfl, Nat.le_of_ble_eq_true rfl⟩ (fun H locs hH => ?_)
      refine lv_if_eq (tgt := 21) hx hb dX1_pointsOf_14 (by decide) (fun c_14 => ?_) (fun c_14 => ?_)
      · refine lv_iconst (v := 0) hx hb dX1_pointsOf_21 (by decide) ?_
        refine lv_istore_n (lv' := [(3, .int (0)), (0, .ref (B + 6)), (1, .int (x)), (2, .int (y))]) hx hb dX1_pointsOf_22 rfl hl (by decide) rfl (fun ls hl => ?_)
        refine lv_iload_n hx hb dX1_pointsOf_23 rfl (lv_at hl 0 rfl) ?_
        refine lv_if_eq (tgt := 38) hx hb dX1_pointsOf_24 (by decide) (fun c_24 => ?_) (fun c_24 => ?_)
        · refine lv_iconst (v := (-1)) hx hb dX1_pointsOf_38 (by decide) ?_
          exact rg_retRi C0 hH hr hlocks rfl (by rw [if_neg (fun q => absurd q.2.2 (rg_b_eq.mp c_14))]) dX1_pointsOf_39
        · exact absurd c_24 (by decide)
      · refine lv_iconst (v := 1) hx hb dX1_pointsOf_17 (by decide) ?_
        refine lv_goto (tgt := 22) hx hb dX1_pointsOf_18 (by decide) ?_
        refine lv_istore_n (lv' := [(3, .int (1)), (0, .ref (B + 6)), (1, .int (x)), (2, .int (y))]) hx hb dX1_pointsOf_22 rfl hl (by decide) rfl (fun ls hl => ?_)
        refine lv_iload_n hx hb dX1_pointsOf_23 rfl (lv_at hl 0 rfl) ?_
        refine lv_if_eq (tgt := 38) hx hb dX1_pointsOf_24 (by decide) (fun c_24 => ?_) (fun c_24 => ?_)
        · exact absurd c_24 (by decide)
        · refine lv_aload_n hx hb dX1_pointsOf_27 rfl (lv_at hl 1 rfl) ?_
          refine rg_gR C0 hH (o2 := 12) (ci := 1) (k := 10) (o := 6) rfl rfl inT_X1 (by decide) tw_f_X1_33 (by decide) rfl (by decide) rfl dX1_pointsOf_28 ?_
          refine lv_iload_n hx hb dX1_pointsOf_31 rfl (lv_at hl 2 rfl) ?_
          refine rg_aald C0 hH (o := 12) (o2 := (13 + x.toNatClampNeg)) (rg_R0_12 _ (rg_in_lt (rg_lit_in (n := 4) (m := 4) rfl c_1 c_6))) (by decide) rfl (by decide) (rg_vin rfl (by exact rg_lit_in (n := 4) (m := 4) rfl c_1 c_6)) dX1_pointsOf_32 ?_
          refine lv_iload_n hx hb dX1_pointsOf_33 rfl (lv_at hl 3 rfl) ?_
          refine rg_iald C0 hH (o := (13 + x.toNatClampNeg)) (by have := (rg_in_lt (rg_lit_in (n := 4) (m := 4) rfl c_1 c_6)); omega) (rg_kdP _ (rg_in_lt (rg_lit_in (n := 4) (m := 4) rfl c_1 c_6))).1 (rg_vin (rg_kdP _ (rg_in_lt (rg_lit_in (n := 4) (m := 4) rfl c_1 c_6))).2 (by exact rg_hl_in hm (rg_b_ne.mp c_14))) dX1_pointsOf_34 ?_
          refine lv_goto (tgt := 39) hx hb dX1_pointsOf_35 (by decide) ?_
          exact rg_retRi C0 hH hr hlocks rfl (by rw [if_pos ⟨c_1, c_6, rg_b_ne.mp c_14⟩]) dX1_pointsOf_39

set_option maxHeartbeats 4000000 in
set_option maxRecDepth 100000 in
/-- Poem.runAt -/
theorem k_X1_runAt (l : Launch) (E : rg_Env) (B : Nat) (M : rg_Mem) (x : Int32) (hm : rg_mn M) : Met l yX1_runAt (rg_w yX1_runAt cX1_runAt 5 (some (FieldType.int))) ({ frames := 2, cells := 0, slots := 0, locals := 42 } : Room) (va_Pc [.ref (B + 6), .int (x)] (rg_Pre E B 422 rg_R0 M)) (rg_Ri E B 422 rg_R0 (M) (fun r => r = rg_ru M x)) 0 0 (rg_A B) := by
  refine rg_ofW (by decide +kernel) rfl (Nat.le_of_ble_eq_true rfl) ?_
  intro p e s m args below meth c ls C0 hH hl hr hlocks hnm
  replace hl : lv_has ls 5 [(0, .ref (B + 6)), (1, .int (x))] := hl
  have hx := C0.1.1
  have hb := C0.1.2.1
  generalize hH9 : s.heap = H at hH ⊢
  generalize hL9 : ([] : List Loc) = locs at hH ⊢
  clear hH9 hL9
  refine lv_aload_n hx hb dX1_runAt_0 rfl (lv_at hl 0 rfl) ?_
  refine lv_iload_n hx hb dX1_runAt_1 rfl (lv_at hl 1 rfl) ?_
  refine rg_callGi C0 hH (As := [.int (x)]) (rest := []) (o := 6) (ci := 1) (k_X1_seasonAt l E B M x (by assumption)) (rg_cw 1 C0.1.2.2.2.2 tw_m_X1_75 tw_i_X1_seasonAt tw_v_X1_seasonAt tw_n_X1 tw_c_X1_seasonAt rfl rfl hd_X1_seasonAt ⟨Nat.le_of_ble_eq_true rfl, Nat.le_of_ble_eq_true rfl⟩) rfl (by decide) rfl (by decide) rfl hl.1 rfl (Nat.le_of_ble_eq_true rfl) dX1_runAt_2 ⟨Nat.le_of_ble_eq_true rfl, Nat.le_of_ble_eq_true rfl⟩ (fun H locs hH => ?_)
  by_cases hq : rg_hl M x
  · refine rg_topi (y := rg_cs M x.toNatClampNeg) (by rw [if_pos hq]) ?_
    have hqx := rg_in_lt (rg_hl_in hm hq)
    refine lv_istore_n (lv' := [(2, .int (rg_cs M x.toNatClampNeg)), (0, .ref (B + 6)), (1, .int (x))]) hx hb dX1_runAt_5 rfl hl (by decide) rfl (fun ls hl => ?_)
    refine lv_iload_n hx hb dX1_runAt_6 rfl (lv_at hl 0 rfl) ?_
    refine lv_iconst (v := (-1)) hx hb dX1_runAt_7 (by decide) ?_
    refine lv_icmp_ne (tgt := 13) hx hb dX1_runAt_8 (by decide) (fun c_8 => ?_) (fun c_8 => ?_)
    · obtain ⟨j, hj, rfl⟩ := vp_in_of (rg_hl_in hm hq) (by omega)
      rw [nI_clamp (by omega)] at c_8 hqx hl
      refine lv_iconst (v := 0) hx hb dX1_runAt_13 (by decide) ?_
      refine lv_istore_n (lv' := [(3, .int (0)), (2, .int (rg_cs M j)), (0, .ref (B + 6)), (1, .int ((nI j)))]) hx hb dX1_runAt_14 rfl hl (by decide) rfl (fun ls hl => ?_)
      refine lv_iload_n hx hb dX1_runAt_15 rfl (lv_at hl 3 rfl) ?_
      refine lv_istore (lv' := [(4, .int ((nI j))), (3, .int (0)), (2, .int (rg_cs M j)), (0, .ref (B + 6)), (1, .int ((nI j)))]) hx hb dX1_runAt_16 hl (by decide) rfl (fun ls hl => ?_)
      have cut_18 : ∀ (fu i : Nat), i ≤ j + 1 ∧ i < fu → ∀ (r : Nat) (H : Heap) (locs : List Loc) (ls : Array Slot), rg_H E B 422 rg_R0 M s H locs → lv_has ls 5 [(0, .ref (B + 6)), (2, .int (rg_cs M j)), (3, .int (nI r)), (4, .int (nI i - 1))] → (r + rg_rn (rg_cs M) (rg_cs M j) i = rg_rn (rg_cs M) (rg_cs M j) (j + 1)) → W p l e ({ frames := 2, cells := 0, slots := 0, locals := 42 } : Room) s m args below meth c H locs 0 0 (MQ below (rg_Ri E B 422 rg_R0 (M) (fun r => r = rg_ru M (nI j))) args s 0 0 (rg_A B)) (F0 m 18 ls []) := by
        intro fu
        induction fu with
        | zero =>
          intro i hm
          exact absurd hm (by omega)
        | succ fu ih =>
          intro i hm r H locs ls hH hl hr9
          refine lv_iload hx hb dX1_runAt_18 (lv_at hl 3 rfl) ?_
          refine lv_if_lt (tgt := 42) hx hb dX1_runAt_20 (by decide) (fun c_20 => ?_) (fun c_20 => ?_)
          · refine lv_iload_n hx hb dX1_runAt_42 rfl (lv_at hl 2 rfl) ?_
            exact rg_retRi C0 hH hr hlocks rfl (by unfold rg_ru; rw [if_pos hq, nI_clamp (by omega), if_neg c_8]; congr 1; exact rg_rn_x0 hr9 c_20 (by omega)) dX1_runAt_43
          · obtain ⟨q, rfl⟩ : ∃ q, i = q + 1 := ⟨i - 1, by
              rcases Nat.eq_zero_or_pos i with q | q
              · subst q; exact absurd (show (nI 0 - 1 : Int32) < 0 from by decide) c_20
              · omega⟩
            rw [nI_pred] at hl
            refine lv_aload_n hx hb dX1_runAt_23 rfl (lv_at hl 0 rfl) ?_
            refine lv_iload hx hb dX1_runAt_24 (lv_at hl 3 rfl) ?_
            refine rg_callGi C0 hH (As := [.int (nI q)]) (rest := []) (o := 6) (ci := 1) (k_X1_seasonAt l E B M (nI q) (by assumption)) (rg_cw 1 C0.1.2.2.2.2 tw_m_X1_75 tw_i_X1_seasonAt tw_v_X1_seasonAt tw_n_X1 tw_c_X1_seasonAt rfl rfl hd_X1_seasonAt ⟨Nat.le_of_ble_eq_true rfl, Nat.le_of_ble_eq_true rfl⟩) rfl (by decide) rfl (by decide) rfl hl.1 rfl (Nat.le_of_ble_eq_true rfl) dX1_runAt_26 ⟨Nat.le_of_ble_eq_true rfl, Nat.le_of_ble_eq_true rfl⟩ (fun H locs hH => ?_)
            refine rg_topi (y := rg_cs M q) (by rw [if_pos ⟨nI_pos (by omega), fun z => hq.2 (Int32.le_trans z (nI_le (by omega) (by omega)))⟩, nI_clamp (by omega)]) ?_
            refine lv_iload_n hx hb dX1_runAt_29 rfl (lv_at hl 1 rfl) ?_
            refine lv_icmp_ne (tgt := 42) hx hb dX1_runAt_30 (by decide) (fun c_30 => ?_) (fun c_30 => ?_)
            · refine lv_iload_n hx hb dX1_runAt_42 rfl (lv_at hl 2 rfl) ?_
              exact rg_retRi C0 hH hr hlocks rfl (by unfold rg_ru; rw [if_pos hq, nI_clamp (by omega), if_neg c_8]; congr 1; exact rg_rn_x1 hr9 c_30) dX1_runAt_43
            · refine lv_iinc (v := nI (r + 1)) (lv' := [(3, .int (nI (r + 1))), (0, .ref (B + 6)), (2, .int (rg_cs M j)), (4, .int (nI q))]) hx hb dX1_runAt_33 hl (k := 2) rfl (nI_1 _) (by decide) rfl (fun ls hl => ?_)
              refine lv_iinc (v := (nI q) - 1) (lv' := [(4, .int ((nI q) - 1)), (3, .int (nI (r + 1))), (0, .ref (B + 6)), (2, .int (rg_cs M j))]) hx hb dX1_runAt_36 hl (k := 3) rfl (rg_m1s _) (by decide) rfl (fun ls hl => ?_)
              refine lv_goto (tgt := 18) hx hb dX1_runAt_39 (by decide) ?_
              exact ih q (by omega) (r + 1) _ _ _ hH (lv_sub hl [2, 3, 1, 0] rfl) (by rw [rg_rn_t c_30] at hr9; omega)
      rw [← nI_pred j] at hl
      exact cut_18 (j + 2) (j + 1) (by omega) 0 _ _ _ hH (lv_sub hl [3, 2, 1, 0] rfl) (by omega)
    · refine lv_iconst (v := 0) hx hb dX1_runAt_11 (by decide) ?_
      exact rg_retRi C0 hH hr hlocks rfl (by unfold rg_ru; rw [if_pos hq, if_pos c_8]) dX1_runAt_12
  · refine rg_topi (y := -1) (by rw [if_neg hq]) ?_
    refine lv_istore_n (lv' := [(2, .int ((-1))), (0, .ref (B + 6)), (1, .int (x))]) hx hb dX1_runAt_5 rfl hl (by decide) rfl (fun ls hl => ?_)
    refine lv_iload_n hx hb dX1_runAt_6 rfl (lv_at hl 0 rfl) ?_
    refine lv_iconst (v := (-1)) hx hb dX1_runAt_7 (by decide) ?_
    refine lv_icmp_ne (tgt := 13) hx hb dX1_runAt_8 (by decide) (fun c_8 => ?_) (fun c_8 => ?_)
    · exact absurd c_8 (by decide)
    · refine lv_iconst (v := 0) hx hb dX1_runAt_11 (by decide) ?_
      exact rg_retRi C0 hH hr hlocks rfl (by unfold rg_ru; rw [if_neg hq]) dX1_runAt_12

set_option maxHeartbeats 4000000 in
set_option maxRecDepth 100000 in
/-- Poem.restart -/
theorem k_X1_restart (l : Launch) (E : rg_Env) (B : Nat) (M : rg_Mem) (a : Int32) (b : Int32) (d : Int32) (f : Int32) : Met l yX1_restart (rg_w yX1_restart cX1_restart 6 none) ({ frames := 0, cells := 0, slots := 0, locals := 0 } : Room) (va_Pc [.ref (B + 6), .int (a), .int (b), .int (d), .int (f)] (rg_Pre E B 422 rg_R0 M)) (rg_Rv E B 422 rg_R0 (rg_z7 (rg_I (rg_I (rg_I (rg_I (rg_I M 6 0 a) 6 1 b) 6 2 d) 6 3 f) 6 4 0) 36) (True)) 0 0 (rg_A B) := by
  refine rg_ofW (by decide +kernel) rfl (Nat.le_of_ble_eq_true rfl) ?_
  intro p e s m args below meth c ls C0 hH hl hr hlocks hnm
  replace hl : lv_has ls 6 [(0, .ref (B + 6)), (1, .int (a)), (2, .int (b)), (3, .int (d)), (4, .int (f))] := hl
  have hx := C0.1.1
  have hb := C0.1.2.1
  generalize hH9 : s.heap = H at hH ⊢
  generalize hL9 : ([] : List Loc) = locs at hH ⊢
  clear hH9 hL9
  refine lv_aload_n hx hb dX1_restart_0 rfl (lv_at hl 0 rfl) ?_
  refine lv_iload_n hx hb dX1_restart_1 rfl (lv_at hl 1 rfl) ?_
  refine rg_pI C0 hH (v := a) tyX1 tyX1_ok nmX1 (ci := 1) (k := 0) (o := 6) rfl inT_X1 (by decide) tw_f_X1_37 (by decide) rfl (by decide) rfl rfl rfl rfl dX1_restart_2 (fun H locs hH => ?_)
  refine lv_aload_n hx hb dX1_restart_5 rfl (lv_at hl 0 rfl) ?_
  refine lv_iload_n hx hb dX1_restart_6 rfl (lv_at hl 2 rfl) ?_
  refine rg_pI C0 hH (v := b) tyX1 tyX1_ok nmX1 (ci := 1) (k := 1) (o := 6) rfl inT_X1 (by decide) tw_f_X1_44 (by decide) rfl (by decide) rfl rfl rfl rfl dX1_restart_7 (fun H locs hH => ?_)
  refine lv_aload_n hx hb dX1_restart_10 rfl (lv_at hl 0 rfl) ?_
  refine lv_iload_n hx hb dX1_restart_11 rfl (lv_at hl 3 rfl) ?_
  refine rg_pI C0 hH (v := d) tyX1 tyX1_ok nmX1 (ci := 1) (k := 2) (o := 6) rfl inT_X1 (by decide) tw_f_X1_47 (by decide) rfl (by decide) rfl rfl rfl rfl dX1_restart_12 (fun H locs hH => ?_)
  refine lv_aload_n hx hb dX1_restart_15 rfl (lv_at hl 0 rfl) ?_
  refine lv_iload hx hb dX1_restart_16 (lv_at hl 4 rfl) ?_
  refine rg_pI C0 hH (v := f) tyX1 tyX1_ok nmX1 (ci := 1) (k := 3) (o := 6) rfl inT_X1 (by decide) tw_f_X1_50 (by decide) rfl (by decide) rfl rfl rfl rfl dX1_restart_18 (fun H locs hH => ?_)
  refine lv_aload_n hx hb dX1_restart_21 rfl (lv_at hl 0 rfl) ?_
  refine lv_iconst (v := 0) hx hb dX1_restart_22 (by decide) ?_
  refine rg_pI C0 hH (v := 0) tyX1 tyX1_ok nmX1 (ci := 1) (k := 4) (o := 6) rfl inT_X1 (by decide) tw_f_X1_41 (by decide) rfl (by decide) rfl rfl rfl rfl dX1_restart_23 (fun H locs hH => ?_)
  refine lv_iconst (v := 0) hx hb dX1_restart_26 (by decide) ?_
  refine lv_istore (lv' := [(5, .int (0)), (0, .ref (B + 6)), (1, .int (a)), (2, .int (b)), (3, .int (d)), (4, .int (f))]) hx hb dX1_restart_27 hl (by decide) rfl (fun ls hl => ?_)
  have cut_29 : ∀ (fu i : Nat), i ≤ 36 ∧ 36 < i + fu → ∀  (H : Heap) (locs : List Loc) (ls : Array Slot), rg_H E B 422 rg_R0 (rg_z7 (rg_I (rg_I (rg_I (rg_I (rg_I M 6 0 a) 6 1 b) 6 2 d) 6 3 f) 6 4 0) i) s H locs → lv_has ls 6 [(0, .ref (B + 6)), (5, .int (nI i))] → W p l e ({ frames := 0, cells := 0, slots := 0, locals := 0 } : Room) s m args below meth c H locs 0 0 (MQ below (rg_Rv E B 422 rg_R0 (rg_z7 (rg_I (rg_I (rg_I (rg_I (rg_I M 6 0 a) 6 1 b) 6 2 d) 6 3 f) 6 4 0) 36) (True)) args s 0 0 (rg_A B)) (F0 m 29 ls []) := by
    intro fu
    induction fu with
    | zero =>
      intro i hm
      exact absurd hm (by omega)
    | succ fu ih =>
      intro i hm  H locs ls hH hl 
      refine lv_iload hx hb dX1_restart_29 (lv_at hl 1 rfl) ?_
      refine lv_bipush (v := 36) hx hb dX1_restart_31 (by decide) ?_
      refine lv_icmp_ge (tgt := 50) hx hb dX1_restart_33 (by decide) (fun c_33 => ?_) (fun c_33 => ?_)
      · exact rg_retRv C0 hH hr hlocks (by rw [rg_lp_end (n := 36) hm.1 (by omega) c_33]) (by trivial) dX1_restart_50
      · have hlt : i < 36 := rg_lp_lt (n := 36) hm.1 (by omega) c_33
        refine lv_aload_n hx hb dX1_restart_36 rfl (lv_at hl 0 rfl) ?_
        refine rg_gR C0 hH (o2 := 7) (ci := 1) (k := 5) (o := 6) rfl rfl inT_X1 (by decide) tw_f_X1_9 (by decide) rfl (by decide) rfl dX1_restart_37 ?_
        refine lv_iload hx hb dX1_restart_40 (lv_at hl 1 rfl) ?_
        refine lv_iconst (v := 0) hx hb dX1_restart_42 (by decide) ?_
        refine rg_iastN C0 hH (o := 7) (j := i) (n0 := 36) (by decide) rfl rfl (by omega) dX1_restart_43 (fun H locs hH => ?_)
        refine lv_iinc (v := nI (i + 1)) (lv' := [(5, .int (nI (i + 1))), (0, .ref (B + 6))]) hx hb dX1_restart_44 hl (k := 1) rfl (nI_1 _) (by decide) rfl (fun ls hl => ?_)
        refine lv_goto (tgt := 29) hx hb dX1_restart_47 (by decide) ?_
        exact ih (i + 1) (by omega) _ _ _ (rg_H_eq (by exact rg_z7_s) hH) (lv_sub hl [1, 0] rfl)
  exact cut_29 37 0 (by omega) _ _ _ (rg_H_eq (by exact rg_z7_0) hH) (lv_sub hl [1, 0] rfl)
