set_option maxHeartbeats 4000000 in
set_option maxRecDepth 100000 in
/-- Verse.wordOrNone -/
theorem k_X5_wordOrNone (l : Launch) (E : rg_Env) (B : Nat) (M : rg_Mem) (v : Nat) (x : Int32) (hv : rg_isV v) : Met l yX5_wordOrNone (rg_w yX5_wordOrNone cX5_wordOrNone 2 (some (FieldType.int))) ({ frames := 0, cells := 0, slots := 0, locals := 0 } : Room) (va_Pc [.ref (B + v), .int (x)] (rg_Pre E B 422 rg_R0 M)) (rg_Ri E B 422 rg_R0 (M) (fun r => r = rg_wn M v x)) 0 0 (rg_A B) := by
  refine rg_ofW (by decide +kernel) rfl (Nat.le_of_ble_eq_true rfl) ?_
  intro p e s m args below meth c ls C0 hH hl hr hlocks hnm
  replace hl : lv_has ls 2 [(0, .ref (B + v)), (1, .int (x))] := hl
  have hx := C0.1.1
  have hb := C0.1.2.1
  generalize hH9 : s.heap = H at hH ⊢
  generalize hL9 : ([] : List Loc) = locs at hH ⊢
  clear hH9 hL9
  refine lv_iload_n hx hb dX5_wordOrNone_0 rfl (lv_at hl 1 rfl) ?_
  refine lv_if_lt (tgt := 27) hx hb dX5_wordOrNone_1 (by decide) (fun c_1 => ?_) (fun c_1 => ?_)
  · refine lv_iconst (v := (-1)) hx hb dX5_wordOrNone_27 (by decide) ?_
    exact rg_retRi C0 hH hr hlocks rfl (by simp_all [rg_wn]) dX5_wordOrNone_28
  · refine lv_iload_n hx hb dX5_wordOrNone_4 rfl (lv_at hl 1 rfl) ?_
    refine lv_aload_n hx hb dX5_wordOrNone_5 rfl (lv_at hl 0 rfl) ?_
    refine rg_gI C0 hH (ci := 5) (k := 1) (o := v) rfl inT_X5 (by decide) tw_f_X5_19 (rg_isV_lt hv) hv.2 (by decide) rfl dX5_wordOrNone_6 ?_
    refine lv_icmp_ge (tgt := 27) hx hb dX5_wordOrNone_9 (by decide) (fun c_9 => ?_) (fun c_9 => ?_)
    · refine lv_iconst (v := (-1)) hx hb dX5_wordOrNone_27 (by decide) ?_
      exact rg_retRi C0 hH hr hlocks rfl (by simp_all [rg_wn]) dX5_wordOrNone_28
    · refine lv_iload_n hx hb dX5_wordOrNone_12 rfl (lv_at hl 1 rfl) ?_
      refine lv_bipush (v := 6) hx hb dX5_wordOrNone_13 (by decide) ?_
      refine lv_icmp_ge (tgt := 27) hx hb dX5_wordOrNone_15 (by decide) (fun c_15 => ?_) (fun c_15 => ?_)
      · refine lv_iconst (v := (-1)) hx hb dX5_wordOrNone_27 (by decide) ?_
        exact rg_retRi C0 hH hr hlocks rfl (by simp_all [rg_wn]) dX5_wordOrNone_28
      · refine lv_aload_n hx hb dX5_wordOrNone_18 rfl (lv_at hl 0 rfl) ?_
        refine rg_gR C0 hH (o2 := (v + 1)) (ci := 5) (k := 0) (o := v) (rg_isV_w hv).2.2.2 rfl inT_X5 (by decide) tw_f_X5_9 (rg_isV_lt hv) hv.2 (by decide) rfl dX5_wordOrNone_19 ?_
        refine lv_iload_n hx hb dX5_wordOrNone_22 rfl (lv_at hl 1 rfl) ?_
        refine rg_iald C0 hH (o := (v + 1)) (rg_isV_w hv).1 (rg_isV_w hv).2.1 (rg_vin (rg_isV_w hv).2.2.1 (by exact rg_lit_in (m := 6) rfl c_1 c_15)) dX5_wordOrNone_23 ?_
        refine lv_goto (tgt := 28) hx hb dX5_wordOrNone_24 (by decide) ?_
        exact rg_retRi C0 hH hr hlocks rfl (by simp_all [rg_wn]) dX5_wordOrNone_28

set_option maxHeartbeats 4000000 in
set_option maxRecDepth 100000 in
/-- Verse.empty -/
theorem k_X5_empty (l : Launch) (E : rg_Env) (B : Nat) (M : rg_Mem) (v : Nat) (hv : rg_isV v) : Met l yX5_empty (rg_w yX5_empty cX5_empty 1 none) ({ frames := 0, cells := 0, slots := 0, locals := 0 } : Room) (va_Pc [.ref (B + v)] (rg_Pre E B 422 rg_R0 M)) (rg_Rv E B 422 rg_R0 (rg_J (rg_I (rg_I (rg_I (rg_I M v 1 0) v 2 0) v 3 (-1)) v 4 0) v 5 0) (True)) 0 0 (rg_A B) := by
  refine rg_ofW (by decide +kernel) rfl (Nat.le_of_ble_eq_true rfl) ?_
  intro p e s m args below meth c ls C0 hH hl hr hlocks hnm
  replace hl : lv_has ls 1 [(0, .ref (B + v))] := hl
  have hx := C0.1.1
  have hb := C0.1.2.1
  generalize hH9 : s.heap = H at hH ⊢
  generalize hL9 : ([] : List Loc) = locs at hH ⊢
  clear hH9 hL9
  refine lv_aload_n hx hb dX5_empty_0 rfl (lv_at hl 0 rfl) ?_
  refine lv_iconst (v := 0) hx hb dX5_empty_1 (by decide) ?_
  refine rg_pI C0 hH (v := 0) tyX5 tyX5_ok nmX5 (ci := 5) (k := 1) (o := v) rfl inT_X5 (by decide) tw_f_X5_19 (rg_isV_lt hv) hv.2 (by decide) rfl rfl rfl rfl dX5_empty_2 (fun H locs hH => ?_)
  refine lv_aload_n hx hb dX5_empty_5 rfl (lv_at hl 0 rfl) ?_
  refine lv_iconst (v := 0) hx hb dX5_empty_6 (by decide) ?_
  refine rg_pI C0 hH (v := 0) tyX5 tyX5_ok nmX5 (ci := 5) (k := 2) (o := v) rfl inT_X5 (by decide) tw_f_X5_22 (rg_isV_lt hv) hv.2 (by decide) rfl rfl rfl rfl dX5_empty_7 (fun H locs hH => ?_)
  refine lv_aload_n hx hb dX5_empty_10 rfl (lv_at hl 0 rfl) ?_
  refine lv_iconst (v := (-1)) hx hb dX5_empty_11 (by decide) ?_
  refine rg_pI C0 hH (v := (-1)) tyX5 tyX5_ok nmX5 (ci := 5) (k := 3) (o := v) rfl inT_X5 (by decide) tw_f_X5_15 (rg_isV_lt hv) hv.2 (by decide) rfl rfl rfl rfl dX5_empty_12 (fun H locs hH => ?_)
  refine lv_aload_n hx hb dX5_empty_15 rfl (lv_at hl 0 rfl) ?_
  refine lv_iconst (v := 0) hx hb dX5_empty_16 (by decide) ?_
  refine rg_pI C0 hH (v := 0) tyX5 tyX5_ok nmX5 (ci := 5) (k := 4) (o := v) rfl inT_X5 (by decide) tw_f_X5_25 (rg_isV_lt hv) hv.2 (by decide) rfl rfl rfl rfl dX5_empty_17 (fun H locs hH => ?_)
  refine lv_aload_n hx hb dX5_empty_20 rfl (lv_at hl 0 rfl) ?_
  refine lv_lconst (v := 0) hx hb dX5_empty_21 (by decide) ?_
  refine rg_pJ C0 hH (v := 0) tyX5 tyX5_ok nmX5 (ci := 5) (k := 5) (o := v) rfl inT_X5 (by decide) tw_f_X5_28 (rg_isV_lt hv) hv.2 (by decide) rfl rfl rfl rfl dX5_empty_22 (fun H locs hH => ?_)
  exact rg_retRv C0 hH hr hlocks (by simp_all) (by trivial) dX5_empty_25

set_option maxHeartbeats 4000000 in
set_option maxRecDepth 100000 in
theorem k_X1_isBegun (l : Launch) (E : rg_Env) (B : Nat) (M : rg_Mem) : Met l yX1_isBegun (rg_w yX1_isBegun cX1_isBegun 1 (some (FieldType.boolean))) ({ frames := 0, cells := 0, slots := 0, locals := 0 } : Room) (va_Pc [.ref (B + 6)] (rg_Pre E B 422 rg_R0 M)) (rg_Ri E B 422 rg_R0 (M) (fun r => r = rg_b (¬ M.1 6 0 ≤ 0))) 0 0 (rg_A B) := by
  refine rg_ofW (by decide +kernel) rfl (Nat.le_of_ble_eq_true rfl) ?_
  intro p e s m args below meth c ls C0 hH hl hr hlocks hnm
  replace hl : lv_has ls 1 [(0, .ref (B + 6))] := hl
  have hx := C0.1.1
  have hb := C0.1.2.1
  generalize hH9 : s.heap = H at hH ⊢
  generalize hL9 : ([] : List Loc) = locs at hH ⊢
  clear hH9 hL9
  refine lv_aload_n hx hb dX1_isBegun_0 rfl (lv_at hl 0 rfl) ?_
  refine rg_gI C0 hH (ci := 1) (k := 0) (o := 6) rfl inT_X1 (by decide) tw_f_X1_37 (by decide) rfl (by decide) rfl dX1_isBegun_1 ?_
  refine lv_if_le (tgt := 11) hx hb dX1_isBegun_4 (by decide) (fun c_4 => ?_) (fun c_4 => ?_)
  · refine lv_iconst (v := 0) hx hb dX1_isBegun_11 (by decide) ?_
    exact rg_retRz C0 hH hr hlocks (Or.inl rfl) rfl (by simp_all [rg_b]) dX1_isBegun_12
  · refine lv_iconst (v := 1) hx hb dX1_isBegun_7 (by decide) ?_
    refine lv_goto (tgt := 12) hx hb dX1_isBegun_8 (by decide) ?_
    exact rg_retRz C0 hH hr hlocks (Or.inr rfl) rfl (by simp_all [rg_b]) dX1_isBegun_12

set_option maxHeartbeats 4000000 in
set_option maxRecDepth 100000 in
theorem k_X1_isOpen (l : Launch) (E : rg_Env) (B : Nat) (M : rg_Mem) : Met l yX1_isOpen (rg_w yX1_isOpen cX1_isOpen 1 (some (FieldType.boolean))) ({ frames := 0, cells := 0, slots := 0, locals := 0 } : Room) (va_Pc [.ref (B + 6)] (rg_Pre E B 422 rg_R0 M)) (rg_Ri E B 422 rg_R0 (M) (fun r => r = rg_b (¬ M.1 6 0 ≤ M.1 6 4))) 0 0 (rg_A B) := by
  refine rg_ofW (by decide +kernel) rfl (Nat.le_of_ble_eq_true rfl) ?_
  intro p e s m args below meth c ls C0 hH hl hr hlocks hnm
  replace hl : lv_has ls 1 [(0, .ref (B + 6))] := hl
  have hx := C0.1.1
  have hb := C0.1.2.1
  generalize hH9 : s.heap = H at hH ⊢
  generalize hL9 : ([] : List Loc) = locs at hH ⊢
  clear hH9 hL9
  refine lv_aload_n hx hb dX1_isOpen_0 rfl (lv_at hl 0 rfl) ?_
  refine rg_gI C0 hH (ci := 1) (k := 4) (o := 6) rfl inT_X1 (by decide) tw_f_X1_41 (by decide) rfl (by decide) rfl dX1_isOpen_1 ?_
  refine lv_aload_n hx hb dX1_isOpen_4 rfl (lv_at hl 0 rfl) ?_
  refine rg_gI C0 hH (ci := 1) (k := 0) (o := 6) rfl inT_X1 (by decide) tw_f_X1_37 (by decide) rfl (by decide) rfl dX1_isOpen_5 ?_
  refine lv_icmp_ge (tgt := 15) hx hb dX1_isOpen_8 (by decide) (fun c_8 => ?_) (fun c_8 => ?_)
  · refine lv_iconst (v := 0) hx hb dX1_isOpen_15 (by decide) ?_
    exact rg_retRz C0 hH hr hlocks (Or.inl rfl) rfl (by simp_all [rg_b]) dX1_isOpen_16
  · refine lv_iconst (v := 1) hx hb dX1_isOpen_11 (by decide) ?_
    refine lv_goto (tgt := 16) hx hb dX1_isOpen_12 (by decide) ?_
    exact rg_retRz C0 hH hr hlocks (Or.inr rfl) rfl (by simp_all [rg_b]) dX1_isOpen_16

set_option maxHeartbeats 4000000 in
set_option maxRecDepth 100000 in
theorem k_X1_has (l : Launch) (E : rg_Env) (B : Nat) (M : rg_Mem) (x : Int32) : Met l yX1_has (rg_w yX1_has cX1_has 2 (some (FieldType.boolean))) ({ frames := 0, cells := 0, slots := 0, locals := 0 } : Room) (va_Pc [.ref (B + 6), .int (x)] (rg_Pre E B 422 rg_R0 M)) (rg_Ri E B 422 rg_R0 (M) (fun r => r = rg_b (rg_hl M x))) 0 0 (rg_A B) := by
  refine rg_ofW (by decide +kernel) rfl (Nat.le_of_ble_eq_true rfl) ?_
  intro p e s m args below meth c ls C0 hH hl hr hlocks hnm
  replace hl : lv_has ls 2 [(0, .ref (B + 6)), (1, .int (x))] := hl
  have hx := C0.1.1
  have hb := C0.1.2.1
  generalize hH9 : s.heap = H at hH ⊢
  generalize hL9 : ([] : List Loc) = locs at hH ⊢
  clear hH9 hL9
  refine lv_iload_n hx hb dX1_has_0 rfl (lv_at hl 1 rfl) ?_
  refine lv_if_lt (tgt := 16) hx hb dX1_has_1 (by decide) (fun c_1 => ?_) (fun c_1 => ?_)
  · refine lv_iconst (v := 0) hx hb dX1_has_16 (by decide) ?_
    exact rg_retRz C0 hH hr hlocks (Or.inl rfl) rfl (by simp_all [rg_b, rg_hl]) dX1_has_17
  · refine lv_iload_n hx hb dX1_has_4 rfl (lv_at hl 1 rfl) ?_
    refine lv_aload_n hx hb dX1_has_5 rfl (lv_at hl 0 rfl) ?_
    refine rg_gI C0 hH (ci := 1) (k := 4) (o := 6) rfl inT_X1 (by decide) tw_f_X1_41 (by decide) rfl (by decide) rfl dX1_has_6 ?_
    refine lv_icmp_ge (tgt := 16) hx hb dX1_has_9 (by decide) (fun c_9 => ?_) (fun c_9 => ?_)
    · refine lv_iconst (v := 0) hx hb dX1_has_16 (by decide) ?_
      exact rg_retRz C0 hH hr hlocks (Or.inl rfl) rfl (by simp_all [rg_b, rg_hl]) dX1_has_17
    · refine lv_iconst (v := 1) hx hb dX1_has_12 (by decide) ?_
      refine lv_goto (tgt := 17) hx hb dX1_has_13 (by decide) ?_
      exact rg_retRz C0 hH hr hlocks (Or.inr rfl) rfl (by simp_all [rg_b, rg_hl]) dX1_has_17

set_option maxHeartbeats 4000000 in
set_option maxRecDepth 100000 in
theorem k_X1_seatAt (l : Launch) (E : rg_Env) (B : Nat) (M : rg_Mem) (x : Int32) : Met l yX1_seatAt (rg_w yX1_seatAt cX1_seatAt 2 (some (FieldType.int))) ({ frames := 0, cells := 0, slots := 0, locals := 0 } : Room) (va_Pc [.ref (B + 6), .int (x)] (rg_Pre E B 422 rg_R0 M)) (rg_Ri E B 422 rg_R0 (M) (fun r => r = if ¬ x < 0 ∧ ¬ 36 ≤ x then M.1 7 x.toNatClampNeg else 0)) 0 0 (rg_A B) := by
  refine rg_ofW (by decide +kernel) rfl (Nat.le_of_ble_eq_true rfl) ?_
  intro p e s m args below meth c ls C0 hH hl hr hlocks hnm
  replace hl : lv_has ls 2 [(0, .ref (B + 6)), (1, .int (x))] := hl
  have hx := C0.1.1
  have hb := C0.1.2.1
  generalize hH9 : s.heap = H at hH ⊢
  generalize hL9 : ([] : List Loc) = locs at hH ⊢
  clear hH9 hL9
  refine lv_iload_n hx hb dX1_seatAt_0 rfl (lv_at hl 1 rfl) ?_
  refine lv_if_lt (tgt := 19) hx hb dX1_seatAt_1 (by decide) (fun c_1 => ?_) (fun c_1 => ?_)
  · refine lv_iconst (v := 0) hx hb dX1_seatAt_19 (by decide) ?_
    exact rg_retRi C0 hH hr hlocks rfl (by simp_all) dX1_seatAt_20
  · refine lv_iload_n hx hb dX1_seatAt_4 rfl (lv_at hl 1 rfl) ?_
    refine lv_bipush (v := 36) hx hb dX1_seatAt_5 (by decide) ?_
    refine lv_icmp_ge (tgt := 19) hx hb dX1_seatAt_7 (by decide) (fun c_7 => ?_) (fun c_7 => ?_)
    · refine lv_iconst (v := 0) hx hb dX1_seatAt_19 (by decide) ?_
      exact rg_retRi C0 hH hr hlocks rfl (by simp_all) dX1_seatAt_20
    · refine lv_aload_n hx hb dX1_seatAt_10 rfl (lv_at hl 0 rfl) ?_
      refine rg_gR C0 hH (o2 := 7) (ci := 1) (k := 5) (o := 6) rfl rfl inT_X1 (by decide) tw_f_X1_9 (by decide) rfl (by decide) rfl dX1_seatAt_11 ?_
      refine lv_iload_n hx hb dX1_seatAt_14 rfl (lv_at hl 1 rfl) ?_
      refine rg_iald C0 hH (o := 7) (by decide) rfl (rg_vin rfl (by exact rg_lit_in (m := 36) rfl c_1 c_7)) dX1_seatAt_15 ?_
      refine lv_goto (tgt := 20) hx hb dX1_seatAt_16 (by decide) ?_
      exact rg_retRi C0 hH hr hlocks rfl (by simp_all) dX1_seatAt_20

set_option maxHeartbeats 4000000 in
set_option maxRecDepth 100000 in
theorem k_X1_soundsAt (l : Launch) (E : rg_Env) (B : Nat) (M : rg_Mem) (x : Int32) : Met l yX1_soundsAt (rg_w yX1_soundsAt cX1_soundsAt 2 (some (FieldType.int))) ({ frames := 0, cells := 0, slots := 0, locals := 0 } : Room) (va_Pc [.ref (B + 6), .int (x)] (rg_Pre E B 422 rg_R0 M)) (rg_Ri E B 422 rg_R0 (M) (fun r => r = if x &&& 1 = 0 then M.1 6 2 else M.1 6 3)) 0 0 (rg_A B) := by
  refine rg_ofW (by decide +kernel) rfl (Nat.le_of_ble_eq_true rfl) ?_
  intro p e s m args below meth c ls C0 hH hl hr hlocks hnm
  replace hl : lv_has ls 2 [(0, .ref (B + 6)), (1, .int (x))] := hl
  have hx := C0.1.1
  have hb := C0.1.2.1
  generalize hH9 : s.heap = H at hH ⊢
  generalize hL9 : ([] : List Loc) = locs at hH ⊢
  clear hH9 hL9
  refine lv_iload_n hx hb dX1_soundsAt_0 rfl (lv_at hl 1 rfl) ?_
  refine lv_iconst (v := 1) hx hb dX1_soundsAt_1 (by decide) ?_
  refine lv_iand hx hb dX1_soundsAt_2 ?_
  refine lv_if_ne (tgt := 13) hx hb dX1_soundsAt_3 (by decide) (fun c_3 => ?_) (fun c_3 => ?_)
  · refine lv_aload_n hx hb dX1_soundsAt_13 rfl (lv_at hl 0 rfl) ?_
    refine rg_gI C0 hH (ci := 1) (k := 3) (o := 6) rfl inT_X1 (by decide) tw_f_X1_50 (by decide) rfl (by decide) rfl dX1_soundsAt_14 ?_
    exact rg_retRi C0 hH hr hlocks rfl (by simp_all) dX1_soundsAt_17
  · refine lv_aload_n hx hb dX1_soundsAt_6 rfl (lv_at hl 0 rfl) ?_
    refine rg_gI C0 hH (ci := 1) (k := 2) (o := 6) rfl inT_X1 (by decide) tw_f_X1_47 (by decide) rfl (by decide) rfl dX1_soundsAt_7 ?_
    refine lv_goto (tgt := 17) hx hb dX1_soundsAt_10 (by decide) ?_
    exact rg_retRi C0 hH hr hlocks rfl (by simp_all) dX1_soundsAt_17

set_option maxHeartbeats 4000000 in
set_option maxRecDepth 100000 in
theorem k_X1_makerAt (l : Launch) (E : rg_Env) (B : Nat) (M : rg_Mem) (x : Int32) (hm : rg_mn M) : Met l yX1_makerAt (rg_w yX1_makerAt cX1_makerAt 2 (some (FieldType.int))) ({ frames := 1, cells := 0, slots := 0, locals := 21 } : Room) (va_Pc [.ref (B + 6), .int (x)] (rg_Pre E B 422 rg_R0 M)) (rg_Ri E B 422 rg_R0 (M) (fun r => r = if rg_hl M x then M.1 9 x.toNatClampNeg else -1)) 0 0 (rg_A B) := by
  refine rg_ofW (by decide +kernel) rfl (Nat.le_of_ble_eq_true rfl) ?_
  intro p e s m args below meth c ls C0 hH hl hr hlocks hnm
  replace hl : lv_has ls 2 [(0, .ref (B + 6)), (1, .int (x))] := hl
  have hx := C0.1.1
  have hb := C0.1.2.1
  generalize hH9 : s.heap = H at hH ⊢
  generalize hL9 : ([] : List Loc) = locs at hH ⊢
  clear hH9 hL9
  refine lv_aload_n hx hb dX1_makerAt_0 rfl (lv_at hl 0 rfl) ?_
  refine lv_iload_n hx hb dX1_makerAt_1 rfl (lv_at hl 1 rfl) ?_
  refine rg_callGi C0 hH (As := [.int (x)]) (rest := []) (o := 6) (ci := 1) (k_X1_has l E B M x) (rg_cw 1 C0.1.2.2.2.2 tw_m_X1_57 tw_i_X1_has tw_v_X1_has tw_n_X1 tw_c_X1_has rfl rfl hd_X1_has ⟨Nat.le_of_ble_eq_true rfl, Nat.le_of_ble_eq_true rfl⟩) rfl (by decide) rfl (by decide) rfl hl.1 rfl (Nat.le_of_ble_eq_true rfl) dX1_makerAt_2 ⟨Nat.le_of_ble_eq_true rfl, Nat.le_of_ble_eq_true rfl⟩ (fun H locs hH => ?_)
  refine lv_if_eq (tgt := 17) hx hb dX1_makerAt_5 (by decide) (fun c_5 => ?_) (fun c_5 => ?_)
  · refine lv_iconst (v := (-1)) hx hb dX1_makerAt_17 (by decide) ?_
    exact rg_retRi C0 hH hr hlocks rfl (by first | rw [if_pos (rg_b_ne.mp c_5)] | rw [if_neg (rg_b_eq.mp c_5)]) dX1_makerAt_18
  · refine lv_aload_n hx hb dX1_makerAt_8 rfl (lv_at hl 0 rfl) ?_
    refine rg_gR C0 hH (o2 := 9) (ci := 1) (k := 7) (o := 6) rfl rfl inT_X1 (by decide) tw_f_X1_21 (by decide) rfl (by decide) rfl dX1_makerAt_9 ?_
    refine lv_iload_n hx hb dX1_makerAt_12 rfl (lv_at hl 1 rfl) ?_
    refine rg_iald C0 hH (o := 9) (by decide) rfl (rg_vin rfl (by exact rg_hl_in hm (rg_b_ne.mp c_5))) dX1_makerAt_13 ?_
    refine lv_goto (tgt := 18) hx hb dX1_makerAt_14 (by decide) ?_
    exact rg_retRi C0 hH hr hlocks rfl (by first | rw [if_pos (rg_b_ne.mp c_5)] | rw [if_neg (rg_b_eq.mp c_5)]) dX1_makerAt_18

set_option maxHeartbeats 4000000 in
set_option maxRecDepth 100000 in
theorem k_X1_seasonAt (l : Launch) (E : rg_Env) (B : Nat) (M : rg_Mem) (x : Int32) (hm : rg_mn M) : Met l yX1_seasonAt (rg_w yX1_seasonAt cX1_seasonAt 2 (some (FieldType.int))) ({ frames := 1, cells := 0, slots := 0, locals := 21 } : Room) (va_Pc [.ref (B + 6), .int (x)] (rg_Pre E B 422 rg_R0 M)) (rg_Ri E B 422 rg_R0 (M) (fun r => r = if rg_hl M x then M.1 (17 + 2 * x.toNatClampNeg) 3 else -1)) 0 0 (rg_A B) := by
  refine rg_ofW (by decide +kernel) rfl (Nat.le_of_ble_eq_true rfl) ?_
  intro p e s m args below meth c ls C0 hH hl hr hlocks hnm
  replace hl : lv_has ls 2 [(0, .ref (B + 6)), (1, .int (x))] := hl
  have hx := C0.1.1
  have hb := C0.1.2.1
  generalize hH9 : s.heap = H at hH ⊢
  generalize hL9 : ([] : List Loc) = locs at hH ⊢
  clear hH9 hL9
  refine lv_aload_n hx hb dX1_seasonAt_0 rfl (lv_at hl 0 rfl) ?_
  refine lv_iload_n hx hb dX1_seasonAt_1 rfl (lv_at hl 1 rfl) ?_
  refine rg_callGi C0 hH (As := [.int (x)]) (rest := []) (o := 6) (ci := 1) (k_X1_has l E B M x) (rg_cw 1 C0.1.2.2.2.2 tw_m_X1_57 tw_i_X1_has tw_v_X1_has tw_n_X1 tw_c_X1_has rfl rfl hd_X1_has ⟨Nat.le_of_ble_eq_true rfl, Nat.le_of_ble_eq_true rfl⟩) rfl (by decide) rfl (by decide) rfl hl.1 rfl (Nat.le_of_ble_eq_true rfl) dX1_seasonAt_2 ⟨Nat.le_of_ble_eq_true rfl, Nat.le_of_ble_eq_true rfl⟩ (fun H locs hH => ?_)
  refine lv_if_eq (tgt := 20) hx hb dX1_seasonAt_5 (by decide) (fun c_5 => ?_) (fun c_5 => ?_)
  · refine lv_iconst (v := (-1)) hx hb dX1_seasonAt_20 (by decide) ?_
    exact rg_retRi C0 hH hr hlocks rfl (by first | rw [if_pos (rg_b_ne.mp c_5)] | rw [if_neg (rg_b_eq.mp c_5)]) dX1_seasonAt_21
  · refine lv_aload_n hx hb dX1_seasonAt_8 rfl (lv_at hl 0 rfl) ?_
    refine rg_gR C0 hH (o2 := 8) (ci := 1) (k := 6) (o := 6) rfl rfl inT_X1 (by decide) tw_f_X1_17 (by decide) rfl (by decide) rfl dX1_seasonAt_9 ?_
    refine lv_iload_n hx hb dX1_seasonAt_12 rfl (lv_at hl 1 rfl) ?_
    refine rg_aald C0 hH (o := 8) (o2 := (17 + 2 * x.toNatClampNeg)) (rg_R0_8 _ (rg_in_lt (rg_hl_in hm (rg_b_ne.mp c_5)))) (by decide) rfl (by decide) (rg_vin rfl (by exact rg_hl_in hm (rg_b_ne.mp c_5))) dX1_seasonAt_13 ?_
    refine rg_nI C0 hH (ci := 5) (k := 3) (o := (17 + 2 * x.toNatClampNeg)) rfl inT_X5 (by decide) (by decide) (rg_isV_lt (rg_isV_p (rg_in_lt (rg_hl_in hm (rg_b_ne.mp c_5))))) (rg_kdV_all _ (rg_in_lt (rg_hl_in hm (rg_b_ne.mp c_5)))) (by decide) rfl dX1_seasonAt_14 ?_
    refine lv_goto (tgt := 21) hx hb dX1_seasonAt_17 (by decide) ?_
    exact rg_retRi C0 hH hr hlocks rfl (by first | rw [if_pos (rg_b_ne.mp c_5)] | rw [if_neg (rg_b_eq.mp c_5)]) dX1_seasonAt_21

set_option maxHeartbeats 4000000 in
set_option maxRecDepth 100000 in
theorem k_X1_signsAt (l : Launch) (E : rg_Env) (B : Nat) (M : rg_Mem) (x : Int32) (hm : rg_mn M) : Met l yX1_signsAt (rg_w yX1_signsAt cX1_signsAt 2 (some (FieldType.int))) ({ frames := 1, cells := 0, slots := 0, locals := 21 } : Room) (va_Pc [.ref (B + 6), .int (x)] (rg_Pre E B 422 rg_R0 M)) (rg_Ri E B 422 rg_R0 (M) (fun r => r = if rg_hl M x then M.1 (17 + 2 * x.toNatClampNeg) 4 else 0)) 0 0 (rg_A B) := by
  refine rg_ofW (by decide +kernel) rfl (Nat.le_of_ble_eq_true rfl) ?_
  intro p e s m args below meth c ls C0 hH hl hr hlocks hnm
  replace hl : lv_has ls 2 [(0, .ref (B + 6)), (1, .int (x))] := hl
  have hx := C0.1.1
  have hb := C0.1.2.1
  generalize hH9 : s.heap = H at hH ⊢
  generalize hL9 : ([] : List Loc) = locs at hH ⊢
  clear hH9 hL9
  refine lv_aload_n hx hb dX1_signsAt_0 rfl (lv_at hl 0 rfl) ?_
  refine lv_iload_n hx hb dX1_signsAt_1 rfl (lv_at hl 1 rfl) ?_
  refine rg_callGi C0 hH (As := [.int (x)]) (rest := []) (o := 6) (ci := 1) (k_X1_has l E B M x) (rg_cw 1 C0.1.2.2.2.2 tw_m_X1_57 tw_i_X1_has tw_v_X1_has tw_n_X1 tw_c_X1_has rfl rfl hd_X1_has ⟨Nat.le_of_ble_eq_true rfl, Nat.le_of_ble_eq_true rfl⟩) rfl (by decide) rfl (by decide) rfl hl.1 rfl (Nat.le_of_ble_eq_true rfl) dX1_signsAt_2 ⟨Nat.le_of_ble_eq_true rfl, Nat.le_of_ble_eq_true rfl⟩ (fun H locs hH => ?_)
  refine lv_if_eq (tgt := 20) hx hb dX1_signsAt_5 (by decide) (fun c_5 => ?_) (fun c_5 => ?_)
  · refine lv_iconst (v := 0) hx hb dX1_signsAt_20 (by decide) ?_
    exact rg_retRi C0 hH hr hlocks rfl (by first | rw [if_pos (rg_b_ne.mp c_5)] | rw [if_neg (rg_b_eq.mp c_5)]) dX1_signsAt_21
  · refine lv_aload_n hx hb dX1_signsAt_8 rfl (lv_at hl 0 rfl) ?_
    refine rg_gR C0 hH (o2 := 8) (ci := 1) (k := 6) (o := 6) rfl rfl inT_X1 (by decide) tw_f_X1_17 (by decide) rfl (by decide) rfl dX1_signsAt_9 ?_
    refine lv_iload_n hx hb dX1_signsAt_12 rfl (lv_at hl 1 rfl) ?_
    refine rg_aald C0 hH (o := 8) (o2 := (17 + 2 * x.toNatClampNeg)) (rg_R0_8 _ (rg_in_lt (rg_hl_in hm (rg_b_ne.mp c_5)))) (by decide) rfl (by decide) (rg_vin rfl (by exact rg_hl_in hm (rg_b_ne.mp c_5))) dX1_signsAt_13 ?_
    refine rg_nI C0 hH (ci := 5) (k := 4) (o := (17 + 2 * x.toNatClampNeg)) rfl inT_X5 (by decide) (by decide) (rg_isV_lt (rg_isV_p (rg_in_lt (rg_hl_in hm (rg_b_ne.mp c_5))))) (rg_kdV_all _ (rg_in_lt (rg_hl_in hm (rg_b_ne.mp c_5)))) (by decide) rfl dX1_signsAt_14 ?_
    refine lv_goto (tgt := 21) hx hb dX1_signsAt_17 (by decide) ?_
    exact rg_retRi C0 hH hr hlocks rfl (by first | rw [if_pos (rg_b_ne.mp c_5)] | rw [if_neg (rg_b_eq.mp c_5)]) dX1_signsAt_21

set_option maxHeartbeats 4000000 in
set_option maxRecDepth 100000 in
theorem k_X1_wordSetAt (l : Launch) (E : rg_Env) (B : Nat) (M : rg_Mem) (x : Int32) (hm : rg_mn M) : Met l yX1_wordSetAt (rg_w yX1_wordSetAt cX1_wordSetAt 2 (some (FieldType.long))) ({ frames := 1, cells := 0, slots := 0, locals := 21 } : Room) (va_Pc [.ref (B + 6), .int (x)] (rg_Pre E B 422 rg_R0 M)) (rg_Rl E B 422 rg_R0 (M) (fun r => r = if rg_hl M x then M.2 (17 + 2 * x.toNatClampNeg) 5 else 0)) 0 0 (rg_A B) := by
  refine rg_ofW (by decide +kernel) rfl (Nat.le_of_ble_eq_true rfl) ?_
  intro p e s m args below meth c ls C0 hH hl hr hlocks hnm
  replace hl : lv_has ls 2 [(0, .ref (B + 6)), (1, .int (x))] := hl
  have hx := C0.1.1
  have hb := C0.1.2.1
  generalize hH9 : s.heap = H at hH ⊢
  generalize hL9 : ([] : List Loc) = locs at hH ⊢
  clear hH9 hL9
  refine lv_aload_n hx hb dX1_wordSetAt_0 rfl (lv_at hl 0 rfl) ?_
  refine lv_iload_n hx hb dX1_wordSetAt_1 rfl (lv_at hl 1 rfl) ?_
  refine rg_callGi C0 hH (As := [.int (x)]) (rest := []) (o := 6) (ci := 1) (k_X1_has l E B M x) (rg_cw 1 C0.1.2.2.2.2 tw_m_X1_57 tw_i_X1_has tw_v_X1_has tw_n_X1 tw_c_X1_has rfl rfl hd_X1_has ⟨Nat.le_of_ble_eq_true rfl, Nat.le_of_ble_eq_true rfl⟩) rfl (by decide) rfl (by decide) rfl hl.1 rfl (Nat.le_of_ble_eq_true rfl) dX1_wordSetAt_2 ⟨Nat.le_of_ble_eq_true rfl, Nat.le_of_ble_eq_true rfl⟩ (fun H locs hH => ?_)
  refine lv_if_eq (tgt := 20) hx hb dX1_wordSetAt_5 (by decide) (fun c_5 => ?_) (fun c_5 => ?_)
  · refine lv_lconst (v := 0) hx hb dX1_wordSetAt_20 (by decide) ?_
    exact rg_retRl C0 hH hr hlocks rfl (by first | rw [if_pos (rg_b_ne.mp c_5)] | rw [if_neg (rg_b_eq.mp c_5)]) dX1_wordSetAt_21
  · refine lv_aload_n hx hb dX1_wordSetAt_8 rfl (lv_at hl 0 rfl) ?_
    refine rg_gR C0 hH (o2 := 8) (ci := 1) (k := 6) (o := 6) rfl rfl inT_X1 (by decide) tw_f_X1_17 (by decide) rfl (by decide) rfl dX1_wordSetAt_9 ?_
    refine lv_iload_n hx hb dX1_wordSetAt_12 rfl (lv_at hl 1 rfl) ?_
    refine rg_aald C0 hH (o := 8) (o2 := (17 + 2 * x.toNatClampNeg)) (rg_R0_8 _ (rg_in_lt (rg_hl_in hm (rg_b_ne.mp c_5)))) (by decide) rfl (by decide) (rg_vin rfl (by exact rg_hl_in hm (rg_b_ne.mp c_5))) dX1_wordSetAt_13 ?_
    refine rg_nJ C0 hH (ci := 5) (k := 5) (o := (17 + 2 * x.toNatClampNeg)) rfl inT_X5 (by decide) (by decide) (rg_isV_lt (rg_isV_p (rg_in_lt (rg_hl_in hm (rg_b_ne.mp c_5))))) (rg_kdV_all _ (rg_in_lt (rg_hl_in hm (rg_b_ne.mp c_5)))) (by decide) rfl dX1_wordSetAt_14 ?_
    refine lv_goto (tgt := 21) hx hb dX1_wordSetAt_17 (by decide) ?_
    exact rg_retRl C0 hH hr hlocks rfl (by first | rw [if_pos (rg_b_ne.mp c_5)] | rw [if_neg (rg_b_eq.mp c_5)]) dX1_wordSetAt_21

set_option maxHeartbeats 4000000 in
set_option maxRecDepth 100000 in
theorem k_X1_wordOrNone (l : Launch) (E : rg_Env) (B : Nat) (M : rg_Mem) (x : Int32) (y : Int32) (hm : rg_mn M) : Met l yX1_wordOrNone (rg_w yX1_wordOrNone cX1_wordOrNone 3 (some (FieldType.int))) ({ frames := 1, cells := 0, slots := 0, locals := 21 } : Room) (va_Pc [.ref (B + 6), .int (x), .int (y)] (rg_Pre E B 422 rg_R0 M)) (rg_Ri E B 422 rg_R0 (M) (fun r => r = if rg_hl M x then rg_wn M (17 + 2 * x.toNatClampNeg) y else -1)) 0 0 (rg_A B) := by
  refine rg_ofW (by decide +kernel) rfl (Nat.le_of_ble_eq_true rfl) ?_
  intro p e s m args below meth c ls C0 hH hl hr hlocks hnm
  replace hl : lv_has ls 3 [(0, .ref (B + 6)), (1, .int (x)), (2, .int (y))] := hl
  have hx := C0.1.1
  have hb := C0.1.2.1
  generalize hH9 : s.heap = H at hH ⊢
  generalize hL9 : ([] : List Loc) = locs at hH ⊢
  clear hH9 hL9
  refine lv_aload_n hx hb dX1_wordOrNone_0 rfl (lv_at hl 0 rfl) ?_
  refine lv_iload_n hx hb dX1_wordOrNone_1 rfl (lv_at hl 1 rfl) ?_
  refine rg_callGi C0 hH (As := [.int (x)]) (rest := []) (o := 6) (ci := 1) (k_X1_has l E B M x) (rg_cw 1 C0.1.2.2.2.2 tw_m_X1_57 tw_i_X1_has tw_v_X1_has tw_n_X1 tw_c_X1_has rfl rfl hd_X1_has ⟨Nat.le_of_ble_eq_true rfl, Nat.le_of_ble_eq_true rfl⟩) rfl (by decide) rfl (by decide) rfl hl.1 rfl (Nat.le_of_ble_eq_true rfl) dX1_wordOrNone_2 ⟨Nat.le_of_ble_eq_true rfl, Nat.le_of_ble_eq_true rfl⟩ (fun H locs hH => ?_)
  refine lv_if_eq (tgt := 21) hx hb dX1_wordOrNone_5 (by decide) (fun c_5 => ?_) (fun c_5 => ?_)
  · refine lv_iconst (v := (-1)) hx hb dX1_wordOrNone_21 (by decide) ?_
    exact rg_retRi C0 hH hr hlocks rfl (by first | rw [if_pos (rg_b_ne.mp c_5)] | rw [if_neg (rg_b_eq.mp c_5)]) dX1_wordOrNone_22
  · refine lv_aload_n hx hb dX1_wordOrNone_8 rfl (lv_at hl 0 rfl) ?_
    refine rg_gR C0 hH (o2 := 8) (ci := 1) (k := 6) (o := 6) rfl rfl inT_X1 (by decide) tw_f_X1_17 (by decide) rfl (by decide) rfl dX1_wordOrNone_9 ?_
    refine lv_iload_n hx hb dX1_wordOrNone_12 rfl (lv_at hl 1 rfl) ?_
    refine rg_aald C0 hH (o := 8) (o2 := (17 + 2 * x.toNatClampNeg)) (rg_R0_8 _ (rg_in_lt (rg_hl_in hm (rg_b_ne.mp c_5)))) (by decide) rfl (by decide) (rg_vin rfl (by exact rg_hl_in hm (rg_b_ne.mp c_5))) dX1_wordOrNone_13 ?_
    refine lv_iload_n hx hb dX1_wordOrNone_14 rfl (lv_at hl 2 rfl) ?_
    refine rg_callGi C0 hH (As := [.int (y)]) (rest := []) (o := (17 + 2 * x.toNatClampNeg)) (ci := 5) (k_X5_wordOrNone l E B M (17 + 2 * x.toNatClampNeg) y (by exact rg_isV_p (rg_in_lt (rg_hl_in hm (rg_b_ne.mp c_5))))) (rg_cw 1 C0.1.2.2.2.2 tw_m_X1_71 tw_i_X5_wordOrNone tw_v_X5_wordOrNone tw_n_X5 tw_c_X5_wordOrNone rfl rfl hd_X5_wordOrNone ⟨Nat.le_of_ble_eq_true rfl, Nat.le_of_ble_eq_true rfl⟩) rfl (rg_isV_lt (rg_isV_p (rg_in_lt (rg_hl_in hm (rg_b_ne.mp c_5))))) (rg_kdV_all _ (rg_in_lt (rg_hl_in hm (rg_b_ne.mp c_5)))) (by decide) rfl hl.1 rfl (Nat.le_of_ble_eq_true rfl) dX1_wordOrNone_15 ⟨Nat.le_of_ble_eq_true rfl, Nat.le_of_ble_eq_true rfl⟩ (fun H locs hH => ?_)
    refine lv_goto (tgt := 22) hx hb dX1_wordOrNone_18 (by decide) ?_
    exact rg_retRi C0 hH hr hlocks rfl (by first | rw [if_pos (rg_b_ne.mp c_5)] | rw [if_neg (rg_b_eq.mp c_5)]) dX1_wordOrNone_22
