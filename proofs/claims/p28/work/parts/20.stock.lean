set_option maxHeartbeats 4000000 in
set_option maxRecDepth 100000 in
/-- Stock.has -/
theorem k_X4_has (l : Launch) (E : rg_Env) (B : Nat) (M : rg_Mem) (w : Int32) : Met l yX4_has (rg_w yX4_has cX4_has 2 (some (FieldType.boolean))) ({ frames := 0, cells := 0, slots := 0, locals := 0 } : Room) (va_Pc [.ref (B + 1), .int (w)] (rg_Pre E B 422 rg_R0 M)) (rg_Ri E B 422 rg_R0 (M) (fun r => r = rg_b (rg_has M w))) 0 0 (rg_A B) := by
  refine rg_ofW (by decide +kernel) rfl (Nat.le_of_ble_eq_true rfl) ?_
  intro p e s m args below meth c ls C0 hH hl hr hlocks hnm
  replace hl : lv_has ls 2 [(0, .ref (B + 1)), (1, .int (w))] := hl
  have hx := C0.1.1
  have hb := C0.1.2.1
  generalize hH9 : s.heap = H at hH ⊢
  generalize hL9 : ([] : List Loc) = locs at hH ⊢
  clear hH9 hL9
  refine lv_iload_n hx hb dX4_has_0 rfl (lv_at hl 1 rfl) ?_
  refine lv_if_lt (tgt := 16) hx hb dX4_has_1 (by decide) (fun c_1 => ?_) (fun c_1 => ?_)
  · refine lv_iconst (v := 0) hx hb dX4_has_16 (by decide) ?_
    exact rg_retRz C0 hH hr hlocks (Or.inl rfl) rfl (by simp_all [rg_b, rg_has]) dX4_has_17
  · refine lv_iload_n hx hb dX4_has_4 rfl (lv_at hl 1 rfl) ?_
    refine lv_aload_n hx hb dX4_has_5 rfl (lv_at hl 0 rfl) ?_
    refine rg_gI C0 hH (ci := 4) (k := 4) (o := 1) rfl inT_X4 (by decide) tw_f_X4_25 (by decide) rfl (by decide) rfl dX4_has_6 ?_
    refine lv_icmp_ge (tgt := 16) hx hb dX4_has_9 (by decide) (fun c_9 => ?_) (fun c_9 => ?_)
    · refine lv_iconst (v := 0) hx hb dX4_has_16 (by decide) ?_
      exact rg_retRz C0 hH hr hlocks (Or.inl rfl) rfl (by simp_all [rg_b, rg_has]) dX4_has_17
    · refine lv_iconst (v := 1) hx hb dX4_has_12 (by decide) ?_
      refine lv_goto (tgt := 17) hx hb dX4_has_13 (by decide) ?_
      exact rg_retRz C0 hH hr hlocks (Or.inr rfl) rfl (by simp_all [rg_b, rg_has]) dX4_has_17

set_option maxHeartbeats 4000000 in
set_option maxRecDepth 100000 in
/-- Stock.isFull -/
theorem k_X4_isFull (l : Launch) (E : rg_Env) (B : Nat) (M : rg_Mem) : Met l yX4_isFull (rg_w yX4_isFull cX4_isFull 1 (some (FieldType.boolean))) ({ frames := 0, cells := 0, slots := 0, locals := 0 } : Room) (va_Pc [.ref (B + 1)] (rg_Pre E B 422 rg_R0 M)) (rg_Ri E B 422 rg_R0 (M) (fun r => r = rg_b (40 ≤ M.1 1 4))) 0 0 (rg_A B) := by
  refine rg_ofW (by decide +kernel) rfl (Nat.le_of_ble_eq_true rfl) ?_
  intro p e s m args below meth c ls C0 hH hl hr hlocks hnm
  replace hl : lv_has ls 1 [(0, .ref (B + 1))] := hl
  have hx := C0.1.1
  have hb := C0.1.2.1
  generalize hH9 : s.heap = H at hH ⊢
  generalize hL9 : ([] : List Loc) = locs at hH ⊢
  clear hH9 hL9
  refine lv_aload_n hx hb dX4_isFull_0 rfl (lv_at hl 0 rfl) ?_
  refine rg_gI C0 hH (ci := 4) (k := 4) (o := 1) rfl inT_X4 (by decide) tw_f_X4_25 (by decide) rfl (by decide) rfl dX4_isFull_1 ?_
  refine lv_bipush (v := 40) hx hb dX4_isFull_4 (by decide) ?_
  refine lv_icmp_lt (tgt := 13) hx hb dX4_isFull_6 (by decide) (fun c_6 => ?_) (fun c_6 => ?_)
  · refine lv_iconst (v := 0) hx hb dX4_isFull_13 (by decide) ?_
    exact rg_retRz C0 hH hr hlocks (Or.inl rfl) rfl (by simp_all [rg_b]) dX4_isFull_14
  · refine lv_iconst (v := 1) hx hb dX4_isFull_9 (by decide) ?_
    refine lv_goto (tgt := 14) hx hb dX4_isFull_10 (by decide) ?_
    exact rg_retRz C0 hH hr hlocks (Or.inr rfl) rfl (by simp_all [rg_b]) dX4_isFull_14

set_option maxHeartbeats 4000000 in
set_option maxRecDepth 100000 in
/-- Stock.soundsOf -/
theorem k_X4_soundsOf (l : Launch) (E : rg_Env) (B : Nat) (M : rg_Mem) (w : Int32) (hn : rg_cn M) : Met l yX4_soundsOf (rg_w yX4_soundsOf cX4_soundsOf 2 (some (FieldType.int))) ({ frames := 1, cells := 0, slots := 0, locals := 21 } : Room) (va_Pc [.ref (B + 1), .int (w)] (rg_Pre E B 422 rg_R0 M)) (rg_Ri E B 422 rg_R0 (M) (fun r => r = if rg_has M w then M.1 2 w.toNatClampNeg else 0)) 0 0 (rg_A B) := by
  refine rg_ofW (by decide +kernel) rfl (Nat.le_of_ble_eq_true rfl) ?_
  intro p e s m args below meth c ls C0 hH hl hr hlocks hnm
  replace hl : lv_has ls 2 [(0, .ref (B + 1)), (1, .int (w))] := hl
  have hx := C0.1.1
  have hb := C0.1.2.1
  generalize hH9 : s.heap = H at hH ⊢
  generalize hL9 : ([] : List Loc) = locs at hH ⊢
  clear hH9 hL9
  refine lv_aload_n hx hb dX4_soundsOf_0 rfl (lv_at hl 0 rfl) ?_
  refine lv_iload_n hx hb dX4_soundsOf_1 rfl (lv_at hl 1 rfl) ?_
  refine rg_callGi C0 hH (As := [.int (w)]) (rest := []) (o := 1) (ci := 4) (k_X4_has l E B M w) (rg_cw 1 C0.1.2.2.2.2 tw_m_X4_33 tw_i_X4_has tw_v_X4_has tw_n_X4 tw_c_X4_has rfl rfl hd_X4_has ⟨Nat.le_of_ble_eq_true rfl, Nat.le_of_ble_eq_true rfl⟩) rfl (by decide) rfl (by decide) rfl hl.1 rfl (Nat.le_of_ble_eq_true rfl) dX4_soundsOf_2 ⟨Nat.le_of_ble_eq_true rfl, Nat.le_of_ble_eq_true rfl⟩ (fun H locs hH => ?_)
  refine lv_if_eq (tgt := 17) hx hb dX4_soundsOf_5 (by decide) (fun c_5 => ?_) (fun c_5 => ?_)
  · refine lv_iconst (v := 0) hx hb dX4_soundsOf_17 (by decide) ?_
    exact rg_retRi C0 hH hr hlocks rfl (by first | rw [if_pos (rg_b_ne.mp c_5)] | rw [if_neg (rg_b_eq.mp c_5)]) dX4_soundsOf_18
  · refine lv_aload_n hx hb dX4_soundsOf_8 rfl (lv_at hl 0 rfl) ?_
    refine rg_gR C0 hH (o2 := 2) (ci := 4) (k := 0) (o := 1) rfl rfl inT_X4 (by decide) tw_f_X4_9 (by decide) rfl (by decide) rfl dX4_soundsOf_9 ?_
    refine lv_iload_n hx hb dX4_soundsOf_12 rfl (lv_at hl 1 rfl) ?_
    refine rg_iald C0 hH (o := 2) (by decide) rfl (rg_vin rfl (by exact rg_has_in hn (rg_b_ne.mp c_5))) dX4_soundsOf_13 ?_
    refine lv_goto (tgt := 18) hx hb dX4_soundsOf_14 (by decide) ?_
    exact rg_retRi C0 hH hr hlocks rfl (by first | rw [if_pos (rg_b_ne.mp c_5)] | rw [if_neg (rg_b_eq.mp c_5)]) dX4_soundsOf_18

set_option maxHeartbeats 4000000 in
set_option maxRecDepth 100000 in
/-- Stock.seasonOf -/
theorem k_X4_seasonOf (l : Launch) (E : rg_Env) (B : Nat) (M : rg_Mem) (w : Int32) (hn : rg_cn M) : Met l yX4_seasonOf (rg_w yX4_seasonOf cX4_seasonOf 2 (some (FieldType.int))) ({ frames := 1, cells := 0, slots := 0, locals := 21 } : Room) (va_Pc [.ref (B + 1), .int (w)] (rg_Pre E B 422 rg_R0 M)) (rg_Ri E B 422 rg_R0 (M) (fun r => r = if rg_has M w then M.1 3 w.toNatClampNeg else (-1))) 0 0 (rg_A B) := by
  refine rg_ofW (by decide +kernel) rfl (Nat.le_of_ble_eq_true rfl) ?_
  intro p e s m args below meth c ls C0 hH hl hr hlocks hnm
  replace hl : lv_has ls 2 [(0, .ref (B + 1)), (1, .int (w))] := hl
  have hx := C0.1.1
  have hb := C0.1.2.1
  generalize hH9 : s.heap = H at hH ⊢
  generalize hL9 : ([] : List Loc) = locs at hH ⊢
  clear hH9 hL9
  refine lv_aload_n hx hb dX4_seasonOf_0 rfl (lv_at hl 0 rfl) ?_
  refine lv_iload_n hx hb dX4_seasonOf_1 rfl (lv_at hl 1 rfl) ?_
  refine rg_callGi C0 hH (As := [.int (w)]) (rest := []) (o := 1) (ci := 4) (k_X4_has l E B M w) (rg_cw 1 C0.1.2.2.2.2 tw_m_X4_33 tw_i_X4_has tw_v_X4_has tw_n_X4 tw_c_X4_has rfl rfl hd_X4_has ⟨Nat.le_of_ble_eq_true rfl, Nat.le_of_ble_eq_true rfl⟩) rfl (by decide) rfl (by decide) rfl hl.1 rfl (Nat.le_of_ble_eq_true rfl) dX4_seasonOf_2 ⟨Nat.le_of_ble_eq_true rfl, Nat.le_of_ble_eq_true rfl⟩ (fun H locs hH => ?_)
  refine lv_if_eq (tgt := 17) hx hb dX4_seasonOf_5 (by decide) (fun c_5 => ?_) (fun c_5 => ?_)
  · refine lv_iconst (v := (-1)) hx hb dX4_seasonOf_17 (by decide) ?_
    exact rg_retRi C0 hH hr hlocks rfl (by first | rw [if_pos (rg_b_ne.mp c_5)] | rw [if_neg (rg_b_eq.mp c_5)]) dX4_seasonOf_18
  · refine lv_aload_n hx hb dX4_seasonOf_8 rfl (lv_at hl 0 rfl) ?_
    refine rg_gR C0 hH (o2 := 3) (ci := 4) (k := 1) (o := 1) rfl rfl inT_X4 (by decide) tw_f_X4_15 (by decide) rfl (by decide) rfl dX4_seasonOf_9 ?_
    refine lv_iload_n hx hb dX4_seasonOf_12 rfl (lv_at hl 1 rfl) ?_
    refine rg_iald C0 hH (o := 3) (by decide) rfl (rg_vin rfl (by exact rg_has_in hn (rg_b_ne.mp c_5))) dX4_seasonOf_13 ?_
    refine lv_goto (tgt := 18) hx hb dX4_seasonOf_14 (by decide) ?_
    exact rg_retRi C0 hH hr hlocks rfl (by first | rw [if_pos (rg_b_ne.mp c_5)] | rw [if_neg (rg_b_eq.mp c_5)]) dX4_seasonOf_18

set_option maxHeartbeats 4000000 in
set_option maxRecDepth 100000 in
/-- Stock.signsOf -/
theorem k_X4_signsOf (l : Launch) (E : rg_Env) (B : Nat) (M : rg_Mem) (w : Int32) (hn : rg_cn M) : Met l yX4_signsOf (rg_w yX4_signsOf cX4_signsOf 2 (some (FieldType.int))) ({ frames := 1, cells := 0, slots := 0, locals := 21 } : Room) (va_Pc [.ref (B + 1), .int (w)] (rg_Pre E B 422 rg_R0 M)) (rg_Ri E B 422 rg_R0 (M) (fun r => r = if rg_has M w then M.1 4 w.toNatClampNeg else 0)) 0 0 (rg_A B) := by
  refine rg_ofW (by decide +kernel) rfl (Nat.le_of_ble_eq_true rfl) ?_
  intro p e s m args below meth c ls C0 hH hl hr hlocks hnm
  replace hl : lv_has ls 2 [(0, .ref (B + 1)), (1, .int (w))] := hl
  have hx := C0.1.1
  have hb := C0.1.2.1
  generalize hH9 : s.heap = H at hH ⊢
  generalize hL9 : ([] : List Loc) = locs at hH ⊢
  clear hH9 hL9
  refine lv_aload_n hx hb dX4_signsOf_0 rfl (lv_at hl 0 rfl) ?_
  refine lv_iload_n hx hb dX4_signsOf_1 rfl (lv_at hl 1 rfl) ?_
  refine rg_callGi C0 hH (As := [.int (w)]) (rest := []) (o := 1) (ci := 4) (k_X4_has l E B M w) (rg_cw 1 C0.1.2.2.2.2 tw_m_X4_33 tw_i_X4_has tw_v_X4_has tw_n_X4 tw_c_X4_has rfl rfl hd_X4_has ⟨Nat.le_of_ble_eq_true rfl, Nat.le_of_ble_eq_true rfl⟩) rfl (by decide) rfl (by decide) rfl hl.1 rfl (Nat.le_of_ble_eq_true rfl) dX4_signsOf_2 ⟨Nat.le_of_ble_eq_true rfl, Nat.le_of_ble_eq_true rfl⟩ (fun H locs hH => ?_)
  refine lv_if_eq (tgt := 17) hx hb dX4_signsOf_5 (by decide) (fun c_5 => ?_) (fun c_5 => ?_)
  · refine lv_iconst (v := 0) hx hb dX4_signsOf_17 (by decide) ?_
    exact rg_retRi C0 hH hr hlocks rfl (by first | rw [if_pos (rg_b_ne.mp c_5)] | rw [if_neg (rg_b_eq.mp c_5)]) dX4_signsOf_18
  · refine lv_aload_n hx hb dX4_signsOf_8 rfl (lv_at hl 0 rfl) ?_
    refine rg_gR C0 hH (o2 := 4) (ci := 4) (k := 2) (o := 1) rfl rfl inT_X4 (by decide) tw_f_X4_18 (by decide) rfl (by decide) rfl dX4_signsOf_9 ?_
    refine lv_iload_n hx hb dX4_signsOf_12 rfl (lv_at hl 1 rfl) ?_
    refine rg_iald C0 hH (o := 4) (by decide) rfl (rg_vin rfl (by exact rg_has_in hn (rg_b_ne.mp c_5))) dX4_signsOf_13 ?_
    refine lv_goto (tgt := 18) hx hb dX4_signsOf_14 (by decide) ?_
    exact rg_retRi C0 hH hr hlocks rfl (by first | rw [if_pos (rg_b_ne.mp c_5)] | rw [if_neg (rg_b_eq.mp c_5)]) dX4_signsOf_18

set_option maxHeartbeats 4000000 in
set_option maxRecDepth 100000 in
/-- Stock.calledBy -/
theorem k_X4_calledBy (l : Launch) (E : rg_Env) (B : Nat) (M : rg_Mem) (w : Int32) (hn : rg_cn M) : Met l yX4_calledBy (rg_w yX4_calledBy cX4_calledBy 2 (some (FieldType.long))) ({ frames := 1, cells := 0, slots := 0, locals := 21 } : Room) (va_Pc [.ref (B + 1), .int (w)] (rg_Pre E B 422 rg_R0 M)) (rg_Rl E B 422 rg_R0 (M) (fun r => r = if rg_has M w then M.2 5 w.toNatClampNeg else 0)) 0 0 (rg_A B) := by
  refine rg_ofW (by decide +kernel) rfl (Nat.le_of_ble_eq_true rfl) ?_
  intro p e s m args below meth c ls C0 hH hl hr hlocks hnm
  replace hl : lv_has ls 2 [(0, .ref (B + 1)), (1, .int (w))] := hl
  have hx := C0.1.1
  have hb := C0.1.2.1
  generalize hH9 : s.heap = H at hH ⊢
  generalize hL9 : ([] : List Loc) = locs at hH ⊢
  clear hH9 hL9
  refine lv_aload_n hx hb dX4_calledBy_0 rfl (lv_at hl 0 rfl) ?_
  refine lv_iload_n hx hb dX4_calledBy_1 rfl (lv_at hl 1 rfl) ?_
  refine rg_callGi C0 hH (As := [.int (w)]) (rest := []) (o := 1) (ci := 4) (k_X4_has l E B M w) (rg_cw 1 C0.1.2.2.2.2 tw_m_X4_33 tw_i_X4_has tw_v_X4_has tw_n_X4 tw_c_X4_has rfl rfl hd_X4_has ⟨Nat.le_of_ble_eq_true rfl, Nat.le_of_ble_eq_true rfl⟩) rfl (by decide) rfl (by decide) rfl hl.1 rfl (Nat.le_of_ble_eq_true rfl) dX4_calledBy_2 ⟨Nat.le_of_ble_eq_true rfl, Nat.le_of_ble_eq_true rfl⟩ (fun H locs hH => ?_)
  refine lv_if_eq (tgt := 17) hx hb dX4_calledBy_5 (by decide) (fun c_5 => ?_) (fun c_5 => ?_)
  · refine lv_lconst (v := 0) hx hb dX4_calledBy_17 (by decide) ?_
    exact rg_retRl C0 hH hr hlocks rfl (by first | rw [if_pos (rg_b_ne.mp c_5)] | rw [if_neg (rg_b_eq.mp c_5)]) dX4_calledBy_18
  · refine lv_aload_n hx hb dX4_calledBy_8 rfl (lv_at hl 0 rfl) ?_
    refine rg_gR C0 hH (o2 := 5) (ci := 4) (k := 3) (o := 1) rfl rfl inT_X4 (by decide) tw_f_X4_21 (by decide) rfl (by decide) rfl dX4_calledBy_9 ?_
    refine lv_iload_n hx hb dX4_calledBy_12 rfl (lv_at hl 1 rfl) ?_
    refine rg_lald C0 hH (o := 5) (by decide) rfl (rg_vin rfl (by exact rg_has_in hn (rg_b_ne.mp c_5))) dX4_calledBy_13 ?_
    refine lv_goto (tgt := 18) hx hb dX4_calledBy_14 (by decide) ?_
    exact rg_retRl C0 hH hr hlocks rfl (by first | rw [if_pos (rg_b_ne.mp c_5)] | rw [if_neg (rg_b_eq.mp c_5)]) dX4_calledBy_18
