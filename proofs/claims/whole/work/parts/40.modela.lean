set_option maxHeartbeats 4000000 in
set_option maxRecDepth 100000 in
/-- thrown -/
theorem k_X7_thrown (l : Launch) (E : rg_Env) (B : Nat) (M : rg_Mem) : Met l yX7_thrown (rg_w yX7_thrown cX7_thrown 1 (some (FieldType.int))) ({ frames := 0, cells := 0, slots := 0, locals := 0 } : Room) (va_Pc [.ref (B + 412)] (rg_Pre E B 433 rg_R0 M)) (rg_Ri E B 433 rg_R0 (M) (fun r => r = M.1 412 33)) 0 0 (rg_A B) := by
  refine rg_ofW (by decide +kernel) rfl (Nat.le_of_ble_eq_true rfl) ?_
  intro p e s m args below meth c ls C0 hH hl hr hlocks hnm
  replace hl : lv_has ls 1 [(0, .ref (B + 412))] := hl
  have hx := C0.1.1
  have hb := C0.1.2.1
  generalize hH9 : s.heap = H at hH ⊢
  generalize hL9 : ([] : List Loc) = locs at hH ⊢
  clear hH9 hL9
  refine lv_aload_n hx hb dX7_thrown_0 rfl (lv_at hl 0 rfl) ?_
  refine rg_gI C0 hH (ci := 7) (k := 33) (o := 412) rfl inT_X7 (by decide) tw_f_X7_73 (by decide) rfl (by decide) rfl dX7_thrown_1 ?_
  exact rg_retRi C0 hH hr hlocks rfl rfl dX7_thrown_4

set_option maxHeartbeats 4000000 in
set_option maxRecDepth 100000 in
/-- in -/
theorem k_X7_in (l : Launch) (E : rg_Env) (B : Nat) (M : rg_Mem) (x : Int32) (a : Int32) (b : Int32) : Met l yX7_in (rg_w yX7_in cX7_in 3 (some (FieldType.boolean))) ({ frames := 0, cells := 0, slots := 0, locals := 0 } : Room) (va_Pc [.int (x), .int (a), .int (b)] (rg_Pre E B 433 rg_R0 M)) (rg_Ri E B 433 rg_R0 (M) (fun r => r = rg_b (rm_in x a b))) 0 0 (rg_A B) := by
  refine rg_ofW (by decide +kernel) rfl (Nat.le_of_ble_eq_true rfl) ?_
  intro p e s m args below meth c ls C0 hH hl hr hlocks hnm
  replace hl : lv_has ls 3 [(0, .int (x)), (1, .int (a)), (2, .int (b))] := hl
  have hx := C0.1.1
  have hb := C0.1.2.1
  generalize hH9 : s.heap = H at hH ⊢
  generalize hL9 : ([] : List Loc) = locs at hH ⊢
  clear hH9 hL9
  have cut_15 : ∀  (H : Heap) (locs : List Loc) (ls : Array Slot), rg_H E B 433 rg_R0 M s H locs → lv_has ls 3 [(0, .int (x)), (1, .int (a)), (2, .int (b))] → W p l e ({ frames := 0, cells := 0, slots := 0, locals := 0 } : Room) s m args below meth c H locs 0 0 (MQ below (rg_Ri E B 433 rg_R0 (M) (fun r => r = rg_b (rm_in x a b))) args s 0 0 (rg_A B)) (F0 m 15 ls [.int (rg_b (rm_in x a b))]) := by
    intro  H locs ls hH hl 
    exact rg_retRz C0 hH hr hlocks (by exact rg_b_01) rfl rfl dX7_in_15
  refine lv_iload_n hx hb dX7_in_0 rfl (lv_at hl 0 rfl) ?_
  refine lv_iload_n hx hb dX7_in_1 rfl (lv_at hl 1 rfl) ?_
  refine lv_icmp_lt (tgt := 14) hx hb dX7_in_2 (by decide) (fun c_2 => ?_) (fun c_2 => ?_)
  · refine lv_iconst (v := 0) hx hb dX7_in_14 (by decide) ?_
    refine rg_topi (y := rg_b (rm_in x a b)) (by first | exact rg_b_f (fun q => q.1 c_2) | exact rg_b_f (fun q => q.2 c_7)) ?_
    exact cut_15 _ _ _ hH (lv_sub hl [0, 1, 2] rfl)
  · refine lv_iload_n hx hb dX7_in_5 rfl (lv_at hl 0 rfl) ?_
    refine lv_iload_n hx hb dX7_in_6 rfl (lv_at hl 2 rfl) ?_
    refine lv_icmp_gt (tgt := 14) hx hb dX7_in_7 (by decide) (fun c_7 => ?_) (fun c_7 => ?_)
    · refine lv_iconst (v := 0) hx hb dX7_in_14 (by decide) ?_
      refine rg_topi (y := rg_b (rm_in x a b)) (by first | exact rg_b_f (fun q => q.1 c_2) | exact rg_b_f (fun q => q.2 c_7)) ?_
      exact cut_15 _ _ _ hH (lv_sub hl [0, 1, 2] rfl)
    · refine lv_iconst (v := 1) hx hb dX7_in_10 (by decide) ?_
      refine lv_goto (tgt := 15) hx hb dX7_in_11 (by decide) ?_
      refine rg_topi (y := rg_b (rm_in x a b)) (by exact rg_b_t (⟨c_2, c_7⟩)) ?_
      exact cut_15 _ _ _ hH (lv_sub hl [0, 1, 2] rfl)

set_option maxHeartbeats 4000000 in
set_option maxRecDepth 100000 in
/-- goes -/
theorem k_X7_goes (l : Launch) (E : rg_Env) (B : Nat) (M : rg_Mem) (a : Int32) (b : Int32) (d : Int32) : Met l yX7_goes (rg_w yX7_goes cX7_goes 4 (some (FieldType.boolean))) ({ frames := 0, cells := 0, slots := 0, locals := 0 } : Room) (va_Pc [.ref (B + 412), .int (a), .int (b), .int (d)] (rg_Pre E B 433 rg_R0 M)) (rg_Ri E B 433 rg_R0 (rg_I M 412 33 (rm_go a b d)) (fun r => r = rg_b (rm_go a b d = 0))) 0 0 (rg_A B) := by
  refine rg_ofW (by decide +kernel) rfl (Nat.le_of_ble_eq_true rfl) ?_
  intro p e s m args below meth c ls C0 hH hl hr hlocks hnm
  replace hl : lv_has ls 4 [(0, .ref (B + 412)), (1, .int (a)), (2, .int (b)), (3, .int (d))] := hl
  have hx := C0.1.1
  have hb := C0.1.2.1
  generalize hH9 : s.heap = H at hH ⊢
  generalize hL9 : ([] : List Loc) = locs at hH ⊢
  clear hH9 hL9
  refine lv_aload_n hx hb dX7_goes_0 rfl (lv_at hl 0 rfl) ?_
  have cut_26 : ∀  (H : Heap) (locs : List Loc) (ls : Array Slot), rg_H E B 433 rg_R0 M s H locs → lv_has ls 4 [(0, .ref (B + 412)), (1, .int (a)), (2, .int (b)), (3, .int (d))] → W p l e ({ frames := 0, cells := 0, slots := 0, locals := 0 } : Room) s m args below meth c H locs 0 0 (MQ below (rg_Ri E B 433 rg_R0 (rg_I M 412 33 (rm_go a b d)) (fun r => r = rg_b (rm_go a b d = 0))) args s 0 0 (rg_A B)) (F0 m 26 ls [.int (rm_go a b d), .ref (B + 412)]) := by
    intro  H locs ls hH hl 
    refine rg_pI C0 hH (v := rm_go a b d) tyX7 tyX7_ok nmX7 (ci := 7) (k := 33) (o := 412) rfl inT_X7 (by decide) tw_f_X7_73 (by decide) rfl (by decide) rfl rfl rfl rfl dX7_goes_26 (fun H locs hH => ?_)
    refine lv_aload_n hx hb dX7_goes_29 rfl (lv_at hl 0 rfl) ?_
    refine rg_gI C0 hH (ci := 7) (k := 33) (o := 412) rfl inT_X7 (by decide) tw_f_X7_73 (by decide) rfl (by decide) rfl dX7_goes_30 ?_
    refine rg_topi (y := rm_go a b d) (by simp [rg_I]) ?_
    refine lv_if_ne (tgt := 40) hx hb dX7_goes_33 (by decide) (fun c_33 => ?_) (fun c_33 => ?_)
    · refine lv_iconst (v := 0) hx hb dX7_goes_40 (by decide) ?_
      exact rg_retRz C0 hH hr hlocks (Or.inl rfl) rfl (by exact rg_b_f c_33) dX7_goes_41
    · refine lv_iconst (v := 1) hx hb dX7_goes_36 (by decide) ?_
      refine lv_goto (tgt := 41) hx hb dX7_goes_37 (by decide) ?_
      exact rg_retRz C0 hH hr hlocks (Or.inr rfl) rfl (by exact rg_b_t c_33) dX7_goes_41
  refine lv_iload_n hx hb dX7_goes_1 rfl (lv_at hl 1 rfl) ?_
  refine lv_if_ne (tgt := 9) hx hb dX7_goes_2 (by decide) (fun c_2 => ?_) (fun c_2 => ?_)
  · refine lv_iload_n hx hb dX7_goes_9 rfl (lv_at hl 2 rfl) ?_
    refine lv_if_ne (tgt := 17) hx hb dX7_goes_10 (by decide) (fun c_10 => ?_) (fun c_10 => ?_)
    · refine lv_iload_n hx hb dX7_goes_17 rfl (lv_at hl 3 rfl) ?_
      refine lv_if_eq (tgt := 25) hx hb dX7_goes_18 (by decide) (fun c_18 => ?_) (fun c_18 => ?_)
      · refine lv_iconst (v := 3) hx hb dX7_goes_25 (by decide) ?_
        refine rg_topi (y := rm_go a b d) (by unfold rm_go; rw [if_neg c_2, if_neg c_10, if_pos c_18]) ?_
        exact cut_26 _ _ _ hH (lv_sub hl [0, 1, 2, 3] rfl)
      · refine lv_iconst (v := 0) hx hb dX7_goes_21 (by decide) ?_
        refine lv_goto (tgt := 26) hx hb dX7_goes_22 (by decide) ?_
        refine rg_topi (y := rm_go a b d) (by unfold rm_go; rw [if_neg c_2, if_neg c_10, if_neg c_18]) ?_
        exact cut_26 _ _ _ hH (lv_sub hl [0, 1, 2, 3] rfl)
    · refine lv_iconst (v := 2) hx hb dX7_goes_13 (by decide) ?_
      refine lv_goto (tgt := 26) hx hb dX7_goes_14 (by decide) ?_
      refine rg_topi (y := rm_go a b d) (by unfold rm_go; rw [if_neg c_2, if_pos c_10]) ?_
      exact cut_26 _ _ _ hH (lv_sub hl [0, 1, 2, 3] rfl)
  · refine lv_iconst (v := 1) hx hb dX7_goes_5 (by decide) ?_
    refine lv_goto (tgt := 26) hx hb dX7_goes_6 (by decide) ?_
    refine rg_topi (y := rm_go a b d) (by unfold rm_go; rw [if_pos c_2]) ?_
    exact cut_26 _ _ _ hH (lv_sub hl [0, 1, 2, 3] rfl)

set_option maxHeartbeats 4000000 in
set_option maxRecDepth 100000 in
/-- isWord -/
theorem k_X7_isWord (l : Launch) (E : rg_Env) (B : Nat) (M : rg_Mem) (x : Int32) (hI : rm_CI M) : Met l yX7_isWord (rg_w yX7_isWord cX7_isWord 2 (some (FieldType.boolean))) ({ frames := 1, cells := 0, slots := 0, locals := 22 } : Room) (va_Pc [.ref (B + 412), .int (x)] (rg_Pre E B 433 rg_R0 M)) (rg_Ri E B 433 rg_R0 (M) (fun r => r = rg_b (rm_iw M x))) 0 0 (rg_A B) := by
  refine rg_ofW (by decide +kernel) rfl (Nat.le_of_ble_eq_true rfl) ?_
  intro p e s m args below meth c ls C0 hH hl hr hlocks hnm
  replace hl : lv_has ls 2 [(0, .ref (B + 412)), (1, .int (x))] := hl
  have hx := C0.1.1
  have hb := C0.1.2.1
  generalize hH9 : s.heap = H at hH ⊢
  generalize hL9 : ([] : List Loc) = locs at hH ⊢
  clear hH9 hL9
  refine lv_iload_n hx hb dX7_isWord_0 rfl (lv_at hl 1 rfl) ?_
  refine lv_iconst (v := 0) hx hb dX7_isWord_1 (by decide) ?_
  refine lv_aload_n hx hb dX7_isWord_2 rfl (lv_at hl 0 rfl) ?_
  refine rg_gI C0 hH (ci := 7) (k := 4) (o := 412) rfl inT_X7 (by decide) tw_f_X7_76 (by decide) rfl (by decide) rfl dX7_isWord_3 ?_
  refine lv_iconst (v := 1) hx hb dX7_isWord_6 (by decide) ?_
  refine lv_isub hx hb dX7_isWord_7 ?_
  refine rg_callSGi C0 hH (As := [.int (x), .int (0), .int ((M.1 412 4) - 1)]) (rest := []) (k_X7_in l E B M x 0 ((M.1 412 4) - 1)) (rg_cwS 3 C0.1.2.2.2.2 tw_m_X7_79 tw_s_X7_in tw_n_X7 tw_c_X7_in rfl rfl hd_X7_in ⟨Nat.le_of_ble_eq_true rfl, Nat.le_of_ble_eq_true rfl⟩) rfl hl.1 rfl (Nat.le_of_ble_eq_true rfl) dX7_isWord_8 ⟨Nat.le_of_ble_eq_true rfl, Nat.le_of_ble_eq_true rfl⟩ (fun H locs hH => ?_)
  refine rg_topi (y := rg_b (rm_iw M x)) (by exact rg_b_cg (rm_in2 (rm_CI_w hI).1 (by have := (rm_CI_w hI).2; omega))) ?_
  exact rg_retRz C0 hH hr hlocks (by exact rg_b_01) rfl rfl dX7_isWord_11

set_option maxHeartbeats 4000000 in
set_option maxRecDepth 100000 in
/-- isPoet -/
theorem k_X7_isPoet (l : Launch) (E : rg_Env) (B : Nat) (M : rg_Mem) (x : Int32) (hI : rm_CI M) : Met l yX7_isPoet (rg_w yX7_isPoet cX7_isPoet 2 (some (FieldType.boolean))) ({ frames := 1, cells := 0, slots := 0, locals := 22 } : Room) (va_Pc [.ref (B + 412), .int (x)] (rg_Pre E B 433 rg_R0 M)) (rg_Ri E B 433 rg_R0 (M) (fun r => r = rg_b (rm_ip M x))) 0 0 (rg_A B) := by
  refine rg_ofW (by decide +kernel) rfl (Nat.le_of_ble_eq_true rfl) ?_
  intro p e s m args below meth c ls C0 hH hl hr hlocks hnm
  replace hl : lv_has ls 2 [(0, .ref (B + 412)), (1, .int (x))] := hl
  have hx := C0.1.1
  have hb := C0.1.2.1
  generalize hH9 : s.heap = H at hH ⊢
  generalize hL9 : ([] : List Loc) = locs at hH ⊢
  clear hH9 hL9
  refine lv_iload_n hx hb dX7_isPoet_0 rfl (lv_at hl 1 rfl) ?_
  refine lv_iconst (v := 0) hx hb dX7_isPoet_1 (by decide) ?_
  refine lv_aload_n hx hb dX7_isPoet_2 rfl (lv_at hl 0 rfl) ?_
  refine rg_gI C0 hH (ci := 7) (k := 5) (o := 412) rfl inT_X7 (by decide) tw_f_X7_83 (by decide) rfl (by decide) rfl dX7_isPoet_3 ?_
  refine lv_iconst (v := 1) hx hb dX7_isPoet_6 (by decide) ?_
  refine lv_isub hx hb dX7_isPoet_7 ?_
  refine rg_callSGi C0 hH (As := [.int (x), .int (0), .int ((M.1 412 5) - 1)]) (rest := []) (k_X7_in l E B M x 0 ((M.1 412 5) - 1)) (rg_cwS 3 C0.1.2.2.2.2 tw_m_X7_79 tw_s_X7_in tw_n_X7 tw_c_X7_in rfl rfl hd_X7_in ⟨Nat.le_of_ble_eq_true rfl, Nat.le_of_ble_eq_true rfl⟩) rfl hl.1 rfl (Nat.le_of_ble_eq_true rfl) dX7_isPoet_8 ⟨Nat.le_of_ble_eq_true rfl, Nat.le_of_ble_eq_true rfl⟩ (fun H locs hH => ?_)
  refine rg_topi (y := rg_b (rm_ip M x)) (by exact rg_b_cg (rm_in1 (rm_CI_p hI).1 (by have := (rm_CI_p hI).2; omega))) ?_
  exact rg_retRz C0 hH hr hlocks (by exact rg_b_01) rfl rfl dX7_isPoet_11

set_option maxHeartbeats 4000000 in
set_option maxRecDepth 100000 in
/-- isLink -/
theorem k_X7_isLink (l : Launch) (E : rg_Env) (B : Nat) (M : rg_Mem) (x : Int32) (hI : rm_CI M) : Met l yX7_isLink (rg_w yX7_isLink cX7_isLink 2 (some (FieldType.boolean))) ({ frames := 1, cells := 0, slots := 0, locals := 22 } : Room) (va_Pc [.ref (B + 412), .int (x)] (rg_Pre E B 433 rg_R0 M)) (rg_Ri E B 433 rg_R0 (M) (fun r => r = rg_b (rm_il M x))) 0 0 (rg_A B) := by
  refine rg_ofW (by decide +kernel) rfl (Nat.le_of_ble_eq_true rfl) ?_
  intro p e s m args below meth c ls C0 hH hl hr hlocks hnm
  replace hl : lv_has ls 2 [(0, .ref (B + 412)), (1, .int (x))] := hl
  have hx := C0.1.1
  have hb := C0.1.2.1
  generalize hH9 : s.heap = H at hH ⊢
  generalize hL9 : ([] : List Loc) = locs at hH ⊢
  clear hH9 hL9
  refine lv_iload_n hx hb dX7_isLink_0 rfl (lv_at hl 1 rfl) ?_
  refine lv_iconst (v := 0) hx hb dX7_isLink_1 (by decide) ?_
  refine lv_aload_n hx hb dX7_isLink_2 rfl (lv_at hl 0 rfl) ?_
  refine rg_gI C0 hH (ci := 7) (k := 11) (o := 412) rfl inT_X7 (by decide) tw_f_X7_86 (by decide) rfl (by decide) rfl dX7_isLink_3 ?_
  refine lv_iconst (v := 1) hx hb dX7_isLink_6 (by decide) ?_
  refine lv_isub hx hb dX7_isLink_7 ?_
  refine rg_callSGi C0 hH (As := [.int (x), .int (0), .int ((M.1 412 11) - 1)]) (rest := []) (k_X7_in l E B M x 0 ((M.1 412 11) - 1)) (rg_cwS 3 C0.1.2.2.2.2 tw_m_X7_79 tw_s_X7_in tw_n_X7 tw_c_X7_in rfl rfl hd_X7_in ⟨Nat.le_of_ble_eq_true rfl, Nat.le_of_ble_eq_true rfl⟩) rfl hl.1 rfl (Nat.le_of_ble_eq_true rfl) dX7_isLink_8 ⟨Nat.le_of_ble_eq_true rfl, Nat.le_of_ble_eq_true rfl⟩ (fun H locs hH => ?_)
  refine rg_topi (y := rg_b (rm_il M x)) (by exact rg_b_cg (rm_in2 (rm_CI_l hI).1 (by have := (rm_CI_l hI).2; omega))) ?_
  exact rg_retRz C0 hH hr hlocks (by exact rg_b_01) rfl rfl dX7_isLink_11

set_option maxHeartbeats 4000000 in
set_option maxRecDepth 100000 in
/-- isFinished -/
theorem k_X7_isFinished (l : Launch) (E : rg_Env) (B : Nat) (M : rg_Mem) : Met l yX7_isFinished (rg_w yX7_isFinished cX7_isFinished 1 (some (FieldType.boolean))) ({ frames := 0, cells := 0, slots := 0, locals := 0 } : Room) (va_Pc [.ref (B + 412)] (rg_Pre E B 433 rg_R0 M)) (rg_Ri E B 433 rg_R0 (M) (fun r => r = rg_b (M.1 412 11 = M.1 412 7))) 0 0 (rg_A B) := by
  refine rg_ofW (by decide +kernel) rfl (Nat.le_of_ble_eq_true rfl) ?_
  intro p e s m args below meth c ls C0 hH hl hr hlocks hnm
  replace hl : lv_has ls 1 [(0, .ref (B + 412))] := hl
  have hx := C0.1.1
  have hb := C0.1.2.1
  generalize hH9 : s.heap = H at hH ⊢
  generalize hL9 : ([] : List Loc) = locs at hH ⊢
  clear hH9 hL9
  refine lv_aload_n hx hb dX7_isFinished_0 rfl (lv_at hl 0 rfl) ?_
  refine rg_gI C0 hH (ci := 7) (k := 11) (o := 412) rfl inT_X7 (by decide) tw_f_X7_86 (by decide) rfl (by decide) rfl dX7_isFinished_1 ?_
  refine lv_aload_n hx hb dX7_isFinished_4 rfl (lv_at hl 0 rfl) ?_
  refine rg_gI C0 hH (ci := 7) (k := 7) (o := 412) rfl inT_X7 (by decide) tw_f_X7_89 (by decide) rfl (by decide) rfl dX7_isFinished_5 ?_
  refine lv_icmp_ne (tgt := 15) hx hb dX7_isFinished_8 (by decide) (fun c_8 => ?_) (fun c_8 => ?_)
  · refine lv_iconst (v := 0) hx hb dX7_isFinished_15 (by decide) ?_
    exact rg_retRz C0 hH hr hlocks (Or.inl rfl) rfl (by exact rg_b_f c_8) dX7_isFinished_16
  · refine lv_iconst (v := 1) hx hb dX7_isFinished_11 (by decide) ?_
    refine lv_goto (tgt := 16) hx hb dX7_isFinished_12 (by decide) ?_
    exact rg_retRz C0 hH hr hlocks (Or.inr rfl) rfl (by exact rg_b_t c_8) dX7_isFinished_16

set_option maxHeartbeats 4000000 in
set_option maxRecDepth 100000 in
/-- isLong -/
theorem k_X7_isLong (l : Launch) (E : rg_Env) (B : Nat) (M : rg_Mem) (x : Int32) : Met l yX7_isLong (rg_w yX7_isLong cX7_isLong 1 (some (FieldType.boolean))) ({ frames := 0, cells := 0, slots := 0, locals := 0 } : Room) (va_Pc [.int (x)] (rg_Pre E B 433 rg_R0 M)) (rg_Ri E B 433 rg_R0 (M) (fun r => r = rg_b (rg_lg x))) 0 0 (rg_A B) := by
  refine rg_ofW (by decide +kernel) rfl (Nat.le_of_ble_eq_true rfl) ?_
  intro p e s m args below meth c ls C0 hH hl hr hlocks hnm
  replace hl : lv_has ls 1 [(0, .int (x))] := hl
  have hx := C0.1.1
  have hb := C0.1.2.1
  generalize hH9 : s.heap = H at hH ⊢
  generalize hL9 : ([] : List Loc) = locs at hH ⊢
  clear hH9 hL9
  refine lv_iload_n hx hb dX7_isLong_0 rfl (lv_at hl 0 rfl) ?_
  refine lv_if_eq (tgt := 9) hx hb dX7_isLong_1 (by decide) (fun c_1 => ?_) (fun c_1 => ?_)
  · refine lv_iconst (v := 1) hx hb dX7_isLong_9 (by decide) ?_
    refine lv_goto (tgt := 14) hx hb dX7_isLong_10 (by decide) ?_
    exact rg_retRz C0 hH hr hlocks (Or.inr rfl) rfl (by exact rg_b_t (Or.inl c_1)) dX7_isLong_14
  · refine lv_iload_n hx hb dX7_isLong_4 rfl (lv_at hl 0 rfl) ?_
    refine lv_iconst (v := 2) hx hb dX7_isLong_5 (by decide) ?_
    refine lv_icmp_ne (tgt := 13) hx hb dX7_isLong_6 (by decide) (fun c_6 => ?_) (fun c_6 => ?_)
    · refine lv_iconst (v := 0) hx hb dX7_isLong_13 (by decide) ?_
      exact rg_retRz C0 hH hr hlocks (Or.inl rfl) rfl (by exact rg_b_f (fun q => q.elim c_1 c_6)) dX7_isLong_14
    · refine lv_iconst (v := 1) hx hb dX7_isLong_9 (by decide) ?_
      refine lv_goto (tgt := 14) hx hb dX7_isLong_10 (by decide) ?_
      exact rg_retRz C0 hH hr hlocks (Or.inr rfl) rfl (by exact rg_b_t (Or.inr c_6)) dX7_isLong_14

set_option maxHeartbeats 4000000 in
set_option maxRecDepth 100000 in
/-- calls -/
theorem k_X7_calls (l : Launch) (E : rg_Env) (B : Nat) (M : rg_Mem) (x : Int32) (y : Int32) (hx9 : vp_in x 40) : Met l yX7_calls (rg_w yX7_calls cX7_calls 3 (some (FieldType.boolean))) ({ frames := 0, cells := 0, slots := 0, locals := 0 } : Room) (va_Pc [.ref (B + 412), .int (x), .int (y)] (rg_Pre E B 433 rg_R0 M)) (rg_Ri E B 433 rg_R0 (M) (fun r => r = rg_b ((M.2 416 x.toNatClampNeg >>> (y.toInt64 &&& 63)) &&& 1 = 1))) 0 0 (rg_A B) := by
  refine rg_ofW (by decide +kernel) rfl (Nat.le_of_ble_eq_true rfl) ?_
  intro p e s m args below meth c ls C0 hH hl hr hlocks hnm
  replace hl : lv_has ls 3 [(0, .ref (B + 412)), (1, .int (x)), (2, .int (y))] := hl
  have hx := C0.1.1
  have hb := C0.1.2.1
  generalize hH9 : s.heap = H at hH ⊢
  generalize hL9 : ([] : List Loc) = locs at hH ⊢
  clear hH9 hL9
  refine lv_aload_n hx hb dX7_calls_0 rfl (lv_at hl 0 rfl) ?_
  refine rg_gR C0 hH (o2 := 416) (ci := 7) (k := 3) (o := 412) rfl rfl inT_X7 (by decide) tw_f_X7_19 (by decide) rfl (by decide) rfl dX7_calls_1 ?_
  refine lv_iload_n hx hb dX7_calls_4 rfl (lv_at hl 1 rfl) ?_
  refine rg_lald C0 hH (o := 416) (by decide) rfl (rg_vin rfl (by exact hx9)) dX7_calls_5 ?_
  refine lv_iload_n hx hb dX7_calls_6 rfl (lv_at hl 2 rfl) ?_
  refine lv_lshr hx hb dX7_calls_7 rfl ?_
  refine lv_lconst (v := 1) hx hb dX7_calls_8 (by decide) ?_
  refine lv_land hx hb dX7_calls_9 ?_
  refine lv_lconst (v := 1) hx hb dX7_calls_10 (by decide) ?_
  refine W.lcmp hx hb dX7_calls_11 ?_
  refine lv_if_ne (tgt := 19) hx hb dX7_calls_12 (by decide) (fun c_12 => ?_) (fun c_12 => ?_)
  · refine lv_iconst (v := 0) hx hb dX7_calls_19 (by decide) ?_
    exact rg_retRz C0 hH hr hlocks (Or.inl rfl) rfl (by exact rg_b_f (fun q => c_12 (rg_cmp0.mpr q))) dX7_calls_20
  · refine lv_iconst (v := 1) hx hb dX7_calls_15 (by decide) ?_
    refine lv_goto (tgt := 20) hx hb dX7_calls_16 (by decide) ?_
    exact rg_retRz C0 hH hr hlocks (Or.inr rfl) rfl (by exact rg_b_t (rg_cmp0.mp c_12)) dX7_calls_20

set_option maxHeartbeats 4000000 in
set_option maxRecDepth 100000 in
/-- seasonOf -/
theorem k_X7_seasonOf (l : Launch) (E : rg_Env) (B : Nat) (M : rg_Mem) (v : Nat) (hI : rm_CI M) (hl9 : v < rm_nl M) : Met l yX7_seasonOf (rg_w yX7_seasonOf cX7_seasonOf 3 (some (FieldType.int))) ({ frames := 0, cells := 0, slots := 0, locals := 0 } : Room) (va_Pc [.ref (B + 412), .int (nI v)] (rg_Pre E B 433 rg_R0 M)) (rg_Ri E B 433 rg_R0 (M) (fun r => r = rm_son M v)) 0 0 (rg_A B) := by
  refine rg_ofW (by decide +kernel) rfl (Nat.le_of_ble_eq_true rfl) ?_
  intro p e s m args below meth c ls C0 hH hl hr hlocks hnm
  replace hl : lv_has ls 3 [(0, .ref (B + 412)), (1, .int (nI v))] := hl
  have hx := C0.1.1
  have hb := C0.1.2.1
  generalize hH9 : s.heap = H at hH ⊢
  generalize hL9 : ([] : List Loc) = locs at hH ⊢
  clear hH9 hL9
  have hl36 := (rm_CI_l hI).2
  have hz6 := (rm_CI_v hI v hl9).2.1
  refine lv_iconst (v := 0) hx hb dX7_seasonOf_0 (by decide) ?_
  refine lv_istore_n (lv' := [(2, .int (0)), (0, .ref (B + 412)), (1, .int (nI v))]) hx hb dX7_seasonOf_1 rfl hl (by decide) rfl (fun ls hl => ?_)
  have cut_2 : ∀ (fu i : Nat), i ≤ rm_z M v ∧ rm_z M v < i + fu → ∀  (H : Heap) (locs : List Loc) (ls : Array Slot), rg_H E B 433 rg_R0 M s H locs → lv_has ls 3 [(0, .ref (B + 412)), (1, .int (nI v)), (2, .int (nI i))] → (rg_fi (M.1 414) (rm_w M v) i = -1) → W p l e ({ frames := 0, cells := 0, slots := 0, locals := 0 } : Room) s m args below meth c H locs 0 0 (MQ below (rg_Ri E B 433 rg_R0 (M) (fun r => r = rm_son M v)) args s 0 0 (rg_A B)) (F0 m 2 ls []) := by
    intro fu
    induction fu with
    | zero =>
      intro i hm
      exact absurd hm (by omega)
    | succ fu ih =>
      intro i hm  H locs ls hH hl hf
      refine lv_iload_n hx hb dX7_seasonOf_2 rfl (lv_at hl 2 rfl) ?_
      refine lv_aload_n hx hb dX7_seasonOf_3 rfl (lv_at hl 0 rfl) ?_
      refine rg_gR C0 hH (o2 := 418) (ci := 7) (k := 13) (o := 412) rfl rfl inT_X7 (by decide) tw_f_X7_26 (by decide) rfl (by decide) rfl dX7_seasonOf_4 ?_
      refine lv_iload_n hx hb dX7_seasonOf_7 rfl (lv_at hl 1 rfl) ?_
      refine rg_ialdN C0 hH (o := 418) (j := v) (n0 := 36) (by decide) rfl rfl (by omega) dX7_seasonOf_8 ?_
      refine rg_topi (y := nI (rm_z M v)) (by exact (rm_CI_v hI v hl9).1) ?_
      refine lv_icmp_ge (tgt := 55) hx hb dX7_seasonOf_9 (by decide) (fun c_9 => ?_) (fun c_9 => ?_)
      · refine lv_iconst (v := (-1)) hx hb dX7_seasonOf_55 (by decide) ?_
        exact rg_retRi C0 hH hr hlocks rfl (by rw [rg_lp_end hm.1 (by omega) c_9] at hf; exact hf.symm) dX7_seasonOf_56
      · have hlt := rg_lp_lt hm.1 (by omega) c_9
        have hwi := rm_iw_in hI ((rm_CI_v hI v hl9).2.2 i hlt)
        refine lv_aload_n hx hb dX7_seasonOf_12 rfl (lv_at hl 0 rfl) ?_
        refine rg_gR C0 hH (o2 := 414) (ci := 7) (k := 1) (o := 412) rfl rfl inT_X7 (by decide) tw_f_X7_13 (by decide) rfl (by decide) rfl dX7_seasonOf_13 ?_
        refine lv_aload_n hx hb dX7_seasonOf_16 rfl (lv_at hl 0 rfl) ?_
        refine rg_gR C0 hH (o2 := 417) (ci := 7) (k := 12) (o := 412) rfl rfl inT_X7 (by decide) tw_f_X7_23 (by decide) rfl (by decide) rfl dX7_seasonOf_17 ?_
        refine lv_bipush (v := 6) hx hb dX7_seasonOf_20 (by decide) ?_
        refine lv_iload_n hx hb dX7_seasonOf_22 rfl (lv_at hl 1 rfl) ?_
        refine lv_imul hx hb dX7_seasonOf_23 ?_
        refine rg_topi (y := nI (6 * v)) (by exact rm_mul (6) (v)) ?_
        refine lv_iload_n hx hb dX7_seasonOf_24 rfl (lv_at hl 2 rfl) ?_
        refine lv_iadd hx hb dX7_seasonOf_25 ?_
        refine rg_topi (y := nI ((6 * v) + i)) (by exact nI_add (6 * v) (i)) ?_
        refine rg_ialdN C0 hH (o := 417) (j := ((6 * v) + i)) (n0 := 216) (by decide) rfl rfl (by omega) dX7_seasonOf_26 ?_
        refine rg_iald C0 hH (o := 414) (by decide) rfl (rg_vin rfl (by exact hwi)) dX7_seasonOf_27 ?_
        refine lv_iconst (v := (-1)) hx hb dX7_seasonOf_28 (by decide) ?_
        refine lv_icmp_eq (tgt := 49) hx hb dX7_seasonOf_29 (by decide) (fun c_29 => ?_) (fun c_29 => ?_)
        · refine lv_iinc (v := nI (i + 1)) (lv' := [(2, .int (nI (i + 1))), (0, .ref (B + 412)), (1, .int (nI v))]) hx hb dX7_seasonOf_49 hl (k := 2) rfl (nI_1 _) (by decide) rfl (fun ls hl => ?_)
          refine lv_goto (tgt := 2) hx hb dX7_seasonOf_52 (by decide) ?_
          exact ih (i + 1) (by omega) _ _ _ hH (lv_sub hl [1, 2, 0] rfl) (by exact rm_fi_n hf c_29)
        · refine lv_aload_n hx hb dX7_seasonOf_32 rfl (lv_at hl 0 rfl) ?_
          refine rg_gR C0 hH (o2 := 414) (ci := 7) (k := 1) (o := 412) rfl rfl inT_X7 (by decide) tw_f_X7_13 (by decide) rfl (by decide) rfl dX7_seasonOf_33 ?_
          refine lv_aload_n hx hb dX7_seasonOf_36 rfl (lv_at hl 0 rfl) ?_
          refine rg_gR C0 hH (o2 := 417) (ci := 7) (k := 12) (o := 412) rfl rfl inT_X7 (by decide) tw_f_X7_23 (by decide) rfl (by decide) rfl dX7_seasonOf_37 ?_
          refine lv_bipush (v := 6) hx hb dX7_seasonOf_40 (by decide) ?_
          refine lv_iload_n hx hb dX7_seasonOf_42 rfl (lv_at hl 1 rfl) ?_
          refine lv_imul hx hb dX7_seasonOf_43 ?_
          refine rg_topi (y := nI (6 * v)) (by exact rm_mul (6) (v)) ?_
          refine lv_iload_n hx hb dX7_seasonOf_44 rfl (lv_at hl 2 rfl) ?_
          refine lv_iadd hx hb dX7_seasonOf_45 ?_
          refine rg_topi (y := nI ((6 * v) + i)) (by exact nI_add (6 * v) (i)) ?_
          refine rg_ialdN C0 hH (o := 417) (j := ((6 * v) + i)) (n0 := 216) (by decide) rfl rfl (by omega) dX7_seasonOf_46 ?_
          refine rg_iald C0 hH (o := 414) (by decide) rfl (rg_vin rfl (by exact hwi)) dX7_seasonOf_47 ?_
          exact rg_retRi C0 hH hr hlocks rfl (by exact (rm_fi_y hf c_29 _ hlt).symm) dX7_seasonOf_48
  exact cut_2 (rm_z M v + 1) 0 (by omega) _ _ _ hH (lv_sub hl [1, 2, 0] rfl) (by rfl)

set_option maxHeartbeats 4000000 in
set_option maxRecDepth 100000 in
/-- signsOf -/
theorem k_X7_signsOf (l : Launch) (E : rg_Env) (B : Nat) (M : rg_Mem) (v : Nat) (hI : rm_CI M) (hl9 : v < rm_nl M) : Met l yX7_signsOf (rg_w yX7_signsOf cX7_signsOf 4 (some (FieldType.int))) ({ frames := 0, cells := 0, slots := 0, locals := 0 } : Room) (va_Pc [.ref (B + 412), .int (nI v)] (rg_Pre E B 433 rg_R0 M)) (rg_Ri E B 433 rg_R0 (M) (fun r => r = rm_sgn M v)) 0 0 (rg_A B) := by
  refine rg_ofW (by decide +kernel) rfl (Nat.le_of_ble_eq_true rfl) ?_
  intro p e s m args below meth c ls C0 hH hl hr hlocks hnm
  replace hl : lv_has ls 4 [(0, .ref (B + 412)), (1, .int (nI v))] := hl
  have hx := C0.1.1
  have hb := C0.1.2.1
  generalize hH9 : s.heap = H at hH ⊢
  generalize hL9 : ([] : List Loc) = locs at hH ⊢
  clear hH9 hL9
  have hl36 := (rm_CI_l hI).2
  have hz6 := (rm_CI_v hI v hl9).2.1
  refine lv_iconst (v := 0) hx hb dX7_signsOf_0 (by decide) ?_
  refine lv_istore_n (lv' := [(2, .int (0)), (0, .ref (B + 412)), (1, .int (nI v))]) hx hb dX7_signsOf_1 rfl hl (by decide) rfl (fun ls hl => ?_)
  refine lv_iconst (v := 0) hx hb dX7_signsOf_2 (by decide) ?_
  refine lv_istore_n (lv' := [(3, .int (0)), (2, .int (0)), (0, .ref (B + 412)), (1, .int (nI v))]) hx hb dX7_signsOf_3 rfl hl (by decide) rfl (fun ls hl => ?_)
  have cut_4 : ∀ (fu i : Nat), i ≤ rm_z M v ∧ rm_z M v < i + fu → ∀  (H : Heap) (locs : List Loc) (ls : Array Slot), rg_H E B 433 rg_R0 M s H locs → lv_has ls 4 [(0, .ref (B + 412)), (1, .int (nI v)), (2, .int (rg_og (M.1 415) (rm_w M v) i)), (3, .int (nI i))] → W p l e ({ frames := 0, cells := 0, slots := 0, locals := 0 } : Room) s m args below meth c H locs 0 0 (MQ below (rg_Ri E B 433 rg_R0 (M) (fun r => r = rm_sgn M v)) args s 0 0 (rg_A B)) (F0 m 4 ls []) := by
    intro fu
    induction fu with
    | zero =>
      intro i hm
      exact absurd hm (by omega)
    | succ fu ih =>
      intro i hm  H locs ls hH hl 
      refine lv_iload_n hx hb dX7_signsOf_4 rfl (lv_at hl 3 rfl) ?_
      refine lv_aload_n hx hb dX7_signsOf_5 rfl (lv_at hl 0 rfl) ?_
      refine rg_gR C0 hH (o2 := 418) (ci := 7) (k := 13) (o := 412) rfl rfl inT_X7 (by decide) tw_f_X7_26 (by decide) rfl (by decide) rfl dX7_signsOf_6 ?_
      refine lv_iload_n hx hb dX7_signsOf_9 rfl (lv_at hl 1 rfl) ?_
      refine rg_ialdN C0 hH (o := 418) (j := v) (n0 := 36) (by decide) rfl rfl (by omega) dX7_signsOf_10 ?_
      refine rg_topi (y := nI (rm_z M v)) (by exact (rm_CI_v hI v hl9).1) ?_
      refine lv_icmp_ge (tgt := 39) hx hb dX7_signsOf_11 (by decide) (fun c_11 => ?_) (fun c_11 => ?_)
      · refine lv_iload_n hx hb dX7_signsOf_39 rfl (lv_at hl 2 rfl) ?_
        exact rg_retRi C0 hH hr hlocks rfl (by rw [rg_lp_end hm.1 (by omega) c_11]) dX7_signsOf_40
      · have hlt := rg_lp_lt hm.1 (by omega) c_11
        have hwi := rm_iw_in hI ((rm_CI_v hI v hl9).2.2 i hlt)
        refine lv_iload_n hx hb dX7_signsOf_14 rfl (lv_at hl 2 rfl) ?_
        refine lv_aload_n hx hb dX7_signsOf_15 rfl (lv_at hl 0 rfl) ?_
        refine rg_gR C0 hH (o2 := 415) (ci := 7) (k := 2) (o := 412) rfl rfl inT_X7 (by decide) tw_f_X7_16 (by decide) rfl (by decide) rfl dX7_signsOf_16 ?_
        refine lv_aload_n hx hb dX7_signsOf_19 rfl (lv_at hl 0 rfl) ?_
        refine rg_gR C0 hH (o2 := 417) (ci := 7) (k := 12) (o := 412) rfl rfl inT_X7 (by decide) tw_f_X7_23 (by decide) rfl (by decide) rfl dX7_signsOf_20 ?_
        refine lv_bipush (v := 6) hx hb dX7_signsOf_23 (by decide) ?_
        refine lv_iload_n hx hb dX7_signsOf_25 rfl (lv_at hl 1 rfl) ?_
        refine lv_imul hx hb dX7_signsOf_26 ?_
        refine rg_topi (y := nI (6 * v)) (by exact rm_mul (6) (v)) ?_
        refine lv_iload_n hx hb dX7_signsOf_27 rfl (lv_at hl 3 rfl) ?_
        refine lv_iadd hx hb dX7_signsOf_28 ?_
        refine rg_topi (y := nI ((6 * v) + i)) (by exact nI_add (6 * v) (i)) ?_
        refine rg_ialdN C0 hH (o := 417) (j := ((6 * v) + i)) (n0 := 216) (by decide) rfl rfl (by omega) dX7_signsOf_29 ?_
        refine rg_iald C0 hH (o := 415) (by decide) rfl (rg_vin rfl (by exact hwi)) dX7_signsOf_30 ?_
        refine lv_ior hx hb dX7_signsOf_31 ?_
        refine lv_istore_n (lv' := [(2, .int ((rg_og (M.1 415) (rm_w M v) i) ||| (M.1 415 ((M.1 417 (((6 * v) + i))).toNatClampNeg)))), (0, .ref (B + 412)), (1, .int (nI v)), (3, .int (nI i))]) hx hb dX7_signsOf_32 rfl hl (by decide) rfl (fun ls hl => ?_)
        refine lv_iinc (v := nI (i + 1)) (lv' := [(3, .int (nI (i + 1))), (2, .int ((rg_og (M.1 415) (rm_w M v) i) ||| (M.1 415 ((M.1 417 (((6 * v) + i))).toNatClampNeg)))), (0, .ref (B + 412)), (1, .int (nI v))]) hx hb dX7_signsOf_33 hl (k := 3) rfl (nI_1 _) (by decide) rfl (fun ls hl => ?_)
        refine lv_goto (tgt := 4) hx hb dX7_signsOf_36 (by decide) ?_
        exact ih (i + 1) (by omega) _ _ _ hH (lv_sub hl [2, 3, 1, 0] rfl)
  exact cut_4 (rm_z M v + 1) 0 (by omega) _ _ _ hH (lv_sub hl [2, 3, 1, 0] rfl)
