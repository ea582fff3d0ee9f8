set_option maxHeartbeats 4000000 in
set_option maxRecDepth 100000 in
/-- Long.bitCount -/
theorem k_J13_bitCount_95d88 (l : Launch) (E : rg_Env) (B : Nat) (M : rg_Mem) (x : Int64) : Met l yJ13_bitCount_95d88 (rg_w yJ13_bitCount_95d88 cJ13_bitCount_95d88 2 (some (FieldType.int))) ({ frames := 0, cells := 0, slots := 0, locals := 0 } : Room) (va_Pc [.long (x)] (rg_Pre E B 422 rg_R0 M)) (rg_Ri E B 422 rg_R0 (M) (fun r => r = rg_bc64 x)) 0 0 (rg_A B) := by
  refine rg_ofW (by decide +kernel) rfl (Nat.le_of_ble_eq_true rfl) ?_
  intro p e s m args below meth c ls C0 hH hl hr hlocks hnm
  replace hl : lv_has ls 2 [(0, .long (x))] := hl
  have hx := C0.1.1
  have hb := C0.1.2.1
  generalize hH9 : s.heap = H at hH ⊢
  generalize hL9 : ([] : List Loc) = locs at hH ⊢
  clear hH9 hL9
  refine lv_lload_n hx hb dJ13_bitCount_95d88_0 rfl (lv_at hl 0 rfl) ?_
  refine lv_lload_n hx hb dJ13_bitCount_95d88_1 rfl (lv_at hl 0 rfl) ?_
  refine lv_iconst (v := 1) hx hb dJ13_bitCount_95d88_2 (by decide) ?_
  refine lv_lushr hx hb dJ13_bitCount_95d88_3 rfl ?_
  refine lv_ldc2 (v := 6148914691236517205) hx hb C0.1.2.2.2.1 (C0.1.2.2.2.2 _ tw_q_J13_314) dJ13_bitCount_95d88_4 ?_
  refine lv_land hx hb dJ13_bitCount_95d88_7 ?_
  refine lv_lsub hx hb dJ13_bitCount_95d88_8 ?_
  refine lv_topl (fun x1 e_x1 => ?_)
  refine lv_lstore_n (lv' := [(0, .long (x1))]) hx hb dJ13_bitCount_95d88_9 rfl hl (by decide) rfl (fun ls hl => ?_)
  refine lv_lload_n hx hb dJ13_bitCount_95d88_10 rfl (lv_at hl 0 rfl) ?_
  refine lv_ldc2 (v := 3689348814741910323) hx hb C0.1.2.2.2.1 (C0.1.2.2.2.2 _ tw_q_J13_316) dJ13_bitCount_95d88_11 ?_
  refine lv_land hx hb dJ13_bitCount_95d88_14 ?_
  refine lv_lload_n hx hb dJ13_bitCount_95d88_15 rfl (lv_at hl 0 rfl) ?_
  refine lv_iconst (v := 2) hx hb dJ13_bitCount_95d88_16 (by decide) ?_
  refine lv_lushr hx hb dJ13_bitCount_95d88_17 rfl ?_
  refine lv_ldc2 (v := 3689348814741910323) hx hb C0.1.2.2.2.1 (C0.1.2.2.2.2 _ tw_q_J13_316) dJ13_bitCount_95d88_18 ?_
  refine lv_land hx hb dJ13_bitCount_95d88_21 ?_
  refine lv_ladd hx hb dJ13_bitCount_95d88_22 ?_
  refine lv_topl (fun x2 e_x2 => ?_)
  refine lv_lstore_n (lv' := [(0, .long (x2))]) hx hb dJ13_bitCount_95d88_23 rfl hl (by decide) rfl (fun ls hl => ?_)
  refine lv_lload_n hx hb dJ13_bitCount_95d88_24 rfl (lv_at hl 0 rfl) ?_
  refine lv_lload_n hx hb dJ13_bitCount_95d88_25 rfl (lv_at hl 0 rfl) ?_
  refine lv_iconst (v := 4) hx hb dJ13_bitCount_95d88_26 (by decide) ?_
  refine lv_lushr hx hb dJ13_bitCount_95d88_27 rfl ?_
  refine lv_ladd hx hb dJ13_bitCount_95d88_28 ?_
  refine lv_ldc2 (v := 1085102592571150095) hx hb C0.1.2.2.2.1 (C0.1.2.2.2.2 _ tw_q_J13_318) dJ13_bitCount_95d88_29 ?_
  refine lv_land hx hb dJ13_bitCount_95d88_32 ?_
  refine lv_topl (fun x3 e_x3 => ?_)
  refine lv_lstore_n (lv' := [(0, .long (x3))]) hx hb dJ13_bitCount_95d88_33 rfl hl (by decide) rfl (fun ls hl => ?_)
  refine lv_lload_n hx hb dJ13_bitCount_95d88_34 rfl (lv_at hl 0 rfl) ?_
  refine lv_lload_n hx hb dJ13_bitCount_95d88_35 rfl (lv_at hl 0 rfl) ?_
  refine lv_bipush (v := 8) hx hb dJ13_bitCount_95d88_36 (by decide) ?_
  refine lv_lushr hx hb dJ13_bitCount_95d88_38 rfl ?_
  refine lv_ladd hx hb dJ13_bitCount_95d88_39 ?_
  refine lv_topl (fun x4 e_x4 => ?_)
  refine lv_lstore_n (lv' := [(0, .long (x4))]) hx hb dJ13_bitCount_95d88_40 rfl hl (by decide) rfl (fun ls hl => ?_)
  refine lv_lload_n hx hb dJ13_bitCount_95d88_41 rfl (lv_at hl 0 rfl) ?_
  refine lv_lload_n hx hb dJ13_bitCount_95d88_42 rfl (lv_at hl 0 rfl) ?_
  refine lv_bipush (v := 16) hx hb dJ13_bitCount_95d88_43 (by decide) ?_
  refine lv_lushr hx hb dJ13_bitCount_95d88_45 rfl ?_
  refine lv_ladd hx hb dJ13_bitCount_95d88_46 ?_
  refine lv_topl (fun x5 e_x5 => ?_)
  refine lv_lstore_n (lv' := [(0, .long (x5))]) hx hb dJ13_bitCount_95d88_47 rfl hl (by decide) rfl (fun ls hl => ?_)
  refine lv_lload_n hx hb dJ13_bitCount_95d88_48 rfl (lv_at hl 0 rfl) ?_
  refine lv_lload_n hx hb dJ13_bitCount_95d88_49 rfl (lv_at hl 0 rfl) ?_
  refine lv_bipush (v := 32) hx hb dJ13_bitCount_95d88_50 (by decide) ?_
  refine lv_lushr hx hb dJ13_bitCount_95d88_52 rfl ?_
  refine lv_ladd hx hb dJ13_bitCount_95d88_53 ?_
  refine lv_topl (fun x6 e_x6 => ?_)
  refine lv_lstore_n (lv' := [(0, .long (x6))]) hx hb dJ13_bitCount_95d88_54 rfl hl (by decide) rfl (fun ls hl => ?_)
  refine lv_lload_n hx hb dJ13_bitCount_95d88_55 rfl (lv_at hl 0 rfl) ?_
  refine lv_l2i hx hb dJ13_bitCount_95d88_56 rfl ?_
  refine lv_bipush (v := 127) hx hb dJ13_bitCount_95d88_57 (by decide) ?_
  refine lv_iand hx hb dJ13_bitCount_95d88_59 ?_
  exact rg_retRi C0 hH hr hlocks rfl (by subst e_x1 e_x2 e_x3 e_x4 e_x5 e_x6; rfl) dJ13_bitCount_95d88_60

set_option maxHeartbeats 4000000 in
set_option maxRecDepth 100000 in
/-- Integer.bitCount -/
theorem k_J6_bitCount_0f7a4 (l : Launch) (E : rg_Env) (B : Nat) (M : rg_Mem) (x : Int32) : Met l yJ6_bitCount_0f7a4 (rg_w yJ6_bitCount_0f7a4 cJ6_bitCount_0f7a4 1 (some (FieldType.int))) ({ frames := 0, cells := 0, slots := 0, locals := 0 } : Room) (va_Pc [.int (x)] (rg_Pre E B 422 rg_R0 M)) (rg_Ri E B 422 rg_R0 (M) (fun r => r = rg_bc32 x)) 0 0 (rg_A B) := by
  refine rg_ofW (by decide +kernel) rfl (Nat.le_of_ble_eq_true rfl) ?_
  intro p e s m args below meth c ls C0 hH hl hr hlocks hnm
  replace hl : lv_has ls 1 [(0, .int (x))] := hl
  have hx := C0.1.1
  have hb := C0.1.2.1
  generalize hH9 : s.heap = H at hH ⊢
  generalize hL9 : ([] : List Loc) = locs at hH ⊢
  clear hH9 hL9
  refine lv_iload_n hx hb dJ6_bitCount_0f7a4_0 rfl (lv_at hl 0 rfl) ?_
  refine lv_iload_n hx hb dJ6_bitCount_0f7a4_1 rfl (lv_at hl 0 rfl) ?_
  refine lv_iconst (v := 1) hx hb dJ6_bitCount_0f7a4_2 (by decide) ?_
  refine lv_iushr hx hb dJ6_bitCount_0f7a4_3 rfl ?_
  refine lv_ldcw (v := 1431655765) hx hb C0.1.2.2.2.1 (C0.1.2.2.2.2 _ tw_q_J6_265) dJ6_bitCount_0f7a4_4 ?_
  refine lv_iand hx hb dJ6_bitCount_0f7a4_7 ?_
  refine lv_isub hx hb dJ6_bitCount_0f7a4_8 ?_
  refine lv_topi (fun x1 e_x1 => ?_)
  refine lv_istore_n (lv' := [(0, .int (x1))]) hx hb dJ6_bitCount_0f7a4_9 rfl hl (by decide) rfl (fun ls hl => ?_)
  refine lv_iload_n hx hb dJ6_bitCount_0f7a4_10 rfl (lv_at hl 0 rfl) ?_
  refine lv_ldcw (v := 858993459) hx hb C0.1.2.2.2.1 (C0.1.2.2.2.2 _ tw_q_J6_266) dJ6_bitCount_0f7a4_11 ?_
  refine lv_iand hx hb dJ6_bitCount_0f7a4_14 ?_
  refine lv_iload_n hx hb dJ6_bitCount_0f7a4_15 rfl (lv_at hl 0 rfl) ?_
  refine lv_iconst (v := 2) hx hb dJ6_bitCount_0f7a4_16 (by decide) ?_
  refine lv_iushr hx hb dJ6_bitCount_0f7a4_17 rfl ?_
  refine lv_ldcw (v := 858993459) hx hb C0.1.2.2.2.1 (C0.1.2.2.2.2 _ tw_q_J6_266) dJ6_bitCount_0f7a4_18 ?_
  refine lv_iand hx hb dJ6_bitCount_0f7a4_21 ?_
  refine lv_iadd hx hb dJ6_bitCount_0f7a4_22 ?_
  refine lv_topi (fun x2 e_x2 => ?_)
  refine lv_istore_n (lv' := [(0, .int (x2))]) hx hb dJ6_bitCount_0f7a4_23 rfl hl (by decide) rfl (fun ls hl => ?_)
  refine lv_iload_n hx hb dJ6_bitCount_0f7a4_24 rfl (lv_at hl 0 rfl) ?_
  refine lv_iload_n hx hb dJ6_bitCount_0f7a4_25 rfl (lv_at hl 0 rfl) ?_
  refine lv_iconst (v := 4) hx hb dJ6_bitCount_0f7a4_26 (by decide) ?_
  refine lv_iushr hx hb dJ6_bitCount_0f7a4_27 rfl ?_
  refine lv_iadd hx hb dJ6_bitCount_0f7a4_28 ?_
  refine lv_ldcw (v := 252645135) hx hb C0.1.2.2.2.1 (C0.1.2.2.2.2 _ tw_q_J6_267) dJ6_bitCount_0f7a4_29 ?_
  refine lv_iand hx hb dJ6_bitCount_0f7a4_32 ?_
  refine lv_topi (fun x3 e_x3 => ?_)
  refine lv_istore_n (lv' := [(0, .int (x3))]) hx hb dJ6_bitCount_0f7a4_33 rfl hl (by decide) rfl (fun ls hl => ?_)
  refine lv_iload_n hx hb dJ6_bitCount_0f7a4_34 rfl (lv_at hl 0 rfl) ?_
  refine lv_iload_n hx hb dJ6_bitCount_0f7a4_35 rfl (lv_at hl 0 rfl) ?_
  refine lv_bipush (v := 8) hx hb dJ6_bitCount_0f7a4_36 (by decide) ?_
  refine lv_iushr hx hb dJ6_bitCount_0f7a4_38 rfl ?_
  refine lv_iadd hx hb dJ6_bitCount_0f7a4_39 ?_
  refine lv_topi (fun x4 e_x4 => ?_)
  refine lv_istore_n (lv' := [(0, .int (x4))]) hx hb dJ6_bitCount_0f7a4_40 rfl hl (by decide) rfl (fun ls hl => ?_)
  refine lv_iload_n hx hb dJ6_bitCount_0f7a4_41 rfl (lv_at hl 0 rfl) ?_
  refine lv_iload_n hx hb dJ6_bitCount_0f7a4_42 rfl (lv_at hl 0 rfl) ?_
  refine lv_bipush (v := 16) hx hb dJ6_bitCount_0f7a4_43 (by decide) ?_
  refine lv_iushr hx hb dJ6_bitCount_0f7a4_45 rfl ?_
  refine lv_iadd hx hb dJ6_bitCount_0f7a4_46 ?_
  refine lv_topi (fun x5 e_x5 => ?_)
  refine lv_istore_n (lv' := [(0, .int (x5))]) hx hb dJ6_bitCount_0f7a4_47 rfl hl (by decide) rfl (fun ls hl => ?_)
  refine lv_iload_n hx hb dJ6_bitCount_0f7a4_48 rfl (lv_at hl 0 rfl) ?_
  refine lv_bipush (v := 63) hx hb dJ6_bitCount_0f7a4_49 (by decide) ?_
  refine lv_iand hx hb dJ6_bitCount_0f7a4_51 ?_
  exact rg_retRi C0 hH hr hlocks rfl (by subst e_x1 e_x2 e_x3 e_x4 e_x5; rfl) dJ6_bitCount_0f7a4_52

set_option maxHeartbeats 4000000 in
set_option maxRecDepth 100000 in
/-- distance -/
theorem k_X6_distance (l : Launch) (E : rg_Env) (B : Nat) (M : rg_Mem) (t : Int32) (u : Int32) (hI : rg_CI M) : Met l yX6_distance (rg_w yX6_distance cX6_distance 6 (some (FieldType.int))) ({ frames := 3, cells := 0, slots := 0, locals := 68 } : Room) (va_Pc [.ref (B + 0), .int (t), .int (u)] (rg_Pre E B 422 rg_R0 M)) (rg_Ri E B 422 rg_R0 (M) (fun r => r = rg_fa M t u)) 0 0 (rg_A B) := by
  refine rg_ofW (by decide +kernel) rfl (Nat.le_of_ble_eq_true rfl) ?_
  intro p e s m args below meth c ls C0 hH hl hr hlocks hnm
  replace hl : lv_has ls 6 [(0, .ref (B + 0)), (1, .int (t)), (2, .int (u))] := hl
  have hx := C0.1.1
  have hb := C0.1.2.1
  generalize hH9 : s.heap = H at hH ⊢
  generalize hL9 : ([] : List Loc) = locs at hH ⊢
  clear hH9 hL9
  refine lv_iconst (v := 0) hx hb dX6_distance_0 (by decide) ?_
  refine lv_istore_n (lv' := [(3, .int (0)), (0, .ref (B + 0)), (1, .int (t)), (2, .int (u))]) hx hb dX6_distance_1 rfl hl (by decide) rfl (fun ls hl => ?_)
  refine lv_iconst (v := 0) hx hb dX6_distance_2 (by decide) ?_
  refine lv_istore (lv' := [(4, .int (0)), (3, .int (0)), (0, .ref (B + 0)), (1, .int (t)), (2, .int (u))]) hx hb dX6_distance_3 hl (by decide) rfl (fun ls hl => ?_)
  have cut_5 : ∀ (fu i : Nat), i ≤ 36 ∧ 36 < i + fu → ∀  (H : Heap) (locs : List Loc) (ls : Array Slot), rg_H E B 422 rg_R0 M s H locs → lv_has ls 6 [(0, .ref (B + 0)), (1, .int (t)), (2, .int (u)), (3, .int (nI (rg_dd (rg_tk M t) (rg_tk M u) i))), (4, .int (nI i))] → W p l e ({ frames := 3, cells := 0, slots := 0, locals := 68 } : Room) s m args below meth c H locs 0 0 (MQ below (rg_Ri E B 422 rg_R0 (M) (fun r => r = rg_fa M t u)) args s 0 0 (rg_A B)) (F0 m 5 ls []) := by
    intro fu
    induction fu with
    | zero =>
      intro i hm
      exact absurd hm (by omega)
    | succ fu ih =>
      intro i hm  H locs ls hH hl 
      refine lv_iload hx hb dX6_distance_5 (lv_at hl 4 rfl) ?_
      refine lv_bipush (v := 36) hx hb dX6_distance_7 (by decide) ?_
      refine lv_icmp_ge (tgt := 58) hx hb dX6_distance_9 (by decide) (fun c_9 => ?_) (fun c_9 => ?_)
      · refine lv_iload_n hx hb dX6_distance_58 rfl (lv_at hl 3 rfl) ?_
        exact rg_retRi C0 hH hr hlocks rfl (by rw [rg_lp_end (n := 36) hm.1 (by omega) c_9]) dX6_distance_59
      · have hlt := rg_lp_lt (n := 36) hm.1 (by omega) c_9
        refine lv_iconst (v := 0) hx hb dX6_distance_12 (by decide) ?_
        refine lv_istore (lv' := [(5, .int (0)), (0, .ref (B + 0)), (1, .int (t)), (2, .int (u)), (3, .int (nI (rg_dd (rg_tk M t) (rg_tk M u) i))), (4, .int (nI i))]) hx hb dX6_distance_13 hl (by decide) rfl (fun ls hl => ?_)
        have cut_15 : ∀ (fu2 i2 : Nat), i2 ≤ 6 ∧ 6 < i2 + fu2 → ∀  (H : Heap) (locs : List Loc) (ls : Array Slot), rg_H E B 422 rg_R0 M s H locs → lv_has ls 6 [(0, .ref (B + 0)), (1, .int (t)), (2, .int (u)), (3, .int (nI (rg_dd (rg_tk M t) (rg_tk M u) i + rg_df (rg_tk M t) (rg_tk M u) i i2))), (4, .int (nI i)), (5, .int (nI i2))] → W p l e ({ frames := 3, cells := 0, slots := 0, locals := 68 } : Room) s m args below meth c H locs 0 0 (MQ below (rg_Ri E B 422 rg_R0 (M) (fun r => r = rg_fa M t u)) args s 0 0 (rg_A B)) (F0 m 15 ls []) := by
          intro fu2
          induction fu2 with
          | zero =>
            intro i2 hm2
            exact absurd hm2 (by omega)
          | succ fu2 ih2 =>
            intro i2 hm2  H locs ls hH hl 
            refine lv_iload hx hb dX6_distance_15 (lv_at hl 5 rfl) ?_
            refine lv_bipush (v := 6) hx hb dX6_distance_17 (by decide) ?_
            refine lv_icmp_ge (tgt := 52) hx hb dX6_distance_19 (by decide) (fun c_19 => ?_) (fun c_19 => ?_)
            · have q2 := rg_lp_end (n := 6) hm2.1 (by omega) c_19
              subst q2
              refine lv_iinc (v := nI (i + 1)) (lv' := [(4, .int (nI (i + 1))), (0, .ref (B + 0)), (1, .int (t)), (2, .int (u)), (3, .int (nI (rg_dd (rg_tk M t) (rg_tk M u) i + rg_df (rg_tk M t) (rg_tk M u) i 6))), (5, .int (nI 6))]) hx hb dX6_distance_52 hl (k := 4) rfl (nI_1 _) (by decide) rfl (fun ls hl => ?_)
              refine lv_goto (tgt := 5) hx hb dX6_distance_55 (by decide) ?_
              exact ih (i + 1) (by omega) _ _ _ hH (lv_sub hl [1, 2, 3, 4, 0] rfl)
            · have hlt2 := rg_lp_lt (n := 6) hm2.1 (by omega) c_19
              refine lv_aload_n hx hb dX6_distance_22 rfl (lv_at hl 0 rfl) ?_
              refine lv_iload_n hx hb dX6_distance_23 rfl (lv_at hl 1 rfl) ?_
              refine lv_iload hx hb dX6_distance_24 (lv_at hl 4 rfl) ?_
              refine lv_iload hx hb dX6_distance_26 (lv_at hl 5 rfl) ?_
              refine rg_callGi C0 hH (As := [.int (t), .int (nI i), .int (nI i2)]) (rest := []) (o := 0) (ci := 6) (k_X6_textWord l E B M t (nI i) (nI i2) (by exact hI)) (rg_cw 3 C0.1.2.2.2.2 tw_m_X6_216 tw_i_X6_textWord tw_v_X6_textWord tw_n_X6 tw_c_X6_textWord rfl rfl hd_X6_textWord ⟨Nat.le_of_ble_eq_true rfl, Nat.le_of_ble_eq_true rfl⟩) rfl (by decide) rfl (by decide) rfl hl.1 rfl (Nat.le_of_ble_eq_true rfl) dX6_distance_28 ⟨Nat.le_of_ble_eq_true rfl, Nat.le_of_ble_eq_true rfl⟩ (fun H locs hH => ?_)
              refine lv_aload_n hx hb dX6_distance_31 rfl (lv_at hl 0 rfl) ?_
              refine lv_iload_n hx hb dX6_distance_32 rfl (lv_at hl 2 rfl) ?_
              refine lv_iload hx hb dX6_distance_33 (lv_at hl 4 rfl) ?_
              refine lv_iload hx hb dX6_distance_35 (lv_at hl 5 rfl) ?_
              refine rg_callGi C0 hH (As := [.int (u), .int (nI i), .int (nI i2)]) (rest := [.int (rg_tw M t (nI i) (nI i2))]) (o := 0) (ci := 6) (k_X6_textWord l E B M u (nI i) (nI i2) (by exact hI)) (rg_cw 3 C0.1.2.2.2.2 tw_m_X6_216 tw_i_X6_textWord tw_v_X6_textWord tw_n_X6 tw_c_X6_textWord rfl rfl hd_X6_textWord ⟨Nat.le_of_ble_eq_true rfl, Nat.le_of_ble_eq_true rfl⟩) rfl (by decide) rfl (by decide) rfl hl.1 rfl (Nat.le_of_ble_eq_true rfl) dX6_distance_37 ⟨Nat.le_of_ble_eq_true rfl, Nat.le_of_ble_eq_true rfl⟩ (fun H locs hH => ?_)
              refine lv_icmp_eq (tgt := 46) hx hb dX6_distance_40 (by decide) (fun c_40 => ?_) (fun c_40 => ?_)
              · refine lv_iinc (v := nI (i2 + 1)) (lv' := [(5, .int (nI (i2 + 1))), (0, .ref (B + 0)), (1, .int (t)), (2, .int (u)), (3, .int (nI (rg_dd (rg_tk M t) (rg_tk M u) i + rg_df (rg_tk M t) (rg_tk M u) i i2))), (4, .int (nI i))]) hx hb dX6_distance_46 hl (k := 5) rfl (nI_1 _) (by decide) rfl (fun ls hl => ?_)
                refine lv_goto (tgt := 15) hx hb dX6_distance_49 (by decide) ?_
                replace hl : lv_has ls 6 [(5, .int (nI (i2 + 1))), (0, .ref (B + 0)), (1, .int (t)), (2, .int (u)), (3, .int (nI (rg_dd (rg_tk M t) (rg_tk M u) i + rg_df (rg_tk M t) (rg_tk M u) i (i2 + 1)))), (4, .int (nI i))] := by rw [rg_df_t c_40]; exact hl
                exact ih2 (i2 + 1) (by omega) _ _ _ hH (lv_sub hl [1, 2, 3, 4, 5, 0] rfl)
              · refine lv_iinc (v := nI ((rg_dd (rg_tk M t) (rg_tk M u) i + rg_df (rg_tk M t) (rg_tk M u) i i2) + 1)) (lv' := [(3, .int (nI ((rg_dd (rg_tk M t) (rg_tk M u) i + rg_df (rg_tk M t) (rg_tk M u) i i2) + 1))), (0, .ref (B + 0)), (1, .int (t)), (2, .int (u)), (4, .int (nI i)), (5, .int (nI i2))]) hx hb dX6_distance_43 hl (k := 3) rfl (nI_1 _) (by decide) rfl (fun ls hl => ?_)
                refine lv_iinc (v := nI (i2 + 1)) (lv' := [(5, .int (nI (i2 + 1))), (3, .int (nI ((rg_dd (rg_tk M t) (rg_tk M u) i + rg_df (rg_tk M t) (rg_tk M u) i i2) + 1))), (0, .ref (B + 0)), (1, .int (t)), (2, .int (u)), (4, .int (nI i))]) hx hb dX6_distance_46 hl (k := 5) rfl (nI_1 _) (by decide) rfl (fun ls hl => ?_)
                refine lv_goto (tgt := 15) hx hb dX6_distance_49 (by decide) ?_
                replace hl : lv_has ls 6 [(5, .int (nI (i2 + 1))), (3, .int (nI (rg_dd (rg_tk M t) (rg_tk M u) i + rg_df (rg_tk M t) (rg_tk M u) i (i2 + 1)))), (0, .ref (B + 0)), (1, .int (t)), (2, .int (u)), (4, .int (nI i))] := by rw [rg_df_f c_40]; exact hl
                exact ih2 (i2 + 1) (by omega) _ _ _ hH (lv_sub hl [2, 3, 4, 1, 5, 0] rfl)
        exact cut_15 7 0 (by omega) _ _ _ hH (lv_sub hl [1, 2, 3, 4, 5, 0] rfl)
  exact cut_5 37 0 (by omega) _ _ _ hH (lv_sub hl [2, 3, 4, 1, 0] rfl)

set_option maxHeartbeats 4000000 in
set_option maxRecDepth 100000 in
/-- far -/
theorem k_X6_far (l : Launch) (hst : l.stackTraces = false) (E : rg_Env) (B : Nat) (M : rg_Mem) (t : Int32) (u : Int32) (hI : rg_CI M) : vx_Met l yX6_far (rg_w yX6_far cX6_far 3 (some (FieldType.int))) ({ frames := 8, cells := 3, slots := 18, locals := 132 } : Room) (va_Pc [.ref (B + 0), .int (t), .int (u)] (rg_Pre E B 422 rg_R0 M)) (rg_Ri E B 422 rg_R0 (M) (fun r => ((rg_tx M t ∧ rg_tx M u) ∧ ¬ M.1 6 0 ≤ 0) ∧ r = rg_fa M t u)) (rg_X E B 422 rg_R0 M (fun X => (¬ (rg_tx M t ∧ rg_tx M u) ∧ X = "java/lang/IndexOutOfBoundsException") ∨ ((rg_tx M t ∧ rg_tx M u) ∧ ¬ (¬ M.1 6 0 ≤ 0) ∧ X = "java/lang/IllegalStateException"))) 3 18 (rg_A B) := by
  refine rg_xofW (by decide +kernel) rfl (Nat.le_of_ble_eq_true rfl) ?_
  intro p e s m args below meth c ls hne C0 hH hl hr hlocks
  replace hl : lv_has ls 3 [(0, .ref (B + 0)), (1, .int (t)), (2, .int (u))] := hl
  have hx := C0.1.1
  have hb := C0.1.2.1
  generalize hH9 : s.heap = H at hH ⊢
  generalize hL9 : ([] : List Loc) = locs at hH ⊢
  clear hH9 hL9
  refine lv_aload_n hx hb dX6_far_0 rfl (lv_at hl 0 rfl) ?_
  refine lv_iload_n hx hb dX6_far_1 rfl (lv_at hl 1 rfl) ?_
  refine rg_xcallRv C0 hH (As := [.int (t)]) (rest := []) (o := 0) (ci := 6) hne hlocks (fun X hX => by exact Or.inl ⟨fun q => hX.1 q.1, hX.2⟩) (k_X6_needText l hst E B M t) (rg_cw 1 C0.1.2.2.2.2 tw_m_X6_201 tw_i_X6_needText tw_v_X6_needText tw_n_X6 tw_c_X6_needText rfl rfl hd_X6_needText ⟨Nat.le_of_ble_eq_true rfl, Nat.le_of_ble_eq_true rfl⟩) rfl (by decide) rfl (by decide) rfl hl.1 rfl (Nat.le_of_ble_eq_true rfl) dX6_far_2 ⟨Nat.le_of_ble_eq_true rfl, Nat.le_of_ble_eq_true rfl⟩ ⟨Nat.le_of_ble_eq_true rfl, Nat.le_of_ble_eq_true rfl⟩ (fun H locs e_2 hH => ?_)
  refine lv_aload_n hx hb dX6_far_5 rfl (lv_at hl 0 rfl) ?_
  refine lv_iload_n hx hb dX6_far_6 rfl (lv_at hl 2 rfl) ?_
  refine rg_xcallRv C0 hH (As := [.int (u)]) (rest := []) (o := 0) (ci := 6) hne hlocks (fun X hX => by exact Or.inl ⟨fun q => hX.1 q.2, hX.2⟩) (k_X6_needText l hst E B M u) (rg_cw 1 C0.1.2.2.2.2 tw_m_X6_201 tw_i_X6_needText tw_v_X6_needText tw_n_X6 tw_c_X6_needText rfl rfl hd_X6_needText ⟨Nat.le_of_ble_eq_true rfl, Nat.le_of_ble_eq_true rfl⟩) rfl (by decide) rfl (by decide) rfl hl.1 rfl (Nat.le_of_ble_eq_true rfl) dX6_far_7 ⟨Nat.le_of_ble_eq_true rfl, Nat.le_of_ble_eq_true rfl⟩ ⟨Nat.le_of_ble_eq_true rfl, Nat.le_of_ble_eq_true rfl⟩ (fun H locs e_7 hH => ?_)
  refine lv_aload_n hx hb dX6_far_10 rfl (lv_at hl 0 rfl) ?_
  refine rg_xcallRv C0 hH (As := []) (rest := []) (o := 0) (ci := 6) hne hlocks (fun X hX => by exact Or.inr ⟨⟨e_2, e_7⟩, hX.1, hX.2⟩) (k_X6_needPoem l hst E B M) (rg_cw 0 C0.1.2.2.2.2 tw_m_X6_204 tw_i_X6_needPoem tw_v_X6_needPoem tw_n_X6 tw_c_X6_needPoem rfl rfl hd_X6_needPoem ⟨Nat.le_of_ble_eq_true rfl, Nat.le_of_ble_eq_true rfl⟩) rfl (by decide) rfl (by decide) rfl hl.1 rfl (Nat.le_of_ble_eq_true rfl) dX6_far_11 ⟨Nat.le_of_ble_eq_true rfl, Nat.le_of_ble_eq_true rfl⟩ ⟨Nat.le_of_ble_eq_true rfl, Nat.le_of_ble_eq_true rfl⟩ (fun H locs e_11 hH => ?_)
  refine lv_aload_n hx hb dX6_far_14 rfl (lv_at hl 0 rfl) ?_
  refine lv_iload_n hx hb dX6_far_15 rfl (lv_at hl 1 rfl) ?_
  refine lv_iload_n hx hb dX6_far_16 rfl (lv_at hl 2 rfl) ?_
  refine rg_callGi C0 hH (As := [.int (t), .int (u)]) (rest := []) (o := 0) (ci := 6) (k_X6_distance l E B M t u (by exact hI)) (rg_cw 2 C0.1.2.2.2.2 tw_m_X6_265 tw_i_X6_distance tw_v_X6_distance tw_n_X6 tw_c_X6_distance rfl rfl hd_X6_distance ⟨Nat.le_of_ble_eq_true rfl, Nat.le_of_ble_eq_true rfl⟩) rfl (by decide) rfl (by decide) rfl hl.1 rfl (Nat.le_of_ble_eq_true rfl) dX6_far_17 ⟨Nat.le_of_ble_eq_true rfl, Nat.le_of_ble_eq_true rfl⟩ (fun H locs hH => ?_)
  refine vx_ret ?_
  refine W.widen (k := 3) (n := 18) (Nat.le_of_ble_eq_true rfl) (Nat.le_of_ble_eq_true rfl) ?_
  exact rg_retRi C0 hH hr hlocks rfl (by exact ⟨⟨⟨e_2, e_7⟩, e_11⟩, rfl⟩) dX6_far_20

set_option maxHeartbeats 4000000 in
set_option maxRecDepth 100000 in
/-- source -/
theorem k_X6_source (l : Launch) (hst : l.stackTraces = false) (E : rg_Env) (B : Nat) (M : rg_Mem) (x : Int32) (hI : rg_CI M) : vx_Met l yX6_source (rg_w yX6_source cX6_source 6 (some (FieldType.int))) ({ frames := 7, cells := 1, slots := 6, locals := 111 } : Room) (va_Pc [.ref (B + 0), .int (x)] (rg_Pre E B 422 rg_R0 M)) (rg_Ri E B 422 rg_R0 (M) (fun r => rg_cp M x ∧ r = (rg_so (fun k => rg_fa M x (nI k)) (rg_fa M x (-1)) x (rg_nc M)).1)) (rg_X E B 422 rg_R0 M (fun X => ¬ rg_cp M x ∧ X = "java/lang/IndexOutOfBoundsException")) 1 6 (rg_A B) := by
  refine rg_xofW (by decide +kernel) rfl (Nat.le_of_ble_eq_true rfl) ?_
  intro p e s m args below meth c ls hne C0 hH hl hr hlocks
  replace hl : lv_has ls 6 [(0, .ref (B + 0)), (1, .int (x))] := hl
  have hx := C0.1.1
  have hb := C0.1.2.1
  generalize hH9 : s.heap = H at hH ⊢
  generalize hL9 : ([] : List Loc) = locs at hH ⊢
  clear hH9 hL9
  refine lv_aload_n hx hb dX6_source_0 rfl (lv_at hl 0 rfl) ?_
  refine lv_iload_n hx hb dX6_source_1 rfl (lv_at hl 1 rfl) ?_
  refine rg_xcallRv C0 hH (As := [.int (x)]) (rest := []) (o := 0) (ci := 6) hne hlocks (fun X hX => by exact hX) (k_X6_needCopy l hst E B M x) (rg_cw 1 C0.1.2.2.2.2 tw_m_X6_213 tw_i_X6_needCopy tw_v_X6_needCopy tw_n_X6 tw_c_X6_needCopy rfl rfl hd_X6_needCopy ⟨Nat.le_of_ble_eq_true rfl, Nat.le_of_ble_eq_true rfl⟩) rfl (by decide) rfl (by decide) rfl hl.1 rfl (Nat.le_of_ble_eq_true rfl) dX6_source_2 ⟨Nat.le_of_ble_eq_true rfl, Nat.le_of_ble_eq_true rfl⟩ ⟨Nat.le_of_ble_eq_true rfl, Nat.le_of_ble_eq_true rfl⟩ (fun H locs e_2 hH => ?_)
  refine lv_iconst (v := (-1)) hx hb dX6_source_5 (by decide) ?_
  refine lv_istore_n (lv' := [(2, .int ((-1))), (0, .ref (B + 0)), (1, .int (x))]) hx hb dX6_source_6 rfl hl (by decide) rfl (fun ls hl => ?_)
  refine lv_aload_n hx hb dX6_source_7 rfl (lv_at hl 1 rfl) ?_
  refine lv_iload_n hx hb dX6_source_8 rfl (lv_at hl 2 rfl) ?_
  refine lv_iconst (v := (-1)) hx hb dX6_source_9 (by decide) ?_
  refine rg_callGi C0 hH (As := [.int (x), .int ((-1))]) (rest := []) (o := 0) (ci := 6) (k_X6_distance l E B M x ((-1)) (by exact hI)) (rg_cw 2 C0.1.2.2.2.2 tw_m_X6_265 tw_i_X6_distance tw_v_X6_distance tw_n_X6 tw_c_X6_distance rfl rfl hd_X6_distance ⟨Nat.le_of_ble_eq_true rfl, Nat.le_of_ble_eq_true rfl⟩) rfl (by decide) rfl (by decide) rfl hl.1 rfl (Nat.le_of_ble_eq_true rfl) dX6_source_10 ⟨Nat.le_of_ble_eq_true rfl, Nat.le_of_ble_eq_true rfl⟩ (fun H locs hH => ?_)
  refine lv_istore_n (lv' := [(3, .int (rg_fa M x ((-1)))), (2, .int ((-1))), (0, .ref (B + 0)), (1, .int (x))]) hx hb dX6_source_13 rfl hl (by decide) rfl (fun ls hl => ?_)
  refine lv_iconst (v := 0) hx hb dX6_source_14 (by decide) ?_
  refine lv_istore (lv' := [(4, .int (0)), (3, .int (rg_fa M x ((-1)))), (2, .int ((-1))), (0, .ref (B + 0)), (1, .int (x))]) hx hb dX6_source_15 hl (by decide) rfl (fun ls hl => ?_)
  have cut_17 : ∀ (fu i : Nat), i ≤ rg_nc M ∧ rg_nc M < i + fu → ∀  (H : Heap) (locs : List Loc) (ls : Array Slot), rg_H E B 422 rg_R0 M s H locs → lv_has ls 6 [(0, .ref (B + 0)), (1, .int (x)), (2, .int ((rg_so (fun k => rg_fa M x (nI k)) (rg_fa M x (-1)) x i).1)), (3, .int ((rg_so (fun k => rg_fa M x (nI k)) (rg_fa M x (-1)) x i).2)), (4, .int (nI i))] → W p l e ({ frames := 7, cells := 1, slots := 6, locals := 111 } : Room) s m args below meth c H locs 1 6 (vx_MQ below (rg_Ri E B 422 rg_R0 (M) (fun r => rg_cp M x ∧ r = (rg_so (fun k => rg_fa M x (nI k)) (rg_fa M x (-1)) x (rg_nc M)).1)) (rg_X E B 422 rg_R0 M (fun X => ¬ rg_cp M x ∧ X = "java/lang/IndexOutOfBoundsException")) args s 1 6 (rg_A B)) (F0 m 17 ls []) := by
    intro fu
    induction fu with
    | zero =>
      intro i hm
      exact absurd hm (by omega)
    | succ fu ih =>
      intro i hm  H locs ls hH hl 
      refine lv_iload hx hb dX6_source_17 (lv_at hl 4 rfl) ?_
      refine lv_aload_n hx hb dX6_source_19 rfl (lv_at hl 0 rfl) ?_
      refine rg_gI C0 hH (ci := 6) (k := 11) (o := 0) rfl inT_X6 (by decide) tw_f_X6_120 (by decide) rfl (by decide) rfl dX6_source_20 ?_
      refine rg_topi (y := nI (rg_nc M)) (by exact (rg_CI_c hI).1) ?_
      refine lv_icmp_ge (tgt := 59) hx hb dX6_source_23 (by decide) (fun c_23 => ?_) (fun c_23 => ?_)
      · refine lv_iload_n hx hb dX6_source_59 rfl (lv_at hl 2 rfl) ?_
        refine vx_ret ?_
        refine W.widen (k := 1) (n := 6) (Nat.le_of_ble_eq_true rfl) (Nat.le_of_ble_eq_true rfl) ?_
        exact rg_retRi C0 hH hr hlocks rfl (by refine ⟨e_2, ?_⟩; rw [rg_lp_end hm.1 (by have := (rg_CI_c hI).2; omega) c_23]) dX6_source_60
      · have hlt := rg_lp_lt hm.1 (by have := (rg_CI_c hI).2; omega) c_23
        refine lv_aload_n hx hb dX6_source_26 rfl (lv_at hl 0 rfl) ?_
        refine lv_iload_n hx hb dX6_source_27 rfl (lv_at hl 1 rfl) ?_
        refine lv_iload hx hb dX6_source_28 (lv_at hl 4 rfl) ?_
        refine rg_callGi C0 hH (As := [.int (x), .int (nI i)]) (rest := []) (o := 0) (ci := 6) (k_X6_distance l E B M x (nI i) (by exact hI)) (rg_cw 2 C0.1.2.2.2.2 tw_m_X6_265 tw_i_X6_distance tw_v_X6_distance tw_n_X6 tw_c_X6_distance rfl rfl hd_X6_distance ⟨Nat.le_of_ble_eq_true rfl, Nat.le_of_ble_eq_true rfl⟩) rfl (by decide) rfl (by decide) rfl hl.1 rfl (Nat.le_of_ble_eq_true rfl) dX6_source_30 ⟨Nat.le_of_ble_eq_true rfl, Nat.le_of_ble_eq_true rfl⟩ (fun H locs hH => ?_)
        refine lv_istore (lv' := [(5, .int (rg_fa M x (nI i))), (0, .ref (B + 0)), (1, .int (x)), (2, .int ((rg_so (fun k => rg_fa M x (nI k)) (rg_fa M x (-1)) x i).1)), (3, .int ((rg_so (fun k => rg_fa M x (nI k)) (rg_fa M x (-1)) x i).2)), (4, .int (nI i))]) hx hb dX6_source_33 hl (by decide) rfl (fun ls hl => ?_)
        refine lv_iload hx hb dX6_source_35 (lv_at hl 5 rfl) ?_
        refine lv_iload_n hx hb dX6_source_37 rfl (lv_at hl 2 rfl) ?_
        refine lv_icmp_eq (tgt := 53) hx hb dX6_source_38 (by decide) (fun c_38 => ?_) (fun c_38 => ?_)
        · refine lv_iinc (v := nI (i + 1)) (lv' := [(4, .int (nI (i + 1))), (5, .int (rg_fa M x (nI i))), (0, .ref (B + 0)), (1, .int (x)), (2, .int ((rg_so (fun k => rg_fa M x (nI k)) (rg_fa M x (-1)) x i).1)), (3, .int ((rg_so (fun k => rg_fa M x (nI k)) (rg_fa M x (-1)) x i).2))]) hx hb dX6_source_53 hl (k := 5) rfl (nI_1 _) (by decide) rfl (fun ls hl => ?_)
          refine lv_goto (tgt := 17) hx hb dX6_source_56 (by decide) ?_
          replace hl : lv_has ls 6 [(4, .int (nI (i + 1))), (5, .int (rg_fa M x (nI i))), (0, .ref (B + 0)), (1, .int (x)), (2, .int ((rg_so (fun k => rg_fa M x (nI k)) (rg_fa M x (-1)) x (i + 1)).1)), (3, .int ((rg_so (fun k => rg_fa M x (nI k)) (rg_fa M x (-1)) x (i + 1)).2))] := by rw [rg_so_f (fun q => q.1 c_38)]; exact hl
          exact ih (i + 1) (by omega) _ _ _ hH (lv_sub hl [2, 3, 4, 5, 0] rfl)
        · refine lv_iload hx hb dX6_source_41 (lv_at hl 0 rfl) ?_
          refine lv_iload_n hx hb dX6_source_43 rfl (lv_at hl 4 rfl) ?_
          refine lv_icmp_ge (tgt := 53) hx hb dX6_source_44 (by decide) (fun c_44 => ?_) (fun c_44 => ?_)
          · refine lv_iinc (v := nI (i + 1)) (lv' := [(4, .int (nI (i + 1))), (5, .int (rg_fa M x (nI i))), (0, .ref (B + 0)), (1, .int (x)), (2, .int ((rg_so (fun k => rg_fa M x (nI k)) (rg_fa M x (-1)) x i).1)), (3, .int ((rg_so (fun k => rg_fa M x (nI k)) (rg_fa M x (-1)) x i).2))]) hx hb dX6_source_53 hl (k := 5) rfl (nI_1 _) (by decide) rfl (fun ls hl => ?_)
            refine lv_goto (tgt := 17) hx hb dX6_source_56 (by decide) ?_
            replace hl : lv_has ls 6 [(4, .int (nI (i + 1))), (5, .int (rg_fa M x (nI i))), (0, .ref (B + 0)), (1, .int (x)), (2, .int ((rg_so (fun k => rg_fa M x (nI k)) (rg_fa M x (-1)) x (i + 1)).1)), (3, .int ((rg_so (fun k => rg_fa M x (nI k)) (rg_fa M x (-1)) x (i + 1)).2))] := by rw [rg_so_f (fun q => q.2 c_44)]; exact hl
            exact ih (i + 1) (by omega) _ _ _ hH (lv_sub hl [2, 3, 4, 5, 0] rfl)
          · refine lv_iload hx hb dX6_source_47 (lv_at hl 5 rfl) ?_
            refine lv_istore_n (lv' := [(2, .int (nI i)), (5, .int (rg_fa M x (nI i))), (0, .ref (B + 0)), (1, .int (x)), (3, .int ((rg_so (fun k => rg_fa M x (nI k)) (rg_fa M x (-1)) x i).2)), (4, .int (nI i))]) hx hb dX6_source_49 rfl hl (by decide) rfl (fun ls hl => ?_)
            refine lv_iload hx hb dX6_source_50 (lv_at hl 1 rfl) ?_
            refine lv_istore_n (lv' := [(3, .int (rg_fa M x (nI i))), (2, .int (nI i)), (5, .int (rg_fa M x (nI i))), (0, .ref (B + 0)), (1, .int (x)), (4, .int (nI i))]) hx hb dX6_source_52 rfl hl (by decide) rfl (fun ls hl => ?_)
            refine lv_iinc (v := nI (i + 1)) (lv' := [(4, .int (nI (i + 1))), (3, .int (rg_fa M x (nI i))), (2, .int (nI i)), (5, .int (rg_fa M x (nI i))), (0, .ref (B + 0)), (1, .int (x))]) hx hb dX6_source_53 hl (k := 5) rfl (nI_1 _) (by decide) rfl (fun ls hl => ?_)
            refine lv_goto (tgt := 17) hx hb dX6_source_56 (by decide) ?_
            replace hl : lv_has ls 6 [(4, .int (nI (i + 1))), (3, .int ((rg_so (fun k => rg_fa M x (nI k)) (rg_fa M x (-1)) x (i + 1)).2)), (2, .int ((rg_so (fun k => rg_fa M x (nI k)) (rg_fa M x (-1)) x (i + 1)).1)), (5, .int (rg_fa M x (nI i))), (0, .ref (B + 0)), (1, .int (x))] := by rw [rg_so_t ⟨c_38, c_44⟩]; exact hl
            exact ih (i + 1) (by omega) _ _ _ hH (lv_sub hl [4, 5, 2, 1, 0] rfl)
  exact cut_17 (rg_nc M + 1) 0 (by omega) _ _ _ hH (lv_sub hl [3, 4, 2, 1, 0] rfl)

set_option maxHeartbeats 4000000 in
set_option maxRecDepth 100000 in
/-- fillSheet -/
theorem k_X6_fillSheet (l : Launch) (E : rg_Env) (B : Nat) (M : rg_Mem) (q : Nat) (t : Int32) (hI : rg_CI M) (hq : q < 8) (ht : t = -1 ∨ (rg_cp M t ∧ ¬ t.toNatClampNeg = q)) : Met l yX6_fillSheet (rg_w yX6_fillSheet cX6_fillSheet 5 none) ({ frames := 3, cells := 0, slots := 0, locals := 68 } : Room) (va_Pc [.ref (B + 0), .ref (B + (108 + 38 * q)), .int (t)] (rg_Pre E B 422 rg_R0 M)) (rg_Rv E B 422 rg_R0 (rg_fil M q t 36 0) (True)) 0 0 (rg_A B) := by
  refine rg_ofW (by decide +kernel) rfl (Nat.le_of_ble_eq_true rfl) ?_
  intro p e s m args below meth c ls C0 hH hl hr hlocks hnm
  replace hl : lv_has ls 5 [(0, .ref (B + 0)), (1, .ref (B + (108 + 38 * q))), (2, .int (t))] := hl
  have hx := C0.1.1
  have hb := C0.1.2.1
  generalize hH9 : s.heap = H at hH ⊢
  generalize hL9 : ([] : List Loc) = locs at hH ⊢
  clear hH9 hL9
  refine lv_iconst (v := 0) hx hb dX6_fillSheet_0 (by decide) ?_
  refine lv_istore_n (lv' := [(3, .int (0)), (0, .ref (B + 0)), (1, .ref (B + (108 + 38 * q))), (2, .int (t))]) hx hb dX6_fillSheet_1 rfl hl (by decide) rfl (fun ls hl => ?_)
  have cut_2 : ∀ (fu i : Nat), i ≤ 36 ∧ 36 < i + fu → ∀  (H : Heap) (locs : List Loc) (ls : Array Slot), rg_H E B 422 rg_R0 (rg_fil M q t i 0) s H locs → lv_has ls 5 [(0, .ref (B + 0)), (1, .ref (B + (108 + 38 * q))), (2, .int (t)), (3, .int (nI i))] → W p l e ({ frames := 3, cells := 0, slots := 0, locals := 68 } : Room) s m args below meth c H locs 0 0 (MQ below (rg_Rv E B 422 rg_R0 (rg_fil M q t 36 0) (True)) args s 0 0 (rg_A B)) (F0 m 2 ls []) := by
    intro fu
    induction fu with
    | zero =>
      intro i hm
      exact absurd hm (by omega)
    | succ fu ih =>
      intro i hm  H locs ls hH hl 
      refine lv_iload_n hx hb dX6_fillSheet_2 rfl (lv_at hl 3 rfl) ?_
      refine lv_bipush (v := 36) hx hb dX6_fillSheet_3 (by decide) ?_
      refine lv_icmp_ge (tgt := 45) hx hb dX6_fillSheet_5 (by decide) (fun c_5 => ?_) (fun c_5 => ?_)
      · exact rg_retRv C0 hH hr hlocks (by rw [rg_lp_end (n := 36) hm.1 (by omega) c_5]) (by trivial) dX6_fillSheet_45
      · have h36 := rg_lp_lt (n := 36) hm.1 (by omega) c_5
        refine lv_iconst (v := 0) hx hb dX6_fillSheet_8 (by decide) ?_
        refine lv_istore (lv' := [(4, .int (0)), (0, .ref (B + 0)), (1, .ref (B + (108 + 38 * q))), (2, .int (t)), (3, .int (nI i))]) hx hb dX6_fillSheet_9 hl (by decide) rfl (fun ls hl => ?_)
        have cut_11 : ∀ (fu2 i2 : Nat), i2 ≤ 6 ∧ 6 < i2 + fu2 → ∀  (H : Heap) (locs : List Loc) (ls : Array Slot), rg_H E B 422 rg_R0 (rg_fil M q t i i2) s H locs → lv_has ls 5 [(0, .ref (B + 0)), (1, .ref (B + (108 + 38 * q))), (2, .int (t)), (3, .int (nI i)), (4, .int (nI i2))] → W p l e ({ frames := 3, cells := 0, slots := 0, locals := 68 } : Room) s m args below meth c H locs 0 0 (MQ below (rg_Rv E B 422 rg_R0 (rg_fil M q t 36 0) (True)) args s 0 0 (rg_A B)) (F0 m 11 ls []) := by
          intro fu2
          induction fu2 with
          | zero =>
            intro i2 hm2
            exact absurd hm2 (by omega)
          | succ fu2 ih2 =>
            intro i2 hm2  H locs ls hH hl 
            refine lv_iload hx hb dX6_fillSheet_11 (lv_at hl 4 rfl) ?_
            refine lv_bipush (v := 6) hx hb dX6_fillSheet_13 (by decide) ?_
            refine lv_icmp_ge (tgt := 39) hx hb dX6_fillSheet_15 (by decide) (fun c_15 => ?_) (fun c_15 => ?_)
            · have q2 := rg_lp_end (n := 6) hm2.1 (by omega) c_15
              subst q2
              refine lv_iinc (v := nI (i + 1)) (lv' := [(3, .int (nI (i + 1))), (0, .ref (B + 0)), (1, .ref (B + (108 + 38 * q))), (2, .int (t)), (4, .int (nI 6))]) hx hb dX6_fillSheet_39 hl (k := 3) rfl (nI_1 _) (by decide) rfl (fun ls hl => ?_)
              refine lv_goto (tgt := 2) hx hb dX6_fillSheet_42 (by decide) ?_
              exact ih (i + 1) (by omega) _ _ _ (rg_H_eq (by exact rg_fil_r) hH) (lv_sub hl [1, 2, 3, 0] rfl)
            · have h6 : i2 < 6 := rg_lp_lt (n := 6) hm2.1 (by omega) c_15
              refine lv_aload_n hx hb dX6_fillSheet_18 rfl (lv_at hl 1 rfl) ?_
              refine lv_iload_n hx hb dX6_fillSheet_19 rfl (lv_at hl 3 rfl) ?_
              refine lv_iload hx hb dX6_fillSheet_20 (lv_at hl 4 rfl) ?_
              refine lv_aload_n hx hb dX6_fillSheet_22 rfl (lv_at hl 0 rfl) ?_
              refine lv_iload_n hx hb dX6_fillSheet_23 rfl (lv_at hl 2 rfl) ?_
              refine lv_iload_n hx hb dX6_fillSheet_24 rfl (lv_at hl 3 rfl) ?_
              refine lv_iload hx hb dX6_fillSheet_25 (lv_at hl 4 rfl) ?_
              refine rg_callGi C0 hH (As := [.int (t), .int (nI i), .int (nI i2)]) (rest := [.int (nI i2), .int (nI i), .ref (B + (108 + 38 * q))]) (o := 0) (ci := 6) (k_X6_textWord l E B (rg_fil M q t i i2) t (nI i) (nI i2) (by exact rg_CI_cong hI (rg_fil_lo))) (rg_cw 3 C0.1.2.2.2.2 tw_m_X6_216 tw_i_X6_textWord tw_v_X6_textWord tw_n_X6 tw_c_X6_textWord rfl rfl hd_X6_textWord ⟨Nat.le_of_ble_eq_true rfl, Nat.le_of_ble_eq_true rfl⟩) rfl (by decide) rfl (by decide) rfl hl.1 rfl (Nat.le_of_ble_eq_true rfl) dX6_fillSheet_27 ⟨Nat.le_of_ble_eq_true rfl, Nat.le_of_ble_eq_true rfl⟩ (fun H locs hH => ?_)
              refine rg_topi (y := rg_tw M t (nI i) (nI i2)) (by exact rg_fil_tw hI ht (by omega)) ?_
              refine rg_callRv C0 hH (As := [.int (nI i), .int (nI i2), .int (rg_tw M t (nI i) (nI i2))]) (rest := []) (o := (108 + 38 * q)) (ci := 3) (k_X3_put l E B ((rg_fil M q t i i2)) q (nI i) (nI i2) (rg_tw M t (nI i) (nI i2)) hq ⟨nI_pos (by omega), nI_ge (b := 36) h36 (by omega), nI_pos (by omega), nI_ge (b := 6) h6 (by omega)⟩) (rg_cw 3 C0.1.2.2.2.2 tw_m_X6_221 tw_i_X3_put tw_v_X3_put tw_n_X3 tw_c_X3_put rfl rfl hd_X3_put ⟨Nat.le_of_ble_eq_true rfl, Nat.le_of_ble_eq_true rfl⟩) rfl (rg_kdS2 _ hq) (rg_kdS _ hq).1 (by decide) rfl hl.1 rfl (Nat.le_of_ble_eq_true rfl) dX6_fillSheet_30 ⟨Nat.le_of_ble_eq_true rfl, Nat.le_of_ble_eq_true rfl⟩ (fun H locs e_30 hH => ?_)
              refine lv_iinc (v := nI (i2 + 1)) (lv' := [(4, .int (nI (i2 + 1))), (0, .ref (B + 0)), (1, .ref (B + (108 + 38 * q))), (2, .int (t)), (3, .int (nI i))]) hx hb dX6_fillSheet_33 hl (k := 4) rfl (nI_1 _) (by decide) rfl (fun ls hl => ?_)
              refine lv_goto (tgt := 11) hx hb dX6_fillSheet_36 (by decide) ?_
              exact ih2 (i2 + 1) (by omega) _ _ _ (rg_H_eq (by rw [nI_clamp (by omega), nI_clamp (by omega)]; exact rg_fil_s h36 h6) hH) (lv_sub hl [1, 2, 3, 4, 0] rfl)
        exact cut_11 7 0 (by omega) _ _ _ hH (lv_sub hl [1, 2, 3, 4, 0] rfl)
  exact cut_2 37 0 (by omega) _ _ _ (rg_H_eq (by exact rg_fil_0) hH) (lv_sub hl [1, 2, 3, 0] rfl)

set_option maxHeartbeats 4000000 in
set_option maxRecDepth 100000 in
/-- copy -/
theorem k_X6_copy (l : Launch) (hst : l.stackTraces = false) (E : rg_Env) (B : Nat) (M : rg_Mem) (t : Int32) (hI : rg_CI M) : vx_Met l yX6_copy (rg_w yX6_copy cX6_copy 2 (some (FieldType.int))) ({ frames := 8, cells := 3, slots := 18, locals := 132 } : Room) (va_Pc [.ref (B + 0), .int (t)] (rg_Pre E B 422 rg_R0 M)) (rg_Ri E B 422 rg_R0 (rg_I (rg_fil M (rg_nc M) t 36 0) 0 11 (nI (rg_nc M + 1))) (fun r => (rg_tx M t ∧ (¬ M.1 6 0 ≤ 0 ∧ M.1 0 11 < 8)) ∧ r = M.1 0 11)) (rg_X E B 422 rg_R0 M (fun X => (¬ (rg_tx M t) ∧ X = "java/lang/IndexOutOfBoundsException") ∨ ((rg_tx M t) ∧ ¬ (¬ M.1 6 0 ≤ 0 ∧ M.1 0 11 < 8) ∧ X = "java/lang/IllegalStateException"))) 3 18 (rg_A B) := by
  refine rg_xofW (by decide +kernel) rfl (Nat.le_of_ble_eq_true rfl) ?_
  intro p e s m args below meth c ls hne C0 hH hl hr hlocks
  replace hl : lv_has ls 2 [(0, .ref (B + 0)), (1, .int (t))] := hl
  have hx := C0.1.1
  have hb := C0.1.2.1
  generalize hH9 : s.heap = H at hH ⊢
  generalize hL9 : ([] : List Loc) = locs at hH ⊢
  clear hH9 hL9
  refine lv_aload_n hx hb dX6_copy_0 rfl (lv_at hl 0 rfl) ?_
  refine lv_iload_n hx hb dX6_copy_1 rfl (lv_at hl 1 rfl) ?_
  refine rg_xcallRv C0 hH (As := [.int (t)]) (rest := []) (o := 0) (ci := 6) hne hlocks (fun X hX => by exact Or.inl hX) (k_X6_needText l hst E B M t) (rg_cw 1 C0.1.2.2.2.2 tw_m_X6_201 tw_i_X6_needText tw_v_X6_needText tw_n_X6 tw_c_X6_needText rfl rfl hd_X6_needText ⟨Nat.le_of_ble_eq_true rfl, Nat.le_of_ble_eq_true rfl⟩) rfl (by decide) rfl (by decide) rfl hl.1 rfl (Nat.le_of_ble_eq_true rfl) dX6_copy_2 ⟨Nat.le_of_ble_eq_true rfl, Nat.le_of_ble_eq_true rfl⟩ ⟨Nat.le_of_ble_eq_true rfl, Nat.le_of_ble_eq_true rfl⟩ (fun H locs e_2 hH => ?_)
  refine lv_aload_n hx hb dX6_copy_5 rfl (lv_at hl 0 rfl) ?_
  refine rg_xcallRv C0 hH (As := []) (rest := []) (o := 0) (ci := 6) hne hlocks (fun X hX => by exact Or.inr ⟨e_2, fun q => hX.1 q.1, hX.2⟩) (k_X6_needPoem l hst E B M) (rg_cw 0 C0.1.2.2.2.2 tw_m_X6_204 tw_i_X6_needPoem tw_v_X6_needPoem tw_n_X6 tw_c_X6_needPoem rfl rfl hd_X6_needPoem ⟨Nat.le_of_ble_eq_true rfl, Nat.le_of_ble_eq_true rfl⟩) rfl (by decide) rfl (by decide) rfl hl.1 rfl (Nat.le_of_ble_eq_true rfl) dX6_copy_6 ⟨Nat.le_of_ble_eq_true rfl, Nat.le_of_ble_eq_true rfl⟩ ⟨Nat.le_of_ble_eq_true rfl, Nat.le_of_ble_eq_true rfl⟩ (fun H locs e_6 hH => ?_)
  refine lv_aload_n hx hb dX6_copy_9 rfl (lv_at hl 0 rfl) ?_
  refine rg_gI C0 hH (ci := 6) (k := 11) (o := 0) rfl inT_X6 (by decide) tw_f_X6_120 (by decide) rfl (by decide) rfl dX6_copy_10 ?_
  refine lv_bipush (v := 8) hx hb dX6_copy_13 (by decide) ?_
  refine lv_icmp_lt (tgt := 28) hx hb dX6_copy_15 (by decide) (fun c_15 => ?_) (fun c_15 => ?_)
  · refine lv_aload_n hx hb dX6_copy_28 rfl (lv_at hl 0 rfl) ?_
    refine lv_aload_n hx hb dX6_copy_29 rfl (lv_at hl 0 rfl) ?_
    refine rg_gR C0 hH (o2 := 107) (ci := 6) (k := 6) (o := 0) rfl rfl inT_X6 (by decide) tw_f_X6_59 (by decide) rfl (by decide) rfl dX6_copy_30 ?_
    refine lv_aload_n hx hb dX6_copy_33 rfl (lv_at hl 0 rfl) ?_
    refine rg_gI C0 hH (ci := 6) (k := 11) (o := 0) rfl inT_X6 (by decide) tw_f_X6_120 (by decide) rfl (by decide) rfl dX6_copy_34 ?_
    have h8 : rg_nc M < 8 := rg_ltI (n := 8) (m := 8) (by rw [← (rg_CI_c hI).1]; exact c_15) rfl (by have := (rg_CI_c hI).2; omega)
    refine rg_topi (y := nI (rg_nc M)) (by exact (rg_CI_c hI).1) ?_
    refine rg_aaldN C0 hH (o := 107) (o2 := (108 + 38 * rg_nc M)) (j := (rg_nc M)) (n0 := 8) (rg_R0_107 _ h8) (by decide) rfl (by decide) rfl (by omega) dX6_copy_37 ?_
    refine lv_iload_n hx hb dX6_copy_38 rfl (lv_at hl 1 rfl) ?_
    refine rg_callRv C0 hH (As := [.ref (B + (108 + 38 * rg_nc M)), .int (t)]) (rest := []) (o := 0) (ci := 6) (k_X6_fillSheet l E B M (rg_nc M) t hI h8 (e_2.imp_right fun z => ⟨z, fun y => rg_cp_ne hI z y⟩)) (rg_cw 2 C0.1.2.2.2.2 tw_m_X6_209 tw_i_X6_fillSheet tw_v_X6_fillSheet tw_n_X6 tw_c_X6_fillSheet rfl rfl hd_X6_fillSheet ⟨Nat.le_of_ble_eq_true rfl, Nat.le_of_ble_eq_true rfl⟩) rfl (by decide) rfl (by decide) rfl hl.1 rfl (Nat.le_of_ble_eq_true rfl) dX6_copy_39 ⟨Nat.le_of_ble_eq_true rfl, Nat.le_of_ble_eq_true rfl⟩ (fun H locs e_39 hH => ?_)
    refine lv_aload_n hx hb dX6_copy_42 rfl (lv_at hl 0 rfl) ?_
    refine lv_dup hx hb dX6_copy_43 rfl ?_
    refine rg_gI C0 hH (ci := 6) (k := 11) (o := 0) rfl inT_X6 (by decide) tw_f_X6_120 (by decide) rfl (by decide) rfl dX6_copy_44 ?_
    refine rg_topi (y := nI (rg_nc M)) (by rw [rg_fil_lo 0 (by omega) |>.1]; exact (rg_CI_c hI).1) ?_
    refine lv_iconst (v := 1) hx hb dX6_copy_47 (by decide) ?_
    refine lv_iadd hx hb dX6_copy_48 ?_
    refine rg_topi (y := nI (rg_nc M + 1)) (by exact nI_1 _) ?_
    refine rg_pI C0 hH (v := nI (rg_nc M + 1)) tyX6 tyX6_ok nmX6 (ci := 6) (k := 11) (o := 0) rfl inT_X6 (by decide) tw_f_X6_120 (by decide) rfl (by decide) rfl rfl rfl rfl dX6_copy_49 (fun H locs hH => ?_)
    refine lv_aload_n hx hb dX6_copy_52 rfl (lv_at hl 0 rfl) ?_
    refine rg_gI C0 hH (ci := 6) (k := 11) (o := 0) rfl inT_X6 (by decide) tw_f_X6_120 (by decide) rfl (by decide) rfl dX6_copy_53 ?_
    refine rg_topi (y := nI (rg_nc M + 1)) (by simp [rg_I]) ?_
    refine lv_iconst (v := 1) hx hb dX6_copy_56 (by decide) ?_
    refine lv_isub hx hb dX6_copy_57 ?_
    refine rg_topi (y := nI (rg_nc M)) (by exact nI_pred _) ?_
    refine vx_ret ?_
    refine W.widen (k := 3) (n := 18) (Nat.le_of_ble_eq_true rfl) (Nat.le_of_ble_eq_true rfl) ?_
    exact rg_retRi C0 hH hr hlocks rfl (by exact ⟨⟨e_2, e_6, c_15⟩, (rg_CI_c hI).1.symm⟩) dX6_copy_58
  · exact rg_throw C0 hH hst (cls := "java/lang/IllegalStateException") (text := "there are 8 copies already") (names := ["java/lang/RuntimeException", "java/lang/Exception"]) hne hlocks (by decide +kernel) (by decide +kernel) tw_k_X6_76 tw_n_IllegalStateException (by decide) (by decide) rg_at_ise rg_ab_ise rg_ag_ise hl.1 dX6_copy_18 dX6_copy_21 dX6_copy_22 dX6_copy_24 dX6_copy_27 (Nat.le_of_ble_eq_true rfl) (Nat.le_of_ble_eq_true rfl) (Nat.le_of_ble_eq_true rfl) (Nat.le_of_ble_eq_true rfl) (by exact Or.inr ⟨e_2, fun q => c_15 q.2, rfl⟩) (Nat.le_of_ble_eq_true rfl) (Nat.le_of_ble_eq_true rfl)

set_option maxHeartbeats 4000000 in
set_option maxRecDepth 100000 in
/-- write -/
theorem k_X6_write (l : Launch) (hst : l.stackTraces = false) (E : rg_Env) (B : Nat) (M : rg_Mem) (t : Int32) (x : Int32) (y : Int32) (z : Int32) (hI : rg_CI M) : vx_Met l yX6_write (rg_w yX6_write cX6_write 6 (some (FieldType.int))) ({ frames := 7, cells := 3, slots := 18, locals := 111 } : Room) (va_Pc [.ref (B + 0), .int (t), .int (x), .int (y), .int (z)] (rg_Pre E B 422 rg_R0 M)) (rg_Ri E B 422 rg_R0 (rg_I M (110 + 38 * t.toNatClampNeg + x.toNatClampNeg) y.toNatClampNeg z) (fun r => ((rg_cp M t ∧ rg_has M z) ∧ ¬ rg_tw M t x y = -1) ∧ r = rg_tw M t x y)) (rg_X E B 422 rg_R0 M (fun X => ¬ ((rg_cp M t ∧ rg_has M z) ∧ ¬ rg_tw M t x y = -1) ∧ X = "java/lang/IndexOutOfBoundsException")) 3 18 (rg_A B) := by
  refine rg_xofW (by decide +kernel) rfl (Nat.le_of_ble_eq_true rfl) ?_
  intro p e s m args below meth c ls hne C0 hH hl hr hlocks
  replace hl : lv_has ls 6 [(0, .ref (B + 0)), (1, .int (t)), (2, .int (x)), (3, .int (y)), (4, .int (z))] := hl
  have hx := C0.1.1
  have hb := C0.1.2.1
  generalize hH9 : s.heap = H at hH ⊢
  generalize hL9 : ([] : List Loc) = locs at hH ⊢
  clear hH9 hL9
  refine lv_aload_n hx hb dX6_write_0 rfl (lv_at hl 0 rfl) ?_
  refine lv_iload_n hx hb dX6_write_1 rfl (lv_at hl 1 rfl) ?_
  refine rg_xcallRv C0 hH (As := [.int (t)]) (rest := []) (o := 0) (ci := 6) hne hlocks (fun X hX => by exact ⟨fun q => hX.1 q.1.1, hX.2⟩) (k_X6_needCopy l hst E B M t) (rg_cw 1 C0.1.2.2.2.2 tw_m_X6_213 tw_i_X6_needCopy tw_v_X6_needCopy tw_n_X6 tw_c_X6_needCopy rfl rfl hd_X6_needCopy ⟨Nat.le_of_ble_eq_true rfl, Nat.le_of_ble_eq_true rfl⟩) rfl (by decide) rfl (by decide) rfl hl.1 rfl (Nat.le_of_ble_eq_true rfl) dX6_write_2 ⟨Nat.le_of_ble_eq_true rfl, Nat.le_of_ble_eq_true rfl⟩ ⟨Nat.le_of_ble_eq_true rfl, Nat.le_of_ble_eq_true rfl⟩ (fun H locs e_2 hH => ?_)
  refine lv_aload_n hx hb dX6_write_5 rfl (lv_at hl 0 rfl) ?_
  refine lv_iload hx hb dX6_write_6 (lv_at hl 4 rfl) ?_
  refine rg_xcallRv C0 hH (As := [.int (z)]) (rest := []) (o := 0) (ci := 6) hne hlocks (fun X hX => by exact ⟨fun q => hX.1 q.1.2, hX.2⟩) (k_X6_needWord l hst E B M z) (rg_cw 1 C0.1.2.2.2.2 tw_m_X6_87 tw_i_X6_needWord tw_v_X6_needWord tw_n_X6 tw_c_X6_needWord rfl rfl hd_X6_needWord ⟨Nat.le_of_ble_eq_true rfl, Nat.le_of_ble_eq_true rfl⟩) rfl (by decide) rfl (by decide) rfl hl.1 rfl (Nat.le_of_ble_eq_true rfl) dX6_write_8 ⟨Nat.le_of_ble_eq_true rfl, Nat.le_of_ble_eq_true rfl⟩ ⟨Nat.le_of_ble_eq_true rfl, Nat.le_of_ble_eq_true rfl⟩ (fun H locs e_8 hH => ?_)
  refine lv_aload_n hx hb dX6_write_11 rfl (lv_at hl 0 rfl) ?_
  refine lv_iload_n hx hb dX6_write_12 rfl (lv_at hl 1 rfl) ?_
  refine lv_iload_n hx hb dX6_write_13 rfl (lv_at hl 2 rfl) ?_
  refine lv_iload_n hx hb dX6_write_14 rfl (lv_at hl 3 rfl) ?_
  refine rg_callGi C0 hH (As := [.int (t), .int (x), .int (y)]) (rest := []) (o := 0) (ci := 6) (k_X6_textWord l E B M t x y (by exact hI)) (rg_cw 3 C0.1.2.2.2.2 tw_m_X6_216 tw_i_X6_textWord tw_v_X6_textWord tw_n_X6 tw_c_X6_textWord rfl rfl hd_X6_textWord ⟨Nat.le_of_ble_eq_true rfl, Nat.le_of_ble_eq_true rfl⟩) rfl (by decide) rfl (by decide) rfl hl.1 rfl (Nat.le_of_ble_eq_true rfl) dX6_write_15 ⟨Nat.le_of_ble_eq_true rfl, Nat.le_of_ble_eq_true rfl⟩ (fun H locs hH => ?_)
  refine lv_istore (lv' := [(5, .int (rg_tw M t x y)), (0, .ref (B + 0)), (1, .int (t)), (2, .int (x)), (3, .int (y)), (4, .int (z))]) hx hb dX6_write_18 hl (by decide) rfl (fun ls hl => ?_)
  refine lv_iload hx hb dX6_write_20 (lv_at hl 0 rfl) ?_
  refine lv_iconst (v := (-1)) hx hb dX6_write_22 (by decide) ?_
  refine lv_icmp_ne (tgt := 36) hx hb dX6_write_23 (by decide) (fun c_23 => ?_) (fun c_23 => ?_)
  · refine lv_aload_n hx hb dX6_write_36 rfl (lv_at hl 1 rfl) ?_
    refine rg_gR C0 hH (o2 := 107) (ci := 6) (k := 6) (o := 0) rfl rfl inT_X6 (by decide) tw_f_X6_59 (by decide) rfl (by decide) rfl dX6_write_37 ?_
    refine lv_iload_n hx hb dX6_write_40 rfl (lv_at hl 2 rfl) ?_
    refine rg_aald C0 hH (o := 107) (o2 := (108 + 38 * t.toNatClampNeg)) (rg_R0_107 _ (rg_in_lt (rg_cp_in hI e_2))) (by decide) rfl (by decide) (rg_vin rfl (by exact rg_cp_in hI e_2)) dX6_write_41 ?_
    refine lv_iload_n hx hb dX6_write_42 rfl (lv_at hl 3 rfl) ?_
    refine lv_iload_n hx hb dX6_write_43 rfl (lv_at hl 4 rfl) ?_
    refine lv_iload hx hb dX6_write_44 (lv_at hl 5 rfl) ?_
    refine rg_callRv C0 hH (As := [.int (x), .int (y), .int (z)]) (rest := []) (o := (108 + 38 * t.toNatClampNeg)) (ci := 3) (k_X3_put l E B M t.toNatClampNeg x y z (rg_in_lt (rg_cp_in hI e_2)) (rg_tw_os e_2 c_23)) (rg_cw 3 C0.1.2.2.2.2 tw_m_X6_221 tw_i_X3_put tw_v_X3_put tw_n_X3 tw_c_X3_put rfl rfl hd_X3_put ⟨Nat.le_of_ble_eq_true rfl, Nat.le_of_ble_eq_true rfl⟩) rfl (rg_kdS2 _ (rg_in_lt (rg_cp_in hI e_2))) (rg_kdS _ (rg_in_lt (rg_cp_in hI e_2))).1 (by decide) rfl hl.1 rfl (Nat.le_of_ble_eq_true rfl) dX6_write_46 ⟨Nat.le_of_ble_eq_true rfl, Nat.le_of_ble_eq_true rfl⟩ (fun H locs e_46 hH => ?_)
    refine lv_iload hx hb dX6_write_49 (lv_at hl 0 rfl) ?_
    refine vx_ret ?_
    refine W.widen (k := 3) (n := 18) (Nat.le_of_ble_eq_true rfl) (Nat.le_of_ble_eq_true rfl) ?_
    exact rg_retRi C0 hH hr hlocks rfl (by exact ⟨⟨⟨e_2, e_8⟩, c_23⟩, rfl⟩) dX6_write_51
  · exact rg_throw C0 hH hst (cls := "java/lang/IndexOutOfBoundsException") (text := "the copy has no such link or place") (names := ["java/lang/RuntimeException", "java/lang/Exception"]) hne hlocks (by decide +kernel) (by decide +kernel) tw_k_X6_126 tw_n_IndexOutOfBoundsException (by decide) (by decide) rg_at_ioob rg_ab_ioob rg_ag_ioob hl.1 dX6_write_26 dX6_write_29 dX6_write_30 dX6_write_32 dX6_write_35 (Nat.le_of_ble_eq_true rfl) (Nat.le_of_ble_eq_true rfl) (Nat.le_of_ble_eq_true rfl) (Nat.le_of_ble_eq_true rfl) (by exact ⟨fun q => q.2 c_23, rfl⟩) (Nat.le_of_ble_eq_true rfl) (Nat.le_of_ble_eq_true rfl)

set_option maxHeartbeats 4000000 in
set_option maxRecDepth 100000 in
/-- likeness -/
theorem k_X6_likeness (l : Launch) (E : rg_Env) (B : Nat) (M : rg_Mem) (a : Nat) (b : Nat) (hI : rg_CI M) (ha : a < rg_nl M) (hb9 : b < rg_nl M) : Met l yX6_likeness (rg_w yX6_likeness cX6_likeness 5 (some (FieldType.int))) ({ frames := 2, cells := 0, slots := 0, locals := 42 } : Room) (va_Pc [.ref (B + 0), .int (nI a), .int (nI b)] (rg_Pre E B 422 rg_R0 M)) (rg_Ri E B 422 rg_R0 (M) (fun r => r = rg_lk M a b)) 0 0 (rg_A B) := by
  refine rg_ofW (by decide +kernel) rfl (Nat.le_of_ble_eq_true rfl) ?_
  intro p e s m args below meth c ls C0 hH hl hr hlocks hnm
  replace hl : lv_has ls 5 [(0, .ref (B + 0)), (1, .int (nI a)), (2, .int (nI b))] := hl
  have hx := C0.1.1
  have hb := C0.1.2.1
  generalize hH9 : s.heap = H at hH ⊢
  generalize hL9 : ([] : List Loc) = locs at hH ⊢
  clear hH9 hL9
  refine lv_aload_n hx hb dX6_likeness_0 rfl (lv_at hl 0 rfl) ?_
  refine rg_gR C0 hH (o2 := 6) (ci := 6) (k := 1) (o := 0) rfl rfl inT_X6 (by decide) tw_f_X6_19 (by decide) rfl (by decide) rfl dX6_likeness_1 ?_
  refine lv_iload_n hx hb dX6_likeness_4 rfl (lv_at hl 1 rfl) ?_
  refine rg_callGl C0 hH (As := [.int (nI a)]) (rest := []) (o := 6) (ci := 1) (k_X1_wordSetAt l E B M (nI a) (by exact rg_CI_mn hI)) (rg_cw 1 C0.1.2.2.2.2 tw_m_X6_295 tw_i_X1_wordSetAt tw_v_X1_wordSetAt tw_n_X1 tw_c_X1_wordSetAt rfl rfl hd_X1_wordSetAt ⟨Nat.le_of_ble_eq_true rfl, Nat.le_of_ble_eq_true rfl⟩) rfl (by decide) rfl (by decide) rfl hl.1 rfl (Nat.le_of_ble_eq_true rfl) dX6_likeness_5 ⟨Nat.le_of_ble_eq_true rfl, Nat.le_of_ble_eq_true rfl⟩ (fun H locs hH => ?_)
  refine rg_topl (y := M.2 (17 + 2 * a) 5) (by exact rg_atk (rg_CI_l hI).1 (rg_CI_l hI).2 ha (fun k => M.2 (17 + 2 * k) 5) 0) ?_
  refine lv_aload_n hx hb dX6_likeness_8 rfl (lv_at hl 0 rfl) ?_
  refine rg_gR C0 hH (o2 := 6) (ci := 6) (k := 1) (o := 0) rfl rfl inT_X6 (by decide) tw_f_X6_19 (by decide) rfl (by decide) rfl dX6_likeness_9 ?_
  refine lv_iload_n hx hb dX6_likeness_12 rfl (lv_at hl 2 rfl) ?_
  refine rg_callGl C0 hH (As := [.int (nI b)]) (rest := [.long (M.2 (17 + 2 * a) 5)]) (o := 6) (ci := 1) (k_X1_wordSetAt l E B M (nI b) (by exact rg_CI_mn hI)) (rg_cw 1 C0.1.2.2.2.2 tw_m_X6_295 tw_i_X1_wordSetAt tw_v_X1_wordSetAt tw_n_X1 tw_c_X1_wordSetAt rfl rfl hd_X1_wordSetAt ⟨Nat.le_of_ble_eq_true rfl, Nat.le_of_ble_eq_true rfl⟩) rfl (by decide) rfl (by decide) rfl hl.1 rfl (Nat.le_of_ble_eq_true rfl) dX6_likeness_13 ⟨Nat.le_of_ble_eq_true rfl, Nat.le_of_ble_eq_true rfl⟩ (fun H locs hH => ?_)
  refine rg_topl (y := M.2 (17 + 2 * b) 5) (by exact rg_atk (rg_CI_l hI).1 (rg_CI_l hI).2 hb9 (fun k => M.2 (17 + 2 * k) 5) 0) ?_
  refine lv_land hx hb dX6_likeness_16 ?_
  refine rg_callSGi C0 hH (As := [.long ((M.2 (17 + 2 * a) 5) &&& (M.2 (17 + 2 * b) 5))]) (rest := []) (k_J13_bitCount_95d88 l E B M ((M.2 (17 + 2 * a) 5) &&& (M.2 (17 + 2 * b) 5))) (rg_cwSX 1 C0.1.2.2.2.2 tw_m_X6_299 tw_s_J13_bitCount_95d88 tw_n_J13 tw_c_J13_bitCount_95d88 rfl rfl hd_J13_bitCount_95d88 ⟨Nat.le_of_ble_eq_true rfl, Nat.le_of_ble_eq_true rfl⟩) rfl hl.1 rfl (Nat.le_of_ble_eq_true rfl) dX6_likeness_17 ⟨Nat.le_of_ble_eq_true rfl, Nat.le_of_ble_eq_true rfl⟩ (fun H locs hH => ?_)
  refine lv_istore_n (lv' := [(3, .int (rg_bc64 ((M.2 (17 + 2 * a) 5) &&& (M.2 (17 + 2 * b) 5)))), (0, .ref (B + 0)), (1, .int (nI a)), (2, .int (nI b))]) hx hb dX6_likeness_20 rfl hl (by decide) rfl (fun ls hl => ?_)
  refine lv_aload_n hx hb dX6_likeness_21 rfl (lv_at hl 1 rfl) ?_
  refine rg_gR C0 hH (o2 := 6) (ci := 6) (k := 1) (o := 0) rfl rfl inT_X6 (by decide) tw_f_X6_19 (by decide) rfl (by decide) rfl dX6_likeness_22 ?_
  refine lv_iload_n hx hb dX6_likeness_25 rfl (lv_at hl 2 rfl) ?_
  refine rg_callGi C0 hH (As := [.int (nI a)]) (rest := []) (o := 6) (ci := 1) (k_X1_signsAt l E B M (nI a) (by exact rg_CI_mn hI)) (rg_cw 1 C0.1.2.2.2.2 tw_m_X6_233 tw_i_X1_signsAt tw_v_X1_signsAt tw_n_X1 tw_c_X1_signsAt rfl rfl hd_X1_signsAt ⟨Nat.le_of_ble_eq_true rfl, Nat.le_of_ble_eq_true rfl⟩) rfl (by decide) rfl (by decide) rfl hl.1 rfl (Nat.le_of_ble_eq_true rfl) dX6_likeness_26 ⟨Nat.le_of_ble_eq_true rfl, Nat.le_of_ble_eq_true rfl⟩ (fun H locs hH => ?_)
  refine rg_topi (y := M.1 (17 + 2 * a) 4) (by exact rg_atk (rg_CI_l hI).1 (rg_CI_l hI).2 ha (fun k => M.1 (17 + 2 * k) 4) 0) ?_
  refine lv_aload_n hx hb dX6_likeness_29 rfl (lv_at hl 1 rfl) ?_
  refine rg_gR C0 hH (o2 := 6) (ci := 6) (k := 1) (o := 0) rfl rfl inT_X6 (by decide) tw_f_X6_19 (by decide) rfl (by decide) rfl dX6_likeness_30 ?_
  refine lv_iload_n hx hb dX6_likeness_33 rfl (lv_at hl 3 rfl) ?_
  refine rg_callGi C0 hH (As := [.int (nI b)]) (rest := [.int (M.1 (17 + 2 * a) 4)]) (o := 6) (ci := 1) (k_X1_signsAt l E B M (nI b) (by exact rg_CI_mn hI)) (rg_cw 1 C0.1.2.2.2.2 tw_m_X6_233 tw_i_X1_signsAt tw_v_X1_signsAt tw_n_X1 tw_c_X1_signsAt rfl rfl hd_X1_signsAt ⟨Nat.le_of_ble_eq_true rfl, Nat.le_of_ble_eq_true rfl⟩) rfl (by decide) rfl (by decide) rfl hl.1 rfl (Nat.le_of_ble_eq_true rfl) dX6_likeness_34 ⟨Nat.le_of_ble_eq_true rfl, Nat.le_of_ble_eq_true rfl⟩ (fun H locs hH => ?_)
  refine rg_topi (y := M.1 (17 + 2 * b) 4) (by exact rg_atk (rg_CI_l hI).1 (rg_CI_l hI).2 hb9 (fun k => M.1 (17 + 2 * k) 4) 0) ?_
  refine lv_iand hx hb dX6_likeness_37 ?_
  refine rg_callSGi C0 hH (As := [.int ((M.1 (17 + 2 * a) 4) &&& (M.1 (17 + 2 * b) 4))]) (rest := []) (k_J6_bitCount_0f7a4 l E B M ((M.1 (17 + 2 * a) 4) &&& (M.1 (17 + 2 * b) 4))) (rg_cwSX 1 C0.1.2.2.2.2 tw_m_X6_305 tw_s_J6_bitCount_0f7a4 tw_n_J6 tw_c_J6_bitCount_0f7a4 rfl rfl hd_J6_bitCount_0f7a4 ⟨Nat.le_of_ble_eq_true rfl, Nat.le_of_ble_eq_true rfl⟩) rfl hl.1 rfl (Nat.le_of_ble_eq_true rfl) dX6_likeness_38 ⟨Nat.le_of_ble_eq_true rfl, Nat.le_of_ble_eq_true rfl⟩ (fun H locs hH => ?_)
  refine lv_istore (lv' := [(4, .int (rg_bc32 ((M.1 (17 + 2 * a) 4) &&& (M.1 (17 + 2 * b) 4)))), (3, .int (rg_bc64 ((M.2 (17 + 2 * a) 5) &&& (M.2 (17 + 2 * b) 5)))), (0, .ref (B + 0)), (1, .int (nI a)), (2, .int (nI b))]) hx hb dX6_likeness_41 hl (by decide) rfl (fun ls hl => ?_)
  refine lv_iconst (v := 3) hx hb dX6_likeness_43 (by decide) ?_
  refine lv_iload_n hx hb dX6_likeness_44 rfl (lv_at hl 1 rfl) ?_
  refine lv_imul hx hb dX6_likeness_45 ?_
  refine lv_iload hx hb dX6_likeness_46 (lv_at hl 0 rfl) ?_
  refine lv_iadd hx hb dX6_likeness_48 ?_
  exact rg_retRi C0 hH hr hlocks rfl (by rfl) dX6_likeness_49
