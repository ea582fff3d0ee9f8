set_option maxHeartbeats 4000000 in
set_option maxRecDepth 100000 in
/-- Poem.extend -/
theorem k_X1_extend (l : Launch) (E : rg_Env) (B : Nat) (M : rg_Mem) (v : Nat) (n : Nat) (j : Nat) (y : Int32) (hv : rg_isV v) (hn : rg_cn M) (hvs : rg_VS M v n) (hmd : M.1 6 4 = nI j) (hj : j < 36) (hne : 17 + 2 * j ≠ v) : Met l yX1_extend (rg_w yX1_extend cX1_extend 5 none) ({ frames := 5, cells := 0, slots := 0, locals := 111 } : Room) (va_Pc [.ref (B + 6), .ref (B + v), .int (y), .ref (B + 1)] (rg_Pre E B 422 rg_R0 M)) (rg_Wv E B 422 rg_R0 (fun M1 => ∃ M2, (rg_VS M2 (17 + 2 * j) n ∧ (∀ k, k < n → M2.1 (17 + 2 * j + 1) k = M.1 (v + 1) k) ∧ rg_off M M2 (17 + 2 * j)) ∧ M1 = rg_I (rg_zp (rg_I (rg_I (rg_I M2 9 j y) 10 j 0) 11 j 0) j 4) 6 4 (nI (j + 1)))) 0 0 (rg_A B) := by
  refine rg_ofW (by decide +kernel) rfl (Nat.le_of_ble_eq_true rfl) ?_
  intro p e s m args below meth c ls C0 hH hl hr hlocks hnm
  replace hl : lv_has ls 5 [(0, .ref (B + 6)), (1, .ref (B + v)), (2, .int (y)), (3, .ref (B + 1))] := hl
  have hx := C0.1.1
  have hb := C0.1.2.1
  generalize hH9 : s.heap = H at hH ⊢
  generalize hL9 : ([] : List Loc) = locs at hH ⊢
  clear hH9 hL9
  refine lv_aload_n hx hb dX1_extend_0 rfl (lv_at hl 0 rfl) ?_
  refine rg_gI C0 hH (ci := 1) (k := 4) (o := 6) rfl inT_X1 (by decide) tw_f_X1_41 (by decide) rfl (by decide) rfl dX1_extend_1 ?_
  refine rg_topi (y := nI j) (by exact hmd) ?_
  refine lv_bipush (v := 36) hx hb dX1_extend_4 (by decide) ?_
  refine lv_icmp_lt (tgt := 10) hx hb dX1_extend_6 (by decide) (fun c_6 => ?_) (fun c_6 => ?_)
  · refine lv_aload_n hx hb dX1_extend_10 rfl (lv_at hl 0 rfl) ?_
    refine rg_gR C0 hH (o2 := 8) (ci := 1) (k := 6) (o := 6) rfl rfl inT_X1 (by decide) tw_f_X1_17 (by decide) rfl (by decide) rfl dX1_extend_11 ?_
    refine lv_aload_n hx hb dX1_extend_14 rfl (lv_at hl 0 rfl) ?_
    refine rg_gI C0 hH (ci := 1) (k := 4) (o := 6) rfl inT_X1 (by decide) tw_f_X1_41 (by decide) rfl (by decide) rfl dX1_extend_15 ?_
    refine rg_topi (y := nI j) (by exact hmd) ?_
    refine rg_aaldN C0 hH (o := 8) (o2 := (17 + 2 * j)) (j := j) (n0 := 36) (rg_R0_8 _ hj) (by decide) rfl (by decide) rfl (by omega) dX1_extend_18 ?_
    refine lv_aload_n hx hb dX1_extend_19 rfl (lv_at hl 1 rfl) ?_
    refine lv_aload_n hx hb dX1_extend_20 rfl (lv_at hl 3 rfl) ?_
    refine rg_callWv C0 hH (As := [.ref (B + v), .ref (B + 1)]) (rest := []) (o := (17 + 2 * j)) (ci := 5) (k_X5_take l E B M (17 + 2 * j) v n (rg_isV_p hj) hv hne hn hvs) (rg_cw 2 C0.1.2.2.2.2 tw_m_X1_53 tw_i_X5_take tw_v_X5_take tw_n_X5 tw_c_X5_take rfl rfl hd_X5_take ⟨Nat.le_of_ble_eq_true rfl, Nat.le_of_ble_eq_true rfl⟩) rfl (rg_isV_lt (rg_isV_p hj)) (rg_kdV_all _ hj) (by decide) rfl hl.1 rfl (Nat.le_of_ble_eq_true rfl) dX1_extend_21 ⟨Nat.le_of_ble_eq_true rfl, Nat.le_of_ble_eq_true rfl⟩ (fun M_21 H locs e_21 hH => ?_)
    have hj8 : M_21.1 6 4 = nI j := by rw [(e_21.2.2 6 (by omega) (by omega)).1]; exact hmd
    refine lv_aload_n hx hb dX1_extend_24 rfl (lv_at hl 0 rfl) ?_
    refine rg_gR C0 hH (o2 := 9) (ci := 1) (k := 7) (o := 6) rfl rfl inT_X1 (by decide) tw_f_X1_21 (by decide) rfl (by decide) rfl dX1_extend_25 ?_
    refine lv_aload_n hx hb dX1_extend_28 rfl (lv_at hl 0 rfl) ?_
    refine rg_gI C0 hH (ci := 1) (k := 4) (o := 6) rfl inT_X1 (by decide) tw_f_X1_41 (by decide) rfl (by decide) rfl dX1_extend_29 ?_
    refine rg_topi (y := nI j) (by exact hj8) ?_
    refine lv_iload_n hx hb dX1_extend_32 rfl (lv_at hl 2 rfl) ?_
    refine rg_iastN C0 hH (o := 9) (j := j) (n0 := 36) (by decide) rfl rfl (by omega) dX1_extend_33 (fun H locs hH => ?_)
    refine lv_aload_n hx hb dX1_extend_34 rfl (lv_at hl 0 rfl) ?_
    refine rg_gR C0 hH (o2 := 10) (ci := 1) (k := 8) (o := 6) rfl rfl inT_X1 (by decide) tw_f_X1_24 (by decide) rfl (by decide) rfl dX1_extend_35 ?_
    refine lv_aload_n hx hb dX1_extend_38 rfl (lv_at hl 0 rfl) ?_
    refine rg_gI C0 hH (ci := 1) (k := 4) (o := 6) rfl inT_X1 (by decide) tw_f_X1_41 (by decide) rfl (by decide) rfl dX1_extend_39 ?_
    refine rg_topi (y := nI j) (by simpa [rg_I] using hj8) ?_
    refine lv_iconst (v := 0) hx hb dX1_extend_42 (by decide) ?_
    refine rg_zastN C0 hH (o := 10) (j := j) (n0 := 36) (by decide) rfl (Or.inl rfl) rfl (by omega) dX1_extend_43 (fun H locs hH => ?_)
    refine lv_aload_n hx hb dX1_extend_44 rfl (lv_at hl 0 rfl) ?_
    refine rg_gR C0 hH (o2 := 11) (ci := 1) (k := 9) (o := 6) rfl rfl inT_X1 (by decide) tw_f_X1_28 (by decide) rfl (by decide) rfl dX1_extend_45 ?_
    refine lv_aload_n hx hb dX1_extend_48 rfl (lv_at hl 0 rfl) ?_
    refine rg_gI C0 hH (ci := 1) (k := 4) (o := 6) rfl inT_X1 (by decide) tw_f_X1_41 (by decide) rfl (by decide) rfl dX1_extend_49 ?_
    refine rg_topi (y := nI j) (by simpa [rg_I] using hj8) ?_
    refine lv_iconst (v := 0) hx hb dX1_extend_52 (by decide) ?_
    refine rg_zastN C0 hH (o := 11) (j := j) (n0 := 36) (by decide) rfl (Or.inl rfl) rfl (by omega) dX1_extend_53 (fun H locs hH => ?_)
    refine lv_iconst (v := 0) hx hb dX1_extend_54 (by decide) ?_
    refine lv_istore (lv' := [(4, .int (0)), (0, .ref (B + 6)), (1, .ref (B + v)), (2, .int (y)), (3, .ref (B + 1))]) hx hb dX1_extend_55 hl (by decide) rfl (fun ls hl => ?_)
    have cut_57 : ∀ (fu i : Nat), i ≤ 4 ∧ 4 < i + fu → ∀  (H : Heap) (locs : List Loc) (ls : Array Slot), rg_H E B 422 rg_R0 (rg_zp (rg_I (rg_I (rg_I M_21 9 j y) 10 j 0) 11 j 0) j i) s H locs → lv_has ls 5 [(0, .ref (B + 6)), (4, .int (nI i))] → W p l e ({ frames := 5, cells := 0, slots := 0, locals := 111 } : Room) s m args below meth c H locs 0 0 (MQ below (rg_Wv E B 422 rg_R0 (fun M1 => ∃ M2, (rg_VS M2 (17 + 2 * j) n ∧ (∀ k, k < n → M2.1 (17 + 2 * j + 1) k = M.1 (v + 1) k) ∧ rg_off M M2 (17 + 2 * j)) ∧ M1 = rg_I (rg_zp (rg_I (rg_I (rg_I M2 9 j y) 10 j 0) 11 j 0) j 4) 6 4 (nI (j + 1)))) args s 0 0 (rg_A B)) (F0 m 57 ls []) := by
      intro fu
      induction fu with
      | zero =>
        intro i hm
        exact absurd hm (by omega)
      | succ fu ih =>
        intro i hm  H locs ls hH hl 
        refine lv_iload hx hb dX1_extend_57 (lv_at hl 1 rfl) ?_
        refine lv_iconst (v := 4) hx hb dX1_extend_59 (by decide) ?_
        refine lv_icmp_ge (tgt := 82) hx hb dX1_extend_60 (by decide) (fun c_60 => ?_) (fun c_60 => ?_)
        · refine lv_aload_n hx hb dX1_extend_82 rfl (lv_at hl 0 rfl) ?_
          refine lv_dup hx hb dX1_extend_83 rfl ?_
          refine rg_gI C0 hH (ci := 1) (k := 4) (o := 6) rfl inT_X1 (by decide) tw_f_X1_41 (by decide) rfl (by decide) rfl dX1_extend_84 ?_
          refine rg_topi (y := nI j) (by simpa [rg_I, rg_zp] using hj8) ?_
          refine lv_iconst (v := 1) hx hb dX1_extend_87 (by decide) ?_
          refine lv_iadd hx hb dX1_extend_88 ?_
          refine rg_topi (y := nI (j + 1)) (by exact nI_1 j) ?_
          refine rg_pI C0 hH (v := nI (j + 1)) tyX1 tyX1_ok nmX1 (ci := 1) (k := 4) (o := 6) rfl inT_X1 (by decide) tw_f_X1_41 (by decide) rfl (by decide) rfl rfl rfl rfl dX1_extend_89 (fun H locs hH => ?_)
          exact rg_retWv C0 hH hr hlocks (by have q := rg_lp_end (n := 4) hm.1 (by omega) c_60; subst q; exact ⟨M_21, e_21, rfl⟩) dX1_extend_92
        · have hlt : i < 4 := rg_lp_lt (n := 4) hm.1 (by omega) c_60
          refine lv_aload_n hx hb dX1_extend_63 rfl (lv_at hl 0 rfl) ?_
          refine rg_gR C0 hH (o2 := 12) (ci := 1) (k := 10) (o := 6) rfl rfl inT_X1 (by decide) tw_f_X1_33 (by decide) rfl (by decide) rfl dX1_extend_64 ?_
          refine lv_iload hx hb dX1_extend_67 (lv_at hl 1 rfl) ?_
          refine rg_aaldN C0 hH (o := 12) (o2 := (13 + i)) (j := i) (n0 := 4) (rg_R0_12 _ hlt) (by decide) rfl (by decide) rfl (by omega) dX1_extend_69 ?_
          refine lv_aload_n hx hb dX1_extend_70 rfl (lv_at hl 0 rfl) ?_
          refine rg_gI C0 hH (ci := 1) (k := 4) (o := 6) rfl inT_X1 (by decide) tw_f_X1_41 (by decide) rfl (by decide) rfl dX1_extend_71 ?_
          refine rg_topi (y := nI j) (by simpa [rg_I, rg_zp] using hj8) ?_
          refine lv_iconst (v := (-1)) hx hb dX1_extend_74 (by decide) ?_
          refine rg_iastN C0 hH (o := (13 + i)) (j := j) (n0 := 36) (by omega) (rg_kdP _ hlt).1 (rg_kdP _ hlt).2 (by omega) dX1_extend_75 (fun H locs hH => ?_)
          refine lv_iinc (v := nI (i + 1)) (lv' := [(4, .int (nI (i + 1))), (0, .ref (B + 6))]) hx hb dX1_extend_76 hl (k := 1) rfl (nI_1 _) (by decide) rfl (fun ls hl => ?_)
          refine lv_goto (tgt := 57) hx hb dX1_extend_79 (by decide) ?_
          exact ih (i + 1) (by omega) _ _ _ (rg_H_eq (by exact rg_zp_s) hH) (lv_sub hl [1, 0] rfl)
    exact cut_57 5 0 (by omega) _ _ _ (rg_H_eq (by exact rg_zp_0) hH) (lv_sub hl [1, 0] rfl)
  · exact absurd (show nI j < 36 from (rg_lt _ _).mpr (by rw [nI_toInt (by omega)]; show (j : Int) < 36; omega)) c_6

set_option maxHeartbeats 4000000 in
set_option maxRecDepth 100000 in
/-- Poem.mendLatest -/
theorem k_X1_mendLatest (l : Launch) (E : rg_Env) (B : Nat) (M : rg_Mem) (v : Nat) (n : Nat) (j : Nat) (hv : rg_isV v) (hn : rg_cn M) (hvs : rg_VS M v n) (hmd : M.1 6 4 = nI (j + 1)) (hj : j < 36) (hne : 17 + 2 * j ≠ v) : Met l yX1_mendLatest (rg_w yX1_mendLatest cX1_mendLatest 3 none) ({ frames := 5, cells := 0, slots := 0, locals := 111 } : Room) (va_Pc [.ref (B + 6), .ref (B + v), .ref (B + 1)] (rg_Pre E B 422 rg_R0 M)) (rg_Wv E B 422 rg_R0 (fun M1 => ∃ M2, (rg_VS M2 (17 + 2 * j) n ∧ (∀ k, k < n → M2.1 (17 + 2 * j + 1) k = M.1 (v + 1) k) ∧ rg_off M M2 (17 + 2 * j)) ∧ M1 = rg_I M2 11 j 1)) 0 0 (rg_A B) := by
  refine rg_ofW (by decide +kernel) rfl (Nat.le_of_ble_eq_true rfl) ?_
  intro p e s m args below meth c ls C0 hH hl hr hlocks hnm
  replace hl : lv_has ls 3 [(0, .ref (B + 6)), (1, .ref (B + v)), (2, .ref (B + 1))] := hl
  have hx := C0.1.1
  have hb := C0.1.2.1
  generalize hH9 : s.heap = H at hH ⊢
  generalize hL9 : ([] : List Loc) = locs at hH ⊢
  clear hH9 hL9
  refine lv_aload_n hx hb dX1_mendLatest_0 rfl (lv_at hl 0 rfl) ?_
  refine lv_aload_n hx hb dX1_mendLatest_1 rfl (lv_at hl 0 rfl) ?_
  refine rg_gI C0 hH (ci := 1) (k := 4) (o := 6) rfl inT_X1 (by decide) tw_f_X1_41 (by decide) rfl (by decide) rfl dX1_mendLatest_2 ?_
  refine rg_topi (y := nI (j + 1)) (by exact hmd) ?_
  refine lv_iconst (v := 1) hx hb dX1_mendLatest_5 (by decide) ?_
  refine lv_isub hx hb dX1_mendLatest_6 ?_
  refine rg_topi (y := nI j) (by exact nI_pred j) ?_
  refine rg_callGi C0 hH (As := [.int (nI j)]) (rest := []) (o := 6) (ci := 1) (k_X1_has l E B M (nI j)) (rg_cw 1 C0.1.2.2.2.2 tw_m_X1_57 tw_i_X1_has tw_v_X1_has tw_n_X1 tw_c_X1_has rfl rfl hd_X1_has ⟨Nat.le_of_ble_eq_true rfl, Nat.le_of_ble_eq_true rfl⟩) rfl (by decide) rfl (by decide) rfl hl.1 rfl (Nat.le_of_ble_eq_true rfl) dX1_mendLatest_7 ⟨Nat.le_of_ble_eq_true rfl, Nat.le_of_ble_eq_true rfl⟩ (fun H locs hH => ?_)
  refine lv_if_ne (tgt := 14) hx hb dX1_mendLatest_10 (by decide) (fun c_10 => ?_) (fun c_10 => ?_)
  · refine lv_aload_n hx hb dX1_mendLatest_14 rfl (lv_at hl 0 rfl) ?_
    refine rg_gR C0 hH (o2 := 8) (ci := 1) (k := 6) (o := 6) rfl rfl inT_X1 (by decide) tw_f_X1_17 (by decide) rfl (by decide) rfl dX1_mendLatest_15 ?_
    refine lv_aload_n hx hb dX1_mendLatest_18 rfl (lv_at hl 0 rfl) ?_
    refine rg_gI C0 hH (ci := 1) (k := 4) (o := 6) rfl inT_X1 (by decide) tw_f_X1_41 (by decide) rfl (by decide) rfl dX1_mendLatest_19 ?_
    refine rg_topi (y := nI (j + 1)) (by exact hmd) ?_
    refine lv_iconst (v := 1) hx hb dX1_mendLatest_22 (by decide) ?_
    refine lv_isub hx hb dX1_mendLatest_23 ?_
    refine rg_topi (y := nI j) (by exact nI_pred j) ?_
    refine rg_aaldN C0 hH (o := 8) (o2 := (17 + 2 * j)) (j := j) (n0 := 36) (rg_R0_8 _ hj) (by decide) rfl (by decide) rfl (by omega) dX1_mendLatest_24 ?_
    refine lv_aload_n hx hb dX1_mendLatest_25 rfl (lv_at hl 1 rfl) ?_
    refine lv_aload_n hx hb dX1_mendLatest_26 rfl (lv_at hl 2 rfl) ?_
    refine rg_callWv C0 hH (As := [.ref (B + v), .ref (B + 1)]) (rest := []) (o := (17 + 2 * j)) (ci := 5) (k_X5_take l E B M (17 + 2 * j) v n (rg_isV_p hj) hv hne hn hvs) (rg_cw 2 C0.1.2.2.2.2 tw_m_X1_53 tw_i_X5_take tw_v_X5_take tw_n_X5 tw_c_X5_take rfl rfl hd_X5_take ⟨Nat.le_of_ble_eq_true rfl, Nat.le_of_ble_eq_true rfl⟩) rfl (rg_isV_lt (rg_isV_p hj)) (rg_kdV_all _ hj) (by decide) rfl hl.1 rfl (Nat.le_of_ble_eq_true rfl) dX1_mendLatest_27 ⟨Nat.le_of_ble_eq_true rfl, Nat.le_of_ble_eq_true rfl⟩ (fun M_27 H locs e_27 hH => ?_)
    have hj8 : M_27.1 6 4 = nI (j + 1) := by rw [(e_27.2.2 6 (by omega) (by omega)).1]; exact hmd
    refine lv_aload_n hx hb dX1_mendLatest_30 rfl (lv_at hl 0 rfl) ?_
    refine rg_gR C0 hH (o2 := 11) (ci := 1) (k := 9) (o := 6) rfl rfl inT_X1 (by decide) tw_f_X1_28 (by decide) rfl (by decide) rfl dX1_mendLatest_31 ?_
    refine lv_aload_n hx hb dX1_mendLatest_34 rfl (lv_at hl 0 rfl) ?_
    refine rg_gI C0 hH (ci := 1) (k := 4) (o := 6) rfl inT_X1 (by decide) tw_f_X1_41 (by decide) rfl (by decide) rfl dX1_mendLatest_35 ?_
    refine rg_topi (y := nI (j + 1)) (by exact hj8) ?_
    refine lv_iconst (v := 1) hx hb dX1_mendLatest_38 (by decide) ?_
    refine lv_isub hx hb dX1_mendLatest_39 ?_
    refine rg_topi (y := nI j) (by exact nI_pred j) ?_
    refine lv_iconst (v := 1) hx hb dX1_mendLatest_40 (by decide) ?_
    refine rg_zastN C0 hH (o := 11) (j := j) (n0 := 36) (by decide) rfl (Or.inr rfl) rfl (by omega) dX1_mendLatest_41 (fun H locs hH => ?_)
    exact rg_retWv C0 hH hr hlocks (by exact ⟨M_27, e_27, rfl⟩) dX1_mendLatest_42
  · exact absurd (show rg_hl M (nI j) from ⟨nI_pos (by omega), by rw [hmd]; exact nI_ge (by omega) (by omega)⟩) (rg_b_eq.mp c_10)

set_option maxHeartbeats 4000000 in
set_option maxRecDepth 100000 in
/-- Sheet.isOnSheet -/
theorem k_X3_isOnSheet (l : Launch) (E : rg_Env) (B : Nat) (M : rg_Mem) (q : Nat) (x : Int32) (y : Int32) (hq : q < 8) : Met l yX3_isOnSheet (rg_w yX3_isOnSheet cX3_isOnSheet 3 (some (FieldType.boolean))) ({ frames := 0, cells := 0, slots := 0, locals := 0 } : Room) (va_Pc [.ref (B + (108 + 38 * q)), .int (x), .int (y)] (rg_Pre E B 422 rg_R0 M)) (rg_Ri E B 422 rg_R0 (M) (fun r => r = rg_b (rg_os x y))) 0 0 (rg_A B) := by
  refine rg_ofW (by decide +kernel) rfl (Nat.le_of_ble_eq_true rfl) ?_
  intro p e s m args below meth c ls C0 hH hl hr hlocks hnm
  replace hl : lv_has ls 3 [(0, .ref (B + (108 + 38 * q))), (1, .int (x)), (2, .int (y))] := hl
  have hx := C0.1.1
  have hb := C0.1.2.1
  generalize hH9 : s.heap = H at hH ⊢
  generalize hL9 : ([] : List Loc) = locs at hH ⊢
  clear hH9 hL9
  refine lv_iload_n hx hb dX3_isOnSheet_0 rfl (lv_at hl 1 rfl) ?_
  refine lv_if_lt (tgt := 24) hx hb dX3_isOnSheet_1 (by decide) (fun c_1 => ?_) (fun c_1 => ?_)
  · refine lv_iconst (v := 0) hx hb dX3_isOnSheet_24 (by decide) ?_
    exact rg_retRz C0 hH hr hlocks (Or.inl rfl) rfl (by simp_all [rg_b, rg_os]) dX3_isOnSheet_25
  · refine lv_iload_n hx hb dX3_isOnSheet_4 rfl (lv_at hl 1 rfl) ?_
    refine lv_bipush (v := 36) hx hb dX3_isOnSheet_5 (by decide) ?_
    refine lv_icmp_ge (tgt := 24) hx hb dX3_isOnSheet_7 (by decide) (fun c_7 => ?_) (fun c_7 => ?_)
    · refine lv_iconst (v := 0) hx hb dX3_isOnSheet_24 (by decide) ?_
      exact rg_retRz C0 hH hr hlocks (Or.inl rfl) rfl (by simp_all [rg_b, rg_os]) dX3_isOnSheet_25
    · refine lv_iload_n hx hb dX3_isOnSheet_10 rfl (lv_at hl 2 rfl) ?_
      refine lv_if_lt (tgt := 24) hx hb dX3_isOnSheet_11 (by decide) (fun c_11 => ?_) (fun c_11 => ?_)
      · refine lv_iconst (v := 0) hx hb dX3_isOnSheet_24 (by decide) ?_
        exact rg_retRz C0 hH hr hlocks (Or.inl rfl) rfl (by simp_all [rg_b, rg_os]) dX3_isOnSheet_25
      · refine lv_iload_n hx hb dX3_isOnSheet_14 rfl (lv_at hl 2 rfl) ?_
        refine lv_bipush (v := 6) hx hb dX3_isOnSheet_15 (by decide) ?_
        refine lv_icmp_ge (tgt := 24) hx hb dX3_isOnSheet_17 (by decide) (fun c_17 => ?_) (fun c_17 => ?_)
        · refine lv_iconst (v := 0) hx hb dX3_isOnSheet_24 (by decide) ?_
          exact rg_retRz C0 hH hr hlocks (Or.inl rfl) rfl (by simp_all [rg_b, rg_os]) dX3_isOnSheet_25
        · refine lv_iconst (v := 1) hx hb dX3_isOnSheet_20 (by decide) ?_
          refine lv_goto (tgt := 25) hx hb dX3_isOnSheet_21 (by decide) ?_
          exact rg_retRz C0 hH hr hlocks (Or.inr rfl) rfl (by exact rg_b_t ⟨c_1, c_7, c_11, c_17⟩) dX3_isOnSheet_25

set_option maxHeartbeats 4000000 in
set_option maxRecDepth 100000 in
/-- Sheet.wordOrNone -/
theorem k_X3_wordOrNone (l : Launch) (E : rg_Env) (B : Nat) (M : rg_Mem) (q : Nat) (x : Int32) (y : Int32) (hq : q < 8) : Met l yX3_wordOrNone (rg_w yX3_wordOrNone cX3_wordOrNone 3 (some (FieldType.int))) ({ frames := 1, cells := 0, slots := 0, locals := 22 } : Room) (va_Pc [.ref (B + (108 + 38 * q)), .int (x), .int (y)] (rg_Pre E B 422 rg_R0 M)) (rg_Ri E B 422 rg_R0 (M) (fun r => r = if rg_os x y then M.1 (110 + 38 * q + x.toNatClampNeg) y.toNatClampNeg else -1)) 0 0 (rg_A B) := by
  refine rg_ofW (by decide +kernel) rfl (Nat.le_of_ble_eq_true rfl) ?_
  intro p e s m args below meth c ls C0 hH hl hr hlocks hnm
  replace hl : lv_has ls 3 [(0, .ref (B + (108 + 38 * q))), (1, .int (x)), (2, .int (y))] := hl
  have hx := C0.1.1
  have hb := C0.1.2.1
  generalize hH9 : s.heap = H at hH ⊢
  generalize hL9 : ([] : List Loc) = locs at hH ⊢
  clear hH9 hL9
  refine lv_aload_n hx hb dX3_wordOrNone_0 rfl (lv_at hl 0 rfl) ?_
  refine lv_iload_n hx hb dX3_wordOrNone_1 rfl (lv_at hl 1 rfl) ?_
  refine lv_iload_n hx hb dX3_wordOrNone_2 rfl (lv_at hl 2 rfl) ?_
  refine rg_callGi C0 hH (As := [.int (x), .int (y)]) (rest := []) (o := (108 + 38 * q)) (ci := 3) (k_X3_isOnSheet l E B M q x y (by assumption)) (rg_cw 2 C0.1.2.2.2.2 tw_m_X3_16 tw_i_X3_isOnSheet tw_v_X3_isOnSheet tw_n_X3 tw_c_X3_isOnSheet rfl rfl hd_X3_isOnSheet ⟨Nat.le_of_ble_eq_true rfl, Nat.le_of_ble_eq_true rfl⟩) rfl (by omega) (rg_kdS _ hq).1 (by decide) rfl hl.1 rfl (Nat.le_of_ble_eq_true rfl) dX3_wordOrNone_3 ⟨Nat.le_of_ble_eq_true rfl, Nat.le_of_ble_eq_true rfl⟩ (fun H locs hH => ?_)
  refine lv_if_eq (tgt := 20) hx hb dX3_wordOrNone_6 (by decide) (fun c_6 => ?_) (fun c_6 => ?_)
  · refine lv_iconst (v := (-1)) hx hb dX3_wordOrNone_20 (by decide) ?_
    exact rg_retRi C0 hH hr hlocks rfl (by rw [if_neg (rg_b_eq.mp c_6)]) dX3_wordOrNone_21
  · have hq9 := rg_b_ne.mp c_6
    refine lv_aload_n hx hb dX3_wordOrNone_9 rfl (lv_at hl 0 rfl) ?_
    refine rg_gR C0 hH (o2 := (109 + 38 * q)) (ci := 3) (k := 0) (o := (108 + 38 * q)) (rg_kdS _ hq).2.2.2 rfl inT_X3 (by decide) tw_f_X3_11 (by omega) (rg_kdS _ hq).1 (by decide) rfl dX3_wordOrNone_10 ?_
    refine lv_iload_n hx hb dX3_wordOrNone_13 rfl (lv_at hl 1 rfl) ?_
    refine rg_aald C0 hH (o := (109 + 38 * q)) (o2 := (110 + 38 * q + x.toNatClampNeg)) (rg_kdR _ hq _ (rg_in_lt (rg_lit_in (n := 36) (m := 36) rfl hq9.1 hq9.2.1))).2.2 (by omega) (rg_kdS _ hq).2.1 (by decide) (rg_vin (rg_kdS _ hq).2.2.1 (by exact rg_lit_in (m := 36) rfl hq9.1 hq9.2.1)) dX3_wordOrNone_14 ?_
    refine lv_iload_n hx hb dX3_wordOrNone_15 rfl (lv_at hl 2 rfl) ?_
    refine rg_iald C0 hH (o := (110 + 38 * q + x.toNatClampNeg)) (by have := (rg_in_lt (rg_lit_in (n := 36) (m := 36) rfl hq9.1 hq9.2.1)); omega) (rg_kdR _ hq _ (rg_in_lt (rg_lit_in (n := 36) (m := 36) rfl hq9.1 hq9.2.1))).1 (rg_vin (rg_kdR _ hq _ (rg_in_lt (rg_lit_in (n := 36) (m := 36) rfl hq9.1 hq9.2.1))).2.1 (by exact rg_lit_in (m := 6) rfl hq9.2.2.1 hq9.2.2.2)) dX3_wordOrNone_16 ?_
    refine lv_goto (tgt := 21) hx hb dX3_wordOrNone_17 (by decide) ?_
    exact rg_retRi C0 hH hr hlocks rfl (by rw [if_pos hq9]) dX3_wordOrNone_21

set_option maxHeartbeats 4000000 in
set_option maxRecDepth 100000 in
/-- Sheet.put -/
theorem k_X3_put (l : Launch) (E : rg_Env) (B : Nat) (M : rg_Mem) (q : Nat) (x : Int32) (y : Int32) (z : Int32) (hq : q < 8) (hq9 : rg_os x y) : Met l yX3_put (rg_w yX3_put cX3_put 4 none) ({ frames := 1, cells := 0, slots := 0, locals := 22 } : Room) (va_Pc [.ref (B + (108 + 38 * q)), .int (x), .int (y), .int (z)] (rg_Pre E B 422 rg_R0 M)) (rg_Rv E B 422 rg_R0 (rg_I M (110 + 38 * q + x.toNatClampNeg) y.toNatClampNeg z) (True)) 0 0 (rg_A B) := by
  refine rg_ofW (by decide +kernel) rfl (Nat.le_of_ble_eq_true rfl) ?_
  intro p e s m args below meth c ls C0 hH hl hr hlocks hnm
  replace hl : lv_has ls 4 [(0, .ref (B + (108 + 38 * q))), (1, .int (x)), (2, .int (y)), (3, .int (z))] := hl
  have hx := C0.1.1
  have hb := C0.1.2.1
  generalize hH9 : s.heap = H at hH ⊢
  generalize hL9 : ([] : List Loc) = locs at hH ⊢
  clear hH9 hL9
  refine lv_aload_n hx hb dX3_put_0 rfl (lv_at hl 0 rfl) ?_
  refine lv_iload_n hx hb dX3_put_1 rfl (lv_at hl 1 rfl) ?_
  refine lv_iload_n hx hb dX3_put_2 rfl (lv_at hl 2 rfl) ?_
  refine rg_callGi C0 hH (As := [.int (x), .int (y)]) (rest := []) (o := (108 + 38 * q)) (ci := 3) (k_X3_isOnSheet l E B M q x y (by assumption)) (rg_cw 2 C0.1.2.2.2.2 tw_m_X3_16 tw_i_X3_isOnSheet tw_v_X3_isOnSheet tw_n_X3 tw_c_X3_isOnSheet rfl rfl hd_X3_isOnSheet ⟨Nat.le_of_ble_eq_true rfl, Nat.le_of_ble_eq_true rfl⟩) rfl (by omega) (rg_kdS _ hq).1 (by decide) rfl hl.1 rfl (Nat.le_of_ble_eq_true rfl) dX3_put_3 ⟨Nat.le_of_ble_eq_true rfl, Nat.le_of_ble_eq_true rfl⟩ (fun H locs hH => ?_)
  refine lv_if_eq (tgt := 18) hx hb dX3_put_6 (by decide) (fun c_6 => ?_) (fun c_6 => ?_)
  · exact absurd hq9 (rg_b_eq.mp c_6)
  · refine lv_aload_n hx hb dX3_put_9 rfl (lv_at hl 0 rfl) ?_
    refine rg_gR C0 hH (o2 := (109 + 38 * q)) (ci := 3) (k := 0) (o := (108 + 38 * q)) (rg_kdS _ hq).2.2.2 rfl inT_X3 (by decide) tw_f_X3_11 (by omega) (rg_kdS _ hq).1 (by decide) rfl dX3_put_10 ?_
    refine lv_iload_n hx hb dX3_put_13 rfl (lv_at hl 1 rfl) ?_
    refine rg_aald C0 hH (o := (109 + 38 * q)) (o2 := (110 + 38 * q + x.toNatClampNeg)) (rg_kdR _ hq _ (rg_in_lt (rg_lit_in (n := 36) (m := 36) rfl hq9.1 hq9.2.1))).2.2 (by omega) (rg_kdS _ hq).2.1 (by decide) (rg_vin (rg_kdS _ hq).2.2.1 (by exact rg_lit_in (m := 36) rfl hq9.1 hq9.2.1)) dX3_put_14 ?_
    refine lv_iload_n hx hb dX3_put_15 rfl (lv_at hl 2 rfl) ?_
    refine lv_iload_n hx hb dX3_put_16 rfl (lv_at hl 3 rfl) ?_
    refine rg_iast C0 hH (o := (110 + 38 * q + x.toNatClampNeg)) (by have := (rg_in_lt (rg_lit_in (n := 36) (m := 36) rfl hq9.1 hq9.2.1)); omega) (rg_kdR _ hq _ (rg_in_lt (rg_lit_in (n := 36) (m := 36) rfl hq9.1 hq9.2.1))).1 (rg_vin (rg_kdR _ hq _ (rg_in_lt (rg_lit_in (n := 36) (m := 36) rfl hq9.1 hq9.2.1))).2.1 (by exact rg_lit_in (m := 6) rfl hq9.2.2.1 hq9.2.2.2)) dX3_put_17 (fun H locs hH => ?_)
    exact rg_retRv C0 hH hr hlocks rfl (by trivial) dX3_put_18

set_option maxHeartbeats 4000000 in
set_option maxRecDepth 100000 in
/-- Means.reset -/
theorem k_X0_reset (l : Launch) (E : rg_Env) (B : Nat) (M : rg_Mem) : Met l yX0_reset (rg_w yX0_reset cX0_reset 2 none) ({ frames := 0, cells := 0, slots := 0, locals := 0 } : Room) (va_Pc [.ref (B + 94)] (rg_Pre E B 422 rg_R0 M)) (rg_Rv E B 422 rg_R0 (rg_mz M 6) (True)) 0 0 (rg_A B) := by
  refine rg_ofW (by decide +kernel) rfl (Nat.le_of_ble_eq_true rfl) ?_
  intro p e s m args below meth c ls C0 hH hl hr hlocks hnm
  replace hl : lv_has ls 2 [(0, .ref (B + 94))] := hl
  have hx := C0.1.1
  have hb := C0.1.2.1
  generalize hH9 : s.heap = H at hH ⊢
  generalize hL9 : ([] : List Loc) = locs at hH ⊢
  clear hH9 hL9
  refine lv_iconst (v := 0) hx hb dX0_reset_0 (by decide) ?_
  refine lv_istore_n (lv' := [(1, .int (0)), (0, .ref (B + 94))]) hx hb dX0_reset_1 rfl hl (by decide) rfl (fun ls hl => ?_)
  have cut_2 : ∀ (fu i : Nat), i ≤ 6 ∧ 6 < i + fu → ∀  (H : Heap) (locs : List Loc) (ls : Array Slot), rg_H E B 422 rg_R0 (rg_mz M i) s H locs → lv_has ls 2 [(0, .ref (B + 94)), (1, .int (nI i))] → W p l e ({ frames := 0, cells := 0, slots := 0, locals := 0 } : Room) s m args below meth c H locs 0 0 (MQ below (rg_Rv E B 422 rg_R0 (rg_mz M 6) (True)) args s 0 0 (rg_A B)) (F0 m 2 ls []) := by
    intro fu
    induction fu with
    | zero =>
      intro i hm
      exact absurd hm (by omega)
    | succ fu ih =>
      intro i hm  H locs ls hH hl 
      refine lv_iload_n hx hb dX0_reset_2 rfl (lv_at hl 1 rfl) ?_
      refine lv_bipush (v := 6) hx hb dX0_reset_3 (by decide) ?_
      refine lv_icmp_ge (tgt := 28) hx hb dX0_reset_5 (by decide) (fun c_5 => ?_) (fun c_5 => ?_)
      · exact rg_retRv C0 hH hr hlocks (by rw [rg_lp_end (n := 6) hm.1 (by omega) c_5]) (by trivial) dX0_reset_28
      · have hlt : i < 6 := rg_lp_lt (n := 6) hm.1 (by omega) c_5
        refine lv_aload_n hx hb dX0_reset_8 rfl (lv_at hl 0 rfl) ?_
        refine rg_gR C0 hH (o2 := 95) (ci := 0) (k := 0) (o := 94) rfl rfl inT_X0 (by decide) tw_f_X0_9 (by decide) rfl (by decide) rfl dX0_reset_9 ?_
        refine lv_iload_n hx hb dX0_reset_12 rfl (lv_at hl 1 rfl) ?_
        refine lv_iconst (v := 0) hx hb dX0_reset_13 (by decide) ?_
        refine rg_iastN C0 hH (o := 95) (j := i) (n0 := 6) (by decide) rfl rfl (by omega) dX0_reset_14 (fun H locs hH => ?_)
        refine lv_aload_n hx hb dX0_reset_15 rfl (lv_at hl 0 rfl) ?_
        refine rg_gR C0 hH (o2 := 96) (ci := 0) (k := 1) (o := 94) rfl rfl inT_X0 (by decide) tw_f_X0_15 (by decide) rfl (by decide) rfl dX0_reset_16 ?_
        refine lv_iload_n hx hb dX0_reset_19 rfl (lv_at hl 1 rfl) ?_
        refine lv_iconst (v := 0) hx hb dX0_reset_20 (by decide) ?_
        refine rg_iastN C0 hH (o := 96) (j := i) (n0 := 6) (by decide) rfl rfl (by omega) dX0_reset_21 (fun H locs hH => ?_)
        refine lv_iinc (v := nI (i + 1)) (lv' := [(1, .int (nI (i + 1))), (0, .ref (B + 94))]) hx hb dX0_reset_22 hl (k := 1) rfl (nI_1 _) (by decide) rfl (fun ls hl => ?_)
        refine lv_goto (tgt := 2) hx hb dX0_reset_25 (by decide) ?_
        exact ih (i + 1) (by omega) _ _ _ (rg_H_eq (by exact rg_mz_s) hH) (lv_sub hl [1, 0] rfl)
  exact cut_2 7 0 (by omega) _ _ _ (rg_H_eq (by exact rg_mz_0) hH) (lv_sub hl [1, 0] rfl)

set_option maxHeartbeats 4000000 in
set_option maxRecDepth 100000 in
/-- Means.enter -/
theorem k_X0_enter (l : Launch) (E : rg_Env) (B : Nat) (M : rg_Mem) (j : Nat) (x : Int32) (hj : j < 6) : Met l yX0_enter (rg_w yX0_enter cX0_enter 3 none) ({ frames := 0, cells := 0, slots := 0, locals := 0 } : Room) (va_Pc [.ref (B + 94), .int (nI j), .int (x)] (rg_Pre E B 422 rg_R0 M)) (rg_Rv E B 422 rg_R0 (rg_I (rg_I M 95 j (M.1 95 j + x)) 96 j (M.1 96 j + 1)) (True)) 0 0 (rg_A B) := by
  refine rg_ofW (by decide +kernel) rfl (Nat.le_of_ble_eq_true rfl) ?_
  intro p e s m args below meth c ls C0 hH hl hr hlocks hnm
  replace hl : lv_has ls 3 [(0, .ref (B + 94)), (1, .int (nI j)), (2, .int (x))] := hl
  have hx := C0.1.1
  have hb := C0.1.2.1
  generalize hH9 : s.heap = H at hH ⊢
  generalize hL9 : ([] : List Loc) = locs at hH ⊢
  clear hH9 hL9
  refine lv_iload_n hx hb dX0_enter_0 rfl (lv_at hl 1 rfl) ?_
  refine lv_if_lt (tgt := 30) hx hb dX0_enter_1 (by decide) (fun c_1 => ?_) (fun c_1 => ?_)
  · exact absurd c_1 (nI_pos (by omega))
  · refine lv_iload_n hx hb dX0_enter_4 rfl (lv_at hl 1 rfl) ?_
    refine lv_bipush (v := 6) hx hb dX0_enter_5 (by decide) ?_
    refine lv_icmp_ge (tgt := 30) hx hb dX0_enter_7 (by decide) (fun c_7 => ?_) (fun c_7 => ?_)
    · exact absurd c_7 (nI_ge (b := 6) hj (by omega))
    · refine lv_aload_n hx hb dX0_enter_10 rfl (lv_at hl 0 rfl) ?_
      refine rg_gR C0 hH (o2 := 95) (ci := 0) (k := 0) (o := 94) rfl rfl inT_X0 (by decide) tw_f_X0_9 (by decide) rfl (by decide) rfl dX0_enter_11 ?_
      refine lv_iload_n hx hb dX0_enter_14 rfl (lv_at hl 1 rfl) ?_
      refine lv_dup2_11 hx hb dX0_enter_15 rfl rfl ?_
      refine rg_ialdN C0 hH (o := 95) (j := j) (n0 := 6) (by decide) rfl rfl (by omega) dX0_enter_16 ?_
      refine lv_iload_n hx hb dX0_enter_17 rfl (lv_at hl 2 rfl) ?_
      refine lv_iadd hx hb dX0_enter_18 ?_
      refine rg_iastN C0 hH (o := 95) (j := j) (n0 := 6) (by decide) rfl rfl (by omega) dX0_enter_19 (fun H locs hH => ?_)
      refine lv_aload_n hx hb dX0_enter_20 rfl (lv_at hl 0 rfl) ?_
      refine rg_gR C0 hH (o2 := 96) (ci := 0) (k := 1) (o := 94) rfl rfl inT_X0 (by decide) tw_f_X0_15 (by decide) rfl (by decide) rfl dX0_enter_21 ?_
      refine lv_iload_n hx hb dX0_enter_24 rfl (lv_at hl 1 rfl) ?_
      refine lv_dup2_11 hx hb dX0_enter_25 rfl rfl ?_
      refine rg_ialdN C0 hH (o := 96) (j := j) (n0 := 6) (by decide) rfl rfl (by omega) dX0_enter_26 ?_
      refine rg_topi (y := M.1 96 j) (by simp [rg_I]) ?_
      refine lv_iconst (v := 1) hx hb dX0_enter_27 (by decide) ?_
      refine lv_iadd hx hb dX0_enter_28 ?_
      refine rg_iastN C0 hH (o := 96) (j := j) (n0 := 6) (by decide) rfl rfl (by omega) dX0_enter_29 (fun H locs hH => ?_)
      exact rg_retRv C0 hH hr hlocks (by simp_all) (by trivial) dX0_enter_30

set_option maxHeartbeats 4000000 in
set_option maxRecDepth 100000 in
/-- Means.isGreater -/
theorem k_X0_isGreater (l : Launch) (E : rg_Env) (B : Nat) (M : rg_Mem) (x : Int32) (y : Int32) (h1 : vp_in x 6) (h2 : vp_in y 6) : Met l yX0_isGreater (rg_w yX0_isGreater cX0_isGreater 3 (some (FieldType.boolean))) ({ frames := 0, cells := 0, slots := 0, locals := 0 } : Room) (va_Pc [.ref (B + 94), .int (x), .int (y)] (rg_Pre E B 422 rg_R0 M)) (rg_Ri E B 422 rg_R0 (M) (fun r => r = rg_b (¬ M.1 95 x.toNatClampNeg * M.1 96 y.toNatClampNeg ≤ M.1 95 y.toNatClampNeg * M.1 96 x.toNatClampNeg))) 0 0 (rg_A B) := by
  refine rg_ofW (by decide +kernel) rfl (Nat.le_of_ble_eq_true rfl) ?_
  intro p e s m args below meth c ls C0 hH hl hr hlocks hnm
  replace hl : lv_has ls 3 [(0, .ref (B + 94)), (1, .int (x)), (2, .int (y))] := hl
  have hx := C0.1.1
  have hb := C0.1.2.1
  generalize hH9 : s.heap = H at hH ⊢
  generalize hL9 : ([] : List Loc) = locs at hH ⊢
  clear hH9 hL9
  refine lv_aload_n hx hb dX0_isGreater_0 rfl (lv_at hl 0 rfl) ?_
  refine rg_gR C0 hH (o2 := 95) (ci := 0) (k := 0) (o := 94) rfl rfl inT_X0 (by decide) tw_f_X0_9 (by decide) rfl (by decide) rfl dX0_isGreater_1 ?_
  refine lv_iload_n hx hb dX0_isGreater_4 rfl (lv_at hl 1 rfl) ?_
  refine rg_iald C0 hH (o := 95) (by decide) rfl (rg_vin rfl (by assumption)) dX0_isGreater_5 ?_
  refine lv_aload_n hx hb dX0_isGreater_6 rfl (lv_at hl 0 rfl) ?_
  refine rg_gR C0 hH (o2 := 96) (ci := 0) (k := 1) (o := 94) rfl rfl inT_X0 (by decide) tw_f_X0_15 (by decide) rfl (by decide) rfl dX0_isGreater_7 ?_
  refine lv_iload_n hx hb dX0_isGreater_10 rfl (lv_at hl 2 rfl) ?_
  refine rg_iald C0 hH (o := 96) (by decide) rfl (rg_vin rfl (by assumption)) dX0_isGreater_11 ?_
  refine lv_imul hx hb dX0_isGreater_12 ?_
  refine lv_aload_n hx hb dX0_isGreater_13 rfl (lv_at hl 0 rfl) ?_
  refine rg_gR C0 hH (o2 := 95) (ci := 0) (k := 0) (o := 94) rfl rfl inT_X0 (by decide) tw_f_X0_9 (by decide) rfl (by decide) rfl dX0_isGreater_14 ?_
  refine lv_iload_n hx hb dX0_isGreater_17 rfl (lv_at hl 2 rfl) ?_
  refine rg_iald C0 hH (o := 95) (by decide) rfl (rg_vin rfl (by assumption)) dX0_isGreater_18 ?_
  refine lv_aload_n hx hb dX0_isGreater_19 rfl (lv_at hl 0 rfl) ?_
  refine rg_gR C0 hH (o2 := 96) (ci := 0) (k := 1) (o := 94) rfl rfl inT_X0 (by decide) tw_f_X0_15 (by decide) rfl (by decide) rfl dX0_isGreater_20 ?_
  refine lv_iload_n hx hb dX0_isGreater_23 rfl (lv_at hl 1 rfl) ?_
  refine rg_iald C0 hH (o := 96) (by decide) rfl (rg_vin rfl (by assumption)) dX0_isGreater_24 ?_
  refine lv_imul hx hb dX0_isGreater_25 ?_
  refine lv_icmp_le (tgt := 33) hx hb dX0_isGreater_26 (by decide) (fun c_26 => ?_) (fun c_26 => ?_)
  · refine lv_iconst (v := 0) hx hb dX0_isGreater_33 (by decide) ?_
    exact rg_retRz C0 hH hr hlocks (Or.inl rfl) rfl (by exact rg_b_f (fun q => q c_26)) dX0_isGreater_34
  · refine lv_iconst (v := 1) hx hb dX0_isGreater_29 (by decide) ?_
    refine lv_goto (tgt := 34) hx hb dX0_isGreater_30 (by decide) ?_
    exact rg_retRz C0 hH hr hlocks (Or.inr rfl) rfl (by exact rg_b_t c_26) dX0_isGreater_34

set_option maxHeartbeats 4000000 in
set_option maxRecDepth 100000 in
/-- Means.greatest -/
theorem k_X0_greatest (l : Launch) (E : rg_Env) (B : Nat) (M : rg_Mem) : Met l yX0_greatest (rg_w yX0_greatest cX0_greatest 3 (some (FieldType.int))) ({ frames := 1, cells := 0, slots := 0, locals := 22 } : Room) (va_Pc [.ref (B + 94)] (rg_Pre E B 422 rg_R0 M)) (rg_Ri E B 422 rg_R0 (M) (fun r => r = rg_gr (M.1 95) (M.1 96) 6)) 0 0 (rg_A B) := by
  refine rg_ofW (by decide +kernel) rfl (Nat.le_of_ble_eq_true rfl) ?_
  intro p e s m args below meth c ls C0 hH hl hr hlocks hnm
  replace hl : lv_has ls 3 [(0, .ref (B + 94))] := hl
  have hx := C0.1.1
  have hb := C0.1.2.1
  generalize hH9 : s.heap = H at hH ⊢
  generalize hL9 : ([] : List Loc) = locs at hH ⊢
  clear hH9 hL9
  refine lv_iconst (v := (-1)) hx hb dX0_greatest_0 (by decide) ?_
  refine lv_istore_n (lv' := [(1, .int ((-1))), (0, .ref (B + 94))]) hx hb dX0_greatest_1 rfl hl (by decide) rfl (fun ls hl => ?_)
  refine lv_iconst (v := 0) hx hb dX0_greatest_2 (by decide) ?_
  refine lv_istore_n (lv' := [(2, .int (0)), (1, .int ((-1))), (0, .ref (B + 94))]) hx hb dX0_greatest_3 rfl hl (by decide) rfl (fun ls hl => ?_)
  have cut_4 : ∀ (fu i : Nat), i ≤ 6 ∧ 6 < i + fu → ∀  (H : Heap) (locs : List Loc) (ls : Array Slot), rg_H E B 422 rg_R0 M s H locs → lv_has ls 3 [(0, .ref (B + 94)), (1, .int (rg_gr (M.1 95) (M.1 96) i)), (2, .int (nI i))] → W p l e ({ frames := 1, cells := 0, slots := 0, locals := 22 } : Room) s m args below meth c H locs 0 0 (MQ below (rg_Ri E B 422 rg_R0 (M) (fun r => r = rg_gr (M.1 95) (M.1 96) 6)) args s 0 0 (rg_A B)) (F0 m 4 ls []) := by
    intro fu
    induction fu with
    | zero =>
      intro i hm
      exact absurd hm (by omega)
    | succ fu ih =>
      intro i hm  H locs ls hH hl 
      refine lv_iload_n hx hb dX0_greatest_4 rfl (lv_at hl 2 rfl) ?_
      refine lv_bipush (v := 6) hx hb dX0_greatest_5 (by decide) ?_
      refine lv_icmp_ge (tgt := 41) hx hb dX0_greatest_7 (by decide) (fun c_7 => ?_) (fun c_7 => ?_)
      · refine lv_iload_n hx hb dX0_greatest_41 rfl (lv_at hl 1 rfl) ?_
        exact rg_retRi C0 hH hr hlocks rfl (by rw [rg_lp_end (n := 6) hm.1 (by omega) c_7]) dX0_greatest_42
      · have hlt : i < 6 := rg_lp_lt (n := 6) hm.1 (by omega) c_7
        refine lv_aload_n hx hb dX0_greatest_10 rfl (lv_at hl 0 rfl) ?_
        refine rg_gR C0 hH (o2 := 96) (ci := 0) (k := 1) (o := 94) rfl rfl inT_X0 (by decide) tw_f_X0_15 (by decide) rfl (by decide) rfl dX0_greatest_11 ?_
        refine lv_iload_n hx hb dX0_greatest_14 rfl (lv_at hl 2 rfl) ?_
        refine rg_ialdN C0 hH (o := 96) (j := i) (n0 := 6) (by decide) rfl rfl (by omega) dX0_greatest_15 ?_
        refine lv_if_le (tgt := 35) hx hb dX0_greatest_16 (by decide) (fun c_16 => ?_) (fun c_16 => ?_)
        · refine lv_iinc (v := nI (i + 1)) (lv' := [(2, .int (nI (i + 1))), (0, .ref (B + 94)), (1, .int (rg_gr (M.1 95) (M.1 96) i))]) hx hb dX0_greatest_35 hl (k := 2) rfl (nI_1 _) (by decide) rfl (fun ls hl => ?_)
          refine lv_goto (tgt := 4) hx hb dX0_greatest_38 (by decide) ?_
          have hgs : rg_gr (M.1 95) (M.1 96) (i + 1) = rg_gr (M.1 95) (M.1 96) i := by rw [rg_gr, if_neg (fun q => q.1 c_16)]
          rw [← hgs] at hl
          exact ih (i + 1) (by omega) _ _ _ hH (lv_sub hl [1, 2, 0] rfl)
        · refine lv_iload_n hx hb dX0_greatest_19 rfl (lv_at hl 1 rfl) ?_
          refine lv_iconst (v := (-1)) hx hb dX0_greatest_20 (by decide) ?_
          refine lv_icmp_eq (tgt := 33) hx hb dX0_greatest_21 (by decide) (fun c_21 => ?_) (fun c_21 => ?_)
          · refine lv_iload_n hx hb dX0_greatest_33 rfl (lv_at hl 2 rfl) ?_
            refine lv_istore_n (lv' := [(1, .int (nI i)), (0, .ref (B + 94)), (2, .int (nI i))]) hx hb dX0_greatest_34 rfl hl (by decide) rfl (fun ls hl => ?_)
            refine lv_iinc (v := nI (i + 1)) (lv' := [(2, .int (nI (i + 1))), (1, .int (nI i)), (0, .ref (B + 94))]) hx hb dX0_greatest_35 hl (k := 2) rfl (nI_1 _) (by decide) rfl (fun ls hl => ?_)
            refine lv_goto (tgt := 4) hx hb dX0_greatest_38 (by decide) ?_
            replace hl : lv_has ls 3 [(2, .int (nI (i + 1))), (1, .int (rg_gr (M.1 95) (M.1 96) (i + 1))), (0, .ref (B + 94))] := by rw [rg_gr, if_pos ⟨c_16, Or.inl c_21⟩]; exact hl
            exact ih (i + 1) (by omega) _ _ _ hH (lv_sub hl [2, 1, 0] rfl)
          · refine lv_aload_n hx hb dX0_greatest_24 rfl (lv_at hl 0 rfl) ?_
            refine lv_iload_n hx hb dX0_greatest_25 rfl (lv_at hl 2 rfl) ?_
            refine lv_iload_n hx hb dX0_greatest_26 rfl (lv_at hl 1 rfl) ?_
            refine rg_callGi C0 hH (As := [.int (nI i), .int (rg_gr (M.1 95) (M.1 96) i)]) (rest := []) (o := 94) (ci := 0) (k_X0_isGreater l E B M (nI i) (rg_gr (M.1 95) (M.1 96) i) (vp_in_nI hlt (by omega)) (rg_gr_v hm.1 (by omega) c_21)) (rg_cw 2 C0.1.2.2.2.2 tw_m_X0_18 tw_i_X0_isGreater tw_v_X0_isGreater tw_n_X0 tw_c_X0_isGreater rfl rfl hd_X0_isGreater ⟨Nat.le_of_ble_eq_true rfl, Nat.le_of_ble_eq_true rfl⟩) rfl (by decide) rfl (by decide) rfl hl.1 rfl (Nat.le_of_ble_eq_true rfl) dX0_greatest_27 ⟨Nat.le_of_ble_eq_true rfl, Nat.le_of_ble_eq_true rfl⟩ (fun H locs hH => ?_)
            refine lv_if_eq (tgt := 35) hx hb dX0_greatest_30 (by decide) (fun c_30 => ?_) (fun c_30 => ?_)
            · refine lv_iinc (v := nI (i + 1)) (lv' := [(2, .int (nI (i + 1))), (0, .ref (B + 94)), (1, .int (rg_gr (M.1 95) (M.1 96) i))]) hx hb dX0_greatest_35 hl (k := 2) rfl (nI_1 _) (by decide) rfl (fun ls hl => ?_)
              refine lv_goto (tgt := 4) hx hb dX0_greatest_38 (by decide) ?_
              rw [nI_clamp (show i < 2 ^ 31 by omega)] at c_30
              have hgs : rg_gr (M.1 95) (M.1 96) (i + 1) = rg_gr (M.1 95) (M.1 96) i := by rw [rg_gr, if_neg (fun q => q.2.elim c_21 (fun z => (rg_b_eq.mp c_30) z))]
              rw [← hgs] at hl
              exact ih (i + 1) (by omega) _ _ _ hH (lv_sub hl [1, 2, 0] rfl)
            · refine lv_iload_n hx hb dX0_greatest_33 rfl (lv_at hl 2 rfl) ?_
              refine lv_istore_n (lv' := [(1, .int (nI i)), (0, .ref (B + 94)), (2, .int (nI i))]) hx hb dX0_greatest_34 rfl hl (by decide) rfl (fun ls hl => ?_)
              refine lv_iinc (v := nI (i + 1)) (lv' := [(2, .int (nI (i + 1))), (1, .int (nI i)), (0, .ref (B + 94))]) hx hb dX0_greatest_35 hl (k := 2) rfl (nI_1 _) (by decide) rfl (fun ls hl => ?_)
              refine lv_goto (tgt := 4) hx hb dX0_greatest_38 (by decide) ?_
              rw [nI_clamp (show i < 2 ^ 31 by omega)] at c_30
              replace hl : lv_has ls 3 [(2, .int (nI (i + 1))), (1, .int (rg_gr (M.1 95) (M.1 96) (i + 1))), (0, .ref (B + 94))] := by rw [rg_gr, if_pos ⟨c_16, Or.inr (rg_b_ne.mp c_30)⟩]; exact hl
              exact ih (i + 1) (by omega) _ _ _ hH (lv_sub hl [2, 1, 0] rfl)
  exact cut_4 7 0 (by omega) _ _ _ hH (lv_sub hl [2, 1, 0] rfl)
