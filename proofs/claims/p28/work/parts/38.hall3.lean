set_option maxHeartbeats 4000000 in
set_option maxRecDepth 100000 in
/-- add -/
theorem k_X6_add (l : Launch) (hst : l.stackTraces = false) (E : rg_Env) (B : Nat) (M : rg_Mem) (w : Int32) (hI : rg_CI M) : vx_Met l yX6_add (rg_w yX6_add cX6_add 2 (some (FieldType.int))) ({ frames := 7, cells := 2, slots := 12, locals := 111 } : Room) (va_Pc [.ref (B + 0), .int (w)] (rg_Pre E B 422 rg_R0 M)) (rg_Wi E B 422 rg_R0 (fun r M1 => (rg_has M w ∧ M.1 90 1 < 6) ∧ r = nI (rg_sz M 90 + 1) ∧ rg_VS M1 90 (rg_sz M 90 + 1) ∧ M1.1 (90 + 1) (rg_sz M 90) = w ∧ (∀ k, k < rg_sz M 90 → M1.1 (90 + 1) k = M.1 (90 + 1) k) ∧ rg_off M M1 90)) (rg_X E B 422 rg_R0 M (fun X => (¬ (rg_has M w) ∧ X = "java/lang/IndexOutOfBoundsException") ∨ ((rg_has M w) ∧ ¬ (M.1 90 1 < 6) ∧ X = "java/lang/IllegalStateException"))) 2 12 (rg_A B) := by
  refine rg_xofW (by decide +kernel) rfl (Nat.le_of_ble_eq_true rfl) ?_
  intro p e s m args below meth c ls hne C0 hH hl hr hlocks
  replace hl : lv_has ls 2 [(0, .ref (B + 0)), (1, .int (w))] := hl
  have hx := C0.1.1
  have hb := C0.1.2.1
  generalize hH9 : s.heap = H at hH ⊢
  generalize hL9 : ([] : List Loc) = locs at hH ⊢
  clear hH9 hL9
  refine lv_aload_n hx hb dX6_add_0 rfl (lv_at hl 0 rfl) ?_
  refine lv_iload_n hx hb dX6_add_1 rfl (lv_at hl 1 rfl) ?_
  refine rg_xcallRv C0 hH (As := [.int (w)]) (rest := []) (o := 0) (ci := 6) hne hlocks (fun X hX => by exact Or.inl hX) (k_X6_needWord l hst E B M w) (rg_cw 1 C0.1.2.2.2.2 tw_m_X6_87 tw_i_X6_needWord tw_v_X6_needWord tw_n_X6 tw_c_X6_needWord rfl rfl hd_X6_needWord ⟨Nat.le_of_ble_eq_true rfl, Nat.le_of_ble_eq_true rfl⟩) rfl (by decide) rfl (by decide) rfl hl.1 rfl (Nat.le_of_ble_eq_true rfl) dX6_add_2 ⟨Nat.le_of_ble_eq_true rfl, Nat.le_of_ble_eq_true rfl⟩ ⟨Nat.le_of_ble_eq_true rfl, Nat.le_of_ble_eq_true rfl⟩ (fun H locs e_2 hH => ?_)
  refine lv_aload_n hx hb dX6_add_5 rfl (lv_at hl 0 rfl) ?_
  refine rg_gR C0 hH (o2 := 90) (ci := 6) (k := 3) (o := 0) rfl rfl inT_X6 (by decide) tw_f_X6_35 (by decide) rfl (by decide) rfl dX6_add_6 ?_
  refine rg_nI C0 hH (ci := 5) (k := 1) (o := 90) rfl inT_X5 (by decide) (by decide) (by decide) rfl (by decide) rfl dX6_add_9 ?_
  refine lv_bipush (v := 6) hx hb dX6_add_12 (by decide) ?_
  refine lv_icmp_lt (tgt := 27) hx hb dX6_add_14 (by decide) (fun c_14 => ?_) (fun c_14 => ?_)
  · refine lv_aload_n hx hb dX6_add_27 rfl (lv_at hl 0 rfl) ?_
    refine rg_gR C0 hH (o2 := 90) (ci := 6) (k := 3) (o := 0) rfl rfl inT_X6 (by decide) tw_f_X6_35 (by decide) rfl (by decide) rfl dX6_add_28 ?_
    refine lv_iload_n hx hb dX6_add_31 rfl (lv_at hl 1 rfl) ?_
    refine lv_aload_n hx hb dX6_add_32 rfl (lv_at hl 0 rfl) ?_
    refine rg_gR C0 hH (o2 := 1) (ci := 6) (k := 0) (o := 0) rfl rfl inT_X6 (by decide) tw_f_X6_13 (by decide) rfl (by decide) rfl dX6_add_33 ?_
    refine rg_callWv C0 hH (As := [.int (w), .ref (B + 1)]) (rest := []) (o := 90) (ci := 5) (k_X5_append l E B M 90 (rg_sz M 90) w rg_isV_d (rg_CI_cn hI) (rg_CI_d hI) (rg_ltI (n := 6) (m := 6) (by rw [← (rg_CI_d hI).1]; exact c_14) rfl (by have := (rg_CI_d hI).2.1; omega)) e_2) (rg_cw 2 C0.1.2.2.2.2 tw_m_X6_147 tw_i_X5_append tw_v_X5_append tw_n_X5 tw_c_X5_append rfl rfl hd_X5_append ⟨Nat.le_of_ble_eq_true rfl, Nat.le_of_ble_eq_true rfl⟩) rfl (by decide) rfl (by decide) rfl hl.1 rfl (Nat.le_of_ble_eq_true rfl) dX6_add_36 ⟨Nat.le_of_ble_eq_true rfl, Nat.le_of_ble_eq_true rfl⟩ (fun M_36 H locs e_36 hH => ?_)
    refine lv_aload_n hx hb dX6_add_39 rfl (lv_at hl 0 rfl) ?_
    refine rg_gR C0 hH (o2 := 90) (ci := 6) (k := 3) (o := 0) rfl rfl inT_X6 (by decide) tw_f_X6_35 (by decide) rfl (by decide) rfl dX6_add_40 ?_
    refine rg_nI C0 hH (ci := 5) (k := 1) (o := 90) rfl inT_X5 (by decide) (by decide) (by decide) rfl (by decide) rfl dX6_add_43 ?_
    refine rg_topi (y := nI (rg_sz M 90 + 1)) (by exact e_36.1.1) ?_
    refine vx_ret ?_
    refine W.widen (k := 2) (n := 12) (Nat.le_of_ble_eq_true rfl) (Nat.le_of_ble_eq_true rfl) ?_
    exact rg_retWi C0 hH hr hlocks (by exact ⟨⟨e_2, c_14⟩, rfl, e_36⟩) dX6_add_46
  · exact rg_throw C0 hH hst (cls := "java/lang/IllegalStateException") (text := "the draft has 6 words already") (names := ["java/lang/RuntimeException", "java/lang/Exception"]) hne hlocks (by decide +kernel) (by decide +kernel) tw_k_X6_76 tw_n_IllegalStateException (by decide) (by decide) rg_at_ise rg_ab_ise rg_ag_ise hl.1 dX6_add_17 dX6_add_20 dX6_add_21 dX6_add_23 dX6_add_26 (Nat.le_of_ble_eq_true rfl) (Nat.le_of_ble_eq_true rfl) (Nat.le_of_ble_eq_true rfl) (Nat.le_of_ble_eq_true rfl) (by exact Or.inr ⟨e_2, c_14, rfl⟩) (Nat.le_of_ble_eq_true rfl) (Nat.le_of_ble_eq_true rfl)

set_option maxHeartbeats 4000000 in
set_option maxRecDepth 100000 in
/-- offer -/
theorem k_X6_offer (l : Launch) (hst : l.stackTraces = false) (E : rg_Env) (B : Nat) (M : rg_Mem) (z : Int32) (hI : rg_CI M) : vx_Met l yX6_offer (rg_w yX6_offer cX6_offer 3 (some (FieldType.int))) ({ frames := 7, cells := 2, slots := 12, locals := 138 } : Room) (va_Pc [.ref (B + 0), .int (z)] (rg_Pre E B 422 rg_R0 M)) (rg_Wi E B 422 rg_R0 (fun r M1 => (rg_pt M z ∧ (¬ M.1 6 0 ≤ M.1 6 4 ∧ M.1 0 10 < 4)) ∧ ((∃ k, 1 ≤ k ∧ k ≤ 8 ∧ rg_f8 (rg_co M 90 (rg_sz M 90) (rg_nl M) (rg_sp M) z) 8 1 = nI k ∧ r = -nI k ∧ M1 = rg_I M 0 12 (rg_co M 90 (rg_sz M 90) (rg_nl M) (rg_sp M) z k)) ∨ (rg_f8 (rg_co M 90 (rg_sz M 90) (rg_nl M) (rg_sp M) z) 8 1 = 0 ∧ r = nI (rg_no M) ∧ ∃ M2, (rg_VS M2 (99 + 2 * rg_no M) (rg_sz M 90) ∧ (∀ k, k < rg_sz M 90 → M2.1 (99 + 2 * rg_no M + 1) k = M.1 (90 + 1) k) ∧ rg_off M M2 (99 + 2 * rg_no M)) ∧ M1 = rg_emp (rg_I (rg_I M2 97 (rg_no M) z) 0 10 (nI (rg_no M + 1))))))) (rg_X E B 422 rg_R0 M (fun X => (¬ (rg_pt M z) ∧ X = "java/lang/IndexOutOfBoundsException") ∨ ((rg_pt M z) ∧ ¬ (¬ M.1 6 0 ≤ M.1 6 4 ∧ M.1 0 10 < 4) ∧ X = "java/lang/IllegalStateException"))) 2 12 (rg_A B) := by
  refine rg_xofW (by decide +kernel) rfl (Nat.le_of_ble_eq_true rfl) ?_
  intro p e s m args below meth c ls hne C0 hH hl hr hlocks
  replace hl : lv_has ls 3 [(0, .ref (B + 0)), (1, .int (z))] := hl
  have hx := C0.1.1
  have hb := C0.1.2.1
  generalize hH9 : s.heap = H at hH ⊢
  generalize hL9 : ([] : List Loc) = locs at hH ⊢
  clear hH9 hL9
  refine lv_aload_n hx hb dX6_offer_0 rfl (lv_at hl 0 rfl) ?_
  refine lv_iload_n hx hb dX6_offer_1 rfl (lv_at hl 1 rfl) ?_
  refine rg_xcallRv C0 hH (As := [.int (z)]) (rest := []) (o := 0) (ci := 6) hne hlocks (fun X hX => by exact Or.inl hX) (k_X6_needPoet l hst E B M z) (rg_cw 1 C0.1.2.2.2.2 tw_m_X6_154 tw_i_X6_needPoet tw_v_X6_needPoet tw_n_X6 tw_c_X6_needPoet rfl rfl hd_X6_needPoet ⟨Nat.le_of_ble_eq_true rfl, Nat.le_of_ble_eq_true rfl⟩) rfl (by decide) rfl (by decide) rfl hl.1 rfl (Nat.le_of_ble_eq_true rfl) dX6_offer_2 ⟨Nat.le_of_ble_eq_true rfl, Nat.le_of_ble_eq_true rfl⟩ ⟨Nat.le_of_ble_eq_true rfl, Nat.le_of_ble_eq_true rfl⟩ (fun H locs e_2 hH => ?_)
  refine lv_aload_n hx hb dX6_offer_5 rfl (lv_at hl 0 rfl) ?_
  refine rg_gR C0 hH (o2 := 6) (ci := 6) (k := 1) (o := 0) rfl rfl inT_X6 (by decide) tw_f_X6_19 (by decide) rfl (by decide) rfl dX6_offer_6 ?_
  refine rg_callGi C0 hH (As := []) (rest := []) (o := 6) (ci := 1) (k_X1_isOpen l E B M) (rg_cw 0 C0.1.2.2.2.2 tw_m_X6_105 tw_i_X1_isOpen tw_v_X1_isOpen tw_n_X1 tw_c_X1_isOpen rfl rfl hd_X1_isOpen ⟨Nat.le_of_ble_eq_true rfl, Nat.le_of_ble_eq_true rfl⟩) rfl (by decide) rfl (by decide) rfl hl.1 rfl (Nat.le_of_ble_eq_true rfl) dX6_offer_9 ⟨Nat.le_of_ble_eq_true rfl, Nat.le_of_ble_eq_true rfl⟩ (fun H locs hH => ?_)
  refine lv_if_ne (tgt := 25) hx hb dX6_offer_12 (by decide) (fun c_12 => ?_) (fun c_12 => ?_)
  · refine lv_aload_n hx hb dX6_offer_25 rfl (lv_at hl 0 rfl) ?_
    refine rg_gI C0 hH (ci := 6) (k := 10) (o := 0) rfl inT_X6 (by decide) tw_f_X6_117 (by decide) rfl (by decide) rfl dX6_offer_26 ?_
    refine lv_iconst (v := 4) hx hb dX6_offer_29 (by decide) ?_
    refine lv_icmp_lt (tgt := 43) hx hb dX6_offer_30 (by decide) (fun c_30 => ?_) (fun c_30 => ?_)
    · refine lv_aload_n hx hb dX6_offer_43 rfl (lv_at hl 0 rfl) ?_
      refine rg_gR C0 hH (o2 := 89) (ci := 6) (k := 2) (o := 0) rfl rfl inT_X6 (by decide) tw_f_X6_28 (by decide) rfl (by decide) rfl dX6_offer_44 ?_
      refine lv_aload_n hx hb dX6_offer_47 rfl (lv_at hl 0 rfl) ?_
      refine rg_gR C0 hH (o2 := 90) (ci := 6) (k := 3) (o := 0) rfl rfl inT_X6 (by decide) tw_f_X6_35 (by decide) rfl (by decide) rfl dX6_offer_48 ?_
      refine lv_aload_n hx hb dX6_offer_51 rfl (lv_at hl 0 rfl) ?_
      refine rg_gR C0 hH (o2 := 6) (ci := 6) (k := 1) (o := 0) rfl rfl inT_X6 (by decide) tw_f_X6_19 (by decide) rfl (by decide) rfl dX6_offer_52 ?_
      refine rg_nI C0 hH (ci := 1) (k := 4) (o := 6) rfl inT_X1 (by decide) (by decide) (by decide) rfl (by decide) rfl dX6_offer_55 ?_
      refine rg_topi (y := nI (rg_nl M)) (by exact (rg_CI_l hI).1) ?_
      refine lv_iload_n hx hb dX6_offer_58 rfl (lv_at hl 1 rfl) ?_
      refine rg_callGi C0 hH (As := [.ref (B + 90), .int (nI (rg_nl M)), .int (z)]) (rest := []) (o := 89) (ci := 2) (k_X2_firstFault l E B M 90 (rg_sz M 90) (rg_nl M) (rg_nl M) (rg_sp M) z rg_isV_d (rg_CI_d hI) (rg_CI_cn hI) (rg_CI_l hI).1 (rg_CI_l hI).2 (Nat.le_refl _) (rg_CI_s hI).1 (rg_CI_s hI).2) (rg_cw 3 C0.1.2.2.2.2 tw_m_X6_161 tw_i_X2_firstFault tw_v_X2_firstFault tw_n_X2 tw_c_X2_firstFault rfl rfl hd_X2_firstFault ⟨Nat.le_of_ble_eq_true rfl, Nat.le_of_ble_eq_true rfl⟩) rfl (by decide) rfl (by decide) rfl hl.1 rfl (Nat.le_of_ble_eq_true rfl) dX6_offer_59 ⟨Nat.le_of_ble_eq_true rfl, Nat.le_of_ble_eq_true rfl⟩ (fun H locs hH => ?_)
      refine lv_istore_n (lv' := [(2, .int (rg_f8 (rg_co M 90 (rg_sz M 90) (rg_nl M) (rg_sp M) z) 8 1)), (0, .ref (B + 0)), (1, .int (z))]) hx hb dX6_offer_62 rfl hl (by decide) rfl (fun ls hl => ?_)
      refine lv_iload_n hx hb dX6_offer_63 rfl (lv_at hl 0 rfl) ?_
      refine lv_if_eq (tgt := 94) hx hb dX6_offer_64 (by decide) (fun c_64 => ?_) (fun c_64 => ?_)
      · refine lv_aload_n hx hb dX6_offer_94 rfl (lv_at hl 1 rfl) ?_
        refine rg_gR C0 hH (o2 := 98) (ci := 6) (k := 4) (o := 0) rfl rfl inT_X6 (by decide) tw_f_X6_53 (by decide) rfl (by decide) rfl dX6_offer_95 ?_
        refine lv_aload_n hx hb dX6_offer_98 rfl (lv_at hl 1 rfl) ?_
        refine rg_gI C0 hH (ci := 6) (k := 10) (o := 0) rfl inT_X6 (by decide) tw_f_X6_117 (by decide) rfl (by decide) rfl dX6_offer_99 ?_
        have h4 : rg_no M < 4 := rg_ltI (n := 4) (m := 4) (by rw [← (rg_CI_o hI).1]; exact c_30) rfl (by have := (rg_CI_o hI).2; omega)
        refine rg_topi (y := nI (rg_no M)) (by exact (rg_CI_o hI).1) ?_
        refine rg_aaldN C0 hH (o := 98) (o2 := (99 + 2 * rg_no M)) (j := (rg_no M)) (n0 := 4) (rg_R0_98 _ h4) (by decide) rfl (by decide) rfl (by have := h4; omega) dX6_offer_102 ?_
        refine lv_aload_n hx hb dX6_offer_103 rfl (lv_at hl 1 rfl) ?_
        refine rg_gR C0 hH (o2 := 90) (ci := 6) (k := 3) (o := 0) rfl rfl inT_X6 (by decide) tw_f_X6_35 (by decide) rfl (by decide) rfl dX6_offer_104 ?_
        refine lv_aload_n hx hb dX6_offer_107 rfl (lv_at hl 1 rfl) ?_
        refine rg_gR C0 hH (o2 := 1) (ci := 6) (k := 0) (o := 0) rfl rfl inT_X6 (by decide) tw_f_X6_13 (by decide) rfl (by decide) rfl dX6_offer_108 ?_
        refine rg_callWv C0 hH (As := [.ref (B + 90), .ref (B + 1)]) (rest := []) (o := (99 + 2 * rg_no M)) (ci := 5) (k_X5_take l E B M (99 + 2 * rg_no M) 90 (rg_sz M 90) (rg_isV_o h4) rg_isV_d (by omega) (rg_CI_cn hI) (rg_CI_d hI)) (rg_cw 2 C0.1.2.2.2.2 tw_m_X6_169 tw_i_X5_take tw_v_X5_take tw_n_X5 tw_c_X5_take rfl rfl hd_X5_take ⟨Nat.le_of_ble_eq_true rfl, Nat.le_of_ble_eq_true rfl⟩) rfl (by have := h4; omega) (rg_kdO_all _ h4) (by decide) rfl hl.1 rfl (Nat.le_of_ble_eq_true rfl) dX6_offer_111 ⟨Nat.le_of_ble_eq_true rfl, Nat.le_of_ble_eq_true rfl⟩ (fun M_111 H locs e_111 hH => ?_)
        have g0 : M_111.1 0 = M.1 0 := (e_111.2.2 0 (by omega) (by omega)).1
        refine lv_aload_n hx hb dX6_offer_114 rfl (lv_at hl 1 rfl) ?_
        refine rg_gR C0 hH (o2 := 97) (ci := 6) (k := 5) (o := 0) rfl rfl inT_X6 (by decide) tw_f_X6_49 (by decide) rfl (by decide) rfl dX6_offer_115 ?_
        refine lv_aload_n hx hb dX6_offer_118 rfl (lv_at hl 1 rfl) ?_
        refine rg_gI C0 hH (ci := 6) (k := 10) (o := 0) rfl inT_X6 (by decide) tw_f_X6_117 (by decide) rfl (by decide) rfl dX6_offer_119 ?_
        refine rg_topi (y := nI (rg_no M)) (by rw [g0]; exact (rg_CI_o hI).1) ?_
        refine lv_iload_n hx hb dX6_offer_122 rfl (lv_at hl 2 rfl) ?_
        refine rg_iastN C0 hH (o := 97) (j := (rg_no M)) (n0 := 4) (by decide) rfl rfl (by have := h4; omega) dX6_offer_123 (fun H locs hH => ?_)
        refine lv_aload_n hx hb dX6_offer_124 rfl (lv_at hl 1 rfl) ?_
        refine lv_dup hx hb dX6_offer_125 rfl ?_
        refine rg_gI C0 hH (ci := 6) (k := 10) (o := 0) rfl inT_X6 (by decide) tw_f_X6_117 (by decide) rfl (by decide) rfl dX6_offer_126 ?_
        refine rg_topi (y := nI (rg_no M)) (by simp only [rg_I_cell (show (0 : Nat) ≠ 97 by omega), g0]; exact (rg_CI_o hI).1) ?_
        refine lv_iconst (v := 1) hx hb dX6_offer_129 (by decide) ?_
        refine lv_iadd hx hb dX6_offer_130 ?_
        refine rg_topi (y := nI (rg_no M + 1)) (by exact nI_1 _) ?_
        refine rg_pI C0 hH (v := nI (rg_no M + 1)) tyX6 tyX6_ok nmX6 (ci := 6) (k := 10) (o := 0) rfl inT_X6 (by decide) tw_f_X6_117 (by decide) rfl (by decide) rfl rfl rfl rfl dX6_offer_131 (fun H locs hH => ?_)
        refine lv_aload_n hx hb dX6_offer_134 rfl (lv_at hl 1 rfl) ?_
        refine rg_gR C0 hH (o2 := 90) (ci := 6) (k := 3) (o := 0) rfl rfl inT_X6 (by decide) tw_f_X6_35 (by decide) rfl (by decide) rfl dX6_offer_135 ?_
        refine rg_callRv C0 hH (As := []) (rest := []) (o := 90) (ci := 5) (k_X5_empty l E B (rg_I (rg_I M_111 97 ((rg_no M)) z) 0 10 (nI (rg_no M + 1))) 90 (by exact rg_isV_d)) (rg_cw 0 C0.1.2.2.2.2 tw_m_X6_151 tw_i_X5_empty tw_v_X5_empty tw_n_X5 tw_c_X5_empty rfl rfl hd_X5_empty ⟨Nat.le_of_ble_eq_true rfl, Nat.le_of_ble_eq_true rfl⟩) rfl (by decide) rfl (by decide) rfl hl.1 rfl (Nat.le_of_ble_eq_true rfl) dX6_offer_138 ⟨Nat.le_of_ble_eq_true rfl, Nat.le_of_ble_eq_true rfl⟩ (fun H locs e_138 hH => ?_)
        refine lv_aload_n hx hb dX6_offer_141 rfl (lv_at hl 1 rfl) ?_
        refine rg_gI C0 hH (ci := 6) (k := 10) (o := 0) rfl inT_X6 (by decide) tw_f_X6_117 (by decide) rfl (by decide) rfl dX6_offer_142 ?_
        refine rg_topi (y := nI (rg_no M + 1)) (by simp [rg_I, rg_J]) ?_
        refine lv_iconst (v := 1) hx hb dX6_offer_145 (by decide) ?_
        refine lv_isub hx hb dX6_offer_146 ?_
        refine rg_topi (y := nI (rg_no M)) (by exact nI_pred _) ?_
        refine vx_ret ?_
        refine W.widen (k := 2) (n := 12) (Nat.le_of_ble_eq_true rfl) (Nat.le_of_ble_eq_true rfl) ?_
        exact rg_retWi C0 hH hr hlocks (by exact ⟨⟨e_2, rg_b_ne.mp c_12, c_30⟩, Or.inr ⟨c_64, rfl, M_111, e_111, rfl⟩⟩) dX6_offer_147
      · obtain ⟨k, hk1, hk2, hk3, hk4⟩ := (rg_f8_in (g := rg_co M 90 (rg_sz M 90) (rg_nl M) (rg_sp M) z) 8 1).resolve_left c_64
        rw [hk3] at hl
        refine lv_aload_n hx hb dX6_offer_67 rfl (lv_at hl 1 rfl) ?_
        refine lv_aload_n hx hb dX6_offer_68 rfl (lv_at hl 1 rfl) ?_
        refine rg_gR C0 hH (o2 := 89) (ci := 6) (k := 2) (o := 0) rfl rfl inT_X6 (by decide) tw_f_X6_28 (by decide) rfl (by decide) rfl dX6_offer_69 ?_
        refine lv_iload_n hx hb dX6_offer_72 rfl (lv_at hl 0 rfl) ?_
        refine lv_aload_n hx hb dX6_offer_73 rfl (lv_at hl 1 rfl) ?_
        refine rg_gR C0 hH (o2 := 90) (ci := 6) (k := 3) (o := 0) rfl rfl inT_X6 (by decide) tw_f_X6_35 (by decide) rfl (by decide) rfl dX6_offer_74 ?_
        refine lv_aload_n hx hb dX6_offer_77 rfl (lv_at hl 1 rfl) ?_
        refine rg_gR C0 hH (o2 := 6) (ci := 6) (k := 1) (o := 0) rfl rfl inT_X6 (by decide) tw_f_X6_19 (by decide) rfl (by decide) rfl dX6_offer_78 ?_
        refine rg_nI C0 hH (ci := 1) (k := 4) (o := 6) rfl inT_X1 (by decide) (by decide) (by decide) rfl (by decide) rfl dX6_offer_81 ?_
        refine rg_topi (y := nI (rg_nl M)) (by exact (rg_CI_l hI).1) ?_
        refine lv_iload_n hx hb dX6_offer_84 rfl (lv_at hl 2 rfl) ?_
        refine rg_callGi C0 hH (As := [.int (nI k), .ref (B + 90), .int (nI (rg_nl M)), .int (z)]) (rest := [.ref (B + 0)]) (o := 89) (ci := 2) (k_X2_causeOf l E B M k 90 (rg_sz M 90) (rg_nl M) (rg_nl M) (rg_sp M) z rg_isV_d (rg_CI_d hI) (rg_CI_cn hI) (rg_CI_l hI).1 (rg_CI_l hI).2 (Nat.le_refl _) (rg_CI_s hI).1 (rg_CI_s hI).2 hk1 (by omega)) (rg_cw 4 C0.1.2.2.2.2 tw_m_X6_165 tw_i_X2_causeOf tw_v_X2_causeOf tw_n_X2 tw_c_X2_causeOf rfl rfl hd_X2_causeOf ⟨Nat.le_of_ble_eq_true rfl, Nat.le_of_ble_eq_true rfl⟩) rfl (by decide) rfl (by decide) rfl hl.1 rfl (Nat.le_of_ble_eq_true rfl) dX6_offer_85 ⟨Nat.le_of_ble_eq_true rfl, Nat.le_of_ble_eq_true rfl⟩ (fun H locs hH => ?_)
        refine rg_pI C0 hH (v := rg_co M 90 (rg_sz M 90) (rg_nl M) (rg_sp M) z k) tyX6 tyX6_ok nmX6 (ci := 6) (k := 12) (o := 0) rfl inT_X6 (by decide) tw_f_X6_64 (by decide) rfl (by decide) rfl rfl rfl rfl dX6_offer_88 (fun H locs hH => ?_)
        refine lv_iload_n hx hb dX6_offer_91 rfl (lv_at hl 0 rfl) ?_
        refine lv_ineg hx hb dX6_offer_92 ?_
        refine vx_ret ?_
        refine W.widen (k := 2) (n := 12) (Nat.le_of_ble_eq_true rfl) (Nat.le_of_ble_eq_true rfl) ?_
        exact rg_retWi C0 hH hr hlocks (by exact ⟨⟨e_2, rg_b_ne.mp c_12, c_30⟩, Or.inl ⟨k, hk1, by omega, hk3, rfl, rfl⟩⟩) dX6_offer_93
    · exact rg_throw C0 hH hst (cls := "java/lang/IllegalStateException") (text := "4 offers are kept already") (names := ["java/lang/RuntimeException", "java/lang/Exception"]) hne hlocks (by decide +kernel) (by decide +kernel) tw_k_X6_76 tw_n_IllegalStateException (by decide) (by decide) rg_at_ise rg_ab_ise rg_ag_ise hl.1 dX6_offer_33 dX6_offer_36 dX6_offer_37 dX6_offer_39 dX6_offer_42 (Nat.le_of_ble_eq_true rfl) (Nat.le_of_ble_eq_true rfl) (Nat.le_of_ble_eq_true rfl) (Nat.le_of_ble_eq_true rfl) (by exact Or.inr ⟨e_2, fun q => c_30 q.2, rfl⟩) (Nat.le_of_ble_eq_true rfl) (Nat.le_of_ble_eq_true rfl)
  · exact rg_throw C0 hH hst (cls := "java/lang/IllegalStateException") (text := "there is no poem with a link to come") (names := ["java/lang/RuntimeException", "java/lang/Exception"]) hne hlocks (by decide +kernel) (by decide +kernel) tw_k_X6_76 tw_n_IllegalStateException (by decide) (by decide) rg_at_ise rg_ab_ise rg_ag_ise hl.1 dX6_offer_15 dX6_offer_18 dX6_offer_19 dX6_offer_21 dX6_offer_24 (Nat.le_of_ble_eq_true rfl) (Nat.le_of_ble_eq_true rfl) (Nat.le_of_ble_eq_true rfl) (Nat.le_of_ble_eq_true rfl) (by exact Or.inr ⟨e_2, fun q => rg_b_eq.mp c_12 q.1, rfl⟩) (Nat.le_of_ble_eq_true rfl) (Nat.le_of_ble_eq_true rfl)

set_option maxHeartbeats 4000000 in
set_option maxRecDepth 100000 in
/-- choose -/
theorem k_X6_choose (l : Launch) (hst : l.stackTraces = false) (E : rg_Env) (B : Nat) (M : rg_Mem) (x : Int32) (hI : rg_CI M) (ho9 : 0 < rg_no M → rg_nl M < rg_nt M) : vx_Met l yX6_choose (rg_w yX6_choose cX6_choose 2 (some (FieldType.int))) ({ frames := 6, cells := 1, slots := 6, locals := 135 } : Room) (va_Pc [.ref (B + 0), .int (x)] (rg_Pre E B 422 rg_R0 M)) (rg_Wi E B 422 rg_R0 (fun r M1 => (¬ x < 0 ∧ x < M.1 0 10) ∧ r = nI (rg_nl M) ∧ ∃ M2, (rg_VS M2 (17 + 2 * rg_nl M) (rg_sz M (99 + 2 * x.toNatClampNeg)) ∧ (∀ k, k < rg_sz M (99 + 2 * x.toNatClampNeg) → M2.1 (17 + 2 * rg_nl M + 1) k = M.1 (99 + 2 * x.toNatClampNeg + 1) k) ∧ rg_off M M2 (17 + 2 * rg_nl M)) ∧ M1 = rg_I (rg_I (rg_zp (rg_I (rg_I (rg_I M2 9 (rg_nl M) (M.1 97 x.toNatClampNeg)) 10 (rg_nl M) 0) 11 (rg_nl M) 0) (rg_nl M) 4) 6 4 (nI (rg_nl M + 1))) 0 10 0)) (rg_X E B 422 rg_R0 M (fun X => ¬ (¬ x < 0 ∧ x < M.1 0 10) ∧ X = "java/lang/IndexOutOfBoundsException")) 1 6 (rg_A B) := by
  refine rg_xofW (by decide +kernel) rfl (Nat.le_of_ble_eq_true rfl) ?_
  intro p e s m args below meth c ls hne C0 hH hl hr hlocks
  replace hl : lv_has ls 2 [(0, .ref (B + 0)), (1, .int (x))] := hl
  have hx := C0.1.1
  have hb := C0.1.2.1
  generalize hH9 : s.heap = H at hH ⊢
  generalize hL9 : ([] : List Loc) = locs at hH ⊢
  clear hH9 hL9
  refine lv_iload_n hx hb dX6_choose_0 rfl (lv_at hl 1 rfl) ?_
  refine lv_if_lt (tgt := 12) hx hb dX6_choose_1 (by decide) (fun c_1 => ?_) (fun c_1 => ?_)
  · exact rg_throw C0 hH hst (cls := "java/lang/IndexOutOfBoundsException") (text := "there is no such offer") (names := ["java/lang/RuntimeException", "java/lang/Exception"]) hne hlocks (by decide +kernel) (by decide +kernel) tw_k_X6_126 tw_n_IndexOutOfBoundsException (by decide) (by decide) rg_at_ioob rg_ab_ioob rg_ag_ioob hl.1 dX6_choose_12 dX6_choose_15 dX6_choose_16 dX6_choose_18 dX6_choose_21 (Nat.le_of_ble_eq_true rfl) (Nat.le_of_ble_eq_true rfl) (Nat.le_of_ble_eq_true rfl) (Nat.le_of_ble_eq_true rfl) (by first | exact ⟨fun q => q.1 c_1, rfl⟩ | exact ⟨fun q => c_9 q.2, rfl⟩) (Nat.le_of_ble_eq_true rfl) (Nat.le_of_ble_eq_true rfl)
  · refine lv_iload_n hx hb dX6_choose_4 rfl (lv_at hl 1 rfl) ?_
    refine lv_aload_n hx hb dX6_choose_5 rfl (lv_at hl 0 rfl) ?_
    refine rg_gI C0 hH (ci := 6) (k := 10) (o := 0) rfl inT_X6 (by decide) tw_f_X6_117 (by decide) rfl (by decide) rfl dX6_choose_6 ?_
    refine lv_icmp_lt (tgt := 22) hx hb dX6_choose_9 (by decide) (fun c_9 => ?_) (fun c_9 => ?_)
    · obtain ⟨o, ho, rfl⟩ := vp_in_of (rg_lt_in (rg_CI_o hI).1 (by have := (rg_CI_o hI).2; omega) c_1 c_9) (by have := (rg_CI_o hI).2; omega)
      have h4 : o < 4 := by have := (rg_CI_o hI).2; omega
      have hlt := ho9 (by omega)
      have h36 : rg_nl M < 36 := by have := (rg_CI_t hI).2; omega
      refine lv_aload_n hx hb dX6_choose_22 rfl (lv_at hl 0 rfl) ?_
      refine rg_gR C0 hH (o2 := 6) (ci := 6) (k := 1) (o := 0) rfl rfl inT_X6 (by decide) tw_f_X6_19 (by decide) rfl (by decide) rfl dX6_choose_23 ?_
      refine lv_aload_n hx hb dX6_choose_26 rfl (lv_at hl 0 rfl) ?_
      refine rg_gR C0 hH (o2 := 98) (ci := 6) (k := 4) (o := 0) rfl rfl inT_X6 (by decide) tw_f_X6_53 (by decide) rfl (by decide) rfl dX6_choose_27 ?_
      refine lv_iload_n hx hb dX6_choose_30 rfl (lv_at hl 1 rfl) ?_
      refine rg_aaldN C0 hH (o := 98) (o2 := (99 + 2 * o)) (j := o) (n0 := 4) (rg_R0_98 _ h4) (by decide) rfl (by decide) rfl (by omega) dX6_choose_31 ?_
      refine lv_aload_n hx hb dX6_choose_32 rfl (lv_at hl 0 rfl) ?_
      refine rg_gR C0 hH (o2 := 97) (ci := 6) (k := 5) (o := 0) rfl rfl inT_X6 (by decide) tw_f_X6_49 (by decide) rfl (by decide) rfl dX6_choose_33 ?_
      refine lv_iload_n hx hb dX6_choose_36 rfl (lv_at hl 1 rfl) ?_
      refine rg_ialdN C0 hH (o := 97) (j := o) (n0 := 4) (by decide) rfl rfl (by omega) dX6_choose_37 ?_
      refine lv_aload_n hx hb dX6_choose_38 rfl (lv_at hl 0 rfl) ?_
      refine rg_gR C0 hH (o2 := 1) (ci := 6) (k := 0) (o := 0) rfl rfl inT_X6 (by decide) tw_f_X6_13 (by decide) rfl (by decide) rfl dX6_choose_39 ?_
      refine rg_callWv C0 hH (As := [.ref (B + (99 + 2 * o)), .int (M.1 97 o), .ref (B + 1)]) (rest := []) (o := 6) (ci := 1) (k_X1_extend l E B M (99 + 2 * o) (rg_sz M (99 + 2 * o)) (rg_nl M) (M.1 97 o) (rg_isV_o h4) (rg_CI_cn hI) (rg_CI_vo hI o ho) (rg_CI_l hI).1 h36 (by omega)) (rg_cw 3 C0.1.2.2.2.2 tw_m_X6_175 tw_i_X1_extend tw_v_X1_extend tw_n_X1 tw_c_X1_extend rfl rfl hd_X1_extend ⟨Nat.le_of_ble_eq_true rfl, Nat.le_of_ble_eq_true rfl⟩) rfl (by decide) rfl (by decide) rfl hl.1 rfl (Nat.le_of_ble_eq_true rfl) dX6_choose_42 ⟨Nat.le_of_ble_eq_true rfl, Nat.le_of_ble_eq_true rfl⟩ (fun M_42 H locs e_42 hH => ?_)
      refine lv_aload_n hx hb dX6_choose_45 rfl (lv_at hl 0 rfl) ?_
      refine lv_iconst (v := 0) hx hb dX6_choose_46 (by decide) ?_
      refine rg_pI C0 hH (v := 0) tyX6 tyX6_ok nmX6 (ci := 6) (k := 10) (o := 0) rfl inT_X6 (by decide) tw_f_X6_117 (by decide) rfl (by decide) rfl rfl rfl rfl dX6_choose_47 (fun H locs hH => ?_)
      refine lv_aload_n hx hb dX6_choose_50 rfl (lv_at hl 0 rfl) ?_
      refine rg_gR C0 hH (o2 := 6) (ci := 6) (k := 1) (o := 0) rfl rfl inT_X6 (by decide) tw_f_X6_19 (by decide) rfl (by decide) rfl dX6_choose_51 ?_
      refine rg_nI C0 hH (ci := 1) (k := 4) (o := 6) rfl inT_X1 (by decide) (by decide) (by decide) rfl (by decide) rfl dX6_choose_54 ?_
      refine rg_topi (y := nI (rg_nl M + 1)) (by obtain ⟨M2, _, rfl⟩ := e_42; simp [rg_I]) ?_
      refine lv_iconst (v := 1) hx hb dX6_choose_57 (by decide) ?_
      refine lv_isub hx hb dX6_choose_58 ?_
      refine rg_topi (y := nI (rg_nl M)) (by exact nI_pred _) ?_
      refine vx_ret ?_
      refine W.widen (k := 1) (n := 6) (Nat.le_of_ble_eq_true rfl) (Nat.le_of_ble_eq_true rfl) ?_
      exact rg_retWi C0 hH hr hlocks (by refine ⟨⟨c_1, c_9⟩, rfl, ?_⟩; obtain ⟨M2, h1, h2⟩ := e_42; rw [nI_clamp (by omega)]; exact ⟨M2, h1, by rw [h2]⟩) dX6_choose_59
    · exact rg_throw C0 hH hst (cls := "java/lang/IndexOutOfBoundsException") (text := "there is no such offer") (names := ["java/lang/RuntimeException", "java/lang/Exception"]) hne hlocks (by decide +kernel) (by decide +kernel) tw_k_X6_126 tw_n_IndexOutOfBoundsException (by decide) (by decide) rg_at_ioob rg_ab_ioob rg_ag_ioob hl.1 dX6_choose_12 dX6_choose_15 dX6_choose_16 dX6_choose_18 dX6_choose_21 (Nat.le_of_ble_eq_true rfl) (Nat.le_of_ble_eq_true rfl) (Nat.le_of_ble_eq_true rfl) (Nat.le_of_ble_eq_true rfl) (by first | exact ⟨fun q => q.1 c_1, rfl⟩ | exact ⟨fun q => c_9 q.2, rfl⟩) (Nat.le_of_ble_eq_true rfl) (Nat.le_of_ble_eq_true rfl)

set_option maxHeartbeats 4000000 in
set_option maxRecDepth 100000 in
/-- mend -/
theorem k_X6_mend (l : Launch) (hst : l.stackTraces = false) (E : rg_Env) (B : Nat) (M : rg_Mem) (x : Int32) (w : Int32) (hI : rg_CI M) : vx_Met l yX6_mend (rg_w yX6_mend cX6_mend 5 (some (FieldType.int))) ({ frames := 7, cells := 4, slots := 24, locals := 138 } : Room) (va_Pc [.ref (B + 0), .int (x), .int (w)] (rg_Pre E B 422 rg_R0 M)) (rg_Wi E B 422 rg_R0 (fun r M1 => (((rg_hl M (nI (rg_nl M) - 1) ∧ ¬ rg_wp M (nI (rg_nl M) - 1) x = -1) ∧ rg_has M w) ∧ M.1 0 10 ≤ 0) ∧ ∃ M2, (rg_VS M2 92 (rg_sz M (17 + 2 * (rg_nl M - 1))) ∧ (∀ k, k < rg_sz M (17 + 2 * (rg_nl M - 1)) → M2.1 (92 + 1) k = if nI k = x then w else M.1 (17 + 2 * (rg_nl M - 1) + 1) k) ∧ rg_off M M2 92) ∧ ((∃ k, 1 ≤ k ∧ k ≤ 8 ∧ rg_f8 (rg_co M2 92 (rg_sz M (17 + 2 * (rg_nl M - 1))) (rg_nl M - 1) (rg_sp M) (-1)) 8 1 = nI k ∧ r = -nI k ∧ M1 = rg_I M2 0 12 (rg_co M2 92 (rg_sz M (17 + 2 * (rg_nl M - 1))) (rg_nl M - 1) (rg_sp M) (-1) k)) ∨ (rg_f8 (rg_co M2 92 (rg_sz M (17 + 2 * (rg_nl M - 1))) (rg_nl M - 1) (rg_sp M) (-1)) 8 1 = 0 ∧ r = 0 ∧ ∃ M3, (rg_VS M3 (17 + 2 * (rg_nl M - 1)) (rg_sz M (17 + 2 * (rg_nl M - 1))) ∧ (∀ k, k < rg_sz M (17 + 2 * (rg_nl M - 1)) → M3.1 (17 + 2 * (rg_nl M - 1) + 1) k = M2.1 (92 + 1) k) ∧ rg_off M2 M3 (17 + 2 * (rg_nl M - 1))) ∧ M1 = rg_I M3 11 (rg_nl M - 1) 1)))) (rg_X E B 422 rg_R0 M (fun X => (¬ ((rg_hl M (nI (rg_nl M) - 1) ∧ ¬ rg_wp M (nI (rg_nl M) - 1) x = -1) ∧ rg_has M w) ∧ X = "java/lang/IndexOutOfBoundsException") ∨ (((rg_hl M (nI (rg_nl M) - 1) ∧ ¬ rg_wp M (nI (rg_nl M) - 1) x = -1) ∧ rg_has M w) ∧ ¬ (M.1 0 10 ≤ 0) ∧ X = "java/lang/IllegalStateException"))) 4 24 (rg_A B) := by
  refine rg_xofW (by decide +kernel) rfl (Nat.le_of_ble_eq_true rfl) ?_
  intro p e s m args below meth c ls hne C0 hH hl hr hlocks
  replace hl : lv_has ls 5 [(0, .ref (B + 0)), (1, .int (x)), (2, .int (w))] := hl
  have hx := C0.1.1
  have hb := C0.1.2.1
  generalize hH9 : s.heap = H at hH ⊢
  generalize hL9 : ([] : List Loc) = locs at hH ⊢
  clear hH9 hL9
  refine lv_aload_n hx hb dX6_mend_0 rfl (lv_at hl 0 rfl) ?_
  refine rg_gR C0 hH (o2 := 6) (ci := 6) (k := 1) (o := 0) rfl rfl inT_X6 (by decide) tw_f_X6_19 (by decide) rfl (by decide) rfl dX6_mend_1 ?_
  refine rg_nI C0 hH (ci := 1) (k := 4) (o := 6) rfl inT_X1 (by decide) (by decide) (by decide) rfl (by decide) rfl dX6_mend_4 ?_
  refine rg_topi (y := nI (rg_nl M)) (by exact (rg_CI_l hI).1) ?_
  refine lv_iconst (v := 1) hx hb dX6_mend_7 (by decide) ?_
  refine lv_isub hx hb dX6_mend_8 ?_
  refine lv_istore_n (lv' := [(3, .int ((nI (rg_nl M)) - 1)), (0, .ref (B + 0)), (1, .int (x)), (2, .int (w))]) hx hb dX6_mend_9 rfl hl (by decide) rfl (fun ls hl => ?_)
  refine lv_aload_n hx hb dX6_mend_10 rfl (lv_at hl 1 rfl) ?_
  refine lv_iload_n hx hb dX6_mend_11 rfl (lv_at hl 0 rfl) ?_
  refine rg_xcallRv C0 hH (As := [.int ((nI (rg_nl M)) - 1)]) (rest := []) (o := 0) (ci := 6) hne hlocks (fun X hX => by exact Or.inl ⟨fun q => hX.1 q.1.1, hX.2⟩) (k_X6_needLink l hst E B M ((nI (rg_nl M)) - 1)) (rg_cw 1 C0.1.2.2.2.2 tw_m_X6_179 tw_i_X6_needLink tw_v_X6_needLink tw_n_X6 tw_c_X6_needLink rfl rfl hd_X6_needLink ⟨Nat.le_of_ble_eq_true rfl, Nat.le_of_ble_eq_true rfl⟩) rfl (by decide) rfl (by decide) rfl hl.1 rfl (Nat.le_of_ble_eq_true rfl) dX6_mend_12 ⟨Nat.le_of_ble_eq_true rfl, Nat.le_of_ble_eq_true rfl⟩ ⟨Nat.le_of_ble_eq_true rfl, Nat.le_of_ble_eq_true rfl⟩ (fun H locs e_12 hH => ?_)
  obtain ⟨j, hj9⟩ : ∃ j, rg_nl M = j + 1 := ⟨rg_nl M - 1, by
    rcases Nat.eq_zero_or_pos (rg_nl M) with q | q
    · exact absurd e_12.1 (by rw [q]; decide)
    · omega⟩
  have hlj : nI (rg_nl M) - 1 = nI j := by rw [hj9]; exact nI_pred j
  rw [hlj] at hl
  have hj36 : j < 36 := by have := (rg_CI_l hI).2; omega
  refine lv_aload_n hx hb dX6_mend_15 rfl (lv_at hl 1 rfl) ?_
  refine lv_iload_n hx hb dX6_mend_16 rfl (lv_at hl 0 rfl) ?_
  refine lv_iload_n hx hb dX6_mend_17 rfl (lv_at hl 2 rfl) ?_
  refine rg_xcallRv C0 hH (As := [.int (nI j), .int (x)]) (rest := []) (o := 0) (ci := 6) hne hlocks (fun X hX => by exact Or.inl ⟨fun q => hX.1 (hlj ▸ q.1.2), hX.2⟩) (k_X6_needPlace l hst E B M (nI j) x (by exact hI)) (rg_cw 2 C0.1.2.2.2.2 tw_m_X6_182 tw_i_X6_needPlace tw_v_X6_needPlace tw_n_X6 tw_c_X6_needPlace rfl rfl hd_X6_needPlace ⟨Nat.le_of_ble_eq_true rfl, Nat.le_of_ble_eq_true rfl⟩) rfl (by decide) rfl (by decide) rfl hl.1 rfl (Nat.le_of_ble_eq_true rfl) dX6_mend_18 ⟨Nat.le_of_ble_eq_true rfl, Nat.le_of_ble_eq_true rfl⟩ ⟨Nat.le_of_ble_eq_true rfl, Nat.le_of_ble_eq_true rfl⟩ (fun H locs e_18 hH => ?_)
  refine lv_aload_n hx hb dX6_mend_21 rfl (lv_at hl 1 rfl) ?_
  refine lv_iload_n hx hb dX6_mend_22 rfl (lv_at hl 3 rfl) ?_
  refine rg_xcallRv C0 hH (As := [.int (w)]) (rest := []) (o := 0) (ci := 6) hne hlocks (fun X hX => by exact Or.inl ⟨fun q => hX.1 q.2, hX.2⟩) (k_X6_needWord l hst E B M w) (rg_cw 1 C0.1.2.2.2.2 tw_m_X6_87 tw_i_X6_needWord tw_v_X6_needWord tw_n_X6 tw_c_X6_needWord rfl rfl hd_X6_needWord ⟨Nat.le_of_ble_eq_true rfl, Nat.le_of_ble_eq_true rfl⟩) rfl (by decide) rfl (by decide) rfl hl.1 rfl (Nat.le_of_ble_eq_true rfl) dX6_mend_23 ⟨Nat.le_of_ble_eq_true rfl, Nat.le_of_ble_eq_true rfl⟩ ⟨Nat.le_of_ble_eq_true rfl, Nat.le_of_ble_eq_true rfl⟩ (fun H locs e_23 hH => ?_)
  refine lv_aload_n hx hb dX6_mend_26 rfl (lv_at hl 1 rfl) ?_
  refine rg_xcallRv C0 hH (As := []) (rest := []) (o := 0) (ci := 6) hne hlocks (fun X hX => by exact Or.inr ⟨⟨⟨e_12, hlj ▸ e_18⟩, e_23⟩, hX.1, hX.2⟩) (k_X6_needNoOffers l hst E B M) (rg_cw 0 C0.1.2.2.2.2 tw_m_X6_131 tw_i_X6_needNoOffers tw_v_X6_needNoOffers tw_n_X6 tw_c_X6_needNoOffers rfl rfl hd_X6_needNoOffers ⟨Nat.le_of_ble_eq_true rfl, Nat.le_of_ble_eq_true rfl⟩) rfl (by decide) rfl (by decide) rfl hl.1 rfl (Nat.le_of_ble_eq_true rfl) dX6_mend_27 ⟨Nat.le_of_ble_eq_true rfl, Nat.le_of_ble_eq_true rfl⟩ ⟨Nat.le_of_ble_eq_true rfl, Nat.le_of_ble_eq_true rfl⟩ (fun H locs e_27 hH => ?_)
  refine lv_aload_n hx hb dX6_mend_30 rfl (lv_at hl 1 rfl) ?_
  refine rg_gR C0 hH (o2 := 92) (ci := 6) (k := 7) (o := 0) rfl rfl inT_X6 (by decide) tw_f_X6_39 (by decide) rfl (by decide) rfl dX6_mend_31 ?_
  refine lv_aload_n hx hb dX6_mend_34 rfl (lv_at hl 1 rfl) ?_
  refine rg_gR C0 hH (o2 := 6) (ci := 6) (k := 1) (o := 0) rfl rfl inT_X6 (by decide) tw_f_X6_19 (by decide) rfl (by decide) rfl dX6_mend_35 ?_
  refine rg_nR C0 hH (o2 := 8) (ci := 1) (k := 6) (o := 6) rfl rfl inT_X1 (by decide) (by decide) (by decide) rfl (by decide) rfl dX6_mend_38 ?_
  refine lv_iload_n hx hb dX6_mend_41 rfl (lv_at hl 0 rfl) ?_
  refine rg_aaldN C0 hH (o := 8) (o2 := (17 + 2 * j)) (j := j) (n0 := 36) (rg_R0_8 _ hj36) (by decide) rfl (by decide) rfl (by omega) dX6_mend_42 ?_
  refine lv_iload_n hx hb dX6_mend_43 rfl (lv_at hl 2 rfl) ?_
  refine lv_iload_n hx hb dX6_mend_44 rfl (lv_at hl 3 rfl) ?_
  refine lv_aload_n hx hb dX6_mend_45 rfl (lv_at hl 1 rfl) ?_
  refine rg_gR C0 hH (o2 := 1) (ci := 6) (k := 0) (o := 0) rfl rfl inT_X6 (by decide) tw_f_X6_13 (by decide) rfl (by decide) rfl dX6_mend_46 ?_
  refine rg_callWv C0 hH (As := [.ref (B + (17 + 2 * j)), .int (x), .int (w), .ref (B + 1)]) (rest := []) (o := 92) (ci := 5) (k_X5_takeMended l E B M 92 (17 + 2 * j) (rg_sz M (17 + 2 * j)) x w rg_isV_t (rg_isV_p hj36) (by omega) (rg_CI_cn hI) (rg_CI_v hI j (by omega)) (fun _ _ _ => e_23)) (rg_cw 4 C0.1.2.2.2.2 tw_m_X6_188 tw_i_X5_takeMended tw_v_X5_takeMended tw_n_X5 tw_c_X5_takeMended rfl rfl hd_X5_takeMended ⟨Nat.le_of_ble_eq_true rfl, Nat.le_of_ble_eq_true rfl⟩) rfl (by decide) rfl (by decide) rfl hl.1 rfl (Nat.le_of_ble_eq_true rfl) dX6_mend_49 ⟨Nat.le_of_ble_eq_true rfl, Nat.le_of_ble_eq_true rfl⟩ (fun M_49 H locs e_49 hH => ?_)
  have hI2 := rg_CI_off hI e_49.2.2
  have g6 : M_49.1 6 = M.1 6 := (e_49.2.2 6 (by omega) (by omega)).1
  have hmd2 : M_49.1 6 4 = nI (rg_nl M) := by rw [g6]; exact (rg_CI_l hI).1
  have hsp2 : M_49.1 6 1 = nI (rg_sp M) := by rw [g6]; exact (rg_CI_s hI).1
  refine lv_aload_n hx hb dX6_mend_52 rfl (lv_at hl 1 rfl) ?_
  refine rg_gR C0 hH (o2 := 89) (ci := 6) (k := 2) (o := 0) rfl rfl inT_X6 (by decide) tw_f_X6_28 (by decide) rfl (by decide) rfl dX6_mend_53 ?_
  refine lv_aload_n hx hb dX6_mend_56 rfl (lv_at hl 1 rfl) ?_
  refine rg_gR C0 hH (o2 := 92) (ci := 6) (k := 7) (o := 0) rfl rfl inT_X6 (by decide) tw_f_X6_39 (by decide) rfl (by decide) rfl dX6_mend_57 ?_
  refine lv_iload_n hx hb dX6_mend_60 rfl (lv_at hl 0 rfl) ?_
  refine lv_iconst (v := (-1)) hx hb dX6_mend_61 (by decide) ?_
  refine rg_callGi C0 hH (As := [.ref (B + 92), .int (nI j), .int ((-1))]) (rest := []) (o := 89) (ci := 2) (k_X2_firstFault l E B M_49 92 (rg_sz M (17 + 2 * j)) j (rg_nl M) (rg_sp M) ((-1)) rg_isV_t e_49.1 (rg_CI_cn hI2) hmd2 (rg_CI_l hI).2 (by omega) hsp2 (rg_CI_s hI).2) (rg_cw 3 C0.1.2.2.2.2 tw_m_X6_161 tw_i_X2_firstFault tw_v_X2_firstFault tw_n_X2 tw_c_X2_firstFault rfl rfl hd_X2_firstFault ⟨Nat.le_of_ble_eq_true rfl, Nat.le_of_ble_eq_true rfl⟩) rfl (by decide) rfl (by decide) rfl hl.1 rfl (Nat.le_of_ble_eq_true rfl) dX6_mend_62 ⟨Nat.le_of_ble_eq_true rfl, Nat.le_of_ble_eq_true rfl⟩ (fun H locs hH => ?_)
  refine lv_istore (lv' := [(4, .int (rg_f8 (rg_co M_49 92 (rg_sz M (17 + 2 * j)) j (rg_sp M) ((-1))) 8 1)), (3, .int (nI j)), (0, .ref (B + 0)), (1, .int (x)), (2, .int (w))]) hx hb dX6_mend_65 hl (by decide) rfl (fun ls hl => ?_)
  refine lv_iload hx hb dX6_mend_67 (lv_at hl 0 rfl) ?_
  refine lv_if_eq (tgt := 95) hx hb dX6_mend_69 (by decide) (fun c_69 => ?_) (fun c_69 => ?_)
  · refine lv_aload_n hx hb dX6_mend_95 rfl (lv_at hl 2 rfl) ?_
    refine rg_gR C0 hH (o2 := 6) (ci := 6) (k := 1) (o := 0) rfl rfl inT_X6 (by decide) tw_f_X6_19 (by decide) rfl (by decide) rfl dX6_mend_96 ?_
    refine lv_aload_n hx hb dX6_mend_99 rfl (lv_at hl 2 rfl) ?_
    refine rg_gR C0 hH (o2 := 92) (ci := 6) (k := 7) (o := 0) rfl rfl inT_X6 (by decide) tw_f_X6_39 (by decide) rfl (by decide) rfl dX6_mend_100 ?_
    refine lv_aload_n hx hb dX6_mend_103 rfl (lv_at hl 2 rfl) ?_
    refine rg_gR C0 hH (o2 := 1) (ci := 6) (k := 0) (o := 0) rfl rfl inT_X6 (by decide) tw_f_X6_13 (by decide) rfl (by decide) rfl dX6_mend_104 ?_
    refine rg_callWv C0 hH (As := [.ref (B + 92), .ref (B + 1)]) (rest := []) (o := 6) (ci := 1) (k_X1_mendLatest l E B M_49 92 (rg_sz M (17 + 2 * j)) j rg_isV_t (rg_CI_cn hI2) e_49.1 (by rw [hmd2, hj9]) hj36 (by omega)) (rg_cw 2 C0.1.2.2.2.2 tw_m_X6_192 tw_i_X1_mendLatest tw_v_X1_mendLatest tw_n_X1 tw_c_X1_mendLatest rfl rfl hd_X1_mendLatest ⟨Nat.le_of_ble_eq_true rfl, Nat.le_of_ble_eq_true rfl⟩) rfl (by decide) rfl (by decide) rfl hl.1 rfl (Nat.le_of_ble_eq_true rfl) dX6_mend_107 ⟨Nat.le_of_ble_eq_true rfl, Nat.le_of_ble_eq_true rfl⟩ (fun M_107 H locs e_107 hH => ?_)
    refine lv_iconst (v := 0) hx hb dX6_mend_110 (by decide) ?_
    refine vx_ret ?_
    refine W.widen (k := 4) (n := 24) (Nat.le_of_ble_eq_true rfl) (Nat.le_of_ble_eq_true rfl) ?_
    exact rg_retWi C0 hH hr hlocks (by rw [show rg_nl M - 1 = j by omega]; exact ⟨⟨⟨⟨e_12, hlj ▸ e_18⟩, e_23⟩, e_27⟩, M_49, e_49, Or.inr ⟨c_69, rfl, e_107⟩⟩) dX6_mend_111
  · obtain ⟨k, hk1, hk2, hk3, hk4⟩ := (rg_f8_in (g := rg_co M_49 92 (rg_sz M (17 + 2 * j)) j (rg_sp M) (-1)) 8 1).resolve_left c_69
    rw [hk3] at hl
    refine lv_aload_n hx hb dX6_mend_72 rfl (lv_at hl 2 rfl) ?_
    refine lv_aload_n hx hb dX6_mend_73 rfl (lv_at hl 2 rfl) ?_
    refine rg_gR C0 hH (o2 := 89) (ci := 6) (k := 2) (o := 0) rfl rfl inT_X6 (by decide) tw_f_X6_28 (by decide) rfl (by decide) rfl dX6_mend_74 ?_
    refine lv_iload hx hb dX6_mend_77 (lv_at hl 0 rfl) ?_
    refine lv_aload_n hx hb dX6_mend_79 rfl (lv_at hl 2 rfl) ?_
    refine rg_gR C0 hH (o2 := 92) (ci := 6) (k := 7) (o := 0) rfl rfl inT_X6 (by decide) tw_f_X6_39 (by decide) rfl (by decide) rfl dX6_mend_80 ?_
    refine lv_iload_n hx hb dX6_mend_83 rfl (lv_at hl 1 rfl) ?_
    refine lv_iconst (v := (-1)) hx hb dX6_mend_84 (by decide) ?_
    refine rg_callGi C0 hH (As := [.int (nI k), .ref (B + 92), .int (nI j), .int ((-1))]) (rest := [.ref (B + 0)]) (o := 89) (ci := 2) (k_X2_causeOf l E B M_49 k 92 (rg_sz M (17 + 2 * j)) j (rg_nl M) (rg_sp M) ((-1)) rg_isV_t e_49.1 (rg_CI_cn hI2) hmd2 (rg_CI_l hI).2 (by omega) hsp2 (rg_CI_s hI).2 hk1 (by omega)) (rg_cw 4 C0.1.2.2.2.2 tw_m_X6_165 tw_i_X2_causeOf tw_v_X2_causeOf tw_n_X2 tw_c_X2_causeOf rfl rfl hd_X2_causeOf ⟨Nat.le_of_ble_eq_true rfl, Nat.le_of_ble_eq_true rfl⟩) rfl (by decide) rfl (by decide) rfl hl.1 rfl (Nat.le_of_ble_eq_true rfl) dX6_mend_85 ⟨Nat.le_of_ble_eq_true rfl, Nat.le_of_ble_eq_true rfl⟩ (fun H locs hH => ?_)
    refine rg_pI C0 hH (v := rg_co M_49 92 (rg_sz M (17 + 2 * j)) j (rg_sp M) ((-1)) k) tyX6 tyX6_ok nmX6 (ci := 6) (k := 12) (o := 0) rfl inT_X6 (by decide) tw_f_X6_64 (by decide) rfl (by decide) rfl rfl rfl rfl dX6_mend_88 (fun H locs hH => ?_)
    refine lv_iload hx hb dX6_mend_91 (lv_at hl 0 rfl) ?_
    refine lv_ineg hx hb dX6_mend_93 ?_
    refine vx_ret ?_
    refine W.widen (k := 4) (n := 24) (Nat.le_of_ble_eq_true rfl) (Nat.le_of_ble_eq_true rfl) ?_
    exact rg_retWi C0 hH hr hlocks (by rw [show rg_nl M - 1 = j by omega]; exact ⟨⟨⟨⟨e_12, hlj ▸ e_18⟩, e_23⟩, e_27⟩, M_49, e_49, Or.inl ⟨k, hk1, by omega, hk3, rfl, rfl⟩⟩) dX6_mend_94

set_option maxHeartbeats 4000000 in
set_option maxRecDepth 100000 in
/-- chanceOf -/
theorem k_X6_chanceOf (l : Launch) (E : rg_Env) (B : Nat) (M : rg_Mem) (a : Nat) (b : Int32) (z : Int32) (hI : rg_CI M) (ha : a < rg_nw M) (hb9 : b = -1 ∨ rg_has M b) : Met l yX6_chanceOf (rg_w yX6_chanceOf cX6_chanceOf 4 (some (FieldType.int))) ({ frames := 6, cells := 0, slots := 0, locals := 138 } : Room) (va_Pc [.ref (B + 0), .int (nI a), .int (b), .int (z)] (rg_Pre E B 422 rg_R0 M)) (rg_Wi E B 422 rg_R0 (fun r M1 => rg_off M M1 92 ∧ r = rg_cc M z (fun k => if k = 0 then nI a else b) (if b = -1 then 1 else 2))) 0 0 (rg_A B) := by
  refine rg_ofW (by decide +kernel) rfl (Nat.le_of_ble_eq_true rfl) ?_
  intro p e s m args below meth c ls C0 hH hl hr hlocks hnm
  replace hl : lv_has ls 4 [(0, .ref (B + 0)), (1, .int (nI a)), (2, .int (b)), (3, .int (z))] := hl
  have hx := C0.1.1
  have hb := C0.1.2.1
  generalize hH9 : s.heap = H at hH ⊢
  generalize hL9 : ([] : List Loc) = locs at hH ⊢
  clear hH9 hL9
  refine lv_aload_n hx hb dX6_chanceOf_0 rfl (lv_at hl 0 rfl) ?_
  refine rg_gR C0 hH (o2 := 92) (ci := 6) (k := 7) (o := 0) rfl rfl inT_X6 (by decide) tw_f_X6_39 (by decide) rfl (by decide) rfl dX6_chanceOf_1 ?_
  refine rg_callRv C0 hH (As := []) (rest := []) (o := 92) (ci := 5) (k_X5_empty l E B M 92 (by exact rg_isV_t)) (rg_cw 0 C0.1.2.2.2.2 tw_m_X6_151 tw_i_X5_empty tw_v_X5_empty tw_n_X5 tw_c_X5_empty rfl rfl hd_X5_empty ⟨Nat.le_of_ble_eq_true rfl, Nat.le_of_ble_eq_true rfl⟩) rfl (by decide) rfl (by decide) rfl hl.1 rfl (Nat.le_of_ble_eq_true rfl) dX6_chanceOf_4 ⟨Nat.le_of_ble_eq_true rfl, Nat.le_of_ble_eq_true rfl⟩ (fun H locs e_4 hH => ?_)
  refine lv_aload_n hx hb dX6_chanceOf_7 rfl (lv_at hl 0 rfl) ?_
  refine rg_gR C0 hH (o2 := 92) (ci := 6) (k := 7) (o := 0) rfl rfl inT_X6 (by decide) tw_f_X6_39 (by decide) rfl (by decide) rfl dX6_chanceOf_8 ?_
  refine lv_iload_n hx hb dX6_chanceOf_11 rfl (lv_at hl 1 rfl) ?_
  refine lv_aload_n hx hb dX6_chanceOf_12 rfl (lv_at hl 0 rfl) ?_
  refine rg_gR C0 hH (o2 := 1) (ci := 6) (k := 0) (o := 0) rfl rfl inT_X6 (by decide) tw_f_X6_13 (by decide) rfl (by decide) rfl dX6_chanceOf_13 ?_
  refine rg_callWv C0 hH (As := [.int (nI a), .ref (B + 1)]) (rest := []) (o := 92) (ci := 5) (k_X5_append l E B (rg_J (rg_I (rg_I (rg_I (rg_I M 92 1 0) 92 2 0) 92 3 (-1)) 92 4 0) 92 5 0) 92 0 (nI a) rg_isV_t (rg_CI_cn (rg_CI_off hI rg_off_0)) rg_VS_0 (by omega) (by have h := rg_has_k hI ha; simpa [rg_has, rg_I, rg_J] using h)) (rg_cw 2 C0.1.2.2.2.2 tw_m_X6_147 tw_i_X5_append tw_v_X5_append tw_n_X5 tw_c_X5_append rfl rfl hd_X5_append ⟨Nat.le_of_ble_eq_true rfl, Nat.le_of_ble_eq_true rfl⟩) rfl (by decide) rfl (by decide) rfl hl.1 rfl (Nat.le_of_ble_eq_true rfl) dX6_chanceOf_16 ⟨Nat.le_of_ble_eq_true rfl, Nat.le_of_ble_eq_true rfl⟩ (fun M_16 H locs e_16 hH => ?_)
  refine lv_iload_n hx hb dX6_chanceOf_19 rfl (lv_at hl 2 rfl) ?_
  refine lv_iconst (v := (-1)) hx hb dX6_chanceOf_20 (by decide) ?_
  refine lv_icmp_eq (tgt := 36) hx hb dX6_chanceOf_21 (by decide) (fun c_21 => ?_) (fun c_21 => ?_)
  · have ho2 : rg_off M M_16 92 := rg_off_tr rg_off_0 e_16.2.2.2
    have hI2 := rg_CI_off hI ho2
    have hv2 : rg_VS M_16 92 1 := e_16.1
    have hw2 : ∀ k, k < 1 → M_16.1 (92 + 1) k = (fun k => if k = 0 then nI a else b) k := by
      intro k hk
      rw [show k = 0 by omega]
      exact e_16.2.1
    have g6 : M_16.1 6 = M.1 6 := (ho2 6 (by omega) (by omega)).1
    have hmd2 : M_16.1 6 4 = nI (rg_nl M) := by rw [g6]; exact (rg_CI_l hI).1
    have hsp2 : M_16.1 6 1 = nI (rg_sp M) := by rw [g6]; exact (rg_CI_s hI).1
    have hc2 : rg_f8 (rg_co M_16 92 1 (rg_nl M) (rg_sp M) z) 8 1 = rg_f8 (rg_cq M (fun k => if k = 0 then nI a else b) 1 (rg_nl M) (rg_sp M) z) 8 1 := by rw [rg_co_cq hv2, rg_cq_c (rg_off_lo ho2) (rg_CI_l hI).2 hw2]
    refine lv_aload_n hx hb dX6_chanceOf_36 rfl (lv_at hl 0 rfl) ?_
    refine rg_gR C0 hH (o2 := 89) (ci := 6) (k := 2) (o := 0) rfl rfl inT_X6 (by decide) tw_f_X6_28 (by decide) rfl (by decide) rfl dX6_chanceOf_37 ?_
    refine lv_aload_n hx hb dX6_chanceOf_40 rfl (lv_at hl 0 rfl) ?_
    refine rg_gR C0 hH (o2 := 92) (ci := 6) (k := 7) (o := 0) rfl rfl inT_X6 (by decide) tw_f_X6_39 (by decide) rfl (by decide) rfl dX6_chanceOf_41 ?_
    refine lv_aload_n hx hb dX6_chanceOf_44 rfl (lv_at hl 0 rfl) ?_
    refine rg_gR C0 hH (o2 := 6) (ci := 6) (k := 1) (o := 0) rfl rfl inT_X6 (by decide) tw_f_X6_19 (by decide) rfl (by decide) rfl dX6_chanceOf_45 ?_
    refine rg_nI C0 hH (ci := 1) (k := 4) (o := 6) rfl inT_X1 (by decide) (by decide) (by decide) rfl (by decide) rfl dX6_chanceOf_48 ?_
    refine rg_topi (y := nI (rg_nl M)) (by exact hmd2) ?_
    refine lv_iload_n hx hb dX6_chanceOf_51 rfl (lv_at hl 3 rfl) ?_
    refine rg_callGi C0 hH (As := [.ref (B + 92), .int (nI (rg_nl M)), .int (z)]) (rest := []) (o := 89) (ci := 2) (k_X2_firstFault l E B M_16 92 1 (rg_nl M) (rg_nl M) (rg_sp M) z rg_isV_t hv2 (rg_CI_cn hI2) hmd2 (rg_CI_l hI).2 (Nat.le_refl _) hsp2 (rg_CI_s hI).2) (rg_cw 3 C0.1.2.2.2.2 tw_m_X6_161 tw_i_X2_firstFault tw_v_X2_firstFault tw_n_X2 tw_c_X2_firstFault rfl rfl hd_X2_firstFault ⟨Nat.le_of_ble_eq_true rfl, Nat.le_of_ble_eq_true rfl⟩) rfl (by decide) rfl (by decide) rfl hl.1 rfl (Nat.le_of_ble_eq_true rfl) dX6_chanceOf_52 ⟨Nat.le_of_ble_eq_true rfl, Nat.le_of_ble_eq_true rfl⟩ (fun H locs hH => ?_)
    refine lv_if_ne (tgt := 62) hx hb dX6_chanceOf_55 (by decide) (fun c_55 => ?_) (fun c_55 => ?_)
    · refine lv_iconst (v := 0) hx hb dX6_chanceOf_62 (by decide) ?_
      exact rg_retWi C0 hH hr hlocks (by refine ⟨ho2, ?_⟩; rw [if_pos c_21]; unfold rg_cc; exact rg_b_f (by rw [← hc2]; exact c_55)) dX6_chanceOf_63
    · refine lv_iconst (v := 1) hx hb dX6_chanceOf_58 (by decide) ?_
      refine lv_goto (tgt := 63) hx hb dX6_chanceOf_59 (by decide) ?_
      exact rg_retWi C0 hH hr hlocks (by refine ⟨ho2, ?_⟩; rw [if_pos c_21]; unfold rg_cc; exact rg_b_t (by rw [← hc2]; exact c_55)) dX6_chanceOf_63
  · refine lv_aload_n hx hb dX6_chanceOf_24 rfl (lv_at hl 0 rfl) ?_
    refine rg_gR C0 hH (o2 := 92) (ci := 6) (k := 7) (o := 0) rfl rfl inT_X6 (by decide) tw_f_X6_39 (by decide) rfl (by decide) rfl dX6_chanceOf_25 ?_
    refine lv_iload_n hx hb dX6_chanceOf_28 rfl (lv_at hl 2 rfl) ?_
    refine lv_aload_n hx hb dX6_chanceOf_29 rfl (lv_at hl 0 rfl) ?_
    refine rg_gR C0 hH (o2 := 1) (ci := 6) (k := 0) (o := 0) rfl rfl inT_X6 (by decide) tw_f_X6_13 (by decide) rfl (by decide) rfl dX6_chanceOf_30 ?_
    refine rg_callWv C0 hH (As := [.int (b), .ref (B + 1)]) (rest := []) (o := 92) (ci := 5) (k_X5_append l E B M_16 92 1 b rg_isV_t (rg_CI_cn (rg_CI_off (rg_CI_off hI rg_off_0) e_16.2.2.2)) e_16.1 (by omega) (by have h := hb9.resolve_left c_21; have g1 := (rg_off_tr rg_off_0 e_16.2.2.2 1 (by omega) (by omega)).1; unfold rg_has; rw [g1]; exact h)) (rg_cw 2 C0.1.2.2.2.2 tw_m_X6_147 tw_i_X5_append tw_v_X5_append tw_n_X5 tw_c_X5_append rfl rfl hd_X5_append ⟨Nat.le_of_ble_eq_true rfl, Nat.le_of_ble_eq_true rfl⟩) rfl (by decide) rfl (by decide) rfl hl.1 rfl (Nat.le_of_ble_eq_true rfl) dX6_chanceOf_33 ⟨Nat.le_of_ble_eq_true rfl, Nat.le_of_ble_eq_true rfl⟩ (fun M_33 H locs e_33 hH => ?_)
    have ho2 : rg_off M M_33 92 := rg_off_tr (rg_off_tr rg_off_0 e_16.2.2.2) e_33.2.2.2
    have hI2 := rg_CI_off hI ho2
    have hv2 : rg_VS M_33 92 2 := e_33.1
    have hw2 : ∀ k, k < 2 → M_33.1 (92 + 1) k = (fun k => if k = 0 then nI a else b) k := by
      intro k hk
      rcases (show k = 0 ∨ k = 1 by omega) with rfl | rfl
      · exact (e_33.2.2.1 0 (by omega)).trans e_16.2.1
      · exact e_33.2.1
    have g6 : M_33.1 6 = M.1 6 := (ho2 6 (by omega) (by omega)).1
    have hmd2 : M_33.1 6 4 = nI (rg_nl M) := by rw [g6]; exact (rg_CI_l hI).1
    have hsp2 : M_33.1 6 1 = nI (rg_sp M) := by rw [g6]; exact (rg_CI_s hI).1
    have hc2 : rg_f8 (rg_co M_33 92 2 (rg_nl M) (rg_sp M) z) 8 1 = rg_f8 (rg_cq M (fun k => if k = 0 then nI a else b) 2 (rg_nl M) (rg_sp M) z) 8 1 := by rw [rg_co_cq hv2, rg_cq_c (rg_off_lo ho2) (rg_CI_l hI).2 hw2]
    refine lv_aload_n hx hb dX6_chanceOf_36 rfl (lv_at hl 0 rfl) ?_
    refine rg_gR C0 hH (o2 := 89) (ci := 6) (k := 2) (o := 0) rfl rfl inT_X6 (by decide) tw_f_X6_28 (by decide) rfl (by decide) rfl dX6_chanceOf_37 ?_
    refine lv_aload_n hx hb dX6_chanceOf_40 rfl (lv_at hl 0 rfl) ?_
    refine rg_gR C0 hH (o2 := 92) (ci := 6) (k := 7) (o := 0) rfl rfl inT_X6 (by decide) tw_f_X6_39 (by decide) rfl (by decide) rfl dX6_chanceOf_41 ?_
    refine lv_aload_n hx hb dX6_chanceOf_44 rfl (lv_at hl 0 rfl) ?_
    refine rg_gR C0 hH (o2 := 6) (ci := 6) (k := 1) (o := 0) rfl rfl inT_X6 (by decide) tw_f_X6_19 (by decide) rfl (by decide) rfl dX6_chanceOf_45 ?_
    refine rg_nI C0 hH (ci := 1) (k := 4) (o := 6) rfl inT_X1 (by decide) (by decide) (by decide) rfl (by decide) rfl dX6_chanceOf_48 ?_
    refine rg_topi (y := nI (rg_nl M)) (by exact hmd2) ?_
    refine lv_iload_n hx hb dX6_chanceOf_51 rfl (lv_at hl 3 rfl) ?_
    refine rg_callGi C0 hH (As := [.ref (B + 92), .int (nI (rg_nl M)), .int (z)]) (rest := []) (o := 89) (ci := 2) (k_X2_firstFault l E B M_33 92 2 (rg_nl M) (rg_nl M) (rg_sp M) z rg_isV_t hv2 (rg_CI_cn hI2) hmd2 (rg_CI_l hI).2 (Nat.le_refl _) hsp2 (rg_CI_s hI).2) (rg_cw 3 C0.1.2.2.2.2 tw_m_X6_161 tw_i_X2_firstFault tw_v_X2_firstFault tw_n_X2 tw_c_X2_firstFault rfl rfl hd_X2_firstFault ⟨Nat.le_of_ble_eq_true rfl, Nat.le_of_ble_eq_true rfl⟩) rfl (by decide) rfl (by decide) rfl hl.1 rfl (Nat.le_of_ble_eq_true rfl) dX6_chanceOf_52 ⟨Nat.le_of_ble_eq_true rfl, Nat.le_of_ble_eq_true rfl⟩ (fun H locs hH => ?_)
    refine lv_if_ne (tgt := 62) hx hb dX6_chanceOf_55 (by decide) (fun c_55 => ?_) (fun c_55 => ?_)
    · refine lv_iconst (v := 0) hx hb dX6_chanceOf_62 (by decide) ?_
      exact rg_retWi C0 hH hr hlocks (by refine ⟨ho2, ?_⟩; rw [if_neg c_21]; unfold rg_cc; exact rg_b_f (by rw [← hc2]; exact c_55)) dX6_chanceOf_63
    · refine lv_iconst (v := 1) hx hb dX6_chanceOf_58 (by decide) ?_
      refine lv_goto (tgt := 63) hx hb dX6_chanceOf_59 (by decide) ?_
      exact rg_retWi C0 hH hr hlocks (by refine ⟨ho2, ?_⟩; rw [if_neg c_21]; unfold rg_cc; exact rg_b_t (by rw [← hc2]; exact c_55)) dX6_chanceOf_63

set_option maxHeartbeats 4000000 in
set_option maxRecDepth 100000 in
/-- chances -/
theorem k_X6_chances (l : Launch) (hst : l.stackTraces = false) (E : rg_Env) (B : Nat) (M : rg_Mem) (z : Int32) (hI : rg_CI M) : vx_Met l yX6_chances (rg_w yX6_chances cX6_chances 5 (some (FieldType.int))) ({ frames := 7, cells := 1, slots := 6, locals := 161 } : Room) (va_Pc [.ref (B + 0), .int (z)] (rg_Pre E B 422 rg_R0 M)) (rg_Wi E B 422 rg_R0 (fun r M1 => rg_pt M z ∧ rg_off M M1 92 ∧ r = if ¬ M.1 6 0 ≤ M.1 6 4 then rg_c1 M z (rg_nw M) else 0)) (rg_X E B 422 rg_R0 M (fun X => ¬ rg_pt M z ∧ X = "java/lang/IndexOutOfBoundsException")) 1 6 (rg_A B) := by
  refine rg_xofW (by decide +kernel) rfl (Nat.le_of_ble_eq_true rfl) ?_
  intro p e s m args below meth c ls hne C0 hH hl hr hlocks
  replace hl : lv_has ls 5 [(0, .ref (B + 0)), (1, .int (z))] := hl
  have hx := C0.1.1
  have hb := C0.1.2.1
  generalize hH9 : s.heap = H at hH ⊢
  generalize hL9 : ([] : List Loc) = locs at hH ⊢
  clear hH9 hL9
  refine lv_aload_n hx hb dX6_chances_0 rfl (lv_at hl 0 rfl) ?_
  refine lv_iload_n hx hb dX6_chances_1 rfl (lv_at hl 1 rfl) ?_
  refine rg_xcallRv C0 hH (As := [.int (z)]) (rest := []) (o := 0) (ci := 6) hne hlocks (fun X hX => by exact hX) (k_X6_needPoet l hst E B M z) (rg_cw 1 C0.1.2.2.2.2 tw_m_X6_154 tw_i_X6_needPoet tw_v_X6_needPoet tw_n_X6 tw_c_X6_needPoet rfl rfl hd_X6_needPoet ⟨Nat.le_of_ble_eq_true rfl, Nat.le_of_ble_eq_true rfl⟩) rfl (by decide) rfl (by decide) rfl hl.1 rfl (Nat.le_of_ble_eq_true rfl) dX6_chances_2 ⟨Nat.le_of_ble_eq_true rfl, Nat.le_of_ble_eq_true rfl⟩ ⟨Nat.le_of_ble_eq_true rfl, Nat.le_of_ble_eq_true rfl⟩ (fun H locs e_2 hH => ?_)
  refine lv_aload_n hx hb dX6_chances_5 rfl (lv_at hl 0 rfl) ?_
  refine rg_gR C0 hH (o2 := 6) (ci := 6) (k := 1) (o := 0) rfl rfl inT_X6 (by decide) tw_f_X6_19 (by decide) rfl (by decide) rfl dX6_chances_6 ?_
  refine rg_callGi C0 hH (As := []) (rest := []) (o := 6) (ci := 1) (k_X1_isOpen l E B M) (rg_cw 0 C0.1.2.2.2.2 tw_m_X6_105 tw_i_X1_isOpen tw_v_X1_isOpen tw_n_X1 tw_c_X1_isOpen rfl rfl hd_X1_isOpen ⟨Nat.le_of_ble_eq_true rfl, Nat.le_of_ble_eq_true rfl⟩) rfl (by decide) rfl (by decide) rfl hl.1 rfl (Nat.le_of_ble_eq_true rfl) dX6_chances_9 ⟨Nat.le_of_ble_eq_true rfl, Nat.le_of_ble_eq_true rfl⟩ (fun H locs hH => ?_)
  refine lv_if_ne (tgt := 17) hx hb dX6_chances_12 (by decide) (fun c_12 => ?_) (fun c_12 => ?_)
  · refine lv_iconst (v := 0) hx hb dX6_chances_17 (by decide) ?_
    refine lv_istore_n (lv' := [(2, .int (0)), (0, .ref (B + 0)), (1, .int (z))]) hx hb dX6_chances_18 rfl hl (by decide) rfl (fun ls hl => ?_)
    refine lv_iconst (v := 0) hx hb dX6_chances_19 (by decide) ?_
    refine lv_istore_n (lv' := [(3, .int (0)), (2, .int (0)), (0, .ref (B + 0)), (1, .int (z))]) hx hb dX6_chances_20 rfl hl (by decide) rfl (fun ls hl => ?_)
    have cut_21 : ∀ (fu i : Nat), i ≤ rg_nw M ∧ rg_nw M < i + fu → ∀ (Mi : rg_Mem) (H : Heap) (locs : List Loc) (ls : Array Slot), rg_H E B 422 rg_R0 Mi s H locs → lv_has ls 5 [(0, .ref (B + 0)), (1, .int (z)), (2, .int (rg_c1 M z i)), (3, .int (nI i))] → (rg_off M Mi 92) → W p l e ({ frames := 7, cells := 1, slots := 6, locals := 161 } : Room) s m args below meth c H locs 1 6 (vx_MQ below (rg_Wi E B 422 rg_R0 (fun r M1 => rg_pt M z ∧ rg_off M M1 92 ∧ r = if ¬ M.1 6 0 ≤ M.1 6 4 then rg_c1 M z (rg_nw M) else 0)) (rg_X E B 422 rg_R0 M (fun X => ¬ rg_pt M z ∧ X = "java/lang/IndexOutOfBoundsException")) args s 1 6 (rg_A B)) (F0 m 21 ls []) := by
      intro fu
      induction fu with
      | zero =>
        intro i hm
        exact absurd hm (by omega)
      | succ fu ih =>
        intro i hm Mi H locs ls hH hl hoi
        refine lv_iload_n hx hb dX6_chances_21 rfl (lv_at hl 3 rfl) ?_
        refine lv_aload_n hx hb dX6_chances_22 rfl (lv_at hl 0 rfl) ?_
        refine rg_gR C0 hH (o2 := 1) (ci := 6) (k := 0) (o := 0) rfl rfl inT_X6 (by decide) tw_f_X6_13 (by decide) rfl (by decide) rfl dX6_chances_23 ?_
        refine rg_nI C0 hH (ci := 4) (k := 4) (o := 1) rfl inT_X4 (by decide) (by decide) (by decide) rfl (by decide) rfl dX6_chances_26 ?_
        refine rg_topi (y := nI (rg_nw M)) (by rw [(hoi 1 (by omega) (by omega)).1]; exact (rg_CI_w hI).1) ?_
        refine lv_icmp_ge (tgt := 80) hx hb dX6_chances_29 (by decide) (fun c_29 => ?_) (fun c_29 => ?_)
        · refine lv_iload_n hx hb dX6_chances_80 rfl (lv_at hl 2 rfl) ?_
          refine vx_ret ?_
          refine W.widen (k := 1) (n := 6) (Nat.le_of_ble_eq_true rfl) (Nat.le_of_ble_eq_true rfl) ?_
          exact rg_retWi C0 hH hr hlocks (by exact ⟨e_2, hoi, by rw [if_pos (rg_b_ne.mp c_12), rg_lp_end hm.1 (by have := (rg_CI_w hI).2; omega) c_29]⟩) dX6_chances_81
        · have hlt := rg_lp_lt hm.1 (by have := (rg_CI_w hI).2; omega) c_29
          refine lv_iload_n hx hb dX6_chances_32 rfl (lv_at hl 2 rfl) ?_
          refine lv_aload_n hx hb dX6_chances_33 rfl (lv_at hl 0 rfl) ?_
          refine lv_iload_n hx hb dX6_chances_34 rfl (lv_at hl 3 rfl) ?_
          refine lv_iconst (v := (-1)) hx hb dX6_chances_35 (by decide) ?_
          refine lv_iload_n hx hb dX6_chances_36 rfl (lv_at hl 1 rfl) ?_
          refine rg_callWi C0 hH (As := [.int (nI i), .int ((-1)), .int (z)]) (rest := [.int (rg_c1 M z i)]) (o := 0) (ci := 6) (k_X6_chanceOf l E B Mi i ((-1)) z (rg_CI_off hI hoi) (by rw [show rg_nw Mi = rg_nw M from by unfold rg_nw; rw [(hoi 1 (by omega) (by omega)).1]]; exact hlt) (Or.inl rfl)) (rg_cw 3 C0.1.2.2.2.2 tw_m_X6_249 tw_i_X6_chanceOf tw_v_X6_chanceOf tw_n_X6 tw_c_X6_chanceOf rfl rfl hd_X6_chanceOf ⟨Nat.le_of_ble_eq_true rfl, Nat.le_of_ble_eq_true rfl⟩) rfl (by decide) rfl (by decide) rfl hl.1 rfl (Nat.le_of_ble_eq_true rfl) dX6_chances_37 ⟨Nat.le_of_ble_eq_true rfl, Nat.le_of_ble_eq_true rfl⟩ (fun r_37 M_37 H locs e_37 hH => ?_)
          refine rg_topi (y := rg_cc M z (fun k => if k = 0 then nI i else -1) 1) (by rw [e_37.2, if_pos rfl]; exact rg_cc_off hI hoi (fun _ _ => rfl)) ?_
          refine lv_iadd hx hb dX6_chances_40 ?_
          refine lv_istore_n (lv' := [(2, .int ((rg_c1 M z i) + (rg_cc M z (fun k => if k = 0 then nI i else -1) 1))), (0, .ref (B + 0)), (1, .int (z)), (3, .int (nI i))]) hx hb dX6_chances_41 rfl hl (by decide) rfl (fun ls hl => ?_)
          refine lv_iconst (v := 0) hx hb dX6_chances_42 (by decide) ?_
          refine lv_istore (lv' := [(4, .int (0)), (2, .int ((rg_c1 M z i) + (rg_cc M z (fun k => if k = 0 then nI i else -1) 1))), (0, .ref (B + 0)), (1, .int (z)), (3, .int (nI i))]) hx hb dX6_chances_43 hl (by decide) rfl (fun ls hl => ?_)
          have cut_45 : ∀ (fu2 i2 : Nat), i2 ≤ rg_nw M ∧ rg_nw M < i2 + fu2 → ∀ (Mj : rg_Mem) (H : Heap) (locs : List Loc) (ls : Array Slot), rg_H E B 422 rg_R0 Mj s H locs → lv_has ls 5 [(0, .ref (B + 0)), (1, .int (z)), (2, .int (rg_c2 M z i (rg_c1 M z i + rg_cc M z (fun k => if k = 0 then nI i else -1) 1) i2)), (3, .int (nI i)), (4, .int (nI i2))] → (rg_off M Mj 92) → W p l e ({ frames := 7, cells := 1, slots := 6, locals := 161 } : Room) s m args below meth c H locs 1 6 (vx_MQ below (rg_Wi E B 422 rg_R0 (fun r M1 => rg_pt M z ∧ rg_off M M1 92 ∧ r = if ¬ M.1 6 0 ≤ M.1 6 4 then rg_c1 M z (rg_nw M) else 0)) (rg_X E B 422 rg_R0 M (fun X => ¬ rg_pt M z ∧ X = "java/lang/IndexOutOfBoundsException")) args s 1 6 (rg_A B)) (F0 m 45 ls []) := by
            intro fu2
            induction fu2 with
            | zero =>
              intro i2 hm2
              exact absurd hm2 (by omega)
            | succ fu2 ih2 =>
              intro i2 hm2 Mj H locs ls hH hl hoj
              refine lv_iload hx hb dX6_chances_45 (lv_at hl 4 rfl) ?_
              refine lv_aload_n hx hb dX6_chances_47 rfl (lv_at hl 0 rfl) ?_
              refine rg_gR C0 hH (o2 := 1) (ci := 6) (k := 0) (o := 0) rfl rfl inT_X6 (by decide) tw_f_X6_13 (by decide) rfl (by decide) rfl dX6_chances_48 ?_
              refine rg_nI C0 hH (ci := 4) (k := 4) (o := 1) rfl inT_X4 (by decide) (by decide) (by decide) rfl (by decide) rfl dX6_chances_51 ?_
              refine rg_topi (y := nI (rg_nw M)) (by rw [(hoj 1 (by omega) (by omega)).1]; exact (rg_CI_w hI).1) ?_
              refine lv_icmp_ge (tgt := 74) hx hb dX6_chances_54 (by decide) (fun c_54 => ?_) (fun c_54 => ?_)
              · have q2 := rg_lp_end hm2.1 (by have := (rg_CI_w hI).2; omega) c_54
                subst q2
                replace hl : lv_has ls 5 [(0, .ref (B + 0)), (1, .int (z)), (2, .int (rg_c1 M z (i + 1))), (3, .int (nI i)), (4, .int (nI (rg_nw M)))] := by skip; exact hl
                refine lv_iinc (v := nI (i + 1)) (lv' := [(3, .int (nI (i + 1))), (0, .ref (B + 0)), (1, .int (z)), (2, .int (rg_c1 M z (i + 1))), (4, .int (nI (rg_nw M)))]) hx hb dX6_chances_74 hl (k := 3) rfl (nI_1 _) (by decide) rfl (fun ls hl => ?_)
                refine lv_goto (tgt := 21) hx hb dX6_chances_77 (by decide) ?_
                exact ih (i + 1) (by omega) Mj _ _ _ hH (lv_sub hl [1, 2, 3, 0] rfl) (by exact hoj)
              · have hlt2 := rg_lp_lt hm2.1 (by have := (rg_CI_w hI).2; omega) c_54
                refine lv_iload_n hx hb dX6_chances_57 rfl (lv_at hl 2 rfl) ?_
                refine lv_aload_n hx hb dX6_chances_58 rfl (lv_at hl 0 rfl) ?_
                refine lv_iload_n hx hb dX6_chances_59 rfl (lv_at hl 3 rfl) ?_
                refine lv_iload hx hb dX6_chances_60 (lv_at hl 4 rfl) ?_
                refine lv_iload_n hx hb dX6_chances_62 rfl (lv_at hl 1 rfl) ?_
                refine rg_callWi C0 hH (As := [.int (nI i), .int (nI i2), .int (z)]) (rest := [.int (rg_c2 M z i (rg_c1 M z i + rg_cc M z (fun k => if k = 0 then nI i else -1) 1) i2)]) (o := 0) (ci := 6) (k_X6_chanceOf l E B Mj i (nI i2) z (rg_CI_off hI hoj) (by rw [show rg_nw Mj = rg_nw M from by unfold rg_nw; rw [(hoj 1 (by omega) (by omega)).1]]; exact hlt) (Or.inr (rg_has_k (rg_CI_off hI hoj) (by rw [show rg_nw Mj = rg_nw M from by unfold rg_nw; rw [(hoj 1 (by omega) (by omega)).1]]; exact hlt2)))) (rg_cw 3 C0.1.2.2.2.2 tw_m_X6_249 tw_i_X6_chanceOf tw_v_X6_chanceOf tw_n_X6 tw_c_X6_chanceOf rfl rfl hd_X6_chanceOf ⟨Nat.le_of_ble_eq_true rfl, Nat.le_of_ble_eq_true rfl⟩) rfl (by decide) rfl (by decide) rfl hl.1 rfl (Nat.le_of_ble_eq_true rfl) dX6_chances_63 ⟨Nat.le_of_ble_eq_true rfl, Nat.le_of_ble_eq_true rfl⟩ (fun r_63 M_63 H locs e_63 hH => ?_)
                refine rg_topi (y := rg_cc M z (fun k => if k = 0 then nI i else nI i2) 2) (by rw [e_63.2, if_neg (rg_nIm (by have := (rg_CI_w hI).2; omega))]; exact rg_cc_off hI hoj (fun _ _ => rfl)) ?_
                refine lv_iadd hx hb dX6_chances_66 ?_
                refine lv_istore_n (lv' := [(2, .int ((rg_c2 M z i (rg_c1 M z i + rg_cc M z (fun k => if k = 0 then nI i else -1) 1) i2) + (rg_cc M z (fun k => if k = 0 then nI i else nI i2) 2))), (0, .ref (B + 0)), (1, .int (z)), (3, .int (nI i)), (4, .int (nI i2))]) hx hb dX6_chances_67 rfl hl (by decide) rfl (fun ls hl => ?_)
                refine lv_iinc (v := nI (i2 + 1)) (lv' := [(4, .int (nI (i2 + 1))), (2, .int ((rg_c2 M z i (rg_c1 M z i + rg_cc M z (fun k => if k = 0 then nI i else -1) 1) i2) + (rg_cc M z (fun k => if k = 0 then nI i else nI i2) 2))), (0, .ref (B + 0)), (1, .int (z)), (3, .int (nI i))]) hx hb dX6_chances_68 hl (k := 4) rfl (nI_1 _) (by decide) rfl (fun ls hl => ?_)
                refine lv_goto (tgt := 45) hx hb dX6_chances_71 (by decide) ?_
                exact ih2 (i2 + 1) (by omega) M_63 _ _ _ hH (lv_sub hl [2, 3, 1, 4, 0] rfl) (by exact rg_off_tr hoj e_63.1)
          exact cut_45 (rg_nw M + 1) 0 (by omega) M_37 _ _ _ hH (lv_sub hl [2, 3, 1, 4, 0] rfl) (by exact rg_off_tr hoi e_37.1)
    exact cut_21 (rg_nw M + 1) 0 (by omega) M _ _ _ hH (lv_sub hl [2, 3, 1, 0] rfl) (by exact rg_off_rf)
  · refine lv_iconst (v := 0) hx hb dX6_chances_15 (by decide) ?_
    refine vx_ret ?_
    refine W.widen (k := 1) (n := 6) (Nat.le_of_ble_eq_true rfl) (Nat.le_of_ble_eq_true rfl) ?_
    exact rg_retWi C0 hH hr hlocks (by exact ⟨e_2, rg_off_rf, by rw [if_neg (rg_b_eq.mp c_12)]⟩) dX6_chances_16

set_option maxHeartbeats 4000000 in
set_option maxRecDepth 100000 in
/-- prize -/
theorem k_X6_prize (l : Launch) (E : rg_Env) (B : Nat) (M : rg_Mem) (hI : rg_CI M) : Met l yX6_prize (rg_w yX6_prize cX6_prize 4 (some (FieldType.int))) ({ frames := 2, cells := 0, slots := 0, locals := 44 } : Room) (va_Pc [.ref (B + 0)] (rg_Pre E B 422 rg_R0 M)) (rg_Ri E B 422 rg_R0 (rg_pl M (rg_nl M)) (fun r => r = rg_gr ((rg_pl M (rg_nl M)).1 95) ((rg_pl M (rg_nl M)).1 96) 6)) 0 0 (rg_A B) := by
  refine rg_ofW (by decide +kernel) rfl (Nat.le_of_ble_eq_true rfl) ?_
  intro p e s m args below meth c ls C0 hH hl hr hlocks hnm
  replace hl : lv_has ls 4 [(0, .ref (B + 0))] := hl
  have hx := C0.1.1
  have hb := C0.1.2.1
  generalize hH9 : s.heap = H at hH ⊢
  generalize hL9 : ([] : List Loc) = locs at hH ⊢
  clear hH9 hL9
  refine lv_aload_n hx hb dX6_prize_0 rfl (lv_at hl 0 rfl) ?_
  refine rg_gR C0 hH (o2 := 94) (ci := 6) (k := 8) (o := 0) rfl rfl inT_X6 (by decide) tw_f_X6_45 (by decide) rfl (by decide) rfl dX6_prize_1 ?_
  refine rg_callRv C0 hH (As := []) (rest := []) (o := 94) (ci := 0) (k_X0_reset l E B M) (rg_cw 0 C0.1.2.2.2.2 tw_m_X6_252 tw_i_X0_reset tw_v_X0_reset tw_n_X0 tw_c_X0_reset rfl rfl hd_X0_reset ⟨Nat.le_of_ble_eq_true rfl, Nat.le_of_ble_eq_true rfl⟩) rfl (by decide) rfl (by decide) rfl hl.1 rfl (Nat.le_of_ble_eq_true rfl) dX6_prize_4 ⟨Nat.le_of_ble_eq_true rfl, Nat.le_of_ble_eq_true rfl⟩ (fun H locs e_4 hH => ?_)
  refine lv_iconst (v := 0) hx hb dX6_prize_7 (by decide) ?_
  refine lv_istore_n (lv' := [(1, .int (0)), (0, .ref (B + 0))]) hx hb dX6_prize_8 rfl hl (by decide) rfl (fun ls hl => ?_)
  have cut_9 : ∀ (fu i : Nat), i ≤ rg_nl M ∧ rg_nl M < i + fu → ∀  (H : Heap) (locs : List Loc) (ls : Array Slot), rg_H E B 422 rg_R0 (rg_pl M i) s H locs → lv_has ls 4 [(0, .ref (B + 0)), (1, .int (nI i))] → W p l e ({ frames := 2, cells := 0, slots := 0, locals := 44 } : Room) s m args below meth c H locs 0 0 (MQ below (rg_Ri E B 422 rg_R0 (rg_pl M (rg_nl M)) (fun r => r = rg_gr ((rg_pl M (rg_nl M)).1 95) ((rg_pl M (rg_nl M)).1 96) 6)) args s 0 0 (rg_A B)) (F0 m 9 ls []) := by
    intro fu
    induction fu with
    | zero =>
      intro i hm
      exact absurd hm (by omega)
    | succ fu ih =>
      intro i hm  H locs ls hH hl 
      refine lv_iload_n hx hb dX6_prize_9 rfl (lv_at hl 1 rfl) ?_
      refine lv_aload_n hx hb dX6_prize_10 rfl (lv_at hl 0 rfl) ?_
      refine rg_gR C0 hH (o2 := 6) (ci := 6) (k := 1) (o := 0) rfl rfl inT_X6 (by decide) tw_f_X6_19 (by decide) rfl (by decide) rfl dX6_prize_11 ?_
      refine rg_nI C0 hH (ci := 1) (k := 4) (o := 6) rfl inT_X1 (by decide) (by decide) (by decide) rfl (by decide) rfl dX6_prize_14 ?_
      refine rg_topi (y := nI (rg_nl M)) (by rw [(rg_pl_off i (by omega) (by omega)).1]; exact (rg_CI_l hI).1) ?_
      refine lv_icmp_ge (tgt := 70) hx hb dX6_prize_17 (by decide) (fun c_17 => ?_) (fun c_17 => ?_)
      · refine lv_aload_n hx hb dX6_prize_70 rfl (lv_at hl 0 rfl) ?_
        refine rg_gR C0 hH (o2 := 94) (ci := 6) (k := 8) (o := 0) rfl rfl inT_X6 (by decide) tw_f_X6_45 (by decide) rfl (by decide) rfl dX6_prize_71 ?_
        refine rg_callGi C0 hH (As := []) (rest := []) (o := 94) (ci := 0) (k_X0_greatest l E B (rg_pl M i)) (rg_cw 0 C0.1.2.2.2.2 tw_m_X6_261 tw_i_X0_greatest tw_v_X0_greatest tw_n_X0 tw_c_X0_greatest rfl rfl hd_X0_greatest ⟨Nat.le_of_ble_eq_true rfl, Nat.le_of_ble_eq_true rfl⟩) rfl (by decide) rfl (by decide) rfl hl.1 rfl (Nat.le_of_ble_eq_true rfl) dX6_prize_74 ⟨Nat.le_of_ble_eq_true rfl, Nat.le_of_ble_eq_true rfl⟩ (fun H locs hH => ?_)
        exact rg_retRi C0 hH hr hlocks (by rw [rg_lp_end hm.1 (by have := (rg_CI_l hI).2; omega) c_17]) (by rw [rg_lp_end hm.1 (by have := (rg_CI_l hI).2; omega) c_17]) dX6_prize_77
      · have hl36 := (rg_CI_l hI).2
        have hlt := rg_lp_lt hm.1 (by omega) c_17
        refine lv_iconst (v := 0) hx hb dX6_prize_20 (by decide) ?_
        refine lv_istore_n (lv' := [(2, .int (0)), (0, .ref (B + 0)), (1, .int (nI i))]) hx hb dX6_prize_21 rfl hl (by decide) rfl (fun ls hl => ?_)
        have cut_22 : ∀ (fu2 i2 : Nat), i2 ≤ 4 ∧ 4 < i2 + fu2 → ∀  (H : Heap) (locs : List Loc) (ls : Array Slot), rg_H E B 422 rg_R0 (rg_pj M i i2 (rg_pl M i)) s H locs → lv_has ls 4 [(0, .ref (B + 0)), (1, .int (nI i)), (2, .int (nI i2))] → W p l e ({ frames := 2, cells := 0, slots := 0, locals := 44 } : Room) s m args below meth c H locs 0 0 (MQ below (rg_Ri E B 422 rg_R0 (rg_pl M (rg_nl M)) (fun r => r = rg_gr ((rg_pl M (rg_nl M)).1 95) ((rg_pl M (rg_nl M)).1 96) 6)) args s 0 0 (rg_A B)) (F0 m 22 ls []) := by
          intro fu2
          induction fu2 with
          | zero =>
            intro i2 hm2
            exact absurd hm2 (by omega)
          | succ fu2 ih2 =>
            intro i2 hm2  H locs ls hH hl 
            refine lv_iload_n hx hb dX6_prize_22 rfl (lv_at hl 2 rfl) ?_
            refine lv_iconst (v := 4) hx hb dX6_prize_23 (by decide) ?_
            refine lv_icmp_ge (tgt := 64) hx hb dX6_prize_24 (by decide) (fun c_24 => ?_) (fun c_24 => ?_)
            · have q2 := rg_lp_end (n := 4) hm2.1 (by omega) c_24
              subst q2
              refine lv_iinc (v := nI (i + 1)) (lv' := [(1, .int (nI (i + 1))), (0, .ref (B + 0)), (2, .int (nI 4))]) hx hb dX6_prize_64 hl (k := 1) rfl (nI_1 _) (by decide) rfl (fun ls hl => ?_)
              refine lv_goto (tgt := 9) hx hb dX6_prize_67 (by decide) ?_
              exact ih (i + 1) (by omega) _ _ _ (rg_H_eq (by rfl) hH) (lv_sub hl [1, 0] rfl)
            · have hlt2 := rg_lp_lt (n := 4) hm2.1 (by omega) c_24
              have hI2 : rg_CI (rg_pj M i i2 (rg_pl M i)) := (rg_CI_mean hI (fun c h1 h2 => ⟨(rg_pj_off i2 h1 h2).1.trans (rg_pl_off i h1 h2).1, (rg_pj_off i2 h1 h2).2.trans (rg_pl_off i h1 h2).2⟩))
              have gl : (rg_pj M i i2 (rg_pl M i)).1 6 4 = nI (rg_nl M) := by rw [((rg_pj_off i2 (c := 6) (by omega) (by omega)).1.trans (rg_pl_off i (by omega) (by omega)).1)]; exact (rg_CI_l hI).1
              obtain ⟨q, hq, hq2⟩ := rg_CI_m hI i hlt
              have hq6 : q < 6 := by have := (rg_CI_p hI).2; omega
              refine lv_aload_n hx hb dX6_prize_27 rfl (lv_at hl 0 rfl) ?_
              refine rg_gR C0 hH (o2 := 6) (ci := 6) (k := 1) (o := 0) rfl rfl inT_X6 (by decide) tw_f_X6_19 (by decide) rfl (by decide) rfl dX6_prize_28 ?_
              refine lv_iload_n hx hb dX6_prize_31 rfl (lv_at hl 2 rfl) ?_
              refine lv_iload_n hx hb dX6_prize_32 rfl (lv_at hl 1 rfl) ?_
              refine rg_callGi C0 hH (As := [.int (nI i2), .int (nI i)]) (rest := []) (o := 6) (ci := 1) (k_X1_pointsOf l E B (rg_pj M i i2 (rg_pl M i)) (nI i2) (nI i) (by exact rg_CI_mn hI2)) (rg_cw 2 C0.1.2.2.2.2 tw_m_X6_255 tw_i_X1_pointsOf tw_v_X1_pointsOf tw_n_X1 tw_c_X1_pointsOf rfl rfl hd_X1_pointsOf ⟨Nat.le_of_ble_eq_true rfl, Nat.le_of_ble_eq_true rfl⟩) rfl (by decide) rfl (by decide) rfl hl.1 rfl (Nat.le_of_ble_eq_true rfl) dX6_prize_33 ⟨Nat.le_of_ble_eq_true rfl, Nat.le_of_ble_eq_true rfl⟩ (fun H locs hH => ?_)
              refine rg_topi (y := M.1 (13 + i2) i) (by rw [if_pos ⟨nI_pos (by omega), nI_ge (b := 4) hlt2 (by omega), rg_hl_k gl (rg_CI_l hI).2 hlt⟩, nI_clamp (by omega), nI_clamp (by omega), ((rg_pj_off i2 (c := 13 + i2) (by omega) (by omega)).1.trans (rg_pl_off i (by omega) (by omega)).1)]) ?_
              refine lv_istore_n (lv' := [(3, .int (M.1 (13 + i2) i)), (0, .ref (B + 0)), (1, .int (nI i)), (2, .int (nI i2))]) hx hb dX6_prize_36 rfl hl (by decide) rfl (fun ls hl => ?_)
              refine lv_iload_n hx hb dX6_prize_37 rfl (lv_at hl 0 rfl) ?_
              refine lv_iconst (v := (-1)) hx hb dX6_prize_38 (by decide) ?_
              refine lv_icmp_eq (tgt := 58) hx hb dX6_prize_39 (by decide) (fun c_39 => ?_) (fun c_39 => ?_)
              · refine lv_iinc (v := nI (i2 + 1)) (lv' := [(2, .int (nI (i2 + 1))), (3, .int (M.1 (13 + i2) i)), (0, .ref (B + 0)), (1, .int (nI i))]) hx hb dX6_prize_58 hl (k := 3) rfl (nI_1 _) (by decide) rfl (fun ls hl => ?_)
                refine lv_goto (tgt := 22) hx hb dX6_prize_61 (by decide) ?_
                exact ih2 (i2 + 1) (by omega) _ _ _ (rg_H_eq (by rw [rg_pj, if_pos c_39]) hH) (lv_sub hl [2, 3, 0] rfl)
              · refine lv_aload_n hx hb dX6_prize_42 rfl (lv_at hl 1 rfl) ?_
                refine rg_gR C0 hH (o2 := 94) (ci := 6) (k := 8) (o := 0) rfl rfl inT_X6 (by decide) tw_f_X6_45 (by decide) rfl (by decide) rfl dX6_prize_43 ?_
                refine lv_aload_n hx hb dX6_prize_46 rfl (lv_at hl 1 rfl) ?_
                refine rg_gR C0 hH (o2 := 6) (ci := 6) (k := 1) (o := 0) rfl rfl inT_X6 (by decide) tw_f_X6_19 (by decide) rfl (by decide) rfl dX6_prize_47 ?_
                refine lv_iload_n hx hb dX6_prize_50 rfl (lv_at hl 2 rfl) ?_
                refine rg_callGi C0 hH (As := [.int (nI i)]) (rest := [.ref (B + 94)]) (o := 6) (ci := 1) (k_X1_makerAt l E B ((rg_pj M i i2 (rg_pl M i))) (nI i) (by exact rg_CI_mn hI2)) (rg_cw 1 C0.1.2.2.2.2 tw_m_X6_227 tw_i_X1_makerAt tw_v_X1_makerAt tw_n_X1 tw_c_X1_makerAt rfl rfl hd_X1_makerAt ⟨Nat.le_of_ble_eq_true rfl, Nat.le_of_ble_eq_true rfl⟩) rfl (by decide) rfl (by decide) rfl hl.1 rfl (Nat.le_of_ble_eq_true rfl) dX6_prize_51 ⟨Nat.le_of_ble_eq_true rfl, Nat.le_of_ble_eq_true rfl⟩ (fun H locs hH => ?_)
                refine rg_topi (y := nI q) (by rw [rg_atk gl (rg_CI_l hI).2 hlt ((rg_pj M i i2 (rg_pl M i)).1 9) (-1), ((rg_pj_off i2 (c := 9) (by omega) (by omega)).1.trans (rg_pl_off i (by omega) (by omega)).1)]; exact hq2) ?_
                refine lv_iload_n hx hb dX6_prize_54 rfl (lv_at hl 0 rfl) ?_
                refine rg_callRv C0 hH (As := [.int (nI q), .int (M.1 (13 + i2) i)]) (rest := []) (o := 94) (ci := 0) (k_X0_enter l E B (((rg_pj M i i2 (rg_pl M i)))) q (M.1 (13 + i2) i) (by exact hq6)) (rg_cw 2 C0.1.2.2.2.2 tw_m_X6_258 tw_i_X0_enter tw_v_X0_enter tw_n_X0 tw_c_X0_enter rfl rfl hd_X0_enter ⟨Nat.le_of_ble_eq_true rfl, Nat.le_of_ble_eq_true rfl⟩) rfl (by decide) rfl (by decide) rfl hl.1 rfl (Nat.le_of_ble_eq_true rfl) dX6_prize_55 ⟨Nat.le_of_ble_eq_true rfl, Nat.le_of_ble_eq_true rfl⟩ (fun H locs e_55 hH => ?_)
                refine lv_iinc (v := nI (i2 + 1)) (lv' := [(2, .int (nI (i2 + 1))), (3, .int (M.1 (13 + i2) i)), (0, .ref (B + 0)), (1, .int (nI i))]) hx hb dX6_prize_58 hl (k := 3) rfl (nI_1 _) (by decide) rfl (fun ls hl => ?_)
                refine lv_goto (tgt := 22) hx hb dX6_prize_61 (by decide) ?_
                exact ih2 (i2 + 1) (by omega) _ _ _ (rg_H_eq (by rw [rg_pj, if_neg c_39, hq2, nI_clamp (by omega)]; rfl) hH) (lv_sub hl [2, 3, 0] rfl)
        exact cut_22 5 0 (by omega) _ _ _ (rg_H_eq (by rfl) hH) (lv_sub hl [1, 2, 0] rfl)
  exact cut_9 (rg_nl M + 1) 0 (by omega) _ _ _ (rg_H_eq (by rfl) hH) (lv_sub hl [1, 0] rfl)

set_option maxHeartbeats 4000000 in
set_option maxRecDepth 100000 in
/-- hand -/
theorem k_X6_hand (l : Launch) (hst : l.stackTraces = false) (E : rg_Env) (B : Nat) (M : rg_Mem) (x : Int32) (hI : rg_CI M) : vx_Met l yX6_hand (rg_w yX6_hand cX6_hand 3 (some (FieldType.int))) ({ frames := 7, cells := 1, slots := 6, locals := 111 } : Room) (va_Pc [.ref (B + 0), .int (x)] (rg_Pre E B 422 rg_R0 M)) (rg_Ri E B 422 rg_R0 (rg_hd M x.toNatClampNeg (rg_nl M)) (fun r => rg_hl M x ∧ r = rg_gr ((rg_hd M x.toNatClampNeg (rg_nl M)).1 95) ((rg_hd M x.toNatClampNeg (rg_nl M)).1 96) 6)) (rg_X E B 422 rg_R0 M (fun X => ¬ rg_hl M x ∧ X = "java/lang/IndexOutOfBoundsException")) 1 6 (rg_A B) := by
  refine rg_xofW (by decide +kernel) rfl (Nat.le_of_ble_eq_true rfl) ?_
  intro p e s m args below meth c ls hne C0 hH hl hr hlocks
  replace hl : lv_has ls 3 [(0, .ref (B + 0)), (1, .int (x))] := hl
  have hx := C0.1.1
  have hb := C0.1.2.1
  generalize hH9 : s.heap = H at hH ⊢
  generalize hL9 : ([] : List Loc) = locs at hH ⊢
  clear hH9 hL9
  refine lv_aload_n hx hb dX6_hand_0 rfl (lv_at hl 0 rfl) ?_
  refine lv_iload_n hx hb dX6_hand_1 rfl (lv_at hl 1 rfl) ?_
  refine rg_xcallRv C0 hH (As := [.int (x)]) (rest := []) (o := 0) (ci := 6) hne hlocks (fun X hX => by exact hX) (k_X6_needLink l hst E B M x) (rg_cw 1 C0.1.2.2.2.2 tw_m_X6_179 tw_i_X6_needLink tw_v_X6_needLink tw_n_X6 tw_c_X6_needLink rfl rfl hd_X6_needLink ⟨Nat.le_of_ble_eq_true rfl, Nat.le_of_ble_eq_true rfl⟩) rfl (by decide) rfl (by decide) rfl hl.1 rfl (Nat.le_of_ble_eq_true rfl) dX6_hand_2 ⟨Nat.le_of_ble_eq_true rfl, Nat.le_of_ble_eq_true rfl⟩ ⟨Nat.le_of_ble_eq_true rfl, Nat.le_of_ble_eq_true rfl⟩ (fun H locs e_2 hH => ?_)
  obtain ⟨a, ha, rfl⟩ := vp_in_of (rg_hl_in (rg_CI_mn hI) e_2) (by omega)
  have ha2 : a < rg_nl M := by have h8 := rg_hl_lt hI e_2; rw [nI_clamp (by omega)] at h8; exact h8
  rw [nI_clamp (show a < 2 ^ 31 by omega)]
  refine lv_aload_n hx hb dX6_hand_5 rfl (lv_at hl 0 rfl) ?_
  refine rg_gR C0 hH (o2 := 94) (ci := 6) (k := 8) (o := 0) rfl rfl inT_X6 (by decide) tw_f_X6_45 (by decide) rfl (by decide) rfl dX6_hand_6 ?_
  refine rg_callRv C0 hH (As := []) (rest := []) (o := 94) (ci := 0) (k_X0_reset l E B M) (rg_cw 0 C0.1.2.2.2.2 tw_m_X6_252 tw_i_X0_reset tw_v_X0_reset tw_n_X0 tw_c_X0_reset rfl rfl hd_X0_reset ⟨Nat.le_of_ble_eq_true rfl, Nat.le_of_ble_eq_true rfl⟩) rfl (by decide) rfl (by decide) rfl hl.1 rfl (Nat.le_of_ble_eq_true rfl) dX6_hand_9 ⟨Nat.le_of_ble_eq_true rfl, Nat.le_of_ble_eq_true rfl⟩ (fun H locs e_9 hH => ?_)
  refine lv_iconst (v := 0) hx hb dX6_hand_12 (by decide) ?_
  refine lv_istore_n (lv' := [(2, .int (0)), (0, .ref (B + 0)), (1, .int (nI a))]) hx hb dX6_hand_13 rfl hl (by decide) rfl (fun ls hl => ?_)
  have cut_14 : ∀ (fu i : Nat), i ≤ rg_nl M ∧ rg_nl M < i + fu → ∀  (H : Heap) (locs : List Loc) (ls : Array Slot), rg_H E B 422 rg_R0 (rg_hd M a i) s H locs → lv_has ls 3 [(0, .ref (B + 0)), (1, .int (nI a)), (2, .int (nI i))] → W p l e ({ frames := 7, cells := 1, slots := 6, locals := 111 } : Room) s m args below meth c H locs 1 6 (vx_MQ below (rg_Ri E B 422 rg_R0 (rg_hd M a (rg_nl M)) (fun r => rg_hl M (nI a) ∧ r = rg_gr ((rg_hd M a (rg_nl M)).1 95) ((rg_hd M a (rg_nl M)).1 96) 6)) (rg_X E B 422 rg_R0 M (fun X => ¬ rg_hl M (nI a) ∧ X = "java/lang/IndexOutOfBoundsException")) args s 1 6 (rg_A B)) (F0 m 14 ls []) := by
    intro fu
    induction fu with
    | zero =>
      intro i hm
      exact absurd hm (by omega)
    | succ fu ih =>
      intro i hm  H locs ls hH hl 
      refine lv_iload_n hx hb dX6_hand_14 rfl (lv_at hl 2 rfl) ?_
      refine lv_aload_n hx hb dX6_hand_15 rfl (lv_at hl 0 rfl) ?_
      refine rg_gR C0 hH (o2 := 6) (ci := 6) (k := 1) (o := 0) rfl rfl inT_X6 (by decide) tw_f_X6_19 (by decide) rfl (by decide) rfl dX6_hand_16 ?_
      refine rg_nI C0 hH (ci := 1) (k := 4) (o := 6) rfl inT_X1 (by decide) (by decide) (by decide) rfl (by decide) rfl dX6_hand_19 ?_
      refine rg_topi (y := nI (rg_nl M)) (by rw [(rg_hd_off i (c := 6) (by omega) (by omega)).1]; exact (rg_CI_l hI).1) ?_
      refine lv_icmp_ge (tgt := 69) hx hb dX6_hand_22 (by decide) (fun c_22 => ?_) (fun c_22 => ?_)
      · refine lv_aload_n hx hb dX6_hand_69 rfl (lv_at hl 0 rfl) ?_
        refine rg_gR C0 hH (o2 := 94) (ci := 6) (k := 8) (o := 0) rfl rfl inT_X6 (by decide) tw_f_X6_45 (by decide) rfl (by decide) rfl dX6_hand_70 ?_
        refine rg_callGi C0 hH (As := []) (rest := []) (o := 94) (ci := 0) (k_X0_greatest l E B (rg_hd M a i)) (rg_cw 0 C0.1.2.2.2.2 tw_m_X6_261 tw_i_X0_greatest tw_v_X0_greatest tw_n_X0 tw_c_X0_greatest rfl rfl hd_X0_greatest ⟨Nat.le_of_ble_eq_true rfl, Nat.le_of_ble_eq_true rfl⟩) rfl (by decide) rfl (by decide) rfl hl.1 rfl (Nat.le_of_ble_eq_true rfl) dX6_hand_73 ⟨Nat.le_of_ble_eq_true rfl, Nat.le_of_ble_eq_true rfl⟩ (fun H locs hH => ?_)
        refine vx_ret ?_
        refine W.widen (k := 1) (n := 6) (Nat.le_of_ble_eq_true rfl) (Nat.le_of_ble_eq_true rfl) ?_
        exact rg_retRi C0 hH hr hlocks (by rw [rg_lp_end hm.1 (by have := (rg_CI_l hI).2; omega) c_22]) (by exact ⟨e_2, by rw [rg_lp_end hm.1 (by have := (rg_CI_l hI).2; omega) c_22]⟩) dX6_hand_76
      · have hl36 := (rg_CI_l hI).2
        have hlt := rg_lp_lt hm.1 (by have := (rg_CI_l hI).2; omega) c_22
        have hI2 : rg_CI (rg_hd M a i) := rg_CI_mean hI (fun c h1 h2 => ⟨(rg_hd_off i h1 h2).1, (rg_hd_off i h1 h2).2⟩)
        have gl : (rg_hd M a i).1 6 4 = nI (rg_nl M) := by rw [(rg_hd_off i (c := 6) (by omega) (by omega)).1]; exact (rg_CI_l hI).1
        have gn : rg_nl (rg_hd M a i) = rg_nl M := by unfold rg_nl; rw [(rg_hd_off i (c := 6) (by omega) (by omega)).1]
        obtain ⟨q, hq, hq2⟩ := rg_CI_m hI i hlt
        have hq6 : q < 6 := by have := (rg_CI_p hI).2; omega
        refine lv_iload_n hx hb dX6_hand_25 rfl (lv_at hl 2 rfl) ?_
        refine lv_iload_n hx hb dX6_hand_26 rfl (lv_at hl 1 rfl) ?_
        refine lv_icmp_eq (tgt := 63) hx hb dX6_hand_27 (by decide) (fun c_27 => ?_) (fun c_27 => ?_)
        · refine lv_iinc (v := nI (i + 1)) (lv' := [(2, .int (nI (i + 1))), (0, .ref (B + 0)), (1, .int (nI a))]) hx hb dX6_hand_63 hl (k := 2) rfl (nI_1 _) (by decide) rfl (fun ls hl => ?_)
          refine lv_goto (tgt := 14) hx hb dX6_hand_66 (by decide) ?_
          exact ih (i + 1) (by omega) _ _ _ (rg_H_eq (by rw [rg_hd, if_pos (Or.inl ((nI_eq (by omega) (by omega)).mp c_27))]) hH) (lv_sub hl [1, 2, 0] rfl)
        · refine lv_aload_n hx hb dX6_hand_30 rfl (lv_at hl 0 rfl) ?_
          refine rg_gR C0 hH (o2 := 6) (ci := 6) (k := 1) (o := 0) rfl rfl inT_X6 (by decide) tw_f_X6_19 (by decide) rfl (by decide) rfl dX6_hand_31 ?_
          refine rg_nR C0 hH (o2 := 10) (ci := 1) (k := 8) (o := 6) rfl rfl inT_X1 (by decide) (by decide) (by decide) rfl (by decide) rfl dX6_hand_34 ?_
          refine lv_iload_n hx hb dX6_hand_37 rfl (lv_at hl 2 rfl) ?_
          refine rg_zaldN C0 hH (o := 10) (j := i) (n0 := 36) (by decide) rfl rfl (by omega) dX6_hand_38 ?_
          refine rg_topi (y := M.1 10 i) (by rw [(rg_hd_off i (c := 10) (by omega) (by omega)).1]) ?_
          refine lv_if_ne (tgt := 63) hx hb dX6_hand_39 (by decide) (fun c_39 => ?_) (fun c_39 => ?_)
          · refine lv_iinc (v := nI (i + 1)) (lv' := [(2, .int (nI (i + 1))), (0, .ref (B + 0)), (1, .int (nI a))]) hx hb dX6_hand_63 hl (k := 2) rfl (nI_1 _) (by decide) rfl (fun ls hl => ?_)
            refine lv_goto (tgt := 14) hx hb dX6_hand_66 (by decide) ?_
            exact ih (i + 1) (by omega) _ _ _ (rg_H_eq (by rw [rg_hd, if_pos (Or.inr c_39)]) hH) (lv_sub hl [1, 2, 0] rfl)
          · refine lv_aload_n hx hb dX6_hand_42 rfl (lv_at hl 0 rfl) ?_
            refine rg_gR C0 hH (o2 := 94) (ci := 6) (k := 8) (o := 0) rfl rfl inT_X6 (by decide) tw_f_X6_45 (by decide) rfl (by decide) rfl dX6_hand_43 ?_
            refine lv_aload_n hx hb dX6_hand_46 rfl (lv_at hl 0 rfl) ?_
            refine rg_gR C0 hH (o2 := 6) (ci := 6) (k := 1) (o := 0) rfl rfl inT_X6 (by decide) tw_f_X6_19 (by decide) rfl (by decide) rfl dX6_hand_47 ?_
            refine lv_iload_n hx hb dX6_hand_50 rfl (lv_at hl 2 rfl) ?_
            refine rg_callGi C0 hH (As := [.int (nI i)]) (rest := [.ref (B + 94)]) (o := 6) (ci := 1) (k_X1_makerAt l E B (rg_hd M a i) (nI i) (by exact rg_CI_mn hI2)) (rg_cw 1 C0.1.2.2.2.2 tw_m_X6_227 tw_i_X1_makerAt tw_v_X1_makerAt tw_n_X1 tw_c_X1_makerAt rfl rfl hd_X1_makerAt ⟨Nat.le_of_ble_eq_true rfl, Nat.le_of_ble_eq_true rfl⟩) rfl (by decide) rfl (by decide) rfl hl.1 rfl (Nat.le_of_ble_eq_true rfl) dX6_hand_51 ⟨Nat.le_of_ble_eq_true rfl, Nat.le_of_ble_eq_true rfl⟩ (fun H locs hH => ?_)
            refine rg_topi (y := nI q) (by rw [rg_atk gl (rg_CI_l hI).2 hlt ((rg_hd M a i).1 9) (-1), (rg_hd_off i (c := 9) (by omega) (by omega)).1]; exact hq2) ?_
            refine lv_aload_n hx hb dX6_hand_54 rfl (lv_at hl 0 rfl) ?_
            refine lv_iload_n hx hb dX6_hand_55 rfl (lv_at hl 1 rfl) ?_
            refine lv_iload_n hx hb dX6_hand_56 rfl (lv_at hl 2 rfl) ?_
            refine rg_callGi C0 hH (As := [.int (nI a), .int (nI i)]) (rest := [.int (nI q), .ref (B + 94)]) (o := 0) (ci := 6) (k_X6_likeness l E B ((rg_hd M a i)) a i hI2 (by omega) (by omega)) (rg_cw 2 C0.1.2.2.2.2 tw_m_X6_268 tw_i_X6_likeness tw_v_X6_likeness tw_n_X6 tw_c_X6_likeness rfl rfl hd_X6_likeness ⟨Nat.le_of_ble_eq_true rfl, Nat.le_of_ble_eq_true rfl⟩) rfl (by decide) rfl (by decide) rfl hl.1 rfl (Nat.le_of_ble_eq_true rfl) dX6_hand_57 ⟨Nat.le_of_ble_eq_true rfl, Nat.le_of_ble_eq_true rfl⟩ (fun H locs hH => ?_)
            refine rg_topi (y := rg_lk M a i) (by unfold rg_lk; rw [(rg_hd_off i (c := 0) (by omega) (by omega)).2, (rg_hd_off i (by omega) (by omega)).1, (rg_hd_off i (by omega) (by omega)).1]) ?_
            refine rg_callRv C0 hH (As := [.int (nI q), .int (rg_lk M a i)]) (rest := []) (o := 94) (ci := 0) (k_X0_enter l E B (((rg_hd M a i))) q (rg_lk M a i) (by exact hq6)) (rg_cw 2 C0.1.2.2.2.2 tw_m_X6_258 tw_i_X0_enter tw_v_X0_enter tw_n_X0 tw_c_X0_enter rfl rfl hd_X0_enter ⟨Nat.le_of_ble_eq_true rfl, Nat.le_of_ble_eq_true rfl⟩) rfl (by decide) rfl (by decide) rfl hl.1 rfl (Nat.le_of_ble_eq_true rfl) dX6_hand_60 ⟨Nat.le_of_ble_eq_true rfl, Nat.le_of_ble_eq_true rfl⟩ (fun H locs e_60 hH => ?_)
            refine lv_iinc (v := nI (i + 1)) (lv' := [(2, .int (nI (i + 1))), (0, .ref (B + 0)), (1, .int (nI a))]) hx hb dX6_hand_63 hl (k := 2) rfl (nI_1 _) (by decide) rfl (fun ls hl => ?_)
            refine lv_goto (tgt := 14) hx hb dX6_hand_66 (by decide) ?_
            exact ih (i + 1) (by omega) _ _ _ (rg_H_eq (by rw [rg_hd, if_neg (fun z => z.elim (fun y => c_27 (by rw [y])) (fun y => y c_39)), hq2, nI_clamp (by omega)]; rfl) hH) (lv_sub hl [1, 2, 0] rfl)
  exact cut_14 (rg_nl M + 1) 0 (by omega) _ _ _ (rg_H_eq (by rfl) hH) (lv_sub hl [1, 2, 0] rfl)
