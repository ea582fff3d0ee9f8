set_option maxHeartbeats 4000000 in
set_option maxRecDepth 100000 in
/-- ofLink -/
theorem k_X7_ofLink (l : Launch) (E : rg_Env) (B : Nat) (M : rg_Mem) (x : Int32) (y : Int32) (hI : rm_CI M) : Met l yX7_ofLink (rg_w yX7_ofLink cX7_ofLink 3 (some (FieldType.int))) ({ frames := 2, cells := 0, slots := 0, locals := 46 } : Room) (va_Pc [.ref (B + 412), .int (x), .int (y)] (rg_Pre E B 433 rg_R0 M)) (rg_Wi E B 433 rg_R0 (fun r M1 => (¬ rm_go (rg_b (rm_il M x)) (rg_b (rm_in y 0 5)) 1 = 0 ∧ r = 0 ∧ M1 = rg_I M 412 33 (rm_go (rg_b (rm_il M x)) (rg_b (rm_in y 0 5)) 1)) ∨ (rm_go (rg_b (rm_il M x)) (rg_b (rm_in y 0 5)) 1 = 0 ∧ r = rm_ol M x.toNatClampNeg y ∧ M1 = (rg_I M 412 33 (rm_go (rg_b (rm_il M x)) (rg_b (rm_in y 0 5)) 1))))) 0 0 (rg_A B) := by
  refine rg_ofW (by decide +kernel) rfl (Nat.le_of_ble_eq_true rfl) ?_
  intro p e s m args below meth c ls C0 hH hl hr hlocks hnm
  replace hl : lv_has ls 3 [(0, .ref (B + 412)), (1, .int (x)), (2, .int (y))] := hl
  have hx := C0.1.1
  have hb := C0.1.2.1
  generalize hH9 : s.heap = H at hH ⊢
  generalize hL9 : ([] : List Loc) = locs at hH ⊢
  clear hH9 hL9
  refine lv_aload_n hx hb dX7_ofLink_0 rfl (lv_at hl 0 rfl) ?_
  refine lv_aload_n hx hb dX7_ofLink_1 rfl (lv_at hl 0 rfl) ?_
  refine lv_iload_n hx hb dX7_ofLink_2 rfl (lv_at hl 1 rfl) ?_
  refine rg_callGi C0 hH (As := [.int (x)]) (rest := [.ref (B + 412)]) (o := 412) (ci := 7) (k_X7_isLink l E B M x (by exact hI)) (rg_cw 1 C0.1.2.2.2.2 tw_m_X7_187 tw_i_X7_isLink tw_v_X7_isLink tw_n_X7 tw_c_X7_isLink rfl rfl hd_X7_isLink ⟨Nat.le_of_ble_eq_true rfl, Nat.le_of_ble_eq_true rfl⟩) rfl (by decide) rfl (by decide) rfl hl.1 rfl (Nat.le_of_ble_eq_true rfl) dX7_ofLink_3 ⟨Nat.le_of_ble_eq_true rfl, Nat.le_of_ble_eq_true rfl⟩ (fun H locs hH => ?_)
  refine lv_iload_n hx hb dX7_ofLink_6 rfl (lv_at hl 2 rfl) ?_
  refine lv_iconst (v := 0) hx hb dX7_ofLink_7 (by decide) ?_
  refine lv_iconst (v := 5) hx hb dX7_ofLink_8 (by decide) ?_
  refine rg_callSGi C0 hH (As := [.int (y), .int (0), .int (5)]) (rest := [.int (rg_b (rm_il M x)), .ref (B + 412)]) (k_X7_in l E B M y 0 5) (rg_cwS 3 C0.1.2.2.2.2 tw_m_X7_79 tw_s_X7_in tw_n_X7 tw_c_X7_in rfl rfl hd_X7_in ⟨Nat.le_of_ble_eq_true rfl, Nat.le_of_ble_eq_true rfl⟩) rfl hl.1 rfl (Nat.le_of_ble_eq_true rfl) dX7_ofLink_9 ⟨Nat.le_of_ble_eq_true rfl, Nat.le_of_ble_eq_true rfl⟩ (fun H locs hH => ?_)
  refine lv_iconst (v := 1) hx hb dX7_ofLink_12 (by decide) ?_
  refine rg_callGi C0 hH (As := [.int (rg_b (rm_il M x)), .int (rg_b (rm_in y 0 5)), .int (1)]) (rest := []) (o := 412) (ci := 7) (k_X7_goes l E B M (rg_b (rm_il M x)) (rg_b (rm_in y 0 5)) 1) (rg_cw 3 C0.1.2.2.2.2 tw_m_X7_92 tw_i_X7_goes tw_v_X7_goes tw_n_X7 tw_c_X7_goes rfl rfl hd_X7_goes ⟨Nat.le_of_ble_eq_true rfl, Nat.le_of_ble_eq_true rfl⟩) rfl (by decide) rfl (by decide) rfl hl.1 rfl (Nat.le_of_ble_eq_true rfl) dX7_ofLink_13 ⟨Nat.le_of_ble_eq_true rfl, Nat.le_of_ble_eq_true rfl⟩ (fun H locs hH => ?_)
  refine lv_if_ne (tgt := 21) hx hb dX7_ofLink_16 (by decide) (fun c_16 => ?_) (fun c_16 => ?_)
  · have hg := rm_go_inv (rg_b_ne.mp c_16)
    have hP := rg_b_ne.mp hg.1
    have hQ := rg_b_ne.mp hg.2.1
    obtain ⟨a, ha, ha36, hax⟩ := rm_il_in hI hP
    have hxn : x.toNatClampNeg = a := by rw [hax, nI_clamp (by omega)]
    replace hl : lv_has ls 3 [(0, .ref (B + 412)), (1, .int (nI a)), (2, .int (y))] := by rw [← hax]; exact hl
    refine lv_iload_n hx hb dX7_ofLink_21 rfl (lv_at hl 2 rfl) ?_
    obtain ⟨t, ht, hty⟩ := rm_j5 hQ
    refine rg_topi (y := nI t) (by exact hty) ?_
    rcases (show t = 0 ∨ t = 1 ∨ t = 2 ∨ t = 3 ∨ t = 4 ∨ t = 5 by omega) with rfl | rfl | rfl | rfl | rfl | rfl
    · refine lv_tableIn (off := 34) (tgt := 56) hx hb dX7_ofLink_22 (by decide) (by decide) rfl (by decide) ?_
      refine lv_aload_n hx hb dX7_ofLink_56 rfl (lv_at hl 0 rfl) ?_
      refine rg_gR C0 hH (o2 := 421) (ci := 7) (k := 16) (o := 412) rfl rfl inT_X7 (by decide) tw_f_X7_35 (by decide) rfl (by decide) rfl dX7_ofLink_57 ?_
      refine lv_iload_n hx hb dX7_ofLink_60 rfl (lv_at hl 1 rfl) ?_
      refine rg_zaldN C0 hH (o := 421) (j := a) (n0 := 36) (by decide) rfl rfl (by omega) dX7_ofLink_61 ?_
      refine rg_topi (y := M.1 421 a) (by exact rfl) ?_
      refine lv_if_eq (tgt := 69) hx hb dX7_ofLink_62 (by decide) (fun c_62 => ?_) (fun c_62 => ?_)
      · refine lv_aload_n hx hb dX7_ofLink_69 rfl (lv_at hl 0 rfl) ?_
        refine rg_gR C0 hH (o2 := 419) (ci := 7) (k := 14) (o := 412) rfl rfl inT_X7 (by decide) tw_f_X7_29 (by decide) rfl (by decide) rfl dX7_ofLink_70 ?_
        refine lv_iload_n hx hb dX7_ofLink_73 rfl (lv_at hl 1 rfl) ?_
        refine rg_ialdN C0 hH (o := 419) (j := a) (n0 := 36) (by decide) rfl rfl (by omega) dX7_ofLink_74 ?_
        refine rg_topi (y := M.1 419 a) (by exact rfl) ?_
        exact rg_retWi C0 hH hr hlocks (by exact Or.inr ⟨rg_b_ne.mp c_16, by rw [hxn, hty]; rw [rm_ol, if_pos (show nI 0 = 0 from rfl), if_pos c_62], rfl⟩) dX7_ofLink_75
      · refine lv_iconst (v := (-1)) hx hb dX7_ofLink_65 (by decide) ?_
        refine lv_goto (tgt := 75) hx hb dX7_ofLink_66 (by decide) ?_
        exact rg_retWi C0 hH hr hlocks (by exact Or.inr ⟨rg_b_ne.mp c_16, by rw [hxn, hty]; rw [rm_ol, if_pos (show nI 0 = 0 from rfl), if_neg c_62], rfl⟩) dX7_ofLink_75
    · refine lv_tableIn (off := 54) (tgt := 76) hx hb dX7_ofLink_22 (by decide) (by decide) rfl (by decide) ?_
      refine lv_aload_n hx hb dX7_ofLink_76 rfl (lv_at hl 0 rfl) ?_
      refine lv_iload_n hx hb dX7_ofLink_77 rfl (lv_at hl 1 rfl) ?_
      refine rg_callGi C0 hH (As := [.int (nI a)]) (rest := []) (o := 412) (ci := 7) (k_X7_seasonOf l E B (rg_I M 412 33 (rm_go (rg_b (rm_il M x)) (rg_b (rm_in y 0 5)) 1)) a (rm_CI_eq hI (rm_eq_f (by omega))) (by rw [rm_nl_e (rm_eq_f (by omega))]; exact ha)) (rg_cw 1 C0.1.2.2.2.2 tw_m_X7_129 tw_i_X7_seasonOf tw_v_X7_seasonOf tw_n_X7 tw_c_X7_seasonOf rfl rfl hd_X7_seasonOf ⟨Nat.le_of_ble_eq_true rfl, Nat.le_of_ble_eq_true rfl⟩) rfl (by decide) rfl (by decide) rfl hl.1 rfl (Nat.le_of_ble_eq_true rfl) dX7_ofLink_78 ⟨Nat.le_of_ble_eq_true rfl, Nat.le_of_ble_eq_true rfl⟩ (fun H locs hH => ?_)
      refine rg_topi (y := rm_son M a) (by rw [rm_son_e (rm_eq_f (by omega))]) ?_
      exact rg_retWi C0 hH hr hlocks (by exact Or.inr ⟨rg_b_ne.mp c_16, by rw [hxn, hty]; rfl, rfl⟩) dX7_ofLink_81
    · refine lv_tableIn (off := 60) (tgt := 82) hx hb dX7_ofLink_22 (by decide) (by decide) rfl (by decide) ?_
      refine lv_aload_n hx hb dX7_ofLink_82 rfl (lv_at hl 0 rfl) ?_
      refine lv_iload_n hx hb dX7_ofLink_83 rfl (lv_at hl 1 rfl) ?_
      refine rg_callGi C0 hH (As := [.int (nI a)]) (rest := []) (o := 412) (ci := 7) (k_X7_signsOf l E B (rg_I M 412 33 (rm_go (rg_b (rm_il M x)) (rg_b (rm_in y 0 5)) 1)) a (rm_CI_eq hI (rm_eq_f (by omega))) (by rw [rm_nl_e (rm_eq_f (by omega))]; exact ha)) (rg_cw 1 C0.1.2.2.2.2 tw_m_X7_143 tw_i_X7_signsOf tw_v_X7_signsOf tw_n_X7 tw_c_X7_signsOf rfl rfl hd_X7_signsOf ⟨Nat.le_of_ble_eq_true rfl, Nat.le_of_ble_eq_true rfl⟩) rfl (by decide) rfl (by decide) rfl hl.1 rfl (Nat.le_of_ble_eq_true rfl) dX7_ofLink_84 ⟨Nat.le_of_ble_eq_true rfl, Nat.le_of_ble_eq_true rfl⟩ (fun H locs hH => ?_)
      refine rg_topi (y := rm_sgn M a) (by rw [rm_sgn_e (rm_eq_f (by omega))]) ?_
      exact rg_retWi C0 hH hr hlocks (by exact Or.inr ⟨rg_b_ne.mp c_16, by rw [hxn, hty]; rfl, rfl⟩) dX7_ofLink_87
    · refine lv_tableIn (off := 66) (tgt := 88) hx hb dX7_ofLink_22 (by decide) (by decide) rfl (by decide) ?_
      refine lv_aload_n hx hb dX7_ofLink_88 rfl (lv_at hl 0 rfl) ?_
      refine rg_gR C0 hH (o2 := 418) (ci := 7) (k := 13) (o := 412) rfl rfl inT_X7 (by decide) tw_f_X7_26 (by decide) rfl (by decide) rfl dX7_ofLink_89 ?_
      refine lv_iload_n hx hb dX7_ofLink_92 rfl (lv_at hl 1 rfl) ?_
      refine rg_ialdN C0 hH (o := 418) (j := a) (n0 := 36) (by decide) rfl rfl (by omega) dX7_ofLink_93 ?_
      refine rg_topi (y := M.1 418 a) (by exact rfl) ?_
      exact rg_retWi C0 hH hr hlocks (by exact Or.inr ⟨rg_b_ne.mp c_16, by rw [hxn, hty]; rfl, rfl⟩) dX7_ofLink_94
    · refine lv_tableIn (off := 73) (tgt := 95) hx hb dX7_ofLink_22 (by decide) (by decide) rfl (by decide) ?_
      refine lv_aload_n hx hb dX7_ofLink_95 rfl (lv_at hl 0 rfl) ?_
      refine lv_iload_n hx hb dX7_ofLink_96 rfl (lv_at hl 1 rfl) ?_
      refine rg_callGi C0 hH (As := [.int (nI a)]) (rest := []) (o := 412) (ci := 7) (k_X7_runAt l E B (rg_I M 412 33 (rm_go (rg_b (rm_il M x)) (rg_b (rm_in y 0 5)) 1)) a (rm_CI_eq hI (rm_eq_f (by omega))) (by rw [rm_nl_e (rm_eq_f (by omega))]; exact ha)) (rg_cw 1 C0.1.2.2.2.2 tw_m_X7_146 tw_i_X7_runAt tw_v_X7_runAt tw_n_X7 tw_c_X7_runAt rfl rfl hd_X7_runAt ⟨Nat.le_of_ble_eq_true rfl, Nat.le_of_ble_eq_true rfl⟩) rfl (by decide) rfl (by decide) rfl hl.1 rfl (Nat.le_of_ble_eq_true rfl) dX7_ofLink_97 ⟨Nat.le_of_ble_eq_true rfl, Nat.le_of_ble_eq_true rfl⟩ (fun H locs hH => ?_)
      refine rg_topi (y := rm_rn M a) (by rw [rm_rn_e (rm_eq_f (by omega))]) ?_
      exact rg_retWi C0 hH hr hlocks (by exact Or.inr ⟨rg_b_ne.mp c_16, by rw [hxn, hty]; rfl, rfl⟩) dX7_ofLink_100
    · refine lv_tableOut (tgt := 101) hx hb dX7_ofLink_22 (Or.inr (by decide)) (by decide) ?_
      refine lv_aload_n hx hb dX7_ofLink_101 rfl (lv_at hl 0 rfl) ?_
      refine rg_gR C0 hH (o2 := 422) (ci := 7) (k := 17) (o := 412) rfl rfl inT_X7 (by decide) tw_f_X7_39 (by decide) rfl (by decide) rfl dX7_ofLink_102 ?_
      refine lv_iload_n hx hb dX7_ofLink_105 rfl (lv_at hl 1 rfl) ?_
      refine rg_zaldN C0 hH (o := 422) (j := a) (n0 := 36) (by decide) rfl rfl (by omega) dX7_ofLink_106 ?_
      refine rg_topi (y := M.1 422 a) (by exact rfl) ?_
      refine lv_if_eq (tgt := 114) hx hb dX7_ofLink_107 (by decide) (fun c_107 => ?_) (fun c_107 => ?_)
      · refine lv_iconst (v := 0) hx hb dX7_ofLink_114 (by decide) ?_
        exact rg_retWi C0 hH hr hlocks (by exact Or.inr ⟨rg_b_ne.mp c_16, by rw [hxn, hty]; show _ = (if M.1 422 a = 0 then 0 else 1); rw [if_pos c_107], rfl⟩) dX7_ofLink_115
      · refine lv_iconst (v := 1) hx hb dX7_ofLink_110 (by decide) ?_
        refine lv_goto (tgt := 115) hx hb dX7_ofLink_111 (by decide) ?_
        exact rg_retWi C0 hH hr hlocks (by exact Or.inr ⟨rg_b_ne.mp c_16, by rw [hxn, hty]; show _ = (if M.1 422 a = 0 then 0 else 1); rw [if_neg c_107], rfl⟩) dX7_ofLink_115
  · refine lv_iconst (v := 0) hx hb dX7_ofLink_19 (by decide) ?_
    exact rg_retWi C0 hH hr hlocks (by exact Or.inl ⟨rg_b_eq.mp c_16, rfl, rfl⟩) dX7_ofLink_20

set_option maxHeartbeats 4000000 in
set_option maxRecDepth 100000 in
/-- wordAt -/
theorem k_X7_wordAt (l : Launch) (E : rg_Env) (B : Nat) (M : rg_Mem) (x : Int32) (y : Int32) (hI : rm_CI M) : Met l yX7_wordAt (rg_w yX7_wordAt cX7_wordAt 4 (some (FieldType.int))) ({ frames := 2, cells := 0, slots := 0, locals := 43 } : Room) (va_Pc [.ref (B + 412), .int (x), .int (y)] (rg_Pre E B 433 rg_R0 M)) (rg_Wi E B 433 rg_R0 (fun r M1 => (¬ rm_go (rg_b (rm_il M x ∧ rm_in y 0 ((M.1 418 x.toNatClampNeg) - 1))) 1 1 = 0 ∧ r = 0 ∧ M1 = rg_I M 412 33 (rm_go (rg_b (rm_il M x ∧ rm_in y 0 ((M.1 418 x.toNatClampNeg) - 1))) 1 1)) ∨ (rm_go (rg_b (rm_il M x ∧ rm_in y 0 ((M.1 418 x.toNatClampNeg) - 1))) 1 1 = 0 ∧ r = M.1 417 (6 * x.toNatClampNeg + y.toNatClampNeg) ∧ M1 = (rg_I M 412 33 (rm_go (rg_b (rm_il M x ∧ rm_in y 0 ((M.1 418 x.toNatClampNeg) - 1))) 1 1))))) 0 0 (rg_A B) := by
  refine rg_ofW (by decide +kernel) rfl (Nat.le_of_ble_eq_true rfl) ?_
  intro p e s m args below meth c ls C0 hH hl hr hlocks hnm
  replace hl : lv_has ls 4 [(0, .ref (B + 412)), (1, .int (x)), (2, .int (y))] := hl
  have hx := C0.1.1
  have hb := C0.1.2.1
  generalize hH9 : s.heap = H at hH ⊢
  generalize hL9 : ([] : List Loc) = locs at hH ⊢
  clear hH9 hL9
  have cut_41 : ∀  (H : Heap) (locs : List Loc) (ls : Array Slot), rg_H E B 433 rg_R0 M s H locs → lv_has ls 4 [(0, .ref (B + 412)), (1, .int (x)), (2, .int (y))] → W p l e ({ frames := 2, cells := 0, slots := 0, locals := 43 } : Room) s m args below meth c H locs 0 0 (MQ below (rg_Wi E B 433 rg_R0 (fun r M1 => (¬ rm_go (rg_b (rm_il M x ∧ rm_in y 0 ((M.1 418 x.toNatClampNeg) - 1))) 1 1 = 0 ∧ r = 0 ∧ M1 = rg_I M 412 33 (rm_go (rg_b (rm_il M x ∧ rm_in y 0 ((M.1 418 x.toNatClampNeg) - 1))) 1 1)) ∨ (rm_go (rg_b (rm_il M x ∧ rm_in y 0 ((M.1 418 x.toNatClampNeg) - 1))) 1 1 = 0 ∧ r = M.1 417 (6 * x.toNatClampNeg + y.toNatClampNeg) ∧ M1 = (rg_I M 412 33 (rm_go (rg_b (rm_il M x ∧ rm_in y 0 ((M.1 418 x.toNatClampNeg) - 1))) 1 1))))) args s 0 0 (rg_A B)) (F0 m 41 ls [.int (rg_b (rm_il M x ∧ rm_in y 0 ((M.1 418 x.toNatClampNeg) - 1)))]) := by
    intro  H locs ls hH hl 
    refine lv_istore_n (lv' := [(3, .int (rg_b (rm_il M x ∧ rm_in y 0 ((M.1 418 x.toNatClampNeg) - 1)))), (0, .ref (B + 412)), (1, .int (x)), (2, .int (y))]) hx hb dX7_wordAt_41 rfl hl (by decide) rfl (fun ls hl => ?_)
    refine lv_aload_n hx hb dX7_wordAt_42 rfl (lv_at hl 1 rfl) ?_
    refine lv_iload_n hx hb dX7_wordAt_43 rfl (lv_at hl 0 rfl) ?_
    refine lv_iconst (v := 1) hx hb dX7_wordAt_44 (by decide) ?_
    refine lv_iconst (v := 1) hx hb dX7_wordAt_45 (by decide) ?_
    refine rg_callGi C0 hH (As := [.int (rg_b (rm_il M x ∧ rm_in y 0 ((M.1 418 x.toNatClampNeg) - 1))), .int (1), .int (1)]) (rest := []) (o := 412) (ci := 7) (k_X7_goes l E B M (rg_b (rm_il M x ∧ rm_in y 0 ((M.1 418 x.toNatClampNeg) - 1))) 1 1) (rg_cw 3 C0.1.2.2.2.2 tw_m_X7_92 tw_i_X7_goes tw_v_X7_goes tw_n_X7 tw_c_X7_goes rfl rfl hd_X7_goes ⟨Nat.le_of_ble_eq_true rfl, Nat.le_of_ble_eq_true rfl⟩) rfl (by decide) rfl (by decide) rfl hl.1 rfl (Nat.le_of_ble_eq_true rfl) dX7_wordAt_46 ⟨Nat.le_of_ble_eq_true rfl, Nat.le_of_ble_eq_true rfl⟩ (fun H locs hH => ?_)
    refine lv_if_eq (tgt := 66) hx hb dX7_wordAt_49 (by decide) (fun c_49 => ?_) (fun c_49 => ?_)
    · refine lv_iconst (v := 0) hx hb dX7_wordAt_66 (by decide) ?_
      exact rg_retWi C0 hH hr hlocks (by exact Or.inl ⟨rg_b_eq.mp c_49, rfl, rfl⟩) dX7_wordAt_67
    · have hg := rm_go_inv (rg_b_ne.mp c_49)
      have hP := rg_b_ne.mp hg.1
      obtain ⟨a, ha, ha36, hax⟩ := rm_il_in hI hP.1
      have hxn : x.toNatClampNeg = a := by rw [hax, nI_clamp (by omega)]
      have hz := rm_CI_v hI a ha
      obtain ⟨b, hb9, hby⟩ := rm_in_le (by rw [hxn]; exact hz.1) (by omega) hP.2
      have hyn : y.toNatClampNeg = b := by rw [hby, nI_clamp (by omega)]
      refine lv_aload_n hx hb dX7_wordAt_52 rfl (lv_at hl 1 rfl) ?_
      refine rg_gR C0 hH (o2 := 417) (ci := 7) (k := 12) (o := 412) rfl rfl inT_X7 (by decide) tw_f_X7_23 (by decide) rfl (by decide) rfl dX7_wordAt_53 ?_
      refine lv_bipush (v := 6) hx hb dX7_wordAt_56 (by decide) ?_
      refine lv_iload_n hx hb dX7_wordAt_58 rfl (lv_at hl 2 rfl) ?_
      refine lv_imul hx hb dX7_wordAt_59 ?_
      refine lv_iload_n hx hb dX7_wordAt_60 rfl (lv_at hl 3 rfl) ?_
      refine lv_iadd hx hb dX7_wordAt_61 ?_
      refine rg_topi (y := nI (6 * x.toNatClampNeg + y.toNatClampNeg)) (by rw [hxn, hyn, hax, hby]; exact (congrArg (· + nI b) (rm_mul 6 a)).trans (nI_add _ _)) ?_
      refine rg_ialdN C0 hH (o := 417) (j := (6 * x.toNatClampNeg + y.toNatClampNeg)) (n0 := 216) (by decide) rfl rfl (by omega) dX7_wordAt_62 ?_
      refine lv_goto (tgt := 67) hx hb dX7_wordAt_63 (by decide) ?_
      exact rg_retWi C0 hH hr hlocks (by exact Or.inr ⟨rg_b_ne.mp c_49, rfl, rfl⟩) dX7_wordAt_67
  refine lv_aload_n hx hb dX7_wordAt_0 rfl (lv_at hl 0 rfl) ?_
  refine lv_iload_n hx hb dX7_wordAt_1 rfl (lv_at hl 1 rfl) ?_
  refine rg_callGi C0 hH (As := [.int (x)]) (rest := []) (o := 412) (ci := 7) (k_X7_isLink l E B M x (by exact hI)) (rg_cw 1 C0.1.2.2.2.2 tw_m_X7_187 tw_i_X7_isLink tw_v_X7_isLink tw_n_X7 tw_c_X7_isLink rfl rfl hd_X7_isLink ⟨Nat.le_of_ble_eq_true rfl, Nat.le_of_ble_eq_true rfl⟩) rfl (by decide) rfl (by decide) rfl hl.1 rfl (Nat.le_of_ble_eq_true rfl) dX7_wordAt_2 ⟨Nat.le_of_ble_eq_true rfl, Nat.le_of_ble_eq_true rfl⟩ (fun H locs hH => ?_)
  refine lv_if_eq (tgt := 40) hx hb dX7_wordAt_5 (by decide) (fun c_5 => ?_) (fun c_5 => ?_)
  · refine lv_iconst (v := 0) hx hb dX7_wordAt_40 (by decide) ?_
    refine rg_topi (y := rg_b (rm_il M x ∧ rm_in y 0 ((M.1 418 x.toNatClampNeg) - 1))) (by first | exact rg_b_f (fun q => rg_b_eq.mp c_5 q.1) | exact rg_b_f (fun q => rg_b_eq.mp c_33 q.2)) ?_
    exact cut_41 _ _ _ hH (lv_sub hl [0, 1, 2] rfl)
  · refine lv_iload_n hx hb dX7_wordAt_8 rfl (lv_at hl 2 rfl) ?_
    refine lv_iconst (v := 0) hx hb dX7_wordAt_9 (by decide) ?_
    refine lv_aload_n hx hb dX7_wordAt_10 rfl (lv_at hl 0 rfl) ?_
    refine rg_gR C0 hH (o2 := 418) (ci := 7) (k := 13) (o := 412) rfl rfl inT_X7 (by decide) tw_f_X7_26 (by decide) rfl (by decide) rfl dX7_wordAt_11 ?_
    refine lv_aload_n hx hb dX7_wordAt_14 rfl (lv_at hl 0 rfl) ?_
    refine lv_iload_n hx hb dX7_wordAt_15 rfl (lv_at hl 1 rfl) ?_
    refine rg_callGi C0 hH (As := [.int (x)]) (rest := [.ref (B + 418), .int (0), .int (y)]) (o := 412) (ci := 7) (k_X7_isLink l E B M x (by exact hI)) (rg_cw 1 C0.1.2.2.2.2 tw_m_X7_187 tw_i_X7_isLink tw_v_X7_isLink tw_n_X7 tw_c_X7_isLink rfl rfl hd_X7_isLink ⟨Nat.le_of_ble_eq_true rfl, Nat.le_of_ble_eq_true rfl⟩) rfl (by decide) rfl (by decide) rfl hl.1 rfl (Nat.le_of_ble_eq_true rfl) dX7_wordAt_16 ⟨Nat.le_of_ble_eq_true rfl, Nat.le_of_ble_eq_true rfl⟩ (fun H locs hH => ?_)
    refine lv_if_eq (tgt := 26) hx hb dX7_wordAt_19 (by decide) (fun c_19 => ?_) (fun c_19 => ?_)
    · exact absurd c_19 c_5
    · refine lv_iload_n hx hb dX7_wordAt_22 rfl (lv_at hl 1 rfl) ?_
      refine lv_goto (tgt := 27) hx hb dX7_wordAt_23 (by decide) ?_
      refine rg_iald C0 hH (o := 418) (by decide) rfl (rg_vin rfl (by exact rm_ilv hI (rg_b_ne.mp c_5))) dX7_wordAt_27 ?_
      refine lv_iconst (v := 1) hx hb dX7_wordAt_28 (by decide) ?_
      refine lv_isub hx hb dX7_wordAt_29 ?_
      refine rg_callSGi C0 hH (As := [.int (y), .int (0), .int ((M.1 418 x.toNatClampNeg) - 1)]) (rest := []) (k_X7_in l E B M y 0 ((M.1 418 x.toNatClampNeg) - 1)) (rg_cwS 3 C0.1.2.2.2.2 tw_m_X7_79 tw_s_X7_in tw_n_X7 tw_c_X7_in rfl rfl hd_X7_in ⟨Nat.le_of_ble_eq_true rfl, Nat.le_of_ble_eq_true rfl⟩) rfl hl.1 rfl (Nat.le_of_ble_eq_true rfl) dX7_wordAt_30 ⟨Nat.le_of_ble_eq_true rfl, Nat.le_of_ble_eq_true rfl⟩ (fun H locs hH => ?_)
      refine lv_if_eq (tgt := 40) hx hb dX7_wordAt_33 (by decide) (fun c_33 => ?_) (fun c_33 => ?_)
      · refine lv_iconst (v := 0) hx hb dX7_wordAt_40 (by decide) ?_
        refine rg_topi (y := rg_b (rm_il M x ∧ rm_in y 0 ((M.1 418 x.toNatClampNeg) - 1))) (by first | exact rg_b_f (fun q => rg_b_eq.mp c_5 q.1) | exact rg_b_f (fun q => rg_b_eq.mp c_33 q.2)) ?_
        exact cut_41 _ _ _ hH (lv_sub hl [0, 1, 2] rfl)
      · refine lv_iconst (v := 1) hx hb dX7_wordAt_36 (by decide) ?_
        refine lv_goto (tgt := 41) hx hb dX7_wordAt_37 (by decide) ?_
        refine rg_topi (y := rg_b (rm_il M x ∧ rm_in y 0 ((M.1 418 x.toNatClampNeg) - 1))) (by exact rg_b_t (⟨rg_b_ne.mp c_5, rg_b_ne.mp c_33⟩)) ?_
        exact cut_41 _ _ _ hH (lv_sub hl [0, 1, 2] rfl)

set_option maxHeartbeats 4000000 in
set_option maxRecDepth 100000 in
/-- likeness -/
theorem k_X7_likeness (l : Launch) (E : rg_Env) (B : Nat) (M : rg_Mem) (a : Nat) (b : Nat) (hI : rm_CI M) (ha9 : a < rm_nl M) (hb9 : b < rm_nl M) : Met l yX7_likeness (rg_w yX7_likeness cX7_likeness 7 (some (FieldType.int))) ({ frames := 1, cells := 0, slots := 0, locals := 23 } : Room) (va_Pc [.ref (B + 412), .int (nI a), .int (nI b)] (rg_Pre E B 433 rg_R0 M)) (rg_Ri E B 433 rg_R0 (M) (fun r => r = rm_lk M a b)) 0 0 (rg_A B) := by
  refine rg_ofW (by decide +kernel) rfl (Nat.le_of_ble_eq_true rfl) ?_
  intro p e s m args below meth c ls C0 hH hl hr hlocks hnm
  replace hl : lv_has ls 7 [(0, .ref (B + 412)), (1, .int (nI a)), (2, .int (nI b))] := hl
  have hx := C0.1.1
  have hb := C0.1.2.1
  generalize hH9 : s.heap = H at hH ⊢
  generalize hL9 : ([] : List Loc) = locs at hH ⊢
  clear hH9 hL9
  have hl36 := (rm_CI_l hI).2
  have hza := (rm_CI_v hI a ha9).2.1
  have hzb := (rm_CI_v hI b hb9).2.1
  refine lv_iconst (v := 0) hx hb dX7_likeness_0 (by decide) ?_
  refine lv_istore_n (lv' := [(3, .int (0)), (0, .ref (B + 412)), (1, .int (nI a)), (2, .int (nI b))]) hx hb dX7_likeness_1 rfl hl (by decide) rfl (fun ls hl => ?_)
  refine lv_aload_n hx hb dX7_likeness_2 rfl (lv_at hl 1 rfl) ?_
  refine lv_iload_n hx hb dX7_likeness_3 rfl (lv_at hl 2 rfl) ?_
  refine rg_callGi C0 hH (As := [.int (nI a)]) (rest := []) (o := 412) (ci := 7) (k_X7_signsOf l E B M a (by assumption) (by assumption)) (rg_cw 1 C0.1.2.2.2.2 tw_m_X7_143 tw_i_X7_signsOf tw_v_X7_signsOf tw_n_X7 tw_c_X7_signsOf rfl rfl hd_X7_signsOf ⟨Nat.le_of_ble_eq_true rfl, Nat.le_of_ble_eq_true rfl⟩) rfl (by decide) rfl (by decide) rfl hl.1 rfl (Nat.le_of_ble_eq_true rfl) dX7_likeness_4 ⟨Nat.le_of_ble_eq_true rfl, Nat.le_of_ble_eq_true rfl⟩ (fun H locs hH => ?_)
  refine lv_aload_n hx hb dX7_likeness_7 rfl (lv_at hl 1 rfl) ?_
  refine lv_iload_n hx hb dX7_likeness_8 rfl (lv_at hl 3 rfl) ?_
  refine rg_callGi C0 hH (As := [.int (nI b)]) (rest := [.int (rm_sgn M a)]) (o := 412) (ci := 7) (k_X7_signsOf l E B M b (by assumption) (by assumption)) (rg_cw 1 C0.1.2.2.2.2 tw_m_X7_143 tw_i_X7_signsOf tw_v_X7_signsOf tw_n_X7 tw_c_X7_signsOf rfl rfl hd_X7_signsOf ⟨Nat.le_of_ble_eq_true rfl, Nat.le_of_ble_eq_true rfl⟩) rfl (by decide) rfl (by decide) rfl hl.1 rfl (Nat.le_of_ble_eq_true rfl) dX7_likeness_9 ⟨Nat.le_of_ble_eq_true rfl, Nat.le_of_ble_eq_true rfl⟩ (fun H locs hH => ?_)
  refine lv_iand hx hb dX7_likeness_12 ?_
  refine lv_istore (lv' := [(4, .int ((rm_sgn M a) &&& (rm_sgn M b))), (3, .int (0)), (0, .ref (B + 412)), (1, .int (nI a)), (2, .int (nI b))]) hx hb dX7_likeness_13 hl (by decide) rfl (fun ls hl => ?_)
  refine lv_iconst (v := 0) hx hb dX7_likeness_15 (by decide) ?_
  refine lv_istore (lv' := [(5, .int (0)), (4, .int ((rm_sgn M a) &&& (rm_sgn M b))), (3, .int (0)), (0, .ref (B + 412)), (1, .int (nI a)), (2, .int (nI b))]) hx hb dX7_likeness_16 hl (by decide) rfl (fun ls hl => ?_)
  have cut_18 : ∀ (fu i : Nat), i ≤ 10 ∧ 10 < i + fu → ∀  (H : Heap) (locs : List Loc) (ls : Array Slot), rg_H E B 433 rg_R0 M s H locs → lv_has ls 7 [(0, .ref (B + 412)), (1, .int (nI a)), (2, .int (nI b)), (3, .int (rm_ls (rm_bs M a b) i)), (4, .int (rm_bs M a b)), (5, .int (nI i))] → W p l e ({ frames := 1, cells := 0, slots := 0, locals := 23 } : Room) s m args below meth c H locs 0 0 (MQ below (rg_Ri E B 433 rg_R0 (M) (fun r => r = rm_lk M a b)) args s 0 0 (rg_A B)) (F0 m 18 ls []) := by
    intro fu
    induction fu with
    | zero =>
      intro i hm
      exact absurd hm (by omega)
    | succ fu ih =>
      intro i hm  H locs ls hH hl 
      refine lv_iload hx hb dX7_likeness_18 (lv_at hl 5 rfl) ?_
      refine lv_bipush (v := 10) hx hb dX7_likeness_20 (by decide) ?_
      refine lv_icmp_ge (tgt := 41) hx hb dX7_likeness_22 (by decide) (fun c_22 => ?_) (fun c_22 => ?_)
      · replace hl : lv_has ls 7 [(0, .ref (B + 412)), (1, .int (nI a)), (2, .int (nI b)), (3, .int (rm_ls (rm_bs M a b) 10)), (4, .int (rm_bs M a b)), (5, .int (nI i))] := by rw [← rg_lp_end (n := 10) hm.1 (by omega) c_22]; exact hl
        refine lv_iconst (v := 0) hx hb dX7_likeness_41 (by decide) ?_
        refine lv_istore (lv' := [(5, .int (0)), (0, .ref (B + 412)), (1, .int (nI a)), (2, .int (nI b)), (3, .int (rm_ls (rm_bs M a b) 10)), (4, .int (rm_bs M a b))]) hx hb dX7_likeness_42 hl (by decide) rfl (fun ls hl => ?_)
        have cut_44 : ∀ (fu2 j : Nat), j ≤ rm_z M a ∧ rm_z M a < j + fu2 → ∀  (H : Heap) (locs : List Loc) (ls : Array Slot), rg_H E B 433 rg_R0 M s H locs → lv_has ls 7 [(0, .ref (B + 412)), (1, .int (nI a)), (2, .int (nI b)), (3, .int (rm_l1 M a b (rm_ls (rm_bs M a b) 10) j)), (5, .int (nI j))] → W p l e ({ frames := 1, cells := 0, slots := 0, locals := 23 } : Room) s m args below meth c H locs 0 0 (MQ below (rg_Ri E B 433 rg_R0 (M) (fun r => r = rm_lk M a b)) args s 0 0 (rg_A B)) (F0 m 44 ls []) := by
          intro fu2
          induction fu2 with
          | zero =>
            intro j hm2
            exact absurd hm2 (by omega)
          | succ fu2 ih2 =>
            intro j hm2  H locs ls hH hl 
            refine lv_iload hx hb dX7_likeness_44 (lv_at hl 4 rfl) ?_
            refine lv_aload_n hx hb dX7_likeness_46 rfl (lv_at hl 0 rfl) ?_
            refine rg_gR C0 hH (o2 := 418) (ci := 7) (k := 13) (o := 412) rfl rfl inT_X7 (by decide) tw_f_X7_26 (by decide) rfl (by decide) rfl dX7_likeness_47 ?_
            refine lv_iload_n hx hb dX7_likeness_50 rfl (lv_at hl 1 rfl) ?_
            refine rg_ialdN C0 hH (o := 418) (j := a) (n0 := 36) (by decide) rfl rfl (by omega) dX7_likeness_51 ?_
            refine rg_topi (y := nI (rm_z M a)) (by exact (rm_CI_v hI a ha9).1) ?_
            refine lv_icmp_ge (tgt := 116) hx hb dX7_likeness_52 (by decide) (fun c_52 => ?_) (fun c_52 => ?_)
            · refine lv_iload_n hx hb dX7_likeness_116 rfl (lv_at hl 3 rfl) ?_
              exact rg_retRi C0 hH hr hlocks rfl (by unfold rm_lk; rw [rg_lp_end hm2.1 (by omega) c_52]) dX7_likeness_117
            · have hlt2 := rg_lp_lt hm2.1 (by omega) c_52
              refine lv_iconst (v := 0) hx hb dX7_likeness_55 (by decide) ?_
              refine lv_istore (lv' := [(6, .int (0)), (0, .ref (B + 412)), (1, .int (nI a)), (2, .int (nI b)), (3, .int (rm_l1 M a b (rm_ls (rm_bs M a b) 10) j)), (5, .int (nI j))]) hx hb dX7_likeness_56 hl (by decide) rfl (fun ls hl => ?_)
              have cut_58 : ∀ (fu3 w : Nat), w ≤ rm_z M b ∧ rm_z M b < w + fu3 → ∀  (H : Heap) (locs : List Loc) (ls : Array Slot), rg_H E B 433 rg_R0 M s H locs → lv_has ls 7 [(0, .ref (B + 412)), (1, .int (nI a)), (2, .int (nI b)), (3, .int (rm_l2 M a b j (rm_l1 M a b (rm_ls (rm_bs M a b) 10) j) w)), (5, .int (nI j)), (6, .int (nI w))] → W p l e ({ frames := 1, cells := 0, slots := 0, locals := 23 } : Room) s m args below meth c H locs 0 0 (MQ below (rg_Ri E B 433 rg_R0 (M) (fun r => r = rm_lk M a b)) args s 0 0 (rg_A B)) (F0 m 58 ls []) := by
                intro fu3
                induction fu3 with
                | zero =>
                  intro w hm3
                  exact absurd hm3 (by omega)
                | succ fu3 ih3 =>
                  intro w hm3  H locs ls hH hl 
                  refine lv_iload hx hb dX7_likeness_58 (lv_at hl 5 rfl) ?_
                  refine lv_aload_n hx hb dX7_likeness_60 rfl (lv_at hl 0 rfl) ?_
                  refine rg_gR C0 hH (o2 := 418) (ci := 7) (k := 13) (o := 412) rfl rfl inT_X7 (by decide) tw_f_X7_26 (by decide) rfl (by decide) rfl dX7_likeness_61 ?_
                  refine lv_iload_n hx hb dX7_likeness_64 rfl (lv_at hl 2 rfl) ?_
                  refine rg_ialdN C0 hH (o := 418) (j := b) (n0 := 36) (by decide) rfl rfl (by omega) dX7_likeness_65 ?_
                  refine rg_topi (y := nI (rm_z M b)) (by exact (rm_CI_v hI b hb9).1) ?_
                  refine lv_icmp_ge (tgt := 110) hx hb dX7_likeness_66 (by decide) (fun c_66 => ?_) (fun c_66 => ?_)
                  · replace hl : lv_has ls 7 [(0, .ref (B + 412)), (1, .int (nI a)), (2, .int (nI b)), (3, .int (rm_l1 M a b (rm_ls (rm_bs M a b) 10) (j + 1))), (5, .int (nI j)), (6, .int (nI w))] := by rw [rm_l1, ← rg_lp_end hm3.1 (by omega) c_66]; exact hl
                    refine lv_iinc (v := nI (j + 1)) (lv' := [(5, .int (nI (j + 1))), (0, .ref (B + 412)), (1, .int (nI a)), (2, .int (nI b)), (3, .int (rm_l1 M a b (rm_ls (rm_bs M a b) 10) (j + 1))), (6, .int (nI w))]) hx hb dX7_likeness_110 hl (k := 4) rfl (nI_1 _) (by decide) rfl (fun ls hl => ?_)
                    refine lv_goto (tgt := 44) hx hb dX7_likeness_113 (by decide) ?_
                    exact ih2 (j + 1) (by omega) _ _ _ hH (lv_sub hl [1, 2, 3, 4, 0] rfl)
                  · have hlt3 := rg_lp_lt hm3.1 (by omega) c_66
                    refine lv_iload_n hx hb dX7_likeness_69 rfl (lv_at hl 3 rfl) ?_
                    refine lv_aload_n hx hb dX7_likeness_70 rfl (lv_at hl 0 rfl) ?_
                    refine rg_gR C0 hH (o2 := 417) (ci := 7) (k := 12) (o := 412) rfl rfl inT_X7 (by decide) tw_f_X7_23 (by decide) rfl (by decide) rfl dX7_likeness_71 ?_
                    refine lv_bipush (v := 6) hx hb dX7_likeness_74 (by decide) ?_
                    refine lv_iload_n hx hb dX7_likeness_76 rfl (lv_at hl 1 rfl) ?_
                    refine lv_imul hx hb dX7_likeness_77 ?_
                    refine rg_topi (y := nI (6 * a)) (by exact rm_mul (6) (a)) ?_
                    refine lv_iload hx hb dX7_likeness_78 (lv_at hl 4 rfl) ?_
                    refine lv_iadd hx hb dX7_likeness_80 ?_
                    refine rg_topi (y := nI ((6 * a) + j)) (by exact nI_add (6 * a) (j)) ?_
                    refine rg_ialdN C0 hH (o := 417) (j := ((6 * a) + j)) (n0 := 216) (by decide) rfl rfl (by omega) dX7_likeness_81 ?_
                    refine lv_aload_n hx hb dX7_likeness_82 rfl (lv_at hl 0 rfl) ?_
                    refine rg_gR C0 hH (o2 := 417) (ci := 7) (k := 12) (o := 412) rfl rfl inT_X7 (by decide) tw_f_X7_23 (by decide) rfl (by decide) rfl dX7_likeness_83 ?_
                    refine lv_bipush (v := 6) hx hb dX7_likeness_86 (by decide) ?_
                    refine lv_iload_n hx hb dX7_likeness_88 rfl (lv_at hl 2 rfl) ?_
                    refine lv_imul hx hb dX7_likeness_89 ?_
                    refine rg_topi (y := nI (6 * b)) (by exact rm_mul (6) (b)) ?_
                    refine lv_iload hx hb dX7_likeness_90 (lv_at hl 5 rfl) ?_
                    refine lv_iadd hx hb dX7_likeness_92 ?_
                    refine rg_topi (y := nI ((6 * b) + w)) (by exact nI_add (6 * b) (w)) ?_
                    refine rg_ialdN C0 hH (o := 417) (j := ((6 * b) + w)) (n0 := 216) (by decide) rfl rfl (by omega) dX7_likeness_93 ?_
                    refine lv_icmp_ne (tgt := 101) hx hb dX7_likeness_94 (by decide) (fun c_94 => ?_) (fun c_94 => ?_)
                    · refine lv_iconst (v := 0) hx hb dX7_likeness_101 (by decide) ?_
                      refine lv_iadd hx hb dX7_likeness_102 ?_
                      refine lv_istore_n (lv' := [(3, .int ((rm_l2 M a b j (rm_l1 M a b (rm_ls (rm_bs M a b) 10) j) w) + 0)), (0, .ref (B + 412)), (1, .int (nI a)), (2, .int (nI b)), (5, .int (nI j)), (6, .int (nI w))]) hx hb dX7_likeness_103 rfl hl (by decide) rfl (fun ls hl => ?_)
                      refine lv_iinc (v := nI (w + 1)) (lv' := [(6, .int (nI (w + 1))), (3, .int ((rm_l2 M a b j (rm_l1 M a b (rm_ls (rm_bs M a b) 10) j) w) + 0)), (0, .ref (B + 412)), (1, .int (nI a)), (2, .int (nI b)), (5, .int (nI j))]) hx hb dX7_likeness_104 hl (k := 5) rfl (nI_1 _) (by decide) rfl (fun ls hl => ?_)
                      refine lv_goto (tgt := 58) hx hb dX7_likeness_107 (by decide) ?_
                      replace hl : lv_has ls 7 [(6, .int (nI (w + 1))), (3, .int (rm_l2 M a b j (rm_l1 M a b (rm_ls (rm_bs M a b) 10) j) (w + 1))), (0, .ref (B + 412)), (1, .int (nI a)), (2, .int (nI b)), (5, .int (nI j))] := by rw [rm_l2, if_neg c_94]; exact hl
                      exact ih3 (w + 1) (by omega) _ _ _ hH (lv_sub hl [2, 3, 4, 1, 5, 0] rfl)
                    · refine lv_iconst (v := 3) hx hb dX7_likeness_97 (by decide) ?_
                      refine lv_goto (tgt := 102) hx hb dX7_likeness_98 (by decide) ?_
                      refine lv_iadd hx hb dX7_likeness_102 ?_
                      refine lv_istore_n (lv' := [(3, .int ((rm_l2 M a b j (rm_l1 M a b (rm_ls (rm_bs M a b) 10) j) w) + 3)), (0, .ref (B + 412)), (1, .int (nI a)), (2, .int (nI b)), (5, .int (nI j)), (6, .int (nI w))]) hx hb dX7_likeness_103 rfl hl (by decide) rfl (fun ls hl => ?_)
                      refine lv_iinc (v := nI (w + 1)) (lv' := [(6, .int (nI (w + 1))), (3, .int ((rm_l2 M a b j (rm_l1 M a b (rm_ls (rm_bs M a b) 10) j) w) + 3)), (0, .ref (B + 412)), (1, .int (nI a)), (2, .int (nI b)), (5, .int (nI j))]) hx hb dX7_likeness_104 hl (k := 5) rfl (nI_1 _) (by decide) rfl (fun ls hl => ?_)
                      refine lv_goto (tgt := 58) hx hb dX7_likeness_107 (by decide) ?_
                      replace hl : lv_has ls 7 [(6, .int (nI (w + 1))), (3, .int (rm_l2 M a b j (rm_l1 M a b (rm_ls (rm_bs M a b) 10) j) (w + 1))), (0, .ref (B + 412)), (1, .int (nI a)), (2, .int (nI b)), (5, .int (nI j))] := by rw [rm_l2, if_pos c_94]; exact hl
                      exact ih3 (w + 1) (by omega) _ _ _ hH (lv_sub hl [2, 3, 4, 1, 5, 0] rfl)
              exact cut_58 (rm_z M b + 1) 0 (by omega) _ _ _ hH (lv_sub hl [1, 2, 3, 4, 5, 0] rfl)
        exact cut_44 (rm_z M a + 1) 0 (by omega) _ _ _ hH (lv_sub hl [1, 2, 3, 4, 0] rfl)
      · have hlt1 := rg_lp_lt (n := 10) hm.1 (by omega) c_22
        refine lv_iload_n hx hb dX7_likeness_25 rfl (lv_at hl 3 rfl) ?_
        refine lv_iload hx hb dX7_likeness_26 (lv_at hl 4 rfl) ?_
        refine lv_iload hx hb dX7_likeness_28 (lv_at hl 5 rfl) ?_
        refine lv_ishr hx hb dX7_likeness_30 ?_
        refine lv_iconst (v := 1) hx hb dX7_likeness_31 (by decide) ?_
        refine lv_iand hx hb dX7_likeness_32 ?_
        refine lv_iadd hx hb dX7_likeness_33 ?_
        refine lv_istore_n (lv' := [(3, .int ((rm_ls (rm_bs M a b) i) + (((rm_bs M a b) >>> ((nI i) &&& 31)) &&& 1))), (0, .ref (B + 412)), (1, .int (nI a)), (2, .int (nI b)), (4, .int (rm_bs M a b)), (5, .int (nI i))]) hx hb dX7_likeness_34 rfl hl (by decide) rfl (fun ls hl => ?_)
        refine lv_iinc (v := nI (i + 1)) (lv' := [(5, .int (nI (i + 1))), (3, .int ((rm_ls (rm_bs M a b) i) + (((rm_bs M a b) >>> ((nI i) &&& 31)) &&& 1))), (0, .ref (B + 412)), (1, .int (nI a)), (2, .int (nI b)), (4, .int (rm_bs M a b))]) hx hb dX7_likeness_35 hl (k := 5) rfl (nI_1 _) (by decide) rfl (fun ls hl => ?_)
        refine lv_goto (tgt := 18) hx hb dX7_likeness_38 (by decide) ?_
        exact ih (i + 1) (by omega) _ _ _ hH (lv_sub hl [2, 3, 4, 1, 5, 0] rfl)
  exact cut_18 11 0 (by omega) _ _ _ hH (lv_sub hl [3, 4, 5, 2, 1, 0] rfl)

set_option maxHeartbeats 4000000 in
set_option maxRecDepth 100000 in
/-- source -/
theorem k_X7_source (l : Launch) (E : rg_Env) (B : Nat) (M : rg_Mem) (x : Int32) (hI : rm_CI M) : Met l yX7_source (rg_w yX7_source cX7_source 4 (some (FieldType.int))) ({ frames := 3, cells := 0, slots := 0, locals := 70 } : Room) (va_Pc [.ref (B + 412), .int (x)] (rg_Pre E B 433 rg_R0 M)) (rg_Wi E B 433 rg_R0 (fun r M1 => (¬ rm_go (rg_b (rm_ic M x)) 1 1 = 0 ∧ r = 0 ∧ M1 = rg_I M 412 33 (rm_go (rg_b (rm_ic M x)) 1 1)) ∨ (rm_go (rg_b (rm_ic M x)) 1 1 = 0 ∧ r = rm_sr (rm_fa M x) x (rm_nc M) ∧ M1 = (rg_I M 412 33 (rm_go (rg_b (rm_ic M x)) 1 1))))) 0 0 (rg_A B) := by
  refine rg_ofW (by decide +kernel) rfl (Nat.le_of_ble_eq_true rfl) ?_
  intro p e s m args below meth c ls C0 hH hl hr hlocks hnm
  replace hl : lv_has ls 4 [(0, .ref (B + 412)), (1, .int (x))] := hl
  have hx := C0.1.1
  have hb := C0.1.2.1
  generalize hH9 : s.heap = H at hH ⊢
  generalize hL9 : ([] : List Loc) = locs at hH ⊢
  clear hH9 hL9
  refine lv_aload_n hx hb dX7_source_0 rfl (lv_at hl 0 rfl) ?_
  refine lv_iload_n hx hb dX7_source_1 rfl (lv_at hl 1 rfl) ?_
  refine lv_iconst (v := 0) hx hb dX7_source_2 (by decide) ?_
  refine lv_aload_n hx hb dX7_source_3 rfl (lv_at hl 0 rfl) ?_
  refine rg_gI C0 hH (ci := 7) (k := 29) (o := 412) rfl inT_X7 (by decide) tw_f_X7_123 (by decide) rfl (by decide) rfl dX7_source_4 ?_
  refine lv_iconst (v := 1) hx hb dX7_source_7 (by decide) ?_
  refine lv_isub hx hb dX7_source_8 ?_
  refine rg_callSGi C0 hH (As := [.int (x), .int (0), .int ((M.1 412 29) - 1)]) (rest := [.ref (B + 412)]) (k_X7_in l E B M x 0 ((M.1 412 29) - 1)) (rg_cwS 3 C0.1.2.2.2.2 tw_m_X7_79 tw_s_X7_in tw_n_X7 tw_c_X7_in rfl rfl hd_X7_in ⟨Nat.le_of_ble_eq_true rfl, Nat.le_of_ble_eq_true rfl⟩) rfl hl.1 rfl (Nat.le_of_ble_eq_true rfl) dX7_source_9 ⟨Nat.le_of_ble_eq_true rfl, Nat.le_of_ble_eq_true rfl⟩ (fun H locs hH => ?_)
  refine rg_topi (y := rg_b (rm_ic M x)) (by exact rg_b_cg (rm_in1 (rm_CI_c hI).1 (by have := (rm_CI_c hI).2; omega))) ?_
  refine lv_iconst (v := 1) hx hb dX7_source_12 (by decide) ?_
  refine lv_iconst (v := 1) hx hb dX7_source_13 (by decide) ?_
  refine rg_callGi C0 hH (As := [.int (rg_b (rm_ic M x)), .int (1), .int (1)]) (rest := []) (o := 412) (ci := 7) (k_X7_goes l E B M (rg_b (rm_ic M x)) 1 1) (rg_cw 3 C0.1.2.2.2.2 tw_m_X7_92 tw_i_X7_goes tw_v_X7_goes tw_n_X7 tw_c_X7_goes rfl rfl hd_X7_goes ⟨Nat.le_of_ble_eq_true rfl, Nat.le_of_ble_eq_true rfl⟩) rfl (by decide) rfl (by decide) rfl hl.1 rfl (Nat.le_of_ble_eq_true rfl) dX7_source_14 ⟨Nat.le_of_ble_eq_true rfl, Nat.le_of_ble_eq_true rfl⟩ (fun H locs hH => ?_)
  refine lv_if_ne (tgt := 22) hx hb dX7_source_17 (by decide) (fun c_17 => ?_) (fun c_17 => ?_)
  · have hg := rm_go_inv (rg_b_ne.mp c_17)
    have hP := rg_b_ne.mp hg.1
    have hc8 := (rm_CI_c hI).2
    refine lv_iconst (v := (-1)) hx hb dX7_source_22 (by decide) ?_
    refine lv_istore_n (lv' := [(2, .int ((-1))), (0, .ref (B + 412)), (1, .int (x))]) hx hb dX7_source_23 rfl hl (by decide) rfl (fun ls hl => ?_)
    refine lv_iconst (v := 0) hx hb dX7_source_24 (by decide) ?_
    refine lv_istore_n (lv' := [(3, .int (0)), (2, .int ((-1))), (0, .ref (B + 412)), (1, .int (x))]) hx hb dX7_source_25 rfl hl (by decide) rfl (fun ls hl => ?_)
    have cut_26 : ∀ (fu i : Nat), i ≤ rm_nc M ∧ rm_nc M < i + fu → ∀  (H : Heap) (locs : List Loc) (ls : Array Slot), rg_H E B 433 rg_R0 (rg_I M 412 33 (rm_go (rg_b (rm_ic M x)) 1 1)) s H locs → lv_has ls 4 [(0, .ref (B + 412)), (1, .int (x)), (2, .int (rm_sr (rm_fa M x) x i)), (3, .int (nI i))] → W p l e ({ frames := 3, cells := 0, slots := 0, locals := 70 } : Room) s m args below meth c H locs 0 0 (MQ below (rg_Wi E B 433 rg_R0 (fun r M1 => (¬ rm_go (rg_b (rm_ic M x)) 1 1 = 0 ∧ r = 0 ∧ M1 = rg_I M 412 33 (rm_go (rg_b (rm_ic M x)) 1 1)) ∨ (rm_go (rg_b (rm_ic M x)) 1 1 = 0 ∧ r = rm_sr (rm_fa M x) x (rm_nc M) ∧ M1 = (rg_I M 412 33 (rm_go (rg_b (rm_ic M x)) 1 1))))) args s 0 0 (rg_A B)) (F0 m 26 ls []) := by
      intro fu
      induction fu with
      | zero =>
        intro i hm
        exact absurd hm (by omega)
      | succ fu ih =>
        intro i hm  H locs ls hH hl 
        refine lv_iload_n hx hb dX7_source_26 rfl (lv_at hl 3 rfl) ?_
        refine lv_aload_n hx hb dX7_source_27 rfl (lv_at hl 0 rfl) ?_
        refine rg_gI C0 hH (ci := 7) (k := 29) (o := 412) rfl inT_X7 (by decide) tw_f_X7_123 (by decide) rfl (by decide) rfl dX7_source_28 ?_
        refine rg_topi (y := nI (rm_nc M)) (by exact (rm_CI_c hI).1) ?_
        refine lv_icmp_ge (tgt := 66) hx hb dX7_source_31 (by decide) (fun c_31 => ?_) (fun c_31 => ?_)
        · refine lv_iload_n hx hb dX7_source_66 rfl (lv_at hl 2 rfl) ?_
          exact rg_retWi C0 hH hr hlocks (by exact Or.inr ⟨rg_b_ne.mp c_17, by rw [rg_lp_end hm.1 (by omega) c_31], rfl⟩) dX7_source_67
        · have hlt := rg_lp_lt hm.1 (by omega) c_31
          refine lv_iload_n hx hb dX7_source_34 rfl (lv_at hl 3 rfl) ?_
          refine lv_iload_n hx hb dX7_source_35 rfl (lv_at hl 1 rfl) ?_
          refine lv_icmp_eq (tgt := 58) hx hb dX7_source_36 (by decide) (fun c_36 => ?_) (fun c_36 => ?_)
          · refine lv_iload_n hx hb dX7_source_58 rfl (lv_at hl 2 rfl) ?_
            refine lv_istore_n (lv' := [(2, .int (rm_sr (rm_fa M x) x i)), (0, .ref (B + 412)), (1, .int (x)), (3, .int (nI i))]) hx hb dX7_source_59 rfl hl (by decide) rfl (fun ls hl => ?_)
            refine lv_iinc (v := nI (i + 1)) (lv' := [(3, .int (nI (i + 1))), (2, .int (rm_sr (rm_fa M x) x i)), (0, .ref (B + 412)), (1, .int (x))]) hx hb dX7_source_60 hl (k := 3) rfl (nI_1 _) (by decide) rfl (fun ls hl => ?_)
            refine lv_goto (tgt := 26) hx hb dX7_source_63 (by decide) ?_
            replace hl : lv_has ls 4 [(3, .int (nI (i + 1))), (2, .int (rm_sr (rm_fa M x) x (i + 1))), (0, .ref (B + 412)), (1, .int (x))] := by rw [rm_sr_f (fun q => q.1 c_36)]; exact hl
            exact ih (i + 1) (by omega) _ _ _ hH (lv_sub hl [2, 3, 1, 0] rfl)
          · refine lv_aload_n hx hb dX7_source_39 rfl (lv_at hl 0 rfl) ?_
            refine lv_iload_n hx hb dX7_source_40 rfl (lv_at hl 1 rfl) ?_
            refine lv_iload_n hx hb dX7_source_41 rfl (lv_at hl 3 rfl) ?_
            refine rg_callGi C0 hH (As := [.int (x), .int (nI i)]) (rest := []) (o := 412) (ci := 7) (k_X7_farOf l E B (rg_I M 412 33 (rm_go (rg_b (rm_ic M x)) 1 1)) x (nI i) (rm_CI_eq hI (rm_eq_f (by omega))) (Or.inr hP) (Or.inr (rm_ic_k hI hlt))) (rg_cw 2 C0.1.2.2.2.2 tw_m_X7_203 tw_i_X7_farOf tw_v_X7_farOf tw_n_X7 tw_c_X7_farOf rfl rfl hd_X7_farOf ⟨Nat.le_of_ble_eq_true rfl, Nat.le_of_ble_eq_true rfl⟩) rfl (by decide) rfl (by decide) rfl hl.1 rfl (Nat.le_of_ble_eq_true rfl) dX7_source_42 ⟨Nat.le_of_ble_eq_true rfl, Nat.le_of_ble_eq_true rfl⟩ (fun H locs hH => ?_)
            refine rg_topi (y := rm_fa M x (nI i)) (by rw [rm_fa_e (rm_eq_f (by omega))]) ?_
            refine lv_aload_n hx hb dX7_source_45 rfl (lv_at hl 0 rfl) ?_
            refine lv_iload_n hx hb dX7_source_46 rfl (lv_at hl 1 rfl) ?_
            refine lv_iload_n hx hb dX7_source_47 rfl (lv_at hl 2 rfl) ?_
            refine rg_callGi C0 hH (As := [.int (x), .int (rm_sr (rm_fa M x) x i)]) (rest := [.int (rm_fa M x (nI i))]) (o := 412) (ci := 7) (k_X7_farOf l E B ((rg_I M 412 33 (rm_go (rg_b (rm_ic M x)) 1 1))) x (rm_sr (rm_fa M x) x i) (rm_CI_eq hI (rm_eq_f (by omega))) (Or.inr hP) (rm_sr_tx hI hm.1)) (rg_cw 2 C0.1.2.2.2.2 tw_m_X7_203 tw_i_X7_farOf tw_v_X7_farOf tw_n_X7 tw_c_X7_farOf rfl rfl hd_X7_farOf ⟨Nat.le_of_ble_eq_true rfl, Nat.le_of_ble_eq_true rfl⟩) rfl (by decide) rfl (by decide) rfl hl.1 rfl (Nat.le_of_ble_eq_true rfl) dX7_source_48 ⟨Nat.le_of_ble_eq_true rfl, Nat.le_of_ble_eq_true rfl⟩ (fun H locs hH => ?_)
            refine rg_topi (y := rm_fa M x (rm_sr (rm_fa M x) x i)) (by rw [rm_fa_e (rm_eq_f (by omega))]) ?_
            refine lv_icmp_ge (tgt := 58) hx hb dX7_source_51 (by decide) (fun c_51 => ?_) (fun c_51 => ?_)
            · refine lv_iload_n hx hb dX7_source_58 rfl (lv_at hl 2 rfl) ?_
              refine lv_istore_n (lv' := [(2, .int (rm_sr (rm_fa M x) x i)), (0, .ref (B + 412)), (1, .int (x)), (3, .int (nI i))]) hx hb dX7_source_59 rfl hl (by decide) rfl (fun ls hl => ?_)
              refine lv_iinc (v := nI (i + 1)) (lv' := [(3, .int (nI (i + 1))), (2, .int (rm_sr (rm_fa M x) x i)), (0, .ref (B + 412)), (1, .int (x))]) hx hb dX7_source_60 hl (k := 3) rfl (nI_1 _) (by decide) rfl (fun ls hl => ?_)
              refine lv_goto (tgt := 26) hx hb dX7_source_63 (by decide) ?_
              replace hl : lv_has ls 4 [(3, .int (nI (i + 1))), (2, .int (rm_sr (rm_fa M x) x (i + 1))), (0, .ref (B + 412)), (1, .int (x))] := by rw [rm_sr_f (fun q => rm_nof51 c_51 q.2)]; exact hl
              exact ih (i + 1) (by omega) _ _ _ hH (lv_sub hl [2, 3, 1, 0] rfl)
            · refine lv_iload_n hx hb dX7_source_54 rfl (lv_at hl 3 rfl) ?_
              refine lv_goto (tgt := 59) hx hb dX7_source_55 (by decide) ?_
              refine lv_istore_n (lv' := [(2, .int (nI i)), (0, .ref (B + 412)), (1, .int (x)), (3, .int (nI i))]) hx hb dX7_source_59 rfl hl (by decide) rfl (fun ls hl => ?_)
              refine lv_iinc (v := nI (i + 1)) (lv' := [(3, .int (nI (i + 1))), (2, .int (nI i)), (0, .ref (B + 412)), (1, .int (x))]) hx hb dX7_source_60 hl (k := 3) rfl (nI_1 _) (by decide) rfl (fun ls hl => ?_)
              refine lv_goto (tgt := 26) hx hb dX7_source_63 (by decide) ?_
              replace hl : lv_has ls 4 [(3, .int (nI (i + 1))), (2, .int (rm_sr (rm_fa M x) x (i + 1))), (0, .ref (B + 412)), (1, .int (x))] := by rw [rm_sr_t ⟨c_36, rm_of51 c_51⟩]; exact hl
              exact ih (i + 1) (by omega) _ _ _ hH (lv_sub hl [2, 3, 1, 0] rfl)
    exact cut_26 (rm_nc M + 1) 0 (by omega) _ _ _ hH (lv_sub hl [2, 3, 1, 0] rfl)
  · refine lv_iconst (v := 0) hx hb dX7_source_20 (by decide) ?_
    exact rg_retWi C0 hH hr hlocks (by exact Or.inl ⟨rg_b_eq.mp c_17, rfl, rfl⟩) dX7_source_21
