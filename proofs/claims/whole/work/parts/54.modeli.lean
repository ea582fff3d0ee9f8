set_option maxHeartbeats 4000000 in
set_option maxRecDepth 100000 in
/-- faultAnew -/
theorem k_X7_faultAnew (l : Launch) (E : rg_Env) (B : Nat) (M : rg_Mem) (x : Int32) (hI : rm_CI M) : Met l yX7_faultAnew (rg_w yX7_faultAnew cX7_faultAnew 2 (some (FieldType.int))) ({ frames := 4, cells := 0, slots := 0, locals := 95 } : Room) (va_Pc [.ref (B + 412), .int (x)] (rg_Pre E B 433 rg_R0 M)) (rg_Wi E B 433 rg_R0 (fun r M1 => (¬ rm_go (rg_b (rm_il M x)) 1 1 = 0 ∧ r = 0 ∧ M1 = rg_I M 412 33 (rm_go (rg_b (rm_il M x)) 1 1)) ∨ (rm_go (rg_b (rm_il M x)) 1 1 = 0 ∧ r = (rm_fo M (rm_w M x.toNatClampNeg) (rm_z M x.toNatClampNeg) x.toNatClampNeg (M.1 419 x.toNatClampNeg)).1 ∧ rm_wk (M) M1 ∧ M1.1 412 33 = 0))) 0 0 (rg_A B) := by
  refine rg_ofW (by decide +kernel) rfl (Nat.le_of_ble_eq_true rfl) ?_
  intro p e s m args below meth c ls C0 hH hl hr hlocks hnm
  replace hl : lv_has ls 2 [(0, .ref (B + 412)), (1, .int (x))] := hl
  have hx := C0.1.1
  have hb := C0.1.2.1
  generalize hH9 : s.heap = H at hH ⊢
  generalize hL9 : ([] : List Loc) = locs at hH ⊢
  clear hH9 hL9
  refine lv_aload_n hx hb dX7_faultAnew_0 rfl (lv_at hl 0 rfl) ?_
  refine lv_aload_n hx hb dX7_faultAnew_1 rfl (lv_at hl 0 rfl) ?_
  refine lv_iload_n hx hb dX7_faultAnew_2 rfl (lv_at hl 1 rfl) ?_
  refine rg_callGi C0 hH (As := [.int (x)]) (rest := [.ref (B + 412)]) (o := 412) (ci := 7) (k_X7_isLink l E B M x (by exact hI)) (rg_cw 1 C0.1.2.2.2.2 tw_m_X7_187 tw_i_X7_isLink tw_v_X7_isLink tw_n_X7 tw_c_X7_isLink rfl rfl hd_X7_isLink ⟨Nat.le_of_ble_eq_true rfl, Nat.le_of_ble_eq_true rfl⟩) rfl (by decide) rfl (by decide) rfl hl.1 rfl (Nat.le_of_ble_eq_true rfl) dX7_faultAnew_3 ⟨Nat.le_of_ble_eq_true rfl, Nat.le_of_ble_eq_true rfl⟩ (fun H locs hH => ?_)
  refine lv_iconst (v := 1) hx hb dX7_faultAnew_6 (by decide) ?_
  refine lv_iconst (v := 1) hx hb dX7_faultAnew_7 (by decide) ?_
  refine rg_callGi C0 hH (As := [.int (rg_b (rm_il M x)), .int (1), .int (1)]) (rest := []) (o := 412) (ci := 7) (k_X7_goes l E B M (rg_b (rm_il M x)) 1 1) (rg_cw 3 C0.1.2.2.2.2 tw_m_X7_92 tw_i_X7_goes tw_v_X7_goes tw_n_X7 tw_c_X7_goes rfl rfl hd_X7_goes ⟨Nat.le_of_ble_eq_true rfl, Nat.le_of_ble_eq_true rfl⟩) rfl (by decide) rfl (by decide) rfl hl.1 rfl (Nat.le_of_ble_eq_true rfl) dX7_faultAnew_8 ⟨Nat.le_of_ble_eq_true rfl, Nat.le_of_ble_eq_true rfl⟩ (fun H locs hH => ?_)
  refine lv_if_ne (tgt := 16) hx hb dX7_faultAnew_11 (by decide) (fun c_11 => ?_) (fun c_11 => ?_)
  · have hg := rm_go_inv (rg_b_ne.mp c_11)
    have hP := rg_b_ne.mp hg.1
    obtain ⟨a, ha, ha36, hax⟩ := rm_il_in hI hP
    have hxn : x.toNatClampNeg = a := by rw [hax, nI_clamp (by omega)]
    have hza := rm_CI_v hI a ha
    replace hl : lv_has ls 2 [(0, .ref (B + 412)), (1, .int (nI a))] := by rw [← hax]; exact hl
    refine lv_aload_n hx hb dX7_faultAnew_16 rfl (lv_at hl 0 rfl) ?_
    refine lv_iload_n hx hb dX7_faultAnew_17 rfl (lv_at hl 1 rfl) ?_
    refine rg_callRv C0 hH (As := [.int (nI a)]) (rest := []) (o := 412) (ci := 7) (k_X7_laysLink l E B (rg_I M 412 33 (rm_go (rg_b (rm_il M x)) 1 1)) a (rm_CI_eq hI (rm_eq_f (by omega))) (by rw [rm_nl_e (rm_eq_f (by omega))]; exact ha)) (rg_cw 1 C0.1.2.2.2.2 tw_m_X7_183 tw_i_X7_laysLink tw_v_X7_laysLink tw_n_X7 tw_c_X7_laysLink rfl rfl hd_X7_laysLink ⟨Nat.le_of_ble_eq_true rfl, Nat.le_of_ble_eq_true rfl⟩) rfl (by decide) rfl (by decide) rfl hl.1 rfl (Nat.le_of_ble_eq_true rfl) dX7_faultAnew_18 ⟨Nat.le_of_ble_eq_true rfl, Nat.le_of_ble_eq_true rfl⟩ (fun H locs e_18 hH => ?_)
    obtain ⟨M2, h_M2⟩ : ∃ X, X = rm_lay (rg_I (rg_I M 412 33 (rm_go (rg_b (rm_il M x)) 1 1)) 412 31 (nI (rm_z (rg_I M 412 33 (rm_go (rg_b (rm_il M x)) 1 1)) a))) (rm_w (rg_I M 412 33 (rm_go (rg_b (rm_il M x)) 1 1)) a) (rm_z (rg_I M 412 33 (rm_go (rg_b (rm_il M x)) 1 1)) a) := ⟨_, rfl⟩
    rw [← h_M2] at hH
    obtain ⟨hwk, h31, hrow, h33⟩ := rm_lay_f1 h_M2
    refine lv_aload_n hx hb dX7_faultAnew_21 rfl (lv_at hl 0 rfl) ?_
    refine lv_iload_n hx hb dX7_faultAnew_22 rfl (lv_at hl 1 rfl) ?_
    refine lv_aload_n hx hb dX7_faultAnew_23 rfl (lv_at hl 0 rfl) ?_
    refine rg_gR C0 hH (o2 := 419) (ci := 7) (k := 14) (o := 412) rfl rfl inT_X7 (by decide) tw_f_X7_29 (by decide) rfl (by decide) rfl dX7_faultAnew_24 ?_
    refine lv_iload_n hx hb dX7_faultAnew_27 rfl (lv_at hl 1 rfl) ?_
    refine rg_ialdN C0 hH (o := 419) (j := a) (n0 := 36) (by decide) rfl rfl (by omega) dX7_faultAnew_28 ?_
    refine rg_topi (y := M.1 419 a) (by rw [(hwk.1 419 (by omega) (by omega)).1]) ?_
    refine rg_callRi C0 hH (As := [.int (nI a), .int (M.1 419 a)]) (rest := []) (o := 412) (ci := 7) (k_X7_faultOf l E B M2 (rm_z M a) a (M.1 419 a) (rm_CI_eq hI (rm_wk_eq hwk)) h31 hza.2.1 (rm_hrw hwk hrow hza.2.2) (by rw [rm_nl_e (rm_wk_eq hwk)]; exact (by omega)) ha36) (rg_cw 2 C0.1.2.2.2.2 tw_m_X7_179 tw_i_X7_faultOf tw_v_X7_faultOf tw_n_X7 tw_c_X7_faultOf rfl rfl hd_X7_faultOf ⟨Nat.le_of_ble_eq_true rfl, Nat.le_of_ble_eq_true rfl⟩) rfl (by decide) rfl (by decide) rfl hl.1 rfl (Nat.le_of_ble_eq_true rfl) dX7_faultAnew_29 ⟨Nat.le_of_ble_eq_true rfl, Nat.le_of_ble_eq_true rfl⟩ (fun r_29 H locs e_29 hH => ?_)
    refine rg_topi (y := (rm_fo M (rm_w M a) (rm_z M a) a (M.1 419 a)).1) (by rw [e_29, rm_fo_k hwk hrow]) ?_
    exact rg_retWi C0 hH hr hlocks (by exact Or.inr ⟨rg_b_ne.mp c_11, by rw [hxn], rm_wk_tr hwk (rm_wk_f (by omega)), (rm_sl (by omega)).trans (h33.trans (rg_b_ne.mp c_11))⟩) dX7_faultAnew_32
  · refine lv_iconst (v := 0) hx hb dX7_faultAnew_14 (by decide) ?_
    exact rg_retWi C0 hH hr hlocks (by exact Or.inl ⟨rg_b_eq.mp c_11, rfl, rfl⟩) dX7_faultAnew_15

set_option maxHeartbeats 4000000 in
set_option maxRecDepth 100000 in
/-- choose -/
theorem k_X7_choose (l : Launch) (E : rg_Env) (B : Nat) (M : rg_Mem) (x : Int32) (hI : rm_CI M) : Met l yX7_choose (rg_w yX7_choose cX7_choose 3 (some (FieldType.int))) ({ frames := 1, cells := 0, slots := 0, locals := 23 } : Room) (va_Pc [.ref (B + 412), .int (x)] (rg_Pre E B 433 rg_R0 M)) (rg_Wi E B 433 rg_R0 (fun r M1 => (¬ rm_go (rg_b (rm_io M x)) 1 1 = 0 ∧ r = 0 ∧ M1 = rg_I M 412 33 (rm_go (rg_b (rm_io M x)) 1 1)) ∨ (rm_go (rg_b (rm_io M x)) 1 1 = 0 ∧ r = nI (rm_nl M) ∧ M1 = rg_I (rg_I (rg_I (rg_I (rg_I (rg_I (rm_cy (rg_I M 412 33 (rm_go (rg_b (rm_io M x)) 1 1)) 417 (6 * rm_nl M) (fun k => M.1 425 (6 * x.toNatClampNeg + k)) (rm_oz M x.toNatClampNeg)) 418 (rm_nl M) (nI (rm_oz M x.toNatClampNeg))) 419 (rm_nl M) (M.1 427 x.toNatClampNeg)) 421 (rm_nl M) 0) 422 (rm_nl M) 0) 412 24 0) 412 11 (nI (rm_nl M + 1))))) 0 0 (rg_A B) := by
  refine rg_ofW (by decide +kernel) rfl (Nat.le_of_ble_eq_true rfl) ?_
  intro p e s m args below meth c ls C0 hH hl hr hlocks hnm
  replace hl : lv_has ls 3 [(0, .ref (B + 412)), (1, .int (x))] := hl
  have hx := C0.1.1
  have hb := C0.1.2.1
  generalize hH9 : s.heap = H at hH ⊢
  generalize hL9 : ([] : List Loc) = locs at hH ⊢
  clear hH9 hL9
  refine lv_aload_n hx hb dX7_choose_0 rfl (lv_at hl 0 rfl) ?_
  refine lv_iload_n hx hb dX7_choose_1 rfl (lv_at hl 1 rfl) ?_
  refine lv_iconst (v := 0) hx hb dX7_choose_2 (by decide) ?_
  refine lv_aload_n hx hb dX7_choose_3 rfl (lv_at hl 0 rfl) ?_
  refine rg_gI C0 hH (ci := 7) (k := 24) (o := 412) rfl inT_X7 (by decide) tw_f_X7_120 (by decide) rfl (by decide) rfl dX7_choose_4 ?_
  refine lv_iconst (v := 1) hx hb dX7_choose_7 (by decide) ?_
  refine lv_isub hx hb dX7_choose_8 ?_
  refine rg_callSGi C0 hH (As := [.int (x), .int (0), .int ((M.1 412 24) - 1)]) (rest := [.ref (B + 412)]) (k_X7_in l E B M x 0 ((M.1 412 24) - 1)) (rg_cwS 3 C0.1.2.2.2.2 tw_m_X7_79 tw_s_X7_in tw_n_X7 tw_c_X7_in rfl rfl hd_X7_in ⟨Nat.le_of_ble_eq_true rfl, Nat.le_of_ble_eq_true rfl⟩) rfl hl.1 rfl (Nat.le_of_ble_eq_true rfl) dX7_choose_9 ⟨Nat.le_of_ble_eq_true rfl, Nat.le_of_ble_eq_true rfl⟩ (fun H locs hH => ?_)
  refine rg_topi (y := rg_b (rm_io M x)) (by exact rg_b_cg (rm_in1 (rm_CI_o hI).1 (by have := (rm_CI_o hI).2.1; omega))) ?_
  refine lv_iconst (v := 1) hx hb dX7_choose_12 (by decide) ?_
  refine lv_iconst (v := 1) hx hb dX7_choose_13 (by decide) ?_
  refine rg_callGi C0 hH (As := [.int (rg_b (rm_io M x)), .int (1), .int (1)]) (rest := []) (o := 412) (ci := 7) (k_X7_goes l E B M (rg_b (rm_io M x)) 1 1) (rg_cw 3 C0.1.2.2.2.2 tw_m_X7_92 tw_i_X7_goes tw_v_X7_goes tw_n_X7 tw_c_X7_goes rfl rfl hd_X7_goes ⟨Nat.le_of_ble_eq_true rfl, Nat.le_of_ble_eq_true rfl⟩) rfl (by decide) rfl (by decide) rfl hl.1 rfl (Nat.le_of_ble_eq_true rfl) dX7_choose_14 ⟨Nat.le_of_ble_eq_true rfl, Nat.le_of_ble_eq_true rfl⟩ (fun H locs hH => ?_)
  refine lv_if_ne (tgt := 22) hx hb dX7_choose_17 (by decide) (fun c_17 => ?_) (fun c_17 => ?_)
  · have hg := rm_go_inv (rg_b_ne.mp c_17)
    have hP := rg_b_ne.mp hg.1
    have hno := rm_CI_o hI
    obtain ⟨o, ho, hox⟩ := vp_in_of (rg_lt_in hno.1 (by omega) hP.1 hP.2) (by omega)
    have hxn : x.toNatClampNeg = o := by rw [hox, nI_clamp (by omega)]
    have hlt := hno.2.2 (by omega)
    have ht36 := (rm_CI_t hI).2
    have h36 : rm_nl M < 36 := by omega
    have hz := rm_CI_vo hI o ho
    have hz6 := hz.2.1
    have hno4 := hno.2.1
    replace hl : lv_has ls 3 [(0, .ref (B + 412)), (1, .int (nI o))] := by rw [← hox]; exact hl
    refine lv_iconst (v := 0) hx hb dX7_choose_22 (by decide) ?_
    refine lv_istore_n (lv' := [(2, .int (0)), (0, .ref (B + 412)), (1, .int (nI o))]) hx hb dX7_choose_23 rfl hl (by decide) rfl (fun ls hl => ?_)
    have cut_24 : ∀ (fu i : Nat), i ≤ rm_oz M o ∧ rm_oz M o < i + fu → ∀  (H : Heap) (locs : List Loc) (ls : Array Slot), rg_H E B 433 rg_R0 (rm_cy (rg_I M 412 33 (rm_go (rg_b (rm_io M x)) 1 1)) 417 (6 * rm_nl M) (fun k => M.1 425 (6 * o + k)) i) s H locs → lv_has ls 3 [(0, .ref (B + 412)), (1, .int (nI o)), (2, .int (nI i))] → W p l e ({ frames := 1, cells := 0, slots := 0, locals := 23 } : Room) s m args below meth c H locs 0 0 (MQ below (rg_Wi E B 433 rg_R0 (fun r M1 => (¬ rm_go (rg_b (rm_io M x)) 1 1 = 0 ∧ r = 0 ∧ M1 = rg_I M 412 33 (rm_go (rg_b (rm_io M x)) 1 1)) ∨ (rm_go (rg_b (rm_io M x)) 1 1 = 0 ∧ r = nI (rm_nl M) ∧ M1 = rg_I (rg_I (rg_I (rg_I (rg_I (rg_I (rm_cy (rg_I M 412 33 (rm_go (rg_b (rm_io M x)) 1 1)) 417 (6 * rm_nl M) (fun k => M.1 425 (6 * x.toNatClampNeg + k)) (rm_oz M x.toNatClampNeg)) 418 (rm_nl M) (nI (rm_oz M x.toNatClampNeg))) 419 (rm_nl M) (M.1 427 x.toNatClampNeg)) 421 (rm_nl M) 0) 422 (rm_nl M) 0) 412 24 0) 412 11 (nI (rm_nl M + 1))))) args s 0 0 (rg_A B)) (F0 m 24 ls []) := by
      intro fu
      induction fu with
      | zero =>
        intro i hm
        exact absurd hm (by omega)
      | succ fu ih =>
        intro i hm  H locs ls hH hl 
        refine lv_iload_n hx hb dX7_choose_24 rfl (lv_at hl 2 rfl) ?_
        refine lv_aload_n hx hb dX7_choose_25 rfl (lv_at hl 0 rfl) ?_
        refine rg_gR C0 hH (o2 := 426) (ci := 7) (k := 22) (o := 412) rfl rfl inT_X7 (by decide) tw_f_X7_51 (by decide) rfl (by decide) rfl dX7_choose_26 ?_
        refine lv_iload_n hx hb dX7_choose_29 rfl (lv_at hl 1 rfl) ?_
        refine rg_ialdN C0 hH (o := 426) (j := o) (n0 := 4) (by decide) rfl rfl (by omega) dX7_choose_30 ?_
        refine rg_topi (y := nI (rm_oz M o)) (by exact hz.1) ?_
        refine lv_icmp_ge (tgt := 65) hx hb dX7_choose_31 (by decide) (fun c_31 => ?_) (fun c_31 => ?_)
        · have q2 := rg_lp_end hm.1 (by omega) c_31
          subst q2
          refine lv_aload_n hx hb dX7_choose_65 rfl (lv_at hl 0 rfl) ?_
          refine rg_gR C0 hH (o2 := 418) (ci := 7) (k := 13) (o := 412) rfl rfl inT_X7 (by decide) tw_f_X7_26 (by decide) rfl (by decide) rfl dX7_choose_66 ?_
          refine lv_aload_n hx hb dX7_choose_69 rfl (lv_at hl 0 rfl) ?_
          refine rg_gI C0 hH (ci := 7) (k := 11) (o := 412) rfl inT_X7 (by decide) tw_f_X7_86 (by decide) rfl (by decide) rfl dX7_choose_70 ?_
          refine rg_topi (y := nI (rm_nl M)) (by exact (rm_CI_l hI).1) ?_
          refine lv_aload_n hx hb dX7_choose_73 rfl (lv_at hl 0 rfl) ?_
          refine rg_gR C0 hH (o2 := 426) (ci := 7) (k := 22) (o := 412) rfl rfl inT_X7 (by decide) tw_f_X7_51 (by decide) rfl (by decide) rfl dX7_choose_74 ?_
          refine lv_iload_n hx hb dX7_choose_77 rfl (lv_at hl 1 rfl) ?_
          refine rg_ialdN C0 hH (o := 426) (j := o) (n0 := 4) (by decide) rfl rfl (by omega) dX7_choose_78 ?_
          refine rg_topi (y := nI (rm_oz M o)) (by exact hz.1) ?_
          refine rg_iastN C0 hH (o := 418) (j := (rm_nl M)) (n0 := 36) (by decide) rfl rfl (by omega) dX7_choose_79 (fun H locs hH => ?_)
          refine lv_aload_n hx hb dX7_choose_80 rfl (lv_at hl 0 rfl) ?_
          refine rg_gR C0 hH (o2 := 419) (ci := 7) (k := 14) (o := 412) rfl rfl inT_X7 (by decide) tw_f_X7_29 (by decide) rfl (by decide) rfl dX7_choose_81 ?_
          refine lv_aload_n hx hb dX7_choose_84 rfl (lv_at hl 0 rfl) ?_
          refine rg_gI C0 hH (ci := 7) (k := 11) (o := 412) rfl inT_X7 (by decide) tw_f_X7_86 (by decide) rfl (by decide) rfl dX7_choose_85 ?_
          refine rg_topi (y := nI (rm_nl M)) (by exact (rm_CI_l hI).1) ?_
          refine lv_aload_n hx hb dX7_choose_88 rfl (lv_at hl 0 rfl) ?_
          refine rg_gR C0 hH (o2 := 427) (ci := 7) (k := 23) (o := 412) rfl rfl inT_X7 (by decide) tw_f_X7_54 (by decide) rfl (by decide) rfl dX7_choose_89 ?_
          refine lv_iload_n hx hb dX7_choose_92 rfl (lv_at hl 1 rfl) ?_
          refine rg_ialdN C0 hH (o := 427) (j := o) (n0 := 4) (by decide) rfl rfl (by omega) dX7_choose_93 ?_
          refine rg_topi (y := M.1 427 o) (by exact rfl) ?_
          refine rg_iastN C0 hH (o := 419) (j := (rm_nl M)) (n0 := 36) (by decide) rfl rfl (by omega) dX7_choose_94 (fun H locs hH => ?_)
          refine lv_aload_n hx hb dX7_choose_95 rfl (lv_at hl 0 rfl) ?_
          refine rg_gR C0 hH (o2 := 421) (ci := 7) (k := 16) (o := 412) rfl rfl inT_X7 (by decide) tw_f_X7_35 (by decide) rfl (by decide) rfl dX7_choose_96 ?_
          refine lv_aload_n hx hb dX7_choose_99 rfl (lv_at hl 0 rfl) ?_
          refine rg_gI C0 hH (ci := 7) (k := 11) (o := 412) rfl inT_X7 (by decide) tw_f_X7_86 (by decide) rfl (by decide) rfl dX7_choose_100 ?_
          refine rg_topi (y := nI (rm_nl M)) (by exact (rm_CI_l hI).1) ?_
          refine lv_iconst (v := 0) hx hb dX7_choose_103 (by decide) ?_
          refine rg_zastN C0 hH (o := 421) (j := (rm_nl M)) (n0 := 36) (by decide) rfl (Or.inl rfl) rfl (by omega) dX7_choose_104 (fun H locs hH => ?_)
          refine lv_aload_n hx hb dX7_choose_105 rfl (lv_at hl 0 rfl) ?_
          refine rg_gR C0 hH (o2 := 422) (ci := 7) (k := 17) (o := 412) rfl rfl inT_X7 (by decide) tw_f_X7_39 (by decide) rfl (by decide) rfl dX7_choose_106 ?_
          refine lv_aload_n hx hb dX7_choose_109 rfl (lv_at hl 0 rfl) ?_
          refine rg_gI C0 hH (ci := 7) (k := 11) (o := 412) rfl inT_X7 (by decide) tw_f_X7_86 (by decide) rfl (by decide) rfl dX7_choose_110 ?_
          refine rg_topi (y := nI (rm_nl M)) (by exact (rm_CI_l hI).1) ?_
          refine lv_iconst (v := 0) hx hb dX7_choose_113 (by decide) ?_
          refine rg_zastN C0 hH (o := 422) (j := (rm_nl M)) (n0 := 36) (by decide) rfl (Or.inl rfl) rfl (by omega) dX7_choose_114 (fun H locs hH => ?_)
          refine lv_aload_n hx hb dX7_choose_115 rfl (lv_at hl 0 rfl) ?_
          refine lv_iconst (v := 0) hx hb dX7_choose_116 (by decide) ?_
          refine rg_pI C0 hH (v := 0) tyX7 tyX7_ok nmX7 (ci := 7) (k := 24) (o := 412) rfl inT_X7 (by decide) tw_f_X7_120 (by decide) rfl (by decide) rfl rfl rfl rfl dX7_choose_117 (fun H locs hH => ?_)
          refine lv_aload_n hx hb dX7_choose_120 rfl (lv_at hl 0 rfl) ?_
          refine lv_dup hx hb dX7_choose_121 rfl ?_
          refine rg_gI C0 hH (ci := 7) (k := 11) (o := 412) rfl inT_X7 (by decide) tw_f_X7_86 (by decide) rfl (by decide) rfl dX7_choose_122 ?_
          refine rg_topi (y := nI (rm_nl M)) (by exact (rm_CI_l hI).1) ?_
          refine lv_iconst (v := 1) hx hb dX7_choose_125 (by decide) ?_
          refine lv_iadd hx hb dX7_choose_126 ?_
          refine rg_topi (y := nI ((rm_nl M) + 1)) (by exact nI_add (rm_nl M) (1)) ?_
          refine rg_pI C0 hH (v := nI ((rm_nl M) + 1)) tyX7 tyX7_ok nmX7 (ci := 7) (k := 11) (o := 412) rfl inT_X7 (by decide) tw_f_X7_86 (by decide) rfl (by decide) rfl rfl rfl rfl dX7_choose_127 (fun H locs hH => ?_)
          refine lv_aload_n hx hb dX7_choose_130 rfl (lv_at hl 0 rfl) ?_
          refine rg_gI C0 hH (ci := 7) (k := 11) (o := 412) rfl inT_X7 (by decide) tw_f_X7_86 (by decide) rfl (by decide) rfl dX7_choose_131 ?_
          refine rg_topi (y := nI (rm_nl M + 1)) (by exact rm_get) ?_
          refine lv_iconst (v := 1) hx hb dX7_choose_134 (by decide) ?_
          refine lv_isub hx hb dX7_choose_135 ?_
          refine rg_topi (y := nI (rm_nl M)) (by exact nI_pred _) ?_
          exact rg_retWi C0 hH hr hlocks (by exact Or.inr ⟨rg_b_ne.mp c_17, rfl, by rw [hxn]⟩) dX7_choose_136
        · have hlt2 := rg_lp_lt hm.1 (by omega) c_31
          refine lv_aload_n hx hb dX7_choose_34 rfl (lv_at hl 0 rfl) ?_
          refine rg_gR C0 hH (o2 := 417) (ci := 7) (k := 12) (o := 412) rfl rfl inT_X7 (by decide) tw_f_X7_23 (by decide) rfl (by decide) rfl dX7_choose_35 ?_
          refine lv_bipush (v := 6) hx hb dX7_choose_38 (by decide) ?_
          refine lv_aload_n hx hb dX7_choose_40 rfl (lv_at hl 0 rfl) ?_
          refine rg_gI C0 hH (ci := 7) (k := 11) (o := 412) rfl inT_X7 (by decide) tw_f_X7_86 (by decide) rfl (by decide) rfl dX7_choose_41 ?_
          refine rg_topi (y := nI (rm_nl M)) (by exact (rm_CI_l hI).1) ?_
          refine lv_imul hx hb dX7_choose_44 ?_
          refine rg_topi (y := nI (6 * (rm_nl M))) (by exact rm_mul (6) (rm_nl M)) ?_
          refine lv_iload_n hx hb dX7_choose_45 rfl (lv_at hl 2 rfl) ?_
          refine lv_iadd hx hb dX7_choose_46 ?_
          refine rg_topi (y := nI ((6 * (rm_nl M)) + i)) (by exact nI_add (6 * (rm_nl M)) (i)) ?_
          refine lv_aload_n hx hb dX7_choose_47 rfl (lv_at hl 0 rfl) ?_
          refine rg_gR C0 hH (o2 := 425) (ci := 7) (k := 21) (o := 412) rfl rfl inT_X7 (by decide) tw_f_X7_48 (by decide) rfl (by decide) rfl dX7_choose_48 ?_
          refine lv_bipush (v := 6) hx hb dX7_choose_51 (by decide) ?_
          refine lv_iload_n hx hb dX7_choose_53 rfl (lv_at hl 1 rfl) ?_
          refine lv_imul hx hb dX7_choose_54 ?_
          refine rg_topi (y := nI (6 * o)) (by exact rm_mul (6) (o)) ?_
          refine lv_iload_n hx hb dX7_choose_55 rfl (lv_at hl 2 rfl) ?_
          refine lv_iadd hx hb dX7_choose_56 ?_
          refine rg_topi (y := nI ((6 * o) + i)) (by exact nI_add (6 * o) (i)) ?_
          refine rg_ialdN C0 hH (o := 425) (j := ((6 * o) + i)) (n0 := 24) (by decide) rfl rfl (by omega) dX7_choose_57 ?_
          refine rg_topi (y := M.1 425 (6 * o + i)) (by exact rfl) ?_
          refine rg_iastN C0 hH (o := 417) (j := ((6 * (rm_nl M)) + i)) (n0 := 216) (by decide) rfl rfl (by omega) dX7_choose_58 (fun H locs hH => ?_)
          refine lv_iinc (v := nI (i + 1)) (lv' := [(2, .int (nI (i + 1))), (0, .ref (B + 412)), (1, .int (nI o))]) hx hb dX7_choose_59 hl (k := 2) rfl (nI_1 _) (by decide) rfl (fun ls hl => ?_)
          refine lv_goto (tgt := 24) hx hb dX7_choose_62 (by decide) ?_
          exact ih (i + 1) (by omega) _ _ _ (rg_H_eq (by exact rm_cy_s) hH) (lv_sub hl [1, 2, 0] rfl)
    exact cut_24 (rm_oz M o + 1) 0 (by omega) _ _ _ (rg_H_eq (by exact rm_cy_0) hH) (lv_sub hl [1, 2, 0] rfl)
  · refine lv_iconst (v := 0) hx hb dX7_choose_20 (by decide) ?_
    exact rg_retWi C0 hH hr hlocks (by exact Or.inl ⟨rg_b_eq.mp c_17, rfl, rfl⟩) dX7_choose_21

set_option maxHeartbeats 4000000 in
set_option maxRecDepth 100000 in
/-- offer -/
theorem k_X7_offer (l : Launch) (E : rg_Env) (B : Nat) (M : rg_Mem) (z : Int32) (hI : rm_CI M) : Met l yX7_offer (rg_w yX7_offer cX7_offer 4 (some (FieldType.int))) ({ frames := 4, cells := 0, slots := 0, locals := 95 } : Room) (va_Pc [.ref (B + 412), .int (z)] (rg_Pre E B 433 rg_R0 M)) (rg_Wi E B 433 rg_R0 (fun r M1 => (¬ rm_go (rg_b (rm_ip M z)) (rg_b (¬ M.1 412 6 = 0 ∧ ¬ rm_fin M ∧ ¬ 4 ≤ M.1 412 24)) 1 = 0 ∧ r = 0 ∧ M1 = rg_I M 412 33 (rm_go (rg_b (rm_ip M z)) (rg_b (¬ M.1 412 6 = 0 ∧ ¬ rm_fin M ∧ ¬ 4 ≤ M.1 412 24)) 1)) ∨ (rm_go (rg_b (rm_ip M z)) (rg_b (¬ M.1 412 6 = 0 ∧ ¬ rm_fin M ∧ ¬ 4 ≤ M.1 412 24)) 1 = 0 ∧ ((¬ (rm_fo M (M.1 424) (rm_nd M) (rm_nl M) z).1 ≤ 0 ∧ r = -(rm_fo M (M.1 424) (rm_nd M) (rm_nl M) z).1 ∧ rm_wk (rg_I M 412 25 (rm_fo M (M.1 424) (rm_nd M) (rm_nl M) z).2) M1) ∨ ((rm_fo M (M.1 424) (rm_nd M) (rm_nl M) z).1 ≤ 0 ∧ r = nI (rm_no M) ∧ rm_wk (rg_I (rg_I (rg_I (rg_I (rm_cy M 425 (6 * rm_no M) (M.1 424) (rm_nd M)) 426 (rm_no M) (nI (rm_nd M))) 427 (rm_no M) z) 412 20 0) 412 24 (nI (rm_no M + 1))) M1)) ∧ M1.1 412 33 = 0))) 0 0 (rg_A B) := by
  refine rg_ofW (by decide +kernel) rfl (Nat.le_of_ble_eq_true rfl) ?_
  intro p e s m args below meth c ls C0 hH hl hr hlocks hnm
  replace hl : lv_has ls 4 [(0, .ref (B + 412)), (1, .int (z))] := hl
  have hx := C0.1.1
  have hb := C0.1.2.1
  generalize hH9 : s.heap = H at hH ⊢
  generalize hL9 : ([] : List Loc) = locs at hH ⊢
  clear hH9 hL9
  refine lv_aload_n hx hb dX7_offer_0 rfl (lv_at hl 0 rfl) ?_
  refine lv_aload_n hx hb dX7_offer_1 rfl (lv_at hl 0 rfl) ?_
  refine lv_iload_n hx hb dX7_offer_2 rfl (lv_at hl 1 rfl) ?_
  refine rg_callGi C0 hH (As := [.int (z)]) (rest := [.ref (B + 412)]) (o := 412) (ci := 7) (k_X7_isPoet l E B M z (by exact hI)) (rg_cw 1 C0.1.2.2.2.2 tw_m_X7_176 tw_i_X7_isPoet tw_v_X7_isPoet tw_n_X7 tw_c_X7_isPoet rfl rfl hd_X7_isPoet ⟨Nat.le_of_ble_eq_true rfl, Nat.le_of_ble_eq_true rfl⟩) rfl (by decide) rfl (by decide) rfl hl.1 rfl (Nat.le_of_ble_eq_true rfl) dX7_offer_3 ⟨Nat.le_of_ble_eq_true rfl, Nat.le_of_ble_eq_true rfl⟩ (fun H locs hH => ?_)
  refine lv_aload_n hx hb dX7_offer_6 rfl (lv_at hl 0 rfl) ?_
  have cut_33 : ∀  (H : Heap) (locs : List Loc) (ls : Array Slot), rg_H E B 433 rg_R0 M s H locs → lv_has ls 4 [(0, .ref (B + 412)), (1, .int (z))] → W p l e ({ frames := 4, cells := 0, slots := 0, locals := 95 } : Room) s m args below meth c H locs 0 0 (MQ below (rg_Wi E B 433 rg_R0 (fun r M1 => (¬ rm_go (rg_b (rm_ip M z)) (rg_b (¬ M.1 412 6 = 0 ∧ ¬ rm_fin M ∧ ¬ 4 ≤ M.1 412 24)) 1 = 0 ∧ r = 0 ∧ M1 = rg_I M 412 33 (rm_go (rg_b (rm_ip M z)) (rg_b (¬ M.1 412 6 = 0 ∧ ¬ rm_fin M ∧ ¬ 4 ≤ M.1 412 24)) 1)) ∨ (rm_go (rg_b (rm_ip M z)) (rg_b (¬ M.1 412 6 = 0 ∧ ¬ rm_fin M ∧ ¬ 4 ≤ M.1 412 24)) 1 = 0 ∧ ((¬ (rm_fo M (M.1 424) (rm_nd M) (rm_nl M) z).1 ≤ 0 ∧ r = -(rm_fo M (M.1 424) (rm_nd M) (rm_nl M) z).1 ∧ rm_wk (rg_I M 412 25 (rm_fo M (M.1 424) (rm_nd M) (rm_nl M) z).2) M1) ∨ ((rm_fo M (M.1 424) (rm_nd M) (rm_nl M) z).1 ≤ 0 ∧ r = nI (rm_no M) ∧ rm_wk (rg_I (rg_I (rg_I (rg_I (rm_cy M 425 (6 * rm_no M) (M.1 424) (rm_nd M)) 426 (rm_no M) (nI (rm_nd M))) 427 (rm_no M) z) 412 20 0) 412 24 (nI (rm_no M + 1))) M1)) ∧ M1.1 412 33 = 0))) args s 0 0 (rg_A B)) (F0 m 33 ls [.int (rg_b (¬ M.1 412 6 = 0 ∧ ¬ rm_fin M ∧ ¬ 4 ≤ M.1 412 24)), .int (rg_b (rm_ip M z)), .ref (B + 412)]) := by
    intro  H locs ls hH hl 
    refine lv_iconst (v := 1) hx hb dX7_offer_33 (by decide) ?_
    refine rg_callGi C0 hH (As := [.int (rg_b (rm_ip M z)), .int (rg_b (¬ M.1 412 6 = 0 ∧ ¬ rm_fin M ∧ ¬ 4 ≤ M.1 412 24)), .int (1)]) (rest := []) (o := 412) (ci := 7) (k_X7_goes l E B M (rg_b (rm_ip M z)) (rg_b (¬ M.1 412 6 = 0 ∧ ¬ rm_fin M ∧ ¬ 4 ≤ M.1 412 24)) 1) (rg_cw 3 C0.1.2.2.2.2 tw_m_X7_92 tw_i_X7_goes tw_v_X7_goes tw_n_X7 tw_c_X7_goes rfl rfl hd_X7_goes ⟨Nat.le_of_ble_eq_true rfl, Nat.le_of_ble_eq_true rfl⟩) rfl (by decide) rfl (by decide) rfl hl.1 rfl (Nat.le_of_ble_eq_true rfl) dX7_offer_34 ⟨Nat.le_of_ble_eq_true rfl, Nat.le_of_ble_eq_true rfl⟩ (fun H locs hH => ?_)
    refine lv_if_ne (tgt := 42) hx hb dX7_offer_37 (by decide) (fun c_37 => ?_) (fun c_37 => ?_)
    · have hg := rm_go_inv (rg_b_ne.mp c_37)
      have hP := rg_b_ne.mp hg.1
      have hQ := rg_b_ne.mp hg.2.1
      have hnd := rm_CI_d hI
      have hno := rm_CI_o hI
      have h4 := rm_lt40 hno.1 (by omega) (m := 4) rfl hQ.2.2
      have hnf := rm_nfin hI hQ.2.1
      have hnl := (rm_CI_l hI).1
      have hd6 := hnd.2.1
      refine lv_aload_n hx hb dX7_offer_42 rfl (lv_at hl 0 rfl) ?_
      refine lv_aload_n hx hb dX7_offer_43 rfl (lv_at hl 0 rfl) ?_
      refine rg_gI C0 hH (ci := 7) (k := 20) (o := 412) rfl inT_X7 (by decide) tw_f_X7_126 (by decide) rfl (by decide) rfl dX7_offer_44 ?_
      refine rg_topi (y := nI (rm_nd M)) (by exact hnd.1) ?_
      refine rg_pI C0 hH (v := nI (rm_nd M)) tyX7 tyX7_ok nmX7 (ci := 7) (k := 31) (o := 412) rfl inT_X7 (by decide) tw_f_X7_133 (by decide) rfl (by decide) rfl rfl rfl rfl dX7_offer_47 (fun H locs hH => ?_)
      refine lv_iconst (v := 0) hx hb dX7_offer_50 (by decide) ?_
      refine lv_istore_n (lv' := [(2, .int (0)), (0, .ref (B + 412)), (1, .int (z))]) hx hb dX7_offer_51 rfl hl (by decide) rfl (fun ls hl => ?_)
      have cut_52 : ∀ (fu i : Nat), i ≤ rm_nd M ∧ rm_nd M < i + fu → ∀  (H : Heap) (locs : List Loc) (ls : Array Slot), rg_H E B 433 rg_R0 (rm_lay (rg_I (rg_I M 412 33 (rm_go (rg_b (rm_ip M z)) (rg_b (¬ M.1 412 6 = 0 ∧ ¬ rm_fin M ∧ ¬ 4 ≤ M.1 412 24)) 1)) 412 31 (nI (rm_nd M))) (M.1 424) i) s H locs → lv_has ls 4 [(0, .ref (B + 412)), (1, .int (z)), (2, .int (nI i))] → W p l e ({ frames := 4, cells := 0, slots := 0, locals := 95 } : Room) s m args below meth c H locs 0 0 (MQ below (rg_Wi E B 433 rg_R0 (fun r M1 => (¬ rm_go (rg_b (rm_ip M z)) (rg_b (¬ M.1 412 6 = 0 ∧ ¬ rm_fin M ∧ ¬ 4 ≤ M.1 412 24)) 1 = 0 ∧ r = 0 ∧ M1 = rg_I M 412 33 (rm_go (rg_b (rm_ip M z)) (rg_b (¬ M.1 412 6 = 0 ∧ ¬ rm_fin M ∧ ¬ 4 ≤ M.1 412 24)) 1)) ∨ (rm_go (rg_b (rm_ip M z)) (rg_b (¬ M.1 412 6 = 0 ∧ ¬ rm_fin M ∧ ¬ 4 ≤ M.1 412 24)) 1 = 0 ∧ ((¬ (rm_fo M (M.1 424) (rm_nd M) (rm_nl M) z).1 ≤ 0 ∧ r = -(rm_fo M (M.1 424) (rm_nd M) (rm_nl M) z).1 ∧ rm_wk (rg_I M 412 25 (rm_fo M (M.1 424) (rm_nd M) (rm_nl M) z).2) M1) ∨ ((rm_fo M (M.1 424) (rm_nd M) (rm_nl M) z).1 ≤ 0 ∧ r = nI (rm_no M) ∧ rm_wk (rg_I (rg_I (rg_I (rg_I (rm_cy M 425 (6 * rm_no M) (M.1 424) (rm_nd M)) 426 (rm_no M) (nI (rm_nd M))) 427 (rm_no M) z) 412 20 0) 412 24 (nI (rm_no M + 1))) M1)) ∧ M1.1 412 33 = 0))) args s 0 0 (rg_A B)) (F0 m 52 ls []) := by
        intro fu
        induction fu with
        | zero =>
          intro i hm
          exact absurd hm (by omega)
        | succ fu ih =>
          intro i hm  H locs ls hH hl 
          refine lv_iload_n hx hb dX7_offer_52 rfl (lv_at hl 2 rfl) ?_
          refine lv_aload_n hx hb dX7_offer_53 rfl (lv_at hl 0 rfl) ?_
          refine rg_gI C0 hH (ci := 7) (k := 20) (o := 412) rfl inT_X7 (by decide) tw_f_X7_126 (by decide) rfl (by decide) rfl dX7_offer_54 ?_
          refine rg_topi (y := nI (rm_nd M)) (by exact hnd.1) ?_
          refine lv_icmp_ge (tgt := 78) hx hb dX7_offer_57 (by decide) (fun c_57 => ?_) (fun c_57 => ?_)
          · have q2 := rg_lp_end hm.1 (by omega) c_57
            subst q2
            obtain ⟨M2, h_M2⟩ : ∃ X, X = rm_lay (rg_I (rg_I M 412 33 (rm_go (rg_b (rm_ip M z)) (rg_b (¬ M.1 412 6 = 0 ∧ ¬ rm_fin M ∧ ¬ 4 ≤ M.1 412 24)) 1)) 412 31 (nI (rm_nd M))) (M.1 424) (rm_nd M) := ⟨_, rfl⟩
            rw [← h_M2] at hH
            obtain ⟨hwk, h31, hrow, h33⟩ := rm_lay_f2 h_M2
            refine lv_aload_n hx hb dX7_offer_78 rfl (lv_at hl 0 rfl) ?_
            refine lv_aload_n hx hb dX7_offer_79 rfl (lv_at hl 0 rfl) ?_
            refine rg_gI C0 hH (ci := 7) (k := 11) (o := 412) rfl inT_X7 (by decide) tw_f_X7_86 (by decide) rfl (by decide) rfl dX7_offer_80 ?_
            refine rg_topi (y := nI (rm_nl M)) (by exact (hwk.2 11 (by omega)).trans hnl) ?_
            refine lv_iload_n hx hb dX7_offer_83 rfl (lv_at hl 1 rfl) ?_
            refine rg_callRi C0 hH (As := [.int (nI (rm_nl M)), .int (z)]) (rest := []) (o := 412) (ci := 7) (k_X7_faultOf l E B M2 (rm_nd M) (rm_nl M) z (rm_CI_eq hI (rm_wk_eq hwk)) h31 hnd.2.1 (rm_hrw hwk hrow hnd.2.2) (by rw [rm_nl_e (rm_wk_eq hwk)]; exact (Nat.le_refl _)) hnf.2) (rg_cw 2 C0.1.2.2.2.2 tw_m_X7_179 tw_i_X7_faultOf tw_v_X7_faultOf tw_n_X7 tw_c_X7_faultOf rfl rfl hd_X7_faultOf ⟨Nat.le_of_ble_eq_true rfl, Nat.le_of_ble_eq_true rfl⟩) rfl (by decide) rfl (by decide) rfl hl.1 rfl (Nat.le_of_ble_eq_true rfl) dX7_offer_84 ⟨Nat.le_of_ble_eq_true rfl, Nat.le_of_ble_eq_true rfl⟩ (fun r_84 H locs e_84 hH => ?_)
            refine rg_topi (y := (rm_fo M (M.1 424) (rm_nd M) (rm_nl M) z).1) (by rw [e_84, rm_fo_k hwk hrow]) ?_
            obtain ⟨M3, h_M3⟩ : ∃ X, X = rg_I M2 412 32 (rm_fo M2 (M2.1 431) (rm_nd M) (rm_nl M) z).2 := ⟨_, rfl⟩
            rw [← h_M3] at hH
            obtain ⟨hwk3, h32, h333⟩ := rm_cau h_M3 hwk hrow h33
            refine lv_istore_n (lv' := [(2, .int ((rm_fo M (M.1 424) (rm_nd M) (rm_nl M) z).1)), (0, .ref (B + 412)), (1, .int (z))]) hx hb dX7_offer_87 rfl hl (by decide) rfl (fun ls hl => ?_)
            refine lv_iload_n hx hb dX7_offer_88 rfl (lv_at hl 0 rfl) ?_
            refine lv_if_le (tgt := 103) hx hb dX7_offer_89 (by decide) (fun c_89 => ?_) (fun c_89 => ?_)
            · refine lv_iconst (v := 0) hx hb dX7_offer_103 (by decide) ?_
              refine lv_istore_n (lv' := [(3, .int (0)), (2, .int ((rm_fo M (M.1 424) (rm_nd M) (rm_nl M) z).1)), (0, .ref (B + 412)), (1, .int (z))]) hx hb dX7_offer_104 rfl hl (by decide) rfl (fun ls hl => ?_)
              have cut_105 : ∀ (fu2 k : Nat), k ≤ rm_nd M ∧ rm_nd M < k + fu2 → ∀  (H : Heap) (locs : List Loc) (ls : Array Slot), rg_H E B 433 rg_R0 (rm_cy M3 425 (6 * rm_no M) (M.1 424) k) s H locs → lv_has ls 4 [(0, .ref (B + 412)), (1, .int (z)), (3, .int (nI k))] → W p l e ({ frames := 4, cells := 0, slots := 0, locals := 95 } : Room) s m args below meth c H locs 0 0 (MQ below (rg_Wi E B 433 rg_R0 (fun r M1 => (¬ rm_go (rg_b (rm_ip M z)) (rg_b (¬ M.1 412 6 = 0 ∧ ¬ rm_fin M ∧ ¬ 4 ≤ M.1 412 24)) 1 = 0 ∧ r = 0 ∧ M1 = rg_I M 412 33 (rm_go (rg_b (rm_ip M z)) (rg_b (¬ M.1 412 6 = 0 ∧ ¬ rm_fin M ∧ ¬ 4 ≤ M.1 412 24)) 1)) ∨ (rm_go (rg_b (rm_ip M z)) (rg_b (¬ M.1 412 6 = 0 ∧ ¬ rm_fin M ∧ ¬ 4 ≤ M.1 412 24)) 1 = 0 ∧ ((¬ (rm_fo M (M.1 424) (rm_nd M) (rm_nl M) z).1 ≤ 0 ∧ r = -(rm_fo M (M.1 424) (rm_nd M) (rm_nl M) z).1 ∧ rm_wk (rg_I M 412 25 (rm_fo M (M.1 424) (rm_nd M) (rm_nl M) z).2) M1) ∨ ((rm_fo M (M.1 424) (rm_nd M) (rm_nl M) z).1 ≤ 0 ∧ r = nI (rm_no M) ∧ rm_wk (rg_I (rg_I (rg_I (rg_I (rm_cy M 425 (6 * rm_no M) (M.1 424) (rm_nd M)) 426 (rm_no M) (nI (rm_nd M))) 427 (rm_no M) z) 412 20 0) 412 24 (nI (rm_no M + 1))) M1)) ∧ M1.1 412 33 = 0))) args s 0 0 (rg_A B)) (F0 m 105 ls []) := by
                intro fu2
                induction fu2 with
                | zero =>
                  intro k hm2
                  exact absurd hm2 (by omega)
                | succ fu2 ih2 =>
                  intro k hm2  H locs ls hH hl 
                  refine lv_iload_n hx hb dX7_offer_105 rfl (lv_at hl 2 rfl) ?_
                  refine lv_aload_n hx hb dX7_offer_106 rfl (lv_at hl 0 rfl) ?_
                  refine rg_gI C0 hH (ci := 7) (k := 20) (o := 412) rfl inT_X7 (by decide) tw_f_X7_126 (by decide) rfl (by decide) rfl dX7_offer_107 ?_
                  refine rg_topi (y := nI (rm_nd M)) (by exact (hwk3.2 20 (by omega)).trans hnd.1) ?_
                  refine lv_icmp_ge (tgt := 139) hx hb dX7_offer_110 (by decide) (fun c_110 => ?_) (fun c_110 => ?_)
                  · have q2 := rg_lp_end hm2.1 (by omega) c_110
                    subst q2
                    refine lv_aload_n hx hb dX7_offer_139 rfl (lv_at hl 0 rfl) ?_
                    refine rg_gR C0 hH (o2 := 426) (ci := 7) (k := 22) (o := 412) rfl rfl inT_X7 (by decide) tw_f_X7_51 (by decide) rfl (by decide) rfl dX7_offer_140 ?_
                    refine lv_aload_n hx hb dX7_offer_143 rfl (lv_at hl 0 rfl) ?_
                    refine rg_gI C0 hH (ci := 7) (k := 24) (o := 412) rfl inT_X7 (by decide) tw_f_X7_120 (by decide) rfl (by decide) rfl dX7_offer_144 ?_
                    refine rg_topi (y := nI (rm_no M)) (by exact (hwk3.2 24 (by omega)).trans hno.1) ?_
                    refine lv_aload_n hx hb dX7_offer_147 rfl (lv_at hl 0 rfl) ?_
                    refine rg_gI C0 hH (ci := 7) (k := 20) (o := 412) rfl inT_X7 (by decide) tw_f_X7_126 (by decide) rfl (by decide) rfl dX7_offer_148 ?_
                    refine rg_topi (y := nI (rm_nd M)) (by exact (hwk3.2 20 (by omega)).trans hnd.1) ?_
                    refine rg_iastN C0 hH (o := 426) (j := (rm_no M)) (n0 := 4) (by decide) rfl rfl (by omega) dX7_offer_151 (fun H locs hH => ?_)
                    refine lv_aload_n hx hb dX7_offer_152 rfl (lv_at hl 0 rfl) ?_
                    refine rg_gR C0 hH (o2 := 427) (ci := 7) (k := 23) (o := 412) rfl rfl inT_X7 (by decide) tw_f_X7_54 (by decide) rfl (by decide) rfl dX7_offer_153 ?_
                    refine lv_aload_n hx hb dX7_offer_156 rfl (lv_at hl 0 rfl) ?_
                    refine rg_gI C0 hH (ci := 7) (k := 24) (o := 412) rfl inT_X7 (by decide) tw_f_X7_120 (by decide) rfl (by decide) rfl dX7_offer_157 ?_
                    refine rg_topi (y := nI (rm_no M)) (by exact (hwk3.2 24 (by omega)).trans hno.1) ?_
                    refine lv_iload_n hx hb dX7_offer_160 rfl (lv_at hl 1 rfl) ?_
                    refine rg_iastN C0 hH (o := 427) (j := (rm_no M)) (n0 := 4) (by decide) rfl rfl (by omega) dX7_offer_161 (fun H locs hH => ?_)
                    refine lv_aload_n hx hb dX7_offer_162 rfl (lv_at hl 0 rfl) ?_
                    refine lv_iconst (v := 0) hx hb dX7_offer_163 (by decide) ?_
                    refine rg_pI C0 hH (v := 0) tyX7 tyX7_ok nmX7 (ci := 7) (k := 20) (o := 412) rfl inT_X7 (by decide) tw_f_X7_126 (by decide) rfl (by decide) rfl rfl rfl rfl dX7_offer_164 (fun H locs hH => ?_)
                    refine lv_aload_n hx hb dX7_offer_167 rfl (lv_at hl 0 rfl) ?_
                    refine lv_dup hx hb dX7_offer_168 rfl ?_
                    refine rg_gI C0 hH (ci := 7) (k := 24) (o := 412) rfl inT_X7 (by decide) tw_f_X7_120 (by decide) rfl (by decide) rfl dX7_offer_169 ?_
                    refine rg_topi (y := nI (rm_no M)) (by exact (hwk3.2 24 (by omega)).trans hno.1) ?_
                    refine lv_iconst (v := 1) hx hb dX7_offer_172 (by decide) ?_
                    refine lv_iadd hx hb dX7_offer_173 ?_
                    refine rg_topi (y := nI ((rm_no M) + 1)) (by exact nI_add (rm_no M) (1)) ?_
                    refine rg_pI C0 hH (v := nI ((rm_no M) + 1)) tyX7 tyX7_ok nmX7 (ci := 7) (k := 24) (o := 412) rfl inT_X7 (by decide) tw_f_X7_120 (by decide) rfl (by decide) rfl rfl rfl rfl dX7_offer_174 (fun H locs hH => ?_)
                    refine lv_aload_n hx hb dX7_offer_177 rfl (lv_at hl 0 rfl) ?_
                    refine rg_gI C0 hH (ci := 7) (k := 24) (o := 412) rfl inT_X7 (by decide) tw_f_X7_120 (by decide) rfl (by decide) rfl dX7_offer_178 ?_
                    refine rg_topi (y := nI (rm_no M + 1)) (by exact rm_get) ?_
                    refine lv_iconst (v := 1) hx hb dX7_offer_181 (by decide) ?_
                    refine lv_isub hx hb dX7_offer_182 ?_
                    refine rg_topi (y := nI (rm_no M)) (by exact nI_pred _) ?_
                    exact rg_retWi C0 hH hr hlocks (by exact Or.inr ⟨rg_b_ne.mp c_37, Or.inr ⟨c_89, rfl, rm_wk_i (rm_wk_i (rm_wk_i (rm_wk_i (rm_wk_cy hwk3))))⟩, h333.trans (rg_b_ne.mp c_37)⟩) dX7_offer_183
                  · have hlt2 := rg_lp_lt hm2.1 (by omega) c_110
                    refine lv_aload_n hx hb dX7_offer_113 rfl (lv_at hl 0 rfl) ?_
                    refine rg_gR C0 hH (o2 := 425) (ci := 7) (k := 21) (o := 412) rfl rfl inT_X7 (by decide) tw_f_X7_48 (by decide) rfl (by decide) rfl dX7_offer_114 ?_
                    refine lv_bipush (v := 6) hx hb dX7_offer_117 (by decide) ?_
                    refine lv_aload_n hx hb dX7_offer_119 rfl (lv_at hl 0 rfl) ?_
                    refine rg_gI C0 hH (ci := 7) (k := 24) (o := 412) rfl inT_X7 (by decide) tw_f_X7_120 (by decide) rfl (by decide) rfl dX7_offer_120 ?_
                    refine rg_topi (y := nI (rm_no M)) (by exact (hwk3.2 24 (by omega)).trans hno.1) ?_
                    refine lv_imul hx hb dX7_offer_123 ?_
                    refine rg_topi (y := nI (6 * (rm_no M))) (by exact rm_mul (6) (rm_no M)) ?_
                    refine lv_iload_n hx hb dX7_offer_124 rfl (lv_at hl 2 rfl) ?_
                    refine lv_iadd hx hb dX7_offer_125 ?_
                    refine rg_topi (y := nI ((6 * (rm_no M)) + k)) (by exact nI_add (6 * (rm_no M)) (k)) ?_
                    refine lv_aload_n hx hb dX7_offer_126 rfl (lv_at hl 0 rfl) ?_
                    refine rg_gR C0 hH (o2 := 424) (ci := 7) (k := 19) (o := 412) rfl rfl inT_X7 (by decide) tw_f_X7_45 (by decide) rfl (by decide) rfl dX7_offer_127 ?_
                    refine lv_iload_n hx hb dX7_offer_130 rfl (lv_at hl 2 rfl) ?_
                    refine rg_ialdN C0 hH (o := 424) (j := k) (n0 := 6) (by decide) rfl rfl (by omega) dX7_offer_131 ?_
                    refine rg_topi (y := M.1 424 k) (by exact congrFun (hwk3.1 424 (by omega) (by omega)).1 k) ?_
                    refine rg_iastN C0 hH (o := 425) (j := ((6 * (rm_no M)) + k)) (n0 := 24) (by decide) rfl rfl (by omega) dX7_offer_132 (fun H locs hH => ?_)
                    refine lv_iinc (v := nI (k + 1)) (lv' := [(3, .int (nI (k + 1))), (0, .ref (B + 412)), (1, .int (z))]) hx hb dX7_offer_133 hl (k := 2) rfl (nI_1 _) (by decide) rfl (fun ls hl => ?_)
                    refine lv_goto (tgt := 105) hx hb dX7_offer_136 (by decide) ?_
                    exact ih2 (k + 1) (by omega) _ _ _ (rg_H_eq (by exact rm_cy_s) hH) (lv_sub hl [1, 2, 0] rfl)
              exact cut_105 (rm_nd M + 1) 0 (by omega) _ _ _ (rg_H_eq (by exact rm_cy_0) hH) (lv_sub hl [2, 3, 0] rfl)
            · refine lv_aload_n hx hb dX7_offer_92 rfl (lv_at hl 1 rfl) ?_
              refine lv_aload_n hx hb dX7_offer_93 rfl (lv_at hl 1 rfl) ?_
              refine rg_gI C0 hH (ci := 7) (k := 32) (o := 412) rfl inT_X7 (by decide) tw_f_X7_155 (by decide) rfl (by decide) rfl dX7_offer_94 ?_
              refine rg_topi (y := (rm_fo M (M.1 424) (rm_nd M) (rm_nl M) z).2) (by exact h32) ?_
              refine rg_pI C0 hH (v := (rm_fo M (M.1 424) (rm_nd M) (rm_nl M) z).2) tyX7 tyX7_ok nmX7 (ci := 7) (k := 25) (o := 412) rfl inT_X7 (by decide) tw_f_X7_57 (by decide) rfl (by decide) rfl rfl rfl rfl dX7_offer_97 (fun H locs hH => ?_)
              refine lv_iload_n hx hb dX7_offer_100 rfl (lv_at hl 0 rfl) ?_
              refine lv_ineg hx hb dX7_offer_101 ?_
              exact rg_retWi C0 hH hr hlocks (by exact Or.inr ⟨rg_b_ne.mp c_37, Or.inl ⟨c_89, rfl, rm_wk_i hwk3⟩, (rm_sl (by omega)).trans (h333.trans (rg_b_ne.mp c_37))⟩) dX7_offer_102
          · have hlt := rg_lp_lt hm.1 (by omega) c_57
            refine lv_aload_n hx hb dX7_offer_60 rfl (lv_at hl 0 rfl) ?_
            refine rg_gR C0 hH (o2 := 431) (ci := 7) (k := 30) (o := 412) rfl rfl inT_X7 (by decide) tw_f_X7_70 (by decide) rfl (by decide) rfl dX7_offer_61 ?_
            refine lv_iload_n hx hb dX7_offer_64 rfl (lv_at hl 2 rfl) ?_
            refine lv_aload_n hx hb dX7_offer_65 rfl (lv_at hl 0 rfl) ?_
            refine rg_gR C0 hH (o2 := 424) (ci := 7) (k := 19) (o := 412) rfl rfl inT_X7 (by decide) tw_f_X7_45 (by decide) rfl (by decide) rfl dX7_offer_66 ?_
            refine lv_iload_n hx hb dX7_offer_69 rfl (lv_at hl 2 rfl) ?_
            refine rg_ialdN C0 hH (o := 424) (j := i) (n0 := 6) (by decide) rfl rfl (by omega) dX7_offer_70 ?_
            refine rg_topi (y := M.1 424 i) (by exact rfl) ?_
            refine rg_iastN C0 hH (o := 431) (j := i) (n0 := 6) (by decide) rfl rfl (by omega) dX7_offer_71 (fun H locs hH => ?_)
            refine lv_iinc (v := nI (i + 1)) (lv' := [(2, .int (nI (i + 1))), (0, .ref (B + 412)), (1, .int (z))]) hx hb dX7_offer_72 hl (k := 2) rfl (nI_1 _) (by decide) rfl (fun ls hl => ?_)
            refine lv_goto (tgt := 52) hx hb dX7_offer_75 (by decide) ?_
            exact ih (i + 1) (by omega) _ _ _ (rg_H_eq (by exact rm_lay_s) hH) (lv_sub hl [1, 2, 0] rfl)
      exact cut_52 (rm_nd M + 1) 0 (by omega) _ _ _ (rg_H_eq (by exact rm_lay_0) hH) (lv_sub hl [1, 2, 0] rfl)
    · refine lv_iconst (v := 0) hx hb dX7_offer_40 (by decide) ?_
      exact rg_retWi C0 hH hr hlocks (by exact Or.inl ⟨rg_b_eq.mp c_37, rfl, rfl⟩) dX7_offer_41
  refine rg_gI C0 hH (ci := 7) (k := 6) (o := 412) rfl inT_X7 (by decide) tw_f_X7_103 (by decide) rfl (by decide) rfl dX7_offer_7 ?_
  refine lv_if_eq (tgt := 32) hx hb dX7_offer_10 (by decide) (fun c_10 => ?_) (fun c_10 => ?_)
  · refine lv_iconst (v := 0) hx hb dX7_offer_32 (by decide) ?_
    refine rg_topi (y := rg_b (¬ M.1 412 6 = 0 ∧ ¬ rm_fin M ∧ ¬ 4 ≤ M.1 412 24)) (by first | exact rg_b_f (fun q => q.1 c_10) | exact rg_b_f (fun q => q.2.1 (rg_b_ne.mp c_17)) | exact rg_b_f (fun q => q.2.2 c_25)) ?_
    exact cut_33 _ _ _ hH (lv_sub hl [0, 1] rfl)
  · refine lv_aload_n hx hb dX7_offer_13 rfl (lv_at hl 0 rfl) ?_
    refine rg_callGi C0 hH (As := []) (rest := [.int (rg_b (rm_ip M z)), .ref (B + 412)]) (o := 412) (ci := 7) (k_X7_isFinished l E B M) (rg_cw 0 C0.1.2.2.2.2 tw_m_X7_107 tw_i_X7_isFinished tw_v_X7_isFinished tw_n_X7 tw_c_X7_isFinished rfl rfl hd_X7_isFinished ⟨Nat.le_of_ble_eq_true rfl, Nat.le_of_ble_eq_true rfl⟩) rfl (by decide) rfl (by decide) rfl hl.1 rfl (Nat.le_of_ble_eq_true rfl) dX7_offer_14 ⟨Nat.le_of_ble_eq_true rfl, Nat.le_of_ble_eq_true rfl⟩ (fun H locs hH => ?_)
    refine lv_if_ne (tgt := 32) hx hb dX7_offer_17 (by decide) (fun c_17 => ?_) (fun c_17 => ?_)
    · refine lv_iconst (v := 0) hx hb dX7_offer_32 (by decide) ?_
      refine rg_topi (y := rg_b (¬ M.1 412 6 = 0 ∧ ¬ rm_fin M ∧ ¬ 4 ≤ M.1 412 24)) (by first | exact rg_b_f (fun q => q.1 c_10) | exact rg_b_f (fun q => q.2.1 (rg_b_ne.mp c_17)) | exact rg_b_f (fun q => q.2.2 c_25)) ?_
      exact cut_33 _ _ _ hH (lv_sub hl [0, 1] rfl)
    · refine lv_aload_n hx hb dX7_offer_20 rfl (lv_at hl 0 rfl) ?_
      refine rg_gI C0 hH (ci := 7) (k := 24) (o := 412) rfl inT_X7 (by decide) tw_f_X7_120 (by decide) rfl (by decide) rfl dX7_offer_21 ?_
      refine lv_iconst (v := 4) hx hb dX7_offer_24 (by decide) ?_
      refine lv_icmp_ge (tgt := 32) hx hb dX7_offer_25 (by decide) (fun c_25 => ?_) (fun c_25 => ?_)
      · refine lv_iconst (v := 0) hx hb dX7_offer_32 (by decide) ?_
        refine rg_topi (y := rg_b (¬ M.1 412 6 = 0 ∧ ¬ rm_fin M ∧ ¬ 4 ≤ M.1 412 24)) (by first | exact rg_b_f (fun q => q.1 c_10) | exact rg_b_f (fun q => q.2.1 (rg_b_ne.mp c_17)) | exact rg_b_f (fun q => q.2.2 c_25)) ?_
        exact cut_33 _ _ _ hH (lv_sub hl [0, 1] rfl)
      · refine lv_iconst (v := 1) hx hb dX7_offer_28 (by decide) ?_
        refine lv_goto (tgt := 33) hx hb dX7_offer_29 (by decide) ?_
        refine rg_topi (y := rg_b (¬ M.1 412 6 = 0 ∧ ¬ rm_fin M ∧ ¬ 4 ≤ M.1 412 24)) (by exact rg_b_t (⟨c_10, rg_b_eq.mp c_17, c_25⟩)) ?_
        exact cut_33 _ _ _ hH (lv_sub hl [0, 1] rfl)

set_option maxHeartbeats 4000000 in
set_option maxRecDepth 100000 in
/-- mend -/
theorem k_X7_mend (l : Launch) (E : rg_Env) (B : Nat) (M : rg_Mem) (x : Int32) (y : Int32) (hI : rm_CI M) : Met l yX7_mend (rg_w yX7_mend cX7_mend 5 (some (FieldType.int))) ({ frames := 4, cells := 0, slots := 0, locals := 95 } : Room) (va_Pc [.ref (B + 412), .int (x), .int (y)] (rg_Pre E B 433 rg_R0 M)) (rg_Wi E B 433 rg_R0 (fun r M1 => (¬ rm_go (rg_b (¬ M.1 412 11 ≤ 0 ∧ rm_iw M y ∧ rm_in x 0 (M.1 418 (rm_nl M - 1) - 1))) (rg_b (M.1 412 24 = 0)) 1 = 0 ∧ r = 0 ∧ M1 = rg_I M 412 33 (rm_go (rg_b (¬ M.1 412 11 ≤ 0 ∧ rm_iw M y ∧ rm_in x 0 (M.1 418 (rm_nl M - 1) - 1))) (rg_b (M.1 412 24 = 0)) 1)) ∨ (rm_go (rg_b (¬ M.1 412 11 ≤ 0 ∧ rm_iw M y ∧ rm_in x 0 (M.1 418 (rm_nl M - 1) - 1))) (rg_b (M.1 412 24 = 0)) 1 = 0 ∧ ((¬ (rm_fo M (fun k => if k = x.toNatClampNeg then y else rm_w M (rm_nl M - 1) k) (rm_z M (rm_nl M - 1)) (rm_nl M - 1) (-1)).1 ≤ 0 ∧ r = -(rm_fo M (fun k => if k = x.toNatClampNeg then y else rm_w M (rm_nl M - 1) k) (rm_z M (rm_nl M - 1)) (rm_nl M - 1) (-1)).1 ∧ rm_wk (rg_I M 412 25 (rm_fo M (fun k => if k = x.toNatClampNeg then y else rm_w M (rm_nl M - 1) k) (rm_z M (rm_nl M - 1)) (rm_nl M - 1) (-1)).2) M1) ∨ ((rm_fo M (fun k => if k = x.toNatClampNeg then y else rm_w M (rm_nl M - 1) k) (rm_z M (rm_nl M - 1)) (rm_nl M - 1) (-1)).1 ≤ 0 ∧ r = 0 ∧ rm_wk (rg_I (rg_I M 417 (6 * (rm_nl M - 1) + x.toNatClampNeg) y) 422 (rm_nl M - 1) 1) M1)) ∧ M1.1 412 33 = 0))) 0 0 (rg_A B) := by
  refine rg_ofW (by decide +kernel) rfl (Nat.le_of_ble_eq_true rfl) ?_
  intro p e s m args below meth c ls C0 hH hl hr hlocks hnm
  replace hl : lv_has ls 5 [(0, .ref (B + 412)), (1, .int (x)), (2, .int (y))] := hl
  have hx := C0.1.1
  have hb := C0.1.2.1
  generalize hH9 : s.heap = H at hH ⊢
  generalize hL9 : ([] : List Loc) = locs at hH ⊢
  clear hH9 hL9
  have cut_52 : ∀  (H : Heap) (locs : List Loc) (ls : Array Slot), rg_H E B 433 rg_R0 M s H locs → lv_has ls 5 [(0, .ref (B + 412)), (1, .int (x)), (2, .int (y))] → W p l e ({ frames := 4, cells := 0, slots := 0, locals := 95 } : Room) s m args below meth c H locs 0 0 (MQ below (rg_Wi E B 433 rg_R0 (fun r M1 => (¬ rm_go (rg_b (¬ M.1 412 11 ≤ 0 ∧ rm_iw M y ∧ rm_in x 0 (M.1 418 (rm_nl M - 1) - 1))) (rg_b (M.1 412 24 = 0)) 1 = 0 ∧ r = 0 ∧ M1 = rg_I M 412 33 (rm_go (rg_b (¬ M.1 412 11 ≤ 0 ∧ rm_iw M y ∧ rm_in x 0 (M.1 418 (rm_nl M - 1) - 1))) (rg_b (M.1 412 24 = 0)) 1)) ∨ (rm_go (rg_b (¬ M.1 412 11 ≤ 0 ∧ rm_iw M y ∧ rm_in x 0 (M.1 418 (rm_nl M - 1) - 1))) (rg_b (M.1 412 24 = 0)) 1 = 0 ∧ ((¬ (rm_fo M (fun k => if k = x.toNatClampNeg then y else rm_w M (rm_nl M - 1) k) (rm_z M (rm_nl M - 1)) (rm_nl M - 1) (-1)).1 ≤ 0 ∧ r = -(rm_fo M (fun k => if k = x.toNatClampNeg then y else rm_w M (rm_nl M - 1) k) (rm_z M (rm_nl M - 1)) (rm_nl M - 1) (-1)).1 ∧ rm_wk (rg_I M 412 25 (rm_fo M (fun k => if k = x.toNatClampNeg then y else rm_w M (rm_nl M - 1) k) (rm_z M (rm_nl M - 1)) (rm_nl M - 1) (-1)).2) M1) ∨ ((rm_fo M (fun k => if k = x.toNatClampNeg then y else rm_w M (rm_nl M - 1) k) (rm_z M (rm_nl M - 1)) (rm_nl M - 1) (-1)).1 ≤ 0 ∧ r = 0 ∧ rm_wk (rg_I (rg_I M 417 (6 * (rm_nl M - 1) + x.toNatClampNeg) y) 422 (rm_nl M - 1) 1) M1)) ∧ M1.1 412 33 = 0))) args s 0 0 (rg_A B)) (F0 m 52 ls [.int (rg_b (¬ M.1 412 11 ≤ 0 ∧ rm_iw M y ∧ rm_in x 0 (M.1 418 (rm_nl M - 1) - 1)))]) := by
    intro  H locs ls hH hl 
    refine lv_istore_n (lv' := [(3, .int (rg_b (¬ M.1 412 11 ≤ 0 ∧ rm_iw M y ∧ rm_in x 0 (M.1 418 (rm_nl M - 1) - 1)))), (0, .ref (B + 412)), (1, .int (x)), (2, .int (y))]) hx hb dX7_mend_52 rfl hl (by decide) rfl (fun ls hl => ?_)
    refine lv_aload_n hx hb dX7_mend_53 rfl (lv_at hl 1 rfl) ?_
    refine lv_iload_n hx hb dX7_mend_54 rfl (lv_at hl 0 rfl) ?_
    refine lv_aload_n hx hb dX7_mend_55 rfl (lv_at hl 1 rfl) ?_
    have cut_67 : ∀  (H : Heap) (locs : List Loc) (ls : Array Slot), rg_H E B 433 rg_R0 M s H locs → lv_has ls 5 [(3, .int (rg_b (¬ M.1 412 11 ≤ 0 ∧ rm_iw M y ∧ rm_in x 0 (M.1 418 (rm_nl M - 1) - 1)))), (0, .ref (B + 412)), (1, .int (x)), (2, .int (y))] → W p l e ({ frames := 4, cells := 0, slots := 0, locals := 95 } : Room) s m args below meth c H locs 0 0 (MQ below (rg_Wi E B 433 rg_R0 (fun r M1 => (¬ rm_go (rg_b (¬ M.1 412 11 ≤ 0 ∧ rm_iw M y ∧ rm_in x 0 (M.1 418 (rm_nl M - 1) - 1))) (rg_b (M.1 412 24 = 0)) 1 = 0 ∧ r = 0 ∧ M1 = rg_I M 412 33 (rm_go (rg_b (¬ M.1 412 11 ≤ 0 ∧ rm_iw M y ∧ rm_in x 0 (M.1 418 (rm_nl M - 1) - 1))) (rg_b (M.1 412 24 = 0)) 1)) ∨ (rm_go (rg_b (¬ M.1 412 11 ≤ 0 ∧ rm_iw M y ∧ rm_in x 0 (M.1 418 (rm_nl M - 1) - 1))) (rg_b (M.1 412 24 = 0)) 1 = 0 ∧ ((¬ (rm_fo M (fun k => if k = x.toNatClampNeg then y else rm_w M (rm_nl M - 1) k) (rm_z M (rm_nl M - 1)) (rm_nl M - 1) (-1)).1 ≤ 0 ∧ r = -(rm_fo M (fun k => if k = x.toNatClampNeg then y else rm_w M (rm_nl M - 1) k) (rm_z M (rm_nl M - 1)) (rm_nl M - 1) (-1)).1 ∧ rm_wk (rg_I M 412 25 (rm_fo M (fun k => if k = x.toNatClampNeg then y else rm_w M (rm_nl M - 1) k) (rm_z M (rm_nl M - 1)) (rm_nl M - 1) (-1)).2) M1) ∨ ((rm_fo M (fun k => if k = x.toNatClampNeg then y else rm_w M (rm_nl M - 1) k) (rm_z M (rm_nl M - 1)) (rm_nl M - 1) (-1)).1 ≤ 0 ∧ r = 0 ∧ rm_wk (rg_I (rg_I M 417 (6 * (rm_nl M - 1) + x.toNatClampNeg) y) 422 (rm_nl M - 1) 1) M1)) ∧ M1.1 412 33 = 0))) args s 0 0 (rg_A B)) (F0 m 67 ls [.int (rg_b (M.1 412 24 = 0)), .int (rg_b (¬ M.1 412 11 ≤ 0 ∧ rm_iw M y ∧ rm_in x 0 (M.1 418 (rm_nl M - 1) - 1))), .ref (B + 412)]) := by
      intro  H locs ls hH hl 
      refine lv_iconst (v := 1) hx hb dX7_mend_67 (by decide) ?_
      refine rg_callGi C0 hH (As := [.int (rg_b (¬ M.1 412 11 ≤ 0 ∧ rm_iw M y ∧ rm_in x 0 (M.1 418 (rm_nl M - 1) - 1))), .int (rg_b (M.1 412 24 = 0)), .int (1)]) (rest := []) (o := 412) (ci := 7) (k_X7_goes l E B M (rg_b (¬ M.1 412 11 ≤ 0 ∧ rm_iw M y ∧ rm_in x 0 (M.1 418 (rm_nl M - 1) - 1))) (rg_b (M.1 412 24 = 0)) 1) (rg_cw 3 C0.1.2.2.2.2 tw_m_X7_92 tw_i_X7_goes tw_v_X7_goes tw_n_X7 tw_c_X7_goes rfl rfl hd_X7_goes ⟨Nat.le_of_ble_eq_true rfl, Nat.le_of_ble_eq_true rfl⟩) rfl (by decide) rfl (by decide) rfl hl.1 rfl (Nat.le_of_ble_eq_true rfl) dX7_mend_68 ⟨Nat.le_of_ble_eq_true rfl, Nat.le_of_ble_eq_true rfl⟩ (fun H locs hH => ?_)
      refine lv_if_ne (tgt := 76) hx hb dX7_mend_71 (by decide) (fun c_71 => ?_) (fun c_71 => ?_)
      · have hg := rm_go_inv (rg_b_ne.mp c_71)
        have hP := rg_b_ne.mp hg.1
        have h1 : 1 ≤ rm_nl M := by
          rcases Nat.eq_zero_or_pos (rm_nl M) with q | q
          · exact absurd (show M.1 412 11 ≤ 0 by rw [(rm_CI_l hI).1, q]; decide) hP.1
          · exact q
        have hl36 := (rm_CI_l hI).2
        have ha : rm_nl M - 1 < rm_nl M := by omega
        have hza := rm_CI_v hI _ ha
        have hz6 := hza.2.1
        obtain ⟨b, hb9, hbx⟩ := rm_in_le hza.1 (by omega) hP.2.2
        have hxn : x.toNatClampNeg = b := by rw [hbx, nI_clamp (by omega)]
        replace hl : lv_has ls 5 [(3, .int (rg_b (¬ M.1 412 11 ≤ 0 ∧ rm_iw M y ∧ rm_in x 0 (M.1 418 (rm_nl M - 1) - 1)))), (0, .ref (B + 412)), (1, .int (nI b)), (2, .int (y))] := by rw [← hbx]; exact hl
        refine lv_aload_n hx hb dX7_mend_76 rfl (lv_at hl 1 rfl) ?_
        refine lv_aload_n hx hb dX7_mend_77 rfl (lv_at hl 1 rfl) ?_
        refine rg_gI C0 hH (ci := 7) (k := 11) (o := 412) rfl inT_X7 (by decide) tw_f_X7_86 (by decide) rfl (by decide) rfl dX7_mend_78 ?_
        refine lv_iconst (v := 1) hx hb dX7_mend_81 (by decide) ?_
        refine lv_isub hx hb dX7_mend_82 ?_
        refine rg_topi (y := nI (rm_nl M - 1)) (by exact (congrArg (· - 1) (rm_CI_l hI).1).trans (rm_sub1 h1)) ?_
        refine rg_callRv C0 hH (As := [.int (nI (rm_nl M - 1))]) (rest := []) (o := 412) (ci := 7) (k_X7_laysLink l E B (rg_I M 412 33 (rm_go (rg_b (¬ M.1 412 11 ≤ 0 ∧ rm_iw M y ∧ rm_in x 0 (M.1 418 (rm_nl M - 1) - 1))) (rg_b (M.1 412 24 = 0)) 1)) (rm_nl M - 1) (rm_CI_eq hI (rm_eq_f (by omega))) (by rw [rm_nl_e (rm_eq_f (by omega))]; exact ha)) (rg_cw 1 C0.1.2.2.2.2 tw_m_X7_183 tw_i_X7_laysLink tw_v_X7_laysLink tw_n_X7 tw_c_X7_laysLink rfl rfl hd_X7_laysLink ⟨Nat.le_of_ble_eq_true rfl, Nat.le_of_ble_eq_true rfl⟩) rfl (by decide) rfl (by decide) rfl hl.1 rfl (Nat.le_of_ble_eq_true rfl) dX7_mend_83 ⟨Nat.le_of_ble_eq_true rfl, Nat.le_of_ble_eq_true rfl⟩ (fun H locs e_83 hH => ?_)
        obtain ⟨M2, h_M2⟩ : ∃ X, X = rm_lay (rg_I (rg_I M 412 33 (rm_go (rg_b (¬ M.1 412 11 ≤ 0 ∧ rm_iw M y ∧ rm_in x 0 (M.1 418 (rm_nl M - 1) - 1))) (rg_b (M.1 412 24 = 0)) 1)) 412 31 (nI (rm_z (rg_I M 412 33 (rm_go (rg_b (¬ M.1 412 11 ≤ 0 ∧ rm_iw M y ∧ rm_in x 0 (M.1 418 (rm_nl M - 1) - 1))) (rg_b (M.1 412 24 = 0)) 1)) (rm_nl M - 1)))) (rm_w (rg_I M 412 33 (rm_go (rg_b (¬ M.1 412 11 ≤ 0 ∧ rm_iw M y ∧ rm_in x 0 (M.1 418 (rm_nl M - 1) - 1))) (rg_b (M.1 412 24 = 0)) 1)) (rm_nl M - 1)) (rm_z (rg_I M 412 33 (rm_go (rg_b (¬ M.1 412 11 ≤ 0 ∧ rm_iw M y ∧ rm_in x 0 (M.1 418 (rm_nl M - 1) - 1))) (rg_b (M.1 412 24 = 0)) 1)) (rm_nl M - 1)) := ⟨_, rfl⟩
        rw [← h_M2] at hH
        obtain ⟨hwk, h31, hrow, h33⟩ := rm_lay_f1 h_M2
        refine lv_aload_n hx hb dX7_mend_86 rfl (lv_at hl 1 rfl) ?_
        refine rg_gR C0 hH (o2 := 431) (ci := 7) (k := 30) (o := 412) rfl rfl inT_X7 (by decide) tw_f_X7_70 (by decide) rfl (by decide) rfl dX7_mend_87 ?_
        refine lv_iload_n hx hb dX7_mend_90 rfl (lv_at hl 2 rfl) ?_
        refine lv_iload_n hx hb dX7_mend_91 rfl (lv_at hl 3 rfl) ?_
        refine rg_iastN C0 hH (o := 431) (j := b) (n0 := 6) (by decide) rfl rfl (by omega) dX7_mend_92 (fun H locs hH => ?_)
        obtain ⟨M3, h_M3⟩ : ∃ X, X = rg_I M2 431 b y := ⟨_, rfl⟩
        rw [← h_M3] at hH
        have hwk3 : rm_wk M M3 := by rw [h_M3]; exact rm_wk_tr hwk rm_wk_r
        have h313 : M3.1 412 31 = nI (rm_z M (rm_nl M - 1)) := by rw [h_M3]; exact h31
        have h333 : M3.1 412 33 = rm_go (rg_b (¬ M.1 412 11 ≤ 0 ∧ rm_iw M y ∧ rm_in x 0 (M.1 418 (rm_nl M - 1) - 1))) (rg_b (M.1 412 24 = 0)) 1 := by rw [h_M3]; exact h33
        have hrow3 : ∀ k, k < rm_z M (rm_nl M - 1) → M3.1 431 k = (fun k => if k = b then y else rm_w M (rm_nl M - 1) k) k := by
          intro k hk
          rw [h_M3]
          show (if 431 = 431 ∧ k = b then y else M2.1 431 k) = if k = b then y else rm_w M (rm_nl M - 1) k
          by_cases q : k = b
          · rw [if_pos ⟨rfl, q⟩, if_pos q]
          · rw [if_neg (fun z => q z.2), if_neg q]; exact hrow k hk
        have hiw3 : ∀ k, k < rm_z M (rm_nl M - 1) → rm_iw M ((fun k => if k = b then y else rm_w M (rm_nl M - 1) k) k) := by
          intro k hk
          show rm_iw M (if k = b then y else rm_w M (rm_nl M - 1) k)
          by_cases q : k = b
          · rw [if_pos q]; exact hP.2.1
          · rw [if_neg q]; exact hza.2.2 k hk
        refine lv_aload_n hx hb dX7_mend_93 rfl (lv_at hl 1 rfl) ?_
        refine lv_aload_n hx hb dX7_mend_94 rfl (lv_at hl 1 rfl) ?_
        refine rg_gI C0 hH (ci := 7) (k := 11) (o := 412) rfl inT_X7 (by decide) tw_f_X7_86 (by decide) rfl (by decide) rfl dX7_mend_95 ?_
        refine lv_iconst (v := 1) hx hb dX7_mend_98 (by decide) ?_
        refine lv_isub hx hb dX7_mend_99 ?_
        refine rg_topi (y := nI (rm_nl M - 1)) (by exact (congrArg (· - 1) ((hwk3.2 11 (by omega)).trans (rm_CI_l hI).1)).trans (rm_sub1 h1)) ?_
        refine lv_iconst (v := (-1)) hx hb dX7_mend_100 (by decide) ?_
        refine rg_callRi C0 hH (As := [.int (nI (rm_nl M - 1)), .int ((-1))]) (rest := []) (o := 412) (ci := 7) (k_X7_faultOf l E B M3 (rm_z M (rm_nl M - 1)) (rm_nl M - 1) ((-1)) (rm_CI_eq hI (rm_wk_eq hwk3)) h313 hz6 (rm_hrw hwk3 hrow3 hiw3) (by rw [rm_nl_e (rm_wk_eq hwk3)]; exact (by omega)) (by omega)) (rg_cw 2 C0.1.2.2.2.2 tw_m_X7_179 tw_i_X7_faultOf tw_v_X7_faultOf tw_n_X7 tw_c_X7_faultOf rfl rfl hd_X7_faultOf ⟨Nat.le_of_ble_eq_true rfl, Nat.le_of_ble_eq_true rfl⟩) rfl (by decide) rfl (by decide) rfl hl.1 rfl (Nat.le_of_ble_eq_true rfl) dX7_mend_101 ⟨Nat.le_of_ble_eq_true rfl, Nat.le_of_ble_eq_true rfl⟩ (fun r_101 H locs e_101 hH => ?_)
        refine rg_topi (y := (rm_fo M (fun k => if k = b then y else rm_w M (rm_nl M - 1) k) (rm_z M (rm_nl M - 1)) (rm_nl M - 1) (-1)).1) (by rw [e_101, rm_fo_k hwk3 hrow3]) ?_
        obtain ⟨M4, h_M4⟩ : ∃ X, X = rg_I M3 412 32 (rm_fo M3 (M3.1 431) (rm_z M (rm_nl M - 1)) (rm_nl M - 1) ((-1))).2 := ⟨_, rfl⟩
        rw [← h_M4] at hH
        obtain ⟨hwk4, h324, h334⟩ := rm_cau h_M4 hwk3 hrow3 h333
        refine lv_istore (lv' := [(4, .int ((rm_fo M (fun k => if k = b then y else rm_w M (rm_nl M - 1) k) (rm_z M (rm_nl M - 1)) (rm_nl M - 1) (-1)).1)), (3, .int (rg_b (¬ M.1 412 11 ≤ 0 ∧ rm_iw M y ∧ rm_in x 0 (M.1 418 (rm_nl M - 1) - 1)))), (0, .ref (B + 412)), (1, .int (nI b)), (2, .int (y))]) hx hb dX7_mend_104 hl (by decide) rfl (fun ls hl => ?_)
        refine lv_iload hx hb dX7_mend_106 (lv_at hl 0 rfl) ?_
        refine lv_if_le (tgt := 123) hx hb dX7_mend_108 (by decide) (fun c_108 => ?_) (fun c_108 => ?_)
        · refine lv_aload_n hx hb dX7_mend_123 rfl (lv_at hl 2 rfl) ?_
          refine rg_gR C0 hH (o2 := 417) (ci := 7) (k := 12) (o := 412) rfl rfl inT_X7 (by decide) tw_f_X7_23 (by decide) rfl (by decide) rfl dX7_mend_124 ?_
          refine lv_bipush (v := 6) hx hb dX7_mend_127 (by decide) ?_
          refine lv_aload_n hx hb dX7_mend_129 rfl (lv_at hl 2 rfl) ?_
          refine rg_gI C0 hH (ci := 7) (k := 11) (o := 412) rfl inT_X7 (by decide) tw_f_X7_86 (by decide) rfl (by decide) rfl dX7_mend_130 ?_
          refine lv_iconst (v := 1) hx hb dX7_mend_133 (by decide) ?_
          refine lv_isub hx hb dX7_mend_134 ?_
          refine rg_topi (y := nI (rm_nl M - 1)) (by exact (congrArg (· - 1) ((hwk4.2 11 (by omega)).trans (rm_CI_l hI).1)).trans (rm_sub1 h1)) ?_
          refine lv_imul hx hb dX7_mend_135 ?_
          refine rg_topi (y := nI (6 * (rm_nl M - 1))) (by exact rm_mul (6) (rm_nl M - 1)) ?_
          refine lv_iload_n hx hb dX7_mend_136 rfl (lv_at hl 3 rfl) ?_
          refine lv_iadd hx hb dX7_mend_137 ?_
          refine rg_topi (y := nI ((6 * (rm_nl M - 1)) + b)) (by exact nI_add (6 * (rm_nl M - 1)) (b)) ?_
          refine lv_iload_n hx hb dX7_mend_138 rfl (lv_at hl 4 rfl) ?_
          refine rg_iastN C0 hH (o := 417) (j := ((6 * (rm_nl M - 1)) + b)) (n0 := 216) (by decide) rfl rfl (by omega) dX7_mend_139 (fun H locs hH => ?_)
          refine lv_aload_n hx hb dX7_mend_140 rfl (lv_at hl 2 rfl) ?_
          refine rg_gR C0 hH (o2 := 422) (ci := 7) (k := 17) (o := 412) rfl rfl inT_X7 (by decide) tw_f_X7_39 (by decide) rfl (by decide) rfl dX7_mend_141 ?_
          refine lv_aload_n hx hb dX7_mend_144 rfl (lv_at hl 2 rfl) ?_
          refine rg_gI C0 hH (ci := 7) (k := 11) (o := 412) rfl inT_X7 (by decide) tw_f_X7_86 (by decide) rfl (by decide) rfl dX7_mend_145 ?_
          refine lv_iconst (v := 1) hx hb dX7_mend_148 (by decide) ?_
          refine lv_isub hx hb dX7_mend_149 ?_
          refine rg_topi (y := nI (rm_nl M - 1)) (by exact (congrArg (· - 1) ((hwk4.2 11 (by omega)).trans (rm_CI_l hI).1)).trans (rm_sub1 h1)) ?_
          refine lv_iconst (v := 1) hx hb dX7_mend_150 (by decide) ?_
          refine rg_zastN C0 hH (o := 422) (j := (rm_nl M - 1)) (n0 := 36) (by decide) rfl (Or.inr rfl) rfl (by omega) dX7_mend_151 (fun H locs hH => ?_)
          refine lv_iconst (v := 0) hx hb dX7_mend_152 (by decide) ?_
          exact rg_retWi C0 hH hr hlocks (by rw [hxn]; exact Or.inr ⟨rg_b_ne.mp c_71, Or.inr ⟨c_108, rfl, rm_wk_i (rm_wk_i hwk4)⟩, h334.trans (rg_b_ne.mp c_71)⟩) dX7_mend_153
        · refine lv_aload_n hx hb dX7_mend_111 rfl (lv_at hl 2 rfl) ?_
          refine lv_aload_n hx hb dX7_mend_112 rfl (lv_at hl 2 rfl) ?_
          refine rg_gI C0 hH (ci := 7) (k := 32) (o := 412) rfl inT_X7 (by decide) tw_f_X7_155 (by decide) rfl (by decide) rfl dX7_mend_113 ?_
          refine rg_topi (y := (rm_fo M (fun k => if k = b then y else rm_w M (rm_nl M - 1) k) (rm_z M (rm_nl M - 1)) (rm_nl M - 1) (-1)).2) (by exact h324) ?_
          refine rg_pI C0 hH (v := (rm_fo M (fun k => if k = b then y else rm_w M (rm_nl M - 1) k) (rm_z M (rm_nl M - 1)) (rm_nl M - 1) (-1)).2) tyX7 tyX7_ok nmX7 (ci := 7) (k := 25) (o := 412) rfl inT_X7 (by decide) tw_f_X7_57 (by decide) rfl (by decide) rfl rfl rfl rfl dX7_mend_116 (fun H locs hH => ?_)
          refine lv_iload hx hb dX7_mend_119 (lv_at hl 0 rfl) ?_
          refine lv_ineg hx hb dX7_mend_121 ?_
          exact rg_retWi C0 hH hr hlocks (by rw [hxn]; exact Or.inr ⟨rg_b_ne.mp c_71, Or.inl ⟨c_108, rfl, rm_wk_i hwk4⟩, (rm_sl (by omega)).trans (h334.trans (rg_b_ne.mp c_71))⟩) dX7_mend_122
      · refine lv_iconst (v := 0) hx hb dX7_mend_74 (by decide) ?_
        exact rg_retWi C0 hH hr hlocks (by exact Or.inl ⟨rg_b_eq.mp c_71, rfl, rfl⟩) dX7_mend_75
    refine rg_gI C0 hH (ci := 7) (k := 24) (o := 412) rfl inT_X7 (by decide) tw_f_X7_120 (by decide) rfl (by decide) rfl dX7_mend_56 ?_
    refine lv_if_ne (tgt := 66) hx hb dX7_mend_59 (by decide) (fun c_59 => ?_) (fun c_59 => ?_)
    · refine lv_iconst (v := 0) hx hb dX7_mend_66 (by decide) ?_
      refine rg_topi (y := rg_b (M.1 412 24 = 0)) (by first | exact rg_b_f (c_59)) ?_
      exact cut_67 _ _ _ hH (lv_sub hl [0, 1, 2, 3] rfl)
    · refine lv_iconst (v := 1) hx hb dX7_mend_62 (by decide) ?_
      refine lv_goto (tgt := 67) hx hb dX7_mend_63 (by decide) ?_
      refine rg_topi (y := rg_b (M.1 412 24 = 0)) (by exact rg_b_t (c_59)) ?_
      exact cut_67 _ _ _ hH (lv_sub hl [0, 1, 2, 3] rfl)
  refine lv_aload_n hx hb dX7_mend_0 rfl (lv_at hl 0 rfl) ?_
  refine rg_gI C0 hH (ci := 7) (k := 11) (o := 412) rfl inT_X7 (by decide) tw_f_X7_86 (by decide) rfl (by decide) rfl dX7_mend_1 ?_
  refine lv_if_le (tgt := 51) hx hb dX7_mend_4 (by decide) (fun c_4 => ?_) (fun c_4 => ?_)
  · refine lv_iconst (v := 0) hx hb dX7_mend_51 (by decide) ?_
    refine rg_topi (y := rg_b (¬ M.1 412 11 ≤ 0 ∧ rm_iw M y ∧ rm_in x 0 (M.1 418 (rm_nl M - 1) - 1))) (by first | exact rg_b_f (fun q => q.1 c_4) | exact rg_b_f (fun q => rg_b_eq.mp c_12 q.2.1) | exact rg_b_f (fun q => rg_b_eq.mp c_44 q.2.2)) ?_
    exact cut_52 _ _ _ hH (lv_sub hl [0, 1, 2] rfl)
  · have h1 : 1 ≤ rm_nl M := by
      rcases Nat.eq_zero_or_pos (rm_nl M) with q | q
      · exact absurd (show M.1 412 11 ≤ 0 by rw [(rm_CI_l hI).1, q]; decide) c_4
      · exact q
    have hl36 := (rm_CI_l hI).2
    refine lv_aload_n hx hb dX7_mend_7 rfl (lv_at hl 0 rfl) ?_
    refine lv_iload_n hx hb dX7_mend_8 rfl (lv_at hl 2 rfl) ?_
    refine rg_callGi C0 hH (As := [.int (y)]) (rest := []) (o := 412) (ci := 7) (k_X7_isWord l E B M y (by exact hI)) (rg_cw 1 C0.1.2.2.2.2 tw_m_X7_96 tw_i_X7_isWord tw_v_X7_isWord tw_n_X7 tw_c_X7_isWord rfl rfl hd_X7_isWord ⟨Nat.le_of_ble_eq_true rfl, Nat.le_of_ble_eq_true rfl⟩) rfl (by decide) rfl (by decide) rfl hl.1 rfl (Nat.le_of_ble_eq_true rfl) dX7_mend_9 ⟨Nat.le_of_ble_eq_true rfl, Nat.le_of_ble_eq_true rfl⟩ (fun H locs hH => ?_)
    refine lv_if_eq (tgt := 51) hx hb dX7_mend_12 (by decide) (fun c_12 => ?_) (fun c_12 => ?_)
    · refine lv_iconst (v := 0) hx hb dX7_mend_51 (by decide) ?_
      refine rg_topi (y := rg_b (¬ M.1 412 11 ≤ 0 ∧ rm_iw M y ∧ rm_in x 0 (M.1 418 (rm_nl M - 1) - 1))) (by first | exact rg_b_f (fun q => q.1 c_4) | exact rg_b_f (fun q => rg_b_eq.mp c_12 q.2.1) | exact rg_b_f (fun q => rg_b_eq.mp c_44 q.2.2)) ?_
      exact cut_52 _ _ _ hH (lv_sub hl [0, 1, 2] rfl)
    · refine lv_iload_n hx hb dX7_mend_15 rfl (lv_at hl 1 rfl) ?_
      refine lv_iconst (v := 0) hx hb dX7_mend_16 (by decide) ?_
      refine lv_aload_n hx hb dX7_mend_17 rfl (lv_at hl 0 rfl) ?_
      refine rg_gR C0 hH (o2 := 418) (ci := 7) (k := 13) (o := 412) rfl rfl inT_X7 (by decide) tw_f_X7_26 (by decide) rfl (by decide) rfl dX7_mend_18 ?_
      refine lv_aload_n hx hb dX7_mend_21 rfl (lv_at hl 0 rfl) ?_
      refine rg_gI C0 hH (ci := 7) (k := 11) (o := 412) rfl inT_X7 (by decide) tw_f_X7_86 (by decide) rfl (by decide) rfl dX7_mend_22 ?_
      refine lv_if_le (tgt := 37) hx hb dX7_mend_25 (by decide) (fun c_25 => ?_) (fun c_25 => ?_)
      · exact absurd c_25 c_4
      · refine lv_aload_n hx hb dX7_mend_28 rfl (lv_at hl 0 rfl) ?_
        refine rg_gI C0 hH (ci := 7) (k := 11) (o := 412) rfl inT_X7 (by decide) tw_f_X7_86 (by decide) rfl (by decide) rfl dX7_mend_29 ?_
        refine lv_iconst (v := 1) hx hb dX7_mend_32 (by decide) ?_
        refine lv_isub hx hb dX7_mend_33 ?_
        refine rg_topi (y := nI (rm_nl M - 1)) (by exact (congrArg (· - 1) (rm_CI_l hI).1).trans (rm_sub1 h1)) ?_
        refine lv_goto (tgt := 38) hx hb dX7_mend_34 (by decide) ?_
        refine rg_ialdN C0 hH (o := 418) (j := (rm_nl M - 1)) (n0 := 36) (by decide) rfl rfl (by omega) dX7_mend_38 ?_
        refine lv_iconst (v := 1) hx hb dX7_mend_39 (by decide) ?_
        refine lv_isub hx hb dX7_mend_40 ?_
        refine rg_callSGi C0 hH (As := [.int (x), .int (0), .int ((M.1 418 ((rm_nl M - 1))) - 1)]) (rest := []) (k_X7_in l E B M x 0 ((M.1 418 ((rm_nl M - 1))) - 1)) (rg_cwS 3 C0.1.2.2.2.2 tw_m_X7_79 tw_s_X7_in tw_n_X7 tw_c_X7_in rfl rfl hd_X7_in ⟨Nat.le_of_ble_eq_true rfl, Nat.le_of_ble_eq_true rfl⟩) rfl hl.1 rfl (Nat.le_of_ble_eq_true rfl) dX7_mend_41 ⟨Nat.le_of_ble_eq_true rfl, Nat.le_of_ble_eq_true rfl⟩ (fun H locs hH => ?_)
        refine lv_if_eq (tgt := 51) hx hb dX7_mend_44 (by decide) (fun c_44 => ?_) (fun c_44 => ?_)
        · refine lv_iconst (v := 0) hx hb dX7_mend_51 (by decide) ?_
          refine rg_topi (y := rg_b (¬ M.1 412 11 ≤ 0 ∧ rm_iw M y ∧ rm_in x 0 (M.1 418 (rm_nl M - 1) - 1))) (by first | exact rg_b_f (fun q => q.1 c_4) | exact rg_b_f (fun q => rg_b_eq.mp c_12 q.2.1) | exact rg_b_f (fun q => rg_b_eq.mp c_44 q.2.2)) ?_
          exact cut_52 _ _ _ hH (lv_sub hl [0, 1, 2] rfl)
        · refine lv_iconst (v := 1) hx hb dX7_mend_47 (by decide) ?_
          refine lv_goto (tgt := 52) hx hb dX7_mend_48 (by decide) ?_
          refine rg_topi (y := rg_b (¬ M.1 412 11 ≤ 0 ∧ rm_iw M y ∧ rm_in x 0 (M.1 418 (rm_nl M - 1) - 1))) (by exact rg_b_t (⟨c_4, rg_b_ne.mp c_12, rg_b_ne.mp c_44⟩)) ?_
          exact cut_52 _ _ _ hH (lv_sub hl [0, 1, 2] rfl)
