set_option maxHeartbeats 4000000 in
set_option maxRecDepth 100000 in
/-- word -/
theorem k_X7_word (l : Launch) (E : rg_Env) (B : Nat) (M : rg_Mem) (x : Int32) (y : Int32) (z : Int32) (hI : rm_CI M) : Met l yX7_word (rg_w yX7_word cX7_word 4 (some (FieldType.int))) ({ frames := 1, cells := 0, slots := 0, locals := 23 } : Room) (va_Pc [.ref (B + 412), .int (x), .int (y), .int (z)] (rg_Pre E B 433 rg_R0 M)) (rg_Wi E B 433 rg_R0 (fun r M1 => (¬ rm_go (rg_b (rm_in x 1 12 ∧ rm_in y (-1) 3 ∧ rm_in z 0 1023)) (rg_b (¬ 40 ≤ M.1 412 4)) 1 = 0 ∧ r = 0 ∧ M1 = rg_I M 412 33 (rm_go (rg_b (rm_in x 1 12 ∧ rm_in y (-1) 3 ∧ rm_in z 0 1023)) (rg_b (¬ 40 ≤ M.1 412 4)) 1)) ∨ (rm_go (rg_b (rm_in x 1 12 ∧ rm_in y (-1) 3 ∧ rm_in z 0 1023)) (rg_b (¬ 40 ≤ M.1 412 4)) 1 = 0 ∧ r = nI (rm_nw M) ∧ M1 = rg_I (rg_I (rg_I (rg_I (rg_I M 412 33 (rm_go (rg_b (rm_in x 1 12 ∧ rm_in y (-1) 3 ∧ rm_in z 0 1023)) (rg_b (¬ 40 ≤ M.1 412 4)) 1)) 413 (rm_nw M) x) 414 (rm_nw M) y) 415 (rm_nw M) z) 412 4 (nI (rm_nw M + 1))))) 0 0 (rg_A B) := by
  refine rg_ofW (by decide +kernel) rfl (Nat.le_of_ble_eq_true rfl) ?_
  intro p e s m args below meth c ls C0 hH hl hr hlocks hnm
  replace hl : lv_has ls 4 [(0, .ref (B + 412)), (1, .int (x)), (2, .int (y)), (3, .int (z))] := hl
  have hx := C0.1.1
  have hb := C0.1.2.1
  generalize hH9 : s.heap = H at hH ⊢
  generalize hL9 : ([] : List Loc) = locs at hH ⊢
  clear hH9 hL9
  refine lv_aload_n hx hb dX7_word_0 rfl (lv_at hl 0 rfl) ?_
  have cut_36 : ∀  (H : Heap) (locs : List Loc) (ls : Array Slot), rg_H E B 433 rg_R0 M s H locs → lv_has ls 4 [(0, .ref (B + 412)), (1, .int (x)), (2, .int (y)), (3, .int (z))] → W p l e ({ frames := 1, cells := 0, slots := 0, locals := 23 } : Room) s m args below meth c H locs 0 0 (MQ below (rg_Wi E B 433 rg_R0 (fun r M1 => (¬ rm_go (rg_b (rm_in x 1 12 ∧ rm_in y (-1) 3 ∧ rm_in z 0 1023)) (rg_b (¬ 40 ≤ M.1 412 4)) 1 = 0 ∧ r = 0 ∧ M1 = rg_I M 412 33 (rm_go (rg_b (rm_in x 1 12 ∧ rm_in y (-1) 3 ∧ rm_in z 0 1023)) (rg_b (¬ 40 ≤ M.1 412 4)) 1)) ∨ (rm_go (rg_b (rm_in x 1 12 ∧ rm_in y (-1) 3 ∧ rm_in z 0 1023)) (rg_b (¬ 40 ≤ M.1 412 4)) 1 = 0 ∧ r = nI (rm_nw M) ∧ M1 = rg_I (rg_I (rg_I (rg_I (rg_I M 412 33 (rm_go (rg_b (rm_in x 1 12 ∧ rm_in y (-1) 3 ∧ rm_in z 0 1023)) (rg_b (¬ 40 ≤ M.1 412 4)) 1)) 413 (rm_nw M) x) 414 (rm_nw M) y) 415 (rm_nw M) z) 412 4 (nI (rm_nw M + 1))))) args s 0 0 (rg_A B)) (F0 m 36 ls [.int (rg_b (rm_in x 1 12 ∧ rm_in y (-1) 3 ∧ rm_in z 0 1023)), .ref (B + 412)]) := by
    intro  H locs ls hH hl 
    refine lv_aload_n hx hb dX7_word_36 rfl (lv_at hl 0 rfl) ?_
    have cut_50 : ∀  (H : Heap) (locs : List Loc) (ls : Array Slot), rg_H E B 433 rg_R0 M s H locs → lv_has ls 4 [(0, .ref (B + 412)), (1, .int (x)), (2, .int (y)), (3, .int (z))] → W p l e ({ frames := 1, cells := 0, slots := 0, locals := 23 } : Room) s m args below meth c H locs 0 0 (MQ below (rg_Wi E B 433 rg_R0 (fun r M1 => (¬ rm_go (rg_b (rm_in x 1 12 ∧ rm_in y (-1) 3 ∧ rm_in z 0 1023)) (rg_b (¬ 40 ≤ M.1 412 4)) 1 = 0 ∧ r = 0 ∧ M1 = rg_I M 412 33 (rm_go (rg_b (rm_in x 1 12 ∧ rm_in y (-1) 3 ∧ rm_in z 0 1023)) (rg_b (¬ 40 ≤ M.1 412 4)) 1)) ∨ (rm_go (rg_b (rm_in x 1 12 ∧ rm_in y (-1) 3 ∧ rm_in z 0 1023)) (rg_b (¬ 40 ≤ M.1 412 4)) 1 = 0 ∧ r = nI (rm_nw M) ∧ M1 = rg_I (rg_I (rg_I (rg_I (rg_I M 412 33 (rm_go (rg_b (rm_in x 1 12 ∧ rm_in y (-1) 3 ∧ rm_in z 0 1023)) (rg_b (¬ 40 ≤ M.1 412 4)) 1)) 413 (rm_nw M) x) 414 (rm_nw M) y) 415 (rm_nw M) z) 412 4 (nI (rm_nw M + 1))))) args s 0 0 (rg_A B)) (F0 m 50 ls [.int (rg_b (¬ 40 ≤ M.1 412 4)), .int (rg_b (rm_in x 1 12 ∧ rm_in y (-1) 3 ∧ rm_in z 0 1023)), .ref (B + 412)]) := by
      intro  H locs ls hH hl 
      refine lv_iconst (v := 1) hx hb dX7_word_50 (by decide) ?_
      refine rg_callGi C0 hH (As := [.int (rg_b (rm_in x 1 12 ∧ rm_in y (-1) 3 ∧ rm_in z 0 1023)), .int (rg_b (¬ 40 ≤ M.1 412 4)), .int (1)]) (rest := []) (o := 412) (ci := 7) (k_X7_goes l E B M (rg_b (rm_in x 1 12 ∧ rm_in y (-1) 3 ∧ rm_in z 0 1023)) (rg_b (¬ 40 ≤ M.1 412 4)) 1) (rg_cw 3 C0.1.2.2.2.2 tw_m_X7_92 tw_i_X7_goes tw_v_X7_goes tw_n_X7 tw_c_X7_goes rfl rfl hd_X7_goes ⟨Nat.le_of_ble_eq_true rfl, Nat.le_of_ble_eq_true rfl⟩) rfl (by decide) rfl (by decide) rfl hl.1 rfl (Nat.le_of_ble_eq_true rfl) dX7_word_51 ⟨Nat.le_of_ble_eq_true rfl, Nat.le_of_ble_eq_true rfl⟩ (fun H locs hH => ?_)
      refine lv_if_ne (tgt := 59) hx hb dX7_word_54 (by decide) (fun c_54 => ?_) (fun c_54 => ?_)
      · have hg := rm_go_inv (rg_b_ne.mp c_54)
        have hP := rg_b_ne.mp hg.1
        have hQ := rg_b_ne.mp hg.2.1
        have h40 := rm_lt40 (rm_CI_w hI).1 (by have := (rm_CI_w hI).2; omega) (m := 40) rfl hQ
        refine lv_aload_n hx hb dX7_word_59 rfl (lv_at hl 0 rfl) ?_
        refine rg_gR C0 hH (o2 := 413) (ci := 7) (k := 0) (o := 412) rfl rfl inT_X7 (by decide) tw_f_X7_7 (by decide) rfl (by decide) rfl dX7_word_60 ?_
        refine lv_aload_n hx hb dX7_word_63 rfl (lv_at hl 0 rfl) ?_
        refine rg_gI C0 hH (ci := 7) (k := 4) (o := 412) rfl inT_X7 (by decide) tw_f_X7_76 (by decide) rfl (by decide) rfl dX7_word_64 ?_
        refine rg_topi (y := nI (rm_nw M)) (by exact (rm_CI_w hI).1) ?_
        refine lv_iload_n hx hb dX7_word_67 rfl (lv_at hl 1 rfl) ?_
        refine rg_iastN C0 hH (o := 413) (j := (rm_nw M)) (n0 := 40) (by decide) rfl rfl (by omega) dX7_word_68 (fun H locs hH => ?_)
        refine lv_aload_n hx hb dX7_word_69 rfl (lv_at hl 0 rfl) ?_
        refine rg_gR C0 hH (o2 := 414) (ci := 7) (k := 1) (o := 412) rfl rfl inT_X7 (by decide) tw_f_X7_13 (by decide) rfl (by decide) rfl dX7_word_70 ?_
        refine lv_aload_n hx hb dX7_word_73 rfl (lv_at hl 0 rfl) ?_
        refine rg_gI C0 hH (ci := 7) (k := 4) (o := 412) rfl inT_X7 (by decide) tw_f_X7_76 (by decide) rfl (by decide) rfl dX7_word_74 ?_
        refine rg_topi (y := nI (rm_nw M)) (by exact (rm_CI_w hI).1) ?_
        refine lv_iload_n hx hb dX7_word_77 rfl (lv_at hl 2 rfl) ?_
        refine rg_iastN C0 hH (o := 414) (j := (rm_nw M)) (n0 := 40) (by decide) rfl rfl (by omega) dX7_word_78 (fun H locs hH => ?_)
        refine lv_aload_n hx hb dX7_word_79 rfl (lv_at hl 0 rfl) ?_
        refine rg_gR C0 hH (o2 := 415) (ci := 7) (k := 2) (o := 412) rfl rfl inT_X7 (by decide) tw_f_X7_16 (by decide) rfl (by decide) rfl dX7_word_80 ?_
        refine lv_aload_n hx hb dX7_word_83 rfl (lv_at hl 0 rfl) ?_
        refine rg_gI C0 hH (ci := 7) (k := 4) (o := 412) rfl inT_X7 (by decide) tw_f_X7_76 (by decide) rfl (by decide) rfl dX7_word_84 ?_
        refine rg_topi (y := nI (rm_nw M)) (by exact (rm_CI_w hI).1) ?_
        refine lv_iload_n hx hb dX7_word_87 rfl (lv_at hl 3 rfl) ?_
        refine rg_iastN C0 hH (o := 415) (j := (rm_nw M)) (n0 := 40) (by decide) rfl rfl (by omega) dX7_word_88 (fun H locs hH => ?_)
        refine lv_aload_n hx hb dX7_word_89 rfl (lv_at hl 0 rfl) ?_
        refine lv_dup hx hb dX7_word_90 rfl ?_
        refine rg_gI C0 hH (ci := 7) (k := 4) (o := 412) rfl inT_X7 (by decide) tw_f_X7_76 (by decide) rfl (by decide) rfl dX7_word_91 ?_
        refine rg_topi (y := nI (rm_nw M)) (by exact (rm_CI_w hI).1) ?_
        refine lv_iconst (v := 1) hx hb dX7_word_94 (by decide) ?_
        refine lv_iadd hx hb dX7_word_95 ?_
        refine rg_topi (y := nI ((rm_nw M) + 1)) (by exact nI_add (rm_nw M) (1)) ?_
        refine rg_pI C0 hH (v := nI ((rm_nw M) + 1)) tyX7 tyX7_ok nmX7 (ci := 7) (k := 4) (o := 412) rfl inT_X7 (by decide) tw_f_X7_76 (by decide) rfl (by decide) rfl rfl rfl rfl dX7_word_96 (fun H locs hH => ?_)
        refine lv_aload_n hx hb dX7_word_99 rfl (lv_at hl 0 rfl) ?_
        refine rg_gI C0 hH (ci := 7) (k := 4) (o := 412) rfl inT_X7 (by decide) tw_f_X7_76 (by decide) rfl (by decide) rfl dX7_word_100 ?_
        refine rg_topi (y := nI (rm_nw M + 1)) (by exact rm_get) ?_
        refine lv_iconst (v := 1) hx hb dX7_word_103 (by decide) ?_
        refine lv_isub hx hb dX7_word_104 ?_
        refine rg_topi (y := nI (rm_nw M)) (by exact nI_pred _) ?_
        exact rg_retWi C0 hH hr hlocks (by exact Or.inr ⟨rg_b_ne.mp c_54, rfl, rfl⟩) dX7_word_105
      · refine lv_iconst (v := 0) hx hb dX7_word_57 (by decide) ?_
        exact rg_retWi C0 hH hr hlocks (by exact Or.inl ⟨rg_b_eq.mp c_54, rfl, rfl⟩) dX7_word_58
    refine rg_gI C0 hH (ci := 7) (k := 4) (o := 412) rfl inT_X7 (by decide) tw_f_X7_76 (by decide) rfl (by decide) rfl dX7_word_37 ?_
    refine lv_bipush (v := 40) hx hb dX7_word_40 (by decide) ?_
    refine lv_icmp_ge (tgt := 49) hx hb dX7_word_42 (by decide) (fun c_42 => ?_) (fun c_42 => ?_)
    · refine lv_iconst (v := 0) hx hb dX7_word_49 (by decide) ?_
      refine rg_topi (y := rg_b (¬ 40 ≤ M.1 412 4)) (by first | exact rg_b_f (fun q => q c_42)) ?_
      exact cut_50 _ _ _ hH (lv_sub hl [0, 1, 2, 3] rfl)
    · refine lv_iconst (v := 1) hx hb dX7_word_45 (by decide) ?_
      refine lv_goto (tgt := 50) hx hb dX7_word_46 (by decide) ?_
      refine rg_topi (y := rg_b (¬ 40 ≤ M.1 412 4)) (by exact rg_b_t (c_42)) ?_
      exact cut_50 _ _ _ hH (lv_sub hl [0, 1, 2, 3] rfl)
  refine lv_iload_n hx hb dX7_word_1 rfl (lv_at hl 1 rfl) ?_
  refine lv_iconst (v := 1) hx hb dX7_word_2 (by decide) ?_
  refine lv_bipush (v := 12) hx hb dX7_word_3 (by decide) ?_
  refine rg_callSGi C0 hH (As := [.int (x), .int (1), .int (12)]) (rest := [.ref (B + 412)]) (k_X7_in l E B M x 1 12) (rg_cwS 3 C0.1.2.2.2.2 tw_m_X7_79 tw_s_X7_in tw_n_X7 tw_c_X7_in rfl rfl hd_X7_in ⟨Nat.le_of_ble_eq_true rfl, Nat.le_of_ble_eq_true rfl⟩) rfl hl.1 rfl (Nat.le_of_ble_eq_true rfl) dX7_word_5 ⟨Nat.le_of_ble_eq_true rfl, Nat.le_of_ble_eq_true rfl⟩ (fun H locs hH => ?_)
  refine lv_if_eq (tgt := 35) hx hb dX7_word_8 (by decide) (fun c_8 => ?_) (fun c_8 => ?_)
  · refine lv_iconst (v := 0) hx hb dX7_word_35 (by decide) ?_
    refine rg_topi (y := rg_b (rm_in x 1 12 ∧ rm_in y (-1) 3 ∧ rm_in z 0 1023)) (by first | exact rg_b_f (fun q => rg_b_eq.mp c_8 q.1) | exact rg_b_f (fun q => rg_b_eq.mp c_17 q.2.1) | exact rg_b_f (fun q => rg_b_eq.mp c_28 q.2.2)) ?_
    exact cut_36 _ _ _ hH (lv_sub hl [0, 1, 2, 3] rfl)
  · refine lv_iload_n hx hb dX7_word_11 rfl (lv_at hl 2 rfl) ?_
    refine lv_iconst (v := (-1)) hx hb dX7_word_12 (by decide) ?_
    refine lv_iconst (v := 3) hx hb dX7_word_13 (by decide) ?_
    refine rg_callSGi C0 hH (As := [.int (y), .int ((-1)), .int (3)]) (rest := [.ref (B + 412)]) (k_X7_in l E B M y ((-1)) 3) (rg_cwS 3 C0.1.2.2.2.2 tw_m_X7_79 tw_s_X7_in tw_n_X7 tw_c_X7_in rfl rfl hd_X7_in ⟨Nat.le_of_ble_eq_true rfl, Nat.le_of_ble_eq_true rfl⟩) rfl hl.1 rfl (Nat.le_of_ble_eq_true rfl) dX7_word_14 ⟨Nat.le_of_ble_eq_true rfl, Nat.le_of_ble_eq_true rfl⟩ (fun H locs hH => ?_)
    refine lv_if_eq (tgt := 35) hx hb dX7_word_17 (by decide) (fun c_17 => ?_) (fun c_17 => ?_)
    · refine lv_iconst (v := 0) hx hb dX7_word_35 (by decide) ?_
      refine rg_topi (y := rg_b (rm_in x 1 12 ∧ rm_in y (-1) 3 ∧ rm_in z 0 1023)) (by first | exact rg_b_f (fun q => rg_b_eq.mp c_8 q.1) | exact rg_b_f (fun q => rg_b_eq.mp c_17 q.2.1) | exact rg_b_f (fun q => rg_b_eq.mp c_28 q.2.2)) ?_
      exact cut_36 _ _ _ hH (lv_sub hl [0, 1, 2, 3] rfl)
    · refine lv_iload_n hx hb dX7_word_20 rfl (lv_at hl 3 rfl) ?_
      refine lv_iconst (v := 0) hx hb dX7_word_21 (by decide) ?_
      refine lv_sipush (v := 1023) hx hb dX7_word_22 (by decide) ?_
      refine rg_callSGi C0 hH (As := [.int (z), .int (0), .int (1023)]) (rest := [.ref (B + 412)]) (k_X7_in l E B M z 0 1023) (rg_cwS 3 C0.1.2.2.2.2 tw_m_X7_79 tw_s_X7_in tw_n_X7 tw_c_X7_in rfl rfl hd_X7_in ⟨Nat.le_of_ble_eq_true rfl, Nat.le_of_ble_eq_true rfl⟩) rfl hl.1 rfl (Nat.le_of_ble_eq_true rfl) dX7_word_25 ⟨Nat.le_of_ble_eq_true rfl, Nat.le_of_ble_eq_true rfl⟩ (fun H locs hH => ?_)
      refine lv_if_eq (tgt := 35) hx hb dX7_word_28 (by decide) (fun c_28 => ?_) (fun c_28 => ?_)
      · refine lv_iconst (v := 0) hx hb dX7_word_35 (by decide) ?_
        refine rg_topi (y := rg_b (rm_in x 1 12 ∧ rm_in y (-1) 3 ∧ rm_in z 0 1023)) (by first | exact rg_b_f (fun q => rg_b_eq.mp c_8 q.1) | exact rg_b_f (fun q => rg_b_eq.mp c_17 q.2.1) | exact rg_b_f (fun q => rg_b_eq.mp c_28 q.2.2)) ?_
        exact cut_36 _ _ _ hH (lv_sub hl [0, 1, 2, 3] rfl)
      · refine lv_iconst (v := 1) hx hb dX7_word_31 (by decide) ?_
        refine lv_goto (tgt := 36) hx hb dX7_word_32 (by decide) ?_
        refine rg_topi (y := rg_b (rm_in x 1 12 ∧ rm_in y (-1) 3 ∧ rm_in z 0 1023)) (by exact rg_b_t (⟨rg_b_ne.mp c_8, rg_b_ne.mp c_17, rg_b_ne.mp c_28⟩)) ?_
        exact cut_36 _ _ _ hH (lv_sub hl [0, 1, 2, 3] rfl)

set_option maxHeartbeats 4000000 in
set_option maxRecDepth 100000 in
/-- call -/
theorem k_X7_call (l : Launch) (E : rg_Env) (B : Nat) (M : rg_Mem) (x : Int32) (y : Int32) (hI : rm_CI M) : Met l yX7_call (rg_w yX7_call cX7_call 4 (some (FieldType.boolean))) ({ frames := 2, cells := 0, slots := 0, locals := 43 } : Room) (va_Pc [.ref (B + 412), .int (x), .int (y)] (rg_Pre E B 433 rg_R0 M)) (rg_Wi E B 433 rg_R0 (fun r M1 => (¬ rm_go (rg_b (rm_iw M x ∧ rm_iw M y)) (rg_b (¬ x = y)) 1 = 0 ∧ r = 0 ∧ M1 = rg_I M 412 33 (rm_go (rg_b (rm_iw M x ∧ rm_iw M y)) (rg_b (¬ x = y)) 1)) ∨ (rm_go (rg_b (rm_iw M x ∧ rm_iw M y)) (rg_b (¬ x = y)) 1 = 0 ∧ r = rg_b ((M.2 416 x.toNatClampNeg >>> (y.toInt64 &&& 63)) &&& 1 = 1) ∧ M1 = rg_J (rg_J (rg_I M 412 33 (rm_go (rg_b (rm_iw M x ∧ rm_iw M y)) (rg_b (¬ x = y)) 1)) 416 x.toNatClampNeg (M.2 416 x.toNatClampNeg ||| (1 : Int64) <<< (y.toInt64 &&& 63))) 416 y.toNatClampNeg ((rg_J (rg_I M 412 33 (rm_go (rg_b (rm_iw M x ∧ rm_iw M y)) (rg_b (¬ x = y)) 1)) 416 x.toNatClampNeg (M.2 416 x.toNatClampNeg ||| (1 : Int64) <<< (y.toInt64 &&& 63))).2 416 y.toNatClampNeg ||| (1 : Int64) <<< (x.toInt64 &&& 63))))) 0 0 (rg_A B) := by
  refine rg_ofW (by decide +kernel) rfl (Nat.le_of_ble_eq_true rfl) ?_
  intro p e s m args below meth c ls C0 hH hl hr hlocks hnm
  replace hl : lv_has ls 4 [(0, .ref (B + 412)), (1, .int (x)), (2, .int (y))] := hl
  have hx := C0.1.1
  have hb := C0.1.2.1
  generalize hH9 : s.heap = H at hH ⊢
  generalize hL9 : ([] : List Loc) = locs at hH ⊢
  clear hH9 hL9
  refine lv_aload_n hx hb dX7_call_0 rfl (lv_at hl 0 rfl) ?_
  have cut_22 : ∀  (H : Heap) (locs : List Loc) (ls : Array Slot), rg_H E B 433 rg_R0 M s H locs → lv_has ls 4 [(0, .ref (B + 412)), (1, .int (x)), (2, .int (y))] → W p l e ({ frames := 2, cells := 0, slots := 0, locals := 43 } : Room) s m args below meth c H locs 0 0 (MQ below (rg_Wi E B 433 rg_R0 (fun r M1 => (¬ rm_go (rg_b (rm_iw M x ∧ rm_iw M y)) (rg_b (¬ x = y)) 1 = 0 ∧ r = 0 ∧ M1 = rg_I M 412 33 (rm_go (rg_b (rm_iw M x ∧ rm_iw M y)) (rg_b (¬ x = y)) 1)) ∨ (rm_go (rg_b (rm_iw M x ∧ rm_iw M y)) (rg_b (¬ x = y)) 1 = 0 ∧ r = rg_b ((M.2 416 x.toNatClampNeg >>> (y.toInt64 &&& 63)) &&& 1 = 1) ∧ M1 = rg_J (rg_J (rg_I M 412 33 (rm_go (rg_b (rm_iw M x ∧ rm_iw M y)) (rg_b (¬ x = y)) 1)) 416 x.toNatClampNeg (M.2 416 x.toNatClampNeg ||| (1 : Int64) <<< (y.toInt64 &&& 63))) 416 y.toNatClampNeg ((rg_J (rg_I M 412 33 (rm_go (rg_b (rm_iw M x ∧ rm_iw M y)) (rg_b (¬ x = y)) 1)) 416 x.toNatClampNeg (M.2 416 x.toNatClampNeg ||| (1 : Int64) <<< (y.toInt64 &&& 63))).2 416 y.toNatClampNeg ||| (1 : Int64) <<< (x.toInt64 &&& 63))))) args s 0 0 (rg_A B)) (F0 m 22 ls [.int (rg_b (rm_iw M x ∧ rm_iw M y)), .ref (B + 412)]) := by
    intro  H locs ls hH hl 
    refine lv_iload_n hx hb dX7_call_22 rfl (lv_at hl 1 rfl) ?_
    have cut_32 : ∀  (H : Heap) (locs : List Loc) (ls : Array Slot), rg_H E B 433 rg_R0 M s H locs → lv_has ls 4 [(0, .ref (B + 412)), (1, .int (x)), (2, .int (y))] → W p l e ({ frames := 2, cells := 0, slots := 0, locals := 43 } : Room) s m args below meth c H locs 0 0 (MQ below (rg_Wi E B 433 rg_R0 (fun r M1 => (¬ rm_go (rg_b (rm_iw M x ∧ rm_iw M y)) (rg_b (¬ x = y)) 1 = 0 ∧ r = 0 ∧ M1 = rg_I M 412 33 (rm_go (rg_b (rm_iw M x ∧ rm_iw M y)) (rg_b (¬ x = y)) 1)) ∨ (rm_go (rg_b (rm_iw M x ∧ rm_iw M y)) (rg_b (¬ x = y)) 1 = 0 ∧ r = rg_b ((M.2 416 x.toNatClampNeg >>> (y.toInt64 &&& 63)) &&& 1 = 1) ∧ M1 = rg_J (rg_J (rg_I M 412 33 (rm_go (rg_b (rm_iw M x ∧ rm_iw M y)) (rg_b (¬ x = y)) 1)) 416 x.toNatClampNeg (M.2 416 x.toNatClampNeg ||| (1 : Int64) <<< (y.toInt64 &&& 63))) 416 y.toNatClampNeg ((rg_J (rg_I M 412 33 (rm_go (rg_b (rm_iw M x ∧ rm_iw M y)) (rg_b (¬ x = y)) 1)) 416 x.toNatClampNeg (M.2 416 x.toNatClampNeg ||| (1 : Int64) <<< (y.toInt64 &&& 63))).2 416 y.toNatClampNeg ||| (1 : Int64) <<< (x.toInt64 &&& 63))))) args s 0 0 (rg_A B)) (F0 m 32 ls [.int (rg_b (¬ x = y)), .int (rg_b (rm_iw M x ∧ rm_iw M y)), .ref (B + 412)]) := by
      intro  H locs ls hH hl 
      refine lv_iconst (v := 1) hx hb dX7_call_32 (by decide) ?_
      refine rg_callGi C0 hH (As := [.int (rg_b (rm_iw M x ∧ rm_iw M y)), .int (rg_b (¬ x = y)), .int (1)]) (rest := []) (o := 412) (ci := 7) (k_X7_goes l E B M (rg_b (rm_iw M x ∧ rm_iw M y)) (rg_b (¬ x = y)) 1) (rg_cw 3 C0.1.2.2.2.2 tw_m_X7_92 tw_i_X7_goes tw_v_X7_goes tw_n_X7 tw_c_X7_goes rfl rfl hd_X7_goes ⟨Nat.le_of_ble_eq_true rfl, Nat.le_of_ble_eq_true rfl⟩) rfl (by decide) rfl (by decide) rfl hl.1 rfl (Nat.le_of_ble_eq_true rfl) dX7_call_33 ⟨Nat.le_of_ble_eq_true rfl, Nat.le_of_ble_eq_true rfl⟩ (fun H locs hH => ?_)
      refine lv_if_ne (tgt := 41) hx hb dX7_call_36 (by decide) (fun c_36 => ?_) (fun c_36 => ?_)
      · have hg := rm_go_inv (rg_b_ne.mp c_36)
        have hP := rg_b_ne.mp hg.1
        have hQ := rg_b_ne.mp hg.2.1
        refine lv_aload_n hx hb dX7_call_41 rfl (lv_at hl 0 rfl) ?_
        refine lv_iload_n hx hb dX7_call_42 rfl (lv_at hl 1 rfl) ?_
        refine lv_iload_n hx hb dX7_call_43 rfl (lv_at hl 2 rfl) ?_
        refine rg_callGi C0 hH (As := [.int (x), .int (y)]) (rest := []) (o := 412) (ci := 7) (k_X7_calls l E B (rg_I M 412 33 (rm_go (rg_b (rm_iw M x ∧ rm_iw M y)) (rg_b (¬ x = y)) 1)) x y (by exact rm_iw_in hI hP.1)) (rg_cw 2 C0.1.2.2.2.2 tw_m_X7_100 tw_i_X7_calls tw_v_X7_calls tw_n_X7 tw_c_X7_calls rfl rfl hd_X7_calls ⟨Nat.le_of_ble_eq_true rfl, Nat.le_of_ble_eq_true rfl⟩) rfl (by decide) rfl (by decide) rfl hl.1 rfl (Nat.le_of_ble_eq_true rfl) dX7_call_44 ⟨Nat.le_of_ble_eq_true rfl, Nat.le_of_ble_eq_true rfl⟩ (fun H locs hH => ?_)
        refine lv_istore_n (lv' := [(3, .int (rg_b (((rg_I M 412 33 (rm_go (rg_b (rm_iw M x ∧ rm_iw M y)) (rg_b (¬ x = y)) 1)).2 416 x.toNatClampNeg >>> (y.toInt64 &&& 63)) &&& 1 = 1))), (0, .ref (B + 412)), (1, .int (x)), (2, .int (y))]) hx hb dX7_call_47 rfl hl (by decide) rfl (fun ls hl => ?_)
        refine lv_aload_n hx hb dX7_call_48 rfl (lv_at hl 1 rfl) ?_
        refine rg_gR C0 hH (o2 := 416) (ci := 7) (k := 3) (o := 412) rfl rfl inT_X7 (by decide) tw_f_X7_19 (by decide) rfl (by decide) rfl dX7_call_49 ?_
        refine lv_iload_n hx hb dX7_call_52 rfl (lv_at hl 2 rfl) ?_
        refine lv_dup2_11 hx hb dX7_call_53 rfl rfl ?_
        refine rg_lald C0 hH (o := 416) (by decide) rfl (rg_vin rfl (by exact rm_iw_in hI hP.1)) dX7_call_54 ?_
        refine lv_lconst (v := 1) hx hb dX7_call_55 (by decide) ?_
        refine lv_iload_n hx hb dX7_call_56 rfl (lv_at hl 3 rfl) ?_
        refine lv_lshl hx hb dX7_call_57 rfl ?_
        refine lv_lor hx hb dX7_call_58 ?_
        refine rg_last C0 hH (o := 416) (by decide) rfl (rg_vin rfl (by exact rm_iw_in hI hP.1)) dX7_call_59 (fun H locs hH => ?_)
        refine lv_aload_n hx hb dX7_call_60 rfl (lv_at hl 1 rfl) ?_
        refine rg_gR C0 hH (o2 := 416) (ci := 7) (k := 3) (o := 412) rfl rfl inT_X7 (by decide) tw_f_X7_19 (by decide) rfl (by decide) rfl dX7_call_61 ?_
        refine lv_iload_n hx hb dX7_call_64 rfl (lv_at hl 3 rfl) ?_
        refine lv_dup2_11 hx hb dX7_call_65 rfl rfl ?_
        refine rg_lald C0 hH (o := 416) (by decide) rfl (rg_vin rfl (by exact rm_iw_in hI hP.2)) dX7_call_66 ?_
        refine lv_lconst (v := 1) hx hb dX7_call_67 (by decide) ?_
        refine lv_iload_n hx hb dX7_call_68 rfl (lv_at hl 2 rfl) ?_
        refine lv_lshl hx hb dX7_call_69 rfl ?_
        refine lv_lor hx hb dX7_call_70 ?_
        refine rg_last C0 hH (o := 416) (by decide) rfl (rg_vin rfl (by exact rm_iw_in hI hP.2)) dX7_call_71 (fun H locs hH => ?_)
        refine lv_iload_n hx hb dX7_call_72 rfl (lv_at hl 0 rfl) ?_
        exact rg_retWz C0 hH hr hlocks (by exact rg_b_01) (by exact Or.inr ⟨rg_b_ne.mp c_36, rfl, rfl⟩) dX7_call_73
      · refine lv_iconst (v := 0) hx hb dX7_call_39 (by decide) ?_
        exact rg_retWz C0 hH hr hlocks (Or.inl rfl) (by exact Or.inl ⟨rg_b_eq.mp c_36, rfl, rfl⟩) dX7_call_40
    refine lv_iload_n hx hb dX7_call_23 rfl (lv_at hl 2 rfl) ?_
    refine lv_icmp_eq (tgt := 31) hx hb dX7_call_24 (by decide) (fun c_24 => ?_) (fun c_24 => ?_)
    · refine lv_iconst (v := 0) hx hb dX7_call_31 (by decide) ?_
      refine rg_topi (y := rg_b (¬ x = y)) (by first | exact rg_b_f (fun q => q c_24)) ?_
      exact cut_32 _ _ _ hH (lv_sub hl [0, 1, 2] rfl)
    · refine lv_iconst (v := 1) hx hb dX7_call_27 (by decide) ?_
      refine lv_goto (tgt := 32) hx hb dX7_call_28 (by decide) ?_
      refine rg_topi (y := rg_b (¬ x = y)) (by exact rg_b_t (c_24)) ?_
      exact cut_32 _ _ _ hH (lv_sub hl [0, 1, 2] rfl)
  refine lv_aload_n hx hb dX7_call_1 rfl (lv_at hl 0 rfl) ?_
  refine lv_iload_n hx hb dX7_call_2 rfl (lv_at hl 1 rfl) ?_
  refine rg_callGi C0 hH (As := [.int (x)]) (rest := [.ref (B + 412)]) (o := 412) (ci := 7) (k_X7_isWord l E B M x (by exact hI)) (rg_cw 1 C0.1.2.2.2.2 tw_m_X7_96 tw_i_X7_isWord tw_v_X7_isWord tw_n_X7 tw_c_X7_isWord rfl rfl hd_X7_isWord ⟨Nat.le_of_ble_eq_true rfl, Nat.le_of_ble_eq_true rfl⟩) rfl (by decide) rfl (by decide) rfl hl.1 rfl (Nat.le_of_ble_eq_true rfl) dX7_call_3 ⟨Nat.le_of_ble_eq_true rfl, Nat.le_of_ble_eq_true rfl⟩ (fun H locs hH => ?_)
  refine lv_if_eq (tgt := 21) hx hb dX7_call_6 (by decide) (fun c_6 => ?_) (fun c_6 => ?_)
  · refine lv_iconst (v := 0) hx hb dX7_call_21 (by decide) ?_
    refine rg_topi (y := rg_b (rm_iw M x ∧ rm_iw M y)) (by first | exact rg_b_f (fun q => rg_b_eq.mp c_6 q.1) | exact rg_b_f (fun q => rg_b_eq.mp c_14 q.2)) ?_
    exact cut_22 _ _ _ hH (lv_sub hl [0, 1, 2] rfl)
  · refine lv_aload_n hx hb dX7_call_9 rfl (lv_at hl 0 rfl) ?_
    refine lv_iload_n hx hb dX7_call_10 rfl (lv_at hl 2 rfl) ?_
    refine rg_callGi C0 hH (As := [.int (y)]) (rest := [.ref (B + 412)]) (o := 412) (ci := 7) (k_X7_isWord l E B M y (by exact hI)) (rg_cw 1 C0.1.2.2.2.2 tw_m_X7_96 tw_i_X7_isWord tw_v_X7_isWord tw_n_X7 tw_c_X7_isWord rfl rfl hd_X7_isWord ⟨Nat.le_of_ble_eq_true rfl, Nat.le_of_ble_eq_true rfl⟩) rfl (by decide) rfl (by decide) rfl hl.1 rfl (Nat.le_of_ble_eq_true rfl) dX7_call_11 ⟨Nat.le_of_ble_eq_true rfl, Nat.le_of_ble_eq_true rfl⟩ (fun H locs hH => ?_)
    refine lv_if_eq (tgt := 21) hx hb dX7_call_14 (by decide) (fun c_14 => ?_) (fun c_14 => ?_)
    · refine lv_iconst (v := 0) hx hb dX7_call_21 (by decide) ?_
      refine rg_topi (y := rg_b (rm_iw M x ∧ rm_iw M y)) (by first | exact rg_b_f (fun q => rg_b_eq.mp c_6 q.1) | exact rg_b_f (fun q => rg_b_eq.mp c_14 q.2)) ?_
      exact cut_22 _ _ _ hH (lv_sub hl [0, 1, 2] rfl)
    · refine lv_iconst (v := 1) hx hb dX7_call_17 (by decide) ?_
      refine lv_goto (tgt := 22) hx hb dX7_call_18 (by decide) ?_
      refine rg_topi (y := rg_b (rm_iw M x ∧ rm_iw M y)) (by exact rg_b_t (⟨rg_b_ne.mp c_6, rg_b_ne.mp c_14⟩)) ?_
      exact cut_22 _ _ _ hH (lv_sub hl [0, 1, 2] rfl)

set_option maxHeartbeats 4000000 in
set_option maxRecDepth 100000 in
/-- poet -/
theorem k_X7_poet (l : Launch) (E : rg_Env) (B : Nat) (M : rg_Mem) (hI : rm_CI M) : Met l yX7_poet (rg_w yX7_poet cX7_poet 1 (some (FieldType.int))) ({ frames := 1, cells := 0, slots := 0, locals := 23 } : Room) (va_Pc [.ref (B + 412)] (rg_Pre E B 433 rg_R0 M)) (rg_Wi E B 433 rg_R0 (fun r M1 => (¬ rm_go (rg_b (¬ 6 ≤ M.1 412 5)) 1 1 = 0 ∧ r = 0 ∧ M1 = rg_I M 412 33 (rm_go (rg_b (¬ 6 ≤ M.1 412 5)) 1 1)) ∨ (rm_go (rg_b (¬ 6 ≤ M.1 412 5)) 1 1 = 0 ∧ r = nI (rm_np M) ∧ M1 = rg_I (rg_I M 412 33 (rm_go (rg_b (¬ 6 ≤ M.1 412 5)) 1 1)) 412 5 (nI (rm_np M + 1))))) 0 0 (rg_A B) := by
  refine rg_ofW (by decide +kernel) rfl (Nat.le_of_ble_eq_true rfl) ?_
  intro p e s m args below meth c ls C0 hH hl hr hlocks hnm
  replace hl : lv_has ls 1 [(0, .ref (B + 412))] := hl
  have hx := C0.1.1
  have hb := C0.1.2.1
  generalize hH9 : s.heap = H at hH ⊢
  generalize hL9 : ([] : List Loc) = locs at hH ⊢
  clear hH9 hL9
  refine lv_aload_n hx hb dX7_poet_0 rfl (lv_at hl 0 rfl) ?_
  have cut_15 : ∀  (H : Heap) (locs : List Loc) (ls : Array Slot), rg_H E B 433 rg_R0 M s H locs → lv_has ls 1 [(0, .ref (B + 412))] → W p l e ({ frames := 1, cells := 0, slots := 0, locals := 23 } : Room) s m args below meth c H locs 0 0 (MQ below (rg_Wi E B 433 rg_R0 (fun r M1 => (¬ rm_go (rg_b (¬ 6 ≤ M.1 412 5)) 1 1 = 0 ∧ r = 0 ∧ M1 = rg_I M 412 33 (rm_go (rg_b (¬ 6 ≤ M.1 412 5)) 1 1)) ∨ (rm_go (rg_b (¬ 6 ≤ M.1 412 5)) 1 1 = 0 ∧ r = nI (rm_np M) ∧ M1 = rg_I (rg_I M 412 33 (rm_go (rg_b (¬ 6 ≤ M.1 412 5)) 1 1)) 412 5 (nI (rm_np M + 1))))) args s 0 0 (rg_A B)) (F0 m 15 ls [.int (rg_b (¬ 6 ≤ M.1 412 5)), .ref (B + 412)]) := by
    intro  H locs ls hH hl 
    refine lv_iconst (v := 1) hx hb dX7_poet_15 (by decide) ?_
    refine lv_iconst (v := 1) hx hb dX7_poet_16 (by decide) ?_
    refine rg_callGi C0 hH (As := [.int (rg_b (¬ 6 ≤ M.1 412 5)), .int (1), .int (1)]) (rest := []) (o := 412) (ci := 7) (k_X7_goes l E B M (rg_b (¬ 6 ≤ M.1 412 5)) 1 1) (rg_cw 3 C0.1.2.2.2.2 tw_m_X7_92 tw_i_X7_goes tw_v_X7_goes tw_n_X7 tw_c_X7_goes rfl rfl hd_X7_goes ⟨Nat.le_of_ble_eq_true rfl, Nat.le_of_ble_eq_true rfl⟩) rfl (by decide) rfl (by decide) rfl hl.1 rfl (Nat.le_of_ble_eq_true rfl) dX7_poet_17 ⟨Nat.le_of_ble_eq_true rfl, Nat.le_of_ble_eq_true rfl⟩ (fun H locs hH => ?_)
    refine lv_if_ne (tgt := 25) hx hb dX7_poet_20 (by decide) (fun c_20 => ?_) (fun c_20 => ?_)
    · refine lv_aload_n hx hb dX7_poet_25 rfl (lv_at hl 0 rfl) ?_
      refine lv_dup hx hb dX7_poet_26 rfl ?_
      refine rg_gI C0 hH (ci := 7) (k := 5) (o := 412) rfl inT_X7 (by decide) tw_f_X7_83 (by decide) rfl (by decide) rfl dX7_poet_27 ?_
      refine rg_topi (y := nI (rm_np M)) (by exact (rm_CI_p hI).1) ?_
      refine lv_iconst (v := 1) hx hb dX7_poet_30 (by decide) ?_
      refine lv_iadd hx hb dX7_poet_31 ?_
      refine rg_topi (y := nI ((rm_np M) + 1)) (by exact nI_add (rm_np M) (1)) ?_
      refine rg_pI C0 hH (v := nI ((rm_np M) + 1)) tyX7 tyX7_ok nmX7 (ci := 7) (k := 5) (o := 412) rfl inT_X7 (by decide) tw_f_X7_83 (by decide) rfl (by decide) rfl rfl rfl rfl dX7_poet_32 (fun H locs hH => ?_)
      refine lv_aload_n hx hb dX7_poet_35 rfl (lv_at hl 0 rfl) ?_
      refine rg_gI C0 hH (ci := 7) (k := 5) (o := 412) rfl inT_X7 (by decide) tw_f_X7_83 (by decide) rfl (by decide) rfl dX7_poet_36 ?_
      refine rg_topi (y := nI (rm_np M + 1)) (by exact rm_get) ?_
      refine lv_iconst (v := 1) hx hb dX7_poet_39 (by decide) ?_
      refine lv_isub hx hb dX7_poet_40 ?_
      refine rg_topi (y := nI (rm_np M)) (by exact nI_pred _) ?_
      exact rg_retWi C0 hH hr hlocks (by exact Or.inr ⟨rg_b_ne.mp c_20, rfl, rfl⟩) dX7_poet_41
    · refine lv_iconst (v := 0) hx hb dX7_poet_23 (by decide) ?_
      exact rg_retWi C0 hH hr hlocks (by exact Or.inl ⟨rg_b_eq.mp c_20, rfl, rfl⟩) dX7_poet_24
  refine lv_aload_n hx hb dX7_poet_1 rfl (lv_at hl 0 rfl) ?_
  refine rg_gI C0 hH (ci := 7) (k := 5) (o := 412) rfl inT_X7 (by decide) tw_f_X7_83 (by decide) rfl (by decide) rfl dX7_poet_2 ?_
  refine lv_bipush (v := 6) hx hb dX7_poet_5 (by decide) ?_
  refine lv_icmp_ge (tgt := 14) hx hb dX7_poet_7 (by decide) (fun c_7 => ?_) (fun c_7 => ?_)
  · refine lv_iconst (v := 0) hx hb dX7_poet_14 (by decide) ?_
    refine rg_topi (y := rg_b (¬ 6 ≤ M.1 412 5)) (by first | exact rg_b_f (fun q => q c_7)) ?_
    exact cut_15 _ _ _ hH (lv_sub hl [0] rfl)
  · refine lv_iconst (v := 1) hx hb dX7_poet_10 (by decide) ?_
    refine lv_goto (tgt := 15) hx hb dX7_poet_11 (by decide) ?_
    refine rg_topi (y := rg_b (¬ 6 ≤ M.1 412 5)) (by exact rg_b_t (c_7)) ?_
    exact cut_15 _ _ _ hH (lv_sub hl [0] rfl)

set_option maxHeartbeats 4000000 in
set_option maxRecDepth 100000 in
/-- seat -/
theorem k_X7_seat (l : Launch) (E : rg_Env) (B : Nat) (M : rg_Mem) (x : Int32) (y : Int32) (hI : rm_CI M) : Met l yX7_seat (rg_w yX7_seat cX7_seat 4 (some (FieldType.int))) ({ frames := 1, cells := 0, slots := 0, locals := 23 } : Room) (va_Pc [.ref (B + 412), .int (x), .int (y)] (rg_Pre E B 433 rg_R0 M)) (rg_Wi E B 433 rg_R0 (fun r M1 => (¬ rm_go (rg_b (¬ M.1 412 6 = 0 ∧ rm_in x (M.1 412 11) (M.1 412 7 - 1))) (rg_b (rm_in y 0 2)) (rg_b (M.1 412 24 = 0)) = 0 ∧ r = 0 ∧ M1 = rg_I M 412 33 (rm_go (rg_b (¬ M.1 412 6 = 0 ∧ rm_in x (M.1 412 11) (M.1 412 7 - 1))) (rg_b (rm_in y 0 2)) (rg_b (M.1 412 24 = 0)))) ∨ (rm_go (rg_b (¬ M.1 412 6 = 0 ∧ rm_in x (M.1 412 11) (M.1 412 7 - 1))) (rg_b (rm_in y 0 2)) (rg_b (M.1 412 24 = 0)) = 0 ∧ r = M.1 420 x.toNatClampNeg ∧ M1 = rg_I (rg_I M 412 33 (rm_go (rg_b (¬ M.1 412 6 = 0 ∧ rm_in x (M.1 412 11) (M.1 412 7 - 1))) (rg_b (rm_in y 0 2)) (rg_b (M.1 412 24 = 0)))) 420 x.toNatClampNeg y))) 0 0 (rg_A B) := by
  refine rg_ofW (by decide +kernel) rfl (Nat.le_of_ble_eq_true rfl) ?_
  intro p e s m args below meth c ls C0 hH hl hr hlocks hnm
  replace hl : lv_has ls 4 [(0, .ref (B + 412)), (1, .int (x)), (2, .int (y))] := hl
  have hx := C0.1.1
  have hb := C0.1.2.1
  generalize hH9 : s.heap = H at hH ⊢
  generalize hL9 : ([] : List Loc) = locs at hH ⊢
  clear hH9 hL9
  refine lv_aload_n hx hb dX7_seat_0 rfl (lv_at hl 0 rfl) ?_
  have cut_30 : ∀  (H : Heap) (locs : List Loc) (ls : Array Slot), rg_H E B 433 rg_R0 M s H locs → lv_has ls 4 [(0, .ref (B + 412)), (1, .int (x)), (2, .int (y))] → W p l e ({ frames := 1, cells := 0, slots := 0, locals := 23 } : Room) s m args below meth c H locs 0 0 (MQ below (rg_Wi E B 433 rg_R0 (fun r M1 => (¬ rm_go (rg_b (¬ M.1 412 6 = 0 ∧ rm_in x (M.1 412 11) (M.1 412 7 - 1))) (rg_b (rm_in y 0 2)) (rg_b (M.1 412 24 = 0)) = 0 ∧ r = 0 ∧ M1 = rg_I M 412 33 (rm_go (rg_b (¬ M.1 412 6 = 0 ∧ rm_in x (M.1 412 11) (M.1 412 7 - 1))) (rg_b (rm_in y 0 2)) (rg_b (M.1 412 24 = 0)))) ∨ (rm_go (rg_b (¬ M.1 412 6 = 0 ∧ rm_in x (M.1 412 11) (M.1 412 7 - 1))) (rg_b (rm_in y 0 2)) (rg_b (M.1 412 24 = 0)) = 0 ∧ r = M.1 420 x.toNatClampNeg ∧ M1 = rg_I (rg_I M 412 33 (rm_go (rg_b (¬ M.1 412 6 = 0 ∧ rm_in x (M.1 412 11) (M.1 412 7 - 1))) (rg_b (rm_in y 0 2)) (rg_b (M.1 412 24 = 0)))) 420 x.toNatClampNeg y))) args s 0 0 (rg_A B)) (F0 m 30 ls [.int (rg_b (¬ M.1 412 6 = 0 ∧ rm_in x (M.1 412 11) (M.1 412 7 - 1))), .ref (B + 412)]) := by
    intro  H locs ls hH hl 
    refine lv_iload_n hx hb dX7_seat_30 rfl (lv_at hl 2 rfl) ?_
    refine lv_iconst (v := 0) hx hb dX7_seat_31 (by decide) ?_
    refine lv_iconst (v := 2) hx hb dX7_seat_32 (by decide) ?_
    refine rg_callSGi C0 hH (As := [.int (y), .int (0), .int (2)]) (rest := [.int (rg_b (¬ M.1 412 6 = 0 ∧ rm_in x (M.1 412 11) (M.1 412 7 - 1))), .ref (B + 412)]) (k_X7_in l E B M y 0 2) (rg_cwS 3 C0.1.2.2.2.2 tw_m_X7_79 tw_s_X7_in tw_n_X7 tw_c_X7_in rfl rfl hd_X7_in ⟨Nat.le_of_ble_eq_true rfl, Nat.le_of_ble_eq_true rfl⟩) rfl hl.1 rfl (Nat.le_of_ble_eq_true rfl) dX7_seat_33 ⟨Nat.le_of_ble_eq_true rfl, Nat.le_of_ble_eq_true rfl⟩ (fun H locs hH => ?_)
    refine lv_aload_n hx hb dX7_seat_36 rfl (lv_at hl 0 rfl) ?_
    have cut_48 : ∀  (H : Heap) (locs : List Loc) (ls : Array Slot), rg_H E B 433 rg_R0 M s H locs → lv_has ls 4 [(0, .ref (B + 412)), (1, .int (x)), (2, .int (y))] → W p l e ({ frames := 1, cells := 0, slots := 0, locals := 23 } : Room) s m args below meth c H locs 0 0 (MQ below (rg_Wi E B 433 rg_R0 (fun r M1 => (¬ rm_go (rg_b (¬ M.1 412 6 = 0 ∧ rm_in x (M.1 412 11) (M.1 412 7 - 1))) (rg_b (rm_in y 0 2)) (rg_b (M.1 412 24 = 0)) = 0 ∧ r = 0 ∧ M1 = rg_I M 412 33 (rm_go (rg_b (¬ M.1 412 6 = 0 ∧ rm_in x (M.1 412 11) (M.1 412 7 - 1))) (rg_b (rm_in y 0 2)) (rg_b (M.1 412 24 = 0)))) ∨ (rm_go (rg_b (¬ M.1 412 6 = 0 ∧ rm_in x (M.1 412 11) (M.1 412 7 - 1))) (rg_b (rm_in y 0 2)) (rg_b (M.1 412 24 = 0)) = 0 ∧ r = M.1 420 x.toNatClampNeg ∧ M1 = rg_I (rg_I M 412 33 (rm_go (rg_b (¬ M.1 412 6 = 0 ∧ rm_in x (M.1 412 11) (M.1 412 7 - 1))) (rg_b (rm_in y 0 2)) (rg_b (M.1 412 24 = 0)))) 420 x.toNatClampNeg y))) args s 0 0 (rg_A B)) (F0 m 48 ls [.int (rg_b (M.1 412 24 = 0)), .int (rg_b (rm_in y 0 2)), .int (rg_b (¬ M.1 412 6 = 0 ∧ rm_in x (M.1 412 11) (M.1 412 7 - 1))), .ref (B + 412)]) := by
      intro  H locs ls hH hl 
      refine rg_callGi C0 hH (As := [.int (rg_b (¬ M.1 412 6 = 0 ∧ rm_in x (M.1 412 11) (M.1 412 7 - 1))), .int (rg_b (rm_in y 0 2)), .int (rg_b (M.1 412 24 = 0))]) (rest := []) (o := 412) (ci := 7) (k_X7_goes l E B M (rg_b (¬ M.1 412 6 = 0 ∧ rm_in x (M.1 412 11) (M.1 412 7 - 1))) (rg_b (rm_in y 0 2)) (rg_b (M.1 412 24 = 0))) (rg_cw 3 C0.1.2.2.2.2 tw_m_X7_92 tw_i_X7_goes tw_v_X7_goes tw_n_X7 tw_c_X7_goes rfl rfl hd_X7_goes ⟨Nat.le_of_ble_eq_true rfl, Nat.le_of_ble_eq_true rfl⟩) rfl (by decide) rfl (by decide) rfl hl.1 rfl (Nat.le_of_ble_eq_true rfl) dX7_seat_48 ⟨Nat.le_of_ble_eq_true rfl, Nat.le_of_ble_eq_true rfl⟩ (fun H locs hH => ?_)
      refine lv_if_ne (tgt := 56) hx hb dX7_seat_51 (by decide) (fun c_51 => ?_) (fun c_51 => ?_)
      · have hg := rm_go_inv (rg_b_ne.mp c_51)
        have hP := rg_b_ne.mp hg.1
        refine lv_aload_n hx hb dX7_seat_56 rfl (lv_at hl 0 rfl) ?_
        refine rg_gR C0 hH (o2 := 420) (ci := 7) (k := 15) (o := 412) rfl rfl inT_X7 (by decide) tw_f_X7_32 (by decide) rfl (by decide) rfl dX7_seat_57 ?_
        refine lv_iload_n hx hb dX7_seat_60 rfl (lv_at hl 1 rfl) ?_
        refine rg_iald C0 hH (o := 420) (by decide) rfl (rg_vin rfl (by exact rm_seat_in hI hP.2)) dX7_seat_61 ?_
        refine lv_istore_n (lv' := [(3, .int ((rg_I M 412 33 (rm_go (rg_b (¬ M.1 412 6 = 0 ∧ rm_in x (M.1 412 11) (M.1 412 7 - 1))) (rg_b (rm_in y 0 2)) (rg_b (M.1 412 24 = 0)))).1 420 x.toNatClampNeg)), (0, .ref (B + 412)), (1, .int (x)), (2, .int (y))]) hx hb dX7_seat_62 rfl hl (by decide) rfl (fun ls hl => ?_)
        refine lv_aload_n hx hb dX7_seat_63 rfl (lv_at hl 1 rfl) ?_
        refine rg_gR C0 hH (o2 := 420) (ci := 7) (k := 15) (o := 412) rfl rfl inT_X7 (by decide) tw_f_X7_32 (by decide) rfl (by decide) rfl dX7_seat_64 ?_
        refine lv_iload_n hx hb dX7_seat_67 rfl (lv_at hl 2 rfl) ?_
        refine lv_iload_n hx hb dX7_seat_68 rfl (lv_at hl 3 rfl) ?_
        refine rg_iast C0 hH (o := 420) (by decide) rfl (rg_vin rfl (by exact rm_seat_in hI hP.2)) dX7_seat_69 (fun H locs hH => ?_)
        refine lv_iload_n hx hb dX7_seat_70 rfl (lv_at hl 0 rfl) ?_
        exact rg_retWi C0 hH hr hlocks (by exact Or.inr ⟨rg_b_ne.mp c_51, rfl, rfl⟩) dX7_seat_71
      · refine lv_iconst (v := 0) hx hb dX7_seat_54 (by decide) ?_
        exact rg_retWi C0 hH hr hlocks (by exact Or.inl ⟨rg_b_eq.mp c_51, rfl, rfl⟩) dX7_seat_55
    refine rg_gI C0 hH (ci := 7) (k := 24) (o := 412) rfl inT_X7 (by decide) tw_f_X7_120 (by decide) rfl (by decide) rfl dX7_seat_37 ?_
    refine lv_if_ne (tgt := 47) hx hb dX7_seat_40 (by decide) (fun c_40 => ?_) (fun c_40 => ?_)
    · refine lv_iconst (v := 0) hx hb dX7_seat_47 (by decide) ?_
      refine rg_topi (y := rg_b (M.1 412 24 = 0)) (by first | exact rg_b_f (c_40)) ?_
      exact cut_48 _ _ _ hH (lv_sub hl [0, 1, 2] rfl)
    · refine lv_iconst (v := 1) hx hb dX7_seat_43 (by decide) ?_
      refine lv_goto (tgt := 48) hx hb dX7_seat_44 (by decide) ?_
      refine rg_topi (y := rg_b (M.1 412 24 = 0)) (by exact rg_b_t (c_40)) ?_
      exact cut_48 _ _ _ hH (lv_sub hl [0, 1, 2] rfl)
  refine lv_aload_n hx hb dX7_seat_1 rfl (lv_at hl 0 rfl) ?_
  refine rg_gI C0 hH (ci := 7) (k := 6) (o := 412) rfl inT_X7 (by decide) tw_f_X7_103 (by decide) rfl (by decide) rfl dX7_seat_2 ?_
  refine lv_if_eq (tgt := 29) hx hb dX7_seat_5 (by decide) (fun c_5 => ?_) (fun c_5 => ?_)
  · refine lv_iconst (v := 0) hx hb dX7_seat_29 (by decide) ?_
    refine rg_topi (y := rg_b (¬ M.1 412 6 = 0 ∧ rm_in x (M.1 412 11) (M.1 412 7 - 1))) (by first | exact rg_b_f (fun q => q.1 c_5) | exact rg_b_f (fun q => rg_b_eq.mp c_22 q.2)) ?_
    exact cut_30 _ _ _ hH (lv_sub hl [0, 1, 2] rfl)
  · refine lv_iload_n hx hb dX7_seat_8 rfl (lv_at hl 1 rfl) ?_
    refine lv_aload_n hx hb dX7_seat_9 rfl (lv_at hl 0 rfl) ?_
    refine rg_gI C0 hH (ci := 7) (k := 11) (o := 412) rfl inT_X7 (by decide) tw_f_X7_86 (by decide) rfl (by decide) rfl dX7_seat_10 ?_
    refine lv_aload_n hx hb dX7_seat_13 rfl (lv_at hl 0 rfl) ?_
    refine rg_gI C0 hH (ci := 7) (k := 7) (o := 412) rfl inT_X7 (by decide) tw_f_X7_89 (by decide) rfl (by decide) rfl dX7_seat_14 ?_
    refine lv_iconst (v := 1) hx hb dX7_seat_17 (by decide) ?_
    refine lv_isub hx hb dX7_seat_18 ?_
    refine rg_callSGi C0 hH (As := [.int (x), .int (M.1 412 11), .int ((M.1 412 7) - 1)]) (rest := [.ref (B + 412)]) (k_X7_in l E B M x (M.1 412 11) ((M.1 412 7) - 1)) (rg_cwS 3 C0.1.2.2.2.2 tw_m_X7_79 tw_s_X7_in tw_n_X7 tw_c_X7_in rfl rfl hd_X7_in ⟨Nat.le_of_ble_eq_true rfl, Nat.le_of_ble_eq_true rfl⟩) rfl hl.1 rfl (Nat.le_of_ble_eq_true rfl) dX7_seat_19 ⟨Nat.le_of_ble_eq_true rfl, Nat.le_of_ble_eq_true rfl⟩ (fun H locs hH => ?_)
    refine lv_if_eq (tgt := 29) hx hb dX7_seat_22 (by decide) (fun c_22 => ?_) (fun c_22 => ?_)
    · refine lv_iconst (v := 0) hx hb dX7_seat_29 (by decide) ?_
      refine rg_topi (y := rg_b (¬ M.1 412 6 = 0 ∧ rm_in x (M.1 412 11) (M.1 412 7 - 1))) (by first | exact rg_b_f (fun q => q.1 c_5) | exact rg_b_f (fun q => rg_b_eq.mp c_22 q.2)) ?_
      exact cut_30 _ _ _ hH (lv_sub hl [0, 1, 2] rfl)
    · refine lv_iconst (v := 1) hx hb dX7_seat_25 (by decide) ?_
      refine lv_goto (tgt := 30) hx hb dX7_seat_26 (by decide) ?_
      refine rg_topi (y := rg_b (¬ M.1 412 6 = 0 ∧ rm_in x (M.1 412 11) (M.1 412 7 - 1))) (by exact rg_b_t (⟨c_5, rg_b_ne.mp c_22⟩)) ?_
      exact cut_30 _ _ _ hH (lv_sub hl [0, 1, 2] rfl)

set_option maxHeartbeats 4000000 in
set_option maxRecDepth 100000 in
/-- add -/
theorem k_X7_add (l : Launch) (E : rg_Env) (B : Nat) (M : rg_Mem) (x : Int32) (hI : rm_CI M) : Met l yX7_add (rg_w yX7_add cX7_add 2 (some (FieldType.int))) ({ frames := 2, cells := 0, slots := 0, locals := 43 } : Room) (va_Pc [.ref (B + 412), .int (x)] (rg_Pre E B 433 rg_R0 M)) (rg_Wi E B 433 rg_R0 (fun r M1 => (¬ rm_go (rg_b (rm_iw M x)) (rg_b (¬ 6 ≤ M.1 412 20)) 1 = 0 ∧ r = 0 ∧ M1 = rg_I M 412 33 (rm_go (rg_b (rm_iw M x)) (rg_b (¬ 6 ≤ M.1 412 20)) 1)) ∨ (rm_go (rg_b (rm_iw M x)) (rg_b (¬ 6 ≤ M.1 412 20)) 1 = 0 ∧ r = nI (rm_nd M + 1) ∧ M1 = rg_I (rg_I (rg_I M 412 33 (rm_go (rg_b (rm_iw M x)) (rg_b (¬ 6 ≤ M.1 412 20)) 1)) 424 (rm_nd M) x) 412 20 (nI (rm_nd M + 1))))) 0 0 (rg_A B) := by
  refine rg_ofW (by decide +kernel) rfl (Nat.le_of_ble_eq_true rfl) ?_
  intro p e s m args below meth c ls C0 hH hl hr hlocks hnm
  replace hl : lv_has ls 2 [(0, .ref (B + 412)), (1, .int (x))] := hl
  have hx := C0.1.1
  have hb := C0.1.2.1
  generalize hH9 : s.heap = H at hH ⊢
  generalize hL9 : ([] : List Loc) = locs at hH ⊢
  clear hH9 hL9
  refine lv_aload_n hx hb dX7_add_0 rfl (lv_at hl 0 rfl) ?_
  refine lv_aload_n hx hb dX7_add_1 rfl (lv_at hl 0 rfl) ?_
  refine lv_iload_n hx hb dX7_add_2 rfl (lv_at hl 1 rfl) ?_
  refine rg_callGi C0 hH (As := [.int (x)]) (rest := [.ref (B + 412)]) (o := 412) (ci := 7) (k_X7_isWord l E B M x (by exact hI)) (rg_cw 1 C0.1.2.2.2.2 tw_m_X7_96 tw_i_X7_isWord tw_v_X7_isWord tw_n_X7 tw_c_X7_isWord rfl rfl hd_X7_isWord ⟨Nat.le_of_ble_eq_true rfl, Nat.le_of_ble_eq_true rfl⟩) rfl (by decide) rfl (by decide) rfl hl.1 rfl (Nat.le_of_ble_eq_true rfl) dX7_add_3 ⟨Nat.le_of_ble_eq_true rfl, Nat.le_of_ble_eq_true rfl⟩ (fun H locs hH => ?_)
  refine lv_aload_n hx hb dX7_add_6 rfl (lv_at hl 0 rfl) ?_
  have cut_20 : ∀  (H : Heap) (locs : List Loc) (ls : Array Slot), rg_H E B 433 rg_R0 M s H locs → lv_has ls 2 [(0, .ref (B + 412)), (1, .int (x))] → W p l e ({ frames := 2, cells := 0, slots := 0, locals := 43 } : Room) s m args below meth c H locs 0 0 (MQ below (rg_Wi E B 433 rg_R0 (fun r M1 => (¬ rm_go (rg_b (rm_iw M x)) (rg_b (¬ 6 ≤ M.1 412 20)) 1 = 0 ∧ r = 0 ∧ M1 = rg_I M 412 33 (rm_go (rg_b (rm_iw M x)) (rg_b (¬ 6 ≤ M.1 412 20)) 1)) ∨ (rm_go (rg_b (rm_iw M x)) (rg_b (¬ 6 ≤ M.1 412 20)) 1 = 0 ∧ r = nI (rm_nd M + 1) ∧ M1 = rg_I (rg_I (rg_I M 412 33 (rm_go (rg_b (rm_iw M x)) (rg_b (¬ 6 ≤ M.1 412 20)) 1)) 424 (rm_nd M) x) 412 20 (nI (rm_nd M + 1))))) args s 0 0 (rg_A B)) (F0 m 20 ls [.int (rg_b (¬ 6 ≤ M.1 412 20)), .int (rg_b (rm_iw M x)), .ref (B + 412)]) := by
    intro  H locs ls hH hl 
    refine lv_iconst (v := 1) hx hb dX7_add_20 (by decide) ?_
    refine rg_callGi C0 hH (As := [.int (rg_b (rm_iw M x)), .int (rg_b (¬ 6 ≤ M.1 412 20)), .int (1)]) (rest := []) (o := 412) (ci := 7) (k_X7_goes l E B M (rg_b (rm_iw M x)) (rg_b (¬ 6 ≤ M.1 412 20)) 1) (rg_cw 3 C0.1.2.2.2.2 tw_m_X7_92 tw_i_X7_goes tw_v_X7_goes tw_n_X7 tw_c_X7_goes rfl rfl hd_X7_goes ⟨Nat.le_of_ble_eq_true rfl, Nat.le_of_ble_eq_true rfl⟩) rfl (by decide) rfl (by decide) rfl hl.1 rfl (Nat.le_of_ble_eq_true rfl) dX7_add_21 ⟨Nat.le_of_ble_eq_true rfl, Nat.le_of_ble_eq_true rfl⟩ (fun H locs hH => ?_)
    refine lv_if_ne (tgt := 29) hx hb dX7_add_24 (by decide) (fun c_24 => ?_) (fun c_24 => ?_)
    · have hg := rm_go_inv (rg_b_ne.mp c_24)
      have hP := rg_b_ne.mp hg.1
      have hQ := rg_b_ne.mp hg.2.1
      have h6 := rm_lt40 (rm_CI_d hI).1 (by have := (rm_CI_d hI).2.1; omega) (m := 6) rfl hQ
      refine lv_aload_n hx hb dX7_add_29 rfl (lv_at hl 0 rfl) ?_
      refine rg_gR C0 hH (o2 := 424) (ci := 7) (k := 19) (o := 412) rfl rfl inT_X7 (by decide) tw_f_X7_45 (by decide) rfl (by decide) rfl dX7_add_30 ?_
      refine lv_aload_n hx hb dX7_add_33 rfl (lv_at hl 0 rfl) ?_
      refine rg_gI C0 hH (ci := 7) (k := 20) (o := 412) rfl inT_X7 (by decide) tw_f_X7_126 (by decide) rfl (by decide) rfl dX7_add_34 ?_
      refine rg_topi (y := nI (rm_nd M)) (by exact (rm_CI_d hI).1) ?_
      refine lv_iload_n hx hb dX7_add_37 rfl (lv_at hl 1 rfl) ?_
      refine rg_iastN C0 hH (o := 424) (j := (rm_nd M)) (n0 := 6) (by decide) rfl rfl (by omega) dX7_add_38 (fun H locs hH => ?_)
      refine lv_aload_n hx hb dX7_add_39 rfl (lv_at hl 0 rfl) ?_
      refine lv_dup hx hb dX7_add_40 rfl ?_
      refine rg_gI C0 hH (ci := 7) (k := 20) (o := 412) rfl inT_X7 (by decide) tw_f_X7_126 (by decide) rfl (by decide) rfl dX7_add_41 ?_
      refine rg_topi (y := nI (rm_nd M)) (by exact (rm_CI_d hI).1) ?_
      refine lv_iconst (v := 1) hx hb dX7_add_44 (by decide) ?_
      refine lv_iadd hx hb dX7_add_45 ?_
      refine rg_topi (y := nI ((rm_nd M) + 1)) (by exact nI_add (rm_nd M) (1)) ?_
      refine rg_pI C0 hH (v := nI ((rm_nd M) + 1)) tyX7 tyX7_ok nmX7 (ci := 7) (k := 20) (o := 412) rfl inT_X7 (by decide) tw_f_X7_126 (by decide) rfl (by decide) rfl rfl rfl rfl dX7_add_46 (fun H locs hH => ?_)
      refine lv_aload_n hx hb dX7_add_49 rfl (lv_at hl 0 rfl) ?_
      refine rg_gI C0 hH (ci := 7) (k := 20) (o := 412) rfl inT_X7 (by decide) tw_f_X7_126 (by decide) rfl (by decide) rfl dX7_add_50 ?_
      refine rg_topi (y := nI (rm_nd M + 1)) (by exact rm_get) ?_
      exact rg_retWi C0 hH hr hlocks (by exact Or.inr ⟨rg_b_ne.mp c_24, rfl, rfl⟩) dX7_add_53
    · refine lv_iconst (v := 0) hx hb dX7_add_27 (by decide) ?_
      exact rg_retWi C0 hH hr hlocks (by exact Or.inl ⟨rg_b_eq.mp c_24, rfl, rfl⟩) dX7_add_28
  refine rg_gI C0 hH (ci := 7) (k := 20) (o := 412) rfl inT_X7 (by decide) tw_f_X7_126 (by decide) rfl (by decide) rfl dX7_add_7 ?_
  refine lv_bipush (v := 6) hx hb dX7_add_10 (by decide) ?_
  refine lv_icmp_ge (tgt := 19) hx hb dX7_add_12 (by decide) (fun c_12 => ?_) (fun c_12 => ?_)
  · refine lv_iconst (v := 0) hx hb dX7_add_19 (by decide) ?_
    refine rg_topi (y := rg_b (¬ 6 ≤ M.1 412 20)) (by first | exact rg_b_f (fun q => q c_12)) ?_
    exact cut_20 _ _ _ hH (lv_sub hl [0, 1] rfl)
  · refine lv_iconst (v := 1) hx hb dX7_add_15 (by decide) ?_
    refine lv_goto (tgt := 20) hx hb dX7_add_16 (by decide) ?_
    refine rg_topi (y := rg_b (¬ 6 ≤ M.1 412 20)) (by exact rg_b_t (c_12)) ?_
    exact cut_20 _ _ _ hH (lv_sub hl [0, 1] rfl)

set_option maxHeartbeats 4000000 in
set_option maxRecDepth 100000 in
/-- clear -/
theorem k_X7_clear (l : Launch) (E : rg_Env) (B : Nat) (M : rg_Mem) : Met l yX7_clear (rg_w yX7_clear cX7_clear 2 (some (FieldType.int))) ({ frames := 0, cells := 0, slots := 0, locals := 0 } : Room) (va_Pc [.ref (B + 412)] (rg_Pre E B 433 rg_R0 M)) (rg_Ri E B 433 rg_R0 (rg_I (rg_I M 412 33 0) 412 20 0) (fun r => r = M.1 412 20)) 0 0 (rg_A B) := by
  refine rg_ofW (by decide +kernel) rfl (Nat.le_of_ble_eq_true rfl) ?_
  intro p e s m args below meth c ls C0 hH hl hr hlocks hnm
  replace hl : lv_has ls 2 [(0, .ref (B + 412))] := hl
  have hx := C0.1.1
  have hb := C0.1.2.1
  generalize hH9 : s.heap = H at hH ⊢
  generalize hL9 : ([] : List Loc) = locs at hH ⊢
  clear hH9 hL9
  refine lv_aload_n hx hb dX7_clear_0 rfl (lv_at hl 0 rfl) ?_
  refine lv_iconst (v := 0) hx hb dX7_clear_1 (by decide) ?_
  refine rg_pI C0 hH (v := 0) tyX7 tyX7_ok nmX7 (ci := 7) (k := 33) (o := 412) rfl inT_X7 (by decide) tw_f_X7_73 (by decide) rfl (by decide) rfl rfl rfl rfl dX7_clear_2 (fun H locs hH => ?_)
  refine lv_aload_n hx hb dX7_clear_5 rfl (lv_at hl 0 rfl) ?_
  refine rg_gI C0 hH (ci := 7) (k := 20) (o := 412) rfl inT_X7 (by decide) tw_f_X7_126 (by decide) rfl (by decide) rfl dX7_clear_6 ?_
  refine lv_istore_n (lv' := [(1, .int ((rg_I M 412 33 0).1 412 20)), (0, .ref (B + 412))]) hx hb dX7_clear_9 rfl hl (by decide) rfl (fun ls hl => ?_)
  refine lv_aload_n hx hb dX7_clear_10 rfl (lv_at hl 1 rfl) ?_
  refine lv_iconst (v := 0) hx hb dX7_clear_11 (by decide) ?_
  refine rg_pI C0 hH (v := 0) tyX7 tyX7_ok nmX7 (ci := 7) (k := 20) (o := 412) rfl inT_X7 (by decide) tw_f_X7_126 (by decide) rfl (by decide) rfl rfl rfl rfl dX7_clear_12 (fun H locs hH => ?_)
  refine lv_iload_n hx hb dX7_clear_15 rfl (lv_at hl 0 rfl) ?_
  exact rg_retRi C0 hH hr hlocks rfl (by exact rfl) dX7_clear_16

set_option maxHeartbeats 4000000 in
set_option maxRecDepth 100000 in
/-- why -/
theorem k_X7_why (l : Launch) (E : rg_Env) (B : Nat) (M : rg_Mem) : Met l yX7_why (rg_w yX7_why cX7_why 1 (some (FieldType.int))) ({ frames := 0, cells := 0, slots := 0, locals := 0 } : Room) (va_Pc [.ref (B + 412)] (rg_Pre E B 433 rg_R0 M)) (rg_Ri E B 433 rg_R0 (rg_I M 412 33 0) (fun r => r = M.1 412 25)) 0 0 (rg_A B) := by
  refine rg_ofW (by decide +kernel) rfl (Nat.le_of_ble_eq_true rfl) ?_
  intro p e s m args below meth c ls C0 hH hl hr hlocks hnm
  replace hl : lv_has ls 1 [(0, .ref (B + 412))] := hl
  have hx := C0.1.1
  have hb := C0.1.2.1
  generalize hH9 : s.heap = H at hH ⊢
  generalize hL9 : ([] : List Loc) = locs at hH ⊢
  clear hH9 hL9
  refine lv_aload_n hx hb dX7_why_0 rfl (lv_at hl 0 rfl) ?_
  refine lv_iconst (v := 0) hx hb dX7_why_1 (by decide) ?_
  refine rg_pI C0 hH (v := 0) tyX7 tyX7_ok nmX7 (ci := 7) (k := 33) (o := 412) rfl inT_X7 (by decide) tw_f_X7_73 (by decide) rfl (by decide) rfl rfl rfl rfl dX7_why_2 (fun H locs hH => ?_)
  refine lv_aload_n hx hb dX7_why_5 rfl (lv_at hl 0 rfl) ?_
  refine rg_gI C0 hH (ci := 7) (k := 25) (o := 412) rfl inT_X7 (by decide) tw_f_X7_57 (by decide) rfl (by decide) rfl dX7_why_6 ?_
  exact rg_retRi C0 hH hr hlocks rfl (by exact rfl) dX7_why_9

set_option maxHeartbeats 4000000 in
set_option maxRecDepth 100000 in
/-- offers -/
theorem k_X7_offers (l : Launch) (E : rg_Env) (B : Nat) (M : rg_Mem) : Met l yX7_offers (rg_w yX7_offers cX7_offers 1 (some (FieldType.int))) ({ frames := 0, cells := 0, slots := 0, locals := 0 } : Room) (va_Pc [.ref (B + 412)] (rg_Pre E B 433 rg_R0 M)) (rg_Ri E B 433 rg_R0 (rg_I M 412 33 0) (fun r => r = M.1 412 24)) 0 0 (rg_A B) := by
  refine rg_ofW (by decide +kernel) rfl (Nat.le_of_ble_eq_true rfl) ?_
  intro p e s m args below meth c ls C0 hH hl hr hlocks hnm
  replace hl : lv_has ls 1 [(0, .ref (B + 412))] := hl
  have hx := C0.1.1
  have hb := C0.1.2.1
  generalize hH9 : s.heap = H at hH ⊢
  generalize hL9 : ([] : List Loc) = locs at hH ⊢
  clear hH9 hL9
  refine lv_aload_n hx hb dX7_offers_0 rfl (lv_at hl 0 rfl) ?_
  refine lv_iconst (v := 0) hx hb dX7_offers_1 (by decide) ?_
  refine rg_pI C0 hH (v := 0) tyX7 tyX7_ok nmX7 (ci := 7) (k := 33) (o := 412) rfl inT_X7 (by decide) tw_f_X7_73 (by decide) rfl (by decide) rfl rfl rfl rfl dX7_offers_2 (fun H locs hH => ?_)
  refine lv_aload_n hx hb dX7_offers_5 rfl (lv_at hl 0 rfl) ?_
  refine rg_gI C0 hH (ci := 7) (k := 24) (o := 412) rfl inT_X7 (by decide) tw_f_X7_120 (by decide) rfl (by decide) rfl dX7_offers_6 ?_
  exact rg_retRi C0 hH hr hlocks rfl (by exact rfl) dX7_offers_9

set_option maxHeartbeats 4000000 in
set_option maxRecDepth 100000 in
/-- links -/
theorem k_X7_links (l : Launch) (E : rg_Env) (B : Nat) (M : rg_Mem) : Met l yX7_links (rg_w yX7_links cX7_links 1 (some (FieldType.int))) ({ frames := 0, cells := 0, slots := 0, locals := 0 } : Room) (va_Pc [.ref (B + 412)] (rg_Pre E B 433 rg_R0 M)) (rg_Ri E B 433 rg_R0 (rg_I M 412 33 0) (fun r => r = if M.1 412 6 = 0 then 0 else M.1 412 11)) 0 0 (rg_A B) := by
  refine rg_ofW (by decide +kernel) rfl (Nat.le_of_ble_eq_true rfl) ?_
  intro p e s m args below meth c ls C0 hH hl hr hlocks hnm
  replace hl : lv_has ls 1 [(0, .ref (B + 412))] := hl
  have hx := C0.1.1
  have hb := C0.1.2.1
  generalize hH9 : s.heap = H at hH ⊢
  generalize hL9 : ([] : List Loc) = locs at hH ⊢
  clear hH9 hL9
  refine lv_aload_n hx hb dX7_links_0 rfl (lv_at hl 0 rfl) ?_
  refine lv_iconst (v := 0) hx hb dX7_links_1 (by decide) ?_
  refine rg_pI C0 hH (v := 0) tyX7 tyX7_ok nmX7 (ci := 7) (k := 33) (o := 412) rfl inT_X7 (by decide) tw_f_X7_73 (by decide) rfl (by decide) rfl rfl rfl rfl dX7_links_2 (fun H locs hH => ?_)
  refine lv_aload_n hx hb dX7_links_5 rfl (lv_at hl 0 rfl) ?_
  refine rg_gI C0 hH (ci := 7) (k := 6) (o := 412) rfl inT_X7 (by decide) tw_f_X7_103 (by decide) rfl (by decide) rfl dX7_links_6 ?_
  refine rg_topi (y := M.1 412 6) (by exact rfl) ?_
  refine lv_if_eq (tgt := 19) hx hb dX7_links_9 (by decide) (fun c_9 => ?_) (fun c_9 => ?_)
  · refine lv_iconst (v := 0) hx hb dX7_links_19 (by decide) ?_
    exact rg_retRi C0 hH hr hlocks rfl (by rw [if_pos c_9]) dX7_links_20
  · refine lv_aload_n hx hb dX7_links_12 rfl (lv_at hl 0 rfl) ?_
    refine rg_gI C0 hH (ci := 7) (k := 11) (o := 412) rfl inT_X7 (by decide) tw_f_X7_86 (by decide) rfl (by decide) rfl dX7_links_13 ?_
    refine lv_goto (tgt := 20) hx hb dX7_links_16 (by decide) ?_
    exact rg_retRi C0 hH hr hlocks rfl (by rw [if_neg c_9]; exact rfl) dX7_links_20

set_option maxHeartbeats 4000000 in
set_option maxRecDepth 100000 in
/-- hide -/
theorem k_X7_hide (l : Launch) (E : rg_Env) (B : Nat) (M : rg_Mem) (x : Int32) (y : Int32) (hI : rm_CI M) (hy9 : y = 0 ∨ y = 1) : Met l yX7_hide (rg_w yX7_hide cX7_hide 4 (some (FieldType.boolean))) ({ frames := 2, cells := 0, slots := 0, locals := 43 } : Room) (va_Pc [.ref (B + 412), .int (x), .int (y)] (rg_Pre E B 433 rg_R0 M)) (rg_Wi E B 433 rg_R0 (fun r M1 => (¬ rm_go (rg_b (rm_il M x)) 1 1 = 0 ∧ r = 0 ∧ M1 = rg_I M 412 33 (rm_go (rg_b (rm_il M x)) 1 1)) ∨ (rm_go (rg_b (rm_il M x)) 1 1 = 0 ∧ r = M.1 421 x.toNatClampNeg ∧ M1 = rg_I (rg_I M 412 33 (rm_go (rg_b (rm_il M x)) 1 1)) 421 x.toNatClampNeg y))) 0 0 (rg_A B) := by
  refine rg_ofW (by decide +kernel) rfl (Nat.le_of_ble_eq_true rfl) ?_
  intro p e s m args below meth c ls C0 hH hl hr hlocks hnm
  replace hl : lv_has ls 4 [(0, .ref (B + 412)), (1, .int (x)), (2, .int (y))] := hl
  have hx := C0.1.1
  have hb := C0.1.2.1
  generalize hH9 : s.heap = H at hH ⊢
  generalize hL9 : ([] : List Loc) = locs at hH ⊢
  clear hH9 hL9
  refine lv_aload_n hx hb dX7_hide_0 rfl (lv_at hl 0 rfl) ?_
  refine lv_aload_n hx hb dX7_hide_1 rfl (lv_at hl 0 rfl) ?_
  refine lv_iload_n hx hb dX7_hide_2 rfl (lv_at hl 1 rfl) ?_
  refine rg_callGi C0 hH (As := [.int (x)]) (rest := [.ref (B + 412)]) (o := 412) (ci := 7) (k_X7_isLink l E B M x (by exact hI)) (rg_cw 1 C0.1.2.2.2.2 tw_m_X7_187 tw_i_X7_isLink tw_v_X7_isLink tw_n_X7 tw_c_X7_isLink rfl rfl hd_X7_isLink ⟨Nat.le_of_ble_eq_true rfl, Nat.le_of_ble_eq_true rfl⟩) rfl (by decide) rfl (by decide) rfl hl.1 rfl (Nat.le_of_ble_eq_true rfl) dX7_hide_3 ⟨Nat.le_of_ble_eq_true rfl, Nat.le_of_ble_eq_true rfl⟩ (fun H locs hH => ?_)
  refine lv_iconst (v := 1) hx hb dX7_hide_6 (by decide) ?_
  refine lv_iconst (v := 1) hx hb dX7_hide_7 (by decide) ?_
  refine rg_callGi C0 hH (As := [.int (rg_b (rm_il M x)), .int (1), .int (1)]) (rest := []) (o := 412) (ci := 7) (k_X7_goes l E B M (rg_b (rm_il M x)) 1 1) (rg_cw 3 C0.1.2.2.2.2 tw_m_X7_92 tw_i_X7_goes tw_v_X7_goes tw_n_X7 tw_c_X7_goes rfl rfl hd_X7_goes ⟨Nat.le_of_ble_eq_true rfl, Nat.le_of_ble_eq_true rfl⟩) rfl (by decide) rfl (by decide) rfl hl.1 rfl (Nat.le_of_ble_eq_true rfl) dX7_hide_8 ⟨Nat.le_of_ble_eq_true rfl, Nat.le_of_ble_eq_true rfl⟩ (fun H locs hH => ?_)
  refine lv_if_ne (tgt := 16) hx hb dX7_hide_11 (by decide) (fun c_11 => ?_) (fun c_11 => ?_)
  · have hg := rm_go_inv (rg_b_ne.mp c_11)
    have hP := rg_b_ne.mp hg.1
    obtain ⟨a, ha, ha36, hax⟩ := rm_il_in hI hP
    have hxi := rm_ilv hI hP
    refine lv_aload_n hx hb dX7_hide_16 rfl (lv_at hl 0 rfl) ?_
    refine rg_gR C0 hH (o2 := 421) (ci := 7) (k := 16) (o := 412) rfl rfl inT_X7 (by decide) tw_f_X7_35 (by decide) rfl (by decide) rfl dX7_hide_17 ?_
    refine lv_iload_n hx hb dX7_hide_20 rfl (lv_at hl 1 rfl) ?_
    refine rg_zald C0 hH (o := 421) (by decide) rfl (rg_vin rfl (by exact hxi)) dX7_hide_21 ?_
    refine lv_istore_n (lv' := [(3, .int ((rg_I M 412 33 (rm_go (rg_b (rm_il M x)) 1 1)).1 421 x.toNatClampNeg)), (0, .ref (B + 412)), (1, .int (x)), (2, .int (y))]) hx hb dX7_hide_22 rfl hl (by decide) rfl (fun ls hl => ?_)
    refine lv_aload_n hx hb dX7_hide_23 rfl (lv_at hl 1 rfl) ?_
    refine rg_gR C0 hH (o2 := 421) (ci := 7) (k := 16) (o := 412) rfl rfl inT_X7 (by decide) tw_f_X7_35 (by decide) rfl (by decide) rfl dX7_hide_24 ?_
    refine lv_iload_n hx hb dX7_hide_27 rfl (lv_at hl 2 rfl) ?_
    refine lv_iload_n hx hb dX7_hide_28 rfl (lv_at hl 3 rfl) ?_
    refine rg_zast C0 hH (o := 421) (by decide) rfl (by exact hy9) (rg_vin rfl (by exact hxi)) dX7_hide_29 (fun H locs hH => ?_)
    refine lv_iload_n hx hb dX7_hide_30 rfl (lv_at hl 0 rfl) ?_
    exact rg_retWz C0 hH hr hlocks (by first | exact Or.inl rfl | (rw [hax, nI_clamp (by omega)]; exact rm_CI_h hI a ha36)) (by exact Or.inr ⟨rg_b_ne.mp c_11, rfl, rfl⟩) dX7_hide_31
  · refine lv_iconst (v := 0) hx hb dX7_hide_14 (by decide) ?_
    exact rg_retWz C0 hH hr hlocks (Or.inl rfl) (by exact Or.inl ⟨rg_b_eq.mp c_11, rfl, rfl⟩) dX7_hide_15
