set_option maxHeartbeats 4000000 in
set_option maxRecDepth 100000 in
/-- give -/
theorem k_X7_give (l : Launch) (E : rg_Env) (B : Nat) (M : rg_Mem) (j : Int32) (x : Int32) (y : Int32) (hI : rm_CI M) : Met l yX7_give (rg_w yX7_give cX7_give 5 (some (FieldType.int))) ({ frames := 2, cells := 0, slots := 0, locals := 43 } : Room) (va_Pc [.ref (B + 412), .int (j), .int (x), .int (y)] (rg_Pre E B 433 rg_R0 M)) (rg_Wi E B 433 rg_R0 (fun r M1 => (¬ rm_go (rg_b (rm_in j 0 3 ∧ rm_il M x)) (rg_b (rm_in y 0 10)) 1 = 0 ∧ r = 0 ∧ M1 = rg_I M 412 33 (rm_go (rg_b (rm_in j 0 3 ∧ rm_il M x)) (rg_b (rm_in y 0 10)) 1)) ∨ (rm_go (rg_b (rm_in j 0 3 ∧ rm_il M x)) (rg_b (rm_in y 0 10)) 1 = 0 ∧ r = M.1 423 (36 * j.toNatClampNeg + x.toNatClampNeg) - 1 ∧ M1 = rg_I (rg_I M 412 33 (rm_go (rg_b (rm_in j 0 3 ∧ rm_il M x)) (rg_b (rm_in y 0 10)) 1)) 423 (36 * j.toNatClampNeg + x.toNatClampNeg) (y + 1)))) 0 0 (rg_A B) := by
  refine rg_ofW (by decide +kernel) rfl (Nat.le_of_ble_eq_true rfl) ?_
  intro p e s m args below meth c ls C0 hH hl hr hlocks hnm
  replace hl : lv_has ls 5 [(0, .ref (B + 412)), (1, .int (j)), (2, .int (x)), (3, .int (y))] := hl
  have hx := C0.1.1
  have hb := C0.1.2.1
  generalize hH9 : s.heap = H at hH ⊢
  generalize hL9 : ([] : List Loc) = locs at hH ⊢
  clear hH9 hL9
  refine lv_aload_n hx hb dX7_give_0 rfl (lv_at hl 0 rfl) ?_
  have cut_23 : ∀  (H : Heap) (locs : List Loc) (ls : Array Slot), rg_H E B 433 rg_R0 M s H locs → lv_has ls 5 [(0, .ref (B + 412)), (1, .int (j)), (2, .int (x)), (3, .int (y))] → W p l e ({ frames := 2, cells := 0, slots := 0, locals := 43 } : Room) s m args below meth c H locs 0 0 (MQ below (rg_Wi E B 433 rg_R0 (fun r M1 => (¬ rm_go (rg_b (rm_in j 0 3 ∧ rm_il M x)) (rg_b (rm_in y 0 10)) 1 = 0 ∧ r = 0 ∧ M1 = rg_I M 412 33 (rm_go (rg_b (rm_in j 0 3 ∧ rm_il M x)) (rg_b (rm_in y 0 10)) 1)) ∨ (rm_go (rg_b (rm_in j 0 3 ∧ rm_il M x)) (rg_b (rm_in y 0 10)) 1 = 0 ∧ r = M.1 423 (36 * j.toNatClampNeg + x.toNatClampNeg) - 1 ∧ M1 = rg_I (rg_I M 412 33 (rm_go (rg_b (rm_in j 0 3 ∧ rm_il M x)) (rg_b (rm_in y 0 10)) 1)) 423 (36 * j.toNatClampNeg + x.toNatClampNeg) (y + 1)))) args s 0 0 (rg_A B)) (F0 m 23 ls [.int (rg_b (rm_in j 0 3 ∧ rm_il M x)), .ref (B + 412)]) := by
    intro  H locs ls hH hl 
    refine lv_iload_n hx hb dX7_give_23 rfl (lv_at hl 3 rfl) ?_
    refine lv_iconst (v := 0) hx hb dX7_give_24 (by decide) ?_
    refine lv_bipush (v := 10) hx hb dX7_give_25 (by decide) ?_
    refine rg_callSGi C0 hH (As := [.int (y), .int (0), .int (10)]) (rest := [.int (rg_b (rm_in j 0 3 ∧ rm_il M x)), .ref (B + 412)]) (k_X7_in l E B M y 0 10) (rg_cwS 3 C0.1.2.2.2.2 tw_m_X7_79 tw_s_X7_in tw_n_X7 tw_c_X7_in rfl rfl hd_X7_in ⟨Nat.le_of_ble_eq_true rfl, Nat.le_of_ble_eq_true rfl⟩) rfl hl.1 rfl (Nat.le_of_ble_eq_true rfl) dX7_give_27 ⟨Nat.le_of_ble_eq_true rfl, Nat.le_of_ble_eq_true rfl⟩ (fun H locs hH => ?_)
    refine lv_iconst (v := 1) hx hb dX7_give_30 (by decide) ?_
    refine rg_callGi C0 hH (As := [.int (rg_b (rm_in j 0 3 ∧ rm_il M x)), .int (rg_b (rm_in y 0 10)), .int (1)]) (rest := []) (o := 412) (ci := 7) (k_X7_goes l E B M (rg_b (rm_in j 0 3 ∧ rm_il M x)) (rg_b (rm_in y 0 10)) 1) (rg_cw 3 C0.1.2.2.2.2 tw_m_X7_92 tw_i_X7_goes tw_v_X7_goes tw_n_X7 tw_c_X7_goes rfl rfl hd_X7_goes ⟨Nat.le_of_ble_eq_true rfl, Nat.le_of_ble_eq_true rfl⟩) rfl (by decide) rfl (by decide) rfl hl.1 rfl (Nat.le_of_ble_eq_true rfl) dX7_give_31 ⟨Nat.le_of_ble_eq_true rfl, Nat.le_of_ble_eq_true rfl⟩ (fun H locs hH => ?_)
    refine lv_if_ne (tgt := 39) hx hb dX7_give_34 (by decide) (fun c_34 => ?_) (fun c_34 => ?_)
    · have hg := rm_go_inv (rg_b_ne.mp c_34)
      have hP := rg_b_ne.mp hg.1
      obtain ⟨a, ha, hja⟩ := rm_j4 hP.1
      obtain ⟨b, hb9, hb36, hxa⟩ := rm_il_in hI hP.2
      have h144 : 36 * j.toNatClampNeg + x.toNatClampNeg < 144 := by rw [hja, hxa, nI_clamp (by omega), nI_clamp (by omega)]; omega
      refine lv_aload_n hx hb dX7_give_39 rfl (lv_at hl 0 rfl) ?_
      refine rg_gR C0 hH (o2 := 423) (ci := 7) (k := 18) (o := 412) rfl rfl inT_X7 (by decide) tw_f_X7_42 (by decide) rfl (by decide) rfl dX7_give_40 ?_
      refine lv_bipush (v := 36) hx hb dX7_give_43 (by decide) ?_
      refine lv_iload_n hx hb dX7_give_45 rfl (lv_at hl 1 rfl) ?_
      refine lv_imul hx hb dX7_give_46 ?_
      refine lv_iload_n hx hb dX7_give_47 rfl (lv_at hl 2 rfl) ?_
      refine lv_iadd hx hb dX7_give_48 ?_
      refine rg_topi (y := nI (36 * j.toNatClampNeg + x.toNatClampNeg)) (by rw [hja, hxa, nI_clamp (by omega), nI_clamp (by omega)]; exact (congrArg (· + nI b) (rm_mul 36 a)).trans (nI_add _ _)) ?_
      refine rg_ialdN C0 hH (o := 423) (j := (36 * j.toNatClampNeg + x.toNatClampNeg)) (n0 := 144) (by decide) rfl rfl (by omega) dX7_give_49 ?_
      refine lv_iconst (v := 1) hx hb dX7_give_50 (by decide) ?_
      refine lv_isub hx hb dX7_give_51 ?_
      refine lv_istore (lv' := [(4, .int (((rg_I M 412 33 (rm_go (rg_b (rm_in j 0 3 ∧ rm_il M x)) (rg_b (rm_in y 0 10)) 1)).1 423 ((36 * j.toNatClampNeg + x.toNatClampNeg))) - 1)), (0, .ref (B + 412)), (1, .int (j)), (2, .int (x)), (3, .int (y))]) hx hb dX7_give_52 hl (by decide) rfl (fun ls hl => ?_)
      refine lv_aload_n hx hb dX7_give_54 rfl (lv_at hl 1 rfl) ?_
      refine rg_gR C0 hH (o2 := 423) (ci := 7) (k := 18) (o := 412) rfl rfl inT_X7 (by decide) tw_f_X7_42 (by decide) rfl (by decide) rfl dX7_give_55 ?_
      refine lv_bipush (v := 36) hx hb dX7_give_58 (by decide) ?_
      refine lv_iload_n hx hb dX7_give_60 rfl (lv_at hl 2 rfl) ?_
      refine lv_imul hx hb dX7_give_61 ?_
      refine lv_iload_n hx hb dX7_give_62 rfl (lv_at hl 3 rfl) ?_
      refine lv_iadd hx hb dX7_give_63 ?_
      refine rg_topi (y := nI (36 * j.toNatClampNeg + x.toNatClampNeg)) (by rw [hja, hxa, nI_clamp (by omega), nI_clamp (by omega)]; exact (congrArg (· + nI b) (rm_mul 36 a)).trans (nI_add _ _)) ?_
      refine lv_iload_n hx hb dX7_give_64 rfl (lv_at hl 4 rfl) ?_
      refine lv_iconst (v := 1) hx hb dX7_give_65 (by decide) ?_
      refine lv_iadd hx hb dX7_give_66 ?_
      refine rg_iastN C0 hH (o := 423) (j := (36 * j.toNatClampNeg + x.toNatClampNeg)) (n0 := 144) (by decide) rfl rfl (by omega) dX7_give_67 (fun H locs hH => ?_)
      refine lv_iload hx hb dX7_give_68 (lv_at hl 0 rfl) ?_
      exact rg_retWi C0 hH hr hlocks (by exact Or.inr ⟨rg_b_ne.mp c_34, rfl, rfl⟩) dX7_give_70
    · refine lv_iconst (v := 0) hx hb dX7_give_37 (by decide) ?_
      exact rg_retWi C0 hH hr hlocks (by exact Or.inl ⟨rg_b_eq.mp c_34, rfl, rfl⟩) dX7_give_38
  refine lv_iload_n hx hb dX7_give_1 rfl (lv_at hl 1 rfl) ?_
  refine lv_iconst (v := 0) hx hb dX7_give_2 (by decide) ?_
  refine lv_iconst (v := 3) hx hb dX7_give_3 (by decide) ?_
  refine rg_callSGi C0 hH (As := [.int (j), .int (0), .int (3)]) (rest := [.ref (B + 412)]) (k_X7_in l E B M j 0 3) (rg_cwS 3 C0.1.2.2.2.2 tw_m_X7_79 tw_s_X7_in tw_n_X7 tw_c_X7_in rfl rfl hd_X7_in ⟨Nat.le_of_ble_eq_true rfl, Nat.le_of_ble_eq_true rfl⟩) rfl hl.1 rfl (Nat.le_of_ble_eq_true rfl) dX7_give_4 ⟨Nat.le_of_ble_eq_true rfl, Nat.le_of_ble_eq_true rfl⟩ (fun H locs hH => ?_)
  refine lv_if_eq (tgt := 22) hx hb dX7_give_7 (by decide) (fun c_7 => ?_) (fun c_7 => ?_)
  · refine lv_iconst (v := 0) hx hb dX7_give_22 (by decide) ?_
    refine rg_topi (y := rg_b (rm_in j 0 3 ∧ rm_il M x)) (by first | exact rg_b_f (fun q => rg_b_eq.mp c_7 q.1) | exact rg_b_f (fun q => rg_b_eq.mp c_15 q.2)) ?_
    exact cut_23 _ _ _ hH (lv_sub hl [0, 1, 2, 3] rfl)
  · refine lv_aload_n hx hb dX7_give_10 rfl (lv_at hl 0 rfl) ?_
    refine lv_iload_n hx hb dX7_give_11 rfl (lv_at hl 2 rfl) ?_
    refine rg_callGi C0 hH (As := [.int (x)]) (rest := [.ref (B + 412)]) (o := 412) (ci := 7) (k_X7_isLink l E B M x (by exact hI)) (rg_cw 1 C0.1.2.2.2.2 tw_m_X7_187 tw_i_X7_isLink tw_v_X7_isLink tw_n_X7 tw_c_X7_isLink rfl rfl hd_X7_isLink ⟨Nat.le_of_ble_eq_true rfl, Nat.le_of_ble_eq_true rfl⟩) rfl (by decide) rfl (by decide) rfl hl.1 rfl (Nat.le_of_ble_eq_true rfl) dX7_give_12 ⟨Nat.le_of_ble_eq_true rfl, Nat.le_of_ble_eq_true rfl⟩ (fun H locs hH => ?_)
    refine lv_if_eq (tgt := 22) hx hb dX7_give_15 (by decide) (fun c_15 => ?_) (fun c_15 => ?_)
    · refine lv_iconst (v := 0) hx hb dX7_give_22 (by decide) ?_
      refine rg_topi (y := rg_b (rm_in j 0 3 ∧ rm_il M x)) (by first | exact rg_b_f (fun q => rg_b_eq.mp c_7 q.1) | exact rg_b_f (fun q => rg_b_eq.mp c_15 q.2)) ?_
      exact cut_23 _ _ _ hH (lv_sub hl [0, 1, 2, 3] rfl)
    · refine lv_iconst (v := 1) hx hb dX7_give_18 (by decide) ?_
      refine lv_goto (tgt := 23) hx hb dX7_give_19 (by decide) ?_
      refine rg_topi (y := rg_b (rm_in j 0 3 ∧ rm_il M x)) (by exact rg_b_t (⟨rg_b_ne.mp c_7, rg_b_ne.mp c_15⟩)) ?_
      exact cut_23 _ _ _ hH (lv_sub hl [0, 1, 2, 3] rfl)

set_option maxHeartbeats 4000000 in
set_option maxRecDepth 100000 in
/-- begin -/
theorem k_X7_begin (l : Launch) (E : rg_Env) (B : Nat) (M : rg_Mem) (a : Int32) (b : Int32) (d : Int32) (f : Int32) (hI : rm_CI M) : Met l yX7_begin (rg_w yX7_begin cX7_begin 7 none) ({ frames := 1, cells := 0, slots := 0, locals := 23 } : Room) (va_Pc [.ref (B + 412), .int (a), .int (b), .int (d), .int (f)] (rg_Pre E B 433 rg_R0 M)) (rg_Wv E B 433 rg_R0 (fun M1 => (¬ rm_go (rg_b (rm_in a 2 36 ∧ rm_in b 0 10 ∧ rm_in d 2 40 ∧ rm_in f 2 40)) (rg_b (M.1 412 6 = 0 ∨ M.1 412 11 = 0 ∨ rm_fin M)) 1 = 0 ∧ M1 = rg_I M 412 33 (rm_go (rg_b (rm_in a 2 36 ∧ rm_in b 0 10 ∧ rm_in d 2 40 ∧ rm_in f 2 40)) (rg_b (M.1 412 6 = 0 ∨ M.1 412 11 = 0 ∨ rm_fin M)) 1)) ∨ (rm_go (rg_b (rm_in a 2 36 ∧ rm_in b 0 10 ∧ rm_in d 2 40 ∧ rm_in f 2 40)) (rg_b (M.1 412 6 = 0 ∨ M.1 412 11 = 0 ∨ rm_fin M)) 1 = 0 ∧ M1 = rm_pz (rm_bz (rg_I (rg_I (rg_I (rg_I (rg_I (rg_I (rg_I (rg_I (rg_I M 412 33 (rm_go (rg_b (rm_in a 2 36 ∧ rm_in b 0 10 ∧ rm_in d 2 40 ∧ rm_in f 2 40)) (rg_b (M.1 412 6 = 0 ∨ M.1 412 11 = 0 ∨ rm_fin M)) 1)) 412 6 1) 412 7 a) 412 8 b) 412 9 d) 412 10 f) 412 11 0) 412 24 0) 412 29 0) 36) 144))) 0 0 (rg_A B) := by
  refine rg_ofW (by decide +kernel) rfl (Nat.le_of_ble_eq_true rfl) ?_
  intro p e s m args below meth c ls C0 hH hl hr hlocks hnm
  replace hl : lv_has ls 7 [(0, .ref (B + 412)), (1, .int (a)), (2, .int (b)), (3, .int (d)), (4, .int (f))] := hl
  have hx := C0.1.1
  have hb := C0.1.2.1
  generalize hH9 : s.heap = H at hH ⊢
  generalize hL9 : ([] : List Loc) = locs at hH ⊢
  clear hH9 hL9
  have cut_46 : ∀  (H : Heap) (locs : List Loc) (ls : Array Slot), rg_H E B 433 rg_R0 M s H locs → lv_has ls 7 [(0, .ref (B + 412)), (1, .int (a)), (2, .int (b)), (3, .int (d)), (4, .int (f))] → W p l e ({ frames := 1, cells := 0, slots := 0, locals := 23 } : Room) s m args below meth c H locs 0 0 (MQ below (rg_Wv E B 433 rg_R0 (fun M1 => (¬ rm_go (rg_b (rm_in a 2 36 ∧ rm_in b 0 10 ∧ rm_in d 2 40 ∧ rm_in f 2 40)) (rg_b (M.1 412 6 = 0 ∨ M.1 412 11 = 0 ∨ rm_fin M)) 1 = 0 ∧ M1 = rg_I M 412 33 (rm_go (rg_b (rm_in a 2 36 ∧ rm_in b 0 10 ∧ rm_in d 2 40 ∧ rm_in f 2 40)) (rg_b (M.1 412 6 = 0 ∨ M.1 412 11 = 0 ∨ rm_fin M)) 1)) ∨ (rm_go (rg_b (rm_in a 2 36 ∧ rm_in b 0 10 ∧ rm_in d 2 40 ∧ rm_in f 2 40)) (rg_b (M.1 412 6 = 0 ∨ M.1 412 11 = 0 ∨ rm_fin M)) 1 = 0 ∧ M1 = rm_pz (rm_bz (rg_I (rg_I (rg_I (rg_I (rg_I (rg_I (rg_I (rg_I (rg_I M 412 33 (rm_go (rg_b (rm_in a 2 36 ∧ rm_in b 0 10 ∧ rm_in d 2 40 ∧ rm_in f 2 40)) (rg_b (M.1 412 6 = 0 ∨ M.1 412 11 = 0 ∨ rm_fin M)) 1)) 412 6 1) 412 7 a) 412 8 b) 412 9 d) 412 10 f) 412 11 0) 412 24 0) 412 29 0) 36) 144))) args s 0 0 (rg_A B)) (F0 m 46 ls [.int (rg_b (rm_in a 2 36 ∧ rm_in b 0 10 ∧ rm_in d 2 40 ∧ rm_in f 2 40))]) := by
    intro  H locs ls hH hl 
    refine lv_istore (lv' := [(5, .int (rg_b (rm_in a 2 36 ∧ rm_in b 0 10 ∧ rm_in d 2 40 ∧ rm_in f 2 40))), (0, .ref (B + 412)), (1, .int (a)), (2, .int (b)), (3, .int (d)), (4, .int (f))]) hx hb dX7_begin_46 hl (by decide) rfl (fun ls hl => ?_)
    refine lv_aload_n hx hb dX7_begin_48 rfl (lv_at hl 1 rfl) ?_
    refine lv_iload hx hb dX7_begin_49 (lv_at hl 0 rfl) ?_
    have cut_77 : ∀  (H : Heap) (locs : List Loc) (ls : Array Slot), rg_H E B 433 rg_R0 M s H locs → lv_has ls 7 [(5, .int (rg_b (rm_in a 2 36 ∧ rm_in b 0 10 ∧ rm_in d 2 40 ∧ rm_in f 2 40))), (0, .ref (B + 412)), (1, .int (a)), (2, .int (b)), (3, .int (d)), (4, .int (f))] → W p l e ({ frames := 1, cells := 0, slots := 0, locals := 23 } : Room) s m args below meth c H locs 0 0 (MQ below (rg_Wv E B 433 rg_R0 (fun M1 => (¬ rm_go (rg_b (rm_in a 2 36 ∧ rm_in b 0 10 ∧ rm_in d 2 40 ∧ rm_in f 2 40)) (rg_b (M.1 412 6 = 0 ∨ M.1 412 11 = 0 ∨ rm_fin M)) 1 = 0 ∧ M1 = rg_I M 412 33 (rm_go (rg_b (rm_in a 2 36 ∧ rm_in b 0 10 ∧ rm_in d 2 40 ∧ rm_in f 2 40)) (rg_b (M.1 412 6 = 0 ∨ M.1 412 11 = 0 ∨ rm_fin M)) 1)) ∨ (rm_go (rg_b (rm_in a 2 36 ∧ rm_in b 0 10 ∧ rm_in d 2 40 ∧ rm_in f 2 40)) (rg_b (M.1 412 6 = 0 ∨ M.1 412 11 = 0 ∨ rm_fin M)) 1 = 0 ∧ M1 = rm_pz (rm_bz (rg_I (rg_I (rg_I (rg_I (rg_I (rg_I (rg_I (rg_I (rg_I M 412 33 (rm_go (rg_b (rm_in a 2 36 ∧ rm_in b 0 10 ∧ rm_in d 2 40 ∧ rm_in f 2 40)) (rg_b (M.1 412 6 = 0 ∨ M.1 412 11 = 0 ∨ rm_fin M)) 1)) 412 6 1) 412 7 a) 412 8 b) 412 9 d) 412 10 f) 412 11 0) 412 24 0) 412 29 0) 36) 144))) args s 0 0 (rg_A B)) (F0 m 77 ls [.int (rg_b (M.1 412 6 = 0 ∨ M.1 412 11 = 0 ∨ rm_fin M)), .int (rg_b (rm_in a 2 36 ∧ rm_in b 0 10 ∧ rm_in d 2 40 ∧ rm_in f 2 40)), .ref (B + 412)]) := by
      intro  H locs ls hH hl 
      refine lv_iconst (v := 1) hx hb dX7_begin_77 (by decide) ?_
      refine rg_callGi C0 hH (As := [.int (rg_b (rm_in a 2 36 ∧ rm_in b 0 10 ∧ rm_in d 2 40 ∧ rm_in f 2 40)), .int (rg_b (M.1 412 6 = 0 ∨ M.1 412 11 = 0 ∨ rm_fin M)), .int (1)]) (rest := []) (o := 412) (ci := 7) (k_X7_goes l E B M (rg_b (rm_in a 2 36 ∧ rm_in b 0 10 ∧ rm_in d 2 40 ∧ rm_in f 2 40)) (rg_b (M.1 412 6 = 0 ∨ M.1 412 11 = 0 ∨ rm_fin M)) 1) (rg_cw 3 C0.1.2.2.2.2 tw_m_X7_92 tw_i_X7_goes tw_v_X7_goes tw_n_X7 tw_c_X7_goes rfl rfl hd_X7_goes ⟨Nat.le_of_ble_eq_true rfl, Nat.le_of_ble_eq_true rfl⟩) rfl (by decide) rfl (by decide) rfl hl.1 rfl (Nat.le_of_ble_eq_true rfl) dX7_begin_78 ⟨Nat.le_of_ble_eq_true rfl, Nat.le_of_ble_eq_true rfl⟩ (fun H locs hH => ?_)
      refine lv_if_eq (tgt := 190) hx hb dX7_begin_81 (by decide) (fun c_81 => ?_) (fun c_81 => ?_)
      · exact rg_retWv C0 hH hr hlocks (by exact Or.inl ⟨rg_b_eq.mp c_81, rfl⟩) dX7_begin_190
      · refine lv_aload_n hx hb dX7_begin_84 rfl (lv_at hl 1 rfl) ?_
        refine lv_iconst (v := 1) hx hb dX7_begin_85 (by decide) ?_
        refine rg_pI C0 hH (v := 1) tyX7 tyX7_ok nmX7 (ci := 7) (k := 6) (o := 412) rfl inT_X7 (by decide) tw_f_X7_103 (by decide) rfl (by decide) rfl rfl rfl rfl dX7_begin_86 (fun H locs hH => ?_)
        refine lv_aload_n hx hb dX7_begin_89 rfl (lv_at hl 1 rfl) ?_
        refine lv_iload_n hx hb dX7_begin_90 rfl (lv_at hl 2 rfl) ?_
        refine rg_pI C0 hH (v := a) tyX7 tyX7_ok nmX7 (ci := 7) (k := 7) (o := 412) rfl inT_X7 (by decide) tw_f_X7_89 (by decide) rfl (by decide) rfl rfl rfl rfl dX7_begin_91 (fun H locs hH => ?_)
        refine lv_aload_n hx hb dX7_begin_94 rfl (lv_at hl 1 rfl) ?_
        refine lv_iload_n hx hb dX7_begin_95 rfl (lv_at hl 3 rfl) ?_
        refine rg_pI C0 hH (v := b) tyX7 tyX7_ok nmX7 (ci := 7) (k := 8) (o := 412) rfl inT_X7 (by decide) tw_f_X7_111 (by decide) rfl (by decide) rfl rfl rfl rfl dX7_begin_96 (fun H locs hH => ?_)
        refine lv_aload_n hx hb dX7_begin_99 rfl (lv_at hl 1 rfl) ?_
        refine lv_iload_n hx hb dX7_begin_100 rfl (lv_at hl 4 rfl) ?_
        refine rg_pI C0 hH (v := d) tyX7 tyX7_ok nmX7 (ci := 7) (k := 9) (o := 412) rfl inT_X7 (by decide) tw_f_X7_114 (by decide) rfl (by decide) rfl rfl rfl rfl dX7_begin_101 (fun H locs hH => ?_)
        refine lv_aload_n hx hb dX7_begin_104 rfl (lv_at hl 1 rfl) ?_
        refine lv_iload hx hb dX7_begin_105 (lv_at hl 5 rfl) ?_
        refine rg_pI C0 hH (v := f) tyX7 tyX7_ok nmX7 (ci := 7) (k := 10) (o := 412) rfl inT_X7 (by decide) tw_f_X7_117 (by decide) rfl (by decide) rfl rfl rfl rfl dX7_begin_107 (fun H locs hH => ?_)
        refine lv_aload_n hx hb dX7_begin_110 rfl (lv_at hl 1 rfl) ?_
        refine lv_iconst (v := 0) hx hb dX7_begin_111 (by decide) ?_
        refine rg_pI C0 hH (v := 0) tyX7 tyX7_ok nmX7 (ci := 7) (k := 11) (o := 412) rfl inT_X7 (by decide) tw_f_X7_86 (by decide) rfl (by decide) rfl rfl rfl rfl dX7_begin_112 (fun H locs hH => ?_)
        refine lv_aload_n hx hb dX7_begin_115 rfl (lv_at hl 1 rfl) ?_
        refine lv_iconst (v := 0) hx hb dX7_begin_116 (by decide) ?_
        refine rg_pI C0 hH (v := 0) tyX7 tyX7_ok nmX7 (ci := 7) (k := 24) (o := 412) rfl inT_X7 (by decide) tw_f_X7_120 (by decide) rfl (by decide) rfl rfl rfl rfl dX7_begin_117 (fun H locs hH => ?_)
        refine lv_aload_n hx hb dX7_begin_120 rfl (lv_at hl 1 rfl) ?_
        refine lv_iconst (v := 0) hx hb dX7_begin_121 (by decide) ?_
        refine rg_pI C0 hH (v := 0) tyX7 tyX7_ok nmX7 (ci := 7) (k := 29) (o := 412) rfl inT_X7 (by decide) tw_f_X7_123 (by decide) rfl (by decide) rfl rfl rfl rfl dX7_begin_122 (fun H locs hH => ?_)
        refine lv_iconst (v := 0) hx hb dX7_begin_125 (by decide) ?_
        refine lv_istore (lv' := [(6, .int (0)), (5, .int (rg_b (rm_in a 2 36 ∧ rm_in b 0 10 ∧ rm_in d 2 40 ∧ rm_in f 2 40))), (0, .ref (B + 412)), (1, .int (a)), (2, .int (b)), (3, .int (d)), (4, .int (f))]) hx hb dX7_begin_126 hl (by decide) rfl (fun ls hl => ?_)
        have cut_128 : ∀ (fu i : Nat), i ≤ 36 ∧ 36 < i + fu → ∀  (H : Heap) (locs : List Loc) (ls : Array Slot), rg_H E B 433 rg_R0 (rm_bz (rg_I (rg_I (rg_I (rg_I (rg_I (rg_I (rg_I (rg_I (rg_I M 412 33 (rm_go (rg_b (rm_in a 2 36 ∧ rm_in b 0 10 ∧ rm_in d 2 40 ∧ rm_in f 2 40)) (rg_b (M.1 412 6 = 0 ∨ M.1 412 11 = 0 ∨ rm_fin M)) 1)) 412 6 1) 412 7 a) 412 8 b) 412 9 d) 412 10 f) 412 11 0) 412 24 0) 412 29 0) i) s H locs → lv_has ls 7 [(0, .ref (B + 412)), (6, .int (nI i))] → W p l e ({ frames := 1, cells := 0, slots := 0, locals := 23 } : Room) s m args below meth c H locs 0 0 (MQ below (rg_Wv E B 433 rg_R0 (fun M1 => (¬ rm_go (rg_b (rm_in a 2 36 ∧ rm_in b 0 10 ∧ rm_in d 2 40 ∧ rm_in f 2 40)) (rg_b (M.1 412 6 = 0 ∨ M.1 412 11 = 0 ∨ rm_fin M)) 1 = 0 ∧ M1 = rg_I M 412 33 (rm_go (rg_b (rm_in a 2 36 ∧ rm_in b 0 10 ∧ rm_in d 2 40 ∧ rm_in f 2 40)) (rg_b (M.1 412 6 = 0 ∨ M.1 412 11 = 0 ∨ rm_fin M)) 1)) ∨ (rm_go (rg_b (rm_in a 2 36 ∧ rm_in b 0 10 ∧ rm_in d 2 40 ∧ rm_in f 2 40)) (rg_b (M.1 412 6 = 0 ∨ M.1 412 11 = 0 ∨ rm_fin M)) 1 = 0 ∧ M1 = rm_pz (rm_bz (rg_I (rg_I (rg_I (rg_I (rg_I (rg_I (rg_I (rg_I (rg_I M 412 33 (rm_go (rg_b (rm_in a 2 36 ∧ rm_in b 0 10 ∧ rm_in d 2 40 ∧ rm_in f 2 40)) (rg_b (M.1 412 6 = 0 ∨ M.1 412 11 = 0 ∨ rm_fin M)) 1)) 412 6 1) 412 7 a) 412 8 b) 412 9 d) 412 10 f) 412 11 0) 412 24 0) 412 29 0) 36) 144))) args s 0 0 (rg_A B)) (F0 m 128 ls []) := by
          intro fu
          induction fu with
          | zero =>
            intro i hm
            exact absurd hm (by omega)
          | succ fu ih =>
            intro i hm  H locs ls hH hl 
            refine lv_iload hx hb dX7_begin_128 (lv_at hl 1 rfl) ?_
            refine lv_bipush (v := 36) hx hb dX7_begin_130 (by decide) ?_
            refine lv_icmp_ge (tgt := 165) hx hb dX7_begin_132 (by decide) (fun c_132 => ?_) (fun c_132 => ?_)
            · refine lv_iconst (v := 0) hx hb dX7_begin_165 (by decide) ?_
              refine lv_istore (lv' := [(6, .int (0)), (0, .ref (B + 412))]) hx hb dX7_begin_166 hl (by decide) rfl (fun ls hl => ?_)
              have cut_168 : ∀ (fu2 k : Nat), k ≤ 144 ∧ 144 < k + fu2 → ∀  (H : Heap) (locs : List Loc) (ls : Array Slot), rg_H E B 433 rg_R0 (rm_pz (rm_bz (rg_I (rg_I (rg_I (rg_I (rg_I (rg_I (rg_I (rg_I (rg_I M 412 33 (rm_go (rg_b (rm_in a 2 36 ∧ rm_in b 0 10 ∧ rm_in d 2 40 ∧ rm_in f 2 40)) (rg_b (M.1 412 6 = 0 ∨ M.1 412 11 = 0 ∨ rm_fin M)) 1)) 412 6 1) 412 7 a) 412 8 b) 412 9 d) 412 10 f) 412 11 0) 412 24 0) 412 29 0) 36) k) s H locs → lv_has ls 7 [(0, .ref (B + 412)), (6, .int (nI k))] → W p l e ({ frames := 1, cells := 0, slots := 0, locals := 23 } : Room) s m args below meth c H locs 0 0 (MQ below (rg_Wv E B 433 rg_R0 (fun M1 => (¬ rm_go (rg_b (rm_in a 2 36 ∧ rm_in b 0 10 ∧ rm_in d 2 40 ∧ rm_in f 2 40)) (rg_b (M.1 412 6 = 0 ∨ M.1 412 11 = 0 ∨ rm_fin M)) 1 = 0 ∧ M1 = rg_I M 412 33 (rm_go (rg_b (rm_in a 2 36 ∧ rm_in b 0 10 ∧ rm_in d 2 40 ∧ rm_in f 2 40)) (rg_b (M.1 412 6 = 0 ∨ M.1 412 11 = 0 ∨ rm_fin M)) 1)) ∨ (rm_go (rg_b (rm_in a 2 36 ∧ rm_in b 0 10 ∧ rm_in d 2 40 ∧ rm_in f 2 40)) (rg_b (M.1 412 6 = 0 ∨ M.1 412 11 = 0 ∨ rm_fin M)) 1 = 0 ∧ M1 = rm_pz (rm_bz (rg_I (rg_I (rg_I (rg_I (rg_I (rg_I (rg_I (rg_I (rg_I M 412 33 (rm_go (rg_b (rm_in a 2 36 ∧ rm_in b 0 10 ∧ rm_in d 2 40 ∧ rm_in f 2 40)) (rg_b (M.1 412 6 = 0 ∨ M.1 412 11 = 0 ∨ rm_fin M)) 1)) 412 6 1) 412 7 a) 412 8 b) 412 9 d) 412 10 f) 412 11 0) 412 24 0) 412 29 0) 36) 144))) args s 0 0 (rg_A B)) (F0 m 168 ls []) := by
                intro fu2
                induction fu2 with
                | zero =>
                  intro k hm2
                  exact absurd hm2 (by omega)
                | succ fu2 ih2 =>
                  intro k hm2  H locs ls hH hl 
                  refine lv_iload hx hb dX7_begin_168 (lv_at hl 1 rfl) ?_
                  refine lv_sipush (v := 144) hx hb dX7_begin_170 (by decide) ?_
                  refine lv_icmp_ge (tgt := 190) hx hb dX7_begin_173 (by decide) (fun c_173 => ?_) (fun c_173 => ?_)
                  · exact rg_retWv C0 hH hr hlocks (by exact Or.inr ⟨rg_b_ne.mp c_81, by rw [rg_lp_end (n := 144) hm2.1 (by omega) c_173]⟩) dX7_begin_190
                  · have hlt2 := rg_lp_lt (n := 144) hm2.1 (by omega) c_173
                    refine lv_aload_n hx hb dX7_begin_176 rfl (lv_at hl 0 rfl) ?_
                    refine rg_gR C0 hH (o2 := 423) (ci := 7) (k := 18) (o := 412) rfl rfl inT_X7 (by decide) tw_f_X7_42 (by decide) rfl (by decide) rfl dX7_begin_177 ?_
                    refine lv_iload hx hb dX7_begin_180 (lv_at hl 1 rfl) ?_
                    refine lv_iconst (v := 0) hx hb dX7_begin_182 (by decide) ?_
                    refine rg_iastN C0 hH (o := 423) (j := k) (n0 := 144) (by decide) rfl rfl (by omega) dX7_begin_183 (fun H locs hH => ?_)
                    refine lv_iinc (v := nI (k + 1)) (lv' := [(6, .int (nI (k + 1))), (0, .ref (B + 412))]) hx hb dX7_begin_184 hl (k := 1) rfl (nI_1 _) (by decide) rfl (fun ls hl => ?_)
                    refine lv_goto (tgt := 168) hx hb dX7_begin_187 (by decide) ?_
                    exact ih2 (k + 1) (by omega) _ _ _ (rg_H_eq (by exact rm_pz_s) hH) (lv_sub hl [1, 0] rfl)
              exact cut_168 145 0 (by omega) _ _ _ (rg_H_eq (by rw [rg_lp_end (n := 36) hm.1 (by omega) c_132]; exact rm_pz_0) hH) (lv_sub hl [1, 0] rfl)
            · have hlt := rg_lp_lt (n := 36) hm.1 (by omega) c_132
              refine lv_aload_n hx hb dX7_begin_135 rfl (lv_at hl 0 rfl) ?_
              refine rg_gR C0 hH (o2 := 420) (ci := 7) (k := 15) (o := 412) rfl rfl inT_X7 (by decide) tw_f_X7_32 (by decide) rfl (by decide) rfl dX7_begin_136 ?_
              refine lv_iload hx hb dX7_begin_139 (lv_at hl 1 rfl) ?_
              refine lv_iconst (v := 0) hx hb dX7_begin_141 (by decide) ?_
              refine rg_iastN C0 hH (o := 420) (j := i) (n0 := 36) (by decide) rfl rfl (by omega) dX7_begin_142 (fun H locs hH => ?_)
              refine lv_aload_n hx hb dX7_begin_143 rfl (lv_at hl 0 rfl) ?_
              refine rg_gR C0 hH (o2 := 421) (ci := 7) (k := 16) (o := 412) rfl rfl inT_X7 (by decide) tw_f_X7_35 (by decide) rfl (by decide) rfl dX7_begin_144 ?_
              refine lv_iload hx hb dX7_begin_147 (lv_at hl 1 rfl) ?_
              refine lv_iconst (v := 0) hx hb dX7_begin_149 (by decide) ?_
              refine rg_zastN C0 hH (o := 421) (j := i) (n0 := 36) (by decide) rfl (Or.inl rfl) rfl (by omega) dX7_begin_150 (fun H locs hH => ?_)
              refine lv_aload_n hx hb dX7_begin_151 rfl (lv_at hl 0 rfl) ?_
              refine rg_gR C0 hH (o2 := 422) (ci := 7) (k := 17) (o := 412) rfl rfl inT_X7 (by decide) tw_f_X7_39 (by decide) rfl (by decide) rfl dX7_begin_152 ?_
              refine lv_iload hx hb dX7_begin_155 (lv_at hl 1 rfl) ?_
              refine lv_iconst (v := 0) hx hb dX7_begin_157 (by decide) ?_
              refine rg_zastN C0 hH (o := 422) (j := i) (n0 := 36) (by decide) rfl (Or.inl rfl) rfl (by omega) dX7_begin_158 (fun H locs hH => ?_)
              refine lv_iinc (v := nI (i + 1)) (lv' := [(6, .int (nI (i + 1))), (0, .ref (B + 412))]) hx hb dX7_begin_159 hl (k := 1) rfl (nI_1 _) (by decide) rfl (fun ls hl => ?_)
              refine lv_goto (tgt := 128) hx hb dX7_begin_162 (by decide) ?_
              exact ih (i + 1) (by omega) _ _ _ (rg_H_eq (by exact rm_bz_s) hH) (lv_sub hl [1, 0] rfl)
        exact cut_128 37 0 (by omega) _ _ _ (rg_H_eq (by exact rm_bz_0) hH) (lv_sub hl [2, 0] rfl)
    refine lv_aload_n hx hb dX7_begin_51 rfl (lv_at hl 1 rfl) ?_
    refine rg_gI C0 hH (ci := 7) (k := 6) (o := 412) rfl inT_X7 (by decide) tw_f_X7_103 (by decide) rfl (by decide) rfl dX7_begin_52 ?_
    refine lv_if_eq (tgt := 72) hx hb dX7_begin_55 (by decide) (fun c_55 => ?_) (fun c_55 => ?_)
    · refine lv_iconst (v := 1) hx hb dX7_begin_72 (by decide) ?_
      refine lv_goto (tgt := 77) hx hb dX7_begin_73 (by decide) ?_
      refine rg_topi (y := rg_b (M.1 412 6 = 0 ∨ M.1 412 11 = 0 ∨ rm_fin M)) (by exact rg_b_t (by first | exact Or.inl c_55 | exact Or.inr (Or.inl c_62) | exact Or.inr (Or.inr (rg_b_ne.mp c_69)))) ?_
      exact cut_77 _ _ _ hH (lv_sub hl [0, 1, 2, 3, 4, 5] rfl)
    · refine lv_aload_n hx hb dX7_begin_58 rfl (lv_at hl 1 rfl) ?_
      refine rg_gI C0 hH (ci := 7) (k := 11) (o := 412) rfl inT_X7 (by decide) tw_f_X7_86 (by decide) rfl (by decide) rfl dX7_begin_59 ?_
      refine lv_if_eq (tgt := 72) hx hb dX7_begin_62 (by decide) (fun c_62 => ?_) (fun c_62 => ?_)
      · refine lv_iconst (v := 1) hx hb dX7_begin_72 (by decide) ?_
        refine lv_goto (tgt := 77) hx hb dX7_begin_73 (by decide) ?_
        refine rg_topi (y := rg_b (M.1 412 6 = 0 ∨ M.1 412 11 = 0 ∨ rm_fin M)) (by exact rg_b_t (by first | exact Or.inl c_55 | exact Or.inr (Or.inl c_62) | exact Or.inr (Or.inr (rg_b_ne.mp c_69)))) ?_
        exact cut_77 _ _ _ hH (lv_sub hl [0, 1, 2, 3, 4, 5] rfl)
      · refine lv_aload_n hx hb dX7_begin_65 rfl (lv_at hl 1 rfl) ?_
        refine rg_callGi C0 hH (As := []) (rest := [.int (rg_b (rm_in a 2 36 ∧ rm_in b 0 10 ∧ rm_in d 2 40 ∧ rm_in f 2 40)), .ref (B + 412)]) (o := 412) (ci := 7) (k_X7_isFinished l E B M) (rg_cw 0 C0.1.2.2.2.2 tw_m_X7_107 tw_i_X7_isFinished tw_v_X7_isFinished tw_n_X7 tw_c_X7_isFinished rfl rfl hd_X7_isFinished ⟨Nat.le_of_ble_eq_true rfl, Nat.le_of_ble_eq_true rfl⟩) rfl (by decide) rfl (by decide) rfl hl.1 rfl (Nat.le_of_ble_eq_true rfl) dX7_begin_66 ⟨Nat.le_of_ble_eq_true rfl, Nat.le_of_ble_eq_true rfl⟩ (fun H locs hH => ?_)
        refine lv_if_eq (tgt := 76) hx hb dX7_begin_69 (by decide) (fun c_69 => ?_) (fun c_69 => ?_)
        · refine lv_iconst (v := 0) hx hb dX7_begin_76 (by decide) ?_
          refine rg_topi (y := rg_b (M.1 412 6 = 0 ∨ M.1 412 11 = 0 ∨ rm_fin M)) (by first | exact rg_b_f (fun q => q.elim c_55 (fun q => q.elim c_62 (fun q => rg_b_eq.mp c_69 q)))) ?_
          exact cut_77 _ _ _ hH (lv_sub hl [0, 1, 2, 3, 4, 5] rfl)
        · refine lv_iconst (v := 1) hx hb dX7_begin_72 (by decide) ?_
          refine lv_goto (tgt := 77) hx hb dX7_begin_73 (by decide) ?_
          refine rg_topi (y := rg_b (M.1 412 6 = 0 ∨ M.1 412 11 = 0 ∨ rm_fin M)) (by exact rg_b_t (by first | exact Or.inl c_55 | exact Or.inr (Or.inl c_62) | exact Or.inr (Or.inr (rg_b_ne.mp c_69)))) ?_
          exact cut_77 _ _ _ hH (lv_sub hl [0, 1, 2, 3, 4, 5] rfl)
  refine lv_iload_n hx hb dX7_begin_0 rfl (lv_at hl 1 rfl) ?_
  refine lv_iconst (v := 2) hx hb dX7_begin_1 (by decide) ?_
  refine lv_bipush (v := 36) hx hb dX7_begin_2 (by decide) ?_
  refine rg_callSGi C0 hH (As := [.int (a), .int (2), .int (36)]) (rest := []) (k_X7_in l E B M a 2 36) (rg_cwS 3 C0.1.2.2.2.2 tw_m_X7_79 tw_s_X7_in tw_n_X7 tw_c_X7_in rfl rfl hd_X7_in ⟨Nat.le_of_ble_eq_true rfl, Nat.le_of_ble_eq_true rfl⟩) rfl hl.1 rfl (Nat.le_of_ble_eq_true rfl) dX7_begin_4 ⟨Nat.le_of_ble_eq_true rfl, Nat.le_of_ble_eq_true rfl⟩ (fun H locs hH => ?_)
  refine lv_if_eq (tgt := 45) hx hb dX7_begin_7 (by decide) (fun c_7 => ?_) (fun c_7 => ?_)
  · refine lv_iconst (v := 0) hx hb dX7_begin_45 (by decide) ?_
    refine rg_topi (y := rg_b (rm_in a 2 36 ∧ rm_in b 0 10 ∧ rm_in d 2 40 ∧ rm_in f 2 40)) (by first | exact rg_b_f (fun q => rg_b_eq.mp c_7 q.1) | exact rg_b_f (fun q => rg_b_eq.mp c_17 q.2.1) | exact rg_b_f (fun q => rg_b_eq.mp c_27 q.2.2.1) | exact rg_b_f (fun q => rg_b_eq.mp c_38 q.2.2.2)) ?_
    exact cut_46 _ _ _ hH (lv_sub hl [0, 1, 2, 3, 4] rfl)
  · refine lv_iload_n hx hb dX7_begin_10 rfl (lv_at hl 2 rfl) ?_
    refine lv_iconst (v := 0) hx hb dX7_begin_11 (by decide) ?_
    refine lv_bipush (v := 10) hx hb dX7_begin_12 (by decide) ?_
    refine rg_callSGi C0 hH (As := [.int (b), .int (0), .int (10)]) (rest := []) (k_X7_in l E B M b 0 10) (rg_cwS 3 C0.1.2.2.2.2 tw_m_X7_79 tw_s_X7_in tw_n_X7 tw_c_X7_in rfl rfl hd_X7_in ⟨Nat.le_of_ble_eq_true rfl, Nat.le_of_ble_eq_true rfl⟩) rfl hl.1 rfl (Nat.le_of_ble_eq_true rfl) dX7_begin_14 ⟨Nat.le_of_ble_eq_true rfl, Nat.le_of_ble_eq_true rfl⟩ (fun H locs hH => ?_)
    refine lv_if_eq (tgt := 45) hx hb dX7_begin_17 (by decide) (fun c_17 => ?_) (fun c_17 => ?_)
    · refine lv_iconst (v := 0) hx hb dX7_begin_45 (by decide) ?_
      refine rg_topi (y := rg_b (rm_in a 2 36 ∧ rm_in b 0 10 ∧ rm_in d 2 40 ∧ rm_in f 2 40)) (by first | exact rg_b_f (fun q => rg_b_eq.mp c_7 q.1) | exact rg_b_f (fun q => rg_b_eq.mp c_17 q.2.1) | exact rg_b_f (fun q => rg_b_eq.mp c_27 q.2.2.1) | exact rg_b_f (fun q => rg_b_eq.mp c_38 q.2.2.2)) ?_
      exact cut_46 _ _ _ hH (lv_sub hl [0, 1, 2, 3, 4] rfl)
    · refine lv_iload_n hx hb dX7_begin_20 rfl (lv_at hl 3 rfl) ?_
      refine lv_iconst (v := 2) hx hb dX7_begin_21 (by decide) ?_
      refine lv_bipush (v := 40) hx hb dX7_begin_22 (by decide) ?_
      refine rg_callSGi C0 hH (As := [.int (d), .int (2), .int (40)]) (rest := []) (k_X7_in l E B M d 2 40) (rg_cwS 3 C0.1.2.2.2.2 tw_m_X7_79 tw_s_X7_in tw_n_X7 tw_c_X7_in rfl rfl hd_X7_in ⟨Nat.le_of_ble_eq_true rfl, Nat.le_of_ble_eq_true rfl⟩) rfl hl.1 rfl (Nat.le_of_ble_eq_true rfl) dX7_begin_24 ⟨Nat.le_of_ble_eq_true rfl, Nat.le_of_ble_eq_true rfl⟩ (fun H locs hH => ?_)
      refine lv_if_eq (tgt := 45) hx hb dX7_begin_27 (by decide) (fun c_27 => ?_) (fun c_27 => ?_)
      · refine lv_iconst (v := 0) hx hb dX7_begin_45 (by decide) ?_
        refine rg_topi (y := rg_b (rm_in a 2 36 ∧ rm_in b 0 10 ∧ rm_in d 2 40 ∧ rm_in f 2 40)) (by first | exact rg_b_f (fun q => rg_b_eq.mp c_7 q.1) | exact rg_b_f (fun q => rg_b_eq.mp c_17 q.2.1) | exact rg_b_f (fun q => rg_b_eq.mp c_27 q.2.2.1) | exact rg_b_f (fun q => rg_b_eq.mp c_38 q.2.2.2)) ?_
        exact cut_46 _ _ _ hH (lv_sub hl [0, 1, 2, 3, 4] rfl)
      · refine lv_iload hx hb dX7_begin_30 (lv_at hl 4 rfl) ?_
        refine lv_iconst (v := 2) hx hb dX7_begin_32 (by decide) ?_
        refine lv_bipush (v := 40) hx hb dX7_begin_33 (by decide) ?_
        refine rg_callSGi C0 hH (As := [.int (f), .int (2), .int (40)]) (rest := []) (k_X7_in l E B M f 2 40) (rg_cwS 3 C0.1.2.2.2.2 tw_m_X7_79 tw_s_X7_in tw_n_X7 tw_c_X7_in rfl rfl hd_X7_in ⟨Nat.le_of_ble_eq_true rfl, Nat.le_of_ble_eq_true rfl⟩) rfl hl.1 rfl (Nat.le_of_ble_eq_true rfl) dX7_begin_35 ⟨Nat.le_of_ble_eq_true rfl, Nat.le_of_ble_eq_true rfl⟩ (fun H locs hH => ?_)
        refine lv_if_eq (tgt := 45) hx hb dX7_begin_38 (by decide) (fun c_38 => ?_) (fun c_38 => ?_)
        · refine lv_iconst (v := 0) hx hb dX7_begin_45 (by decide) ?_
          refine rg_topi (y := rg_b (rm_in a 2 36 ∧ rm_in b 0 10 ∧ rm_in d 2 40 ∧ rm_in f 2 40)) (by first | exact rg_b_f (fun q => rg_b_eq.mp c_7 q.1) | exact rg_b_f (fun q => rg_b_eq.mp c_17 q.2.1) | exact rg_b_f (fun q => rg_b_eq.mp c_27 q.2.2.1) | exact rg_b_f (fun q => rg_b_eq.mp c_38 q.2.2.2)) ?_
          exact cut_46 _ _ _ hH (lv_sub hl [0, 1, 2, 3, 4] rfl)
        · refine lv_iconst (v := 1) hx hb dX7_begin_41 (by decide) ?_
          refine lv_goto (tgt := 46) hx hb dX7_begin_42 (by decide) ?_
          refine rg_topi (y := rg_b (rm_in a 2 36 ∧ rm_in b 0 10 ∧ rm_in d 2 40 ∧ rm_in f 2 40)) (by exact rg_b_t (⟨rg_b_ne.mp c_7, rg_b_ne.mp c_17, rg_b_ne.mp c_27, rg_b_ne.mp c_38⟩)) ?_
          exact cut_46 _ _ _ hH (lv_sub hl [0, 1, 2, 3, 4] rfl)

set_option maxHeartbeats 4000000 in
set_option maxRecDepth 100000 in
/-- linksOf -/
theorem k_X7_linksOf (l : Launch) (E : rg_Env) (B : Nat) (M : rg_Mem) (t : Int32) (hI : rm_CI M) (ht : rm_tx M t) : Met l yX7_linksOf (rg_w yX7_linksOf cX7_linksOf 2 (some (FieldType.int))) ({ frames := 0, cells := 0, slots := 0, locals := 0 } : Room) (va_Pc [.ref (B + 412), .int (t)] (rg_Pre E B 433 rg_R0 M)) (rg_Ri E B 433 rg_R0 (M) (fun r => r = rm_lo M t)) 0 0 (rg_A B) := by
  refine rg_ofW (by decide +kernel) rfl (Nat.le_of_ble_eq_true rfl) ?_
  intro p e s m args below meth c ls C0 hH hl hr hlocks hnm
  replace hl : lv_has ls 2 [(0, .ref (B + 412)), (1, .int (t))] := hl
  have hx := C0.1.1
  have hb := C0.1.2.1
  generalize hH9 : s.heap = H at hH ⊢
  generalize hL9 : ([] : List Loc) = locs at hH ⊢
  clear hH9 hL9
  refine lv_iload_n hx hb dX7_linksOf_0 rfl (lv_at hl 1 rfl) ?_
  refine lv_iconst (v := (-1)) hx hb dX7_linksOf_1 (by decide) ?_
  refine lv_icmp_ne (tgt := 12) hx hb dX7_linksOf_2 (by decide) (fun c_2 => ?_) (fun c_2 => ?_)
  · refine lv_aload_n hx hb dX7_linksOf_12 rfl (lv_at hl 0 rfl) ?_
    refine rg_gR C0 hH (o2 := 430) (ci := 7) (k := 28) (o := 412) rfl rfl inT_X7 (by decide) tw_f_X7_67 (by decide) rfl (by decide) rfl dX7_linksOf_13 ?_
    refine lv_iload_n hx hb dX7_linksOf_16 rfl (lv_at hl 1 rfl) ?_
    refine rg_iald C0 hH (o := 430) (by decide) rfl (rg_vin rfl (by exact rm_tx_in hI ht c_2)) dX7_linksOf_17 ?_
    exact rg_retRi C0 hH hr hlocks rfl (by unfold rm_lo; rw [if_neg c_2]) dX7_linksOf_18
  · refine lv_aload_n hx hb dX7_linksOf_5 rfl (lv_at hl 0 rfl) ?_
    refine rg_gI C0 hH (ci := 7) (k := 11) (o := 412) rfl inT_X7 (by decide) tw_f_X7_86 (by decide) rfl (by decide) rfl dX7_linksOf_6 ?_
    refine lv_goto (tgt := 18) hx hb dX7_linksOf_9 (by decide) ?_
    exact rg_retRi C0 hH hr hlocks rfl (by unfold rm_lo; rw [if_pos c_2]) dX7_linksOf_18

set_option maxHeartbeats 4000000 in
set_option maxRecDepth 100000 in
/-- sizeOf -/
theorem k_X7_sizeOf (l : Launch) (E : rg_Env) (B : Nat) (M : rg_Mem) (t : Int32) (x : Nat) (hI : rm_CI M) (ht : rm_tx M t) (hx36 : x < 36) : Met l yX7_sizeOf (rg_w yX7_sizeOf cX7_sizeOf 3 (some (FieldType.int))) ({ frames := 1, cells := 0, slots := 0, locals := 21 } : Room) (va_Pc [.ref (B + 412), .int (t), .int (nI x)] (rg_Pre E B 433 rg_R0 M)) (rg_Ri E B 433 rg_R0 (M) (fun r => r = rm_so M t x)) 0 0 (rg_A B) := by
  refine rg_ofW (by decide +kernel) rfl (Nat.le_of_ble_eq_true rfl) ?_
  intro p e s m args below meth c ls C0 hH hl hr hlocks hnm
  replace hl : lv_has ls 3 [(0, .ref (B + 412)), (1, .int (t)), (2, .int (nI x))] := hl
  have hx := C0.1.1
  have hb := C0.1.2.1
  generalize hH9 : s.heap = H at hH ⊢
  generalize hL9 : ([] : List Loc) = locs at hH ⊢
  clear hH9 hL9
  refine lv_iload_n hx hb dX7_sizeOf_0 rfl (lv_at hl 2 rfl) ?_
  refine lv_aload_n hx hb dX7_sizeOf_1 rfl (lv_at hl 0 rfl) ?_
  refine lv_iload_n hx hb dX7_sizeOf_2 rfl (lv_at hl 1 rfl) ?_
  refine rg_callGi C0 hH (As := [.int (t)]) (rest := [.int (nI x)]) (o := 412) (ci := 7) (k_X7_linksOf l E B M t (by assumption) (by assumption)) (rg_cw 1 C0.1.2.2.2.2 tw_m_X7_190 tw_i_X7_linksOf tw_v_X7_linksOf tw_n_X7 tw_c_X7_linksOf rfl rfl hd_X7_linksOf ⟨Nat.le_of_ble_eq_true rfl, Nat.le_of_ble_eq_true rfl⟩) rfl (by decide) rfl (by decide) rfl hl.1 rfl (Nat.le_of_ble_eq_true rfl) dX7_sizeOf_3 ⟨Nat.le_of_ble_eq_true rfl, Nat.le_of_ble_eq_true rfl⟩ (fun H locs hH => ?_)
  refine lv_icmp_lt (tgt := 13) hx hb dX7_sizeOf_6 (by decide) (fun c_6 => ?_) (fun c_6 => ?_)
  · refine lv_iload_n hx hb dX7_sizeOf_13 rfl (lv_at hl 1 rfl) ?_
    refine lv_iconst (v := (-1)) hx hb dX7_sizeOf_14 (by decide) ?_
    refine lv_icmp_ne (tgt := 27) hx hb dX7_sizeOf_15 (by decide) (fun c_15 => ?_) (fun c_15 => ?_)
    · have hti := rm_tx_in hI ht c_15
      have hcn := rm_cn hti
      refine lv_aload_n hx hb dX7_sizeOf_27 rfl (lv_at hl 0 rfl) ?_
      refine rg_gR C0 hH (o2 := 429) (ci := 7) (k := 27) (o := 412) rfl rfl inT_X7 (by decide) tw_f_X7_64 (by decide) rfl (by decide) rfl dX7_sizeOf_28 ?_
      refine lv_bipush (v := 36) hx hb dX7_sizeOf_31 (by decide) ?_
      refine lv_iload_n hx hb dX7_sizeOf_33 rfl (lv_at hl 1 rfl) ?_
      refine lv_imul hx hb dX7_sizeOf_34 ?_
      refine lv_iload_n hx hb dX7_sizeOf_35 rfl (lv_at hl 2 rfl) ?_
      refine lv_iadd hx hb dX7_sizeOf_36 ?_
      refine rg_topi (y := nI (36 * t.toNatClampNeg + x)) (by exact (congrArg (· + nI x) (rm_ixt hti (by omega) 36)).trans (nI_add _ _)) ?_
      refine rg_ialdN C0 hH (o := 429) (j := (36 * t.toNatClampNeg + x)) (n0 := 288) (by decide) rfl rfl (by omega) dX7_sizeOf_37 ?_
      exact rg_retRi C0 hH hr hlocks rfl (by unfold rm_so; rw [if_pos c_6, if_neg c_15]) dX7_sizeOf_38
    · refine lv_aload_n hx hb dX7_sizeOf_18 rfl (lv_at hl 0 rfl) ?_
      refine rg_gR C0 hH (o2 := 418) (ci := 7) (k := 13) (o := 412) rfl rfl inT_X7 (by decide) tw_f_X7_26 (by decide) rfl (by decide) rfl dX7_sizeOf_19 ?_
      refine lv_iload_n hx hb dX7_sizeOf_22 rfl (lv_at hl 2 rfl) ?_
      refine rg_ialdN C0 hH (o := 418) (j := x) (n0 := 36) (by decide) rfl rfl (by omega) dX7_sizeOf_23 ?_
      refine lv_goto (tgt := 38) hx hb dX7_sizeOf_24 (by decide) ?_
      exact rg_retRi C0 hH hr hlocks rfl (by unfold rm_so; rw [if_pos c_6, if_pos c_15]) dX7_sizeOf_38
  · refine lv_iconst (v := 0) hx hb dX7_sizeOf_9 (by decide) ?_
    refine lv_goto (tgt := 38) hx hb dX7_sizeOf_10 (by decide) ?_
    exact rg_retRi C0 hH hr hlocks rfl (by unfold rm_so; rw [if_neg c_6]) dX7_sizeOf_38

set_option maxHeartbeats 4000000 in
set_option maxRecDepth 100000 in
/-- wordOf -/
theorem k_X7_wordOf (l : Launch) (E : rg_Env) (B : Nat) (M : rg_Mem) (t : Int32) (x : Nat) (y : Nat) (hI : rm_CI M) (ht : rm_tx M t) (hx36 : x < 36) (hy6 : y < 6) : Met l yX7_wordOf (rg_w yX7_wordOf cX7_wordOf 4 (some (FieldType.int))) ({ frames := 0, cells := 0, slots := 0, locals := 0 } : Room) (va_Pc [.ref (B + 412), .int (t), .int (nI x), .int (nI y)] (rg_Pre E B 433 rg_R0 M)) (rg_Ri E B 433 rg_R0 (M) (fun r => r = rm_wo M t x y)) 0 0 (rg_A B) := by
  refine rg_ofW (by decide +kernel) rfl (Nat.le_of_ble_eq_true rfl) ?_
  intro p e s m args below meth c ls C0 hH hl hr hlocks hnm
  replace hl : lv_has ls 4 [(0, .ref (B + 412)), (1, .int (t)), (2, .int (nI x)), (3, .int (nI y))] := hl
  have hx := C0.1.1
  have hb := C0.1.2.1
  generalize hH9 : s.heap = H at hH ⊢
  generalize hL9 : ([] : List Loc) = locs at hH ⊢
  clear hH9 hL9
  refine lv_iload_n hx hb dX7_wordOf_0 rfl (lv_at hl 1 rfl) ?_
  refine lv_iconst (v := (-1)) hx hb dX7_wordOf_1 (by decide) ?_
  refine lv_icmp_ne (tgt := 19) hx hb dX7_wordOf_2 (by decide) (fun c_2 => ?_) (fun c_2 => ?_)
  · have hti := rm_tx_in hI ht c_2
    have hcn := rm_cn hti
    refine lv_aload_n hx hb dX7_wordOf_19 rfl (lv_at hl 0 rfl) ?_
    refine rg_gR C0 hH (o2 := 428) (ci := 7) (k := 26) (o := 412) rfl rfl inT_X7 (by decide) tw_f_X7_61 (by decide) rfl (by decide) rfl dX7_wordOf_20 ?_
    refine lv_sipush (v := 216) hx hb dX7_wordOf_23 (by decide) ?_
    refine lv_iload_n hx hb dX7_wordOf_26 rfl (lv_at hl 1 rfl) ?_
    refine lv_imul hx hb dX7_wordOf_27 ?_
    refine lv_bipush (v := 6) hx hb dX7_wordOf_28 (by decide) ?_
    refine lv_iload_n hx hb dX7_wordOf_30 rfl (lv_at hl 2 rfl) ?_
    refine lv_imul hx hb dX7_wordOf_31 ?_
    refine rg_topi (y := nI (6 * x)) (by exact rm_mul (6) (x)) ?_
    refine lv_iadd hx hb dX7_wordOf_32 ?_
    refine lv_iload_n hx hb dX7_wordOf_33 rfl (lv_at hl 3 rfl) ?_
    refine lv_iadd hx hb dX7_wordOf_34 ?_
    refine rg_topi (y := nI (216 * t.toNatClampNeg + 6 * x + y)) (by rw [← nI_add, ← nI_add]; exact congrArg (fun q => q + nI (6 * x) + nI y) (rm_ixt hti (by omega) 216)) ?_
    refine rg_ialdN C0 hH (o := 428) (j := (216 * t.toNatClampNeg + 6 * x + y)) (n0 := 1728) (by decide) rfl rfl (by omega) dX7_wordOf_35 ?_
    exact rg_retRi C0 hH hr hlocks rfl (by unfold rm_wo; rw [if_neg c_2]) dX7_wordOf_36
  · refine lv_aload_n hx hb dX7_wordOf_5 rfl (lv_at hl 0 rfl) ?_
    refine rg_gR C0 hH (o2 := 417) (ci := 7) (k := 12) (o := 412) rfl rfl inT_X7 (by decide) tw_f_X7_23 (by decide) rfl (by decide) rfl dX7_wordOf_6 ?_
    refine lv_bipush (v := 6) hx hb dX7_wordOf_9 (by decide) ?_
    refine lv_iload_n hx hb dX7_wordOf_11 rfl (lv_at hl 2 rfl) ?_
    refine lv_imul hx hb dX7_wordOf_12 ?_
    refine rg_topi (y := nI (6 * x)) (by exact rm_mul (6) (x)) ?_
    refine lv_iload_n hx hb dX7_wordOf_13 rfl (lv_at hl 3 rfl) ?_
    refine lv_iadd hx hb dX7_wordOf_14 ?_
    refine rg_topi (y := nI ((6 * x) + y)) (by exact nI_add (6 * x) (y)) ?_
    refine rg_ialdN C0 hH (o := 417) (j := ((6 * x) + y)) (n0 := 216) (by decide) rfl rfl (by omega) dX7_wordOf_15 ?_
    refine lv_goto (tgt := 36) hx hb dX7_wordOf_16 (by decide) ?_
    exact rg_retRi C0 hH hr hlocks rfl (by unfold rm_wo; rw [if_pos c_2]) dX7_wordOf_36

set_option maxHeartbeats 4000000 in
set_option maxRecDepth 100000 in
/-- isText -/
theorem k_X7_isText (l : Launch) (E : rg_Env) (B : Nat) (M : rg_Mem) (t : Int32) (hI : rm_CI M) : Met l yX7_isText (rg_w yX7_isText cX7_isText 2 (some (FieldType.boolean))) ({ frames := 1, cells := 0, slots := 0, locals := 22 } : Room) (va_Pc [.ref (B + 412), .int (t)] (rg_Pre E B 433 rg_R0 M)) (rg_Ri E B 433 rg_R0 (M) (fun r => r = rg_b (rm_tx M t))) 0 0 (rg_A B) := by
  refine rg_ofW (by decide +kernel) rfl (Nat.le_of_ble_eq_true rfl) ?_
  intro p e s m args below meth c ls C0 hH hl hr hlocks hnm
  replace hl : lv_has ls 2 [(0, .ref (B + 412)), (1, .int (t))] := hl
  have hx := C0.1.1
  have hb := C0.1.2.1
  generalize hH9 : s.heap = H at hH ⊢
  generalize hL9 : ([] : List Loc) = locs at hH ⊢
  clear hH9 hL9
  refine lv_iload_n hx hb dX7_isText_0 rfl (lv_at hl 1 rfl) ?_
  refine lv_iconst (v := (-1)) hx hb dX7_isText_1 (by decide) ?_
  refine lv_icmp_eq (tgt := 19) hx hb dX7_isText_2 (by decide) (fun c_2 => ?_) (fun c_2 => ?_)
  · refine lv_iconst (v := 1) hx hb dX7_isText_19 (by decide) ?_
    refine lv_goto (tgt := 24) hx hb dX7_isText_20 (by decide) ?_
    exact rg_retRz C0 hH hr hlocks (Or.inr rfl) rfl (by exact rg_b_t (by first | exact Or.inl c_2 | exact Or.inr (rg_b_ne.mp c_16))) dX7_isText_24
  · refine lv_iload_n hx hb dX7_isText_5 rfl (lv_at hl 1 rfl) ?_
    refine lv_iconst (v := 0) hx hb dX7_isText_6 (by decide) ?_
    refine lv_aload_n hx hb dX7_isText_7 rfl (lv_at hl 0 rfl) ?_
    refine rg_gI C0 hH (ci := 7) (k := 29) (o := 412) rfl inT_X7 (by decide) tw_f_X7_123 (by decide) rfl (by decide) rfl dX7_isText_8 ?_
    refine lv_iconst (v := 1) hx hb dX7_isText_11 (by decide) ?_
    refine lv_isub hx hb dX7_isText_12 ?_
    refine rg_callSGi C0 hH (As := [.int (t), .int (0), .int ((M.1 412 29) - 1)]) (rest := []) (k_X7_in l E B M t 0 ((M.1 412 29) - 1)) (rg_cwS 3 C0.1.2.2.2.2 tw_m_X7_79 tw_s_X7_in tw_n_X7 tw_c_X7_in rfl rfl hd_X7_in ⟨Nat.le_of_ble_eq_true rfl, Nat.le_of_ble_eq_true rfl⟩) rfl hl.1 rfl (Nat.le_of_ble_eq_true rfl) dX7_isText_13 ⟨Nat.le_of_ble_eq_true rfl, Nat.le_of_ble_eq_true rfl⟩ (fun H locs hH => ?_)
    refine rg_topi (y := rg_b (rm_ic M t)) (by exact rg_b_cg (rm_in1 (rm_CI_c hI).1 (by have := (rm_CI_c hI).2; omega))) ?_
    refine lv_if_eq (tgt := 23) hx hb dX7_isText_16 (by decide) (fun c_16 => ?_) (fun c_16 => ?_)
    · refine lv_iconst (v := 0) hx hb dX7_isText_23 (by decide) ?_
      exact rg_retRz C0 hH hr hlocks (Or.inl rfl) rfl (by exact rg_b_f (fun q => q.elim c_2 (rg_b_eq.mp c_16))) dX7_isText_24
    · refine lv_iconst (v := 1) hx hb dX7_isText_19 (by decide) ?_
      refine lv_goto (tgt := 24) hx hb dX7_isText_20 (by decide) ?_
      exact rg_retRz C0 hH hr hlocks (Or.inr rfl) rfl (by exact rg_b_t (by first | exact Or.inl c_2 | exact Or.inr (rg_b_ne.mp c_16))) dX7_isText_24

set_option maxHeartbeats 4000000 in
set_option maxRecDepth 100000 in
/-- farOf -/
theorem k_X7_farOf (l : Launch) (E : rg_Env) (B : Nat) (M : rg_Mem) (t : Int32) (u : Int32) (hI : rm_CI M) (ht : rm_tx M t) (hu : rm_tx M u) : Met l yX7_farOf (rg_w yX7_farOf cX7_farOf 8 (some (FieldType.int))) ({ frames := 2, cells := 0, slots := 0, locals := 43 } : Room) (va_Pc [.ref (B + 412), .int (t), .int (u)] (rg_Pre E B 433 rg_R0 M)) (rg_Ri E B 433 rg_R0 (M) (fun r => r = rm_fa M t u)) 0 0 (rg_A B) := by
  refine rg_ofW (by decide +kernel) rfl (Nat.le_of_ble_eq_true rfl) ?_
  intro p e s m args below meth c ls C0 hH hl hr hlocks hnm
  replace hl : lv_has ls 8 [(0, .ref (B + 412)), (1, .int (t)), (2, .int (u))] := hl
  have hx := C0.1.1
  have hb := C0.1.2.1
  generalize hH9 : s.heap = H at hH ⊢
  generalize hL9 : ([] : List Loc) = locs at hH ⊢
  clear hH9 hL9
  refine lv_iconst (v := 0) hx hb dX7_farOf_0 (by decide) ?_
  refine lv_istore_n (lv' := [(3, .int (0)), (0, .ref (B + 412)), (1, .int (t)), (2, .int (u))]) hx hb dX7_farOf_1 rfl hl (by decide) rfl (fun ls hl => ?_)
  refine lv_iconst (v := 0) hx hb dX7_farOf_2 (by decide) ?_
  refine lv_istore (lv' := [(4, .int (0)), (3, .int (0)), (0, .ref (B + 412)), (1, .int (t)), (2, .int (u))]) hx hb dX7_farOf_3 hl (by decide) rfl (fun ls hl => ?_)
  have cut_5 : ∀ (fu i : Nat), i ≤ 36 ∧ 36 < i + fu → ∀  (H : Heap) (locs : List Loc) (ls : Array Slot), rg_H E B 433 rg_R0 M s H locs → lv_has ls 8 [(0, .ref (B + 412)), (1, .int (t)), (2, .int (u)), (3, .int (nI (rm_fc (rm_fp M t u) i))), (4, .int (nI i))] → W p l e ({ frames := 2, cells := 0, slots := 0, locals := 43 } : Room) s m args below meth c H locs 0 0 (MQ below (rg_Ri E B 433 rg_R0 (M) (fun r => r = rm_fa M t u)) args s 0 0 (rg_A B)) (F0 m 5 ls []) := by
    intro fu
    induction fu with
    | zero =>
      intro i hm
      exact absurd hm (by omega)
    | succ fu ih =>
      intro i hm  H locs ls hH hl 
      refine lv_iload hx hb dX7_farOf_5 (lv_at hl 4 rfl) ?_
      refine lv_bipush (v := 36) hx hb dX7_farOf_7 (by decide) ?_
      refine lv_icmp_ge (tgt := 113) hx hb dX7_farOf_9 (by decide) (fun c_9 => ?_) (fun c_9 => ?_)
      · refine lv_iload_n hx hb dX7_farOf_113 rfl (lv_at hl 3 rfl) ?_
        exact rg_retRi C0 hH hr hlocks rfl (by unfold rm_fa; rw [rg_lp_end (n := 36) hm.1 (by omega) c_9]) dX7_farOf_114
      · have hlt := rg_lp_lt (n := 36) hm.1 (by omega) c_9
        refine lv_iconst (v := 0) hx hb dX7_farOf_12 (by decide) ?_
        refine lv_istore (lv' := [(5, .int (0)), (0, .ref (B + 412)), (1, .int (t)), (2, .int (u)), (3, .int (nI (rm_fc (rm_fp M t u) i))), (4, .int (nI i))]) hx hb dX7_farOf_13 hl (by decide) rfl (fun ls hl => ?_)
        have cut_15 : ∀ (fu2 k : Nat), k ≤ 6 ∧ 6 < k + fu2 → ∀  (H : Heap) (locs : List Loc) (ls : Array Slot), rg_H E B 433 rg_R0 M s H locs → lv_has ls 8 [(0, .ref (B + 412)), (1, .int (t)), (2, .int (u)), (3, .int (nI (rm_fc (rm_fp M t u) i + rm_fx (rm_fp M t u) i k))), (4, .int (nI i)), (5, .int (nI k))] → W p l e ({ frames := 2, cells := 0, slots := 0, locals := 43 } : Room) s m args below meth c H locs 0 0 (MQ below (rg_Ri E B 433 rg_R0 (M) (fun r => r = rm_fa M t u)) args s 0 0 (rg_A B)) (F0 m 15 ls []) := by
          intro fu2
          induction fu2 with
          | zero =>
            intro k hm2
            exact absurd hm2 (by omega)
          | succ fu2 ih2 =>
            intro k hm2  H locs ls hH hl 
            refine lv_iload hx hb dX7_farOf_15 (lv_at hl 5 rfl) ?_
            refine lv_bipush (v := 6) hx hb dX7_farOf_17 (by decide) ?_
            refine lv_icmp_ge (tgt := 107) hx hb dX7_farOf_19 (by decide) (fun c_19 => ?_) (fun c_19 => ?_)
            · replace hl : lv_has ls 8 [(0, .ref (B + 412)), (1, .int (t)), (2, .int (u)), (3, .int (nI (rm_fc (rm_fp M t u) (i + 1)))), (4, .int (nI i)), (5, .int (nI k))] := by rw [show rm_fc (rm_fp M t u) (i + 1) = rm_fc (rm_fp M t u) i + rm_fx (rm_fp M t u) i 6 from rfl, ← rg_lp_end (n := 6) hm2.1 (by omega) c_19]; exact hl
              refine lv_iinc (v := nI (i + 1)) (lv' := [(4, .int (nI (i + 1))), (0, .ref (B + 412)), (1, .int (t)), (2, .int (u)), (3, .int (nI (rm_fc (rm_fp M t u) (i + 1)))), (5, .int (nI k))]) hx hb dX7_farOf_107 hl (k := 4) rfl (nI_1 _) (by decide) rfl (fun ls hl => ?_)
              refine lv_goto (tgt := 5) hx hb dX7_farOf_110 (by decide) ?_
              exact ih (i + 1) (by omega) _ _ _ hH (lv_sub hl [1, 2, 3, 4, 0] rfl)
            · have hlt2 := rg_lp_lt (n := 6) hm2.1 (by omega) c_19
              refine lv_iload hx hb dX7_farOf_22 (lv_at hl 5 rfl) ?_
              have cut_39 : ∀  (H : Heap) (locs : List Loc) (ls : Array Slot), rg_H E B 433 rg_R0 M s H locs → lv_has ls 8 [(0, .ref (B + 412)), (1, .int (t)), (2, .int (u)), (3, .int (nI (rm_fc (rm_fp M t u) i + rm_fx (rm_fp M t u) i k))), (4, .int (nI i)), (5, .int (nI k))] → W p l e ({ frames := 2, cells := 0, slots := 0, locals := 43 } : Room) s m args below meth c H locs 0 0 (MQ below (rg_Ri E B 433 rg_R0 (M) (fun r => r = rm_fa M t u)) args s 0 0 (rg_A B)) (F0 m 39 ls [.int (rg_b (rm_fh M t i k))]) := by
                intro  H locs ls hH hl 
                refine lv_istore (lv' := [(6, .int (rg_b (rm_fh M t i k))), (0, .ref (B + 412)), (1, .int (t)), (2, .int (u)), (3, .int (nI (rm_fc (rm_fp M t u) i + rm_fx (rm_fp M t u) i k))), (4, .int (nI i)), (5, .int (nI k))]) hx hb dX7_farOf_39 hl (by decide) rfl (fun ls hl => ?_)
                have cut_58 : ∀  (H : Heap) (locs : List Loc) (ls : Array Slot), rg_H E B 433 rg_R0 M s H locs → lv_has ls 8 [(6, .int (rg_b (rm_fh M t i k))), (0, .ref (B + 412)), (1, .int (t)), (2, .int (u)), (3, .int (nI (rm_fc (rm_fp M t u) i + rm_fx (rm_fp M t u) i k))), (4, .int (nI i)), (5, .int (nI k))] → W p l e ({ frames := 2, cells := 0, slots := 0, locals := 43 } : Room) s m args below meth c H locs 0 0 (MQ below (rg_Ri E B 433 rg_R0 (M) (fun r => r = rm_fa M t u)) args s 0 0 (rg_A B)) (F0 m 58 ls [.int (rg_b (rm_fh M u i k))]) := by
                  intro  H locs ls hH hl 
                  refine lv_istore (lv' := [(7, .int (rg_b (rm_fh M u i k))), (6, .int (rg_b (rm_fh M t i k))), (0, .ref (B + 412)), (1, .int (t)), (2, .int (u)), (3, .int (nI (rm_fc (rm_fp M t u) i + rm_fx (rm_fp M t u) i k))), (4, .int (nI i)), (5, .int (nI k))]) hx hb dX7_farOf_58 hl (by decide) rfl (fun ls hl => ?_)
                  refine lv_iload_n hx hb dX7_farOf_60 rfl (lv_at hl 5 rfl) ?_
                  refine lv_iload hx hb dX7_farOf_61 (lv_at hl 1 rfl) ?_
                  refine lv_iload hx hb dX7_farOf_63 (lv_at hl 0 rfl) ?_
                  refine lv_icmp_ne (tgt := 94) hx hb dX7_farOf_65 (by decide) (fun c_65 => ?_) (fun c_65 => ?_)
                  · refine lv_iconst (v := 1) hx hb dX7_farOf_94 (by decide) ?_
                    refine lv_goto (tgt := 99) hx hb dX7_farOf_95 (by decide) ?_
                    refine lv_iadd hx hb dX7_farOf_99 ?_
                    refine rg_topi (y := nI ((rm_fc (rm_fp M t u) i + rm_fx (rm_fp M t u) i k) + 1)) (by exact nI_add (rm_fc (rm_fp M t u) i + rm_fx (rm_fp M t u) i k) (1)) ?_
                    refine lv_istore_n (lv' := [(3, .int (nI ((rm_fc (rm_fp M t u) i + rm_fx (rm_fp M t u) i k) + 1))), (7, .int (rg_b (rm_fh M u i k))), (6, .int (rg_b (rm_fh M t i k))), (0, .ref (B + 412)), (1, .int (t)), (2, .int (u)), (4, .int (nI i)), (5, .int (nI k))]) hx hb dX7_farOf_100 rfl hl (by decide) rfl (fun ls hl => ?_)
                    refine lv_iinc (v := nI (k + 1)) (lv' := [(5, .int (nI (k + 1))), (3, .int (nI ((rm_fc (rm_fp M t u) i + rm_fx (rm_fp M t u) i k) + 1))), (7, .int (rg_b (rm_fh M u i k))), (6, .int (rg_b (rm_fh M t i k))), (0, .ref (B + 412)), (1, .int (t)), (2, .int (u)), (4, .int (nI i))]) hx hb dX7_farOf_101 hl (k := 7) rfl (nI_1 _) (by decide) rfl (fun ls hl => ?_)
                    refine lv_goto (tgt := 15) hx hb dX7_farOf_104 (by decide) ?_
                    replace hl : lv_has ls 8 [(5, .int (nI (k + 1))), (3, .int (nI (rm_fc (rm_fp M t u) i + rm_fx (rm_fp M t u) i (k + 1)))), (7, .int (rg_b (rm_fh M u i k))), (6, .int (rg_b (rm_fh M t i k))), (0, .ref (B + 412)), (1, .int (t)), (2, .int (u)), (4, .int (nI i))] := by rw [rm_fx1 (decide_eq_true (Or.inl c_65))]; exact hl
                    exact ih2 (k + 1) (by omega) _ _ _ hH (lv_sub hl [4, 5, 6, 1, 7, 0] rfl)
                  · refine lv_iload hx hb dX7_farOf_68 (lv_at hl 1 rfl) ?_
                    refine lv_if_eq (tgt := 98) hx hb dX7_farOf_70 (by decide) (fun c_70 => ?_) (fun c_70 => ?_)
                    · refine lv_iconst (v := 0) hx hb dX7_farOf_98 (by decide) ?_
                      refine lv_iadd hx hb dX7_farOf_99 ?_
                      refine rg_topi (y := nI ((rm_fc (rm_fp M t u) i + rm_fx (rm_fp M t u) i k) + 0)) (by exact nI_add (rm_fc (rm_fp M t u) i + rm_fx (rm_fp M t u) i k) (0)) ?_
                      refine lv_istore_n (lv' := [(3, .int (nI ((rm_fc (rm_fp M t u) i + rm_fx (rm_fp M t u) i k) + 0))), (7, .int (rg_b (rm_fh M u i k))), (6, .int (rg_b (rm_fh M t i k))), (0, .ref (B + 412)), (1, .int (t)), (2, .int (u)), (4, .int (nI i)), (5, .int (nI k))]) hx hb dX7_farOf_100 rfl hl (by decide) rfl (fun ls hl => ?_)
                      refine lv_iinc (v := nI (k + 1)) (lv' := [(5, .int (nI (k + 1))), (3, .int (nI ((rm_fc (rm_fp M t u) i + rm_fx (rm_fp M t u) i k) + 0))), (7, .int (rg_b (rm_fh M u i k))), (6, .int (rg_b (rm_fh M t i k))), (0, .ref (B + 412)), (1, .int (t)), (2, .int (u)), (4, .int (nI i))]) hx hb dX7_farOf_101 hl (k := 7) rfl (nI_1 _) (by decide) rfl (fun ls hl => ?_)
                      refine lv_goto (tgt := 15) hx hb dX7_farOf_104 (by decide) ?_
                      replace hl : lv_has ls 8 [(5, .int (nI (k + 1))), (3, .int (nI (rm_fc (rm_fp M t u) i + rm_fx (rm_fp M t u) i (k + 1)))), (7, .int (rg_b (rm_fh M u i k))), (6, .int (rg_b (rm_fh M t i k))), (0, .ref (B + 412)), (1, .int (t)), (2, .int (u)), (4, .int (nI i))] := by rw [rm_fx0 (fun q => (of_decide_eq_true q).elim (fun z => z c_65) (fun z => rg_b_eq.mp c_70 z.1))]; exact hl
                      exact ih2 (k + 1) (by omega) _ _ _ hH (lv_sub hl [4, 5, 6, 1, 7, 0] rfl)
                    · refine lv_aload_n hx hb dX7_farOf_73 rfl (lv_at hl 2 rfl) ?_
                      refine lv_iload_n hx hb dX7_farOf_74 rfl (lv_at hl 3 rfl) ?_
                      refine lv_iload hx hb dX7_farOf_75 (lv_at hl 6 rfl) ?_
                      refine lv_iload hx hb dX7_farOf_77 (lv_at hl 7 rfl) ?_
                      refine rg_callGi C0 hH (As := [.int (t), .int (nI i), .int (nI k)]) (rest := [.int (nI (rm_fc (rm_fp M t u) i + rm_fx (rm_fp M t u) i k))]) (o := 412) (ci := 7) (k_X7_wordOf l E B M t i k (by assumption) (by assumption) (by assumption) (by assumption)) (rg_cw 3 C0.1.2.2.2.2 tw_m_X7_196 tw_i_X7_wordOf tw_v_X7_wordOf tw_n_X7 tw_c_X7_wordOf rfl rfl hd_X7_wordOf ⟨Nat.le_of_ble_eq_true rfl, Nat.le_of_ble_eq_true rfl⟩) rfl (by decide) rfl (by decide) rfl hl.1 rfl (Nat.le_of_ble_eq_true rfl) dX7_farOf_79 ⟨Nat.le_of_ble_eq_true rfl, Nat.le_of_ble_eq_true rfl⟩ (fun H locs hH => ?_)
                      refine lv_aload_n hx hb dX7_farOf_82 rfl (lv_at hl 2 rfl) ?_
                      refine lv_iload_n hx hb dX7_farOf_83 rfl (lv_at hl 4 rfl) ?_
                      refine lv_iload hx hb dX7_farOf_84 (lv_at hl 6 rfl) ?_
                      refine lv_iload hx hb dX7_farOf_86 (lv_at hl 7 rfl) ?_
                      refine rg_callGi C0 hH (As := [.int (u), .int (nI i), .int (nI k)]) (rest := [.int (rm_wo M t i k), .int (nI (rm_fc (rm_fp M t u) i + rm_fx (rm_fp M t u) i k))]) (o := 412) (ci := 7) (k_X7_wordOf l E B M u i k (by assumption) (by assumption) (by assumption) (by assumption)) (rg_cw 3 C0.1.2.2.2.2 tw_m_X7_196 tw_i_X7_wordOf tw_v_X7_wordOf tw_n_X7 tw_c_X7_wordOf rfl rfl hd_X7_wordOf ⟨Nat.le_of_ble_eq_true rfl, Nat.le_of_ble_eq_true rfl⟩) rfl (by decide) rfl (by decide) rfl hl.1 rfl (Nat.le_of_ble_eq_true rfl) dX7_farOf_88 ⟨Nat.le_of_ble_eq_true rfl, Nat.le_of_ble_eq_true rfl⟩ (fun H locs hH => ?_)
                      refine lv_icmp_eq (tgt := 98) hx hb dX7_farOf_91 (by decide) (fun c_91 => ?_) (fun c_91 => ?_)
                      · refine lv_iconst (v := 0) hx hb dX7_farOf_98 (by decide) ?_
                        refine lv_iadd hx hb dX7_farOf_99 ?_
                        refine rg_topi (y := nI ((rm_fc (rm_fp M t u) i + rm_fx (rm_fp M t u) i k) + 0)) (by exact nI_add (rm_fc (rm_fp M t u) i + rm_fx (rm_fp M t u) i k) (0)) ?_
                        refine lv_istore_n (lv' := [(3, .int (nI ((rm_fc (rm_fp M t u) i + rm_fx (rm_fp M t u) i k) + 0))), (7, .int (rg_b (rm_fh M u i k))), (6, .int (rg_b (rm_fh M t i k))), (0, .ref (B + 412)), (1, .int (t)), (2, .int (u)), (4, .int (nI i)), (5, .int (nI k))]) hx hb dX7_farOf_100 rfl hl (by decide) rfl (fun ls hl => ?_)
                        refine lv_iinc (v := nI (k + 1)) (lv' := [(5, .int (nI (k + 1))), (3, .int (nI ((rm_fc (rm_fp M t u) i + rm_fx (rm_fp M t u) i k) + 0))), (7, .int (rg_b (rm_fh M u i k))), (6, .int (rg_b (rm_fh M t i k))), (0, .ref (B + 412)), (1, .int (t)), (2, .int (u)), (4, .int (nI i))]) hx hb dX7_farOf_101 hl (k := 7) rfl (nI_1 _) (by decide) rfl (fun ls hl => ?_)
                        refine lv_goto (tgt := 15) hx hb dX7_farOf_104 (by decide) ?_
                        replace hl : lv_has ls 8 [(5, .int (nI (k + 1))), (3, .int (nI (rm_fc (rm_fp M t u) i + rm_fx (rm_fp M t u) i (k + 1)))), (7, .int (rg_b (rm_fh M u i k))), (6, .int (rg_b (rm_fh M t i k))), (0, .ref (B + 412)), (1, .int (t)), (2, .int (u)), (4, .int (nI i))] := by rw [rm_fx0 (fun q => (of_decide_eq_true q).elim (fun z => z c_65) (fun z => z.2 c_91))]; exact hl
                        exact ih2 (k + 1) (by omega) _ _ _ hH (lv_sub hl [4, 5, 6, 1, 7, 0] rfl)
                      · refine lv_iconst (v := 1) hx hb dX7_farOf_94 (by decide) ?_
                        refine lv_goto (tgt := 99) hx hb dX7_farOf_95 (by decide) ?_
                        refine lv_iadd hx hb dX7_farOf_99 ?_
                        refine rg_topi (y := nI ((rm_fc (rm_fp M t u) i + rm_fx (rm_fp M t u) i k) + 1)) (by exact nI_add (rm_fc (rm_fp M t u) i + rm_fx (rm_fp M t u) i k) (1)) ?_
                        refine lv_istore_n (lv' := [(3, .int (nI ((rm_fc (rm_fp M t u) i + rm_fx (rm_fp M t u) i k) + 1))), (7, .int (rg_b (rm_fh M u i k))), (6, .int (rg_b (rm_fh M t i k))), (0, .ref (B + 412)), (1, .int (t)), (2, .int (u)), (4, .int (nI i)), (5, .int (nI k))]) hx hb dX7_farOf_100 rfl hl (by decide) rfl (fun ls hl => ?_)
                        refine lv_iinc (v := nI (k + 1)) (lv' := [(5, .int (nI (k + 1))), (3, .int (nI ((rm_fc (rm_fp M t u) i + rm_fx (rm_fp M t u) i k) + 1))), (7, .int (rg_b (rm_fh M u i k))), (6, .int (rg_b (rm_fh M t i k))), (0, .ref (B + 412)), (1, .int (t)), (2, .int (u)), (4, .int (nI i))]) hx hb dX7_farOf_101 hl (k := 7) rfl (nI_1 _) (by decide) rfl (fun ls hl => ?_)
                        refine lv_goto (tgt := 15) hx hb dX7_farOf_104 (by decide) ?_
                        replace hl : lv_has ls 8 [(5, .int (nI (k + 1))), (3, .int (nI (rm_fc (rm_fp M t u) i + rm_fx (rm_fp M t u) i (k + 1)))), (7, .int (rg_b (rm_fh M u i k))), (6, .int (rg_b (rm_fh M t i k))), (0, .ref (B + 412)), (1, .int (t)), (2, .int (u)), (4, .int (nI i))] := by rw [rm_fx1 (decide_eq_true (Or.inr ⟨rg_b_ne.mp c_70, c_91⟩))]; exact hl
                        exact ih2 (k + 1) (by omega) _ _ _ hH (lv_sub hl [4, 5, 6, 1, 7, 0] rfl)
                refine lv_iload hx hb dX7_farOf_41 (lv_at hl 6 rfl) ?_
                refine lv_aload_n hx hb dX7_farOf_43 rfl (lv_at hl 1 rfl) ?_
                refine lv_iload_n hx hb dX7_farOf_44 rfl (lv_at hl 3 rfl) ?_
                refine lv_iload hx hb dX7_farOf_45 (lv_at hl 5 rfl) ?_
                refine rg_callGi C0 hH (As := [.int (u), .int (nI i)]) (rest := [.int (nI k)]) (o := 412) (ci := 7) (k_X7_sizeOf l E B M u i (by assumption) (by assumption) (by assumption)) (rg_cw 2 C0.1.2.2.2.2 tw_m_X7_193 tw_i_X7_sizeOf tw_v_X7_sizeOf tw_n_X7 tw_c_X7_sizeOf rfl rfl hd_X7_sizeOf ⟨Nat.le_of_ble_eq_true rfl, Nat.le_of_ble_eq_true rfl⟩) rfl (by decide) rfl (by decide) rfl hl.1 rfl (Nat.le_of_ble_eq_true rfl) dX7_farOf_47 ⟨Nat.le_of_ble_eq_true rfl, Nat.le_of_ble_eq_true rfl⟩ (fun H locs hH => ?_)
                refine lv_icmp_ge (tgt := 57) hx hb dX7_farOf_50 (by decide) (fun c_50 => ?_) (fun c_50 => ?_)
                · refine lv_iconst (v := 0) hx hb dX7_farOf_57 (by decide) ?_
                  refine rg_topi (y := rg_b (rm_fh M u i k)) (by first | exact rg_b_f (fun q => q c_50)) ?_
                  exact cut_58 _ _ _ hH (lv_sub hl [0, 1, 2, 3, 4, 5, 6] rfl)
                · refine lv_iconst (v := 1) hx hb dX7_farOf_53 (by decide) ?_
                  refine lv_goto (tgt := 58) hx hb dX7_farOf_54 (by decide) ?_
                  refine rg_topi (y := rg_b (rm_fh M u i k)) (by exact rg_b_t (c_50)) ?_
                  exact cut_58 _ _ _ hH (lv_sub hl [0, 1, 2, 3, 4, 5, 6] rfl)
              refine lv_aload_n hx hb dX7_farOf_24 rfl (lv_at hl 0 rfl) ?_
              refine lv_iload_n hx hb dX7_farOf_25 rfl (lv_at hl 1 rfl) ?_
              refine lv_iload hx hb dX7_farOf_26 (lv_at hl 4 rfl) ?_
              refine rg_callGi C0 hH (As := [.int (t), .int (nI i)]) (rest := [.int (nI k)]) (o := 412) (ci := 7) (k_X7_sizeOf l E B M t i (by assumption) (by assumption) (by assumption)) (rg_cw 2 C0.1.2.2.2.2 tw_m_X7_193 tw_i_X7_sizeOf tw_v_X7_sizeOf tw_n_X7 tw_c_X7_sizeOf rfl rfl hd_X7_sizeOf ⟨Nat.le_of_ble_eq_true rfl, Nat.le_of_ble_eq_true rfl⟩) rfl (by decide) rfl (by decide) rfl hl.1 rfl (Nat.le_of_ble_eq_true rfl) dX7_farOf_28 ⟨Nat.le_of_ble_eq_true rfl, Nat.le_of_ble_eq_true rfl⟩ (fun H locs hH => ?_)
              refine lv_icmp_ge (tgt := 38) hx hb dX7_farOf_31 (by decide) (fun c_31 => ?_) (fun c_31 => ?_)
              · refine lv_iconst (v := 0) hx hb dX7_farOf_38 (by decide) ?_
                refine rg_topi (y := rg_b (rm_fh M t i k)) (by first | exact rg_b_f (fun q => q c_31)) ?_
                exact cut_39 _ _ _ hH (lv_sub hl [0, 1, 2, 3, 4, 5] rfl)
              · refine lv_iconst (v := 1) hx hb dX7_farOf_34 (by decide) ?_
                refine lv_goto (tgt := 39) hx hb dX7_farOf_35 (by decide) ?_
                refine rg_topi (y := rg_b (rm_fh M t i k)) (by exact rg_b_t (c_31)) ?_
                exact cut_39 _ _ _ hH (lv_sub hl [0, 1, 2, 3, 4, 5] rfl)
        exact cut_15 7 0 (by omega) _ _ _ hH (lv_sub hl [1, 2, 3, 4, 5, 0] rfl)
  exact cut_5 37 0 (by omega) _ _ _ hH (lv_sub hl [2, 3, 4, 1, 0] rfl)

set_option maxHeartbeats 4000000 in
set_option maxRecDepth 100000 in
/-- far -/
theorem k_X7_far (l : Launch) (E : rg_Env) (B : Nat) (M : rg_Mem) (t : Int32) (u : Int32) (hI : rm_CI M) : Met l yX7_far (rg_w yX7_far cX7_far 3 (some (FieldType.int))) ({ frames := 3, cells := 0, slots := 0, locals := 70 } : Room) (va_Pc [.ref (B + 412), .int (t), .int (u)] (rg_Pre E B 433 rg_R0 M)) (rg_Wi E B 433 rg_R0 (fun r M1 => (¬ rm_go (rg_b (rm_tx M t ∧ rm_tx M u)) (M.1 412 6) 1 = 0 ∧ r = 0 ∧ M1 = rg_I M 412 33 (rm_go (rg_b (rm_tx M t ∧ rm_tx M u)) (M.1 412 6) 1)) ∨ (rm_go (rg_b (rm_tx M t ∧ rm_tx M u)) (M.1 412 6) 1 = 0 ∧ r = rm_fa M t u ∧ M1 = (rg_I M 412 33 (rm_go (rg_b (rm_tx M t ∧ rm_tx M u)) (M.1 412 6) 1))))) 0 0 (rg_A B) := by
  refine rg_ofW (by decide +kernel) rfl (Nat.le_of_ble_eq_true rfl) ?_
  intro p e s m args below meth c ls C0 hH hl hr hlocks hnm
  replace hl : lv_has ls 3 [(0, .ref (B + 412)), (1, .int (t)), (2, .int (u))] := hl
  have hx := C0.1.1
  have hb := C0.1.2.1
  generalize hH9 : s.heap = H at hH ⊢
  generalize hL9 : ([] : List Loc) = locs at hH ⊢
  clear hH9 hL9
  refine lv_aload_n hx hb dX7_far_0 rfl (lv_at hl 0 rfl) ?_
  have cut_22 : ∀  (H : Heap) (locs : List Loc) (ls : Array Slot), rg_H E B 433 rg_R0 M s H locs → lv_has ls 3 [(0, .ref (B + 412)), (1, .int (t)), (2, .int (u))] → W p l e ({ frames := 3, cells := 0, slots := 0, locals := 70 } : Room) s m args below meth c H locs 0 0 (MQ below (rg_Wi E B 433 rg_R0 (fun r M1 => (¬ rm_go (rg_b (rm_tx M t ∧ rm_tx M u)) (M.1 412 6) 1 = 0 ∧ r = 0 ∧ M1 = rg_I M 412 33 (rm_go (rg_b (rm_tx M t ∧ rm_tx M u)) (M.1 412 6) 1)) ∨ (rm_go (rg_b (rm_tx M t ∧ rm_tx M u)) (M.1 412 6) 1 = 0 ∧ r = rm_fa M t u ∧ M1 = (rg_I M 412 33 (rm_go (rg_b (rm_tx M t ∧ rm_tx M u)) (M.1 412 6) 1))))) args s 0 0 (rg_A B)) (F0 m 22 ls [.int (rg_b (rm_tx M t ∧ rm_tx M u)), .ref (B + 412)]) := by
    intro  H locs ls hH hl 
    refine lv_aload_n hx hb dX7_far_22 rfl (lv_at hl 0 rfl) ?_
    refine rg_gI C0 hH (ci := 7) (k := 6) (o := 412) rfl inT_X7 (by decide) tw_f_X7_103 (by decide) rfl (by decide) rfl dX7_far_23 ?_
    refine lv_iconst (v := 1) hx hb dX7_far_26 (by decide) ?_
    refine rg_callGi C0 hH (As := [.int (rg_b (rm_tx M t ∧ rm_tx M u)), .int (M.1 412 6), .int (1)]) (rest := []) (o := 412) (ci := 7) (k_X7_goes l E B M (rg_b (rm_tx M t ∧ rm_tx M u)) (M.1 412 6) 1) (rg_cw 3 C0.1.2.2.2.2 tw_m_X7_92 tw_i_X7_goes tw_v_X7_goes tw_n_X7 tw_c_X7_goes rfl rfl hd_X7_goes ⟨Nat.le_of_ble_eq_true rfl, Nat.le_of_ble_eq_true rfl⟩) rfl (by decide) rfl (by decide) rfl hl.1 rfl (Nat.le_of_ble_eq_true rfl) dX7_far_27 ⟨Nat.le_of_ble_eq_true rfl, Nat.le_of_ble_eq_true rfl⟩ (fun H locs hH => ?_)
    refine lv_if_eq (tgt := 42) hx hb dX7_far_30 (by decide) (fun c_30 => ?_) (fun c_30 => ?_)
    · refine lv_iconst (v := 0) hx hb dX7_far_42 (by decide) ?_
      exact rg_retWi C0 hH hr hlocks (by exact Or.inl ⟨rg_b_eq.mp c_30, rfl, rfl⟩) dX7_far_43
    · have hg := rm_go_inv (rg_b_ne.mp c_30)
      have hP := rg_b_ne.mp hg.1
      refine lv_aload_n hx hb dX7_far_33 rfl (lv_at hl 0 rfl) ?_
      refine lv_iload_n hx hb dX7_far_34 rfl (lv_at hl 1 rfl) ?_
      refine lv_iload_n hx hb dX7_far_35 rfl (lv_at hl 2 rfl) ?_
      refine rg_callGi C0 hH (As := [.int (t), .int (u)]) (rest := []) (o := 412) (ci := 7) (k_X7_farOf l E B (rg_I M 412 33 (rm_go (rg_b (rm_tx M t ∧ rm_tx M u)) (M.1 412 6) 1)) t u (rm_CI_eq hI (rm_eq_f (by omega))) hP.1 hP.2) (rg_cw 2 C0.1.2.2.2.2 tw_m_X7_203 tw_i_X7_farOf tw_v_X7_farOf tw_n_X7 tw_c_X7_farOf rfl rfl hd_X7_farOf ⟨Nat.le_of_ble_eq_true rfl, Nat.le_of_ble_eq_true rfl⟩) rfl (by decide) rfl (by decide) rfl hl.1 rfl (Nat.le_of_ble_eq_true rfl) dX7_far_36 ⟨Nat.le_of_ble_eq_true rfl, Nat.le_of_ble_eq_true rfl⟩ (fun H locs hH => ?_)
      refine rg_topi (y := rm_fa M t u) (by exact rfl) ?_
      refine lv_goto (tgt := 43) hx hb dX7_far_39 (by decide) ?_
      exact rg_retWi C0 hH hr hlocks (by exact Or.inr ⟨rg_b_ne.mp c_30, rfl, rfl⟩) dX7_far_43
  refine lv_aload_n hx hb dX7_far_1 rfl (lv_at hl 0 rfl) ?_
  refine lv_iload_n hx hb dX7_far_2 rfl (lv_at hl 1 rfl) ?_
  refine rg_callGi C0 hH (As := [.int (t)]) (rest := [.ref (B + 412)]) (o := 412) (ci := 7) (k_X7_isText l E B M t (by exact hI)) (rg_cw 1 C0.1.2.2.2.2 tw_m_X7_200 tw_i_X7_isText tw_v_X7_isText tw_n_X7 tw_c_X7_isText rfl rfl hd_X7_isText ⟨Nat.le_of_ble_eq_true rfl, Nat.le_of_ble_eq_true rfl⟩) rfl (by decide) rfl (by decide) rfl hl.1 rfl (Nat.le_of_ble_eq_true rfl) dX7_far_3 ⟨Nat.le_of_ble_eq_true rfl, Nat.le_of_ble_eq_true rfl⟩ (fun H locs hH => ?_)
  refine lv_if_eq (tgt := 21) hx hb dX7_far_6 (by decide) (fun c_6 => ?_) (fun c_6 => ?_)
  · refine lv_iconst (v := 0) hx hb dX7_far_21 (by decide) ?_
    refine rg_topi (y := rg_b (rm_tx M t ∧ rm_tx M u)) (by first | exact rg_b_f (fun q => rg_b_eq.mp c_6 q.1) | exact rg_b_f (fun q => rg_b_eq.mp c_14 q.2)) ?_
    exact cut_22 _ _ _ hH (lv_sub hl [0, 1, 2] rfl)
  · refine lv_aload_n hx hb dX7_far_9 rfl (lv_at hl 0 rfl) ?_
    refine lv_iload_n hx hb dX7_far_10 rfl (lv_at hl 2 rfl) ?_
    refine rg_callGi C0 hH (As := [.int (u)]) (rest := [.ref (B + 412)]) (o := 412) (ci := 7) (k_X7_isText l E B M u (by exact hI)) (rg_cw 1 C0.1.2.2.2.2 tw_m_X7_200 tw_i_X7_isText tw_v_X7_isText tw_n_X7 tw_c_X7_isText rfl rfl hd_X7_isText ⟨Nat.le_of_ble_eq_true rfl, Nat.le_of_ble_eq_true rfl⟩) rfl (by decide) rfl (by decide) rfl hl.1 rfl (Nat.le_of_ble_eq_true rfl) dX7_far_11 ⟨Nat.le_of_ble_eq_true rfl, Nat.le_of_ble_eq_true rfl⟩ (fun H locs hH => ?_)
    refine lv_if_eq (tgt := 21) hx hb dX7_far_14 (by decide) (fun c_14 => ?_) (fun c_14 => ?_)
    · refine lv_iconst (v := 0) hx hb dX7_far_21 (by decide) ?_
      refine rg_topi (y := rg_b (rm_tx M t ∧ rm_tx M u)) (by first | exact rg_b_f (fun q => rg_b_eq.mp c_6 q.1) | exact rg_b_f (fun q => rg_b_eq.mp c_14 q.2)) ?_
      exact cut_22 _ _ _ hH (lv_sub hl [0, 1, 2] rfl)
    · refine lv_iconst (v := 1) hx hb dX7_far_17 (by decide) ?_
      refine lv_goto (tgt := 22) hx hb dX7_far_18 (by decide) ?_
      refine rg_topi (y := rg_b (rm_tx M t ∧ rm_tx M u)) (by exact rg_b_t (⟨rg_b_ne.mp c_6, rg_b_ne.mp c_14⟩)) ?_
      exact cut_22 _ _ _ hH (lv_sub hl [0, 1, 2] rfl)
