set_option maxHeartbeats 4000000 in
set_option maxRecDepth 100000 in
/-- write -/
theorem k_X7_write (l : Launch) (E : rg_Env) (B : Nat) (M : rg_Mem) (t : Int32) (x : Int32) (y : Int32) (z : Int32) (hI : rm_CI M) : Met l yX7_write (rg_w yX7_write cX7_write 8 (some (FieldType.int))) ({ frames := 2, cells := 0, slots := 0, locals := 43 } : Room) (va_Pc [.ref (B + 412), .int (t), .int (x), .int (y), .int (z)] (rg_Pre E B 433 rg_R0 M)) (rg_Wi E B 433 rg_R0 (fun r M1 => (¬ rm_go (rg_b ((rm_ic M t ∧ rm_in x 0 (M.1 430 t.toNatClampNeg - 1) ∧ rm_iw M z) ∧ rm_in y 0 (rm_so M t x.toNatClampNeg - 1))) 1 1 = 0 ∧ r = 0 ∧ M1 = rg_I M 412 33 (rm_go (rg_b ((rm_ic M t ∧ rm_in x 0 (M.1 430 t.toNatClampNeg - 1) ∧ rm_iw M z) ∧ rm_in y 0 (rm_so M t x.toNatClampNeg - 1))) 1 1)) ∨ (rm_go (rg_b ((rm_ic M t ∧ rm_in x 0 (M.1 430 t.toNatClampNeg - 1) ∧ rm_iw M z) ∧ rm_in y 0 (rm_so M t x.toNatClampNeg - 1))) 1 1 = 0 ∧ r = M.1 428 (216 * t.toNatClampNeg + 6 * x.toNatClampNeg + y.toNatClampNeg) ∧ M1 = rg_I (rg_I M 412 33 (rm_go (rg_b ((rm_ic M t ∧ rm_in x 0 (M.1 430 t.toNatClampNeg - 1) ∧ rm_iw M z) ∧ rm_in y 0 (rm_so M t x.toNatClampNeg - 1))) 1 1)) 428 (216 * t.toNatClampNeg + 6 * x.toNatClampNeg + y.toNatClampNeg) z))) 0 0 (rg_A B) := by
  refine rg_ofW (by decide +kernel) rfl (Nat.le_of_ble_eq_true rfl) ?_
  intro p e s m args below meth c ls C0 hH hl hr hlocks hnm
  replace hl : lv_has ls 8 [(0, .ref (B + 412)), (1, .int (t)), (2, .int (x)), (3, .int (y)), (4, .int (z))] := hl
  have hx := C0.1.1
  have hb := C0.1.2.1
  generalize hH9 : s.heap = H at hH ⊢
  generalize hL9 : ([] : List Loc) = locs at hH ⊢
  clear hH9 hL9
  have cut_62 : ∀  (H : Heap) (locs : List Loc) (ls : Array Slot), rg_H E B 433 rg_R0 M s H locs → lv_has ls 8 [(0, .ref (B + 412)), (1, .int (t)), (2, .int (x)), (3, .int (y)), (4, .int (z))] → W p l e ({ frames := 2, cells := 0, slots := 0, locals := 43 } : Room) s m args below meth c H locs 0 0 (MQ below (rg_Wi E B 433 rg_R0 (fun r M1 => (¬ rm_go (rg_b ((rm_ic M t ∧ rm_in x 0 (M.1 430 t.toNatClampNeg - 1) ∧ rm_iw M z) ∧ rm_in y 0 (rm_so M t x.toNatClampNeg - 1))) 1 1 = 0 ∧ r = 0 ∧ M1 = rg_I M 412 33 (rm_go (rg_b ((rm_ic M t ∧ rm_in x 0 (M.1 430 t.toNatClampNeg - 1) ∧ rm_iw M z) ∧ rm_in y 0 (rm_so M t x.toNatClampNeg - 1))) 1 1)) ∨ (rm_go (rg_b ((rm_ic M t ∧ rm_in x 0 (M.1 430 t.toNatClampNeg - 1) ∧ rm_iw M z) ∧ rm_in y 0 (rm_so M t x.toNatClampNeg - 1))) 1 1 = 0 ∧ r = M.1 428 (216 * t.toNatClampNeg + 6 * x.toNatClampNeg + y.toNatClampNeg) ∧ M1 = rg_I (rg_I M 412 33 (rm_go (rg_b ((rm_ic M t ∧ rm_in x 0 (M.1 430 t.toNatClampNeg - 1) ∧ rm_iw M z) ∧ rm_in y 0 (rm_so M t x.toNatClampNeg - 1))) 1 1)) 428 (216 * t.toNatClampNeg + 6 * x.toNatClampNeg + y.toNatClampNeg) z))) args s 0 0 (rg_A B)) (F0 m 62 ls [.int (rg_b (rm_ic M t ∧ rm_in x 0 (M.1 430 t.toNatClampNeg - 1) ∧ rm_iw M z))]) := by
    intro  H locs ls hH hl 
    refine lv_istore (lv' := [(5, .int (rg_b (rm_ic M t ∧ rm_in x 0 (M.1 430 t.toNatClampNeg - 1) ∧ rm_iw M z))), (0, .ref (B + 412)), (1, .int (t)), (2, .int (x)), (3, .int (y)), (4, .int (z))]) hx hb dX7_write_62 hl (by decide) rfl (fun ls hl => ?_)
    refine lv_aload_n hx hb dX7_write_64 rfl (lv_at hl 1 rfl) ?_
    have cut_91 : ∀  (H : Heap) (locs : List Loc) (ls : Array Slot), rg_H E B 433 rg_R0 M s H locs → lv_has ls 8 [(5, .int (rg_b (rm_ic M t ∧ rm_in x 0 (M.1 430 t.toNatClampNeg - 1) ∧ rm_iw M z))), (0, .ref (B + 412)), (1, .int (t)), (2, .int (x)), (3, .int (y)), (4, .int (z))] → W p l e ({ frames := 2, cells := 0, slots := 0, locals := 43 } : Room) s m args below meth c H locs 0 0 (MQ below (rg_Wi E B 433 rg_R0 (fun r M1 => (¬ rm_go (rg_b ((rm_ic M t ∧ rm_in x 0 (M.1 430 t.toNatClampNeg - 1) ∧ rm_iw M z) ∧ rm_in y 0 (rm_so M t x.toNatClampNeg - 1))) 1 1 = 0 ∧ r = 0 ∧ M1 = rg_I M 412 33 (rm_go (rg_b ((rm_ic M t ∧ rm_in x 0 (M.1 430 t.toNatClampNeg - 1) ∧ rm_iw M z) ∧ rm_in y 0 (rm_so M t x.toNatClampNeg - 1))) 1 1)) ∨ (rm_go (rg_b ((rm_ic M t ∧ rm_in x 0 (M.1 430 t.toNatClampNeg - 1) ∧ rm_iw M z) ∧ rm_in y 0 (rm_so M t x.toNatClampNeg - 1))) 1 1 = 0 ∧ r = M.1 428 (216 * t.toNatClampNeg + 6 * x.toNatClampNeg + y.toNatClampNeg) ∧ M1 = rg_I (rg_I M 412 33 (rm_go (rg_b ((rm_ic M t ∧ rm_in x 0 (M.1 430 t.toNatClampNeg - 1) ∧ rm_iw M z) ∧ rm_in y 0 (rm_so M t x.toNatClampNeg - 1))) 1 1)) 428 (216 * t.toNatClampNeg + 6 * x.toNatClampNeg + y.toNatClampNeg) z))) args s 0 0 (rg_A B)) (F0 m 91 ls [.int (rg_b ((rm_ic M t ∧ rm_in x 0 (M.1 430 t.toNatClampNeg - 1) ∧ rm_iw M z) ∧ rm_in y 0 (rm_so M t x.toNatClampNeg - 1))), .ref (B + 412)]) := by
      intro  H locs ls hH hl 
      refine lv_iconst (v := 1) hx hb dX7_write_91 (by decide) ?_
      refine lv_iconst (v := 1) hx hb dX7_write_92 (by decide) ?_
      refine rg_callGi C0 hH (As := [.int (rg_b ((rm_ic M t ∧ rm_in x 0 (M.1 430 t.toNatClampNeg - 1) ∧ rm_iw M z) ∧ rm_in y 0 (rm_so M t x.toNatClampNeg - 1))), .int (1), .int (1)]) (rest := []) (o := 412) (ci := 7) (k_X7_goes l E B M (rg_b ((rm_ic M t ∧ rm_in x 0 (M.1 430 t.toNatClampNeg - 1) ∧ rm_iw M z) ∧ rm_in y 0 (rm_so M t x.toNatClampNeg - 1))) 1 1) (rg_cw 3 C0.1.2.2.2.2 tw_m_X7_92 tw_i_X7_goes tw_v_X7_goes tw_n_X7 tw_c_X7_goes rfl rfl hd_X7_goes ⟨Nat.le_of_ble_eq_true rfl, Nat.le_of_ble_eq_true rfl⟩) rfl (by decide) rfl (by decide) rfl hl.1 rfl (Nat.le_of_ble_eq_true rfl) dX7_write_93 ⟨Nat.le_of_ble_eq_true rfl, Nat.le_of_ble_eq_true rfl⟩ (fun H locs hH => ?_)
      refine lv_if_ne (tgt := 101) hx hb dX7_write_96 (by decide) (fun c_96 => ?_) (fun c_96 => ?_)
      · have hg := rm_go_inv (rg_b_ne.mp c_96)
        have hP := rg_b_ne.mp hg.1
        have hK := hP.1
        have hti := rm_ic_in hI hK.1
        have hcn := rm_cn hti
        have htx : rm_tx M t := Or.inr hK.1
        have htl := rg_in_lt (rg_lt_in (rm_CI_c hI).1 (by have := (rm_CI_c hI).2; omega) hK.1.1 hK.1.2)
        have hvc := rm_CI_vc hI _ htl
        obtain ⟨b, hb9, hbx⟩ := rm_in_le hvc.1 (by omega) hK.2.1
        have hxn : x.toNatClampNeg = b := by rw [hbx, nI_clamp (by omega)]
        have hb36 : b < 36 := by omega
        obtain ⟨sn, hsn, hsn6⟩ := rm_so_n hI htx (l := x.toNatClampNeg) (by omega)
        obtain ⟨d, hd9, hdy⟩ := rm_in_le hsn (by omega) hP.2
        have hyn : y.toNatClampNeg = d := by rw [hdy, nI_clamp (by omega)]
        refine lv_sipush (v := 216) hx hb dX7_write_101 (by decide) ?_
        refine lv_iload_n hx hb dX7_write_104 rfl (lv_at hl 2 rfl) ?_
        refine lv_imul hx hb dX7_write_105 ?_
        refine rg_topi (y := nI (216 * t.toNatClampNeg)) (by exact rm_ixt hti (by omega) 216) ?_
        refine lv_bipush (v := 6) hx hb dX7_write_106 (by decide) ?_
        refine lv_iload_n hx hb dX7_write_108 rfl (lv_at hl 3 rfl) ?_
        refine lv_imul hx hb dX7_write_109 ?_
        refine rg_topi (y := nI (6 * x.toNatClampNeg)) (by rw [hbx, nI_clamp (by omega)]; exact rm_mul 6 b) ?_
        refine lv_iadd hx hb dX7_write_110 ?_
        refine rg_topi (y := nI ((216 * t.toNatClampNeg) + (6 * x.toNatClampNeg))) (by exact nI_add (216 * t.toNatClampNeg) (6 * x.toNatClampNeg)) ?_
        refine lv_iload_n hx hb dX7_write_111 rfl (lv_at hl 4 rfl) ?_
        refine rg_topi (y := nI (y.toNatClampNeg)) (by rw [hdy, nI_clamp (by omega)]) ?_
        refine lv_iadd hx hb dX7_write_112 ?_
        refine rg_topi (y := nI (((216 * t.toNatClampNeg) + (6 * x.toNatClampNeg)) + y.toNatClampNeg)) (by exact nI_add ((216 * t.toNatClampNeg) + (6 * x.toNatClampNeg)) (y.toNatClampNeg)) ?_
        refine lv_istore (lv' := [(6, .int (nI (((216 * t.toNatClampNeg) + (6 * x.toNatClampNeg)) + y.toNatClampNeg))), (5, .int (rg_b (rm_ic M t ∧ rm_in x 0 (M.1 430 t.toNatClampNeg - 1) ∧ rm_iw M z))), (0, .ref (B + 412)), (1, .int (t)), (2, .int (x)), (3, .int (y)), (4, .int (z))]) hx hb dX7_write_113 hl (by decide) rfl (fun ls hl => ?_)
        refine lv_aload_n hx hb dX7_write_115 rfl (lv_at hl 2 rfl) ?_
        refine rg_gR C0 hH (o2 := 428) (ci := 7) (k := 26) (o := 412) rfl rfl inT_X7 (by decide) tw_f_X7_61 (by decide) rfl (by decide) rfl dX7_write_116 ?_
        refine lv_iload hx hb dX7_write_119 (lv_at hl 0 rfl) ?_
        refine rg_ialdN C0 hH (o := 428) (j := (((216 * t.toNatClampNeg) + (6 * x.toNatClampNeg)) + y.toNatClampNeg)) (n0 := 1728) (by decide) rfl rfl (by omega) dX7_write_121 ?_
        refine lv_istore (lv' := [(7, .int ((rg_I M 412 33 (rm_go (rg_b ((rm_ic M t ∧ rm_in x 0 (M.1 430 t.toNatClampNeg - 1) ∧ rm_iw M z) ∧ rm_in y 0 (rm_so M t x.toNatClampNeg - 1))) 1 1)).1 428 ((((216 * t.toNatClampNeg) + (6 * x.toNatClampNeg)) + y.toNatClampNeg)))), (6, .int (nI (((216 * t.toNatClampNeg) + (6 * x.toNatClampNeg)) + y.toNatClampNeg))), (5, .int (rg_b (rm_ic M t ∧ rm_in x 0 (M.1 430 t.toNatClampNeg - 1) ∧ rm_iw M z))), (0, .ref (B + 412)), (1, .int (t)), (2, .int (x)), (3, .int (y)), (4, .int (z))]) hx hb dX7_write_122 hl (by decide) rfl (fun ls hl => ?_)
        refine lv_aload_n hx hb dX7_write_124 rfl (lv_at hl 3 rfl) ?_
        refine rg_gR C0 hH (o2 := 428) (ci := 7) (k := 26) (o := 412) rfl rfl inT_X7 (by decide) tw_f_X7_61 (by decide) rfl (by decide) rfl dX7_write_125 ?_
        refine lv_iload hx hb dX7_write_128 (lv_at hl 1 rfl) ?_
        refine lv_iload hx hb dX7_write_130 (lv_at hl 7 rfl) ?_
        refine rg_iastN C0 hH (o := 428) (j := (((216 * t.toNatClampNeg) + (6 * x.toNatClampNeg)) + y.toNatClampNeg)) (n0 := 1728) (by decide) rfl rfl (by omega) dX7_write_132 (fun H locs hH => ?_)
        refine lv_iload hx hb dX7_write_133 (lv_at hl 0 rfl) ?_
        exact rg_retWi C0 hH hr hlocks (by exact Or.inr ⟨rg_b_ne.mp c_96, rfl, rfl⟩) dX7_write_135
      · refine lv_iconst (v := 0) hx hb dX7_write_99 (by decide) ?_
        exact rg_retWi C0 hH hr hlocks (by exact Or.inl ⟨rg_b_eq.mp c_96, rfl, rfl⟩) dX7_write_100
    refine lv_iload hx hb dX7_write_65 (lv_at hl 0 rfl) ?_
    refine lv_if_eq (tgt := 90) hx hb dX7_write_67 (by decide) (fun c_67 => ?_) (fun c_67 => ?_)
    · refine lv_iconst (v := 0) hx hb dX7_write_90 (by decide) ?_
      refine rg_topi (y := rg_b ((rm_ic M t ∧ rm_in x 0 (M.1 430 t.toNatClampNeg - 1) ∧ rm_iw M z) ∧ rm_in y 0 (rm_so M t x.toNatClampNeg - 1))) (by first | exact rg_b_f (fun q => rg_b_eq.mp c_67 q.1) | exact rg_b_f (fun q => rg_b_eq.mp c_83 q.2)) ?_
      exact cut_91 _ _ _ hH (lv_sub hl [0, 1, 2, 3, 4, 5] rfl)
    · have hK := rg_b_ne.mp c_67
      have hti := rm_ic_in hI hK.1
      have htx : rm_tx M t := Or.inr hK.1
      have htl := rg_in_lt (rg_lt_in (rm_CI_c hI).1 (by have := (rm_CI_c hI).2; omega) hK.1.1 hK.1.2)
      have hvc := rm_CI_vc hI _ htl
      obtain ⟨b, hb9, hbx⟩ := rm_in_le hvc.1 (by omega) hK.2.1
      have hxn : x.toNatClampNeg = b := by rw [hbx, nI_clamp (by omega)]
      have hb36 : b < 36 := by omega
      refine lv_iload_n hx hb dX7_write_70 rfl (lv_at hl 4 rfl) ?_
      refine lv_iconst (v := 0) hx hb dX7_write_71 (by decide) ?_
      refine lv_aload_n hx hb dX7_write_72 rfl (lv_at hl 1 rfl) ?_
      refine lv_iload_n hx hb dX7_write_73 rfl (lv_at hl 2 rfl) ?_
      refine lv_iload_n hx hb dX7_write_74 rfl (lv_at hl 3 rfl) ?_
      refine rg_topi (y := nI b) (by exact hbx) ?_
      refine rg_callGi C0 hH (As := [.int (t), .int (nI b)]) (rest := [.int (0), .int (y), .ref (B + 412)]) (o := 412) (ci := 7) (k_X7_sizeOf l E B M t b hI htx hb36) (rg_cw 2 C0.1.2.2.2.2 tw_m_X7_193 tw_i_X7_sizeOf tw_v_X7_sizeOf tw_n_X7 tw_c_X7_sizeOf rfl rfl hd_X7_sizeOf ⟨Nat.le_of_ble_eq_true rfl, Nat.le_of_ble_eq_true rfl⟩) rfl (by decide) rfl (by decide) rfl hl.1 rfl (Nat.le_of_ble_eq_true rfl) dX7_write_75 ⟨Nat.le_of_ble_eq_true rfl, Nat.le_of_ble_eq_true rfl⟩ (fun H locs hH => ?_)
      refine rg_topi (y := rm_so M t x.toNatClampNeg) (by rw [hxn]) ?_
      refine lv_iconst (v := 1) hx hb dX7_write_78 (by decide) ?_
      refine lv_isub hx hb dX7_write_79 ?_
      refine rg_callSGi C0 hH (As := [.int (y), .int (0), .int ((rm_so M t x.toNatClampNeg) - 1)]) (rest := [.ref (B + 412)]) (k_X7_in l E B M y 0 ((rm_so M t x.toNatClampNeg) - 1)) (rg_cwS 3 C0.1.2.2.2.2 tw_m_X7_79 tw_s_X7_in tw_n_X7 tw_c_X7_in rfl rfl hd_X7_in ⟨Nat.le_of_ble_eq_true rfl, Nat.le_of_ble_eq_true rfl⟩) rfl hl.1 rfl (Nat.le_of_ble_eq_true rfl) dX7_write_80 ⟨Nat.le_of_ble_eq_true rfl, Nat.le_of_ble_eq_true rfl⟩ (fun H locs hH => ?_)
      refine lv_if_eq (tgt := 90) hx hb dX7_write_83 (by decide) (fun c_83 => ?_) (fun c_83 => ?_)
      · refine lv_iconst (v := 0) hx hb dX7_write_90 (by decide) ?_
        refine rg_topi (y := rg_b ((rm_ic M t ∧ rm_in x 0 (M.1 430 t.toNatClampNeg - 1) ∧ rm_iw M z) ∧ rm_in y 0 (rm_so M t x.toNatClampNeg - 1))) (by first | exact rg_b_f (fun q => rg_b_eq.mp c_67 q.1) | exact rg_b_f (fun q => rg_b_eq.mp c_83 q.2)) ?_
        exact cut_91 _ _ _ hH (lv_sub hl [0, 1, 2, 3, 4, 5] rfl)
      · refine lv_iconst (v := 1) hx hb dX7_write_86 (by decide) ?_
        refine lv_goto (tgt := 91) hx hb dX7_write_87 (by decide) ?_
        refine rg_topi (y := rg_b ((rm_ic M t ∧ rm_in x 0 (M.1 430 t.toNatClampNeg - 1) ∧ rm_iw M z) ∧ rm_in y 0 (rm_so M t x.toNatClampNeg - 1))) (by exact rg_b_t (⟨rg_b_ne.mp c_67, rg_b_ne.mp c_83⟩)) ?_
        exact cut_91 _ _ _ hH (lv_sub hl [0, 1, 2, 3, 4, 5] rfl)
  refine lv_iload_n hx hb dX7_write_0 rfl (lv_at hl 1 rfl) ?_
  refine lv_iconst (v := 0) hx hb dX7_write_1 (by decide) ?_
  refine lv_aload_n hx hb dX7_write_2 rfl (lv_at hl 0 rfl) ?_
  refine rg_gI C0 hH (ci := 7) (k := 29) (o := 412) rfl inT_X7 (by decide) tw_f_X7_123 (by decide) rfl (by decide) rfl dX7_write_3 ?_
  refine lv_iconst (v := 1) hx hb dX7_write_6 (by decide) ?_
  refine lv_isub hx hb dX7_write_7 ?_
  refine rg_callSGi C0 hH (As := [.int (t), .int (0), .int ((M.1 412 29) - 1)]) (rest := []) (k_X7_in l E B M t 0 ((M.1 412 29) - 1)) (rg_cwS 3 C0.1.2.2.2.2 tw_m_X7_79 tw_s_X7_in tw_n_X7 tw_c_X7_in rfl rfl hd_X7_in ⟨Nat.le_of_ble_eq_true rfl, Nat.le_of_ble_eq_true rfl⟩) rfl hl.1 rfl (Nat.le_of_ble_eq_true rfl) dX7_write_8 ⟨Nat.le_of_ble_eq_true rfl, Nat.le_of_ble_eq_true rfl⟩ (fun H locs hH => ?_)
  refine rg_topi (y := rg_b (rm_ic M t)) (by exact rg_b_cg (rm_in1 (rm_CI_c hI).1 (by have := (rm_CI_c hI).2; omega))) ?_
  refine lv_if_eq (tgt := 61) hx hb dX7_write_11 (by decide) (fun c_11 => ?_) (fun c_11 => ?_)
  · refine lv_iconst (v := 0) hx hb dX7_write_61 (by decide) ?_
    refine rg_topi (y := rg_b (rm_ic M t ∧ rm_in x 0 (M.1 430 t.toNatClampNeg - 1) ∧ rm_iw M z)) (by first | exact rg_b_f (fun q => rg_b_eq.mp c_11 q.1) | exact rg_b_f (fun q => rg_b_eq.mp c_45 q.2.1) | exact rg_b_f (fun q => rg_b_eq.mp c_54 q.2.2)) ?_
    exact cut_62 _ _ _ hH (lv_sub hl [0, 1, 2, 3, 4] rfl)
  · refine lv_iload_n hx hb dX7_write_14 rfl (lv_at hl 2 rfl) ?_
    refine lv_iconst (v := 0) hx hb dX7_write_15 (by decide) ?_
    refine lv_aload_n hx hb dX7_write_16 rfl (lv_at hl 0 rfl) ?_
    refine rg_gR C0 hH (o2 := 430) (ci := 7) (k := 28) (o := 412) rfl rfl inT_X7 (by decide) tw_f_X7_67 (by decide) rfl (by decide) rfl dX7_write_17 ?_
    refine lv_iload_n hx hb dX7_write_20 rfl (lv_at hl 1 rfl) ?_
    refine lv_iconst (v := 0) hx hb dX7_write_21 (by decide) ?_
    refine lv_aload_n hx hb dX7_write_22 rfl (lv_at hl 0 rfl) ?_
    refine rg_gI C0 hH (ci := 7) (k := 29) (o := 412) rfl inT_X7 (by decide) tw_f_X7_123 (by decide) rfl (by decide) rfl dX7_write_23 ?_
    refine lv_iconst (v := 1) hx hb dX7_write_26 (by decide) ?_
    refine lv_isub hx hb dX7_write_27 ?_
    refine rg_callSGi C0 hH (As := [.int (t), .int (0), .int ((M.1 412 29) - 1)]) (rest := [.ref (B + 430), .int (0), .int (x)]) (k_X7_in l E B M t 0 ((M.1 412 29) - 1)) (rg_cwS 3 C0.1.2.2.2.2 tw_m_X7_79 tw_s_X7_in tw_n_X7 tw_c_X7_in rfl rfl hd_X7_in ⟨Nat.le_of_ble_eq_true rfl, Nat.le_of_ble_eq_true rfl⟩) rfl hl.1 rfl (Nat.le_of_ble_eq_true rfl) dX7_write_28 ⟨Nat.le_of_ble_eq_true rfl, Nat.le_of_ble_eq_true rfl⟩ (fun H locs hH => ?_)
    refine rg_topi (y := rg_b (rm_ic M t)) (by exact rg_b_cg (rm_in1 (rm_CI_c hI).1 (by have := (rm_CI_c hI).2; omega))) ?_
    refine lv_if_eq (tgt := 38) hx hb dX7_write_31 (by decide) (fun c_31 => ?_) (fun c_31 => ?_)
    · exact absurd c_31 c_11
    · refine lv_iload_n hx hb dX7_write_34 rfl (lv_at hl 1 rfl) ?_
      refine lv_goto (tgt := 39) hx hb dX7_write_35 (by decide) ?_
      refine rg_iald C0 hH (o := 430) (by decide) rfl (rg_vin rfl (by exact rm_ic_in hI (rg_b_ne.mp c_11))) dX7_write_39 ?_
      refine lv_iconst (v := 1) hx hb dX7_write_40 (by decide) ?_
      refine lv_isub hx hb dX7_write_41 ?_
      refine rg_callSGi C0 hH (As := [.int (x), .int (0), .int ((M.1 430 t.toNatClampNeg) - 1)]) (rest := []) (k_X7_in l E B M x 0 ((M.1 430 t.toNatClampNeg) - 1)) (rg_cwS 3 C0.1.2.2.2.2 tw_m_X7_79 tw_s_X7_in tw_n_X7 tw_c_X7_in rfl rfl hd_X7_in ⟨Nat.le_of_ble_eq_true rfl, Nat.le_of_ble_eq_true rfl⟩) rfl hl.1 rfl (Nat.le_of_ble_eq_true rfl) dX7_write_42 ⟨Nat.le_of_ble_eq_true rfl, Nat.le_of_ble_eq_true rfl⟩ (fun H locs hH => ?_)
      refine lv_if_eq (tgt := 61) hx hb dX7_write_45 (by decide) (fun c_45 => ?_) (fun c_45 => ?_)
      · refine lv_iconst (v := 0) hx hb dX7_write_61 (by decide) ?_
        refine rg_topi (y := rg_b (rm_ic M t ∧ rm_in x 0 (M.1 430 t.toNatClampNeg - 1) ∧ rm_iw M z)) (by first | exact rg_b_f (fun q => rg_b_eq.mp c_11 q.1) | exact rg_b_f (fun q => rg_b_eq.mp c_45 q.2.1) | exact rg_b_f (fun q => rg_b_eq.mp c_54 q.2.2)) ?_
        exact cut_62 _ _ _ hH (lv_sub hl [0, 1, 2, 3, 4] rfl)
      · refine lv_aload_n hx hb dX7_write_48 rfl (lv_at hl 0 rfl) ?_
        refine lv_iload hx hb dX7_write_49 (lv_at hl 4 rfl) ?_
        refine rg_callGi C0 hH (As := [.int (z)]) (rest := []) (o := 412) (ci := 7) (k_X7_isWord l E B M z (by exact hI)) (rg_cw 1 C0.1.2.2.2.2 tw_m_X7_96 tw_i_X7_isWord tw_v_X7_isWord tw_n_X7 tw_c_X7_isWord rfl rfl hd_X7_isWord ⟨Nat.le_of_ble_eq_true rfl, Nat.le_of_ble_eq_true rfl⟩) rfl (by decide) rfl (by decide) rfl hl.1 rfl (Nat.le_of_ble_eq_true rfl) dX7_write_51 ⟨Nat.le_of_ble_eq_true rfl, Nat.le_of_ble_eq_true rfl⟩ (fun H locs hH => ?_)
        refine lv_if_eq (tgt := 61) hx hb dX7_write_54 (by decide) (fun c_54 => ?_) (fun c_54 => ?_)
        · refine lv_iconst (v := 0) hx hb dX7_write_61 (by decide) ?_
          refine rg_topi (y := rg_b (rm_ic M t ∧ rm_in x 0 (M.1 430 t.toNatClampNeg - 1) ∧ rm_iw M z)) (by first | exact rg_b_f (fun q => rg_b_eq.mp c_11 q.1) | exact rg_b_f (fun q => rg_b_eq.mp c_45 q.2.1) | exact rg_b_f (fun q => rg_b_eq.mp c_54 q.2.2)) ?_
          exact cut_62 _ _ _ hH (lv_sub hl [0, 1, 2, 3, 4] rfl)
        · refine lv_iconst (v := 1) hx hb dX7_write_57 (by decide) ?_
          refine lv_goto (tgt := 62) hx hb dX7_write_58 (by decide) ?_
          refine rg_topi (y := rg_b (rm_ic M t ∧ rm_in x 0 (M.1 430 t.toNatClampNeg - 1) ∧ rm_iw M z)) (by exact rg_b_t (⟨rg_b_ne.mp c_11, rg_b_ne.mp c_45, rg_b_ne.mp c_54⟩)) ?_
          exact cut_62 _ _ _ hH (lv_sub hl [0, 1, 2, 3, 4] rfl)

set_option maxHeartbeats 4000000 in
set_option maxRecDepth 100000 in
/-- copy -/
theorem k_X7_copy (l : Launch) (E : rg_Env) (B : Nat) (M : rg_Mem) (t : Int32) (hI : rm_CI M) : Met l yX7_copy (rg_w yX7_copy cX7_copy 4 (some (FieldType.int))) ({ frames := 2, cells := 0, slots := 0, locals := 43 } : Room) (va_Pc [.ref (B + 412), .int (t)] (rg_Pre E B 433 rg_R0 M)) (rg_Wi E B 433 rg_R0 (fun r M1 => (¬ rm_go (rg_b (rm_tx M t)) (rg_b (¬ M.1 412 6 = 0 ∧ ¬ 8 ≤ M.1 412 29)) 1 = 0 ∧ r = 0 ∧ M1 = rg_I M 412 33 (rm_go (rg_b (rm_tx M t)) (rg_b (¬ M.1 412 6 = 0 ∧ ¬ 8 ≤ M.1 412 29)) 1)) ∨ (rm_go (rg_b (rm_tx M t)) (rg_b (¬ M.1 412 6 = 0 ∧ ¬ 8 ≤ M.1 412 29)) 1 = 0 ∧ r = nI (rm_nc M) ∧ ∃ M2 n, rm_lo M t = nI n ∧ n ≤ 36 ∧ rm_cq M M2 ∧ rm_cw M (rm_nc M) t M2 n ∧ M2.1 412 33 = 0 ∧ M1 = rg_I M2 412 29 (nI (rm_nc M + 1))))) 0 0 (rg_A B) := by
  refine rg_ofW (by decide +kernel) rfl (Nat.le_of_ble_eq_true rfl) ?_
  intro p e s m args below meth c ls C0 hH hl hr hlocks hnm
  replace hl : lv_has ls 4 [(0, .ref (B + 412)), (1, .int (t))] := hl
  have hx := C0.1.1
  have hb := C0.1.2.1
  generalize hH9 : s.heap = H at hH ⊢
  generalize hL9 : ([] : List Loc) = locs at hH ⊢
  clear hH9 hL9
  refine lv_aload_n hx hb dX7_copy_0 rfl (lv_at hl 0 rfl) ?_
  have cut_25 : ∀  (H : Heap) (locs : List Loc) (ls : Array Slot), rg_H E B 433 rg_R0 M s H locs → lv_has ls 4 [(0, .ref (B + 412)), (1, .int (t))] → W p l e ({ frames := 2, cells := 0, slots := 0, locals := 43 } : Room) s m args below meth c H locs 0 0 (MQ below (rg_Wi E B 433 rg_R0 (fun r M1 => (¬ rm_go (rg_b (rm_tx M t)) (rg_b (¬ M.1 412 6 = 0 ∧ ¬ 8 ≤ M.1 412 29)) 1 = 0 ∧ r = 0 ∧ M1 = rg_I M 412 33 (rm_go (rg_b (rm_tx M t)) (rg_b (¬ M.1 412 6 = 0 ∧ ¬ 8 ≤ M.1 412 29)) 1)) ∨ (rm_go (rg_b (rm_tx M t)) (rg_b (¬ M.1 412 6 = 0 ∧ ¬ 8 ≤ M.1 412 29)) 1 = 0 ∧ r = nI (rm_nc M) ∧ ∃ M2 n, rm_lo M t = nI n ∧ n ≤ 36 ∧ rm_cq M M2 ∧ rm_cw M (rm_nc M) t M2 n ∧ M2.1 412 33 = 0 ∧ M1 = rg_I M2 412 29 (nI (rm_nc M + 1))))) args s 0 0 (rg_A B)) (F0 m 25 ls [.int (rg_b (rm_tx M t)), .ref (B + 412)]) := by
    intro  H locs ls hH hl 
    refine lv_aload_n hx hb dX7_copy_25 rfl (lv_at hl 0 rfl) ?_
    have cut_46 : ∀  (H : Heap) (locs : List Loc) (ls : Array Slot), rg_H E B 433 rg_R0 M s H locs → lv_has ls 4 [(0, .ref (B + 412)), (1, .int (t))] → W p l e ({ frames := 2, cells := 0, slots := 0, locals := 43 } : Room) s m args below meth c H locs 0 0 (MQ below (rg_Wi E B 433 rg_R0 (fun r M1 => (¬ rm_go (rg_b (rm_tx M t)) (rg_b (¬ M.1 412 6 = 0 ∧ ¬ 8 ≤ M.1 412 29)) 1 = 0 ∧ r = 0 ∧ M1 = rg_I M 412 33 (rm_go (rg_b (rm_tx M t)) (rg_b (¬ M.1 412 6 = 0 ∧ ¬ 8 ≤ M.1 412 29)) 1)) ∨ (rm_go (rg_b (rm_tx M t)) (rg_b (¬ M.1 412 6 = 0 ∧ ¬ 8 ≤ M.1 412 29)) 1 = 0 ∧ r = nI (rm_nc M) ∧ ∃ M2 n, rm_lo M t = nI n ∧ n ≤ 36 ∧ rm_cq M M2 ∧ rm_cw M (rm_nc M) t M2 n ∧ M2.1 412 33 = 0 ∧ M1 = rg_I M2 412 29 (nI (rm_nc M + 1))))) args s 0 0 (rg_A B)) (F0 m 46 ls [.int (rg_b (¬ M.1 412 6 = 0 ∧ ¬ 8 ≤ M.1 412 29)), .int (rg_b (rm_tx M t)), .ref (B + 412)]) := by
      intro  H locs ls hH hl 
      refine lv_iconst (v := 1) hx hb dX7_copy_46 (by decide) ?_
      refine rg_callGi C0 hH (As := [.int (rg_b (rm_tx M t)), .int (rg_b (¬ M.1 412 6 = 0 ∧ ¬ 8 ≤ M.1 412 29)), .int (1)]) (rest := []) (o := 412) (ci := 7) (k_X7_goes l E B M (rg_b (rm_tx M t)) (rg_b (¬ M.1 412 6 = 0 ∧ ¬ 8 ≤ M.1 412 29)) 1) (rg_cw 3 C0.1.2.2.2.2 tw_m_X7_92 tw_i_X7_goes tw_v_X7_goes tw_n_X7 tw_c_X7_goes rfl rfl hd_X7_goes ⟨Nat.le_of_ble_eq_true rfl, Nat.le_of_ble_eq_true rfl⟩) rfl (by decide) rfl (by decide) rfl hl.1 rfl (Nat.le_of_ble_eq_true rfl) dX7_copy_47 ⟨Nat.le_of_ble_eq_true rfl, Nat.le_of_ble_eq_true rfl⟩ (fun H locs hH => ?_)
      refine lv_if_ne (tgt := 55) hx hb dX7_copy_50 (by decide) (fun c_50 => ?_) (fun c_50 => ?_)
      · have hg := rm_go_inv (rg_b_ne.mp c_50)
        have hP := rg_b_ne.mp hg.1
        have hQ := rg_b_ne.mp hg.2.1
        have hnc := (rm_CI_c hI).1
        have h8 := rm_lt40 hnc (by have := (rm_CI_c hI).2; omega) (m := 8) rfl hQ.2
        obtain ⟨ln, hln, hln36⟩ := rm_lo_n hI hP
        obtain ⟨Ma, h_Ma⟩ : ∃ X, X = rg_I M 412 33 (rm_go (rg_b (rm_tx M t)) (rg_b (¬ M.1 412 6 = 0 ∧ ¬ 8 ≤ M.1 412 29)) 1) := ⟨_, rfl⟩
        rw [← h_Ma] at hH
        have hqa : rm_cq M Ma := by rw [h_Ma]; exact rm_cq_1
        have h33a : Ma.1 412 33 = rm_go (rg_b (rm_tx M t)) (rg_b (¬ M.1 412 6 = 0 ∧ ¬ 8 ≤ M.1 412 29)) 1 := by rw [h_Ma]; exact rm_get
        refine lv_aload_n hx hb dX7_copy_55 rfl (lv_at hl 0 rfl) ?_
        refine rg_gR C0 hH (o2 := 430) (ci := 7) (k := 28) (o := 412) rfl rfl inT_X7 (by decide) tw_f_X7_67 (by decide) rfl (by decide) rfl dX7_copy_56 ?_
        refine lv_aload_n hx hb dX7_copy_59 rfl (lv_at hl 0 rfl) ?_
        refine rg_gI C0 hH (ci := 7) (k := 29) (o := 412) rfl inT_X7 (by decide) tw_f_X7_123 (by decide) rfl (by decide) rfl dX7_copy_60 ?_
        refine rg_topi (y := nI (rm_nc M)) (by exact (hqa.2.1 29 (by omega)).trans hnc) ?_
        refine lv_aload_n hx hb dX7_copy_63 rfl (lv_at hl 0 rfl) ?_
        refine lv_iload_n hx hb dX7_copy_64 rfl (lv_at hl 1 rfl) ?_
        refine rg_callGi C0 hH (As := [.int (t)]) (rest := [.int (nI (rm_nc M)), .ref (B + 430)]) (o := 412) (ci := 7) (k_X7_linksOf l E B Ma t (rm_CI_cq hI hqa) (rm_tx_cq hqa hP)) (rg_cw 1 C0.1.2.2.2.2 tw_m_X7_190 tw_i_X7_linksOf tw_v_X7_linksOf tw_n_X7 tw_c_X7_linksOf rfl rfl hd_X7_linksOf ⟨Nat.le_of_ble_eq_true rfl, Nat.le_of_ble_eq_true rfl⟩) rfl (by decide) rfl (by decide) rfl hl.1 rfl (Nat.le_of_ble_eq_true rfl) dX7_copy_65 ⟨Nat.le_of_ble_eq_true rfl, Nat.le_of_ble_eq_true rfl⟩ (fun H locs hH => ?_)
        refine rg_topi (y := rm_lo M t) (by exact rm_lo_cq hI hqa hP) ?_
        refine rg_iastN C0 hH (o := 430) (j := (rm_nc M)) (n0 := 8) (by decide) rfl rfl (by omega) dX7_copy_68 (fun H locs hH => ?_)
        refine lv_iconst (v := 0) hx hb dX7_copy_69 (by decide) ?_
        refine lv_istore_n (lv' := [(2, .int (0)), (0, .ref (B + 412)), (1, .int (t))]) hx hb dX7_copy_70 rfl hl (by decide) rfl (fun ls hl => ?_)
        have cut_71 : ∀ (fu i : Nat), i ≤ ln ∧ ln < i + fu → ∀ (Mi : rg_Mem) (H : Heap) (locs : List Loc) (ls : Array Slot), rg_H E B 433 rg_R0 Mi s H locs → lv_has ls 4 [(0, .ref (B + 412)), (1, .int (t)), (2, .int (nI i))] → (rm_cq M Mi) → (rm_cw M (rm_nc M) t Mi i) → (Mi.1 412 33 = rm_go (rg_b (rm_tx M t)) (rg_b (¬ M.1 412 6 = 0 ∧ ¬ 8 ≤ M.1 412 29)) 1) → W p l e ({ frames := 2, cells := 0, slots := 0, locals := 43 } : Room) s m args below meth c H locs 0 0 (MQ below (rg_Wi E B 433 rg_R0 (fun r M1 => (¬ rm_go (rg_b (rm_tx M t)) (rg_b (¬ M.1 412 6 = 0 ∧ ¬ 8 ≤ M.1 412 29)) 1 = 0 ∧ r = 0 ∧ M1 = rg_I M 412 33 (rm_go (rg_b (rm_tx M t)) (rg_b (¬ M.1 412 6 = 0 ∧ ¬ 8 ≤ M.1 412 29)) 1)) ∨ (rm_go (rg_b (rm_tx M t)) (rg_b (¬ M.1 412 6 = 0 ∧ ¬ 8 ≤ M.1 412 29)) 1 = 0 ∧ r = nI (rm_nc M) ∧ ∃ M2 n, rm_lo M t = nI n ∧ n ≤ 36 ∧ rm_cq M M2 ∧ rm_cw M (rm_nc M) t M2 n ∧ M2.1 412 33 = 0 ∧ M1 = rg_I M2 412 29 (nI (rm_nc M + 1))))) args s 0 0 (rg_A B)) (F0 m 71 ls []) := by
          intro fu
          induction fu with
          | zero =>
            intro i hm
            exact absurd hm (by omega)
          | succ fu ih =>
            intro i hm Mi H locs ls hH hl hqi hwi h33i
            refine lv_iload_n hx hb dX7_copy_71 rfl (lv_at hl 2 rfl) ?_
            refine lv_aload_n hx hb dX7_copy_72 rfl (lv_at hl 0 rfl) ?_
            refine lv_iload_n hx hb dX7_copy_73 rfl (lv_at hl 1 rfl) ?_
            refine rg_callGi C0 hH (As := [.int (t)]) (rest := [.int (nI i)]) (o := 412) (ci := 7) (k_X7_linksOf l E B Mi t (rm_CI_cq hI hqi) (rm_tx_cq hqi hP)) (rg_cw 1 C0.1.2.2.2.2 tw_m_X7_190 tw_i_X7_linksOf tw_v_X7_linksOf tw_n_X7 tw_c_X7_linksOf rfl rfl hd_X7_linksOf ⟨Nat.le_of_ble_eq_true rfl, Nat.le_of_ble_eq_true rfl⟩) rfl (by decide) rfl (by decide) rfl hl.1 rfl (Nat.le_of_ble_eq_true rfl) dX7_copy_74 ⟨Nat.le_of_ble_eq_true rfl, Nat.le_of_ble_eq_true rfl⟩ (fun H locs hH => ?_)
            refine rg_topi (y := nI ln) (by exact (rm_lo_cq hI hqi hP).trans hln) ?_
            refine lv_icmp_ge (tgt := 151) hx hb dX7_copy_77 (by decide) (fun c_77 => ?_) (fun c_77 => ?_)
            · refine lv_aload_n hx hb dX7_copy_151 rfl (lv_at hl 0 rfl) ?_
              refine lv_dup hx hb dX7_copy_152 rfl ?_
              refine rg_gI C0 hH (ci := 7) (k := 29) (o := 412) rfl inT_X7 (by decide) tw_f_X7_123 (by decide) rfl (by decide) rfl dX7_copy_153 ?_
              refine rg_topi (y := nI (rm_nc M)) (by exact (hqi.2.1 29 (by omega)).trans hnc) ?_
              refine lv_iconst (v := 1) hx hb dX7_copy_156 (by decide) ?_
              refine lv_iadd hx hb dX7_copy_157 ?_
              refine rg_topi (y := nI ((rm_nc M) + 1)) (by exact nI_add (rm_nc M) (1)) ?_
              refine rg_pI C0 hH (v := nI ((rm_nc M) + 1)) tyX7 tyX7_ok nmX7 (ci := 7) (k := 29) (o := 412) rfl inT_X7 (by decide) tw_f_X7_123 (by decide) rfl (by decide) rfl rfl rfl rfl dX7_copy_158 (fun H locs hH => ?_)
              refine lv_aload_n hx hb dX7_copy_161 rfl (lv_at hl 0 rfl) ?_
              refine rg_gI C0 hH (ci := 7) (k := 29) (o := 412) rfl inT_X7 (by decide) tw_f_X7_123 (by decide) rfl (by decide) rfl dX7_copy_162 ?_
              refine rg_topi (y := nI (rm_nc M + 1)) (by exact rm_get) ?_
              refine lv_iconst (v := 1) hx hb dX7_copy_165 (by decide) ?_
              refine lv_isub hx hb dX7_copy_166 ?_
              refine rg_topi (y := nI (rm_nc M)) (by exact nI_pred _) ?_
              exact rg_retWi C0 hH hr hlocks (by exact Or.inr ⟨rg_b_ne.mp c_50, rfl, Mi, ln, hln, hln36, hqi, by rw [← rg_lp_end hm.1 (by omega) c_77]; exact hwi, h33i.trans (rg_b_ne.mp c_50), rfl⟩) dX7_copy_167
            · have hlt := rg_lp_lt hm.1 (by omega) c_77
              obtain ⟨sn, hsn, hsn6⟩ := rm_so_n hI hP (l := i) (by omega)
              refine lv_aload_n hx hb dX7_copy_80 rfl (lv_at hl 0 rfl) ?_
              refine rg_gR C0 hH (o2 := 429) (ci := 7) (k := 27) (o := 412) rfl rfl inT_X7 (by decide) tw_f_X7_64 (by decide) rfl (by decide) rfl dX7_copy_81 ?_
              refine lv_bipush (v := 36) hx hb dX7_copy_84 (by decide) ?_
              refine lv_aload_n hx hb dX7_copy_86 rfl (lv_at hl 0 rfl) ?_
              refine rg_gI C0 hH (ci := 7) (k := 29) (o := 412) rfl inT_X7 (by decide) tw_f_X7_123 (by decide) rfl (by decide) rfl dX7_copy_87 ?_
              refine rg_topi (y := nI (rm_nc M)) (by exact (hqi.2.1 29 (by omega)).trans hnc) ?_
              refine lv_imul hx hb dX7_copy_90 ?_
              refine rg_topi (y := nI (36 * (rm_nc M))) (by exact rm_mul (36) (rm_nc M)) ?_
              refine lv_iload_n hx hb dX7_copy_91 rfl (lv_at hl 2 rfl) ?_
              refine lv_iadd hx hb dX7_copy_92 ?_
              refine rg_topi (y := nI ((36 * (rm_nc M)) + i)) (by exact nI_add (36 * (rm_nc M)) (i)) ?_
              refine lv_aload_n hx hb dX7_copy_93 rfl (lv_at hl 0 rfl) ?_
              refine lv_iload_n hx hb dX7_copy_94 rfl (lv_at hl 1 rfl) ?_
              refine lv_iload_n hx hb dX7_copy_95 rfl (lv_at hl 2 rfl) ?_
              refine rg_callGi C0 hH (As := [.int (t), .int (nI i)]) (rest := [.int (nI ((36 * (rm_nc M)) + i)), .ref (B + 429)]) (o := 412) (ci := 7) (k_X7_sizeOf l E B Mi t i (rm_CI_cq hI hqi) (rm_tx_cq hqi hP) (by omega)) (rg_cw 2 C0.1.2.2.2.2 tw_m_X7_193 tw_i_X7_sizeOf tw_v_X7_sizeOf tw_n_X7 tw_c_X7_sizeOf rfl rfl hd_X7_sizeOf ⟨Nat.le_of_ble_eq_true rfl, Nat.le_of_ble_eq_true rfl⟩) rfl (by decide) rfl (by decide) rfl hl.1 rfl (Nat.le_of_ble_eq_true rfl) dX7_copy_96 ⟨Nat.le_of_ble_eq_true rfl, Nat.le_of_ble_eq_true rfl⟩ (fun H locs hH => ?_)
              refine rg_topi (y := rm_so M t i) (by exact rm_so_cq hI hqi hP (by omega)) ?_
              refine rg_iastN C0 hH (o := 429) (j := ((36 * (rm_nc M)) + i)) (n0 := 288) (by decide) rfl rfl (by omega) dX7_copy_99 (fun H locs hH => ?_)
              refine lv_iconst (v := 0) hx hb dX7_copy_100 (by decide) ?_
              refine lv_istore_n (lv' := [(3, .int (0)), (0, .ref (B + 412)), (1, .int (t)), (2, .int (nI i))]) hx hb dX7_copy_101 rfl hl (by decide) rfl (fun ls hl => ?_)
              have cut_102 : ∀ (fu2 k : Nat), k ≤ sn ∧ sn < k + fu2 → ∀ (Mj : rg_Mem) (H : Heap) (locs : List Loc) (ls : Array Slot), rg_H E B 433 rg_R0 Mj s H locs → lv_has ls 4 [(0, .ref (B + 412)), (1, .int (t)), (2, .int (nI i)), (3, .int (nI k))] → (rm_cq M Mj) → (rm_cw M (rm_nc M) t Mj i) → (Mj.1 429 (36 * (rm_nc M) + i) = rm_so M t i) → (∀ w, w < k → Mj.1 428 (216 * (rm_nc M) + 6 * i + w) = rm_wo M t i w) → (Mj.1 412 33 = rm_go (rg_b (rm_tx M t)) (rg_b (¬ M.1 412 6 = 0 ∧ ¬ 8 ≤ M.1 412 29)) 1) → W p l e ({ frames := 2, cells := 0, slots := 0, locals := 43 } : Room) s m args below meth c H locs 0 0 (MQ below (rg_Wi E B 433 rg_R0 (fun r M1 => (¬ rm_go (rg_b (rm_tx M t)) (rg_b (¬ M.1 412 6 = 0 ∧ ¬ 8 ≤ M.1 412 29)) 1 = 0 ∧ r = 0 ∧ M1 = rg_I M 412 33 (rm_go (rg_b (rm_tx M t)) (rg_b (¬ M.1 412 6 = 0 ∧ ¬ 8 ≤ M.1 412 29)) 1)) ∨ (rm_go (rg_b (rm_tx M t)) (rg_b (¬ M.1 412 6 = 0 ∧ ¬ 8 ≤ M.1 412 29)) 1 = 0 ∧ r = nI (rm_nc M) ∧ ∃ M2 n, rm_lo M t = nI n ∧ n ≤ 36 ∧ rm_cq M M2 ∧ rm_cw M (rm_nc M) t M2 n ∧ M2.1 412 33 = 0 ∧ M1 = rg_I M2 412 29 (nI (rm_nc M + 1))))) args s 0 0 (rg_A B)) (F0 m 102 ls []) := by
                intro fu2
                induction fu2 with
                | zero =>
                  intro k hm2
                  exact absurd hm2 (by omega)
                | succ fu2 ih2 =>
                  intro k hm2 Mj H locs ls hH hl hqj hwj hzj hvj h33j
                  refine lv_iload_n hx hb dX7_copy_102 rfl (lv_at hl 3 rfl) ?_
                  refine lv_aload_n hx hb dX7_copy_103 rfl (lv_at hl 0 rfl) ?_
                  refine lv_iload_n hx hb dX7_copy_104 rfl (lv_at hl 1 rfl) ?_
                  refine lv_iload_n hx hb dX7_copy_105 rfl (lv_at hl 2 rfl) ?_
                  refine rg_callGi C0 hH (As := [.int (t), .int (nI i)]) (rest := [.int (nI k)]) (o := 412) (ci := 7) (k_X7_sizeOf l E B Mj t i (rm_CI_cq hI hqj) (rm_tx_cq hqj hP) (by omega)) (rg_cw 2 C0.1.2.2.2.2 tw_m_X7_193 tw_i_X7_sizeOf tw_v_X7_sizeOf tw_n_X7 tw_c_X7_sizeOf rfl rfl hd_X7_sizeOf ⟨Nat.le_of_ble_eq_true rfl, Nat.le_of_ble_eq_true rfl⟩) rfl (by decide) rfl (by decide) rfl hl.1 rfl (Nat.le_of_ble_eq_true rfl) dX7_copy_106 ⟨Nat.le_of_ble_eq_true rfl, Nat.le_of_ble_eq_true rfl⟩ (fun H locs hH => ?_)
                  refine rg_topi (y := nI sn) (by exact (rm_so_cq hI hqj hP (by omega)).trans hsn) ?_
                  refine lv_icmp_ge (tgt := 145) hx hb dX7_copy_109 (by decide) (fun c_109 => ?_) (fun c_109 => ?_)
                  · refine lv_iinc (v := nI (i + 1)) (lv' := [(2, .int (nI (i + 1))), (0, .ref (B + 412)), (1, .int (t)), (3, .int (nI k))]) hx hb dX7_copy_145 hl (k := 2) rfl (nI_1 _) (by decide) rfl (fun ls hl => ?_)
                    refine lv_goto (tgt := 71) hx hb dX7_copy_148 (by decide) ?_
                    exact ih (i + 1) (by omega) Mj _ _ _ hH (lv_sub hl [1, 2, 0] rfl) (by exact hqj) (by exact rm_cw_s hwj hzj hsn hsn6 (fun w hw => hvj w (by rw [rg_lp_end hm2.1 (by omega) c_109]; exact hw))) (by exact h33j)
                  · have hlt2 := rg_lp_lt hm2.1 (by omega) c_109
                    refine lv_aload_n hx hb dX7_copy_112 rfl (lv_at hl 0 rfl) ?_
                    refine rg_gR C0 hH (o2 := 428) (ci := 7) (k := 26) (o := 412) rfl rfl inT_X7 (by decide) tw_f_X7_61 (by decide) rfl (by decide) rfl dX7_copy_113 ?_
                    refine lv_sipush (v := 216) hx hb dX7_copy_116 (by decide) ?_
                    refine lv_aload_n hx hb dX7_copy_119 rfl (lv_at hl 0 rfl) ?_
                    refine rg_gI C0 hH (ci := 7) (k := 29) (o := 412) rfl inT_X7 (by decide) tw_f_X7_123 (by decide) rfl (by decide) rfl dX7_copy_120 ?_
                    refine rg_topi (y := nI (rm_nc M)) (by exact (hqj.2.1 29 (by omega)).trans hnc) ?_
                    refine lv_imul hx hb dX7_copy_123 ?_
                    refine rg_topi (y := nI (216 * (rm_nc M))) (by exact rm_mul (216) (rm_nc M)) ?_
                    refine lv_bipush (v := 6) hx hb dX7_copy_124 (by decide) ?_
                    refine lv_iload_n hx hb dX7_copy_126 rfl (lv_at hl 2 rfl) ?_
                    refine lv_imul hx hb dX7_copy_127 ?_
                    refine rg_topi (y := nI (6 * i)) (by exact rm_mul (6) (i)) ?_
                    refine lv_iadd hx hb dX7_copy_128 ?_
                    refine rg_topi (y := nI ((216 * (rm_nc M)) + (6 * i))) (by exact nI_add (216 * (rm_nc M)) (6 * i)) ?_
                    refine lv_iload_n hx hb dX7_copy_129 rfl (lv_at hl 3 rfl) ?_
                    refine lv_iadd hx hb dX7_copy_130 ?_
                    refine rg_topi (y := nI (((216 * (rm_nc M)) + (6 * i)) + k)) (by exact nI_add ((216 * (rm_nc M)) + (6 * i)) (k)) ?_
                    refine lv_aload_n hx hb dX7_copy_131 rfl (lv_at hl 0 rfl) ?_
                    refine lv_iload_n hx hb dX7_copy_132 rfl (lv_at hl 1 rfl) ?_
                    refine lv_iload_n hx hb dX7_copy_133 rfl (lv_at hl 2 rfl) ?_
                    refine lv_iload_n hx hb dX7_copy_134 rfl (lv_at hl 3 rfl) ?_
                    refine rg_callGi C0 hH (As := [.int (t), .int (nI i), .int (nI k)]) (rest := [.int (nI (((216 * (rm_nc M)) + (6 * i)) + k)), .ref (B + 428)]) (o := 412) (ci := 7) (k_X7_wordOf l E B Mj t i k (rm_CI_cq hI hqj) (rm_tx_cq hqj hP) (by omega) (by omega)) (rg_cw 3 C0.1.2.2.2.2 tw_m_X7_196 tw_i_X7_wordOf tw_v_X7_wordOf tw_n_X7 tw_c_X7_wordOf rfl rfl hd_X7_wordOf ⟨Nat.le_of_ble_eq_true rfl, Nat.le_of_ble_eq_true rfl⟩) rfl (by decide) rfl (by decide) rfl hl.1 rfl (Nat.le_of_ble_eq_true rfl) dX7_copy_135 ⟨Nat.le_of_ble_eq_true rfl, Nat.le_of_ble_eq_true rfl⟩ (fun H locs hH => ?_)
                    refine rg_topi (y := rm_wo M t i k) (by exact rm_wo_cq hI hqj hP (by omega) (by omega)) ?_
                    refine rg_iastN C0 hH (o := 428) (j := (((216 * (rm_nc M)) + (6 * i)) + k)) (n0 := 1728) (by decide) rfl rfl (by omega) dX7_copy_138 (fun H locs hH => ?_)
                    refine lv_iinc (v := nI (k + 1)) (lv' := [(3, .int (nI (k + 1))), (0, .ref (B + 412)), (1, .int (t)), (2, .int (nI i))]) hx hb dX7_copy_139 hl (k := 3) rfl (nI_1 _) (by decide) rfl (fun ls hl => ?_)
                    refine lv_goto (tgt := 102) hx hb dX7_copy_142 (by decide) ?_
                    exact ih2 (k + 1) (by omega) (rg_I Mj 428 ((((216 * (rm_nc M)) + (6 * i)) + k)) (rm_wo M t i k)) _ _ _ hH (lv_sub hl [1, 2, 3, 0] rfl) (by exact rm_cq_i hqj (Or.inr (Or.inr ⟨rfl, by omega⟩))) (by exact rm_cw_i1 hwj) (by exact hzj) (by exact rm_cw_v hvj) (by exact h33j)
              exact cut_102 (sn + 1) 0 (by omega) (rg_I Mi 429 (((36 * (rm_nc M)) + i)) (rm_so M t i)) _ _ _ hH (lv_sub hl [1, 2, 3, 0] rfl) (by exact rm_cq_i hqi (Or.inr (Or.inl ⟨rfl, by omega⟩))) (by exact rm_cw_i0 hwi) (by exact rm_get) (by intro w hw; exact absurd hw (by omega)) (by exact h33i)
        exact cut_71 (ln + 1) 0 (by omega) (rg_I Ma 430 ((rm_nc M)) (rm_lo M t)) _ _ _ hH (lv_sub hl [1, 2, 0] rfl) (by exact (rm_cq_i hqa (Or.inl ⟨rfl, Nat.le_refl _⟩))) (by exact ⟨rm_get, fun l hl => absurd hl (by omega)⟩) (by exact h33a)
      · refine lv_iconst (v := 0) hx hb dX7_copy_53 (by decide) ?_
        exact rg_retWi C0 hH hr hlocks (by exact Or.inl ⟨rg_b_eq.mp c_50, rfl, rfl⟩) dX7_copy_54
    refine rg_gI C0 hH (ci := 7) (k := 6) (o := 412) rfl inT_X7 (by decide) tw_f_X7_103 (by decide) rfl (by decide) rfl dX7_copy_26 ?_
    refine lv_if_eq (tgt := 45) hx hb dX7_copy_29 (by decide) (fun c_29 => ?_) (fun c_29 => ?_)
    · refine lv_iconst (v := 0) hx hb dX7_copy_45 (by decide) ?_
      refine rg_topi (y := rg_b (¬ M.1 412 6 = 0 ∧ ¬ 8 ≤ M.1 412 29)) (by first | exact rg_b_f (fun q => q.1 c_29) | exact rg_b_f (fun q => q.2 c_38)) ?_
      exact cut_46 _ _ _ hH (lv_sub hl [0, 1] rfl)
    · refine lv_aload_n hx hb dX7_copy_32 rfl (lv_at hl 0 rfl) ?_
      refine rg_gI C0 hH (ci := 7) (k := 29) (o := 412) rfl inT_X7 (by decide) tw_f_X7_123 (by decide) rfl (by decide) rfl dX7_copy_33 ?_
      refine lv_bipush (v := 8) hx hb dX7_copy_36 (by decide) ?_
      refine lv_icmp_ge (tgt := 45) hx hb dX7_copy_38 (by decide) (fun c_38 => ?_) (fun c_38 => ?_)
      · refine lv_iconst (v := 0) hx hb dX7_copy_45 (by decide) ?_
        refine rg_topi (y := rg_b (¬ M.1 412 6 = 0 ∧ ¬ 8 ≤ M.1 412 29)) (by first | exact rg_b_f (fun q => q.1 c_29) | exact rg_b_f (fun q => q.2 c_38)) ?_
        exact cut_46 _ _ _ hH (lv_sub hl [0, 1] rfl)
      · refine lv_iconst (v := 1) hx hb dX7_copy_41 (by decide) ?_
        refine lv_goto (tgt := 46) hx hb dX7_copy_42 (by decide) ?_
        refine rg_topi (y := rg_b (¬ M.1 412 6 = 0 ∧ ¬ 8 ≤ M.1 412 29)) (by exact rg_b_t (⟨c_29, c_38⟩)) ?_
        exact cut_46 _ _ _ hH (lv_sub hl [0, 1] rfl)
  refine lv_iload_n hx hb dX7_copy_1 rfl (lv_at hl 1 rfl) ?_
  refine lv_iconst (v := (-1)) hx hb dX7_copy_2 (by decide) ?_
  refine lv_icmp_eq (tgt := 20) hx hb dX7_copy_3 (by decide) (fun c_3 => ?_) (fun c_3 => ?_)
  · refine lv_iconst (v := 1) hx hb dX7_copy_20 (by decide) ?_
    refine lv_goto (tgt := 25) hx hb dX7_copy_21 (by decide) ?_
    refine rg_topi (y := rg_b (rm_tx M t)) (by exact rg_b_t (by first | exact Or.inl c_3 | exact Or.inr (rg_b_ne.mp c_17))) ?_
    exact cut_25 _ _ _ hH (lv_sub hl [0, 1] rfl)
  · refine lv_iload_n hx hb dX7_copy_6 rfl (lv_at hl 1 rfl) ?_
    refine lv_iconst (v := 0) hx hb dX7_copy_7 (by decide) ?_
    refine lv_aload_n hx hb dX7_copy_8 rfl (lv_at hl 0 rfl) ?_
    refine rg_gI C0 hH (ci := 7) (k := 29) (o := 412) rfl inT_X7 (by decide) tw_f_X7_123 (by decide) rfl (by decide) rfl dX7_copy_9 ?_
    refine lv_iconst (v := 1) hx hb dX7_copy_12 (by decide) ?_
    refine lv_isub hx hb dX7_copy_13 ?_
    refine rg_callSGi C0 hH (As := [.int (t), .int (0), .int ((M.1 412 29) - 1)]) (rest := [.ref (B + 412)]) (k_X7_in l E B M t 0 ((M.1 412 29) - 1)) (rg_cwS 3 C0.1.2.2.2.2 tw_m_X7_79 tw_s_X7_in tw_n_X7 tw_c_X7_in rfl rfl hd_X7_in ⟨Nat.le_of_ble_eq_true rfl, Nat.le_of_ble_eq_true rfl⟩) rfl hl.1 rfl (Nat.le_of_ble_eq_true rfl) dX7_copy_14 ⟨Nat.le_of_ble_eq_true rfl, Nat.le_of_ble_eq_true rfl⟩ (fun H locs hH => ?_)
    refine rg_topi (y := rg_b (rm_ic M t)) (by exact rg_b_cg (rm_in1 (rm_CI_c hI).1 (by have := (rm_CI_c hI).2; omega))) ?_
    refine lv_if_eq (tgt := 24) hx hb dX7_copy_17 (by decide) (fun c_17 => ?_) (fun c_17 => ?_)
    · refine lv_iconst (v := 0) hx hb dX7_copy_24 (by decide) ?_
      refine rg_topi (y := rg_b (rm_tx M t)) (by first | exact rg_b_f (fun q => q.elim c_3 (rg_b_eq.mp c_17))) ?_
      exact cut_25 _ _ _ hH (lv_sub hl [0, 1] rfl)
    · refine lv_iconst (v := 1) hx hb dX7_copy_20 (by decide) ?_
      refine lv_goto (tgt := 25) hx hb dX7_copy_21 (by decide) ?_
      refine rg_topi (y := rg_b (rm_tx M t)) (by exact rg_b_t (by first | exact Or.inl c_3 | exact Or.inr (rg_b_ne.mp c_17))) ?_
      exact cut_25 _ _ _ hH (lv_sub hl [0, 1] rfl)

set_option maxHeartbeats 4000000 in
set_option maxRecDepth 100000 in
/-- chances -/
theorem k_X7_chances (l : Launch) (E : rg_Env) (B : Nat) (M : rg_Mem) (z : Int32) (hI : rm_CI M) : Met l yX7_chances (rg_w yX7_chances cX7_chances 5 (some (FieldType.int))) ({ frames := 4, cells := 0, slots := 0, locals := 95 } : Room) (va_Pc [.ref (B + 412), .int (z)] (rg_Pre E B 433 rg_R0 M)) (rg_Wi E B 433 rg_R0 (fun r M1 => (¬ rm_go (rg_b (rm_ip M z)) 1 1 = 0 ∧ r = 0 ∧ M1 = rg_I M 412 33 (rm_go (rg_b (rm_ip M z)) 1 1)) ∨ (rm_go (rg_b (rm_ip M z)) 1 1 = 0 ∧ r = (if M.1 412 6 = 0 ∨ rm_fin M then 0 else rm_h1 M z (rm_nw M)) ∧ rm_wk (M) M1 ∧ M1.1 412 33 = 0))) 0 0 (rg_A B) := by
  refine rg_ofW (by decide +kernel) rfl (Nat.le_of_ble_eq_true rfl) ?_
  intro p e s m args below meth c ls C0 hH hl hr hlocks hnm
  replace hl : lv_has ls 5 [(0, .ref (B + 412)), (1, .int (z))] := hl
  have hx := C0.1.1
  have hb := C0.1.2.1
  generalize hH9 : s.heap = H at hH ⊢
  generalize hL9 : ([] : List Loc) = locs at hH ⊢
  clear hH9 hL9
  refine lv_aload_n hx hb dX7_chances_0 rfl (lv_at hl 0 rfl) ?_
  refine lv_aload_n hx hb dX7_chances_1 rfl (lv_at hl 0 rfl) ?_
  refine lv_iload_n hx hb dX7_chances_2 rfl (lv_at hl 1 rfl) ?_
  refine rg_callGi C0 hH (As := [.int (z)]) (rest := [.ref (B + 412)]) (o := 412) (ci := 7) (k_X7_isPoet l E B M z (by exact hI)) (rg_cw 1 C0.1.2.2.2.2 tw_m_X7_176 tw_i_X7_isPoet tw_v_X7_isPoet tw_n_X7 tw_c_X7_isPoet rfl rfl hd_X7_isPoet ⟨Nat.le_of_ble_eq_true rfl, Nat.le_of_ble_eq_true rfl⟩) rfl (by decide) rfl (by decide) rfl hl.1 rfl (Nat.le_of_ble_eq_true rfl) dX7_chances_3 ⟨Nat.le_of_ble_eq_true rfl, Nat.le_of_ble_eq_true rfl⟩ (fun H locs hH => ?_)
  refine lv_iconst (v := 1) hx hb dX7_chances_6 (by decide) ?_
  refine lv_iconst (v := 1) hx hb dX7_chances_7 (by decide) ?_
  refine rg_callGi C0 hH (As := [.int (rg_b (rm_ip M z)), .int (1), .int (1)]) (rest := []) (o := 412) (ci := 7) (k_X7_goes l E B M (rg_b (rm_ip M z)) 1 1) (rg_cw 3 C0.1.2.2.2.2 tw_m_X7_92 tw_i_X7_goes tw_v_X7_goes tw_n_X7 tw_c_X7_goes rfl rfl hd_X7_goes ⟨Nat.le_of_ble_eq_true rfl, Nat.le_of_ble_eq_true rfl⟩) rfl (by decide) rfl (by decide) rfl hl.1 rfl (Nat.le_of_ble_eq_true rfl) dX7_chances_8 ⟨Nat.le_of_ble_eq_true rfl, Nat.le_of_ble_eq_true rfl⟩ (fun H locs hH => ?_)
  refine lv_if_eq (tgt := 28) hx hb dX7_chances_11 (by decide) (fun c_11 => ?_) (fun c_11 => ?_)
  · refine lv_iconst (v := 0) hx hb dX7_chances_28 (by decide) ?_
    exact rg_retWi C0 hH hr hlocks (by exact Or.inl ⟨rg_b_eq.mp c_11, rfl, rfl⟩) dX7_chances_29
  · refine lv_aload_n hx hb dX7_chances_14 rfl (lv_at hl 0 rfl) ?_
    refine rg_gI C0 hH (ci := 7) (k := 6) (o := 412) rfl inT_X7 (by decide) tw_f_X7_103 (by decide) rfl (by decide) rfl dX7_chances_15 ?_
    refine rg_topi (y := M.1 412 6) (by exact rfl) ?_
    refine lv_if_eq (tgt := 28) hx hb dX7_chances_18 (by decide) (fun c_18 => ?_) (fun c_18 => ?_)
    · refine lv_iconst (v := 0) hx hb dX7_chances_28 (by decide) ?_
      exact rg_retWi C0 hH hr hlocks (by exact Or.inr ⟨rg_b_ne.mp c_11, by rw [if_pos (Or.inl c_18)], rm_wk_f (by omega), rm_get.trans (rg_b_ne.mp c_11)⟩) dX7_chances_29
    · refine lv_aload_n hx hb dX7_chances_21 rfl (lv_at hl 0 rfl) ?_
      refine rg_callGi C0 hH (As := []) (rest := []) (o := 412) (ci := 7) (k_X7_isFinished l E B (rg_I M 412 33 (rm_go (rg_b (rm_ip M z)) 1 1))) (rg_cw 0 C0.1.2.2.2.2 tw_m_X7_107 tw_i_X7_isFinished tw_v_X7_isFinished tw_n_X7 tw_c_X7_isFinished rfl rfl hd_X7_isFinished ⟨Nat.le_of_ble_eq_true rfl, Nat.le_of_ble_eq_true rfl⟩) rfl (by decide) rfl (by decide) rfl hl.1 rfl (Nat.le_of_ble_eq_true rfl) dX7_chances_22 ⟨Nat.le_of_ble_eq_true rfl, Nat.le_of_ble_eq_true rfl⟩ (fun H locs hH => ?_)
      refine rg_topi (y := rg_b (rm_fin M)) (by exact rfl) ?_
      refine lv_if_eq (tgt := 30) hx hb dX7_chances_25 (by decide) (fun c_25 => ?_) (fun c_25 => ?_)
      · have hnf := rm_nfin hI (rg_b_eq.mp c_25)
        have hw40 := (rm_CI_w hI).2
        refine lv_iconst (v := 0) hx hb dX7_chances_30 (by decide) ?_
        refine lv_istore_n (lv' := [(2, .int (0)), (0, .ref (B + 412)), (1, .int (z))]) hx hb dX7_chances_31 rfl hl (by decide) rfl (fun ls hl => ?_)
        refine lv_iconst (v := 0) hx hb dX7_chances_32 (by decide) ?_
        refine lv_istore_n (lv' := [(3, .int (0)), (2, .int (0)), (0, .ref (B + 412)), (1, .int (z))]) hx hb dX7_chances_33 rfl hl (by decide) rfl (fun ls hl => ?_)
        have cut_34 : ∀ (fu i : Nat), i ≤ rm_nw M ∧ rm_nw M < i + fu → ∀ (Mi : rg_Mem) (H : Heap) (locs : List Loc) (ls : Array Slot), rg_H E B 433 rg_R0 Mi s H locs → lv_has ls 5 [(0, .ref (B + 412)), (1, .int (z)), (2, .int (rm_h1 M z i)), (3, .int (nI i))] → (rm_wk M Mi) → (Mi.1 412 33 = rm_go (rg_b (rm_ip M z)) 1 1) → W p l e ({ frames := 4, cells := 0, slots := 0, locals := 95 } : Room) s m args below meth c H locs 0 0 (MQ below (rg_Wi E B 433 rg_R0 (fun r M1 => (¬ rm_go (rg_b (rm_ip M z)) 1 1 = 0 ∧ r = 0 ∧ M1 = rg_I M 412 33 (rm_go (rg_b (rm_ip M z)) 1 1)) ∨ (rm_go (rg_b (rm_ip M z)) 1 1 = 0 ∧ r = (if M.1 412 6 = 0 ∨ rm_fin M then 0 else rm_h1 M z (rm_nw M)) ∧ rm_wk (M) M1 ∧ M1.1 412 33 = 0))) args s 0 0 (rg_A B)) (F0 m 34 ls []) := by
          intro fu
          induction fu with
          | zero =>
            intro i hm
            exact absurd hm (by omega)
          | succ fu ih =>
            intro i hm Mi H locs ls hH hl hwi h33i
            refine lv_iload_n hx hb dX7_chances_34 rfl (lv_at hl 3 rfl) ?_
            refine lv_aload_n hx hb dX7_chances_35 rfl (lv_at hl 0 rfl) ?_
            refine rg_gI C0 hH (ci := 7) (k := 4) (o := 412) rfl inT_X7 (by decide) tw_f_X7_76 (by decide) rfl (by decide) rfl dX7_chances_36 ?_
            refine rg_topi (y := nI (rm_nw M)) (by exact (hwi.2 4 (by omega)).trans (rm_CI_w hI).1) ?_
            refine lv_icmp_ge (tgt := 131) hx hb dX7_chances_39 (by decide) (fun c_39 => ?_) (fun c_39 => ?_)
            · refine lv_iload_n hx hb dX7_chances_131 rfl (lv_at hl 2 rfl) ?_
              exact rg_retWi C0 hH hr hlocks (by exact Or.inr ⟨rg_b_ne.mp c_11, by rw [if_neg (fun q => q.elim c_18 (rg_b_eq.mp c_25)), rg_lp_end hm.1 (by omega) c_39], hwi, h33i.trans (rg_b_ne.mp c_11)⟩) dX7_chances_132
            · have hlt := rg_lp_lt hm.1 (by omega) c_39
              refine lv_aload_n hx hb dX7_chances_42 rfl (lv_at hl 0 rfl) ?_
              refine rg_gR C0 hH (o2 := 431) (ci := 7) (k := 30) (o := 412) rfl rfl inT_X7 (by decide) tw_f_X7_70 (by decide) rfl (by decide) rfl dX7_chances_43 ?_
              refine lv_iconst (v := 0) hx hb dX7_chances_46 (by decide) ?_
              refine rg_topi (y := nI 0) (by exact rfl) ?_
              refine lv_iload_n hx hb dX7_chances_47 rfl (lv_at hl 3 rfl) ?_
              refine rg_iastN C0 hH (o := 431) (j := 0) (n0 := 6) (by decide) rfl rfl (by omega) dX7_chances_48 (fun H locs hH => ?_)
              refine lv_aload_n hx hb dX7_chances_49 rfl (lv_at hl 0 rfl) ?_
              refine lv_iconst (v := 1) hx hb dX7_chances_50 (by decide) ?_
              refine rg_pI C0 hH (v := 1) tyX7 tyX7_ok nmX7 (ci := 7) (k := 31) (o := 412) rfl inT_X7 (by decide) tw_f_X7_133 (by decide) rfl (by decide) rfl rfl rfl rfl dX7_chances_51 (fun H locs hH => ?_)
              obtain ⟨Ma, h_Ma⟩ : ∃ X, X = rg_I (rg_I Mi 431 0 (nI i)) 412 31 1 := ⟨_, rfl⟩
              rw [← h_Ma] at hH
              have hwa : rm_wk M Ma := by rw [h_Ma]; exact rm_wk_tr (rm_wk_tr hwi rm_wk_r) (rm_wk_f (by omega))
              have h31a : Ma.1 412 31 = nI 1 := by rw [h_Ma]; exact rm_get
              have h33a : Ma.1 412 33 = rm_go (rg_b (rm_ip M z)) 1 1 := by rw [h_Ma]; exact h33i
              have h0a : Ma.1 431 0 = nI i := by rw [h_Ma, rm_row]; exact rm_get
              have hra : ∀ k, k < 1 → Ma.1 431 k = (fun k => if k = 0 then nI i else -1) k := by
                intro k hk
                rw [show k = 0 by omega]
                exact h0a
              have hia : ∀ k, k < 1 → rm_iw M ((fun k => if k = 0 then nI i else -1) k) := by
                intro k hk
                rw [show k = 0 by omega]
                exact rm_iw_k hI hlt
              refine lv_iload_n hx hb dX7_chances_54 rfl (lv_at hl 2 rfl) ?_
              refine lv_aload_n hx hb dX7_chances_55 rfl (lv_at hl 0 rfl) ?_
              refine lv_aload_n hx hb dX7_chances_56 rfl (lv_at hl 0 rfl) ?_
              refine rg_gI C0 hH (ci := 7) (k := 11) (o := 412) rfl inT_X7 (by decide) tw_f_X7_86 (by decide) rfl (by decide) rfl dX7_chances_57 ?_
              refine rg_topi (y := nI (rm_nl M)) (by exact (hwa.2 11 (by omega)).trans (rm_CI_l hI).1) ?_
              refine lv_iload_n hx hb dX7_chances_60 rfl (lv_at hl 1 rfl) ?_
              refine rg_callRi C0 hH (As := [.int (nI (rm_nl M)), .int (z)]) (rest := [.int (rm_h1 M z i)]) (o := 412) (ci := 7) (k_X7_faultOf l E B Ma 1 (rm_nl M) z (rm_CI_eq hI (rm_wk_eq hwa)) h31a (by omega) (rm_hrw hwa hra hia) (by rw [rm_nl_e (rm_wk_eq hwa)]; exact (Nat.le_refl _)) hnf.2) (rg_cw 2 C0.1.2.2.2.2 tw_m_X7_179 tw_i_X7_faultOf tw_v_X7_faultOf tw_n_X7 tw_c_X7_faultOf rfl rfl hd_X7_faultOf ⟨Nat.le_of_ble_eq_true rfl, Nat.le_of_ble_eq_true rfl⟩) rfl (by decide) rfl (by decide) rfl hl.1 rfl (Nat.le_of_ble_eq_true rfl) dX7_chances_61 ⟨Nat.le_of_ble_eq_true rfl, Nat.le_of_ble_eq_true rfl⟩ (fun r_61 H locs e_61 hH => ?_)
              have cut_72 : ∀  (H : Heap) (locs : List Loc) (ls : Array Slot), rg_H E B 433 rg_R0 (rg_I Ma 412 32 (rm_fo Ma (Ma.1 431) 1 (rm_nl M) z).2) s H locs → lv_has ls 5 [(0, .ref (B + 412)), (1, .int (z)), (2, .int (rm_h1 M z i)), (3, .int (nI i))] → W p l e ({ frames := 4, cells := 0, slots := 0, locals := 95 } : Room) s m args below meth c H locs 0 0 (MQ below (rg_Wi E B 433 rg_R0 (fun r M1 => (¬ rm_go (rg_b (rm_ip M z)) 1 1 = 0 ∧ r = 0 ∧ M1 = rg_I M 412 33 (rm_go (rg_b (rm_ip M z)) 1 1)) ∨ (rm_go (rg_b (rm_ip M z)) 1 1 = 0 ∧ r = (if M.1 412 6 = 0 ∨ rm_fin M then 0 else rm_h1 M z (rm_nw M)) ∧ rm_wk (M) M1 ∧ M1.1 412 33 = 0))) args s 0 0 (rg_A B)) (F0 m 72 ls [.int (rg_b ((rm_fo M (fun k => if k = 0 then nI i else -1) 1 (rm_nl M) z).1 = 0)), .int (rm_h1 M z i)]) := by
                intro  H locs ls hH hl 
                refine lv_iadd hx hb dX7_chances_72 ?_
                refine rg_topi (y := (rm_h1 M z i + rm_hh M z (fun k => if k = 0 then nI i else -1) 1)) (by exact rfl) ?_
                refine lv_istore_n (lv' := [(2, .int ((rm_h1 M z i + rm_hh M z (fun k => if k = 0 then nI i else -1) 1))), (0, .ref (B + 412)), (1, .int (z)), (3, .int (nI i))]) hx hb dX7_chances_73 rfl hl (by decide) rfl (fun ls hl => ?_)
                refine lv_aload_n hx hb dX7_chances_74 rfl (lv_at hl 1 rfl) ?_
                refine lv_iconst (v := 2) hx hb dX7_chances_75 (by decide) ?_
                refine rg_pI C0 hH (v := 2) tyX7 tyX7_ok nmX7 (ci := 7) (k := 31) (o := 412) rfl inT_X7 (by decide) tw_f_X7_133 (by decide) rfl (by decide) rfl rfl rfl rfl dX7_chances_76 (fun H locs hH => ?_)
                refine lv_iconst (v := 0) hx hb dX7_chances_79 (by decide) ?_
                refine lv_istore (lv' := [(4, .int (0)), (2, .int ((rm_h1 M z i + rm_hh M z (fun k => if k = 0 then nI i else -1) 1))), (0, .ref (B + 412)), (1, .int (z)), (3, .int (nI i))]) hx hb dX7_chances_80 hl (by decide) rfl (fun ls hl => ?_)
                have cut_82 : ∀ (fu2 i2 : Nat), i2 ≤ rm_nw M ∧ rm_nw M < i2 + fu2 → ∀ (Mj : rg_Mem) (H : Heap) (locs : List Loc) (ls : Array Slot), rg_H E B 433 rg_R0 Mj s H locs → lv_has ls 5 [(0, .ref (B + 412)), (1, .int (z)), (2, .int (rm_h2 M z i (rm_h1 M z i + rm_hh M z (fun k => if k = 0 then nI i else -1) 1) i2)), (3, .int (nI i)), (4, .int (nI i2))] → (rm_wk M Mj) → (Mj.1 412 33 = rm_go (rg_b (rm_ip M z)) 1 1) → (Mj.1 412 31 = nI 2) → (Mj.1 431 0 = nI i) → W p l e ({ frames := 4, cells := 0, slots := 0, locals := 95 } : Room) s m args below meth c H locs 0 0 (MQ below (rg_Wi E B 433 rg_R0 (fun r M1 => (¬ rm_go (rg_b (rm_ip M z)) 1 1 = 0 ∧ r = 0 ∧ M1 = rg_I M 412 33 (rm_go (rg_b (rm_ip M z)) 1 1)) ∨ (rm_go (rg_b (rm_ip M z)) 1 1 = 0 ∧ r = (if M.1 412 6 = 0 ∨ rm_fin M then 0 else rm_h1 M z (rm_nw M)) ∧ rm_wk (M) M1 ∧ M1.1 412 33 = 0))) args s 0 0 (rg_A B)) (F0 m 82 ls []) := by
                  intro fu2
                  induction fu2 with
                  | zero =>
                    intro i2 hm2
                    exact absurd hm2 (by omega)
                  | succ fu2 ih2 =>
                    intro i2 hm2 Mj H locs ls hH hl hwj h33j h31j h0j
                    refine lv_iload hx hb dX7_chances_82 (lv_at hl 4 rfl) ?_
                    refine lv_aload_n hx hb dX7_chances_84 rfl (lv_at hl 0 rfl) ?_
                    refine rg_gI C0 hH (ci := 7) (k := 4) (o := 412) rfl inT_X7 (by decide) tw_f_X7_76 (by decide) rfl (by decide) rfl dX7_chances_85 ?_
                    refine rg_topi (y := nI (rm_nw M)) (by exact (hwj.2 4 (by omega)).trans (rm_CI_w hI).1) ?_
                    refine lv_icmp_ge (tgt := 125) hx hb dX7_chances_88 (by decide) (fun c_88 => ?_) (fun c_88 => ?_)
                    · replace hl : lv_has ls 5 [(0, .ref (B + 412)), (1, .int (z)), (2, .int (rm_h1 M z (i + 1))), (3, .int (nI i)), (4, .int (nI i2))] := by have q2 := rg_lp_end hm2.1 (by omega) c_88; subst q2; exact hl
                      refine lv_iinc (v := nI (i + 1)) (lv' := [(3, .int (nI (i + 1))), (0, .ref (B + 412)), (1, .int (z)), (2, .int (rm_h1 M z (i + 1))), (4, .int (nI i2))]) hx hb dX7_chances_125 hl (k := 3) rfl (nI_1 _) (by decide) rfl (fun ls hl => ?_)
                      refine lv_goto (tgt := 34) hx hb dX7_chances_128 (by decide) ?_
                      exact ih (i + 1) (by omega) Mj _ _ _ hH (lv_sub hl [1, 2, 3, 0] rfl) (by exact hwj) (by exact h33j)
                    · have hlt2 := rg_lp_lt hm2.1 (by omega) c_88
                      refine lv_aload_n hx hb dX7_chances_91 rfl (lv_at hl 0 rfl) ?_
                      refine rg_gR C0 hH (o2 := 431) (ci := 7) (k := 30) (o := 412) rfl rfl inT_X7 (by decide) tw_f_X7_70 (by decide) rfl (by decide) rfl dX7_chances_92 ?_
                      refine lv_iconst (v := 1) hx hb dX7_chances_95 (by decide) ?_
                      refine rg_topi (y := nI 1) (by exact rfl) ?_
                      refine lv_iload hx hb dX7_chances_96 (lv_at hl 4 rfl) ?_
                      refine rg_iastN C0 hH (o := 431) (j := 1) (n0 := 6) (by decide) rfl rfl (by omega) dX7_chances_98 (fun H locs hH => ?_)
                      obtain ⟨Mb, h_Mb⟩ : ∃ X, X = rg_I Mj 431 1 (nI i2) := ⟨_, rfl⟩
                      rw [← h_Mb] at hH
                      have hwb : rm_wk M Mb := by rw [h_Mb]; exact rm_wk_tr hwj rm_wk_r
                      have h31b : Mb.1 412 31 = nI 2 := by rw [h_Mb]; exact h31j
                      have h33b : Mb.1 412 33 = rm_go (rg_b (rm_ip M z)) 1 1 := by rw [h_Mb]; exact h33j
                      have h0b : Mb.1 431 0 = nI i := by rw [h_Mb]; exact h0j
                      have hrb : ∀ k, k < 2 → Mb.1 431 k = (fun k => if k = 0 then nI i else nI i2) k := by
                        intro k hk
                        rcases (show k = 0 ∨ k = 1 by omega) with rfl | rfl
                        · exact h0b
                        · rw [h_Mb]; exact rm_get
                      have hib : ∀ k, k < 2 → rm_iw M ((fun k => if k = 0 then nI i else nI i2) k) := by
                        intro k hk
                        rcases (show k = 0 ∨ k = 1 by omega) with rfl | rfl
                        · exact rm_iw_k hI hlt
                        · exact rm_iw_k hI hlt2
                      refine lv_iload_n hx hb dX7_chances_99 rfl (lv_at hl 2 rfl) ?_
                      refine lv_aload_n hx hb dX7_chances_100 rfl (lv_at hl 0 rfl) ?_
                      refine lv_aload_n hx hb dX7_chances_101 rfl (lv_at hl 0 rfl) ?_
                      refine rg_gI C0 hH (ci := 7) (k := 11) (o := 412) rfl inT_X7 (by decide) tw_f_X7_86 (by decide) rfl (by decide) rfl dX7_chances_102 ?_
                      refine rg_topi (y := nI (rm_nl M)) (by exact (hwb.2 11 (by omega)).trans (rm_CI_l hI).1) ?_
                      refine lv_iload_n hx hb dX7_chances_105 rfl (lv_at hl 1 rfl) ?_
                      refine rg_callRi C0 hH (As := [.int (nI (rm_nl M)), .int (z)]) (rest := [.int (rm_h2 M z i (rm_h1 M z i + rm_hh M z (fun k => if k = 0 then nI i else -1) 1) i2)]) (o := 412) (ci := 7) (k_X7_faultOf l E B Mb 2 (rm_nl M) z (rm_CI_eq hI (rm_wk_eq hwb)) h31b (by omega) (rm_hrw hwb hrb hib) (by rw [rm_nl_e (rm_wk_eq hwb)]; exact (Nat.le_refl _)) hnf.2) (rg_cw 2 C0.1.2.2.2.2 tw_m_X7_179 tw_i_X7_faultOf tw_v_X7_faultOf tw_n_X7 tw_c_X7_faultOf rfl rfl hd_X7_faultOf ⟨Nat.le_of_ble_eq_true rfl, Nat.le_of_ble_eq_true rfl⟩) rfl (by decide) rfl (by decide) rfl hl.1 rfl (Nat.le_of_ble_eq_true rfl) dX7_chances_106 ⟨Nat.le_of_ble_eq_true rfl, Nat.le_of_ble_eq_true rfl⟩ (fun r_106 H locs e_106 hH => ?_)
                      have cut_117 : ∀  (H : Heap) (locs : List Loc) (ls : Array Slot), rg_H E B 433 rg_R0 (rg_I Mb 412 32 (rm_fo Mb (Mb.1 431) 2 (rm_nl M) z).2) s H locs → lv_has ls 5 [(0, .ref (B + 412)), (1, .int (z)), (2, .int (rm_h2 M z i (rm_h1 M z i + rm_hh M z (fun k => if k = 0 then nI i else -1) 1) i2)), (3, .int (nI i)), (4, .int (nI i2))] → W p l e ({ frames := 4, cells := 0, slots := 0, locals := 95 } : Room) s m args below meth c H locs 0 0 (MQ below (rg_Wi E B 433 rg_R0 (fun r M1 => (¬ rm_go (rg_b (rm_ip M z)) 1 1 = 0 ∧ r = 0 ∧ M1 = rg_I M 412 33 (rm_go (rg_b (rm_ip M z)) 1 1)) ∨ (rm_go (rg_b (rm_ip M z)) 1 1 = 0 ∧ r = (if M.1 412 6 = 0 ∨ rm_fin M then 0 else rm_h1 M z (rm_nw M)) ∧ rm_wk (M) M1 ∧ M1.1 412 33 = 0))) args s 0 0 (rg_A B)) (F0 m 117 ls [.int (rg_b ((rm_fo M (fun k => if k = 0 then nI i else nI i2) 2 (rm_nl M) z).1 = 0)), .int (rm_h2 M z i (rm_h1 M z i + rm_hh M z (fun k => if k = 0 then nI i else -1) 1) i2)]) := by
                        intro  H locs ls hH hl 
                        refine lv_iadd hx hb dX7_chances_117 ?_
                        refine rg_topi (y := rm_h2 M z i (rm_h1 M z i + rm_hh M z (fun k => if k = 0 then nI i else -1) 1) (i2 + 1)) (by exact rfl) ?_
                        refine lv_istore_n (lv' := [(2, .int (rm_h2 M z i (rm_h1 M z i + rm_hh M z (fun k => if k = 0 then nI i else -1) 1) (i2 + 1))), (0, .ref (B + 412)), (1, .int (z)), (3, .int (nI i)), (4, .int (nI i2))]) hx hb dX7_chances_118 rfl hl (by decide) rfl (fun ls hl => ?_)
                        refine lv_iinc (v := nI (i2 + 1)) (lv' := [(4, .int (nI (i2 + 1))), (2, .int (rm_h2 M z i (rm_h1 M z i + rm_hh M z (fun k => if k = 0 then nI i else -1) 1) (i2 + 1))), (0, .ref (B + 412)), (1, .int (z)), (3, .int (nI i))]) hx hb dX7_chances_119 hl (k := 4) rfl (nI_1 _) (by decide) rfl (fun ls hl => ?_)
                        refine lv_goto (tgt := 82) hx hb dX7_chances_122 (by decide) ?_
                        exact ih2 (i2 + 1) (by omega) (rg_I Mb 412 32 (rm_fo Mb (Mb.1 431) 2 (rm_nl M) z).2) _ _ _ hH (lv_sub hl [2, 3, 1, 4, 0] rfl) (by exact rm_wk_tr hwb (rm_wk_f (by omega))) (by exact h33b) (by exact h31b) (by exact h0b)
                      refine rg_topi (y := (rm_fo M (fun k => if k = 0 then nI i else nI i2) 2 (rm_nl M) z).1) (by rw [e_106, rm_fo_k hwb hrb]) ?_
                      refine lv_if_ne (tgt := 116) hx hb dX7_chances_109 (by decide) (fun c_109 => ?_) (fun c_109 => ?_)
                      · refine lv_iconst (v := 0) hx hb dX7_chances_116 (by decide) ?_
                        refine rg_topi (y := rg_b ((rm_fo M (fun k => if k = 0 then nI i else nI i2) 2 (rm_nl M) z).1 = 0)) (by first | exact rg_b_f (c_109)) ?_
                        exact cut_117 _ _ _ hH (lv_sub hl [0, 1, 2, 3, 4] rfl)
                      · refine lv_iconst (v := 1) hx hb dX7_chances_112 (by decide) ?_
                        refine lv_goto (tgt := 117) hx hb dX7_chances_113 (by decide) ?_
                        refine rg_topi (y := rg_b ((rm_fo M (fun k => if k = 0 then nI i else nI i2) 2 (rm_nl M) z).1 = 0)) (by exact rg_b_t (c_109)) ?_
                        exact cut_117 _ _ _ hH (lv_sub hl [0, 1, 2, 3, 4] rfl)
                exact cut_82 (rm_nw M + 1) 0 (by omega) (rg_I (rg_I Ma 412 32 (rm_fo Ma (Ma.1 431) 1 (rm_nl M) z).2) 412 31 2) _ _ _ hH (lv_sub hl [2, 3, 1, 4, 0] rfl) (by exact rm_wk_tr (rm_wk_tr hwa (rm_wk_f (by omega))) (rm_wk_f (by omega))) (by exact h33a) (by exact rm_get) (by exact h0a)
              refine rg_topi (y := (rm_fo M (fun k => if k = 0 then nI i else -1) 1 (rm_nl M) z).1) (by rw [e_61, rm_fo_k hwa hra]) ?_
              refine lv_if_ne (tgt := 71) hx hb dX7_chances_64 (by decide) (fun c_64 => ?_) (fun c_64 => ?_)
              · refine lv_iconst (v := 0) hx hb dX7_chances_71 (by decide) ?_
                refine rg_topi (y := rg_b ((rm_fo M (fun k => if k = 0 then nI i else -1) 1 (rm_nl M) z).1 = 0)) (by first | exact rg_b_f (c_64)) ?_
                exact cut_72 _ _ _ hH (lv_sub hl [0, 1, 2, 3] rfl)
              · refine lv_iconst (v := 1) hx hb dX7_chances_67 (by decide) ?_
                refine lv_goto (tgt := 72) hx hb dX7_chances_68 (by decide) ?_
                refine rg_topi (y := rg_b ((rm_fo M (fun k => if k = 0 then nI i else -1) 1 (rm_nl M) z).1 = 0)) (by exact rg_b_t (c_64)) ?_
                exact cut_72 _ _ _ hH (lv_sub hl [0, 1, 2, 3] rfl)
        exact cut_34 (rm_nw M + 1) 0 (by omega) ((rg_I M 412 33 (rm_go (rg_b (rm_ip M z)) 1 1))) _ _ _ hH (lv_sub hl [2, 3, 1, 0] rfl) (by exact rm_wk_f (by omega)) (by exact rm_get)
      · refine lv_iconst (v := 0) hx hb dX7_chances_28 (by decide) ?_
        exact rg_retWi C0 hH hr hlocks (by exact Or.inr ⟨rg_b_ne.mp c_11, by rw [if_pos (Or.inr (rg_b_ne.mp c_25))], rm_wk_f (by omega), rm_get.trans (rg_b_ne.mp c_11)⟩) dX7_chances_29
