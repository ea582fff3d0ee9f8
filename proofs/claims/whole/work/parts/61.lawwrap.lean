set_option maxHeartbeats 4000000 in
set_option maxRecDepth 100000 in
/-- wrapper word -/
theorem k_L_word (l : Launch) (hst : l.stackTraces = false) (E : rg_Env) (B : Nat) (M : rg_Mem) (a : Int32) (b : Int32) (d : Int32) (hI : rg_CI M) : Met l yL_word (rg_ww yL_word cL_word 6 (some (FieldType.int)) [(0, 12, 15, 13), (0, 12, 19, 15)]) ({ frames := 8, cells := 4, slots := 24, locals := 136 } : Room) (va_Pc [.ref (B + 0), .int (a), .int (b), .int (d), .ref (B + 432)] (rg_Pre E B 433 rg_R0 M)) (rg_Wi E B 433 rg_R0 (fun k M1 => (k = 0 ∧ ∃ r M2, ((fun r => ((rg_in a 1 12 ∧ rg_in b (-1) 3 ∧ rg_in d 0 1023) ∧ ¬ 40 ≤ M.1 1 4) ∧ r = M.1 1 4) r ∧ M2 = rg_I (rg_I (rg_I (rg_I M 2 (rg_nw M) a) 3 (rg_nw M) b) 4 (rg_nw M) d) 1 4 (nI (rg_nw M + 1))) ∧ M1 = rg_J M2 432 0 r.toInt64) ∨ ((fun X => (¬ (rg_in a 1 12 ∧ rg_in b (-1) 3 ∧ rg_in d 0 1023) ∧ X = "java/lang/IllegalArgumentException") ∨ ((rg_in a 1 12 ∧ rg_in b (-1) 3 ∧ rg_in d 0 1023) ∧ ¬ (¬ 40 ≤ M.1 1 4) ∧ X = "java/lang/IllegalStateException")) "java/lang/IllegalArgumentException" ∧ k = 1 ∧ M1 = M) ∨ ((fun X => (¬ (rg_in a 1 12 ∧ rg_in b (-1) 3 ∧ rg_in d 0 1023) ∧ X = "java/lang/IllegalArgumentException") ∨ ((rg_in a 1 12 ∧ rg_in b (-1) 3 ∧ rg_in d 0 1023) ∧ ¬ (¬ 40 ≤ M.1 1 4) ∧ X = "java/lang/IllegalStateException")) "java/lang/IllegalStateException" ∧ k = 2 ∧ M1 = M))) 4 24 (rg_A B) := by
  refine rg_wofW (by decide +kernel) rfl (Nat.le_of_ble_eq_true rfl) ?_
  intro p e s m args below meth c ls hex C0 hH hl hr hlocks
  replace hl : lv_has ls 6 [(0, .ref (B + 0)), (1, .int (a)), (2, .int (b)), (3, .int (d)), (4, .ref (B + 432))] := hl
  have hx := C0.1.1
  have hb := C0.1.2.1
  generalize hH9 : s.heap = H at hH ⊢
  generalize hL9 : ([] : List Loc) = locs at hH ⊢
  clear hH9 hL9
  refine lv_aload hx hb dL_word_0 (lv_at hl 4 rfl) ?_
  refine lv_iconst (v := 0) hx hb dL_word_2 (by decide) ?_
  refine lv_aload_n hx hb dL_word_3 rfl (lv_at hl 0 rfl) ?_
  refine lv_iload_n hx hb dL_word_4 rfl (lv_at hl 1 rfl) ?_
  refine lv_iload_n hx hb dL_word_5 rfl (lv_at hl 2 rfl) ?_
  refine lv_iload_n hx hb dL_word_6 rfl (lv_at hl 3 rfl) ?_
  refine rg_wcallRi C0 hH (As := [.int (a), .int (b), .int (d)]) (rest := [.int (0), .ref (B + 432)]) (o := 0) (ci := 6) (k_X6_word l hst E B M a b d hI) (rg_cw 3 C0.1.2.2.2.2 tw_m_L_7 tw_i_X6_word tw_v_X6_word tw_n_X6 tw_c_X6_word rfl rfl hd_X6_word ⟨Nat.le_of_ble_eq_true rfl, Nat.le_of_ble_eq_true rfl⟩) rfl (by decide) rfl (by decide) rfl hl.1 rfl (Nat.le_of_ble_eq_true rfl) dL_word_7 ⟨Nat.le_of_ble_eq_true rfl, Nat.le_of_ble_eq_true rfl⟩ (fun X ce q9 H locs hxp hH hcell hv9 hcl => ?_) (fun r9  H locs e9 hH => ?_)
  · have hxp0 := hxp
    rcases hxp with ⟨hx1, rfl⟩ | ⟨hx1, hx2, rfl⟩
    · refine rg_catch C0 [] ⟨0, 12, 15, 13⟩ [⟨0, 12, 19, 15⟩] (by rw [hex]; rfl) (fun z hz => by cases hz) (by decide) (by decide) (by decide) tw_k_L_13 hcell hv9 hcl ?_
      refine lv_astore (lv' := [(5, .ref q9), (0, .ref (B + 0)), (1, .int (a)), (2, .int (b)), (3, .int (d)), (4, .ref (B + 432))]) hx hb dL_word_15 hl (by decide) rfl (fun ls hl => ?_)
      refine lv_iconst (v := 1) hx hb dL_word_17 (by decide) ?_
      exact rg_retWi C0 hH hr hlocks (by exact Or.inr (Or.inl ⟨hxp0, rfl, rfl⟩)) dL_word_18
    · refine rg_catch C0 [⟨0, 12, 15, 13⟩] ⟨0, 12, 19, 15⟩ [] (by rw [hex]; rfl) (fun z hz => by simp only [List.mem_cons, List.not_mem_nil, or_false] at hz; rcases hz with rfl; exact ⟨by decide, "java/lang/IllegalArgumentException", by decide, by decide, tw_k_L_13⟩) (by decide) (by decide) (by decide) tw_k_L_15 hcell hv9 hcl ?_
      refine lv_astore (lv' := [(5, .ref q9), (0, .ref (B + 0)), (1, .int (a)), (2, .int (b)), (3, .int (d)), (4, .ref (B + 432))]) hx hb dL_word_19 hl (by decide) rfl (fun ls hl => ?_)
      refine lv_iconst (v := 2) hx hb dL_word_21 (by decide) ?_
      exact rg_retWi C0 hH hr hlocks (by exact Or.inr (Or.inr (⟨hxp0, rfl, rfl⟩))) dL_word_22
  · refine lv_i2l hx hb dL_word_10 rfl ?_
    refine rg_last C0 hH (o := 432) (by decide) rfl (rg_vin rfl (by exact (vp_in_nI (Nat.zero_lt_one) (by omega) : vp_in (nI 0) 1))) dL_word_11 (fun H locs hH => ?_)
    refine lv_goto (tgt := 23) hx hb dL_word_12 (by decide) ?_
    refine lv_iconst (v := 0) hx hb dL_word_23 (by decide) ?_
    exact rg_retWi C0 hH hr hlocks (by exact Or.inl ⟨rfl, r9, _, ⟨e9, rfl⟩, rfl⟩) dL_word_24

set_option maxHeartbeats 4000000 in
set_option maxRecDepth 100000 in
/-- wrapper call -/
theorem k_L_call (l : Launch) (hst : l.stackTraces = false) (E : rg_Env) (B : Nat) (M : rg_Mem) (a : Int32) (b : Int32) (hI : rg_CI M) : Met l yL_call (rg_ww yL_call cL_call 5 (some (FieldType.int)) [(0, 17, 20, 21), (0, 17, 24, 13)]) ({ frames := 8, cells := 3, slots := 18, locals := 133 } : Room) (va_Pc [.ref (B + 0), .int (a), .int (b), .ref (B + 432)] (rg_Pre E B 433 rg_R0 M)) (rg_Wi E B 433 rg_R0 (fun k M1 => (k = 0 ∧ ∃ r M2, ((fun r => ((rg_has M a ∧ rg_has M b) ∧ ¬ a = b) ∧ r = rg_b (¬ (M.2 5 a.toNatClampNeg >>> (b.toInt64 &&& 63)) &&& 1 = 0)) r ∧ M2 = rg_J (rg_J M 5 a.toNatClampNeg (M.2 5 a.toNatClampNeg ||| (1 : Int64) <<< (b.toInt64 &&& 63))) 5 b.toNatClampNeg ((rg_J M 5 a.toNatClampNeg (M.2 5 a.toNatClampNeg ||| (1 : Int64) <<< (b.toInt64 &&& 63))).2 5 b.toNatClampNeg ||| (1 : Int64) <<< (a.toInt64 &&& 63))) ∧ M1 = rg_J M2 432 0 (if r = 0 then 0 else 1)) ∨ ((fun X => (¬ (rg_has M a ∧ rg_has M b) ∧ X = "java/lang/IndexOutOfBoundsException") ∨ ((rg_has M a ∧ rg_has M b) ∧ ¬ (¬ a = b) ∧ X = "java/lang/IllegalArgumentException")) "java/lang/IndexOutOfBoundsException" ∧ k = 1 ∧ M1 = M) ∨ ((fun X => (¬ (rg_has M a ∧ rg_has M b) ∧ X = "java/lang/IndexOutOfBoundsException") ∨ ((rg_has M a ∧ rg_has M b) ∧ ¬ (¬ a = b) ∧ X = "java/lang/IllegalArgumentException")) "java/lang/IllegalArgumentException" ∧ k = 2 ∧ M1 = M))) 3 18 (rg_A B) := by
  refine rg_wofW (by decide +kernel) rfl (Nat.le_of_ble_eq_true rfl) ?_
  intro p e s m args below meth c ls hex C0 hH hl hr hlocks
  replace hl : lv_has ls 5 [(0, .ref (B + 0)), (1, .int (a)), (2, .int (b)), (3, .ref (B + 432))] := hl
  have hx := C0.1.1
  have hb := C0.1.2.1
  generalize hH9 : s.heap = H at hH ⊢
  generalize hL9 : ([] : List Loc) = locs at hH ⊢
  clear hH9 hL9
  refine lv_aload_n hx hb dL_call_0 rfl (lv_at hl 3 rfl) ?_
  refine lv_iconst (v := 0) hx hb dL_call_1 (by decide) ?_
  refine lv_aload_n hx hb dL_call_2 rfl (lv_at hl 0 rfl) ?_
  refine lv_iload_n hx hb dL_call_3 rfl (lv_at hl 1 rfl) ?_
  refine lv_iload_n hx hb dL_call_4 rfl (lv_at hl 2 rfl) ?_
  refine rg_wcallRi C0 hH (As := [.int (a), .int (b)]) (rest := [.int (0), .ref (B + 432)]) (o := 0) (ci := 6) (k_X6_call l hst E B M a b hI) (rg_cw 2 C0.1.2.2.2.2 tw_m_L_17 tw_i_X6_call tw_v_X6_call tw_n_X6 tw_c_X6_call rfl rfl hd_X6_call ⟨Nat.le_of_ble_eq_true rfl, Nat.le_of_ble_eq_true rfl⟩) rfl (by decide) rfl (by decide) rfl hl.1 rfl (Nat.le_of_ble_eq_true rfl) dL_call_5 ⟨Nat.le_of_ble_eq_true rfl, Nat.le_of_ble_eq_true rfl⟩ (fun X ce q9 H locs hxp hH hcell hv9 hcl => ?_) (fun r9  H locs e9 hH => ?_)
  · have hxp0 := hxp
    rcases hxp with ⟨hx1, rfl⟩ | ⟨hx1, hx2, rfl⟩
    · refine rg_catch C0 [] ⟨0, 17, 20, 21⟩ [⟨0, 17, 24, 13⟩] (by rw [hex]; rfl) (fun z hz => by cases hz) (by decide) (by decide) (by decide) tw_k_L_21 hcell hv9 hcl ?_
      refine lv_astore (lv' := [(4, .ref q9), (0, .ref (B + 0)), (1, .int (a)), (2, .int (b)), (3, .ref (B + 432))]) hx hb dL_call_20 hl (by decide) rfl (fun ls hl => ?_)
      refine lv_iconst (v := 1) hx hb dL_call_22 (by decide) ?_
      exact rg_retWi C0 hH hr hlocks (by exact Or.inr (Or.inl ⟨hxp0, rfl, rfl⟩)) dL_call_23
    · refine rg_catch C0 [⟨0, 17, 20, 21⟩] ⟨0, 17, 24, 13⟩ [] (by rw [hex]; rfl) (fun z hz => by simp only [List.mem_cons, List.not_mem_nil, or_false] at hz; rcases hz with rfl; exact ⟨by decide, "java/lang/IndexOutOfBoundsException", by decide, by decide, tw_k_L_21⟩) (by decide) (by decide) (by decide) tw_k_L_13 hcell hv9 hcl ?_
      refine lv_astore (lv' := [(4, .ref q9), (0, .ref (B + 0)), (1, .int (a)), (2, .int (b)), (3, .ref (B + 432))]) hx hb dL_call_24 hl (by decide) rfl (fun ls hl => ?_)
      refine lv_iconst (v := 2) hx hb dL_call_26 (by decide) ?_
      exact rg_retWi C0 hH hr hlocks (by exact Or.inr (Or.inr (⟨hxp0, rfl, rfl⟩))) dL_call_27
  · refine lv_if_eq (tgt := 15) hx hb dL_call_8 (by decide) (fun c_8 => ?_) (fun c_8 => ?_)
    · refine lv_lconst (v := 0) hx hb dL_call_15 (by decide) ?_
      refine rg_last C0 hH (o := 432) (by decide) rfl (rg_vin rfl (by exact (vp_in_nI (Nat.zero_lt_one) (by omega) : vp_in (nI 0) 1))) dL_call_16 (fun H locs hH => ?_)
      refine lv_goto (tgt := 28) hx hb dL_call_17 (by decide) ?_
      refine lv_iconst (v := 0) hx hb dL_call_28 (by decide) ?_
      exact rg_retWi C0 hH hr hlocks (by exact Or.inl ⟨rfl, r9, _, ⟨e9, rfl⟩, by rw [if_pos c_8]; rfl⟩) dL_call_29
    · refine lv_lconst (v := 1) hx hb dL_call_11 (by decide) ?_
      refine lv_goto (tgt := 16) hx hb dL_call_12 (by decide) ?_
      refine rg_last C0 hH (o := 432) (by decide) rfl (rg_vin rfl (by exact (vp_in_nI (Nat.zero_lt_one) (by omega) : vp_in (nI 0) 1))) dL_call_16 (fun H locs hH => ?_)
      refine lv_goto (tgt := 28) hx hb dL_call_17 (by decide) ?_
      refine lv_iconst (v := 0) hx hb dL_call_28 (by decide) ?_
      exact rg_retWi C0 hH hr hlocks (by exact Or.inl ⟨rfl, r9, _, ⟨e9, rfl⟩, by rw [if_neg c_8]; rfl⟩) dL_call_29

set_option maxHeartbeats 4000000 in
set_option maxRecDepth 100000 in
/-- wrapper poet -/
theorem k_L_poet (l : Launch) (hst : l.stackTraces = false) (E : rg_Env) (B : Nat) (M : rg_Mem) (hI : rg_CI M) : Met l yL_poet (rg_ww yL_poet cL_poet 3 (some (FieldType.int)) [(0, 8, 11, 15)]) ({ frames := 7, cells := 1, slots := 6, locals := 110 } : Room) (va_Pc [.ref (B + 0), .ref (B + 432)] (rg_Pre E B 433 rg_R0 M)) (rg_Wi E B 433 rg_R0 (fun k M1 => (k = 0 ∧ ∃ r M2, ((fun r => M.1 0 9 < 6 ∧ r = M.1 0 9) r ∧ M2 = rg_I M 0 9 (nI (rg_np M + 1))) ∧ M1 = rg_J M2 432 0 r.toInt64) ∨ ((fun X => ¬ M.1 0 9 < 6 ∧ X = "java/lang/IllegalStateException") "java/lang/IllegalStateException" ∧ k = 1 ∧ M1 = M))) 1 6 (rg_A B) := by
  refine rg_wofW (by decide +kernel) rfl (Nat.le_of_ble_eq_true rfl) ?_
  intro p e s m args below meth c ls hex C0 hH hl hr hlocks
  replace hl : lv_has ls 3 [(0, .ref (B + 0)), (1, .ref (B + 432))] := hl
  have hx := C0.1.1
  have hb := C0.1.2.1
  generalize hH9 : s.heap = H at hH ⊢
  generalize hL9 : ([] : List Loc) = locs at hH ⊢
  clear hH9 hL9
  refine lv_aload_n hx hb dL_poet_0 rfl (lv_at hl 1 rfl) ?_
  refine lv_iconst (v := 0) hx hb dL_poet_1 (by decide) ?_
  refine lv_aload_n hx hb dL_poet_2 rfl (lv_at hl 0 rfl) ?_
  refine rg_wcallRi C0 hH (As := []) (rest := [.int (0), .ref (B + 432)]) (o := 0) (ci := 6) (k_X6_poet l hst E B M hI) (rg_cw 0 C0.1.2.2.2.2 tw_m_L_23 tw_i_X6_poet tw_v_X6_poet tw_n_X6 tw_c_X6_poet rfl rfl hd_X6_poet ⟨Nat.le_of_ble_eq_true rfl, Nat.le_of_ble_eq_true rfl⟩) rfl (by decide) rfl (by decide) rfl hl.1 rfl (Nat.le_of_ble_eq_true rfl) dL_poet_3 ⟨Nat.le_of_ble_eq_true rfl, Nat.le_of_ble_eq_true rfl⟩ (fun X ce q9 H locs hxp hH hcell hv9 hcl => ?_) (fun r9  H locs e9 hH => ?_)
  · have hxp0 := hxp
    rcases hxp with ⟨hx1, rfl⟩
    · refine rg_catch C0 [] ⟨0, 8, 11, 15⟩ [] (by rw [hex]; rfl) (fun z hz => by cases hz) (by decide) (by decide) (by decide) tw_k_L_15 hcell hv9 hcl ?_
      refine lv_astore_n (lv' := [(2, .ref q9), (0, .ref (B + 0)), (1, .ref (B + 432))]) hx hb dL_poet_11 rfl hl (by decide) rfl (fun ls hl => ?_)
      refine lv_iconst (v := 1) hx hb dL_poet_12 (by decide) ?_
      exact rg_retWi C0 hH hr hlocks (by exact Or.inr (⟨hxp0, rfl, rfl⟩)) dL_poet_13
  · refine lv_i2l hx hb dL_poet_6 rfl ?_
    refine rg_last C0 hH (o := 432) (by decide) rfl (rg_vin rfl (by exact (vp_in_nI (Nat.zero_lt_one) (by omega) : vp_in (nI 0) 1))) dL_poet_7 (fun H locs hH => ?_)
    refine lv_goto (tgt := 14) hx hb dL_poet_8 (by decide) ?_
    refine lv_iconst (v := 0) hx hb dL_poet_14 (by decide) ?_
    exact rg_retWi C0 hH hr hlocks (by exact Or.inl ⟨rfl, r9, _, ⟨e9, rfl⟩, rfl⟩) dL_poet_15

set_option maxHeartbeats 4000000 in
set_option maxRecDepth 100000 in
/-- wrapper begin -/
theorem k_L_begin (l : Launch) (hst : l.stackTraces = false) (E : rg_Env) (B : Nat) (M : rg_Mem) (a : Int32) (b : Int32) (d : Int32) (f : Int32) : Met l yL_begin (rg_ww yL_begin cL_begin 6 (some (FieldType.int)) [(0, 9, 12, 13), (0, 9, 16, 15)]) ({ frames := 8, cells := 5, slots := 30, locals := 137 } : Room) (va_Pc [.ref (B + 0), .int (a), .int (b), .int (d), .int (f)] (rg_Pre E B 433 rg_R0 M)) (rg_Wi E B 433 rg_R0 (fun k M1 => (k = 0 ∧ ∃ M2, (((rg_in a 2 36 ∧ rg_in b 0 10 ∧ rg_in d 2 40 ∧ rg_in f 2 40) ∧ ¬ (¬ M.1 6 0 ≤ M.1 6 4 ∧ ¬ M.1 6 4 ≤ 0)) ∧ M2 = rg_I (rg_I (rg_z7 (rg_I (rg_I (rg_I (rg_I (rg_I M 6 0 a) 6 1 b) 6 2 d) 6 3 f) 6 4 0) 36) 0 10 0) 0 11 0) ∧ M1 = M2) ∨ ((fun X => (¬ (rg_in a 2 36 ∧ rg_in b 0 10 ∧ rg_in d 2 40 ∧ rg_in f 2 40) ∧ X = "java/lang/IllegalArgumentException") ∨ ((rg_in a 2 36 ∧ rg_in b 0 10 ∧ rg_in d 2 40 ∧ rg_in f 2 40) ∧ ¬ (¬ (¬ M.1 6 0 ≤ M.1 6 4 ∧ ¬ M.1 6 4 ≤ 0)) ∧ X = "java/lang/IllegalStateException")) "java/lang/IllegalArgumentException" ∧ k = 1 ∧ M1 = M) ∨ ((fun X => (¬ (rg_in a 2 36 ∧ rg_in b 0 10 ∧ rg_in d 2 40 ∧ rg_in f 2 40) ∧ X = "java/lang/IllegalArgumentException") ∨ ((rg_in a 2 36 ∧ rg_in b 0 10 ∧ rg_in d 2 40 ∧ rg_in f 2 40) ∧ ¬ (¬ (¬ M.1 6 0 ≤ M.1 6 4 ∧ ¬ M.1 6 4 ≤ 0)) ∧ X = "java/lang/IllegalStateException")) "java/lang/IllegalStateException" ∧ k = 2 ∧ M1 = M))) 5 30 (rg_A B) := by
  refine rg_wofW (by decide +kernel) rfl (Nat.le_of_ble_eq_true rfl) ?_
  intro p e s m args below meth c ls hex C0 hH hl hr hlocks
  replace hl : lv_has ls 6 [(0, .ref (B + 0)), (1, .int (a)), (2, .int (b)), (3, .int (d)), (4, .int (f))] := hl
  have hx := C0.1.1
  have hb := C0.1.2.1
  generalize hH9 : s.heap = H at hH ⊢
  generalize hL9 : ([] : List Loc) = locs at hH ⊢
  clear hH9 hL9
  refine lv_aload_n hx hb dL_begin_0 rfl (lv_at hl 0 rfl) ?_
  refine lv_iload_n hx hb dL_begin_1 rfl (lv_at hl 1 rfl) ?_
  refine lv_iload_n hx hb dL_begin_2 rfl (lv_at hl 2 rfl) ?_
  refine lv_iload_n hx hb dL_begin_3 rfl (lv_at hl 3 rfl) ?_
  refine lv_iload hx hb dL_begin_4 (lv_at hl 4 rfl) ?_
  refine rg_wcallRv C0 hH (As := [.int (a), .int (b), .int (d), .int (f)]) (rest := []) (o := 0) (ci := 6) (k_X6_begin l hst E B M a b d f) (rg_cw 4 C0.1.2.2.2.2 tw_m_L_27 tw_i_X6_begin tw_v_X6_begin tw_n_X6 tw_c_X6_begin rfl rfl hd_X6_begin ⟨Nat.le_of_ble_eq_true rfl, Nat.le_of_ble_eq_true rfl⟩) rfl (by decide) rfl (by decide) rfl hl.1 rfl (Nat.le_of_ble_eq_true rfl) dL_begin_6 ⟨Nat.le_of_ble_eq_true rfl, Nat.le_of_ble_eq_true rfl⟩ (fun X ce q9 H locs hxp hH hcell hv9 hcl => ?_) (fun H locs e9 hH => ?_)
  · have hxp0 := hxp
    rcases hxp with ⟨hx1, rfl⟩ | ⟨hx1, hx2, rfl⟩
    · refine rg_catch C0 [] ⟨0, 9, 12, 13⟩ [⟨0, 9, 16, 15⟩] (by rw [hex]; rfl) (fun z hz => by cases hz) (by decide) (by decide) (by decide) tw_k_L_13 hcell hv9 hcl ?_
      refine lv_astore (lv' := [(5, .ref q9), (0, .ref (B + 0)), (1, .int (a)), (2, .int (b)), (3, .int (d)), (4, .int (f))]) hx hb dL_begin_12 hl (by decide) rfl (fun ls hl => ?_)
      refine lv_iconst (v := 1) hx hb dL_begin_14 (by decide) ?_
      exact rg_retWi C0 hH hr hlocks (by exact Or.inr (Or.inl ⟨hxp0, rfl, rfl⟩)) dL_begin_15
    · refine rg_catch C0 [⟨0, 9, 12, 13⟩] ⟨0, 9, 16, 15⟩ [] (by rw [hex]; rfl) (fun z hz => by simp only [List.mem_cons, List.not_mem_nil, or_false] at hz; rcases hz with rfl; exact ⟨by decide, "java/lang/IllegalArgumentException", by decide, by decide, tw_k_L_13⟩) (by decide) (by decide) (by decide) tw_k_L_15 hcell hv9 hcl ?_
      refine lv_astore (lv' := [(5, .ref q9), (0, .ref (B + 0)), (1, .int (a)), (2, .int (b)), (3, .int (d)), (4, .int (f))]) hx hb dL_begin_16 hl (by decide) rfl (fun ls hl => ?_)
      refine lv_iconst (v := 2) hx hb dL_begin_18 (by decide) ?_
      exact rg_retWi C0 hH hr hlocks (by exact Or.inr (Or.inr (⟨hxp0, rfl, rfl⟩))) dL_begin_19
  · refine lv_goto (tgt := 20) hx hb dL_begin_9 (by decide) ?_
    refine lv_iconst (v := 0) hx hb dL_begin_20 (by decide) ?_
    exact rg_retWi C0 hH hr hlocks (by exact Or.inl ⟨rfl, _, ⟨e9, rfl⟩, rfl⟩) dL_begin_21

set_option maxHeartbeats 4000000 in
set_option maxRecDepth 100000 in
/-- wrapper seat -/
theorem k_L_seat (l : Launch) (hst : l.stackTraces = false) (E : rg_Env) (B : Nat) (M : rg_Mem) (x : Int32) (y : Int32) (hI : rg_CI M) : Met l yL_seat (rg_ww yL_seat cL_seat 5 (some (FieldType.int)) [(0, 10, 13, 21), (0, 10, 17, 13), (0, 10, 21, 15)]) ({ frames := 8, cells := 2, slots := 12, locals := 136 } : Room) (va_Pc [.ref (B + 0), .int (x), .int (y), .ref (B + 432)] (rg_Pre E B 433 rg_R0 M)) (rg_Wi E B 433 rg_R0 (fun k M1 => (k = 0 ∧ ∃ r M2, ((fun r => ((¬ x < M.1 6 4 ∧ x < M.1 6 0) ∧ rg_in y 0 2 ∧ M.1 0 10 ≤ 0) ∧ r = M.1 7 x.toNatClampNeg) r ∧ M2 = rg_I M 7 x.toNatClampNeg y) ∧ M1 = rg_J M2 432 0 r.toInt64) ∨ ((fun X => (¬ (¬ x < M.1 6 4 ∧ x < M.1 6 0) ∧ X = "java/lang/IndexOutOfBoundsException") ∨ ((¬ x < M.1 6 4 ∧ x < M.1 6 0) ∧ ¬ (rg_in y 0 2) ∧ X = "java/lang/IllegalArgumentException") ∨ ((¬ x < M.1 6 4 ∧ x < M.1 6 0) ∧ (rg_in y 0 2) ∧ ¬ (M.1 0 10 ≤ 0) ∧ X = "java/lang/IllegalStateException")) "java/lang/IndexOutOfBoundsException" ∧ k = 1 ∧ M1 = M) ∨ ((fun X => (¬ (¬ x < M.1 6 4 ∧ x < M.1 6 0) ∧ X = "java/lang/IndexOutOfBoundsException") ∨ ((¬ x < M.1 6 4 ∧ x < M.1 6 0) ∧ ¬ (rg_in y 0 2) ∧ X = "java/lang/IllegalArgumentException") ∨ ((¬ x < M.1 6 4 ∧ x < M.1 6 0) ∧ (rg_in y 0 2) ∧ ¬ (M.1 0 10 ≤ 0) ∧ X = "java/lang/IllegalStateException")) "java/lang/IllegalArgumentException" ∧ k = 2 ∧ M1 = M) ∨ ((fun X => (¬ (¬ x < M.1 6 4 ∧ x < M.1 6 0) ∧ X = "java/lang/IndexOutOfBoundsException") ∨ ((¬ x < M.1 6 4 ∧ x < M.1 6 0) ∧ ¬ (rg_in y 0 2) ∧ X = "java/lang/IllegalArgumentException") ∨ ((¬ x < M.1 6 4 ∧ x < M.1 6 0) ∧ (rg_in y 0 2) ∧ ¬ (M.1 0 10 ≤ 0) ∧ X = "java/lang/IllegalStateException")) "java/lang/IllegalStateException" ∧ k = 3 ∧ M1 = M))) 2 12 (rg_A B) := by
  refine rg_wofW (by decide +kernel) rfl (Nat.le_of_ble_eq_true rfl) ?_
  intro p e s m args below meth c ls hex C0 hH hl hr hlocks
  replace hl : lv_has ls 5 [(0, .ref (B + 0)), (1, .int (x)), (2, .int (y)), (3, .ref (B + 432))] := hl
  have hx := C0.1.1
  have hb := C0.1.2.1
  generalize hH9 : s.heap = H at hH ⊢
  generalize hL9 : ([] : List Loc) = locs at hH ⊢
  clear hH9 hL9
  refine lv_aload_n hx hb dL_seat_0 rfl (lv_at hl 3 rfl) ?_
  refine lv_iconst (v := 0) hx hb dL_seat_1 (by decide) ?_
  refine lv_aload_n hx hb dL_seat_2 rfl (lv_at hl 0 rfl) ?_
  refine lv_iload_n hx hb dL_seat_3 rfl (lv_at hl 1 rfl) ?_
  refine lv_iload_n hx hb dL_seat_4 rfl (lv_at hl 2 rfl) ?_
  refine rg_wcallRi C0 hH (As := [.int (x), .int (y)]) (rest := [.int (0), .ref (B + 432)]) (o := 0) (ci := 6) (k_X6_seat l hst E B M x y hI) (rg_cw 2 C0.1.2.2.2.2 tw_m_L_31 tw_i_X6_seat tw_v_X6_seat tw_n_X6 tw_c_X6_seat rfl rfl hd_X6_seat ⟨Nat.le_of_ble_eq_true rfl, Nat.le_of_ble_eq_true rfl⟩) rfl (by decide) rfl (by decide) rfl hl.1 rfl (Nat.le_of_ble_eq_true rfl) dL_seat_5 ⟨Nat.le_of_ble_eq_true rfl, Nat.le_of_ble_eq_true rfl⟩ (fun X ce q9 H locs hxp hH hcell hv9 hcl => ?_) (fun r9  H locs e9 hH => ?_)
  · have hxp0 := hxp
    rcases hxp with ⟨hx1, rfl⟩ | ⟨hx1, hx2, rfl⟩ | ⟨hx1, hx2, hx3, rfl⟩
    · refine rg_catch C0 [] ⟨0, 10, 13, 21⟩ [⟨0, 10, 17, 13⟩, ⟨0, 10, 21, 15⟩] (by rw [hex]; rfl) (fun z hz => by cases hz) (by decide) (by decide) (by decide) tw_k_L_21 hcell hv9 hcl ?_
      refine lv_astore (lv' := [(4, .ref q9), (0, .ref (B + 0)), (1, .int (x)), (2, .int (y)), (3, .ref (B + 432))]) hx hb dL_seat_13 hl (by decide) rfl (fun ls hl => ?_)
      refine lv_iconst (v := 1) hx hb dL_seat_15 (by decide) ?_
      exact rg_retWi C0 hH hr hlocks (by exact Or.inr (Or.inl ⟨hxp0, rfl, rfl⟩)) dL_seat_16
    · refine rg_catch C0 [⟨0, 10, 13, 21⟩] ⟨0, 10, 17, 13⟩ [⟨0, 10, 21, 15⟩] (by rw [hex]; rfl) (fun z hz => by simp only [List.mem_cons, List.not_mem_nil, or_false] at hz; rcases hz with rfl; exact ⟨by decide, "java/lang/IndexOutOfBoundsException", by decide, by decide, tw_k_L_21⟩) (by decide) (by decide) (by decide) tw_k_L_13 hcell hv9 hcl ?_
      refine lv_astore (lv' := [(4, .ref q9), (0, .ref (B + 0)), (1, .int (x)), (2, .int (y)), (3, .ref (B + 432))]) hx hb dL_seat_17 hl (by decide) rfl (fun ls hl => ?_)
      refine lv_iconst (v := 2) hx hb dL_seat_19 (by decide) ?_
      exact rg_retWi C0 hH hr hlocks (by exact Or.inr (Or.inr (Or.inl ⟨hxp0, rfl, rfl⟩))) dL_seat_20
    · refine rg_catch C0 [⟨0, 10, 13, 21⟩, ⟨0, 10, 17, 13⟩] ⟨0, 10, 21, 15⟩ [] (by rw [hex]; rfl) (fun z hz => by
            simp only [List.mem_cons, List.not_mem_nil, or_false] at hz
            rcases hz with rfl | rfl
            · exact ⟨by decide, "java/lang/IndexOutOfBoundsException", by decide, by decide, tw_k_L_21⟩
            · exact ⟨by decide, "java/lang/IllegalArgumentException", by decide, by decide, tw_k_L_13⟩) (by decide) (by decide) (by decide) tw_k_L_15 hcell hv9 hcl ?_
      refine lv_astore (lv' := [(4, .ref q9), (0, .ref (B + 0)), (1, .int (x)), (2, .int (y)), (3, .ref (B + 432))]) hx hb dL_seat_21 hl (by decide) rfl (fun ls hl => ?_)
      refine lv_iconst (v := 3) hx hb dL_seat_23 (by decide) ?_
      exact rg_retWi C0 hH hr hlocks (by exact Or.inr (Or.inr (Or.inr (⟨hxp0, rfl, rfl⟩)))) dL_seat_24
  · refine lv_i2l hx hb dL_seat_8 rfl ?_
    refine rg_last C0 hH (o := 432) (by decide) rfl (rg_vin rfl (by exact (vp_in_nI (Nat.zero_lt_one) (by omega) : vp_in (nI 0) 1))) dL_seat_9 (fun H locs hH => ?_)
    refine lv_goto (tgt := 25) hx hb dL_seat_10 (by decide) ?_
    refine lv_iconst (v := 0) hx hb dL_seat_25 (by decide) ?_
    exact rg_retWi C0 hH hr hlocks (by exact Or.inl ⟨rfl, r9, _, ⟨e9, rfl⟩, rfl⟩) dL_seat_26

set_option maxHeartbeats 4000000 in
set_option maxRecDepth 100000 in
/-- wrapper add -/
theorem k_L_add (l : Launch) (hst : l.stackTraces = false) (E : rg_Env) (B : Nat) (M : rg_Mem) (w : Int32) (hI : rg_CI M) : Met l yL_add (rg_ww yL_add cL_add 4 (some (FieldType.int)) [(0, 9, 12, 21), (0, 9, 15, 15)]) ({ frames := 8, cells := 2, slots := 12, locals := 132 } : Room) (va_Pc [.ref (B + 0), .int (w), .ref (B + 432)] (rg_Pre E B 433 rg_R0 M)) (rg_Wi E B 433 rg_R0 (fun k M1 => (k = 0 ∧ ∃ r M2, (fun r M1 => (rg_has M w ∧ M.1 90 1 < 6) ∧ r = nI (rg_sz M 90 + 1) ∧ rg_VS M1 90 (rg_sz M 90 + 1) ∧ M1.1 (90 + 1) (rg_sz M 90) = w ∧ (∀ k, k < rg_sz M 90 → M1.1 (90 + 1) k = M.1 (90 + 1) k) ∧ rg_off M M1 90) r M2 ∧ M1 = rg_J M2 432 0 r.toInt64) ∨ ((fun X => (¬ (rg_has M w) ∧ X = "java/lang/IndexOutOfBoundsException") ∨ ((rg_has M w) ∧ ¬ (M.1 90 1 < 6) ∧ X = "java/lang/IllegalStateException")) "java/lang/IndexOutOfBoundsException" ∧ k = 1 ∧ M1 = M) ∨ ((fun X => (¬ (rg_has M w) ∧ X = "java/lang/IndexOutOfBoundsException") ∨ ((rg_has M w) ∧ ¬ (M.1 90 1 < 6) ∧ X = "java/lang/IllegalStateException")) "java/lang/IllegalStateException" ∧ k = 2 ∧ M1 = M))) 2 12 (rg_A B) := by
  refine rg_wofW (by decide +kernel) rfl (Nat.le_of_ble_eq_true rfl) ?_
  intro p e s m args below meth c ls hex C0 hH hl hr hlocks
  replace hl : lv_has ls 4 [(0, .ref (B + 0)), (1, .int (w)), (2, .ref (B + 432))] := hl
  have hx := C0.1.1
  have hb := C0.1.2.1
  generalize hH9 : s.heap = H at hH ⊢
  generalize hL9 : ([] : List Loc) = locs at hH ⊢
  clear hH9 hL9
  refine lv_aload_n hx hb dL_add_0 rfl (lv_at hl 2 rfl) ?_
  refine lv_iconst (v := 0) hx hb dL_add_1 (by decide) ?_
  refine lv_aload_n hx hb dL_add_2 rfl (lv_at hl 0 rfl) ?_
  refine lv_iload_n hx hb dL_add_3 rfl (lv_at hl 1 rfl) ?_
  refine rg_wcallWi C0 hH (As := [.int (w)]) (rest := [.int (0), .ref (B + 432)]) (o := 0) (ci := 6) (k_X6_add l hst E B M w hI) (rg_cw 1 C0.1.2.2.2.2 tw_m_L_35 tw_i_X6_add tw_v_X6_add tw_n_X6 tw_c_X6_add rfl rfl hd_X6_add ⟨Nat.le_of_ble_eq_true rfl, Nat.le_of_ble_eq_true rfl⟩) rfl (by decide) rfl (by decide) rfl hl.1 rfl (Nat.le_of_ble_eq_true rfl) dL_add_4 ⟨Nat.le_of_ble_eq_true rfl, Nat.le_of_ble_eq_true rfl⟩ (fun X ce q9 H locs hxp hH hcell hv9 hcl => ?_) (fun r9 M9 H locs e9 hH => ?_)
  · have hxp0 := hxp
    rcases hxp with ⟨hx1, rfl⟩ | ⟨hx1, hx2, rfl⟩
    · refine rg_catch C0 [] ⟨0, 9, 12, 21⟩ [⟨0, 9, 15, 15⟩] (by rw [hex]; rfl) (fun z hz => by cases hz) (by decide) (by decide) (by decide) tw_k_L_21 hcell hv9 hcl ?_
      refine lv_astore_n (lv' := [(3, .ref q9), (0, .ref (B + 0)), (1, .int (w)), (2, .ref (B + 432))]) hx hb dL_add_12 rfl hl (by decide) rfl (fun ls hl => ?_)
      refine lv_iconst (v := 1) hx hb dL_add_13 (by decide) ?_
      exact rg_retWi C0 hH hr hlocks (by exact Or.inr (Or.inl ⟨hxp0, rfl, rfl⟩)) dL_add_14
    · refine rg_catch C0 [⟨0, 9, 12, 21⟩] ⟨0, 9, 15, 15⟩ [] (by rw [hex]; rfl) (fun z hz => by simp only [List.mem_cons, List.not_mem_nil, or_false] at hz; rcases hz with rfl; exact ⟨by decide, "java/lang/IndexOutOfBoundsException", by decide, by decide, tw_k_L_21⟩) (by decide) (by decide) (by decide) tw_k_L_15 hcell hv9 hcl ?_
      refine lv_astore_n (lv' := [(3, .ref q9), (0, .ref (B + 0)), (1, .int (w)), (2, .ref (B + 432))]) hx hb dL_add_15 rfl hl (by decide) rfl (fun ls hl => ?_)
      refine lv_iconst (v := 2) hx hb dL_add_16 (by decide) ?_
      exact rg_retWi C0 hH hr hlocks (by exact Or.inr (Or.inr (⟨hxp0, rfl, rfl⟩))) dL_add_17
  · refine lv_i2l hx hb dL_add_7 rfl ?_
    refine rg_last C0 hH (o := 432) (by decide) rfl (rg_vin rfl (by exact (vp_in_nI (Nat.zero_lt_one) (by omega) : vp_in (nI 0) 1))) dL_add_8 (fun H locs hH => ?_)
    refine lv_goto (tgt := 18) hx hb dL_add_9 (by decide) ?_
    refine lv_iconst (v := 0) hx hb dL_add_18 (by decide) ?_
    exact rg_retWi C0 hH hr hlocks (by exact Or.inl ⟨rfl, r9, _, e9, rfl⟩) dL_add_19

set_option maxHeartbeats 4000000 in
set_option maxRecDepth 100000 in
/-- wrapper offer -/
theorem k_L_offer (l : Launch) (hst : l.stackTraces = false) (E : rg_Env) (B : Nat) (M : rg_Mem) (z : Int32) (hI : rg_CI M) : Met l yL_offer (rg_ww yL_offer cL_offer 4 (some (FieldType.int)) [(0, 9, 12, 21), (0, 9, 15, 15)]) ({ frames := 8, cells := 2, slots := 12, locals := 160 } : Room) (va_Pc [.ref (B + 0), .int (z), .ref (B + 432)] (rg_Pre E B 433 rg_R0 M)) (rg_Wi E B 433 rg_R0 (fun k M1 => (k = 0 ∧ ∃ r M2, (fun r M1 => (rg_pt M z ∧ (¬ M.1 6 0 ≤ M.1 6 4 ∧ M.1 0 10 < 4)) ∧ ((∃ k, 1 ≤ k ∧ k ≤ 8 ∧ rg_f8 (rg_co M 90 (rg_sz M 90) (rg_nl M) (rg_sp M) z) 8 1 = nI k ∧ r = -nI k ∧ M1 = rg_I M 0 12 (rg_co M 90 (rg_sz M 90) (rg_nl M) (rg_sp M) z k)) ∨ (rg_f8 (rg_co M 90 (rg_sz M 90) (rg_nl M) (rg_sp M) z) 8 1 = 0 ∧ r = nI (rg_no M) ∧ ∃ M2, (rg_VS M2 (99 + 2 * rg_no M) (rg_sz M 90) ∧ (∀ k, k < rg_sz M 90 → M2.1 (99 + 2 * rg_no M + 1) k = M.1 (90 + 1) k) ∧ rg_off M M2 (99 + 2 * rg_no M)) ∧ M1 = rg_emp (rg_I (rg_I M2 97 (rg_no M) z) 0 10 (nI (rg_no M + 1)))))) r M2 ∧ M1 = rg_J M2 432 0 r.toInt64) ∨ ((fun X => (¬ (rg_pt M z) ∧ X = "java/lang/IndexOutOfBoundsException") ∨ ((rg_pt M z) ∧ ¬ (¬ M.1 6 0 ≤ M.1 6 4 ∧ M.1 0 10 < 4) ∧ X = "java/lang/IllegalStateException")) "java/lang/IndexOutOfBoundsException" ∧ k = 1 ∧ M1 = M) ∨ ((fun X => (¬ (rg_pt M z) ∧ X = "java/lang/IndexOutOfBoundsException") ∨ ((rg_pt M z) ∧ ¬ (¬ M.1 6 0 ≤ M.1 6 4 ∧ M.1 0 10 < 4) ∧ X = "java/lang/IllegalStateException")) "java/lang/IllegalStateException" ∧ k = 2 ∧ M1 = M))) 2 12 (rg_A B) := by
  refine rg_wofW (by decide +kernel) rfl (Nat.le_of_ble_eq_true rfl) ?_
  intro p e s m args below meth c ls hex C0 hH hl hr hlocks
  replace hl : lv_has ls 4 [(0, .ref (B + 0)), (1, .int (z)), (2, .ref (B + 432))] := hl
  have hx := C0.1.1
  have hb := C0.1.2.1
  generalize hH9 : s.heap = H at hH ⊢
  generalize hL9 : ([] : List Loc) = locs at hH ⊢
  clear hH9 hL9
  refine lv_aload_n hx hb dL_offer_0 rfl (lv_at hl 2 rfl) ?_
  refine lv_iconst (v := 0) hx hb dL_offer_1 (by decide) ?_
  refine lv_aload_n hx hb dL_offer_2 rfl (lv_at hl 0 rfl) ?_
  refine lv_iload_n hx hb dL_offer_3 rfl (lv_at hl 1 rfl) ?_
  refine rg_wcallWi C0 hH (As := [.int (z)]) (rest := [.int (0), .ref (B + 432)]) (o := 0) (ci := 6) (k_X6_offer l hst E B M z hI) (rg_cw 1 C0.1.2.2.2.2 tw_m_L_39 tw_i_X6_offer tw_v_X6_offer tw_n_X6 tw_c_X6_offer rfl rfl hd_X6_offer ⟨Nat.le_of_ble_eq_true rfl, Nat.le_of_ble_eq_true rfl⟩) rfl (by decide) rfl (by decide) rfl hl.1 rfl (Nat.le_of_ble_eq_true rfl) dL_offer_4 ⟨Nat.le_of_ble_eq_true rfl, Nat.le_of_ble_eq_true rfl⟩ (fun X ce q9 H locs hxp hH hcell hv9 hcl => ?_) (fun r9 M9 H locs e9 hH => ?_)
  · have hxp0 := hxp
    rcases hxp with ⟨hx1, rfl⟩ | ⟨hx1, hx2, rfl⟩
    · refine rg_catch C0 [] ⟨0, 9, 12, 21⟩ [⟨0, 9, 15, 15⟩] (by rw [hex]; rfl) (fun z hz => by cases hz) (by decide) (by decide) (by decide) tw_k_L_21 hcell hv9 hcl ?_
      refine lv_astore_n (lv' := [(3, .ref q9), (0, .ref (B + 0)), (1, .int (z)), (2, .ref (B + 432))]) hx hb dL_offer_12 rfl hl (by decide) rfl (fun ls hl => ?_)
      refine lv_iconst (v := 1) hx hb dL_offer_13 (by decide) ?_
      exact rg_retWi C0 hH hr hlocks (by exact Or.inr (Or.inl ⟨hxp0, rfl, rfl⟩)) dL_offer_14
    · refine rg_catch C0 [⟨0, 9, 12, 21⟩] ⟨0, 9, 15, 15⟩ [] (by rw [hex]; rfl) (fun z hz => by simp only [List.mem_cons, List.not_mem_nil, or_false] at hz; rcases hz with rfl; exact ⟨by decide, "java/lang/IndexOutOfBoundsException", by decide, by decide, tw_k_L_21⟩) (by decide) (by decide) (by decide) tw_k_L_15 hcell hv9 hcl ?_
      refine lv_astore_n (lv' := [(3, .ref q9), (0, .ref (B + 0)), (1, .int (z)), (2, .ref (B + 432))]) hx hb dL_offer_15 rfl hl (by decide) rfl (fun ls hl => ?_)
      refine lv_iconst (v := 2) hx hb dL_offer_16 (by decide) ?_
      exact rg_retWi C0 hH hr hlocks (by exact Or.inr (Or.inr (⟨hxp0, rfl, rfl⟩))) dL_offer_17
  · refine lv_i2l hx hb dL_offer_7 rfl ?_
    refine rg_last C0 hH (o := 432) (by decide) rfl (rg_vin rfl (by exact (vp_in_nI (Nat.zero_lt_one) (by omega) : vp_in (nI 0) 1))) dL_offer_8 (fun H locs hH => ?_)
    refine lv_goto (tgt := 18) hx hb dL_offer_9 (by decide) ?_
    refine lv_iconst (v := 0) hx hb dL_offer_18 (by decide) ?_
    exact rg_retWi C0 hH hr hlocks (by exact Or.inl ⟨rfl, r9, _, e9, rfl⟩) dL_offer_19

set_option maxHeartbeats 4000000 in
set_option maxRecDepth 100000 in
/-- wrapper choose -/
theorem k_L_choose (l : Launch) (hst : l.stackTraces = false) (E : rg_Env) (B : Nat) (M : rg_Mem) (x : Int32) (hI : rg_CI M) (ho9 : 0 < rg_no M → rg_nl M < rg_nt M) : Met l yL_choose (rg_ww yL_choose cL_choose 4 (some (FieldType.int)) [(0, 9, 12, 21)]) ({ frames := 7, cells := 1, slots := 6, locals := 156 } : Room) (va_Pc [.ref (B + 0), .int (x), .ref (B + 432)] (rg_Pre E B 433 rg_R0 M)) (rg_Wi E B 433 rg_R0 (fun k M1 => (k = 0 ∧ ∃ r M2, (fun r M1 => (¬ x < 0 ∧ x < M.1 0 10) ∧ r = nI (rg_nl M) ∧ ∃ M2, (rg_VS M2 (17 + 2 * rg_nl M) (rg_sz M (99 + 2 * x.toNatClampNeg)) ∧ (∀ k, k < rg_sz M (99 + 2 * x.toNatClampNeg) → M2.1 (17 + 2 * rg_nl M + 1) k = M.1 (99 + 2 * x.toNatClampNeg + 1) k) ∧ rg_off M M2 (17 + 2 * rg_nl M)) ∧ M1 = rg_I (rg_I (rg_zp (rg_I (rg_I (rg_I M2 9 (rg_nl M) (M.1 97 x.toNatClampNeg)) 10 (rg_nl M) 0) 11 (rg_nl M) 0) (rg_nl M) 4) 6 4 (nI (rg_nl M + 1))) 0 10 0) r M2 ∧ M1 = rg_J M2 432 0 r.toInt64) ∨ ((fun X => ¬ (¬ x < 0 ∧ x < M.1 0 10) ∧ X = "java/lang/IndexOutOfBoundsException") "java/lang/IndexOutOfBoundsException" ∧ k = 1 ∧ M1 = M))) 1 6 (rg_A B) := by
  refine rg_wofW (by decide +kernel) rfl (Nat.le_of_ble_eq_true rfl) ?_
  intro p e s m args below meth c ls hex C0 hH hl hr hlocks
  replace hl : lv_has ls 4 [(0, .ref (B + 0)), (1, .int (x)), (2, .ref (B + 432))] := hl
  have hx := C0.1.1
  have hb := C0.1.2.1
  generalize hH9 : s.heap = H at hH ⊢
  generalize hL9 : ([] : List Loc) = locs at hH ⊢
  clear hH9 hL9
  refine lv_aload_n hx hb dL_choose_0 rfl (lv_at hl 2 rfl) ?_
  refine lv_iconst (v := 0) hx hb dL_choose_1 (by decide) ?_
  refine lv_aload_n hx hb dL_choose_2 rfl (lv_at hl 0 rfl) ?_
  refine lv_iload_n hx hb dL_choose_3 rfl (lv_at hl 1 rfl) ?_
  refine rg_wcallWi C0 hH (As := [.int (x)]) (rest := [.int (0), .ref (B + 432)]) (o := 0) (ci := 6) (k_X6_choose l hst E B M x hI ho9) (rg_cw 1 C0.1.2.2.2.2 tw_m_L_42 tw_i_X6_choose tw_v_X6_choose tw_n_X6 tw_c_X6_choose rfl rfl hd_X6_choose ⟨Nat.le_of_ble_eq_true rfl, Nat.le_of_ble_eq_true rfl⟩) rfl (by decide) rfl (by decide) rfl hl.1 rfl (Nat.le_of_ble_eq_true rfl) dL_choose_4 ⟨Nat.le_of_ble_eq_true rfl, Nat.le_of_ble_eq_true rfl⟩ (fun X ce q9 H locs hxp hH hcell hv9 hcl => ?_) (fun r9 M9 H locs e9 hH => ?_)
  · have hxp0 := hxp
    rcases hxp with ⟨hx1, rfl⟩
    · refine rg_catch C0 [] ⟨0, 9, 12, 21⟩ [] (by rw [hex]; rfl) (fun z hz => by cases hz) (by decide) (by decide) (by decide) tw_k_L_21 hcell hv9 hcl ?_
      refine lv_astore_n (lv' := [(3, .ref q9), (0, .ref (B + 0)), (1, .int (x)), (2, .ref (B + 432))]) hx hb dL_choose_12 rfl hl (by decide) rfl (fun ls hl => ?_)
      refine lv_iconst (v := 1) hx hb dL_choose_13 (by decide) ?_
      exact rg_retWi C0 hH hr hlocks (by exact Or.inr (⟨hxp0, rfl, rfl⟩)) dL_choose_14
  · refine lv_i2l hx hb dL_choose_7 rfl ?_
    refine rg_last C0 hH (o := 432) (by decide) rfl (rg_vin rfl (by exact (vp_in_nI (Nat.zero_lt_one) (by omega) : vp_in (nI 0) 1))) dL_choose_8 (fun H locs hH => ?_)
    refine lv_goto (tgt := 15) hx hb dL_choose_9 (by decide) ?_
    refine lv_iconst (v := 0) hx hb dL_choose_15 (by decide) ?_
    exact rg_retWi C0 hH hr hlocks (by exact Or.inl ⟨rfl, r9, _, e9, rfl⟩) dL_choose_16

set_option maxHeartbeats 4000000 in
set_option maxRecDepth 100000 in
/-- wrapper mend -/
theorem k_L_mend (l : Launch) (hst : l.stackTraces = false) (E : rg_Env) (B : Nat) (M : rg_Mem) (x : Int32) (w : Int32) (hI : rg_CI M) : Met l yL_mend (rg_ww yL_mend cL_mend 5 (some (FieldType.int)) [(0, 10, 13, 21), (0, 10, 17, 15)]) ({ frames := 8, cells := 4, slots := 24, locals := 162 } : Room) (va_Pc [.ref (B + 0), .int (x), .int (w), .ref (B + 432)] (rg_Pre E B 433 rg_R0 M)) (rg_Wi E B 433 rg_R0 (fun k M1 => (k = 0 ∧ ∃ r M2, (fun r M1 => (((rg_hl M (nI (rg_nl M) - 1) ∧ ¬ rg_wp M (nI (rg_nl M) - 1) x = -1) ∧ rg_has M w) ∧ M.1 0 10 ≤ 0) ∧ ∃ M2, (rg_VS M2 92 (rg_sz M (17 + 2 * (rg_nl M - 1))) ∧ (∀ k, k < rg_sz M (17 + 2 * (rg_nl M - 1)) → M2.1 (92 + 1) k = if nI k = x then w else M.1 (17 + 2 * (rg_nl M - 1) + 1) k) ∧ rg_off M M2 92) ∧ ((∃ k, 1 ≤ k ∧ k ≤ 8 ∧ rg_f8 (rg_co M2 92 (rg_sz M (17 + 2 * (rg_nl M - 1))) (rg_nl M - 1) (rg_sp M) (-1)) 8 1 = nI k ∧ r = -nI k ∧ M1 = rg_I M2 0 12 (rg_co M2 92 (rg_sz M (17 + 2 * (rg_nl M - 1))) (rg_nl M - 1) (rg_sp M) (-1) k)) ∨ (rg_f8 (rg_co M2 92 (rg_sz M (17 + 2 * (rg_nl M - 1))) (rg_nl M - 1) (rg_sp M) (-1)) 8 1 = 0 ∧ r = 0 ∧ ∃ M3, (rg_VS M3 (17 + 2 * (rg_nl M - 1)) (rg_sz M (17 + 2 * (rg_nl M - 1))) ∧ (∀ k, k < rg_sz M (17 + 2 * (rg_nl M - 1)) → M3.1 (17 + 2 * (rg_nl M - 1) + 1) k = M2.1 (92 + 1) k) ∧ rg_off M2 M3 (17 + 2 * (rg_nl M - 1))) ∧ M1 = rg_I M3 11 (rg_nl M - 1) 1))) r M2 ∧ M1 = rg_J M2 432 0 r.toInt64) ∨ ((fun X => (¬ ((rg_hl M (nI (rg_nl M) - 1) ∧ ¬ rg_wp M (nI (rg_nl M) - 1) x = -1) ∧ rg_has M w) ∧ X = "java/lang/IndexOutOfBoundsException") ∨ (((rg_hl M (nI (rg_nl M) - 1) ∧ ¬ rg_wp M (nI (rg_nl M) - 1) x = -1) ∧ rg_has M w) ∧ ¬ (M.1 0 10 ≤ 0) ∧ X = "java/lang/IllegalStateException")) "java/lang/IndexOutOfBoundsException" ∧ k = 1 ∧ M1 = M) ∨ ((fun X => (¬ ((rg_hl M (nI (rg_nl M) - 1) ∧ ¬ rg_wp M (nI (rg_nl M) - 1) x = -1) ∧ rg_has M w) ∧ X = "java/lang/IndexOutOfBoundsException") ∨ (((rg_hl M (nI (rg_nl M) - 1) ∧ ¬ rg_wp M (nI (rg_nl M) - 1) x = -1) ∧ rg_has M w) ∧ ¬ (M.1 0 10 ≤ 0) ∧ X = "java/lang/IllegalStateException")) "java/lang/IllegalStateException" ∧ k = 2 ∧ M1 = M))) 4 24 (rg_A B) := by
  refine rg_wofW (by decide +kernel) rfl (Nat.le_of_ble_eq_true rfl) ?_
  intro p e s m args below meth c ls hex C0 hH hl hr hlocks
  replace hl : lv_has ls 5 [(0, .ref (B + 0)), (1, .int (x)), (2, .int (w)), (3, .ref (B + 432))] := hl
  have hx := C0.1.1
  have hb := C0.1.2.1
  generalize hH9 : s.heap = H at hH ⊢
  generalize hL9 : ([] : List Loc) = locs at hH ⊢
  clear hH9 hL9
  refine lv_aload_n hx hb dL_mend_0 rfl (lv_at hl 3 rfl) ?_
  refine lv_iconst (v := 0) hx hb dL_mend_1 (by decide) ?_
  refine lv_aload_n hx hb dL_mend_2 rfl (lv_at hl 0 rfl) ?_
  refine lv_iload_n hx hb dL_mend_3 rfl (lv_at hl 1 rfl) ?_
  refine lv_iload_n hx hb dL_mend_4 rfl (lv_at hl 2 rfl) ?_
  refine rg_wcallWi C0 hH (As := [.int (x), .int (w)]) (rest := [.int (0), .ref (B + 432)]) (o := 0) (ci := 6) (k_X6_mend l hst E B M x w hI) (rg_cw 2 C0.1.2.2.2.2 tw_m_L_45 tw_i_X6_mend tw_v_X6_mend tw_n_X6 tw_c_X6_mend rfl rfl hd_X6_mend ⟨Nat.le_of_ble_eq_true rfl, Nat.le_of_ble_eq_true rfl⟩) rfl (by decide) rfl (by decide) rfl hl.1 rfl (Nat.le_of_ble_eq_true rfl) dL_mend_5 ⟨Nat.le_of_ble_eq_true rfl, Nat.le_of_ble_eq_true rfl⟩ (fun X ce q9 H locs hxp hH hcell hv9 hcl => ?_) (fun r9 M9 H locs e9 hH => ?_)
  · have hxp0 := hxp
    rcases hxp with ⟨hx1, rfl⟩ | ⟨hx1, hx2, rfl⟩
    · refine rg_catch C0 [] ⟨0, 10, 13, 21⟩ [⟨0, 10, 17, 15⟩] (by rw [hex]; rfl) (fun z hz => by cases hz) (by decide) (by decide) (by decide) tw_k_L_21 hcell hv9 hcl ?_
      refine lv_astore (lv' := [(4, .ref q9), (0, .ref (B + 0)), (1, .int (x)), (2, .int (w)), (3, .ref (B + 432))]) hx hb dL_mend_13 hl (by decide) rfl (fun ls hl => ?_)
      refine lv_iconst (v := 1) hx hb dL_mend_15 (by decide) ?_
      exact rg_retWi C0 hH hr hlocks (by exact Or.inr (Or.inl ⟨hxp0, rfl, rfl⟩)) dL_mend_16
    · refine rg_catch C0 [⟨0, 10, 13, 21⟩] ⟨0, 10, 17, 15⟩ [] (by rw [hex]; rfl) (fun z hz => by simp only [List.mem_cons, List.not_mem_nil, or_false] at hz; rcases hz with rfl; exact ⟨by decide, "java/lang/IndexOutOfBoundsException", by decide, by decide, tw_k_L_21⟩) (by decide) (by decide) (by decide) tw_k_L_15 hcell hv9 hcl ?_
      refine lv_astore (lv' := [(4, .ref q9), (0, .ref (B + 0)), (1, .int (x)), (2, .int (w)), (3, .ref (B + 432))]) hx hb dL_mend_17 hl (by decide) rfl (fun ls hl => ?_)
      refine lv_iconst (v := 2) hx hb dL_mend_19 (by decide) ?_
      exact rg_retWi C0 hH hr hlocks (by exact Or.inr (Or.inr (⟨hxp0, rfl, rfl⟩))) dL_mend_20
  · refine lv_i2l hx hb dL_mend_8 rfl ?_
    refine rg_last C0 hH (o := 432) (by decide) rfl (rg_vin rfl (by exact (vp_in_nI (Nat.zero_lt_one) (by omega) : vp_in (nI 0) 1))) dL_mend_9 (fun H locs hH => ?_)
    refine lv_goto (tgt := 21) hx hb dL_mend_10 (by decide) ?_
    refine lv_iconst (v := 0) hx hb dL_mend_21 (by decide) ?_
    exact rg_retWi C0 hH hr hlocks (by exact Or.inl ⟨rfl, r9, _, e9, rfl⟩) dL_mend_22

set_option maxHeartbeats 4000000 in
set_option maxRecDepth 100000 in
/-- wrapper give -/
theorem k_L_give (l : Launch) (hst : l.stackTraces = false) (E : rg_Env) (B : Nat) (M : rg_Mem) (x : Int32) (y : Int32) (z : Int32) (hI : rg_CI M) : Met l yL_give (rg_ww yL_give cL_give 6 (some (FieldType.int)) [(0, 12, 15, 21), (0, 12, 19, 13)]) ({ frames := 8, cells := 2, slots := 12, locals := 137 } : Room) (va_Pc [.ref (B + 0), .int (x), .int (y), .int (z), .ref (B + 432)] (rg_Pre E B 433 rg_R0 M)) (rg_Wi E B 433 rg_R0 (fun k M1 => (k = 0 ∧ ∃ r M2, ((fun r => (((¬ x < 0 ∧ x < 4) ∧ rg_hl M y) ∧ rg_in z 0 10) ∧ r = M.1 (13 + x.toNatClampNeg) y.toNatClampNeg) r ∧ M2 = rg_I M (13 + x.toNatClampNeg) y.toNatClampNeg z) ∧ M1 = rg_J M2 432 0 r.toInt64) ∨ ((fun X => (¬ ((¬ x < 0 ∧ x < 4) ∧ rg_hl M y) ∧ X = "java/lang/IndexOutOfBoundsException") ∨ (((¬ x < 0 ∧ x < 4) ∧ rg_hl M y) ∧ ¬ (rg_in z 0 10) ∧ X = "java/lang/IllegalArgumentException")) "java/lang/IndexOutOfBoundsException" ∧ k = 1 ∧ M1 = M) ∨ ((fun X => (¬ ((¬ x < 0 ∧ x < 4) ∧ rg_hl M y) ∧ X = "java/lang/IndexOutOfBoundsException") ∨ (((¬ x < 0 ∧ x < 4) ∧ rg_hl M y) ∧ ¬ (rg_in z 0 10) ∧ X = "java/lang/IllegalArgumentException")) "java/lang/IllegalArgumentException" ∧ k = 2 ∧ M1 = M))) 2 12 (rg_A B) := by
  refine rg_wofW (by decide +kernel) rfl (Nat.le_of_ble_eq_true rfl) ?_
  intro p e s m args below meth c ls hex C0 hH hl hr hlocks
  replace hl : lv_has ls 6 [(0, .ref (B + 0)), (1, .int (x)), (2, .int (y)), (3, .int (z)), (4, .ref (B + 432))] := hl
  have hx := C0.1.1
  have hb := C0.1.2.1
  generalize hH9 : s.heap = H at hH ⊢
  generalize hL9 : ([] : List Loc) = locs at hH ⊢
  clear hH9 hL9
  refine lv_aload hx hb dL_give_0 (lv_at hl 4 rfl) ?_
  refine lv_iconst (v := 0) hx hb dL_give_2 (by decide) ?_
  refine lv_aload_n hx hb dL_give_3 rfl (lv_at hl 0 rfl) ?_
  refine lv_iload_n hx hb dL_give_4 rfl (lv_at hl 1 rfl) ?_
  refine lv_iload_n hx hb dL_give_5 rfl (lv_at hl 2 rfl) ?_
  refine lv_iload_n hx hb dL_give_6 rfl (lv_at hl 3 rfl) ?_
  refine rg_wcallRi C0 hH (As := [.int (x), .int (y), .int (z)]) (rest := [.int (0), .ref (B + 432)]) (o := 0) (ci := 6) (k_X6_give l hst E B M x y z hI) (rg_cw 3 C0.1.2.2.2.2 tw_m_L_48 tw_i_X6_give tw_v_X6_give tw_n_X6 tw_c_X6_give rfl rfl hd_X6_give ⟨Nat.le_of_ble_eq_true rfl, Nat.le_of_ble_eq_true rfl⟩) rfl (by decide) rfl (by decide) rfl hl.1 rfl (Nat.le_of_ble_eq_true rfl) dL_give_7 ⟨Nat.le_of_ble_eq_true rfl, Nat.le_of_ble_eq_true rfl⟩ (fun X ce q9 H locs hxp hH hcell hv9 hcl => ?_) (fun r9  H locs e9 hH => ?_)
  · have hxp0 := hxp
    rcases hxp with ⟨hx1, rfl⟩ | ⟨hx1, hx2, rfl⟩
    · refine rg_catch C0 [] ⟨0, 12, 15, 21⟩ [⟨0, 12, 19, 13⟩] (by rw [hex]; rfl) (fun z hz => by cases hz) (by decide) (by decide) (by decide) tw_k_L_21 hcell hv9 hcl ?_
      refine lv_astore (lv' := [(5, .ref q9), (0, .ref (B + 0)), (1, .int (x)), (2, .int (y)), (3, .int (z)), (4, .ref (B + 432))]) hx hb dL_give_15 hl (by decide) rfl (fun ls hl => ?_)
      refine lv_iconst (v := 1) hx hb dL_give_17 (by decide) ?_
      exact rg_retWi C0 hH hr hlocks (by exact Or.inr (Or.inl ⟨hxp0, rfl, rfl⟩)) dL_give_18
    · refine rg_catch C0 [⟨0, 12, 15, 21⟩] ⟨0, 12, 19, 13⟩ [] (by rw [hex]; rfl) (fun z hz => by simp only [List.mem_cons, List.not_mem_nil, or_false] at hz; rcases hz with rfl; exact ⟨by decide, "java/lang/IndexOutOfBoundsException", by decide, by decide, tw_k_L_21⟩) (by decide) (by decide) (by decide) tw_k_L_13 hcell hv9 hcl ?_
      refine lv_astore (lv' := [(5, .ref q9), (0, .ref (B + 0)), (1, .int (x)), (2, .int (y)), (3, .int (z)), (4, .ref (B + 432))]) hx hb dL_give_19 hl (by decide) rfl (fun ls hl => ?_)
      refine lv_iconst (v := 2) hx hb dL_give_21 (by decide) ?_
      exact rg_retWi C0 hH hr hlocks (by exact Or.inr (Or.inr (⟨hxp0, rfl, rfl⟩))) dL_give_22
  · refine lv_i2l hx hb dL_give_10 rfl ?_
    refine rg_last C0 hH (o := 432) (by decide) rfl (rg_vin rfl (by exact (vp_in_nI (Nat.zero_lt_one) (by omega) : vp_in (nI 0) 1))) dL_give_11 (fun H locs hH => ?_)
    refine lv_goto (tgt := 23) hx hb dL_give_12 (by decide) ?_
    refine lv_iconst (v := 0) hx hb dL_give_23 (by decide) ?_
    exact rg_retWi C0 hH hr hlocks (by exact Or.inl ⟨rfl, r9, _, ⟨e9, rfl⟩, rfl⟩) dL_give_24

set_option maxHeartbeats 4000000 in
set_option maxRecDepth 100000 in
/-- wrapper copy -/
theorem k_L_copy (l : Launch) (hst : l.stackTraces = false) (E : rg_Env) (B : Nat) (M : rg_Mem) (t : Int32) (hI : rg_CI M) : Met l yL_copy (rg_ww yL_copy cL_copy 4 (some (FieldType.int)) [(0, 9, 12, 21), (0, 9, 15, 15)]) ({ frames := 9, cells := 3, slots := 18, locals := 153 } : Room) (va_Pc [.ref (B + 0), .int (t), .ref (B + 432)] (rg_Pre E B 433 rg_R0 M)) (rg_Wi E B 433 rg_R0 (fun k M1 => (k = 0 ∧ ∃ r M2, ((fun r => (rg_tx M t ∧ (¬ M.1 6 0 ≤ 0 ∧ M.1 0 11 < 8)) ∧ r = M.1 0 11) r ∧ M2 = rg_I (rg_fil M (rg_nc M) t 36 0) 0 11 (nI (rg_nc M + 1))) ∧ M1 = rg_J M2 432 0 r.toInt64) ∨ ((fun X => (¬ (rg_tx M t) ∧ X = "java/lang/IndexOutOfBoundsException") ∨ ((rg_tx M t) ∧ ¬ (¬ M.1 6 0 ≤ 0 ∧ M.1 0 11 < 8) ∧ X = "java/lang/IllegalStateException")) "java/lang/IndexOutOfBoundsException" ∧ k = 1 ∧ M1 = M) ∨ ((fun X => (¬ (rg_tx M t) ∧ X = "java/lang/IndexOutOfBoundsException") ∨ ((rg_tx M t) ∧ ¬ (¬ M.1 6 0 ≤ 0 ∧ M.1 0 11 < 8) ∧ X = "java/lang/IllegalStateException")) "java/lang/IllegalStateException" ∧ k = 2 ∧ M1 = M))) 3 18 (rg_A B) := by
  refine rg_wofW (by decide +kernel) rfl (Nat.le_of_ble_eq_true rfl) ?_
  intro p e s m args below meth c ls hex C0 hH hl hr hlocks
  replace hl : lv_has ls 4 [(0, .ref (B + 0)), (1, .int (t)), (2, .ref (B + 432))] := hl
  have hx := C0.1.1
  have hb := C0.1.2.1
  generalize hH9 : s.heap = H at hH ⊢
  generalize hL9 : ([] : List Loc) = locs at hH ⊢
  clear hH9 hL9
  refine lv_aload_n hx hb dL_copy_0 rfl (lv_at hl 2 rfl) ?_
  refine lv_iconst (v := 0) hx hb dL_copy_1 (by decide) ?_
  refine lv_aload_n hx hb dL_copy_2 rfl (lv_at hl 0 rfl) ?_
  refine lv_iload_n hx hb dL_copy_3 rfl (lv_at hl 1 rfl) ?_
  refine rg_wcallRi C0 hH (As := [.int (t)]) (rest := [.int (0), .ref (B + 432)]) (o := 0) (ci := 6) (k_X6_copy l hst E B M t hI) (rg_cw 1 C0.1.2.2.2.2 tw_m_L_51 tw_i_X6_copy tw_v_X6_copy tw_n_X6 tw_c_X6_copy rfl rfl hd_X6_copy ⟨Nat.le_of_ble_eq_true rfl, Nat.le_of_ble_eq_true rfl⟩) rfl (by decide) rfl (by decide) rfl hl.1 rfl (Nat.le_of_ble_eq_true rfl) dL_copy_4 ⟨Nat.le_of_ble_eq_true rfl, Nat.le_of_ble_eq_true rfl⟩ (fun X ce q9 H locs hxp hH hcell hv9 hcl => ?_) (fun r9  H locs e9 hH => ?_)
  · have hxp0 := hxp
    rcases hxp with ⟨hx1, rfl⟩ | ⟨hx1, hx2, rfl⟩
    · refine rg_catch C0 [] ⟨0, 9, 12, 21⟩ [⟨0, 9, 15, 15⟩] (by rw [hex]; rfl) (fun z hz => by cases hz) (by decide) (by decide) (by decide) tw_k_L_21 hcell hv9 hcl ?_
      refine lv_astore_n (lv' := [(3, .ref q9), (0, .ref (B + 0)), (1, .int (t)), (2, .ref (B + 432))]) hx hb dL_copy_12 rfl hl (by decide) rfl (fun ls hl => ?_)
      refine lv_iconst (v := 1) hx hb dL_copy_13 (by decide) ?_
      exact rg_retWi C0 hH hr hlocks (by exact Or.inr (Or.inl ⟨hxp0, rfl, rfl⟩)) dL_copy_14
    · refine rg_catch C0 [⟨0, 9, 12, 21⟩] ⟨0, 9, 15, 15⟩ [] (by rw [hex]; rfl) (fun z hz => by simp only [List.mem_cons, List.not_mem_nil, or_false] at hz; rcases hz with rfl; exact ⟨by decide, "java/lang/IndexOutOfBoundsException", by decide, by decide, tw_k_L_21⟩) (by decide) (by decide) (by decide) tw_k_L_15 hcell hv9 hcl ?_
      refine lv_astore_n (lv' := [(3, .ref q9), (0, .ref (B + 0)), (1, .int (t)), (2, .ref (B + 432))]) hx hb dL_copy_15 rfl hl (by decide) rfl (fun ls hl => ?_)
      refine lv_iconst (v := 2) hx hb dL_copy_16 (by decide) ?_
      exact rg_retWi C0 hH hr hlocks (by exact Or.inr (Or.inr (⟨hxp0, rfl, rfl⟩))) dL_copy_17
  · refine lv_i2l hx hb dL_copy_7 rfl ?_
    refine rg_last C0 hH (o := 432) (by decide) rfl (rg_vin rfl (by exact (vp_in_nI (Nat.zero_lt_one) (by omega) : vp_in (nI 0) 1))) dL_copy_8 (fun H locs hH => ?_)
    refine lv_goto (tgt := 18) hx hb dL_copy_9 (by decide) ?_
    refine lv_iconst (v := 0) hx hb dL_copy_18 (by decide) ?_
    exact rg_retWi C0 hH hr hlocks (by exact Or.inl ⟨rfl, r9, _, ⟨e9, rfl⟩, rfl⟩) dL_copy_19

set_option maxHeartbeats 4000000 in
set_option maxRecDepth 100000 in
/-- wrapper write -/
theorem k_L_write (l : Launch) (hst : l.stackTraces = false) (E : rg_Env) (B : Nat) (M : rg_Mem) (t : Int32) (x : Int32) (y : Int32) (z : Int32) (hI : rg_CI M) : Met l yL_write (rg_ww yL_write cL_write 7 (some (FieldType.int)) [(0, 14, 17, 21)]) ({ frames := 8, cells := 3, slots := 18, locals := 136 } : Room) (va_Pc [.ref (B + 0), .int (t), .int (x), .int (y), .int (z), .ref (B + 432)] (rg_Pre E B 433 rg_R0 M)) (rg_Wi E B 433 rg_R0 (fun k M1 => (k = 0 ∧ ∃ r M2, ((fun r => ((rg_cp M t ∧ rg_has M z) ∧ ¬ rg_tw M t x y = -1) ∧ r = rg_tw M t x y) r ∧ M2 = rg_I M (110 + 38 * t.toNatClampNeg + x.toNatClampNeg) y.toNatClampNeg z) ∧ M1 = rg_J M2 432 0 r.toInt64) ∨ ((fun X => ¬ ((rg_cp M t ∧ rg_has M z) ∧ ¬ rg_tw M t x y = -1) ∧ X = "java/lang/IndexOutOfBoundsException") "java/lang/IndexOutOfBoundsException" ∧ k = 1 ∧ M1 = M))) 3 18 (rg_A B) := by
  refine rg_wofW (by decide +kernel) rfl (Nat.le_of_ble_eq_true rfl) ?_
  intro p e s m args below meth c ls hex C0 hH hl hr hlocks
  replace hl : lv_has ls 7 [(0, .ref (B + 0)), (1, .int (t)), (2, .int (x)), (3, .int (y)), (4, .int (z)), (5, .ref (B + 432))] := hl
  have hx := C0.1.1
  have hb := C0.1.2.1
  generalize hH9 : s.heap = H at hH ⊢
  generalize hL9 : ([] : List Loc) = locs at hH ⊢
  clear hH9 hL9
  refine lv_aload hx hb dL_write_0 (lv_at hl 5 rfl) ?_
  refine lv_iconst (v := 0) hx hb dL_write_2 (by decide) ?_
  refine lv_aload_n hx hb dL_write_3 rfl (lv_at hl 0 rfl) ?_
  refine lv_iload_n hx hb dL_write_4 rfl (lv_at hl 1 rfl) ?_
  refine lv_iload_n hx hb dL_write_5 rfl (lv_at hl 2 rfl) ?_
  refine lv_iload_n hx hb dL_write_6 rfl (lv_at hl 3 rfl) ?_
  refine lv_iload hx hb dL_write_7 (lv_at hl 4 rfl) ?_
  refine rg_wcallRi C0 hH (As := [.int (t), .int (x), .int (y), .int (z)]) (rest := [.int (0), .ref (B + 432)]) (o := 0) (ci := 6) (k_X6_write l hst E B M t x y z hI) (rg_cw 4 C0.1.2.2.2.2 tw_m_L_54 tw_i_X6_write tw_v_X6_write tw_n_X6 tw_c_X6_write rfl rfl hd_X6_write ⟨Nat.le_of_ble_eq_true rfl, Nat.le_of_ble_eq_true rfl⟩) rfl (by decide) rfl (by decide) rfl hl.1 rfl (Nat.le_of_ble_eq_true rfl) dL_write_9 ⟨Nat.le_of_ble_eq_true rfl, Nat.le_of_ble_eq_true rfl⟩ (fun X ce q9 H locs hxp hH hcell hv9 hcl => ?_) (fun r9  H locs e9 hH => ?_)
  · have hxp0 := hxp
    rcases hxp with ⟨hx1, rfl⟩
    · refine rg_catch C0 [] ⟨0, 14, 17, 21⟩ [] (by rw [hex]; rfl) (fun z hz => by cases hz) (by decide) (by decide) (by decide) tw_k_L_21 hcell hv9 hcl ?_
      refine lv_astore (lv' := [(6, .ref q9), (0, .ref (B + 0)), (1, .int (t)), (2, .int (x)), (3, .int (y)), (4, .int (z)), (5, .ref (B + 432))]) hx hb dL_write_17 hl (by decide) rfl (fun ls hl => ?_)
      refine lv_iconst (v := 1) hx hb dL_write_19 (by decide) ?_
      exact rg_retWi C0 hH hr hlocks (by exact Or.inr (⟨hxp0, rfl, rfl⟩)) dL_write_20
  · refine lv_i2l hx hb dL_write_12 rfl ?_
    refine rg_last C0 hH (o := 432) (by decide) rfl (rg_vin rfl (by exact (vp_in_nI (Nat.zero_lt_one) (by omega) : vp_in (nI 0) 1))) dL_write_13 (fun H locs hH => ?_)
    refine lv_goto (tgt := 21) hx hb dL_write_14 (by decide) ?_
    refine lv_iconst (v := 0) hx hb dL_write_21 (by decide) ?_
    exact rg_retWi C0 hH hr hlocks (by exact Or.inl ⟨rfl, r9, _, ⟨e9, rfl⟩, rfl⟩) dL_write_22

set_option maxHeartbeats 4000000 in
set_option maxRecDepth 100000 in
/-- wrapper hide -/
theorem k_L_hide (l : Launch) (hst : l.stackTraces = false) (E : rg_Env) (B : Nat) (M : rg_Mem) (x : Int32) (y : Int32) (hI : rg_CI M) (hy : y = 0 ∨ y = 1) : Met l yL_hide (rg_ww yL_hide cL_hide 5 (some (FieldType.int)) [(0, 17, 20, 21)]) ({ frames := 8, cells := 1, slots := 6, locals := 134 } : Room) (va_Pc [.ref (B + 0), .int (x), .int (y), .ref (B + 432)] (rg_Pre E B 433 rg_R0 M)) (rg_Wi E B 433 rg_R0 (fun k M1 => (k = 0 ∧ ∃ r M2, ((fun r => rg_hl M x ∧ r = M.1 10 x.toNatClampNeg) r ∧ M2 = rg_I M 10 x.toNatClampNeg y) ∧ M1 = rg_J M2 432 0 (if r = 0 then 0 else 1)) ∨ ((fun X => ¬ rg_hl M x ∧ X = "java/lang/IndexOutOfBoundsException") "java/lang/IndexOutOfBoundsException" ∧ k = 1 ∧ M1 = M))) 1 6 (rg_A B) := by
  refine rg_wofW (by decide +kernel) rfl (Nat.le_of_ble_eq_true rfl) ?_
  intro p e s m args below meth c ls hex C0 hH hl hr hlocks
  replace hl : lv_has ls 5 [(0, .ref (B + 0)), (1, .int (x)), (2, .int (y)), (3, .ref (B + 432))] := hl
  have hx := C0.1.1
  have hb := C0.1.2.1
  generalize hH9 : s.heap = H at hH ⊢
  generalize hL9 : ([] : List Loc) = locs at hH ⊢
  clear hH9 hL9
  refine lv_aload_n hx hb dL_hide_0 rfl (lv_at hl 3 rfl) ?_
  refine lv_iconst (v := 0) hx hb dL_hide_1 (by decide) ?_
  refine lv_aload_n hx hb dL_hide_2 rfl (lv_at hl 0 rfl) ?_
  refine lv_iload_n hx hb dL_hide_3 rfl (lv_at hl 1 rfl) ?_
  refine lv_iload_n hx hb dL_hide_4 rfl (lv_at hl 2 rfl) ?_
  refine rg_wcallRi C0 hH (As := [.int (x), .int (y)]) (rest := [.int (0), .ref (B + 432)]) (o := 0) (ci := 6) (k_X6_hide l hst E B M x y hI hy) (rg_cw 2 C0.1.2.2.2.2 tw_m_L_58 tw_i_X6_hide tw_v_X6_hide tw_n_X6 tw_c_X6_hide rfl rfl hd_X6_hide ⟨Nat.le_of_ble_eq_true rfl, Nat.le_of_ble_eq_true rfl⟩) rfl (by decide) rfl (by decide) rfl hl.1 rfl (Nat.le_of_ble_eq_true rfl) dL_hide_5 ⟨Nat.le_of_ble_eq_true rfl, Nat.le_of_ble_eq_true rfl⟩ (fun X ce q9 H locs hxp hH hcell hv9 hcl => ?_) (fun r9  H locs e9 hH => ?_)
  · have hxp0 := hxp
    rcases hxp with ⟨hx1, rfl⟩
    · refine rg_catch C0 [] ⟨0, 17, 20, 21⟩ [] (by rw [hex]; rfl) (fun z hz => by cases hz) (by decide) (by decide) (by decide) tw_k_L_21 hcell hv9 hcl ?_
      refine lv_astore (lv' := [(4, .ref q9), (0, .ref (B + 0)), (1, .int (x)), (2, .int (y)), (3, .ref (B + 432))]) hx hb dL_hide_20 hl (by decide) rfl (fun ls hl => ?_)
      refine lv_iconst (v := 1) hx hb dL_hide_22 (by decide) ?_
      exact rg_retWi C0 hH hr hlocks (by exact Or.inr (⟨hxp0, rfl, rfl⟩)) dL_hide_23
  · refine lv_if_eq (tgt := 15) hx hb dL_hide_8 (by decide) (fun c_8 => ?_) (fun c_8 => ?_)
    · refine lv_lconst (v := 0) hx hb dL_hide_15 (by decide) ?_
      refine rg_last C0 hH (o := 432) (by decide) rfl (rg_vin rfl (by exact (vp_in_nI (Nat.zero_lt_one) (by omega) : vp_in (nI 0) 1))) dL_hide_16 (fun H locs hH => ?_)
      refine lv_goto (tgt := 24) hx hb dL_hide_17 (by decide) ?_
      refine lv_iconst (v := 0) hx hb dL_hide_24 (by decide) ?_
      exact rg_retWi C0 hH hr hlocks (by exact Or.inl ⟨rfl, r9, _, ⟨e9, rfl⟩, by rw [if_pos c_8]; rfl⟩) dL_hide_25
    · refine lv_lconst (v := 1) hx hb dL_hide_11 (by decide) ?_
      refine lv_goto (tgt := 16) hx hb dL_hide_12 (by decide) ?_
      refine rg_last C0 hH (o := 432) (by decide) rfl (rg_vin rfl (by exact (vp_in_nI (Nat.zero_lt_one) (by omega) : vp_in (nI 0) 1))) dL_hide_16 (fun H locs hH => ?_)
      refine lv_goto (tgt := 24) hx hb dL_hide_17 (by decide) ?_
      refine lv_iconst (v := 0) hx hb dL_hide_24 (by decide) ?_
      exact rg_retWi C0 hH hr hlocks (by exact Or.inl ⟨rfl, r9, _, ⟨e9, rfl⟩, by rw [if_neg c_8]; rfl⟩) dL_hide_25

set_option maxHeartbeats 4000000 in
set_option maxRecDepth 100000 in
/-- wrapper ofLink -/
theorem k_L_ofLink (l : Launch) (hst : l.stackTraces = false) (E : rg_Env) (B : Nat) (M : rg_Mem) (x : Int32) (y : Int32) (hI : rg_CI M) : Met l yL_ofLink (rg_ww yL_ofLink cL_ofLink 5 (some (FieldType.int)) [(0, 10, 13, 21), (0, 10, 17, 13)]) ({ frames := 8, cells := 2, slots := 12, locals := 135 } : Room) (va_Pc [.ref (B + 0), .int (x), .int (y), .ref (B + 432)] (rg_Pre E B 433 rg_R0 M)) (rg_Wi E B 433 rg_R0 (fun k M1 => (k = 0 ∧ ∃ r M2, ((fun r => (rg_hl M x ∧ rg_in y 0 5) ∧ r = rg_ol M x.toNatClampNeg y.toNatClampNeg) r ∧ M2 = M) ∧ M1 = rg_J M2 432 0 r.toInt64) ∨ ((fun X => (¬ (rg_hl M x) ∧ X = "java/lang/IndexOutOfBoundsException") ∨ ((rg_hl M x) ∧ ¬ (rg_in y 0 5) ∧ X = "java/lang/IllegalArgumentException")) "java/lang/IndexOutOfBoundsException" ∧ k = 1 ∧ M1 = M) ∨ ((fun X => (¬ (rg_hl M x) ∧ X = "java/lang/IndexOutOfBoundsException") ∨ ((rg_hl M x) ∧ ¬ (rg_in y 0 5) ∧ X = "java/lang/IllegalArgumentException")) "java/lang/IllegalArgumentException" ∧ k = 2 ∧ M1 = M))) 2 12 (rg_A B) := by
  refine rg_wofW (by decide +kernel) rfl (Nat.le_of_ble_eq_true rfl) ?_
  intro p e s m args below meth c ls hex C0 hH hl hr hlocks
  replace hl : lv_has ls 5 [(0, .ref (B + 0)), (1, .int (x)), (2, .int (y)), (3, .ref (B + 432))] := hl
  have hx := C0.1.1
  have hb := C0.1.2.1
  generalize hH9 : s.heap = H at hH ⊢
  generalize hL9 : ([] : List Loc) = locs at hH ⊢
  clear hH9 hL9
  refine lv_aload_n hx hb dL_ofLink_0 rfl (lv_at hl 3 rfl) ?_
  refine lv_iconst (v := 0) hx hb dL_ofLink_1 (by decide) ?_
  refine lv_aload_n hx hb dL_ofLink_2 rfl (lv_at hl 0 rfl) ?_
  refine lv_iload_n hx hb dL_ofLink_3 rfl (lv_at hl 1 rfl) ?_
  refine lv_iload_n hx hb dL_ofLink_4 rfl (lv_at hl 2 rfl) ?_
  refine rg_wcallRi C0 hH (As := [.int (x), .int (y)]) (rest := [.int (0), .ref (B + 432)]) (o := 0) (ci := 6) (k_X6_ofLink l hst E B M x y hI) (rg_cw 2 C0.1.2.2.2.2 tw_m_L_62 tw_i_X6_ofLink tw_v_X6_ofLink tw_n_X6 tw_c_X6_ofLink rfl rfl hd_X6_ofLink ⟨Nat.le_of_ble_eq_true rfl, Nat.le_of_ble_eq_true rfl⟩) rfl (by decide) rfl (by decide) rfl hl.1 rfl (Nat.le_of_ble_eq_true rfl) dL_ofLink_5 ⟨Nat.le_of_ble_eq_true rfl, Nat.le_of_ble_eq_true rfl⟩ (fun X ce q9 H locs hxp hH hcell hv9 hcl => ?_) (fun r9  H locs e9 hH => ?_)
  · have hxp0 := hxp
    rcases hxp with ⟨hx1, rfl⟩ | ⟨hx1, hx2, rfl⟩
    · refine rg_catch C0 [] ⟨0, 10, 13, 21⟩ [⟨0, 10, 17, 13⟩] (by rw [hex]; rfl) (fun z hz => by cases hz) (by decide) (by decide) (by decide) tw_k_L_21 hcell hv9 hcl ?_
      refine lv_astore (lv' := [(4, .ref q9), (0, .ref (B + 0)), (1, .int (x)), (2, .int (y)), (3, .ref (B + 432))]) hx hb dL_ofLink_13 hl (by decide) rfl (fun ls hl => ?_)
      refine lv_iconst (v := 1) hx hb dL_ofLink_15 (by decide) ?_
      exact rg_retWi C0 hH hr hlocks (by exact Or.inr (Or.inl ⟨hxp0, rfl, rfl⟩)) dL_ofLink_16
    · refine rg_catch C0 [⟨0, 10, 13, 21⟩] ⟨0, 10, 17, 13⟩ [] (by rw [hex]; rfl) (fun z hz => by simp only [List.mem_cons, List.not_mem_nil, or_false] at hz; rcases hz with rfl; exact ⟨by decide, "java/lang/IndexOutOfBoundsException", by decide, by decide, tw_k_L_21⟩) (by decide) (by decide) (by decide) tw_k_L_13 hcell hv9 hcl ?_
      refine lv_astore (lv' := [(4, .ref q9), (0, .ref (B + 0)), (1, .int (x)), (2, .int (y)), (3, .ref (B + 432))]) hx hb dL_ofLink_17 hl (by decide) rfl (fun ls hl => ?_)
      refine lv_iconst (v := 2) hx hb dL_ofLink_19 (by decide) ?_
      exact rg_retWi C0 hH hr hlocks (by exact Or.inr (Or.inr (⟨hxp0, rfl, rfl⟩))) dL_ofLink_20
  · refine lv_i2l hx hb dL_ofLink_8 rfl ?_
    refine rg_last C0 hH (o := 432) (by decide) rfl (rg_vin rfl (by exact (vp_in_nI (Nat.zero_lt_one) (by omega) : vp_in (nI 0) 1))) dL_ofLink_9 (fun H locs hH => ?_)
    refine lv_goto (tgt := 21) hx hb dL_ofLink_10 (by decide) ?_
    refine lv_iconst (v := 0) hx hb dL_ofLink_21 (by decide) ?_
    exact rg_retWi C0 hH hr hlocks (by exact Or.inl ⟨rfl, r9, _, ⟨e9, rfl⟩, rfl⟩) dL_ofLink_22

set_option maxHeartbeats 4000000 in
set_option maxRecDepth 100000 in
/-- wrapper wordAt -/
theorem k_L_wordAt (l : Launch) (hst : l.stackTraces = false) (E : rg_Env) (B : Nat) (M : rg_Mem) (x : Int32) (y : Int32) (hI : rg_CI M) : Met l yL_wordAt (rg_ww yL_wordAt cL_wordAt 5 (some (FieldType.int)) [(0, 10, 13, 21)]) ({ frames := 8, cells := 2, slots := 12, locals := 134 } : Room) (va_Pc [.ref (B + 0), .int (x), .int (y), .ref (B + 432)] (rg_Pre E B 433 rg_R0 M)) (rg_Wi E B 433 rg_R0 (fun k M1 => (k = 0 ∧ ∃ r M2, ((fun r => (rg_hl M x ∧ ¬ rg_wp M x y = -1) ∧ r = rg_wp M x y) r ∧ M2 = M) ∧ M1 = rg_J M2 432 0 r.toInt64) ∨ ((fun X => ¬ (rg_hl M x ∧ ¬ rg_wp M x y = -1) ∧ X = "java/lang/IndexOutOfBoundsException") "java/lang/IndexOutOfBoundsException" ∧ k = 1 ∧ M1 = M))) 2 12 (rg_A B) := by
  refine rg_wofW (by decide +kernel) rfl (Nat.le_of_ble_eq_true rfl) ?_
  intro p e s m args below meth c ls hex C0 hH hl hr hlocks
  replace hl : lv_has ls 5 [(0, .ref (B + 0)), (1, .int (x)), (2, .int (y)), (3, .ref (B + 432))] := hl
  have hx := C0.1.1
  have hb := C0.1.2.1
  generalize hH9 : s.heap = H at hH ⊢
  generalize hL9 : ([] : List Loc) = locs at hH ⊢
  clear hH9 hL9
  refine lv_aload_n hx hb dL_wordAt_0 rfl (lv_at hl 3 rfl) ?_
  refine lv_iconst (v := 0) hx hb dL_wordAt_1 (by decide) ?_
  refine lv_aload_n hx hb dL_wordAt_2 rfl (lv_at hl 0 rfl) ?_
  refine lv_iload_n hx hb dL_wordAt_3 rfl (lv_at hl 1 rfl) ?_
  refine lv_iload_n hx hb dL_wordAt_4 rfl (lv_at hl 2 rfl) ?_
  refine rg_wcallRi C0 hH (As := [.int (x), .int (y)]) (rest := [.int (0), .ref (B + 432)]) (o := 0) (ci := 6) (k_X6_wordAt l hst E B M x y hI) (rg_cw 2 C0.1.2.2.2.2 tw_m_L_65 tw_i_X6_wordAt tw_v_X6_wordAt tw_n_X6 tw_c_X6_wordAt rfl rfl hd_X6_wordAt ⟨Nat.le_of_ble_eq_true rfl, Nat.le_of_ble_eq_true rfl⟩) rfl (by decide) rfl (by decide) rfl hl.1 rfl (Nat.le_of_ble_eq_true rfl) dL_wordAt_5 ⟨Nat.le_of_ble_eq_true rfl, Nat.le_of_ble_eq_true rfl⟩ (fun X ce q9 H locs hxp hH hcell hv9 hcl => ?_) (fun r9  H locs e9 hH => ?_)
  · have hxp0 := hxp
    rcases hxp with ⟨hx1, rfl⟩
    · refine rg_catch C0 [] ⟨0, 10, 13, 21⟩ [] (by rw [hex]; rfl) (fun z hz => by cases hz) (by decide) (by decide) (by decide) tw_k_L_21 hcell hv9 hcl ?_
      refine lv_astore (lv' := [(4, .ref q9), (0, .ref (B + 0)), (1, .int (x)), (2, .int (y)), (3, .ref (B + 432))]) hx hb dL_wordAt_13 hl (by decide) rfl (fun ls hl => ?_)
      refine lv_iconst (v := 1) hx hb dL_wordAt_15 (by decide) ?_
      exact rg_retWi C0 hH hr hlocks (by exact Or.inr (⟨hxp0, rfl, rfl⟩)) dL_wordAt_16
  · refine lv_i2l hx hb dL_wordAt_8 rfl ?_
    refine rg_last C0 hH (o := 432) (by decide) rfl (rg_vin rfl (by exact (vp_in_nI (Nat.zero_lt_one) (by omega) : vp_in (nI 0) 1))) dL_wordAt_9 (fun H locs hH => ?_)
    refine lv_goto (tgt := 17) hx hb dL_wordAt_10 (by decide) ?_
    refine lv_iconst (v := 0) hx hb dL_wordAt_17 (by decide) ?_
    exact rg_retWi C0 hH hr hlocks (by exact Or.inl ⟨rfl, r9, _, ⟨e9, rfl⟩, rfl⟩) dL_wordAt_18

set_option maxHeartbeats 4000000 in
set_option maxRecDepth 100000 in
/-- wrapper faultAnew -/
theorem k_L_faultAnew (l : Launch) (hst : l.stackTraces = false) (E : rg_Env) (B : Nat) (M : rg_Mem) (x : Int32) (hI : rg_CI M) : Met l yL_faultAnew (rg_ww yL_faultAnew cL_faultAnew 4 (some (FieldType.int)) [(0, 9, 12, 21)]) ({ frames := 8, cells := 1, slots := 6, locals := 159 } : Room) (va_Pc [.ref (B + 0), .int (x), .ref (B + 432)] (rg_Pre E B 433 rg_R0 M)) (rg_Wi E B 433 rg_R0 (fun k M1 => (k = 0 ∧ ∃ r M2, ((fun r => rg_hl M x ∧ r = rg_f8 (rg_co M (17 + 2 * x.toNatClampNeg) (rg_sz M (17 + 2 * x.toNatClampNeg)) x.toNatClampNeg (rg_sp M) (M.1 9 x.toNatClampNeg)) 8 1) r ∧ M2 = M) ∧ M1 = rg_J M2 432 0 r.toInt64) ∨ ((fun X => ¬ rg_hl M x ∧ X = "java/lang/IndexOutOfBoundsException") "java/lang/IndexOutOfBoundsException" ∧ k = 1 ∧ M1 = M))) 1 6 (rg_A B) := by
  refine rg_wofW (by decide +kernel) rfl (Nat.le_of_ble_eq_true rfl) ?_
  intro p e s m args below meth c ls hex C0 hH hl hr hlocks
  replace hl : lv_has ls 4 [(0, .ref (B + 0)), (1, .int (x)), (2, .ref (B + 432))] := hl
  have hx := C0.1.1
  have hb := C0.1.2.1
  generalize hH9 : s.heap = H at hH ⊢
  generalize hL9 : ([] : List Loc) = locs at hH ⊢
  clear hH9 hL9
  refine lv_aload_n hx hb dL_faultAnew_0 rfl (lv_at hl 2 rfl) ?_
  refine lv_iconst (v := 0) hx hb dL_faultAnew_1 (by decide) ?_
  refine lv_aload_n hx hb dL_faultAnew_2 rfl (lv_at hl 0 rfl) ?_
  refine lv_iload_n hx hb dL_faultAnew_3 rfl (lv_at hl 1 rfl) ?_
  refine rg_wcallRi C0 hH (As := [.int (x)]) (rest := [.int (0), .ref (B + 432)]) (o := 0) (ci := 6) (k_X6_faultAnew l hst E B M x hI) (rg_cw 1 C0.1.2.2.2.2 tw_m_L_68 tw_i_X6_faultAnew tw_v_X6_faultAnew tw_n_X6 tw_c_X6_faultAnew rfl rfl hd_X6_faultAnew ⟨Nat.le_of_ble_eq_true rfl, Nat.le_of_ble_eq_true rfl⟩) rfl (by decide) rfl (by decide) rfl hl.1 rfl (Nat.le_of_ble_eq_true rfl) dL_faultAnew_4 ⟨Nat.le_of_ble_eq_true rfl, Nat.le_of_ble_eq_true rfl⟩ (fun X ce q9 H locs hxp hH hcell hv9 hcl => ?_) (fun r9  H locs e9 hH => ?_)
  · have hxp0 := hxp
    rcases hxp with ⟨hx1, rfl⟩
    · refine rg_catch C0 [] ⟨0, 9, 12, 21⟩ [] (by rw [hex]; rfl) (fun z hz => by cases hz) (by decide) (by decide) (by decide) tw_k_L_21 hcell hv9 hcl ?_
      refine lv_astore_n (lv' := [(3, .ref q9), (0, .ref (B + 0)), (1, .int (x)), (2, .ref (B + 432))]) hx hb dL_faultAnew_12 rfl hl (by decide) rfl (fun ls hl => ?_)
      refine lv_iconst (v := 1) hx hb dL_faultAnew_13 (by decide) ?_
      exact rg_retWi C0 hH hr hlocks (by exact Or.inr (⟨hxp0, rfl, rfl⟩)) dL_faultAnew_14
  · refine lv_i2l hx hb dL_faultAnew_7 rfl ?_
    refine rg_last C0 hH (o := 432) (by decide) rfl (rg_vin rfl (by exact (vp_in_nI (Nat.zero_lt_one) (by omega) : vp_in (nI 0) 1))) dL_faultAnew_8 (fun H locs hH => ?_)
    refine lv_goto (tgt := 15) hx hb dL_faultAnew_9 (by decide) ?_
    refine lv_iconst (v := 0) hx hb dL_faultAnew_15 (by decide) ?_
    exact rg_retWi C0 hH hr hlocks (by exact Or.inl ⟨rfl, r9, _, ⟨e9, rfl⟩, rfl⟩) dL_faultAnew_16

set_option maxHeartbeats 4000000 in
set_option maxRecDepth 100000 in
/-- wrapper chances -/
theorem k_L_chances (l : Launch) (hst : l.stackTraces = false) (E : rg_Env) (B : Nat) (M : rg_Mem) (z : Int32) (hI : rg_CI M) : Met l yL_chances (rg_ww yL_chances cL_chances 4 (some (FieldType.int)) [(0, 9, 12, 21)]) ({ frames := 8, cells := 1, slots := 6, locals := 185 } : Room) (va_Pc [.ref (B + 0), .int (z), .ref (B + 432)] (rg_Pre E B 433 rg_R0 M)) (rg_Wi E B 433 rg_R0 (fun k M1 => (k = 0 ∧ ∃ r M2, (fun r M1 => rg_pt M z ∧ rg_off M M1 92 ∧ r = if ¬ M.1 6 0 ≤ M.1 6 4 then rg_c1 M z (rg_nw M) else 0) r M2 ∧ M1 = rg_J M2 432 0 r.toInt64) ∨ ((fun X => ¬ rg_pt M z ∧ X = "java/lang/IndexOutOfBoundsException") "java/lang/IndexOutOfBoundsException" ∧ k = 1 ∧ M1 = M))) 1 6 (rg_A B) := by
  refine rg_wofW (by decide +kernel) rfl (Nat.le_of_ble_eq_true rfl) ?_
  intro p e s m args below meth c ls hex C0 hH hl hr hlocks
  replace hl : lv_has ls 4 [(0, .ref (B + 0)), (1, .int (z)), (2, .ref (B + 432))] := hl
  have hx := C0.1.1
  have hb := C0.1.2.1
  generalize hH9 : s.heap = H at hH ⊢
  generalize hL9 : ([] : List Loc) = locs at hH ⊢
  clear hH9 hL9
  refine lv_aload_n hx hb dL_chances_0 rfl (lv_at hl 2 rfl) ?_
  refine lv_iconst (v := 0) hx hb dL_chances_1 (by decide) ?_
  refine lv_aload_n hx hb dL_chances_2 rfl (lv_at hl 0 rfl) ?_
  refine lv_iload_n hx hb dL_chances_3 rfl (lv_at hl 1 rfl) ?_
  refine rg_wcallWi C0 hH (As := [.int (z)]) (rest := [.int (0), .ref (B + 432)]) (o := 0) (ci := 6) (k_X6_chances l hst E B M z hI) (rg_cw 1 C0.1.2.2.2.2 tw_m_L_71 tw_i_X6_chances tw_v_X6_chances tw_n_X6 tw_c_X6_chances rfl rfl hd_X6_chances ⟨Nat.le_of_ble_eq_true rfl, Nat.le_of_ble_eq_true rfl⟩) rfl (by decide) rfl (by decide) rfl hl.1 rfl (Nat.le_of_ble_eq_true rfl) dL_chances_4 ⟨Nat.le_of_ble_eq_true rfl, Nat.le_of_ble_eq_true rfl⟩ (fun X ce q9 H locs hxp hH hcell hv9 hcl => ?_) (fun r9 M9 H locs e9 hH => ?_)
  · have hxp0 := hxp
    rcases hxp with ⟨hx1, rfl⟩
    · refine rg_catch C0 [] ⟨0, 9, 12, 21⟩ [] (by rw [hex]; rfl) (fun z hz => by cases hz) (by decide) (by decide) (by decide) tw_k_L_21 hcell hv9 hcl ?_
      refine lv_astore_n (lv' := [(3, .ref q9), (0, .ref (B + 0)), (1, .int (z)), (2, .ref (B + 432))]) hx hb dL_chances_12 rfl hl (by decide) rfl (fun ls hl => ?_)
      refine lv_iconst (v := 1) hx hb dL_chances_13 (by decide) ?_
      exact rg_retWi C0 hH hr hlocks (by exact Or.inr (⟨hxp0, rfl, rfl⟩)) dL_chances_14
  · refine lv_i2l hx hb dL_chances_7 rfl ?_
    refine rg_last C0 hH (o := 432) (by decide) rfl (rg_vin rfl (by exact (vp_in_nI (Nat.zero_lt_one) (by omega) : vp_in (nI 0) 1))) dL_chances_8 (fun H locs hH => ?_)
    refine lv_goto (tgt := 15) hx hb dL_chances_9 (by decide) ?_
    refine lv_iconst (v := 0) hx hb dL_chances_15 (by decide) ?_
    exact rg_retWi C0 hH hr hlocks (by exact Or.inl ⟨rfl, r9, _, e9, rfl⟩) dL_chances_16

set_option maxHeartbeats 4000000 in
set_option maxRecDepth 100000 in
/-- wrapper far -/
theorem k_L_far (l : Launch) (hst : l.stackTraces = false) (E : rg_Env) (B : Nat) (M : rg_Mem) (t : Int32) (u : Int32) (hI : rg_CI M) : Met l yL_far (rg_ww yL_far cL_far 5 (some (FieldType.int)) [(0, 10, 13, 21), (0, 10, 17, 15)]) ({ frames := 9, cells := 3, slots := 18, locals := 154 } : Room) (va_Pc [.ref (B + 0), .int (t), .int (u), .ref (B + 432)] (rg_Pre E B 433 rg_R0 M)) (rg_Wi E B 433 rg_R0 (fun k M1 => (k = 0 ∧ ∃ r M2, ((fun r => ((rg_tx M t ∧ rg_tx M u) ∧ ¬ M.1 6 0 ≤ 0) ∧ r = rg_fa M t u) r ∧ M2 = M) ∧ M1 = rg_J M2 432 0 r.toInt64) ∨ ((fun X => (¬ (rg_tx M t ∧ rg_tx M u) ∧ X = "java/lang/IndexOutOfBoundsException") ∨ ((rg_tx M t ∧ rg_tx M u) ∧ ¬ (¬ M.1 6 0 ≤ 0) ∧ X = "java/lang/IllegalStateException")) "java/lang/IndexOutOfBoundsException" ∧ k = 1 ∧ M1 = M) ∨ ((fun X => (¬ (rg_tx M t ∧ rg_tx M u) ∧ X = "java/lang/IndexOutOfBoundsException") ∨ ((rg_tx M t ∧ rg_tx M u) ∧ ¬ (¬ M.1 6 0 ≤ 0) ∧ X = "java/lang/IllegalStateException")) "java/lang/IllegalStateException" ∧ k = 2 ∧ M1 = M))) 3 18 (rg_A B) := by
  refine rg_wofW (by decide +kernel) rfl (Nat.le_of_ble_eq_true rfl) ?_
  intro p e s m args below meth c ls hex C0 hH hl hr hlocks
  replace hl : lv_has ls 5 [(0, .ref (B + 0)), (1, .int (t)), (2, .int (u)), (3, .ref (B + 432))] := hl
  have hx := C0.1.1
  have hb := C0.1.2.1
  generalize hH9 : s.heap = H at hH ⊢
  generalize hL9 : ([] : List Loc) = locs at hH ⊢
  clear hH9 hL9
  refine lv_aload_n hx hb dL_far_0 rfl (lv_at hl 3 rfl) ?_
  refine lv_iconst (v := 0) hx hb dL_far_1 (by decide) ?_
  refine lv_aload_n hx hb dL_far_2 rfl (lv_at hl 0 rfl) ?_
  refine lv_iload_n hx hb dL_far_3 rfl (lv_at hl 1 rfl) ?_
  refine lv_iload_n hx hb dL_far_4 rfl (lv_at hl 2 rfl) ?_
  refine rg_wcallRi C0 hH (As := [.int (t), .int (u)]) (rest := [.int (0), .ref (B + 432)]) (o := 0) (ci := 6) (k_X6_far l hst E B M t u hI) (rg_cw 2 C0.1.2.2.2.2 tw_m_L_74 tw_i_X6_far tw_v_X6_far tw_n_X6 tw_c_X6_far rfl rfl hd_X6_far ⟨Nat.le_of_ble_eq_true rfl, Nat.le_of_ble_eq_true rfl⟩) rfl (by decide) rfl (by decide) rfl hl.1 rfl (Nat.le_of_ble_eq_true rfl) dL_far_5 ⟨Nat.le_of_ble_eq_true rfl, Nat.le_of_ble_eq_true rfl⟩ (fun X ce q9 H locs hxp hH hcell hv9 hcl => ?_) (fun r9  H locs e9 hH => ?_)
  · have hxp0 := hxp
    rcases hxp with ⟨hx1, rfl⟩ | ⟨hx1, hx2, rfl⟩
    · refine rg_catch C0 [] ⟨0, 10, 13, 21⟩ [⟨0, 10, 17, 15⟩] (by rw [hex]; rfl) (fun z hz => by cases hz) (by decide) (by decide) (by decide) tw_k_L_21 hcell hv9 hcl ?_
      refine lv_astore (lv' := [(4, .ref q9), (0, .ref (B + 0)), (1, .int (t)), (2, .int (u)), (3, .ref (B + 432))]) hx hb dL_far_13 hl (by decide) rfl (fun ls hl => ?_)
      refine lv_iconst (v := 1) hx hb dL_far_15 (by decide) ?_
      exact rg_retWi C0 hH hr hlocks (by exact Or.inr (Or.inl ⟨hxp0, rfl, rfl⟩)) dL_far_16
    · refine rg_catch C0 [⟨0, 10, 13, 21⟩] ⟨0, 10, 17, 15⟩ [] (by rw [hex]; rfl) (fun z hz => by simp only [List.mem_cons, List.not_mem_nil, or_false] at hz; rcases hz with rfl; exact ⟨by decide, "java/lang/IndexOutOfBoundsException", by decide, by decide, tw_k_L_21⟩) (by decide) (by decide) (by decide) tw_k_L_15 hcell hv9 hcl ?_
      refine lv_astore (lv' := [(4, .ref q9), (0, .ref (B + 0)), (1, .int (t)), (2, .int (u)), (3, .ref (B + 432))]) hx hb dL_far_17 hl (by decide) rfl (fun ls hl => ?_)
      refine lv_iconst (v := 2) hx hb dL_far_19 (by decide) ?_
      exact rg_retWi C0 hH hr hlocks (by exact Or.inr (Or.inr (⟨hxp0, rfl, rfl⟩))) dL_far_20
  · refine lv_i2l hx hb dL_far_8 rfl ?_
    refine rg_last C0 hH (o := 432) (by decide) rfl (rg_vin rfl (by exact (vp_in_nI (Nat.zero_lt_one) (by omega) : vp_in (nI 0) 1))) dL_far_9 (fun H locs hH => ?_)
    refine lv_goto (tgt := 21) hx hb dL_far_10 (by decide) ?_
    refine lv_iconst (v := 0) hx hb dL_far_21 (by decide) ?_
    exact rg_retWi C0 hH hr hlocks (by exact Or.inl ⟨rfl, r9, _, ⟨e9, rfl⟩, rfl⟩) dL_far_22

set_option maxHeartbeats 4000000 in
set_option maxRecDepth 100000 in
/-- wrapper source -/
theorem k_L_source (l : Launch) (hst : l.stackTraces = false) (E : rg_Env) (B : Nat) (M : rg_Mem) (x : Int32) (hI : rg_CI M) : Met l yL_source (rg_ww yL_source cL_source 4 (some (FieldType.int)) [(0, 9, 12, 21)]) ({ frames := 8, cells := 1, slots := 6, locals := 136 } : Room) (va_Pc [.ref (B + 0), .int (x), .ref (B + 432)] (rg_Pre E B 433 rg_R0 M)) (rg_Wi E B 433 rg_R0 (fun k M1 => (k = 0 ∧ ∃ r M2, ((fun r => rg_cp M x ∧ r = (rg_so (fun k => rg_fa M x (nI k)) (rg_fa M x (-1)) x (rg_nc M)).1) r ∧ M2 = M) ∧ M1 = rg_J M2 432 0 r.toInt64) ∨ ((fun X => ¬ rg_cp M x ∧ X = "java/lang/IndexOutOfBoundsException") "java/lang/IndexOutOfBoundsException" ∧ k = 1 ∧ M1 = M))) 1 6 (rg_A B) := by
  refine rg_wofW (by decide +kernel) rfl (Nat.le_of_ble_eq_true rfl) ?_
  intro p e s m args below meth c ls hex C0 hH hl hr hlocks
  replace hl : lv_has ls 4 [(0, .ref (B + 0)), (1, .int (x)), (2, .ref (B + 432))] := hl
  have hx := C0.1.1
  have hb := C0.1.2.1
  generalize hH9 : s.heap = H at hH ⊢
  generalize hL9 : ([] : List Loc) = locs at hH ⊢
  clear hH9 hL9
  refine lv_aload_n hx hb dL_source_0 rfl (lv_at hl 2 rfl) ?_
  refine lv_iconst (v := 0) hx hb dL_source_1 (by decide) ?_
  refine lv_aload_n hx hb dL_source_2 rfl (lv_at hl 0 rfl) ?_
  refine lv_iload_n hx hb dL_source_3 rfl (lv_at hl 1 rfl) ?_
  refine rg_wcallRi C0 hH (As := [.int (x)]) (rest := [.int (0), .ref (B + 432)]) (o := 0) (ci := 6) (k_X6_source l hst E B M x hI) (rg_cw 1 C0.1.2.2.2.2 tw_m_L_77 tw_i_X6_source tw_v_X6_source tw_n_X6 tw_c_X6_source rfl rfl hd_X6_source ⟨Nat.le_of_ble_eq_true rfl, Nat.le_of_ble_eq_true rfl⟩) rfl (by decide) rfl (by decide) rfl hl.1 rfl (Nat.le_of_ble_eq_true rfl) dL_source_4 ⟨Nat.le_of_ble_eq_true rfl, Nat.le_of_ble_eq_true rfl⟩ (fun X ce q9 H locs hxp hH hcell hv9 hcl => ?_) (fun r9  H locs e9 hH => ?_)
  · have hxp0 := hxp
    rcases hxp with ⟨hx1, rfl⟩
    · refine rg_catch C0 [] ⟨0, 9, 12, 21⟩ [] (by rw [hex]; rfl) (fun z hz => by cases hz) (by decide) (by decide) (by decide) tw_k_L_21 hcell hv9 hcl ?_
      refine lv_astore_n (lv' := [(3, .ref q9), (0, .ref (B + 0)), (1, .int (x)), (2, .ref (B + 432))]) hx hb dL_source_12 rfl hl (by decide) rfl (fun ls hl => ?_)
      refine lv_iconst (v := 1) hx hb dL_source_13 (by decide) ?_
      exact rg_retWi C0 hH hr hlocks (by exact Or.inr (⟨hxp0, rfl, rfl⟩)) dL_source_14
  · refine lv_i2l hx hb dL_source_7 rfl ?_
    refine rg_last C0 hH (o := 432) (by decide) rfl (rg_vin rfl (by exact (vp_in_nI (Nat.zero_lt_one) (by omega) : vp_in (nI 0) 1))) dL_source_8 (fun H locs hH => ?_)
    refine lv_goto (tgt := 15) hx hb dL_source_9 (by decide) ?_
    refine lv_iconst (v := 0) hx hb dL_source_15 (by decide) ?_
    exact rg_retWi C0 hH hr hlocks (by exact Or.inl ⟨rfl, r9, _, ⟨e9, rfl⟩, rfl⟩) dL_source_16

set_option maxHeartbeats 4000000 in
set_option maxRecDepth 100000 in
/-- wrapper hand -/
theorem k_L_hand (l : Launch) (hst : l.stackTraces = false) (E : rg_Env) (B : Nat) (M : rg_Mem) (x : Int32) (hI : rg_CI M) : Met l yL_hand (rg_ww yL_hand cL_hand 4 (some (FieldType.int)) [(0, 9, 12, 21)]) ({ frames := 8, cells := 1, slots := 6, locals := 133 } : Room) (va_Pc [.ref (B + 0), .int (x), .ref (B + 432)] (rg_Pre E B 433 rg_R0 M)) (rg_Wi E B 433 rg_R0 (fun k M1 => (k = 0 ∧ ∃ r M2, ((fun r => rg_hl M x ∧ r = rg_gr ((rg_hd M x.toNatClampNeg (rg_nl M)).1 95) ((rg_hd M x.toNatClampNeg (rg_nl M)).1 96) 6) r ∧ M2 = rg_hd M x.toNatClampNeg (rg_nl M)) ∧ M1 = rg_J M2 432 0 r.toInt64) ∨ ((fun X => ¬ rg_hl M x ∧ X = "java/lang/IndexOutOfBoundsException") "java/lang/IndexOutOfBoundsException" ∧ k = 1 ∧ M1 = M))) 1 6 (rg_A B) := by
  refine rg_wofW (by decide +kernel) rfl (Nat.le_of_ble_eq_true rfl) ?_
  intro p e s m args below meth c ls hex C0 hH hl hr hlocks
  replace hl : lv_has ls 4 [(0, .ref (B + 0)), (1, .int (x)), (2, .ref (B + 432))] := hl
  have hx := C0.1.1
  have hb := C0.1.2.1
  generalize hH9 : s.heap = H at hH ⊢
  generalize hL9 : ([] : List Loc) = locs at hH ⊢
  clear hH9 hL9
  refine lv_aload_n hx hb dL_hand_0 rfl (lv_at hl 2 rfl) ?_
  refine lv_iconst (v := 0) hx hb dL_hand_1 (by decide) ?_
  refine lv_aload_n hx hb dL_hand_2 rfl (lv_at hl 0 rfl) ?_
  refine lv_iload_n hx hb dL_hand_3 rfl (lv_at hl 1 rfl) ?_
  refine rg_wcallRi C0 hH (As := [.int (x)]) (rest := [.int (0), .ref (B + 432)]) (o := 0) (ci := 6) (k_X6_hand l hst E B M x hI) (rg_cw 1 C0.1.2.2.2.2 tw_m_L_80 tw_i_X6_hand tw_v_X6_hand tw_n_X6 tw_c_X6_hand rfl rfl hd_X6_hand ⟨Nat.le_of_ble_eq_true rfl, Nat.le_of_ble_eq_true rfl⟩) rfl (by decide) rfl (by decide) rfl hl.1 rfl (Nat.le_of_ble_eq_true rfl) dL_hand_4 ⟨Nat.le_of_ble_eq_true rfl, Nat.le_of_ble_eq_true rfl⟩ (fun X ce q9 H locs hxp hH hcell hv9 hcl => ?_) (fun r9  H locs e9 hH => ?_)
  · have hxp0 := hxp
    rcases hxp with ⟨hx1, rfl⟩
    · refine rg_catch C0 [] ⟨0, 9, 12, 21⟩ [] (by rw [hex]; rfl) (fun z hz => by cases hz) (by decide) (by decide) (by decide) tw_k_L_21 hcell hv9 hcl ?_
      refine lv_astore_n (lv' := [(3, .ref q9), (0, .ref (B + 0)), (1, .int (x)), (2, .ref (B + 432))]) hx hb dL_hand_12 rfl hl (by decide) rfl (fun ls hl => ?_)
      refine lv_iconst (v := 1) hx hb dL_hand_13 (by decide) ?_
      exact rg_retWi C0 hH hr hlocks (by exact Or.inr (⟨hxp0, rfl, rfl⟩)) dL_hand_14
  · refine lv_i2l hx hb dL_hand_7 rfl ?_
    refine rg_last C0 hH (o := 432) (by decide) rfl (rg_vin rfl (by exact (vp_in_nI (Nat.zero_lt_one) (by omega) : vp_in (nI 0) 1))) dL_hand_8 (fun H locs hH => ?_)
    refine lv_goto (tgt := 15) hx hb dL_hand_9 (by decide) ?_
    refine lv_iconst (v := 0) hx hb dL_hand_15 (by decide) ?_
    exact rg_retWi C0 hH hr hlocks (by exact Or.inl ⟨rfl, r9, _, ⟨e9, rfl⟩, rfl⟩) dL_hand_16
