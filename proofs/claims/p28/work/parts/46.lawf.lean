set_option maxHeartbeats 4000000 in
set_option maxRecDepth 100000 in
/-- the fault of a row of words as the next link -/
theorem k_L_looked (l : Launch) (E : rg_Env) (B : Nat) (M : rg_Mem) (n : Nat) (dc : Nat) (j : Nat) (sp : Nat) (po : Int32) (hn : 422 ≤ n) (hT : lw_TI M) (hW : lw_WI M) (hj : j < 10) (hsp : M.1 417 0 = nI sp) (hs10 : sp ≤ 10) (hm3 : M.1 417 3 = nI j) (hz : ∀ k, k < 6 → M.1 414 (6 * j + k) = 0) (hdc : rg_hv n dc) (hdk : rg_kd dc = 8) (hdl : rg_ln dc = 6) (hd4 : dc ≠ 414) (hd : ∀ k, k < 6 → ∃ a, a ≤ 16 ∧ M.1 dc k = nI a) : Met l yL_looked (rg_w yL_looked cL_looked 9 (some (FieldType.int))) ({ frames := 4, cells := 0, slots := 0, locals := 105 } : Room) (va_Pc [.ref (B + 412), .ref (B + 413), .ref (B + 414), .ref (B + 415), .ref (B + 417), .ref (B + dc), .int (po)] (rg_Pre E B n rg_R0 M)) (rg_Ri E B n rg_R0 (M) (fun r => r = lw_fl (lw_cs (lw_row M j (M.1 dc)) j sp po))) 0 0 (rg_A B) := by
  refine rg_ofW (by decide +kernel) rfl (Nat.le_of_ble_eq_true rfl) ?_
  intro p e s m args below meth c ls C0 hH hl hr hlocks hnm
  replace hl : lv_has ls 9 [(0, .ref (B + 412)), (1, .ref (B + 413)), (2, .ref (B + 414)), (3, .ref (B + 415)), (4, .ref (B + 417)), (5, .ref (B + dc)), (6, .int (po))] := hl
  have hx := C0.1.1
  have hb := C0.1.2.1
  generalize hH9 : s.heap = H at hH ⊢
  generalize hL9 : ([] : List Loc) = locs at hH ⊢
  clear hH9 hL9
  refine lv_iconst (v := 0) hx hb dL_looked_0 (by decide) ?_
  refine lv_istore (lv' := [(7, .int (0)), (0, .ref (B + 412)), (1, .ref (B + 413)), (2, .ref (B + 414)), (3, .ref (B + 415)), (4, .ref (B + 417)), (5, .ref (B + dc)), (6, .int (po))]) hx hb dL_looked_1 hl (by decide) rfl (fun ls hl => ?_)
  have cut_3 : ∀ (fu i : Nat), i ≤ 6 ∧ 6 < i + fu → ∀  (H : Heap) (locs : List Loc) (ls : Array Slot), rg_H E B n rg_R0 (lw_pt M j (M.1 dc) i) s H locs → lv_has ls 9 [(0, .ref (B + 412)), (1, .ref (B + 413)), (2, .ref (B + 414)), (3, .ref (B + 415)), (4, .ref (B + 417)), (5, .ref (B + dc)), (6, .int (po)), (7, .int (nI i))] → W p l e ({ frames := 4, cells := 0, slots := 0, locals := 105 } : Room) s m args below meth c H locs 0 0 (MQ below (rg_Ri E B n rg_R0 (M) (fun r => r = lw_fl (lw_cs (lw_row M j (M.1 dc)) j sp po))) args s 0 0 (rg_A B)) (F0 m 3 ls []) := by
    intro fu
    induction fu with
    | zero =>
      intro i hm
      exact absurd hm (by omega)
    | succ fu ih =>
      intro i hm  H locs ls hH hl 
      refine lv_iload hx hb dL_looked_3 (lv_at hl 7 rfl) ?_
      refine lv_bipush (v := 6) hx hb dL_looked_5 (by decide) ?_
      refine lv_icmp_ge (tgt := 33) hx hb dL_looked_7 (by decide) (fun c_7 => ?_) (fun c_7 => ?_)
      · have q6 : i = 6 := rg_lp_end (n := 6) hm.1 (by omega) c_7
        subst q6
        replace hH := rg_H_eq (show lw_pt M j (M.1 dc) 6 = lw_row M j (M.1 dc) from rfl) hH
        refine lv_aload_n hx hb dL_looked_33 rfl (lv_at hl 0 rfl) ?_
        refine lv_aload_n hx hb dL_looked_34 rfl (lv_at hl 1 rfl) ?_
        refine lv_aload_n hx hb dL_looked_35 rfl (lv_at hl 2 rfl) ?_
        refine lv_aload_n hx hb dL_looked_36 rfl (lv_at hl 3 rfl) ?_
        refine lv_aload hx hb dL_looked_37 (lv_at hl 4 rfl) ?_
        refine lv_aload hx hb dL_looked_39 (lv_at hl 4 rfl) ?_
        refine lv_iconst (v := 3) hx hb dL_looked_41 (by decide) ?_
        refine rg_topi (y := nI 3) (by exact rfl) ?_
        refine rg_ialdN C0 hH (o := 417) (j := 3) (n0 := 9) (by omega) rfl rfl (by omega) dL_looked_42 ?_
        refine rg_topi (y := nI j) (by rw [lw_row_c (by omega)]; exact hm3) ?_
        refine lv_iload hx hb dL_looked_43 (lv_at hl 6 rfl) ?_
        refine rg_callSGi C0 hH (As := [.ref (B + 412), .ref (B + 413), .ref (B + 414), .ref (B + 415), .ref (B + 417), .int (nI j), .int (po)]) (rest := []) (k_L_fault l E B (lw_row M j (M.1 dc)) n j sp po (by assumption) (lw_TI_row hT hd) (lw_WI_row hW) (by assumption) (by rw [lw_row_c (by omega)]; exact hsp) (by assumption)) (rg_cwS 7 C0.1.2.2.2.2 tw_m_L_42 tw_s_L_fault tw_n_L tw_c_L_fault rfl rfl hd_L_fault ⟨Nat.le_of_ble_eq_true rfl, Nat.le_of_ble_eq_true rfl⟩) rfl hl.1 rfl (Nat.le_of_ble_eq_true rfl) dL_looked_45 ⟨Nat.le_of_ble_eq_true rfl, Nat.le_of_ble_eq_true rfl⟩ (fun H locs hH => ?_)
        refine lv_istore (lv' := [(7, .int (lw_fl (lw_cs (lw_row M j (M.1 dc)) j sp po))), (0, .ref (B + 412)), (1, .ref (B + 413)), (2, .ref (B + 414)), (3, .ref (B + 415)), (4, .ref (B + 417)), (5, .ref (B + dc)), (6, .int (po))]) hx hb dL_looked_48 hl (by decide) rfl (fun ls hl => ?_)
        refine lv_iconst (v := 0) hx hb dL_looked_50 (by decide) ?_
        refine lv_istore (lv' := [(8, .int (0)), (7, .int (lw_fl (lw_cs (lw_row M j (M.1 dc)) j sp po))), (0, .ref (B + 412)), (1, .ref (B + 413)), (2, .ref (B + 414)), (3, .ref (B + 415)), (4, .ref (B + 417)), (5, .ref (B + dc)), (6, .int (po))]) hx hb dL_looked_51 hl (by decide) rfl (fun ls hl => ?_)
        have cut_53 : ∀ (fu2 i2 : Nat), i2 ≤ 6 ∧ 6 < i2 + fu2 → ∀  (H : Heap) (locs : List Loc) (ls : Array Slot), rg_H E B n rg_R0 (lw_zr (lw_row M j (M.1 dc)) j i2) s H locs → lv_has ls 9 [(0, .ref (B + 412)), (1, .ref (B + 413)), (2, .ref (B + 414)), (3, .ref (B + 415)), (4, .ref (B + 417)), (5, .ref (B + dc)), (6, .int (po)), (7, .int (lw_fl (lw_cs (lw_row M j (M.1 dc)) j sp po))), (8, .int (nI i2))] → W p l e ({ frames := 4, cells := 0, slots := 0, locals := 105 } : Room) s m args below meth c H locs 0 0 (MQ below (rg_Ri E B n rg_R0 (M) (fun r => r = lw_fl (lw_cs (lw_row M j (M.1 dc)) j sp po))) args s 0 0 (rg_A B)) (F0 m 53 ls []) := by
          intro fu2
          induction fu2 with
          | zero =>
            intro i2 hm2
            exact absurd hm2 (by omega)
          | succ fu2 ih2 =>
            intro i2 hm2  H locs ls hH hl 
            refine lv_iload hx hb dL_looked_53 (lv_at hl 8 rfl) ?_
            refine lv_bipush (v := 6) hx hb dL_looked_55 (by decide) ?_
            refine lv_icmp_ge (tgt := 79) hx hb dL_looked_57 (by decide) (fun c_57 => ?_) (fun c_57 => ?_)
            · refine lv_iload hx hb dL_looked_79 (lv_at hl 7 rfl) ?_
              exact rg_retRi C0 hH hr hlocks (by rw [rg_lp_end (n := 6) hm2.1 (by omega) c_57]; exact lw_zr_e hz) rfl dL_looked_81
            · have h62 := rg_lp_lt (n := 6) hm2.1 (by omega) c_57
              refine lv_aload_n hx hb dL_looked_60 rfl (lv_at hl 2 rfl) ?_
              refine lv_bipush (v := 6) hx hb dL_looked_61 (by decide) ?_
              refine lv_aload hx hb dL_looked_63 (lv_at hl 4 rfl) ?_
              refine lv_iconst (v := 3) hx hb dL_looked_65 (by decide) ?_
              refine rg_topi (y := nI 3) (by exact rfl) ?_
              refine rg_ialdN C0 hH (o := 417) (j := 3) (n0 := 9) (by omega) rfl rfl (by omega) dL_looked_66 ?_
              refine rg_topi (y := nI j) (by rw [lw_zr_c (by omega), lw_row_c (by omega)]; exact hm3) ?_
              refine lv_imul hx hb dL_looked_67 ?_
              refine rg_topi (y := nI (6 * j)) (by exact lw_mul (6) (j)) ?_
              refine lv_iload hx hb dL_looked_68 (lv_at hl 8 rfl) ?_
              refine lv_iadd hx hb dL_looked_70 ?_
              refine rg_topi (y := nI ((6 * j) + i2)) (by exact nI_add (6 * j) (i2)) ?_
              refine lv_iconst (v := 0) hx hb dL_looked_71 (by decide) ?_
              refine rg_iastN C0 hH (o := 414) (j := ((6 * j) + i2)) (n0 := 64) (by omega) rfl rfl (by omega) dL_looked_72 (fun H locs hH => ?_)
              refine lv_iinc (v := nI (i2 + 1)) (lv' := [(8, .int (nI (i2 + 1))), (0, .ref (B + 412)), (1, .ref (B + 413)), (2, .ref (B + 414)), (3, .ref (B + 415)), (4, .ref (B + 417)), (5, .ref (B + dc)), (6, .int (po)), (7, .int (lw_fl (lw_cs (lw_row M j (M.1 dc)) j sp po)))]) hx hb dL_looked_73 hl (k := 8) rfl (nI_1 _) (by decide) rfl (fun ls hl => ?_)
              refine lv_goto (tgt := 53) hx hb dL_looked_76 (by decide) ?_
              exact ih2 (i2 + 1) (by omega) _ _ _ (rg_H_eq (by exact lw_zr_s) hH) (lv_sub hl [1, 2, 3, 4, 5, 6, 7, 8, 0] rfl)
        replace hl : lv_has ls 9 [(8, .int (nI 0)), (7, .int (lw_fl (lw_cs (lw_row M j (M.1 dc)) j sp po))), (0, .ref (B + 412)), (1, .ref (B + 413)), (2, .ref (B + 414)), (3, .ref (B + 415)), (4, .ref (B + 417)), (5, .ref (B + dc)), (6, .int (po))] := by skip; exact hl
        exact cut_53 7 0 (by omega) _ _ _ (rg_H_eq (by exact lw_zr_0) hH) (lv_sub hl [2, 3, 4, 5, 6, 7, 8, 1, 0] rfl)
      · have h6 := rg_lp_lt (n := 6) hm.1 (by omega) c_7
        refine lv_aload_n hx hb dL_looked_10 rfl (lv_at hl 2 rfl) ?_
        refine lv_bipush (v := 6) hx hb dL_looked_11 (by decide) ?_
        refine lv_aload hx hb dL_looked_13 (lv_at hl 4 rfl) ?_
        refine lv_iconst (v := 3) hx hb dL_looked_15 (by decide) ?_
        refine rg_topi (y := nI 3) (by exact rfl) ?_
        refine rg_ialdN C0 hH (o := 417) (j := 3) (n0 := 9) (by omega) rfl rfl (by omega) dL_looked_16 ?_
        refine rg_topi (y := nI j) (by rw [lw_pt_c (by omega)]; exact hm3) ?_
        refine lv_imul hx hb dL_looked_17 ?_
        refine rg_topi (y := nI (6 * j)) (by exact lw_mul (6) (j)) ?_
        refine lv_iload hx hb dL_looked_18 (lv_at hl 7 rfl) ?_
        refine lv_iadd hx hb dL_looked_20 ?_
        refine rg_topi (y := nI ((6 * j) + i)) (by exact nI_add (6 * j) (i)) ?_
        refine lv_aload hx hb dL_looked_21 (lv_at hl 5 rfl) ?_
        refine lv_iload hx hb dL_looked_23 (lv_at hl 7 rfl) ?_
        refine rg_ialdN C0 hH (o := dc) (j := i) (n0 := 6) hdc hdk hdl (by omega) dL_looked_25 ?_
        refine rg_topi (y := M.1 dc i) (by exact lw_pt_c hd4) ?_
        refine rg_iastN C0 hH (o := 414) (j := ((6 * j) + i)) (n0 := 64) (by omega) rfl rfl (by omega) dL_looked_26 (fun H locs hH => ?_)
        refine lv_iinc (v := nI (i + 1)) (lv' := [(7, .int (nI (i + 1))), (0, .ref (B + 412)), (1, .ref (B + 413)), (2, .ref (B + 414)), (3, .ref (B + 415)), (4, .ref (B + 417)), (5, .ref (B + dc)), (6, .int (po))]) hx hb dL_looked_27 hl (k := 7) rfl (nI_1 _) (by decide) rfl (fun ls hl => ?_)
        refine lv_goto (tgt := 3) hx hb dL_looked_30 (by decide) ?_
        exact ih (i + 1) (by omega) _ _ _ (rg_H_eq (by exact lw_pt_s rfl) hH) (lv_sub hl [1, 2, 3, 4, 5, 6, 7, 0] rfl)
  replace hl : lv_has ls 9 [(7, .int (nI 0)), (0, .ref (B + 412)), (1, .ref (B + 413)), (2, .ref (B + 414)), (3, .ref (B + 415)), (4, .ref (B + 417)), (5, .ref (B + dc)), (6, .int (po))] := by skip; exact hl
  exact cut_3 7 0 (by omega) _ _ _ (rg_H_eq (by exact lw_pt_0) hH) (lv_sub hl [1, 2, 3, 4, 5, 6, 7, 0] rfl)

set_option maxHeartbeats 4000000 in
set_option maxRecDepth 100000 in
/-- at how many places two texts differ -/
theorem k_L_far (l : Launch) (E : rg_Env) (B : Nat) (M : rg_Mem) (n : Nat) (a : Nat) (b : Nat) (na : Nat) (nb : Nat) (hn : 422 ≤ n) (ha : rg_hv n a) (hak : rg_kd a = 8) (hal : rg_ln a = na) (hb9 : rg_hv n b) (hbk : rg_kd b = 8) (hbl9 : rg_ln b = nb) (hna : 60 ≤ na ∧ na ≤ 64 ∧ 60 ≤ nb ∧ nb ≤ 64) : Met l yL_far (rg_w yL_far cL_far 4 (some (FieldType.int))) ({ frames := 0, cells := 0, slots := 0, locals := 0 } : Room) (va_Pc [.ref (B + a), .ref (B + b)] (rg_Pre E B n rg_R0 M)) (rg_Ri E B n rg_R0 (M) (fun r => r = nI (lw_cd (M.1 a) (M.1 b) 60))) 0 0 (rg_A B) := by
  refine rg_ofW (by decide +kernel) rfl (Nat.le_of_ble_eq_true rfl) ?_
  intro p e s m args below meth c ls C0 hH hl hr hlocks hnm
  replace hl : lv_has ls 4 [(0, .ref (B + a)), (1, .ref (B + b))] := hl
  have hx := C0.1.1
  have hb := C0.1.2.1
  generalize hH9 : s.heap = H at hH ⊢
  generalize hL9 : ([] : List Loc) = locs at hH ⊢
  clear hH9 hL9
  refine lv_iconst (v := 0) hx hb dL_far_0 (by decide) ?_
  refine lv_istore_n (lv' := [(2, .int (0)), (0, .ref (B + a)), (1, .ref (B + b))]) hx hb dL_far_1 rfl hl (by decide) rfl (fun ls hl => ?_)
  refine lv_iconst (v := 0) hx hb dL_far_2 (by decide) ?_
  refine lv_istore_n (lv' := [(3, .int (0)), (2, .int (0)), (0, .ref (B + a)), (1, .ref (B + b))]) hx hb dL_far_3 rfl hl (by decide) rfl (fun ls hl => ?_)
  have cut_4 : ∀ (fu i : Nat), i ≤ 60 ∧ 60 < i + fu → ∀  (H : Heap) (locs : List Loc) (ls : Array Slot), rg_H E B n rg_R0 M s H locs → lv_has ls 4 [(0, .ref (B + a)), (1, .ref (B + b)), (2, .int (nI (lw_cd (M.1 a) (M.1 b) i))), (3, .int (nI i))] → W p l e ({ frames := 0, cells := 0, slots := 0, locals := 0 } : Room) s m args below meth c H locs 0 0 (MQ below (rg_Ri E B n rg_R0 (M) (fun r => r = nI (lw_cd (M.1 a) (M.1 b) 60))) args s 0 0 (rg_A B)) (F0 m 4 ls []) := by
    intro fu
    induction fu with
    | zero =>
      intro i hm
      exact absurd hm (by omega)
    | succ fu ih =>
      intro i hm  H locs ls hH hl 
      refine lv_iload_n hx hb dL_far_4 rfl (lv_at hl 3 rfl) ?_
      refine lv_bipush (v := 60) hx hb dL_far_5 (by decide) ?_
      refine lv_icmp_ge (tgt := 33) hx hb dL_far_7 (by decide) (fun c_7 => ?_) (fun c_7 => ?_)
      · refine lv_iload_n hx hb dL_far_33 rfl (lv_at hl 2 rfl) ?_
        exact rg_retRi C0 hH hr hlocks rfl (by rw [rg_lp_end (n := 60) hm.1 (by omega) c_7]) dL_far_34
      · have h60 := rg_lp_lt (n := 60) hm.1 (by omega) c_7
        refine lv_iload_n hx hb dL_far_10 rfl (lv_at hl 2 rfl) ?_
        refine lv_aload_n hx hb dL_far_11 rfl (lv_at hl 0 rfl) ?_
        refine lv_iload_n hx hb dL_far_12 rfl (lv_at hl 3 rfl) ?_
        refine rg_ialdN C0 hH (o := a) (j := i) (n0 := na) ha hak hal (by omega) dL_far_13 ?_
        refine lv_aload_n hx hb dL_far_14 rfl (lv_at hl 1 rfl) ?_
        refine lv_iload_n hx hb dL_far_15 rfl (lv_at hl 3 rfl) ?_
        refine rg_ialdN C0 hH (o := b) (j := i) (n0 := nb) hb9 hbk hbl9 (by omega) dL_far_16 ?_
        refine lv_icmp_ne (tgt := 24) hx hb dL_far_17 (by decide) (fun c_17 => ?_) (fun c_17 => ?_)
        · refine lv_iconst (v := 1) hx hb dL_far_24 (by decide) ?_
          refine lv_iadd hx hb dL_far_25 ?_
          refine rg_topi (y := nI ((lw_cd (M.1 a) (M.1 b) i) + 1)) (by exact nI_add (lw_cd (M.1 a) (M.1 b) i) (1)) ?_
          refine lv_istore_n (lv' := [(2, .int (nI ((lw_cd (M.1 a) (M.1 b) i) + 1))), (0, .ref (B + a)), (1, .ref (B + b)), (3, .int (nI i))]) hx hb dL_far_26 rfl hl (by decide) rfl (fun ls hl => ?_)
          refine lv_iinc (v := nI (i + 1)) (lv' := [(3, .int (nI (i + 1))), (2, .int (nI ((lw_cd (M.1 a) (M.1 b) i) + 1))), (0, .ref (B + a)), (1, .ref (B + b))]) hx hb dL_far_27 hl (k := 3) rfl (nI_1 _) (by decide) rfl (fun ls hl => ?_)
          refine lv_goto (tgt := 4) hx hb dL_far_30 (by decide) ?_
          replace hl : lv_has ls 4 [(3, .int (nI (i + 1))), (2, .int (nI (lw_cd (M.1 a) (M.1 b) (i + 1)))), (0, .ref (B + a)), (1, .ref (B + b))] := by rw [lw_cd, if_neg c_17]; exact hl
          exact ih (i + 1) (by omega) _ _ _ hH (lv_sub hl [2, 3, 1, 0] rfl)
        · refine lv_iconst (v := 0) hx hb dL_far_20 (by decide) ?_
          refine lv_goto (tgt := 25) hx hb dL_far_21 (by decide) ?_
          refine lv_iadd hx hb dL_far_25 ?_
          refine rg_topi (y := nI ((lw_cd (M.1 a) (M.1 b) i) + 0)) (by exact nI_add (lw_cd (M.1 a) (M.1 b) i) (0)) ?_
          refine lv_istore_n (lv' := [(2, .int (nI ((lw_cd (M.1 a) (M.1 b) i) + 0))), (0, .ref (B + a)), (1, .ref (B + b)), (3, .int (nI i))]) hx hb dL_far_26 rfl hl (by decide) rfl (fun ls hl => ?_)
          refine lv_iinc (v := nI (i + 1)) (lv' := [(3, .int (nI (i + 1))), (2, .int (nI ((lw_cd (M.1 a) (M.1 b) i) + 0))), (0, .ref (B + a)), (1, .ref (B + b))]) hx hb dL_far_27 hl (k := 3) rfl (nI_1 _) (by decide) rfl (fun ls hl => ?_)
          refine lv_goto (tgt := 4) hx hb dL_far_30 (by decide) ?_
          replace hl : lv_has ls 4 [(3, .int (nI (i + 1))), (2, .int (nI (lw_cd (M.1 a) (M.1 b) (i + 1)))), (0, .ref (B + a)), (1, .ref (B + b))] := by rw [lw_cd, if_pos c_17]; exact hl
          exact ih (i + 1) (by omega) _ _ _ hH (lv_sub hl [2, 3, 1, 0] rfl)
  replace hl : lv_has ls 4 [(3, .int (nI 0)), (2, .int (nI (lw_cd (M.1 a) (M.1 b) 0))), (0, .ref (B + a)), (1, .ref (B + b))] := by skip; exact hl
  exact cut_4 61 0 (by omega) _ _ _ hH (lv_sub hl [2, 3, 1, 0] rfl)

set_option maxHeartbeats 4000000 in
set_option maxRecDepth 100000 in
/-- how like two links are -/
theorem k_L_alike (l : Launch) (E : rg_Env) (B : Nat) (M : rg_Mem) (n : Nat) (a : Nat) (b : Nat) (hn : 422 ≤ n) (hT : lw_TI M) (hW : lw_WI M) (ha : a < 10) (hb9 : b < 10) : Met l yL_alike (rg_w yL_alike cL_alike 6 (some (FieldType.int))) ({ frames := 1, cells := 0, slots := 0, locals := 24 } : Room) (va_Pc [.ref (B + 412), .ref (B + 414), .int (nI a), .int (nI b)] (rg_Pre E B n rg_R0 M)) (rg_Ri E B n rg_R0 (M) (fun r => r = lw_al M a b)) 0 0 (rg_A B) := by
  refine rg_ofW (by decide +kernel) rfl (Nat.le_of_ble_eq_true rfl) ?_
  intro p e s m args below meth c ls C0 hH hl hr hlocks hnm
  replace hl : lv_has ls 6 [(0, .ref (B + 412)), (1, .ref (B + 414)), (2, .int (nI a)), (3, .int (nI b))] := hl
  have hx := C0.1.1
  have hb := C0.1.2.1
  generalize hH9 : s.heap = H at hH ⊢
  generalize hL9 : ([] : List Loc) = locs at hH ⊢
  clear hH9 hL9
  refine lv_iconst (v := 0) hx hb dL_alike_0 (by decide) ?_
  refine lv_istore (lv' := [(4, .int (0)), (0, .ref (B + 412)), (1, .ref (B + 414)), (2, .int (nI a)), (3, .int (nI b))]) hx hb dL_alike_1 hl (by decide) rfl (fun ls hl => ?_)
  refine lv_iconst (v := 0) hx hb dL_alike_3 (by decide) ?_
  refine lv_istore (lv' := [(5, .int (0)), (4, .int (0)), (0, .ref (B + 412)), (1, .ref (B + 414)), (2, .int (nI a)), (3, .int (nI b))]) hx hb dL_alike_4 hl (by decide) rfl (fun ls hl => ?_)
  have cut_6 : ∀ (fu i : Nat), i ≤ 10 ∧ 10 < i + fu → ∀  (H : Heap) (locs : List Loc) (ls : Array Slot), rg_H E B n rg_R0 M s H locs → lv_has ls 6 [(0, .ref (B + 412)), (1, .ref (B + 414)), (2, .int (nI a)), (3, .int (nI b)), (4, .int (lw_sm (lw_ab M a b) i)), (5, .int (nI i))] → W p l e ({ frames := 1, cells := 0, slots := 0, locals := 24 } : Room) s m args below meth c H locs 0 0 (MQ below (rg_Ri E B n rg_R0 (M) (fun r => r = lw_al M a b)) args s 0 0 (rg_A B)) (F0 m 6 ls []) := by
    intro fu
    induction fu with
    | zero =>
      intro i hm
      exact absurd hm (by omega)
    | succ fu ih =>
      intro i hm  H locs ls hH hl 
      refine lv_iload hx hb dL_alike_6 (lv_at hl 5 rfl) ?_
      refine lv_bipush (v := 10) hx hb dL_alike_8 (by decide) ?_
      refine lv_icmp_ge (tgt := 45) hx hb dL_alike_10 (by decide) (fun c_10 => ?_) (fun c_10 => ?_)
      · have q10 : i = 10 := rg_lp_end (n := 10) hm.1 (by omega) c_10
        subst q10
        refine lv_iconst (v := 0) hx hb dL_alike_45 (by decide) ?_
        refine lv_istore (lv' := [(5, .int (0)), (0, .ref (B + 412)), (1, .ref (B + 414)), (2, .int (nI a)), (3, .int (nI b)), (4, .int (lw_sm (lw_ab M a b) 10))]) hx hb dL_alike_46 hl (by decide) rfl (fun ls hl => ?_)
        have cut_48 : ∀ (fu2 i2 : Nat), i2 ≤ 6 ∧ 6 < i2 + fu2 → ∀  (H : Heap) (locs : List Loc) (ls : Array Slot), rg_H E B n rg_R0 M s H locs → lv_has ls 6 [(0, .ref (B + 412)), (1, .ref (B + 414)), (2, .int (nI a)), (3, .int (nI b)), (4, .int (lw_sm (lw_ab M a b) 10 + lw_sm (lw_aw M a b) i2)), (5, .int (nI i2))] → W p l e ({ frames := 1, cells := 0, slots := 0, locals := 24 } : Room) s m args below meth c H locs 0 0 (MQ below (rg_Ri E B n rg_R0 (M) (fun r => r = lw_al M a b)) args s 0 0 (rg_A B)) (F0 m 48 ls []) := by
          intro fu2
          induction fu2 with
          | zero =>
            intro i2 hm2
            exact absurd hm2 (by omega)
          | succ fu2 ih2 =>
            intro i2 hm2  H locs ls hH hl 
            refine lv_iload hx hb dL_alike_48 (lv_at hl 5 rfl) ?_
            refine lv_bipush (v := 6) hx hb dL_alike_50 (by decide) ?_
            refine lv_icmp_ge (tgt := 100) hx hb dL_alike_52 (by decide) (fun c_52 => ?_) (fun c_52 => ?_)
            · refine lv_iload hx hb dL_alike_100 (lv_at hl 4 rfl) ?_
              exact rg_retRi C0 hH hr hlocks rfl (by rw [rg_lp_end (n := 6) hm2.1 (by omega) c_52]; rfl) dL_alike_102
            · have h62 := rg_lp_lt (n := 6) hm2.1 (by omega) c_52
              refine lv_iload hx hb dL_alike_55 (lv_at hl 4 rfl) ?_
              refine lv_aload_n hx hb dL_alike_57 rfl (lv_at hl 1 rfl) ?_
              refine lv_bipush (v := 6) hx hb dL_alike_58 (by decide) ?_
              refine lv_iload_n hx hb dL_alike_60 rfl (lv_at hl 2 rfl) ?_
              refine lv_imul hx hb dL_alike_61 ?_
              refine rg_topi (y := nI (6 * a)) (by exact lw_mul (6) (a)) ?_
              refine lv_iload hx hb dL_alike_62 (lv_at hl 5 rfl) ?_
              refine lv_iadd hx hb dL_alike_64 ?_
              refine rg_topi (y := nI ((6 * a) + i2)) (by exact nI_add (6 * a) (i2)) ?_
              refine rg_ialdN C0 hH (o := 414) (j := ((6 * a) + i2)) (n0 := 64) (by omega) rfl rfl (by omega) dL_alike_65 ?_
              refine rg_topi (y := nI (lw_t M (6 * a + i2))) (by exact (hT _ (by omega)).1) ?_
              have ht16 := (hT (6 * a + i2) (by omega)).2
              refine lv_if_le (tgt := 90) hx hb dL_alike_66 (by decide) (fun c_66 => ?_) (fun c_66 => ?_)
              · refine lv_iconst (v := 0) hx hb dL_alike_90 (by decide) ?_
                refine lv_iadd hx hb dL_alike_91 ?_
                refine lv_istore (lv' := [(4, .int ((lw_sm (lw_ab M a b) 10 + lw_sm (lw_aw M a b) i2) + 0)), (0, .ref (B + 412)), (1, .ref (B + 414)), (2, .int (nI a)), (3, .int (nI b)), (5, .int (nI i2))]) hx hb dL_alike_92 hl (by decide) rfl (fun ls hl => ?_)
                refine lv_iinc (v := nI (i2 + 1)) (lv' := [(5, .int (nI (i2 + 1))), (4, .int ((lw_sm (lw_ab M a b) 10 + lw_sm (lw_aw M a b) i2) + 0)), (0, .ref (B + 412)), (1, .ref (B + 414)), (2, .int (nI a)), (3, .int (nI b))]) hx hb dL_alike_94 hl (k := 5) rfl (nI_1 _) (by decide) rfl (fun ls hl => ?_)
                refine lv_goto (tgt := 48) hx hb dL_alike_97 (by decide) ?_
                replace hl : lv_has ls 6 [(5, .int (nI (i2 + 1))), (4, .int (lw_sm (lw_ab M a b) 10 + lw_sm (lw_aw M a b) (i2 + 1))), (0, .ref (B + 412)), (1, .ref (B + 414)), (2, .int (nI a)), (3, .int (nI b))] := by rw [lw_sm_s (f := lw_aw M a b), ← Int32.add_assoc, show lw_aw M a b i2 = 0 from if_neg (fun q => q.1 ((lw_le0 (by omega)).mp c_66))]; exact hl
                exact ih2 (i2 + 1) (by omega) _ _ _ hH (lv_sub hl [2, 3, 4, 5, 1, 0] rfl)
              · refine lv_aload_n hx hb dL_alike_69 rfl (lv_at hl 1 rfl) ?_
                refine lv_iload_n hx hb dL_alike_70 rfl (lv_at hl 3 rfl) ?_
                refine lv_aload_n hx hb dL_alike_71 rfl (lv_at hl 1 rfl) ?_
                refine lv_bipush (v := 6) hx hb dL_alike_72 (by decide) ?_
                refine lv_iload_n hx hb dL_alike_74 rfl (lv_at hl 2 rfl) ?_
                refine lv_imul hx hb dL_alike_75 ?_
                refine rg_topi (y := nI (6 * a)) (by exact lw_mul (6) (a)) ?_
                refine lv_iload hx hb dL_alike_76 (lv_at hl 5 rfl) ?_
                refine lv_iadd hx hb dL_alike_78 ?_
                refine rg_topi (y := nI ((6 * a) + i2)) (by exact nI_add (6 * a) (i2)) ?_
                refine rg_ialdN C0 hH (o := 414) (j := ((6 * a) + i2)) (n0 := 64) (by omega) rfl rfl (by omega) dL_alike_79 ?_
                refine rg_callSGi C0 hH (As := [.ref (B + 414), .int (nI b), .int (M.1 414 (((6 * a) + i2)))]) (rest := [.int (lw_sm (lw_ab M a b) 10 + lw_sm (lw_aw M a b) i2)]) (k_L_has l E B M n b (M.1 414 (((6 * a) + i2))) (by assumption) hb9) (rg_cwS 3 C0.1.2.2.2.2 tw_m_L_15 tw_s_L_has tw_n_L tw_c_L_has rfl rfl hd_L_has ⟨Nat.le_of_ble_eq_true rfl, Nat.le_of_ble_eq_true rfl⟩) rfl hl.1 rfl (Nat.le_of_ble_eq_true rfl) dL_alike_80 ⟨Nat.le_of_ble_eq_true rfl, Nat.le_of_ble_eq_true rfl⟩ (fun H locs hH => ?_)
                refine lv_if_eq (tgt := 90) hx hb dL_alike_83 (by decide) (fun c_83 => ?_) (fun c_83 => ?_)
                · refine lv_iconst (v := 0) hx hb dL_alike_90 (by decide) ?_
                  refine lv_iadd hx hb dL_alike_91 ?_
                  refine lv_istore (lv' := [(4, .int ((lw_sm (lw_ab M a b) 10 + lw_sm (lw_aw M a b) i2) + 0)), (0, .ref (B + 412)), (1, .ref (B + 414)), (2, .int (nI a)), (3, .int (nI b)), (5, .int (nI i2))]) hx hb dL_alike_92 hl (by decide) rfl (fun ls hl => ?_)
                  refine lv_iinc (v := nI (i2 + 1)) (lv' := [(5, .int (nI (i2 + 1))), (4, .int ((lw_sm (lw_ab M a b) 10 + lw_sm (lw_aw M a b) i2) + 0)), (0, .ref (B + 412)), (1, .ref (B + 414)), (2, .int (nI a)), (3, .int (nI b))]) hx hb dL_alike_94 hl (k := 5) rfl (nI_1 _) (by decide) rfl (fun ls hl => ?_)
                  refine lv_goto (tgt := 48) hx hb dL_alike_97 (by decide) ?_
                  replace hl : lv_has ls 6 [(5, .int (nI (i2 + 1))), (4, .int (lw_sm (lw_ab M a b) 10 + lw_sm (lw_aw M a b) (i2 + 1))), (0, .ref (B + 412)), (1, .ref (B + 414)), (2, .int (nI a)), (3, .int (nI b))] := by rw [lw_sm_s (f := lw_aw M a b), ← Int32.add_assoc, show lw_aw M a b i2 = 0 from if_neg (fun q => rg_b_eq.mp c_83 q.2)]; exact hl
                  exact ih2 (i2 + 1) (by omega) _ _ _ hH (lv_sub hl [2, 3, 4, 5, 1, 0] rfl)
                · refine lv_iconst (v := 3) hx hb dL_alike_86 (by decide) ?_
                  refine lv_goto (tgt := 91) hx hb dL_alike_87 (by decide) ?_
                  refine lv_iadd hx hb dL_alike_91 ?_
                  refine lv_istore (lv' := [(4, .int ((lw_sm (lw_ab M a b) 10 + lw_sm (lw_aw M a b) i2) + 3)), (0, .ref (B + 412)), (1, .ref (B + 414)), (2, .int (nI a)), (3, .int (nI b)), (5, .int (nI i2))]) hx hb dL_alike_92 hl (by decide) rfl (fun ls hl => ?_)
                  refine lv_iinc (v := nI (i2 + 1)) (lv' := [(5, .int (nI (i2 + 1))), (4, .int ((lw_sm (lw_ab M a b) 10 + lw_sm (lw_aw M a b) i2) + 3)), (0, .ref (B + 412)), (1, .ref (B + 414)), (2, .int (nI a)), (3, .int (nI b))]) hx hb dL_alike_94 hl (k := 5) rfl (nI_1 _) (by decide) rfl (fun ls hl => ?_)
                  refine lv_goto (tgt := 48) hx hb dL_alike_97 (by decide) ?_
                  replace hl : lv_has ls 6 [(5, .int (nI (i2 + 1))), (4, .int (lw_sm (lw_ab M a b) 10 + lw_sm (lw_aw M a b) (i2 + 1))), (0, .ref (B + 412)), (1, .ref (B + 414)), (2, .int (nI a)), (3, .int (nI b))] := by rw [lw_sm_s (f := lw_aw M a b), ← Int32.add_assoc, show lw_aw M a b i2 = 3 from if_pos ⟨lw_no (lw_le0 (by omega)) c_66, rg_b_ne.mp c_83⟩]; exact hl
                  exact ih2 (i2 + 1) (by omega) _ _ _ hH (lv_sub hl [2, 3, 4, 5, 1, 0] rfl)
        replace hl : lv_has ls 6 [(5, .int (nI 0)), (0, .ref (B + 412)), (1, .ref (B + 414)), (2, .int (nI a)), (3, .int (nI b)), (4, .int (lw_sm (lw_ab M a b) 10 + lw_sm (lw_aw M a b) 0))] := by rw [show lw_sm (lw_aw M a b) 0 = 0 from rfl, Int32.add_zero]; exact hl
        exact cut_48 7 0 (by omega) _ _ _ hH (lv_sub hl [1, 2, 3, 4, 5, 0] rfl)
      · have h10 := rg_lp_lt (n := 10) hm.1 (by omega) c_10
        refine lv_iload hx hb dL_alike_13 (lv_at hl 4 rfl) ?_
        refine lv_aload_n hx hb dL_alike_15 rfl (lv_at hl 0 rfl) ?_
        refine lv_aload_n hx hb dL_alike_16 rfl (lv_at hl 1 rfl) ?_
        refine lv_iload_n hx hb dL_alike_17 rfl (lv_at hl 2 rfl) ?_
        refine rg_callSGi C0 hH (As := [.ref (B + 412), .ref (B + 414), .int (nI a)]) (rest := [.int (lw_sm (lw_ab M a b) i)]) (k_L_signs l E B M n a (by assumption) (by assumption) (by assumption) ha) (rg_cwS 3 C0.1.2.2.2.2 tw_m_L_19 tw_s_L_signs tw_n_L tw_c_L_signs rfl rfl hd_L_signs ⟨Nat.le_of_ble_eq_true rfl, Nat.le_of_ble_eq_true rfl⟩) rfl hl.1 rfl (Nat.le_of_ble_eq_true rfl) dL_alike_18 ⟨Nat.le_of_ble_eq_true rfl, Nat.le_of_ble_eq_true rfl⟩ (fun H locs hH => ?_)
        refine lv_iload hx hb dL_alike_21 (lv_at hl 5 rfl) ?_
        refine lv_ishr hx hb dL_alike_23 ?_
        refine lv_aload_n hx hb dL_alike_24 rfl (lv_at hl 0 rfl) ?_
        refine lv_aload_n hx hb dL_alike_25 rfl (lv_at hl 1 rfl) ?_
        refine lv_iload_n hx hb dL_alike_26 rfl (lv_at hl 3 rfl) ?_
        refine rg_callSGi C0 hH (As := [.ref (B + 412), .ref (B + 414), .int (nI b)]) (rest := [.int ((lw_sgn M a) >>> ((nI i) &&& 31)), .int (lw_sm (lw_ab M a b) i)]) (k_L_signs l E B M n b (by assumption) (by assumption) (by assumption) hb9) (rg_cwS 3 C0.1.2.2.2.2 tw_m_L_19 tw_s_L_signs tw_n_L tw_c_L_signs rfl rfl hd_L_signs ⟨Nat.le_of_ble_eq_true rfl, Nat.le_of_ble_eq_true rfl⟩) rfl hl.1 rfl (Nat.le_of_ble_eq_true rfl) dL_alike_27 ⟨Nat.le_of_ble_eq_true rfl, Nat.le_of_ble_eq_true rfl⟩ (fun H locs hH => ?_)
        refine lv_iload hx hb dL_alike_30 (lv_at hl 5 rfl) ?_
        refine lv_ishr hx hb dL_alike_32 ?_
        refine lv_iand hx hb dL_alike_33 ?_
        refine lv_iconst (v := 1) hx hb dL_alike_34 (by decide) ?_
        refine lv_iand hx hb dL_alike_35 ?_
        refine lv_iadd hx hb dL_alike_36 ?_
        refine lv_istore (lv' := [(4, .int ((lw_sm (lw_ab M a b) i) + ((((lw_sgn M a) >>> ((nI i) &&& 31)) &&& ((lw_sgn M b) >>> ((nI i) &&& 31))) &&& 1))), (0, .ref (B + 412)), (1, .ref (B + 414)), (2, .int (nI a)), (3, .int (nI b)), (5, .int (nI i))]) hx hb dL_alike_37 hl (by decide) rfl (fun ls hl => ?_)
        refine lv_iinc (v := nI (i + 1)) (lv' := [(5, .int (nI (i + 1))), (4, .int ((lw_sm (lw_ab M a b) i) + ((((lw_sgn M a) >>> ((nI i) &&& 31)) &&& ((lw_sgn M b) >>> ((nI i) &&& 31))) &&& 1))), (0, .ref (B + 412)), (1, .ref (B + 414)), (2, .int (nI a)), (3, .int (nI b))]) hx hb dL_alike_39 hl (k := 5) rfl (nI_1 _) (by decide) rfl (fun ls hl => ?_)
        refine lv_goto (tgt := 6) hx hb dL_alike_42 (by decide) ?_
        replace hl : lv_has ls 6 [(5, .int (nI (i + 1))), (4, .int (lw_sm (lw_ab M a b) (i + 1))), (0, .ref (B + 412)), (1, .ref (B + 414)), (2, .int (nI a)), (3, .int (nI b))] := by rw [lw_sm_s (f := lw_ab M a b)]; exact hl
        exact ih (i + 1) (by omega) _ _ _ hH (lv_sub hl [2, 3, 4, 5, 1, 0] rfl)
  replace hl : lv_has ls 6 [(5, .int (nI 0)), (4, .int (lw_sm (lw_ab M a b) 0)), (0, .ref (B + 412)), (1, .ref (B + 414)), (2, .int (nI a)), (3, .int (nI b))] := by skip; exact hl
  exact cut_6 11 0 (by omega) _ _ _ hH (lv_sub hl [2, 3, 4, 5, 1, 0] rfl)

set_option maxHeartbeats 4000000 in
set_option maxRecDepth 100000 in
/-- the poet whose links have the greatest mean -/
theorem k_L_prize (l : Launch) (E : rg_Env) (B : Nat) (M : rg_Mem) (n : Nat) (hn : 422 ≤ n) : Met l yL_prize (rg_w yL_prize cL_prize 11 (some (FieldType.int))) ({ frames := 0, cells := 0, slots := 0, locals := 0 } : Room) (va_Pc [.ref (B + 415), .ref (B + 416), .ref (B + 417), .int (3)] (rg_Pre E B n rg_R0 M)) (rg_Ri E B n rg_R0 (M) (fun r => r = (lw_pz M (3 - (0)) (0)).1)) 0 0 (rg_A B) := by
  refine rg_ofW (by decide +kernel) rfl (Nat.le_of_ble_eq_true rfl) ?_
  intro p e s m args below meth c ls C0 hH hl hr hlocks hnm
  replace hl : lv_has ls 11 [(0, .ref (B + 415)), (1, .ref (B + 416)), (2, .ref (B + 417)), (3, .int (3))] := hl
  have hx := C0.1.1
  have hb := C0.1.2.1
  generalize hH9 : s.heap = H at hH ⊢
  generalize hL9 : ([] : List Loc) = locs at hH ⊢
  clear hH9 hL9
  refine lv_iconst (v := (-1)) hx hb dL_prize_0 (by decide) ?_
  refine lv_istore (lv' := [(4, .int ((-1))), (0, .ref (B + 415)), (1, .ref (B + 416)), (2, .ref (B + 417)), (3, .int (3))]) hx hb dL_prize_1 hl (by decide) rfl (fun ls hl => ?_)
  refine lv_iconst (v := 0) hx hb dL_prize_3 (by decide) ?_
  refine lv_istore (lv' := [(5, .int (0)), (4, .int ((-1))), (0, .ref (B + 415)), (1, .ref (B + 416)), (2, .ref (B + 417)), (3, .int (3))]) hx hb dL_prize_4 hl (by decide) rfl (fun ls hl => ?_)
  refine lv_iconst (v := 1) hx hb dL_prize_6 (by decide) ?_
  refine lv_istore (lv' := [(6, .int (1)), (5, .int (0)), (4, .int ((-1))), (0, .ref (B + 415)), (1, .ref (B + 416)), (2, .ref (B + 417)), (3, .int (3))]) hx hb dL_prize_7 hl (by decide) rfl (fun ls hl => ?_)
  refine lv_iload_n hx hb dL_prize_9 rfl (lv_at hl 6 rfl) ?_
  refine lv_iconst (v := 1) hx hb dL_prize_10 (by decide) ?_
  refine lv_isub hx hb dL_prize_11 ?_
  refine lv_istore (lv' := [(7, .int (3 - 1)), (6, .int (1)), (5, .int (0)), (4, .int ((-1))), (0, .ref (B + 415)), (1, .ref (B + 416)), (2, .ref (B + 417)), (3, .int (3))]) hx hb dL_prize_12 hl (by decide) rfl (fun ls hl => ?_)
  have cut_14 : ∀ (fu i : Nat), i ≤ 3 ∧ i < fu → ∀  (H : Heap) (locs : List Loc) (ls : Array Slot), rg_H E B n rg_R0 M s H locs → lv_has ls 11 [(0, .ref (B + 415)), (1, .ref (B + 416)), (2, .ref (B + 417)), (4, .int ((lw_pz M (3 - (i)) (i)).1)), (5, .int ((lw_pz M (3 - (i)) (i)).2.1)), (6, .int ((lw_pz M (3 - (i)) (i)).2.2)), (7, .int (nI i - 1))] → W p l e ({ frames := 0, cells := 0, slots := 0, locals := 0 } : Room) s m args below meth c H locs 0 0 (MQ below (rg_Ri E B n rg_R0 (M) (fun r => r = (lw_pz M (3 - (0)) (0)).1)) args s 0 0 (rg_A B)) (F0 m 14 ls []) := by
    intro fu
    induction fu with
    | zero =>
      intro i hm
      exact absurd hm (by omega)
    | succ fu ih =>
      intro i hm  H locs ls hH hl 
      refine lv_iload hx hb dL_prize_14 (lv_at hl 6 rfl) ?_
      refine lv_if_lt (tgt := 186) hx hb dL_prize_16 (by decide) (fun c_16 => ?_) (fun c_16 => ?_)
      · refine lv_iload hx hb dL_prize_186 (lv_at hl 3 rfl) ?_
        exact rg_retRi C0 hH hr hlocks rfl (by have q := (lw_lt0 (t := i) (by omega)).mp c_16; subst q; rfl) dL_prize_188
      · obtain ⟨y, rfl⟩ : ∃ y, i = y + 1 := ⟨i - 1, by have := lw_no (lw_lt0 (t := i) (by omega)) c_16; omega⟩
        replace hl : lv_has ls 11 [(0, .ref (B + 415)), (1, .ref (B + 416)), (2, .ref (B + 417)), (4, .int ((lw_pz M (3 - ((y + 1))) ((y + 1))).1)), (5, .int ((lw_pz M (3 - ((y + 1))) ((y + 1))).2.1)), (6, .int ((lw_pz M (3 - ((y + 1))) ((y + 1))).2.2)), (7, .int (nI y))] := by rw [nI_pred] at hl; exact hl
        refine lv_iconst (v := 0) hx hb dL_prize_19 (by decide) ?_
        refine lv_istore (lv' := [(8, .int (0)), (0, .ref (B + 415)), (1, .ref (B + 416)), (2, .ref (B + 417)), (4, .int ((lw_pz M (3 - ((y + 1))) ((y + 1))).1)), (5, .int ((lw_pz M (3 - ((y + 1))) ((y + 1))).2.1)), (6, .int ((lw_pz M (3 - ((y + 1))) ((y + 1))).2.2)), (7, .int (nI y))]) hx hb dL_prize_20 hl (by decide) rfl (fun ls hl => ?_)
        refine lv_iconst (v := 0) hx hb dL_prize_22 (by decide) ?_
        refine lv_istore (lv' := [(9, .int (0)), (8, .int (0)), (0, .ref (B + 415)), (1, .ref (B + 416)), (2, .ref (B + 417)), (4, .int ((lw_pz M (3 - ((y + 1))) ((y + 1))).1)), (5, .int ((lw_pz M (3 - ((y + 1))) ((y + 1))).2.1)), (6, .int ((lw_pz M (3 - ((y + 1))) ((y + 1))).2.2)), (7, .int (nI y))]) hx hb dL_prize_23 hl (by decide) rfl (fun ls hl => ?_)
        refine lv_iconst (v := 0) hx hb dL_prize_25 (by decide) ?_
        refine lv_istore (lv' := [(10, .int (0)), (9, .int (0)), (8, .int (0)), (0, .ref (B + 415)), (1, .ref (B + 416)), (2, .ref (B + 417)), (4, .int ((lw_pz M (3 - ((y + 1))) ((y + 1))).1)), (5, .int ((lw_pz M (3 - ((y + 1))) ((y + 1))).2.1)), (6, .int ((lw_pz M (3 - ((y + 1))) ((y + 1))).2.2)), (7, .int (nI y))]) hx hb dL_prize_26 hl (by decide) rfl (fun ls hl => ?_)
        have cut_28 : ∀ (fu2 i2 : Nat), i2 ≤ 40 ∧ 40 < i2 + fu2 → ∀  (H : Heap) (locs : List Loc) (ls : Array Slot), rg_H E B n rg_R0 M s H locs → lv_has ls 11 [(0, .ref (B + 415)), (1, .ref (B + 416)), (2, .ref (B + 417)), (4, .int ((lw_pz M (3 - (y + 1)) (y + 1)).1)), (5, .int ((lw_pz M (3 - (y + 1)) (y + 1)).2.1)), (6, .int ((lw_pz M (3 - (y + 1)) (y + 1)).2.2)), (7, .int (nI y)), (8, .int (lw_sm (lw_ps M y) i2)), (9, .int (lw_sm (lw_pc M y) i2)), (10, .int (nI i2))] → W p l e ({ frames := 0, cells := 0, slots := 0, locals := 0 } : Room) s m args below meth c H locs 0 0 (MQ below (rg_Ri E B n rg_R0 (M) (fun r => r = (lw_pz M (3 - (0)) (0)).1)) args s 0 0 (rg_A B)) (F0 m 28 ls []) := by
          intro fu2
          induction fu2 with
          | zero =>
            intro i2 hm2
            exact absurd hm2 (by omega)
          | succ fu2 ih2 =>
            intro i2 hm2  H locs ls hH hl 
            refine lv_iload hx hb dL_prize_28 (lv_at hl 9 rfl) ?_
            refine lv_bipush (v := 40) hx hb dL_prize_30 (by decide) ?_
            refine lv_icmp_ge (tgt := 108) hx hb dL_prize_32 (by decide) (fun c_32 => ?_) (fun c_32 => ?_)
            · have q40 : i2 = 40 := rg_lp_end (n := 40) hm2.1 (by omega) c_32
              subst q40
              refine lv_iload hx hb dL_prize_108 (lv_at hl 8 rfl) ?_
              have cut_136 : ∀  (H : Heap) (locs : List Loc) (ls : Array Slot), rg_H E B n rg_R0 M s H locs → lv_has ls 11 [(0, .ref (B + 415)), (1, .ref (B + 416)), (2, .ref (B + 417)), (4, .int ((lw_pz M (3 - (y + 1)) (y + 1)).1)), (5, .int ((lw_pz M (3 - (y + 1)) (y + 1)).2.1)), (6, .int ((lw_pz M (3 - (y + 1)) (y + 1)).2.2)), (7, .int (nI y)), (8, .int (lw_sm (lw_ps M y) 40)), (9, .int (lw_sm (lw_pc M y) 40))] → W p l e ({ frames := 0, cells := 0, slots := 0, locals := 0 } : Room) s m args below meth c H locs 0 0 (MQ below (rg_Ri E B n rg_R0 (M) (fun r => r = (lw_pz M (3 - (0)) (0)).1)) args s 0 0 (rg_A B)) (F0 m 136 ls [.int (rg_b (lw_bq (fun p => lw_sm (lw_ps M p) 40) (fun p => lw_sm (lw_pc M p) 40) (lw_pz M (3 - (y + 1)) (y + 1)) y))]) := by
                intro  H locs ls hH hl 
                refine lv_istore (lv' := [(10, .int (rg_b (lw_bq (fun p => lw_sm (lw_ps M p) 40) (fun p => lw_sm (lw_pc M p) 40) (lw_pz M (3 - (y + 1)) (y + 1)) y))), (0, .ref (B + 415)), (1, .ref (B + 416)), (2, .ref (B + 417)), (4, .int ((lw_pz M (3 - (y + 1)) (y + 1)).1)), (5, .int ((lw_pz M (3 - (y + 1)) (y + 1)).2.1)), (6, .int ((lw_pz M (3 - (y + 1)) (y + 1)).2.2)), (7, .int (nI y)), (8, .int (lw_sm (lw_ps M y) 40)), (9, .int (lw_sm (lw_pc M y) 40))]) hx hb dL_prize_136 hl (by decide) rfl (fun ls hl => ?_)
                refine lv_iload hx hb dL_prize_138 (lv_at hl 0 rfl) ?_
                refine lv_if_eq (tgt := 148) hx hb dL_prize_140 (by decide) (fun c_140 => ?_) (fun c_140 => ?_)
                · refine lv_iload hx hb dL_prize_148 (lv_at hl 4 rfl) ?_
                  refine lv_istore (lv' := [(4, .int ((lw_pz M (3 - (y + 1)) (y + 1)).1)), (10, .int (rg_b (lw_bq (fun p => lw_sm (lw_ps M p) 40) (fun p => lw_sm (lw_pc M p) 40) (lw_pz M (3 - (y + 1)) (y + 1)) y))), (0, .ref (B + 415)), (1, .ref (B + 416)), (2, .ref (B + 417)), (5, .int ((lw_pz M (3 - (y + 1)) (y + 1)).2.1)), (6, .int ((lw_pz M (3 - (y + 1)) (y + 1)).2.2)), (7, .int (nI y)), (8, .int (lw_sm (lw_ps M y) 40)), (9, .int (lw_sm (lw_pc M y) 40))]) hx hb dL_prize_150 hl (by decide) rfl (fun ls hl => ?_)
                  refine lv_iload hx hb dL_prize_152 (lv_at hl 1 rfl) ?_
                  refine lv_if_eq (tgt := 162) hx hb dL_prize_154 (by decide) (fun c_154 => ?_) (fun c_154 => ?_)
                  · refine lv_iload hx hb dL_prize_162 (lv_at hl 5 rfl) ?_
                    refine lv_istore (lv' := [(5, .int ((lw_pz M (3 - (y + 1)) (y + 1)).2.1)), (4, .int ((lw_pz M (3 - (y + 1)) (y + 1)).1)), (10, .int (rg_b (lw_bq (fun p => lw_sm (lw_ps M p) 40) (fun p => lw_sm (lw_pc M p) 40) (lw_pz M (3 - (y + 1)) (y + 1)) y))), (0, .ref (B + 415)), (1, .ref (B + 416)), (2, .ref (B + 417)), (6, .int ((lw_pz M (3 - (y + 1)) (y + 1)).2.2)), (7, .int (nI y)), (8, .int (lw_sm (lw_ps M y) 40)), (9, .int (lw_sm (lw_pc M y) 40))]) hx hb dL_prize_164 hl (by decide) rfl (fun ls hl => ?_)
                    refine lv_iload hx hb dL_prize_166 (lv_at hl 2 rfl) ?_
                    refine lv_if_eq (tgt := 176) hx hb dL_prize_168 (by decide) (fun c_168 => ?_) (fun c_168 => ?_)
                    · refine lv_iload hx hb dL_prize_176 (lv_at hl 6 rfl) ?_
                      refine lv_istore (lv' := [(6, .int ((lw_pz M (3 - (y + 1)) (y + 1)).2.2)), (5, .int ((lw_pz M (3 - (y + 1)) (y + 1)).2.1)), (4, .int ((lw_pz M (3 - (y + 1)) (y + 1)).1)), (10, .int (rg_b (lw_bq (fun p => lw_sm (lw_ps M p) 40) (fun p => lw_sm (lw_pc M p) 40) (lw_pz M (3 - (y + 1)) (y + 1)) y))), (0, .ref (B + 415)), (1, .ref (B + 416)), (2, .ref (B + 417)), (7, .int (nI y)), (8, .int (lw_sm (lw_ps M y) 40)), (9, .int (lw_sm (lw_pc M y) 40))]) hx hb dL_prize_178 hl (by decide) rfl (fun ls hl => ?_)
                      refine lv_iinc (v := (nI y) - 1) (lv' := [(7, .int ((nI y) - 1)), (6, .int ((lw_pz M (3 - (y + 1)) (y + 1)).2.2)), (5, .int ((lw_pz M (3 - (y + 1)) (y + 1)).2.1)), (4, .int ((lw_pz M (3 - (y + 1)) (y + 1)).1)), (10, .int (rg_b (lw_bq (fun p => lw_sm (lw_ps M p) 40) (fun p => lw_sm (lw_pc M p) 40) (lw_pz M (3 - (y + 1)) (y + 1)) y))), (0, .ref (B + 415)), (1, .ref (B + 416)), (2, .ref (B + 417)), (8, .int (lw_sm (lw_ps M y) 40)), (9, .int (lw_sm (lw_pc M y) 40))]) hx hb dL_prize_180 hl (k := 7) rfl (rg_m1s _) (by decide) rfl (fun ls hl => ?_)
                      refine lv_goto (tgt := 14) hx hb dL_prize_183 (by decide) ?_
                      replace hl : lv_has ls 11 [(7, .int (nI y - 1)), (6, .int ((lw_pz M (3 - (y)) (y)).2.2)), (5, .int ((lw_pz M (3 - (y)) (y)).2.1)), (4, .int ((lw_pz M (3 - (y)) (y)).1)), (10, .int (rg_b (lw_bq (fun p => lw_sm (lw_ps M p) 40) (fun p => lw_sm (lw_pc M p) 40) (lw_pz M (3 - (y + 1)) (y + 1)) y))), (0, .ref (B + 415)), (1, .ref (B + 416)), (2, .ref (B + 417)), (8, .int (lw_sm (lw_ps M y) 40)), (9, .int (lw_sm (lw_pc M y) 40))] := by rw [show (lw_pz M (3 - (y)) (y)) = lw_bs _ _ (lw_pz M (3 - (y + 1)) (y + 1)) y from lw_bz_at (show y < 3 by omega), lw_bs_n (rg_b_eq.mp c_140)]; exact hl
                      exact ih y (by omega) _ _ _ hH (lv_sub hl [5, 6, 7, 3, 2, 1, 0] rfl)
                    · exact absurd c_140 c_168
                  · exact absurd c_140 c_154
                · refine lv_iload hx hb dL_prize_143 (lv_at hl 7 rfl) ?_
                  refine lv_goto (tgt := 150) hx hb dL_prize_145 (by decide) ?_
                  refine lv_istore (lv' := [(4, .int (nI y)), (10, .int (rg_b (lw_bq (fun p => lw_sm (lw_ps M p) 40) (fun p => lw_sm (lw_pc M p) 40) (lw_pz M (3 - (y + 1)) (y + 1)) y))), (0, .ref (B + 415)), (1, .ref (B + 416)), (2, .ref (B + 417)), (5, .int ((lw_pz M (3 - (y + 1)) (y + 1)).2.1)), (6, .int ((lw_pz M (3 - (y + 1)) (y + 1)).2.2)), (7, .int (nI y)), (8, .int (lw_sm (lw_ps M y) 40)), (9, .int (lw_sm (lw_pc M y) 40))]) hx hb dL_prize_150 hl (by decide) rfl (fun ls hl => ?_)
                  refine lv_iload hx hb dL_prize_152 (lv_at hl 1 rfl) ?_
                  refine lv_if_eq (tgt := 162) hx hb dL_prize_154 (by decide) (fun c_154 => ?_) (fun c_154 => ?_)
                  · exact absurd c_154 c_140
                  · refine lv_iload hx hb dL_prize_157 (lv_at hl 8 rfl) ?_
                    refine lv_goto (tgt := 164) hx hb dL_prize_159 (by decide) ?_
                    refine lv_istore (lv' := [(5, .int (lw_sm (lw_ps M y) 40)), (4, .int (nI y)), (10, .int (rg_b (lw_bq (fun p => lw_sm (lw_ps M p) 40) (fun p => lw_sm (lw_pc M p) 40) (lw_pz M (3 - (y + 1)) (y + 1)) y))), (0, .ref (B + 415)), (1, .ref (B + 416)), (2, .ref (B + 417)), (6, .int ((lw_pz M (3 - (y + 1)) (y + 1)).2.2)), (7, .int (nI y)), (8, .int (lw_sm (lw_ps M y) 40)), (9, .int (lw_sm (lw_pc M y) 40))]) hx hb dL_prize_164 hl (by decide) rfl (fun ls hl => ?_)
                    refine lv_iload hx hb dL_prize_166 (lv_at hl 2 rfl) ?_
                    refine lv_if_eq (tgt := 176) hx hb dL_prize_168 (by decide) (fun c_168 => ?_) (fun c_168 => ?_)
                    · exact absurd c_168 c_140
                    · refine lv_iload hx hb dL_prize_171 (lv_at hl 9 rfl) ?_
                      refine lv_goto (tgt := 178) hx hb dL_prize_173 (by decide) ?_
                      refine lv_istore (lv' := [(6, .int (lw_sm (lw_pc M y) 40)), (5, .int (lw_sm (lw_ps M y) 40)), (4, .int (nI y)), (10, .int (rg_b (lw_bq (fun p => lw_sm (lw_ps M p) 40) (fun p => lw_sm (lw_pc M p) 40) (lw_pz M (3 - (y + 1)) (y + 1)) y))), (0, .ref (B + 415)), (1, .ref (B + 416)), (2, .ref (B + 417)), (7, .int (nI y)), (8, .int (lw_sm (lw_ps M y) 40)), (9, .int (lw_sm (lw_pc M y) 40))]) hx hb dL_prize_178 hl (by decide) rfl (fun ls hl => ?_)
                      refine lv_iinc (v := (nI y) - 1) (lv' := [(7, .int ((nI y) - 1)), (6, .int (lw_sm (lw_pc M y) 40)), (5, .int (lw_sm (lw_ps M y) 40)), (4, .int (nI y)), (10, .int (rg_b (lw_bq (fun p => lw_sm (lw_ps M p) 40) (fun p => lw_sm (lw_pc M p) 40) (lw_pz M (3 - (y + 1)) (y + 1)) y))), (0, .ref (B + 415)), (1, .ref (B + 416)), (2, .ref (B + 417)), (8, .int (lw_sm (lw_ps M y) 40)), (9, .int (lw_sm (lw_pc M y) 40))]) hx hb dL_prize_180 hl (k := 7) rfl (rg_m1s _) (by decide) rfl (fun ls hl => ?_)
                      refine lv_goto (tgt := 14) hx hb dL_prize_183 (by decide) ?_
                      replace hl : lv_has ls 11 [(7, .int (nI y - 1)), (6, .int ((lw_pz M (3 - (y)) (y)).2.2)), (5, .int ((lw_pz M (3 - (y)) (y)).2.1)), (4, .int ((lw_pz M (3 - (y)) (y)).1)), (10, .int (rg_b (lw_bq (fun p => lw_sm (lw_ps M p) 40) (fun p => lw_sm (lw_pc M p) 40) (lw_pz M (3 - (y + 1)) (y + 1)) y))), (0, .ref (B + 415)), (1, .ref (B + 416)), (2, .ref (B + 417)), (8, .int (lw_sm (lw_ps M y) 40)), (9, .int (lw_sm (lw_pc M y) 40))] := by rw [show (lw_pz M (3 - (y)) (y)) = lw_bs _ _ (lw_pz M (3 - (y + 1)) (y + 1)) y from lw_bz_at (show y < 3 by omega), lw_bs_y (rg_b_ne.mp c_140)]; exact hl
                      exact ih y (by omega) _ _ _ hH (lv_sub hl [5, 6, 7, 3, 2, 1, 0] rfl)
              refine lv_if_le (tgt := 135) hx hb dL_prize_110 (by decide) (fun c_110 => ?_) (fun c_110 => ?_)
              · refine lv_iconst (v := 0) hx hb dL_prize_135 (by decide) ?_
                refine rg_topi (y := rg_b (lw_bq (fun p => lw_sm (lw_ps M p) 40) (fun p => lw_sm (lw_pc M p) 40) (lw_pz M (3 - (y + 1)) (y + 1)) y)) (by exact rg_b_f (fun q => q.1 c_110)) ?_
                exact cut_136 _ _ _ hH (lv_sub hl [0, 1, 2, 3, 4, 5, 6, 7, 8] rfl)
              · refine lv_iload hx hb dL_prize_113 (lv_at hl 3 rfl) ?_
                refine lv_if_lt (tgt := 131) hx hb dL_prize_115 (by decide) (fun c_115 => ?_) (fun c_115 => ?_)
                · refine lv_iconst (v := 1) hx hb dL_prize_131 (by decide) ?_
                  refine lv_goto (tgt := 136) hx hb dL_prize_132 (by decide) ?_
                  refine rg_topi (y := rg_b (lw_bq (fun p => lw_sm (lw_ps M p) 40) (fun p => lw_sm (lw_pc M p) 40) (lw_pz M (3 - (y + 1)) (y + 1)) y)) (by exact rg_b_t ⟨c_110, Or.inl c_115⟩) ?_
                  exact cut_136 _ _ _ hH (lv_sub hl [0, 1, 2, 3, 4, 5, 6, 7, 8] rfl)
                · refine lv_iload hx hb dL_prize_118 (lv_at hl 7 rfl) ?_
                  refine lv_iload hx hb dL_prize_120 (lv_at hl 5 rfl) ?_
                  refine lv_imul hx hb dL_prize_122 ?_
                  refine lv_iload hx hb dL_prize_123 (lv_at hl 4 rfl) ?_
                  refine lv_iload hx hb dL_prize_125 (lv_at hl 8 rfl) ?_
                  refine lv_imul hx hb dL_prize_127 ?_
                  refine lv_icmp_lt (tgt := 135) hx hb dL_prize_128 (by decide) (fun c_128 => ?_) (fun c_128 => ?_)
                  · refine lv_iconst (v := 0) hx hb dL_prize_135 (by decide) ?_
                    refine rg_topi (y := rg_b (lw_bq (fun p => lw_sm (lw_ps M p) 40) (fun p => lw_sm (lw_pc M p) 40) (lw_pz M (3 - (y + 1)) (y + 1)) y)) (by exact rg_b_f (fun q => q.2.elim c_115 (fun z => z c_128))) ?_
                    exact cut_136 _ _ _ hH (lv_sub hl [0, 1, 2, 3, 4, 5, 6, 7, 8] rfl)
                  · refine lv_iconst (v := 1) hx hb dL_prize_131 (by decide) ?_
                    refine lv_goto (tgt := 136) hx hb dL_prize_132 (by decide) ?_
                    refine rg_topi (y := rg_b (lw_bq (fun p => lw_sm (lw_ps M p) 40) (fun p => lw_sm (lw_pc M p) 40) (lw_pz M (3 - (y + 1)) (y + 1)) y)) (by exact rg_b_t ⟨c_110, Or.inr c_128⟩) ?_
                    exact cut_136 _ _ _ hH (lv_sub hl [0, 1, 2, 3, 4, 5, 6, 7, 8] rfl)
            · have h40 := rg_lp_lt (n := 40) hm2.1 (by omega) c_32
              refine lv_iload hx hb dL_prize_35 (lv_at hl 7 rfl) ?_
              refine lv_aload_n hx hb dL_prize_37 rfl (lv_at hl 1 rfl) ?_
              refine lv_iload hx hb dL_prize_38 (lv_at hl 9 rfl) ?_
              refine rg_ialdN C0 hH (o := 416) (j := i2) (n0 := 40) (by omega) rfl rfl (by omega) dL_prize_40 ?_
              refine lv_if_le (tgt := 67) hx hb dL_prize_41 (by decide) (fun c_41 => ?_) (fun c_41 => ?_)
              · refine lv_iconst (v := 0) hx hb dL_prize_67 (by decide) ?_
                refine lv_iadd hx hb dL_prize_68 ?_
                refine lv_istore (lv' := [(8, .int ((lw_sm (lw_ps M y) i2) + 0)), (0, .ref (B + 415)), (1, .ref (B + 416)), (2, .ref (B + 417)), (4, .int ((lw_pz M (3 - (y + 1)) (y + 1)).1)), (5, .int ((lw_pz M (3 - (y + 1)) (y + 1)).2.1)), (6, .int ((lw_pz M (3 - (y + 1)) (y + 1)).2.2)), (7, .int (nI y)), (9, .int (lw_sm (lw_pc M y) i2)), (10, .int (nI i2))]) hx hb dL_prize_69 hl (by decide) rfl (fun ls hl => ?_)
                refine lv_iload hx hb dL_prize_71 (lv_at hl 8 rfl) ?_
                refine lv_aload_n hx hb dL_prize_73 rfl (lv_at hl 2 rfl) ?_
                refine lv_iload hx hb dL_prize_74 (lv_at hl 9 rfl) ?_
                refine rg_ialdN C0 hH (o := 416) (j := i2) (n0 := 40) (by omega) rfl rfl (by omega) dL_prize_76 ?_
                refine lv_if_le (tgt := 98) hx hb dL_prize_77 (by decide) (fun c_77 => ?_) (fun c_77 => ?_)
                · refine lv_iconst (v := 0) hx hb dL_prize_98 (by decide) ?_
                  refine lv_iadd hx hb dL_prize_99 ?_
                  refine lv_istore (lv' := [(9, .int ((lw_sm (lw_pc M y) i2) + 0)), (8, .int ((lw_sm (lw_ps M y) i2) + 0)), (0, .ref (B + 415)), (1, .ref (B + 416)), (2, .ref (B + 417)), (4, .int ((lw_pz M (3 - (y + 1)) (y + 1)).1)), (5, .int ((lw_pz M (3 - (y + 1)) (y + 1)).2.1)), (6, .int ((lw_pz M (3 - (y + 1)) (y + 1)).2.2)), (7, .int (nI y)), (10, .int (nI i2))]) hx hb dL_prize_100 hl (by decide) rfl (fun ls hl => ?_)
                  refine lv_iinc (v := nI (i2 + 1)) (lv' := [(10, .int (nI (i2 + 1))), (9, .int ((lw_sm (lw_pc M y) i2) + 0)), (8, .int ((lw_sm (lw_ps M y) i2) + 0)), (0, .ref (B + 415)), (1, .ref (B + 416)), (2, .ref (B + 417)), (4, .int ((lw_pz M (3 - (y + 1)) (y + 1)).1)), (5, .int ((lw_pz M (3 - (y + 1)) (y + 1)).2.1)), (6, .int ((lw_pz M (3 - (y + 1)) (y + 1)).2.2)), (7, .int (nI y))]) hx hb dL_prize_102 hl (k := 9) rfl (nI_1 _) (by decide) rfl (fun ls hl => ?_)
                  refine lv_goto (tgt := 28) hx hb dL_prize_105 (by decide) ?_
                  replace hl : lv_has ls 11 [(10, .int (nI (i2 + 1))), (9, .int (lw_sm (lw_pc M y) (i2 + 1))), (8, .int (lw_sm (lw_ps M y) (i2 + 1))), (0, .ref (B + 415)), (1, .ref (B + 416)), (2, .ref (B + 417)), (4, .int ((lw_pz M (3 - (y + 1)) (y + 1)).1)), (5, .int ((lw_pz M (3 - (y + 1)) (y + 1)).2.1)), (6, .int ((lw_pz M (3 - (y + 1)) (y + 1)).2.2)), (7, .int (nI y))] := by rw [lw_sm_s (f := lw_ps M y), lw_sm_s (f := lw_pc M y), show lw_ps M y i2 = 0 from if_neg (fun q => q.1 c_41), show lw_pc M y i2 = 0 from if_neg (fun q => q.1 c_41)]; exact hl
                  exact ih2 (i2 + 1) (by omega) _ _ _ hH (lv_sub hl [3, 4, 5, 6, 7, 8, 9, 2, 1, 0] rfl)
                · exact absurd c_41 c_77
              · refine lv_aload_n hx hb dL_prize_44 rfl (lv_at hl 0 rfl) ?_
                refine lv_iconst (v := 4) hx hb dL_prize_45 (by decide) ?_
                refine lv_iload hx hb dL_prize_46 (lv_at hl 9 rfl) ?_
                refine lv_bipush (v := 10) hx hb dL_prize_48 (by decide) ?_
                refine lv_irem hx hb dL_prize_50 (by decide) ?_
                refine rg_topi (y := nI (i2 % 10)) (by exact pk_rem (a := i2) (d := 10) (by omega) (by omega) (by omega)) ?_
                refine lv_imul hx hb dL_prize_51 ?_
                refine rg_topi (y := nI (4 * (i2 % 10))) (by exact lw_mul (4) (i2 % 10)) ?_
                refine rg_ialdN C0 hH (o := 415) (j := (4 * (i2 % 10))) (n0 := 44) (by omega) rfl rfl (by omega) dL_prize_52 ?_
                refine lv_iload hx hb dL_prize_53 (lv_at hl 6 rfl) ?_
                refine lv_icmp_ne (tgt := 67) hx hb dL_prize_55 (by decide) (fun c_55 => ?_) (fun c_55 => ?_)
                · refine lv_iconst (v := 0) hx hb dL_prize_67 (by decide) ?_
                  refine lv_iadd hx hb dL_prize_68 ?_
                  refine lv_istore (lv' := [(8, .int ((lw_sm (lw_ps M y) i2) + 0)), (0, .ref (B + 415)), (1, .ref (B + 416)), (2, .ref (B + 417)), (4, .int ((lw_pz M (3 - (y + 1)) (y + 1)).1)), (5, .int ((lw_pz M (3 - (y + 1)) (y + 1)).2.1)), (6, .int ((lw_pz M (3 - (y + 1)) (y + 1)).2.2)), (7, .int (nI y)), (9, .int (lw_sm (lw_pc M y) i2)), (10, .int (nI i2))]) hx hb dL_prize_69 hl (by decide) rfl (fun ls hl => ?_)
                  refine lv_iload hx hb dL_prize_71 (lv_at hl 8 rfl) ?_
                  refine lv_aload_n hx hb dL_prize_73 rfl (lv_at hl 2 rfl) ?_
                  refine lv_iload hx hb dL_prize_74 (lv_at hl 9 rfl) ?_
                  refine rg_ialdN C0 hH (o := 416) (j := i2) (n0 := 40) (by omega) rfl rfl (by omega) dL_prize_76 ?_
                  refine lv_if_le (tgt := 98) hx hb dL_prize_77 (by decide) (fun c_77 => ?_) (fun c_77 => ?_)
                  · exact absurd c_77 c_41
                  · refine lv_aload_n hx hb dL_prize_80 rfl (lv_at hl 1 rfl) ?_
                    refine lv_iconst (v := 4) hx hb dL_prize_81 (by decide) ?_
                    refine lv_iload hx hb dL_prize_82 (lv_at hl 9 rfl) ?_
                    refine lv_bipush (v := 10) hx hb dL_prize_84 (by decide) ?_
                    refine lv_irem hx hb dL_prize_86 (by decide) ?_
                    refine rg_topi (y := nI (i2 % 10)) (by exact pk_rem (a := i2) (d := 10) (by omega) (by omega) (by omega)) ?_
                    refine lv_imul hx hb dL_prize_87 ?_
                    refine rg_topi (y := nI (4 * (i2 % 10))) (by exact lw_mul (4) (i2 % 10)) ?_
                    refine rg_ialdN C0 hH (o := 415) (j := (4 * (i2 % 10))) (n0 := 44) (by omega) rfl rfl (by omega) dL_prize_88 ?_
                    refine lv_iload hx hb dL_prize_89 (lv_at hl 7 rfl) ?_
                    refine lv_icmp_ne (tgt := 98) hx hb dL_prize_91 (by decide) (fun c_91 => ?_) (fun c_91 => ?_)
                    · refine lv_iconst (v := 0) hx hb dL_prize_98 (by decide) ?_
                      refine lv_iadd hx hb dL_prize_99 ?_
                      refine lv_istore (lv' := [(9, .int ((lw_sm (lw_pc M y) i2) + 0)), (8, .int ((lw_sm (lw_ps M y) i2) + 0)), (0, .ref (B + 415)), (1, .ref (B + 416)), (2, .ref (B + 417)), (4, .int ((lw_pz M (3 - (y + 1)) (y + 1)).1)), (5, .int ((lw_pz M (3 - (y + 1)) (y + 1)).2.1)), (6, .int ((lw_pz M (3 - (y + 1)) (y + 1)).2.2)), (7, .int (nI y)), (10, .int (nI i2))]) hx hb dL_prize_100 hl (by decide) rfl (fun ls hl => ?_)
                      refine lv_iinc (v := nI (i2 + 1)) (lv' := [(10, .int (nI (i2 + 1))), (9, .int ((lw_sm (lw_pc M y) i2) + 0)), (8, .int ((lw_sm (lw_ps M y) i2) + 0)), (0, .ref (B + 415)), (1, .ref (B + 416)), (2, .ref (B + 417)), (4, .int ((lw_pz M (3 - (y + 1)) (y + 1)).1)), (5, .int ((lw_pz M (3 - (y + 1)) (y + 1)).2.1)), (6, .int ((lw_pz M (3 - (y + 1)) (y + 1)).2.2)), (7, .int (nI y))]) hx hb dL_prize_102 hl (k := 9) rfl (nI_1 _) (by decide) rfl (fun ls hl => ?_)
                      refine lv_goto (tgt := 28) hx hb dL_prize_105 (by decide) ?_
                      replace hl : lv_has ls 11 [(10, .int (nI (i2 + 1))), (9, .int (lw_sm (lw_pc M y) (i2 + 1))), (8, .int (lw_sm (lw_ps M y) (i2 + 1))), (0, .ref (B + 415)), (1, .ref (B + 416)), (2, .ref (B + 417)), (4, .int ((lw_pz M (3 - (y + 1)) (y + 1)).1)), (5, .int ((lw_pz M (3 - (y + 1)) (y + 1)).2.1)), (6, .int ((lw_pz M (3 - (y + 1)) (y + 1)).2.2)), (7, .int (nI y))] := by rw [lw_sm_s (f := lw_ps M y), lw_sm_s (f := lw_pc M y), show lw_ps M y i2 = 0 from if_neg (fun q => c_55 q.2), show lw_pc M y i2 = 0 from if_neg (fun q => c_55 q.2)]; exact hl
                      exact ih2 (i2 + 1) (by omega) _ _ _ hH (lv_sub hl [3, 4, 5, 6, 7, 8, 9, 2, 1, 0] rfl)
                    · exact absurd c_91 c_55
                · refine lv_aload_n hx hb dL_prize_58 rfl (lv_at hl 1 rfl) ?_
                  refine lv_iload hx hb dL_prize_59 (lv_at hl 9 rfl) ?_
                  refine rg_ialdN C0 hH (o := 416) (j := i2) (n0 := 40) (by omega) rfl rfl (by omega) dL_prize_61 ?_
                  refine lv_iconst (v := 1) hx hb dL_prize_62 (by decide) ?_
                  refine lv_isub hx hb dL_prize_63 ?_
                  refine lv_goto (tgt := 68) hx hb dL_prize_64 (by decide) ?_
                  refine lv_iadd hx hb dL_prize_68 ?_
                  refine lv_istore (lv' := [(8, .int ((lw_sm (lw_ps M y) i2) + ((M.1 416 i2) - 1))), (0, .ref (B + 415)), (1, .ref (B + 416)), (2, .ref (B + 417)), (4, .int ((lw_pz M (3 - (y + 1)) (y + 1)).1)), (5, .int ((lw_pz M (3 - (y + 1)) (y + 1)).2.1)), (6, .int ((lw_pz M (3 - (y + 1)) (y + 1)).2.2)), (7, .int (nI y)), (9, .int (lw_sm (lw_pc M y) i2)), (10, .int (nI i2))]) hx hb dL_prize_69 hl (by decide) rfl (fun ls hl => ?_)
                  refine lv_iload hx hb dL_prize_71 (lv_at hl 8 rfl) ?_
                  refine lv_aload_n hx hb dL_prize_73 rfl (lv_at hl 2 rfl) ?_
                  refine lv_iload hx hb dL_prize_74 (lv_at hl 9 rfl) ?_
                  refine rg_ialdN C0 hH (o := 416) (j := i2) (n0 := 40) (by omega) rfl rfl (by omega) dL_prize_76 ?_
                  refine lv_if_le (tgt := 98) hx hb dL_prize_77 (by decide) (fun c_77 => ?_) (fun c_77 => ?_)
                  · exact absurd c_77 c_41
                  · refine lv_aload_n hx hb dL_prize_80 rfl (lv_at hl 1 rfl) ?_
                    refine lv_iconst (v := 4) hx hb dL_prize_81 (by decide) ?_
                    refine lv_iload hx hb dL_prize_82 (lv_at hl 9 rfl) ?_
                    refine lv_bipush (v := 10) hx hb dL_prize_84 (by decide) ?_
                    refine lv_irem hx hb dL_prize_86 (by decide) ?_
                    refine rg_topi (y := nI (i2 % 10)) (by exact pk_rem (a := i2) (d := 10) (by omega) (by omega) (by omega)) ?_
                    refine lv_imul hx hb dL_prize_87 ?_
                    refine rg_topi (y := nI (4 * (i2 % 10))) (by exact lw_mul (4) (i2 % 10)) ?_
                    refine rg_ialdN C0 hH (o := 415) (j := (4 * (i2 % 10))) (n0 := 44) (by omega) rfl rfl (by omega) dL_prize_88 ?_
                    refine lv_iload hx hb dL_prize_89 (lv_at hl 7 rfl) ?_
                    refine lv_icmp_ne (tgt := 98) hx hb dL_prize_91 (by decide) (fun c_91 => ?_) (fun c_91 => ?_)
                    · exact absurd c_55 c_91
                    · refine lv_iconst (v := 1) hx hb dL_prize_94 (by decide) ?_
                      refine lv_goto (tgt := 99) hx hb dL_prize_95 (by decide) ?_
                      refine lv_iadd hx hb dL_prize_99 ?_
                      refine lv_istore (lv' := [(9, .int ((lw_sm (lw_pc M y) i2) + 1)), (8, .int ((lw_sm (lw_ps M y) i2) + ((M.1 416 i2) - 1))), (0, .ref (B + 415)), (1, .ref (B + 416)), (2, .ref (B + 417)), (4, .int ((lw_pz M (3 - (y + 1)) (y + 1)).1)), (5, .int ((lw_pz M (3 - (y + 1)) (y + 1)).2.1)), (6, .int ((lw_pz M (3 - (y + 1)) (y + 1)).2.2)), (7, .int (nI y)), (10, .int (nI i2))]) hx hb dL_prize_100 hl (by decide) rfl (fun ls hl => ?_)
                      refine lv_iinc (v := nI (i2 + 1)) (lv' := [(10, .int (nI (i2 + 1))), (9, .int ((lw_sm (lw_pc M y) i2) + 1)), (8, .int ((lw_sm (lw_ps M y) i2) + ((M.1 416 i2) - 1))), (0, .ref (B + 415)), (1, .ref (B + 416)), (2, .ref (B + 417)), (4, .int ((lw_pz M (3 - (y + 1)) (y + 1)).1)), (5, .int ((lw_pz M (3 - (y + 1)) (y + 1)).2.1)), (6, .int ((lw_pz M (3 - (y + 1)) (y + 1)).2.2)), (7, .int (nI y))]) hx hb dL_prize_102 hl (k := 9) rfl (nI_1 _) (by decide) rfl (fun ls hl => ?_)
                      refine lv_goto (tgt := 28) hx hb dL_prize_105 (by decide) ?_
                      replace hl : lv_has ls 11 [(10, .int (nI (i2 + 1))), (9, .int (lw_sm (lw_pc M y) (i2 + 1))), (8, .int (lw_sm (lw_ps M y) (i2 + 1))), (0, .ref (B + 415)), (1, .ref (B + 416)), (2, .ref (B + 417)), (4, .int ((lw_pz M (3 - (y + 1)) (y + 1)).1)), (5, .int ((lw_pz M (3 - (y + 1)) (y + 1)).2.1)), (6, .int ((lw_pz M (3 - (y + 1)) (y + 1)).2.2)), (7, .int (nI y))] := by rw [lw_sm_s (f := lw_ps M y), lw_sm_s (f := lw_pc M y), show lw_ps M y i2 = M.1 416 i2 - 1 from if_pos ⟨c_41, c_55⟩, show lw_pc M y i2 = 1 from if_pos ⟨c_41, c_55⟩]; exact hl
                      exact ih2 (i2 + 1) (by omega) _ _ _ hH (lv_sub hl [3, 4, 5, 6, 7, 8, 9, 2, 1, 0] rfl)
        replace hl : lv_has ls 11 [(10, .int (nI 0)), (9, .int (lw_sm (lw_pc M y) 0)), (8, .int (lw_sm (lw_ps M y) 0)), (0, .ref (B + 415)), (1, .ref (B + 416)), (2, .ref (B + 417)), (4, .int ((lw_pz M (3 - ((y + 1))) ((y + 1))).1)), (5, .int ((lw_pz M (3 - ((y + 1))) ((y + 1))).2.1)), (6, .int ((lw_pz M (3 - ((y + 1))) ((y + 1))).2.2)), (7, .int (nI y))] := by skip; exact hl
        exact cut_28 41 0 (by omega) _ _ _ hH (lv_sub hl [3, 4, 5, 6, 7, 8, 9, 2, 1, 0] rfl)
  replace hl : lv_has ls 11 [(7, .int (nI 3 - 1)), (6, .int ((lw_pz M (3 - (3)) (3)).2.2)), (5, .int ((lw_pz M (3 - (3)) (3)).2.1)), (4, .int ((lw_pz M (3 - (3)) (3)).1)), (0, .ref (B + 415)), (1, .ref (B + 416)), (2, .ref (B + 417)), (3, .int (3))] := by rw [show (lw_pz M (3 - (3)) (3)) = (-1, 0, 1) from rfl, show (nI 3 - 1 : Int32) = 3 - 1 from rfl]; exact hl
  exact cut_14 4 3 (by omega) _ _ _ hH (lv_sub hl [4, 5, 6, 3, 2, 1, 0] rfl)

set_option maxHeartbeats 4000000 in
set_option maxRecDepth 100000 in
/-- the poet whose links a link is most like -/
theorem k_L_hand (l : Launch) (E : rg_Env) (B : Nat) (M : rg_Mem) (n : Nat) (j : Nat) (nl : Nat) (hn : 422 ≤ n) (hT : lw_TI M) (hW : lw_WI M) (hj : j < 10) (hm3 : M.1 417 3 = nI nl) (hnl : nl ≤ 10) : Met l yL_hand (rg_w yL_hand cL_hand 12 (some (FieldType.int))) ({ frames := 2, cells := 0, slots := 0, locals := 49 } : Room) (va_Pc [.ref (B + 412), .ref (B + 414), .ref (B + 415), .ref (B + 417), .int (nI j)] (rg_Pre E B n rg_R0 M)) (rg_Ri E B n rg_R0 (M) (fun r => r = (lw_hz M j nl (3 - (0)) (0)).1)) 0 0 (rg_A B) := by
  refine rg_ofW (by decide +kernel) rfl (Nat.le_of_ble_eq_true rfl) ?_
  intro p e s m args below meth c ls C0 hH hl hr hlocks hnm
  replace hl : lv_has ls 12 [(0, .ref (B + 412)), (1, .ref (B + 414)), (2, .ref (B + 415)), (3, .ref (B + 417)), (4, .int (nI j))] := hl
  have hx := C0.1.1
  have hb := C0.1.2.1
  generalize hH9 : s.heap = H at hH ⊢
  generalize hL9 : ([] : List Loc) = locs at hH ⊢
  clear hH9 hL9
  refine lv_iconst (v := (-1)) hx hb dL_hand_0 (by decide) ?_
  refine lv_istore (lv' := [(5, .int ((-1))), (0, .ref (B + 412)), (1, .ref (B + 414)), (2, .ref (B + 415)), (3, .ref (B + 417)), (4, .int (nI j))]) hx hb dL_hand_1 hl (by decide) rfl (fun ls hl => ?_)
  refine lv_iconst (v := 0) hx hb dL_hand_3 (by decide) ?_
  refine lv_istore (lv' := [(6, .int (0)), (5, .int ((-1))), (0, .ref (B + 412)), (1, .ref (B + 414)), (2, .ref (B + 415)), (3, .ref (B + 417)), (4, .int (nI j))]) hx hb dL_hand_4 hl (by decide) rfl (fun ls hl => ?_)
  refine lv_iconst (v := 1) hx hb dL_hand_6 (by decide) ?_
  refine lv_istore (lv' := [(7, .int (1)), (6, .int (0)), (5, .int ((-1))), (0, .ref (B + 412)), (1, .ref (B + 414)), (2, .ref (B + 415)), (3, .ref (B + 417)), (4, .int (nI j))]) hx hb dL_hand_7 hl (by decide) rfl (fun ls hl => ?_)
  refine lv_iconst (v := 2) hx hb dL_hand_9 (by decide) ?_
  refine lv_istore (lv' := [(8, .int (2)), (7, .int (1)), (6, .int (0)), (5, .int ((-1))), (0, .ref (B + 412)), (1, .ref (B + 414)), (2, .ref (B + 415)), (3, .ref (B + 417)), (4, .int (nI j))]) hx hb dL_hand_10 hl (by decide) rfl (fun ls hl => ?_)
  have cut_12 : ∀ (fu i : Nat), i ≤ 3 ∧ i < fu → ∀  (H : Heap) (locs : List Loc) (ls : Array Slot), rg_H E B n rg_R0 M s H locs → lv_has ls 12 [(0, .ref (B + 412)), (1, .ref (B + 414)), (2, .ref (B + 415)), (3, .ref (B + 417)), (4, .int (nI j)), (5, .int ((lw_hz M j nl (3 - (i)) (i)).1)), (6, .int ((lw_hz M j nl (3 - (i)) (i)).2.1)), (7, .int ((lw_hz M j nl (3 - (i)) (i)).2.2)), (8, .int (nI i - 1))] → W p l e ({ frames := 2, cells := 0, slots := 0, locals := 49 } : Room) s m args below meth c H locs 0 0 (MQ below (rg_Ri E B n rg_R0 (M) (fun r => r = (lw_hz M j nl (3 - (0)) (0)).1)) args s 0 0 (rg_A B)) (F0 m 12 ls []) := by
    intro fu
    induction fu with
    | zero =>
      intro i hm
      exact absurd hm (by omega)
    | succ fu ih =>
      intro i hm  H locs ls hH hl 
      refine lv_iload hx hb dL_hand_12 (lv_at hl 8 rfl) ?_
      refine lv_if_lt (tgt := 164) hx hb dL_hand_14 (by decide) (fun c_14 => ?_) (fun c_14 => ?_)
      · refine lv_iload hx hb dL_hand_164 (lv_at hl 5 rfl) ?_
        exact rg_retRi C0 hH hr hlocks rfl (by have q := (lw_lt0 (t := i) (by omega)).mp c_14; subst q; rfl) dL_hand_166
      · obtain ⟨y, rfl⟩ : ∃ y, i = y + 1 := ⟨i - 1, by have := lw_no (lw_lt0 (t := i) (by omega)) c_14; omega⟩
        replace hl : lv_has ls 12 [(0, .ref (B + 412)), (1, .ref (B + 414)), (2, .ref (B + 415)), (3, .ref (B + 417)), (4, .int (nI j)), (5, .int ((lw_hz M j nl (3 - ((y + 1))) ((y + 1))).1)), (6, .int ((lw_hz M j nl (3 - ((y + 1))) ((y + 1))).2.1)), (7, .int ((lw_hz M j nl (3 - ((y + 1))) ((y + 1))).2.2)), (8, .int (nI y))] := by rw [nI_pred] at hl; exact hl
        refine lv_iconst (v := 0) hx hb dL_hand_17 (by decide) ?_
        refine lv_istore (lv' := [(9, .int (0)), (0, .ref (B + 412)), (1, .ref (B + 414)), (2, .ref (B + 415)), (3, .ref (B + 417)), (4, .int (nI j)), (5, .int ((lw_hz M j nl (3 - ((y + 1))) ((y + 1))).1)), (6, .int ((lw_hz M j nl (3 - ((y + 1))) ((y + 1))).2.1)), (7, .int ((lw_hz M j nl (3 - ((y + 1))) ((y + 1))).2.2)), (8, .int (nI y))]) hx hb dL_hand_18 hl (by decide) rfl (fun ls hl => ?_)
        refine lv_iconst (v := 0) hx hb dL_hand_20 (by decide) ?_
        refine lv_istore (lv' := [(10, .int (0)), (9, .int (0)), (0, .ref (B + 412)), (1, .ref (B + 414)), (2, .ref (B + 415)), (3, .ref (B + 417)), (4, .int (nI j)), (5, .int ((lw_hz M j nl (3 - ((y + 1))) ((y + 1))).1)), (6, .int ((lw_hz M j nl (3 - ((y + 1))) ((y + 1))).2.1)), (7, .int ((lw_hz M j nl (3 - ((y + 1))) ((y + 1))).2.2)), (8, .int (nI y))]) hx hb dL_hand_21 hl (by decide) rfl (fun ls hl => ?_)
        refine lv_iconst (v := 0) hx hb dL_hand_23 (by decide) ?_
        refine lv_istore (lv' := [(11, .int (0)), (10, .int (0)), (9, .int (0)), (0, .ref (B + 412)), (1, .ref (B + 414)), (2, .ref (B + 415)), (3, .ref (B + 417)), (4, .int (nI j)), (5, .int ((lw_hz M j nl (3 - ((y + 1))) ((y + 1))).1)), (6, .int ((lw_hz M j nl (3 - ((y + 1))) ((y + 1))).2.1)), (7, .int ((lw_hz M j nl (3 - ((y + 1))) ((y + 1))).2.2)), (8, .int (nI y))]) hx hb dL_hand_24 hl (by decide) rfl (fun ls hl => ?_)
        have cut_26 : ∀ (fu2 i2 : Nat), i2 ≤ nl ∧ nl < i2 + fu2 → ∀  (H : Heap) (locs : List Loc) (ls : Array Slot), rg_H E B n rg_R0 M s H locs → lv_has ls 12 [(0, .ref (B + 412)), (1, .ref (B + 414)), (2, .ref (B + 415)), (3, .ref (B + 417)), (4, .int (nI j)), (5, .int ((lw_hz M j nl (3 - (y + 1)) (y + 1)).1)), (6, .int ((lw_hz M j nl (3 - (y + 1)) (y + 1)).2.1)), (7, .int ((lw_hz M j nl (3 - (y + 1)) (y + 1)).2.2)), (8, .int (nI y)), (9, .int (lw_sm (lw_hs M j y) i2)), (10, .int (nI (lw_ct (lw_hb M j y) i2))), (11, .int (nI i2))] → W p l e ({ frames := 2, cells := 0, slots := 0, locals := 49 } : Room) s m args below meth c H locs 0 0 (MQ below (rg_Ri E B n rg_R0 (M) (fun r => r = (lw_hz M j nl (3 - (0)) (0)).1)) args s 0 0 (rg_A B)) (F0 m 26 ls []) := by
          intro fu2
          induction fu2 with
          | zero =>
            intro i2 hm2
            exact absurd hm2 (by omega)
          | succ fu2 ih2 =>
            intro i2 hm2  H locs ls hH hl 
            refine lv_iload hx hb dL_hand_26 (lv_at hl 11 rfl) ?_
            refine lv_aload_n hx hb dL_hand_28 rfl (lv_at hl 3 rfl) ?_
            refine lv_iconst (v := 3) hx hb dL_hand_29 (by decide) ?_
            refine rg_topi (y := nI 3) (by exact rfl) ?_
            refine rg_ialdN C0 hH (o := 417) (j := 3) (n0 := 9) (by omega) rfl rfl (by omega) dL_hand_30 ?_
            refine rg_topi (y := nI nl) (by exact hm3) ?_
            refine lv_icmp_ge (tgt := 86) hx hb dL_hand_31 (by decide) (fun c_31 => ?_) (fun c_31 => ?_)
            · have qn : i2 = nl := rg_lp_end (n := nl) hm2.1 (by omega) c_31
              rw [qn] at hl
              replace hl : lv_has ls 12 [(0, .ref (B + 412)), (1, .ref (B + 414)), (2, .ref (B + 415)), (3, .ref (B + 417)), (4, .int (nI j)), (5, .int ((lw_hz M j nl (3 - (y + 1)) (y + 1)).1)), (6, .int ((lw_hz M j nl (3 - (y + 1)) (y + 1)).2.1)), (7, .int ((lw_hz M j nl (3 - (y + 1)) (y + 1)).2.2)), (8, .int (nI y)), (9, .int (lw_sm (lw_hs M j y) nl)), (10, .int (nI (lw_ct (lw_hb M j y) nl))), (11, .int (nI nl))] := hl
              refine lv_iload hx hb dL_hand_86 (lv_at hl 10 rfl) ?_
              have cut_114 : ∀  (H : Heap) (locs : List Loc) (ls : Array Slot), rg_H E B n rg_R0 M s H locs → lv_has ls 12 [(0, .ref (B + 412)), (1, .ref (B + 414)), (2, .ref (B + 415)), (3, .ref (B + 417)), (4, .int (nI j)), (5, .int ((lw_hz M j nl (3 - (y + 1)) (y + 1)).1)), (6, .int ((lw_hz M j nl (3 - (y + 1)) (y + 1)).2.1)), (7, .int ((lw_hz M j nl (3 - (y + 1)) (y + 1)).2.2)), (8, .int (nI y)), (9, .int (lw_sm (lw_hs M j y) nl)), (10, .int (nI (lw_ct (lw_hb M j y) nl)))] → W p l e ({ frames := 2, cells := 0, slots := 0, locals := 49 } : Room) s m args below meth c H locs 0 0 (MQ below (rg_Ri E B n rg_R0 (M) (fun r => r = (lw_hz M j nl (3 - (0)) (0)).1)) args s 0 0 (rg_A B)) (F0 m 114 ls [.int (rg_b (lw_bq (fun p => lw_sm (lw_hs M j p) nl) (fun p => nI (lw_ct (lw_hb M j p) nl)) (lw_hz M j nl (3 - (y + 1)) (y + 1)) y))]) := by
                intro  H locs ls hH hl 
                refine lv_istore (lv' := [(11, .int (rg_b (lw_bq (fun p => lw_sm (lw_hs M j p) nl) (fun p => nI (lw_ct (lw_hb M j p) nl)) (lw_hz M j nl (3 - (y + 1)) (y + 1)) y))), (0, .ref (B + 412)), (1, .ref (B + 414)), (2, .ref (B + 415)), (3, .ref (B + 417)), (4, .int (nI j)), (5, .int ((lw_hz M j nl (3 - (y + 1)) (y + 1)).1)), (6, .int ((lw_hz M j nl (3 - (y + 1)) (y + 1)).2.1)), (7, .int ((lw_hz M j nl (3 - (y + 1)) (y + 1)).2.2)), (8, .int (nI y)), (9, .int (lw_sm (lw_hs M j y) nl)), (10, .int (nI (lw_ct (lw_hb M j y) nl)))]) hx hb dL_hand_114 hl (by decide) rfl (fun ls hl => ?_)
                refine lv_iload hx hb dL_hand_116 (lv_at hl 0 rfl) ?_
                refine lv_if_eq (tgt := 126) hx hb dL_hand_118 (by decide) (fun c_118 => ?_) (fun c_118 => ?_)
                · refine lv_iload hx hb dL_hand_126 (lv_at hl 6 rfl) ?_
                  refine lv_istore (lv' := [(5, .int ((lw_hz M j nl (3 - (y + 1)) (y + 1)).1)), (11, .int (rg_b (lw_bq (fun p => lw_sm (lw_hs M j p) nl) (fun p => nI (lw_ct (lw_hb M j p) nl)) (lw_hz M j nl (3 - (y + 1)) (y + 1)) y))), (0, .ref (B + 412)), (1, .ref (B + 414)), (2, .ref (B + 415)), (3, .ref (B + 417)), (4, .int (nI j)), (6, .int ((lw_hz M j nl (3 - (y + 1)) (y + 1)).2.1)), (7, .int ((lw_hz M j nl (3 - (y + 1)) (y + 1)).2.2)), (8, .int (nI y)), (9, .int (lw_sm (lw_hs M j y) nl)), (10, .int (nI (lw_ct (lw_hb M j y) nl)))]) hx hb dL_hand_128 hl (by decide) rfl (fun ls hl => ?_)
                  refine lv_iload hx hb dL_hand_130 (lv_at hl 1 rfl) ?_
                  refine lv_if_eq (tgt := 140) hx hb dL_hand_132 (by decide) (fun c_132 => ?_) (fun c_132 => ?_)
                  · refine lv_iload hx hb dL_hand_140 (lv_at hl 7 rfl) ?_
                    refine lv_istore (lv' := [(6, .int ((lw_hz M j nl (3 - (y + 1)) (y + 1)).2.1)), (5, .int ((lw_hz M j nl (3 - (y + 1)) (y + 1)).1)), (11, .int (rg_b (lw_bq (fun p => lw_sm (lw_hs M j p) nl) (fun p => nI (lw_ct (lw_hb M j p) nl)) (lw_hz M j nl (3 - (y + 1)) (y + 1)) y))), (0, .ref (B + 412)), (1, .ref (B + 414)), (2, .ref (B + 415)), (3, .ref (B + 417)), (4, .int (nI j)), (7, .int ((lw_hz M j nl (3 - (y + 1)) (y + 1)).2.2)), (8, .int (nI y)), (9, .int (lw_sm (lw_hs M j y) nl)), (10, .int (nI (lw_ct (lw_hb M j y) nl)))]) hx hb dL_hand_142 hl (by decide) rfl (fun ls hl => ?_)
                    refine lv_iload hx hb dL_hand_144 (lv_at hl 2 rfl) ?_
                    refine lv_if_eq (tgt := 154) hx hb dL_hand_146 (by decide) (fun c_146 => ?_) (fun c_146 => ?_)
                    · refine lv_iload hx hb dL_hand_154 (lv_at hl 8 rfl) ?_
                      refine lv_istore (lv' := [(7, .int ((lw_hz M j nl (3 - (y + 1)) (y + 1)).2.2)), (6, .int ((lw_hz M j nl (3 - (y + 1)) (y + 1)).2.1)), (5, .int ((lw_hz M j nl (3 - (y + 1)) (y + 1)).1)), (11, .int (rg_b (lw_bq (fun p => lw_sm (lw_hs M j p) nl) (fun p => nI (lw_ct (lw_hb M j p) nl)) (lw_hz M j nl (3 - (y + 1)) (y + 1)) y))), (0, .ref (B + 412)), (1, .ref (B + 414)), (2, .ref (B + 415)), (3, .ref (B + 417)), (4, .int (nI j)), (8, .int (nI y)), (9, .int (lw_sm (lw_hs M j y) nl)), (10, .int (nI (lw_ct (lw_hb M j y) nl)))]) hx hb dL_hand_156 hl (by decide) rfl (fun ls hl => ?_)
                      refine lv_iinc (v := (nI y) - 1) (lv' := [(8, .int ((nI y) - 1)), (7, .int ((lw_hz M j nl (3 - (y + 1)) (y + 1)).2.2)), (6, .int ((lw_hz M j nl (3 - (y + 1)) (y + 1)).2.1)), (5, .int ((lw_hz M j nl (3 - (y + 1)) (y + 1)).1)), (11, .int (rg_b (lw_bq (fun p => lw_sm (lw_hs M j p) nl) (fun p => nI (lw_ct (lw_hb M j p) nl)) (lw_hz M j nl (3 - (y + 1)) (y + 1)) y))), (0, .ref (B + 412)), (1, .ref (B + 414)), (2, .ref (B + 415)), (3, .ref (B + 417)), (4, .int (nI j)), (9, .int (lw_sm (lw_hs M j y) nl)), (10, .int (nI (lw_ct (lw_hb M j y) nl)))]) hx hb dL_hand_158 hl (k := 9) rfl (rg_m1s _) (by decide) rfl (fun ls hl => ?_)
                      refine lv_goto (tgt := 12) hx hb dL_hand_161 (by decide) ?_
                      replace hl : lv_has ls 12 [(8, .int (nI y - 1)), (7, .int ((lw_hz M j nl (3 - (y)) (y)).2.2)), (6, .int ((lw_hz M j nl (3 - (y)) (y)).2.1)), (5, .int ((lw_hz M j nl (3 - (y)) (y)).1)), (11, .int (rg_b (lw_bq (fun p => lw_sm (lw_hs M j p) nl) (fun p => nI (lw_ct (lw_hb M j p) nl)) (lw_hz M j nl (3 - (y + 1)) (y + 1)) y))), (0, .ref (B + 412)), (1, .ref (B + 414)), (2, .ref (B + 415)), (3, .ref (B + 417)), (4, .int (nI j)), (9, .int (lw_sm (lw_hs M j y) nl)), (10, .int (nI (lw_ct (lw_hb M j y) nl)))] := by rw [show (lw_hz M j nl (3 - (y)) (y)) = lw_bs _ _ (lw_hz M j nl (3 - (y + 1)) (y + 1)) y from lw_bz_at (show y < 3 by omega), lw_bs_n (rg_b_eq.mp c_118)]; exact hl
                      exact ih y (by omega) _ _ _ hH (lv_sub hl [5, 6, 7, 8, 9, 3, 2, 1, 0] rfl)
                    · exact absurd c_118 c_146
                  · exact absurd c_118 c_132
                · refine lv_iload hx hb dL_hand_121 (lv_at hl 9 rfl) ?_
                  refine lv_goto (tgt := 128) hx hb dL_hand_123 (by decide) ?_
                  refine lv_istore (lv' := [(5, .int (nI y)), (11, .int (rg_b (lw_bq (fun p => lw_sm (lw_hs M j p) nl) (fun p => nI (lw_ct (lw_hb M j p) nl)) (lw_hz M j nl (3 - (y + 1)) (y + 1)) y))), (0, .ref (B + 412)), (1, .ref (B + 414)), (2, .ref (B + 415)), (3, .ref (B + 417)), (4, .int (nI j)), (6, .int ((lw_hz M j nl (3 - (y + 1)) (y + 1)).2.1)), (7, .int ((lw_hz M j nl (3 - (y + 1)) (y + 1)).2.2)), (8, .int (nI y)), (9, .int (lw_sm (lw_hs M j y) nl)), (10, .int (nI (lw_ct (lw_hb M j y) nl)))]) hx hb dL_hand_128 hl (by decide) rfl (fun ls hl => ?_)
                  refine lv_iload hx hb dL_hand_130 (lv_at hl 1 rfl) ?_
                  refine lv_if_eq (tgt := 140) hx hb dL_hand_132 (by decide) (fun c_132 => ?_) (fun c_132 => ?_)
                  · exact absurd c_132 c_118
                  · refine lv_iload hx hb dL_hand_135 (lv_at hl 10 rfl) ?_
                    refine lv_goto (tgt := 142) hx hb dL_hand_137 (by decide) ?_
                    refine lv_istore (lv' := [(6, .int (lw_sm (lw_hs M j y) nl)), (5, .int (nI y)), (11, .int (rg_b (lw_bq (fun p => lw_sm (lw_hs M j p) nl) (fun p => nI (lw_ct (lw_hb M j p) nl)) (lw_hz M j nl (3 - (y + 1)) (y + 1)) y))), (0, .ref (B + 412)), (1, .ref (B + 414)), (2, .ref (B + 415)), (3, .ref (B + 417)), (4, .int (nI j)), (7, .int ((lw_hz M j nl (3 - (y + 1)) (y + 1)).2.2)), (8, .int (nI y)), (9, .int (lw_sm (lw_hs M j y) nl)), (10, .int (nI (lw_ct (lw_hb M j y) nl)))]) hx hb dL_hand_142 hl (by decide) rfl (fun ls hl => ?_)
                    refine lv_iload hx hb dL_hand_144 (lv_at hl 2 rfl) ?_
                    refine lv_if_eq (tgt := 154) hx hb dL_hand_146 (by decide) (fun c_146 => ?_) (fun c_146 => ?_)
                    · exact absurd c_146 c_118
                    · refine lv_iload hx hb dL_hand_149 (lv_at hl 11 rfl) ?_
                      refine lv_goto (tgt := 156) hx hb dL_hand_151 (by decide) ?_
                      refine lv_istore (lv' := [(7, .int (nI (lw_ct (lw_hb M j y) nl))), (6, .int (lw_sm (lw_hs M j y) nl)), (5, .int (nI y)), (11, .int (rg_b (lw_bq (fun p => lw_sm (lw_hs M j p) nl) (fun p => nI (lw_ct (lw_hb M j p) nl)) (lw_hz M j nl (3 - (y + 1)) (y + 1)) y))), (0, .ref (B + 412)), (1, .ref (B + 414)), (2, .ref (B + 415)), (3, .ref (B + 417)), (4, .int (nI j)), (8, .int (nI y)), (9, .int (lw_sm (lw_hs M j y) nl)), (10, .int (nI (lw_ct (lw_hb M j y) nl)))]) hx hb dL_hand_156 hl (by decide) rfl (fun ls hl => ?_)
                      refine lv_iinc (v := (nI y) - 1) (lv' := [(8, .int ((nI y) - 1)), (7, .int (nI (lw_ct (lw_hb M j y) nl))), (6, .int (lw_sm (lw_hs M j y) nl)), (5, .int (nI y)), (11, .int (rg_b (lw_bq (fun p => lw_sm (lw_hs M j p) nl) (fun p => nI (lw_ct (lw_hb M j p) nl)) (lw_hz M j nl (3 - (y + 1)) (y + 1)) y))), (0, .ref (B + 412)), (1, .ref (B + 414)), (2, .ref (B + 415)), (3, .ref (B + 417)), (4, .int (nI j)), (9, .int (lw_sm (lw_hs M j y) nl)), (10, .int (nI (lw_ct (lw_hb M j y) nl)))]) hx hb dL_hand_158 hl (k := 9) rfl (rg_m1s _) (by decide) rfl (fun ls hl => ?_)
                      refine lv_goto (tgt := 12) hx hb dL_hand_161 (by decide) ?_
                      replace hl : lv_has ls 12 [(8, .int (nI y - 1)), (7, .int ((lw_hz M j nl (3 - (y)) (y)).2.2)), (6, .int ((lw_hz M j nl (3 - (y)) (y)).2.1)), (5, .int ((lw_hz M j nl (3 - (y)) (y)).1)), (11, .int (rg_b (lw_bq (fun p => lw_sm (lw_hs M j p) nl) (fun p => nI (lw_ct (lw_hb M j p) nl)) (lw_hz M j nl (3 - (y + 1)) (y + 1)) y))), (0, .ref (B + 412)), (1, .ref (B + 414)), (2, .ref (B + 415)), (3, .ref (B + 417)), (4, .int (nI j)), (9, .int (lw_sm (lw_hs M j y) nl)), (10, .int (nI (lw_ct (lw_hb M j y) nl)))] := by rw [show (lw_hz M j nl (3 - (y)) (y)) = lw_bs _ _ (lw_hz M j nl (3 - (y + 1)) (y + 1)) y from lw_bz_at (show y < 3 by omega), lw_bs_y (rg_b_ne.mp c_118)]; exact hl
                      exact ih y (by omega) _ _ _ hH (lv_sub hl [5, 6, 7, 8, 9, 3, 2, 1, 0] rfl)
              refine lv_if_le (tgt := 113) hx hb dL_hand_88 (by decide) (fun c_88 => ?_) (fun c_88 => ?_)
              · refine lv_iconst (v := 0) hx hb dL_hand_113 (by decide) ?_
                refine rg_topi (y := rg_b (lw_bq (fun p => lw_sm (lw_hs M j p) nl) (fun p => nI (lw_ct (lw_hb M j p) nl)) (lw_hz M j nl (3 - (y + 1)) (y + 1)) y)) (by exact rg_b_f (fun q => q.1 c_88)) ?_
                exact cut_114 _ _ _ hH (lv_sub hl [0, 1, 2, 3, 4, 5, 6, 7, 8, 9, 10] rfl)
              · refine lv_iload hx hb dL_hand_91 (lv_at hl 5 rfl) ?_
                refine lv_if_lt (tgt := 109) hx hb dL_hand_93 (by decide) (fun c_93 => ?_) (fun c_93 => ?_)
                · refine lv_iconst (v := 1) hx hb dL_hand_109 (by decide) ?_
                  refine lv_goto (tgt := 114) hx hb dL_hand_110 (by decide) ?_
                  refine rg_topi (y := rg_b (lw_bq (fun p => lw_sm (lw_hs M j p) nl) (fun p => nI (lw_ct (lw_hb M j p) nl)) (lw_hz M j nl (3 - (y + 1)) (y + 1)) y)) (by exact rg_b_t ⟨c_88, Or.inl c_93⟩) ?_
                  exact cut_114 _ _ _ hH (lv_sub hl [0, 1, 2, 3, 4, 5, 6, 7, 8, 9, 10] rfl)
                · refine lv_iload hx hb dL_hand_96 (lv_at hl 9 rfl) ?_
                  refine lv_iload hx hb dL_hand_98 (lv_at hl 7 rfl) ?_
                  refine lv_imul hx hb dL_hand_100 ?_
                  refine lv_iload hx hb dL_hand_101 (lv_at hl 6 rfl) ?_
                  refine lv_iload hx hb dL_hand_103 (lv_at hl 10 rfl) ?_
                  refine lv_imul hx hb dL_hand_105 ?_
                  refine lv_icmp_lt (tgt := 113) hx hb dL_hand_106 (by decide) (fun c_106 => ?_) (fun c_106 => ?_)
                  · refine lv_iconst (v := 0) hx hb dL_hand_113 (by decide) ?_
                    refine rg_topi (y := rg_b (lw_bq (fun p => lw_sm (lw_hs M j p) nl) (fun p => nI (lw_ct (lw_hb M j p) nl)) (lw_hz M j nl (3 - (y + 1)) (y + 1)) y)) (by exact rg_b_f (fun q => q.2.elim c_93 (fun z => z c_106))) ?_
                    exact cut_114 _ _ _ hH (lv_sub hl [0, 1, 2, 3, 4, 5, 6, 7, 8, 9, 10] rfl)
                  · refine lv_iconst (v := 1) hx hb dL_hand_109 (by decide) ?_
                    refine lv_goto (tgt := 114) hx hb dL_hand_110 (by decide) ?_
                    refine rg_topi (y := rg_b (lw_bq (fun p => lw_sm (lw_hs M j p) nl) (fun p => nI (lw_ct (lw_hb M j p) nl)) (lw_hz M j nl (3 - (y + 1)) (y + 1)) y)) (by exact rg_b_t ⟨c_88, Or.inr c_106⟩) ?_
                    exact cut_114 _ _ _ hH (lv_sub hl [0, 1, 2, 3, 4, 5, 6, 7, 8, 9, 10] rfl)
            · have hlt := rg_lp_lt (n := nl) hm2.1 (by omega) c_31
              refine lv_iload hx hb dL_hand_34 (lv_at hl 11 rfl) ?_
              refine lv_iload hx hb dL_hand_36 (lv_at hl 4 rfl) ?_
              refine lv_icmp_eq (tgt := 80) hx hb dL_hand_38 (by decide) (fun c_38 => ?_) (fun c_38 => ?_)
              · refine lv_iinc (v := nI (i2 + 1)) (lv' := [(11, .int (nI (i2 + 1))), (0, .ref (B + 412)), (1, .ref (B + 414)), (2, .ref (B + 415)), (3, .ref (B + 417)), (4, .int (nI j)), (5, .int ((lw_hz M j nl (3 - (y + 1)) (y + 1)).1)), (6, .int ((lw_hz M j nl (3 - (y + 1)) (y + 1)).2.1)), (7, .int ((lw_hz M j nl (3 - (y + 1)) (y + 1)).2.2)), (8, .int (nI y)), (9, .int (lw_sm (lw_hs M j y) i2)), (10, .int (nI (lw_ct (lw_hb M j y) i2)))]) hx hb dL_hand_80 hl (k := 11) rfl (nI_1 _) (by decide) rfl (fun ls hl => ?_)
                refine lv_goto (tgt := 26) hx hb dL_hand_83 (by decide) ?_
                have hb : lw_hb M j y i2 = false := decide_eq_false (fun q => q.1 ((nI_eq (by omega) (by omega)).mp c_38))
                replace hl : lv_has ls 12 [(11, .int (nI (i2 + 1))), (0, .ref (B + 412)), (1, .ref (B + 414)), (2, .ref (B + 415)), (3, .ref (B + 417)), (4, .int (nI j)), (5, .int ((lw_hz M j nl (3 - (y + 1)) (y + 1)).1)), (6, .int ((lw_hz M j nl (3 - (y + 1)) (y + 1)).2.1)), (7, .int ((lw_hz M j nl (3 - (y + 1)) (y + 1)).2.2)), (8, .int (nI y)), (9, .int (lw_sm (lw_hs M j y) (i2 + 1))), (10, .int (nI (lw_ct (lw_hb M j y) (i2 + 1))))] := by rw [lw_sm_s (f := lw_hs M j y) (k := i2), show lw_hs M j y i2 = 0 from if_neg (by rw [hb]; decide), lw_ct, hb, if_neg (by decide), Nat.add_zero, Int32.add_zero]; exact hl
                exact ih2 (i2 + 1) (by omega) _ _ _ hH (lv_sub hl [1, 2, 3, 4, 5, 6, 7, 8, 9, 10, 11, 0] rfl)
              · refine lv_aload_n hx hb dL_hand_41 rfl (lv_at hl 2 rfl) ?_
                refine lv_iconst (v := 4) hx hb dL_hand_42 (by decide) ?_
                refine lv_iload hx hb dL_hand_43 (lv_at hl 11 rfl) ?_
                refine lv_imul hx hb dL_hand_45 ?_
                refine rg_topi (y := nI (4 * i2)) (by exact lw_mul (4) (i2)) ?_
                refine rg_ialdN C0 hH (o := 415) (j := (4 * i2)) (n0 := 44) (by omega) rfl rfl (by omega) dL_hand_46 ?_
                refine lv_iload hx hb dL_hand_47 (lv_at hl 8 rfl) ?_
                refine lv_icmp_ne (tgt := 80) hx hb dL_hand_49 (by decide) (fun c_49 => ?_) (fun c_49 => ?_)
                · refine lv_iinc (v := nI (i2 + 1)) (lv' := [(11, .int (nI (i2 + 1))), (0, .ref (B + 412)), (1, .ref (B + 414)), (2, .ref (B + 415)), (3, .ref (B + 417)), (4, .int (nI j)), (5, .int ((lw_hz M j nl (3 - (y + 1)) (y + 1)).1)), (6, .int ((lw_hz M j nl (3 - (y + 1)) (y + 1)).2.1)), (7, .int ((lw_hz M j nl (3 - (y + 1)) (y + 1)).2.2)), (8, .int (nI y)), (9, .int (lw_sm (lw_hs M j y) i2)), (10, .int (nI (lw_ct (lw_hb M j y) i2)))]) hx hb dL_hand_80 hl (k := 11) rfl (nI_1 _) (by decide) rfl (fun ls hl => ?_)
                  refine lv_goto (tgt := 26) hx hb dL_hand_83 (by decide) ?_
                  have hb : lw_hb M j y i2 = false := decide_eq_false (fun q => c_49 q.2.1)
                  replace hl : lv_has ls 12 [(11, .int (nI (i2 + 1))), (0, .ref (B + 412)), (1, .ref (B + 414)), (2, .ref (B + 415)), (3, .ref (B + 417)), (4, .int (nI j)), (5, .int ((lw_hz M j nl (3 - (y + 1)) (y + 1)).1)), (6, .int ((lw_hz M j nl (3 - (y + 1)) (y + 1)).2.1)), (7, .int ((lw_hz M j nl (3 - (y + 1)) (y + 1)).2.2)), (8, .int (nI y)), (9, .int (lw_sm (lw_hs M j y) (i2 + 1))), (10, .int (nI (lw_ct (lw_hb M j y) (i2 + 1))))] := by rw [lw_sm_s (f := lw_hs M j y) (k := i2), show lw_hs M j y i2 = 0 from if_neg (by rw [hb]; decide), lw_ct, hb, if_neg (by decide), Nat.add_zero, Int32.add_zero]; exact hl
                  exact ih2 (i2 + 1) (by omega) _ _ _ hH (lv_sub hl [1, 2, 3, 4, 5, 6, 7, 8, 9, 10, 11, 0] rfl)
                · refine lv_aload_n hx hb dL_hand_52 rfl (lv_at hl 2 rfl) ?_
                  refine lv_iconst (v := 4) hx hb dL_hand_53 (by decide) ?_
                  refine lv_iload hx hb dL_hand_54 (lv_at hl 11 rfl) ?_
                  refine lv_imul hx hb dL_hand_56 ?_
                  refine rg_topi (y := nI (4 * i2)) (by exact lw_mul (4) (i2)) ?_
                  refine lv_iconst (v := 2) hx hb dL_hand_57 (by decide) ?_
                  refine lv_iadd hx hb dL_hand_58 ?_
                  refine rg_topi (y := nI ((4 * i2) + 2)) (by exact nI_add (4 * i2) (2)) ?_
                  refine rg_ialdN C0 hH (o := 415) (j := ((4 * i2) + 2)) (n0 := 44) (by omega) rfl rfl (by omega) dL_hand_59 ?_
                  refine lv_if_ne (tgt := 80) hx hb dL_hand_60 (by decide) (fun c_60 => ?_) (fun c_60 => ?_)
                  · refine lv_iinc (v := nI (i2 + 1)) (lv' := [(11, .int (nI (i2 + 1))), (0, .ref (B + 412)), (1, .ref (B + 414)), (2, .ref (B + 415)), (3, .ref (B + 417)), (4, .int (nI j)), (5, .int ((lw_hz M j nl (3 - (y + 1)) (y + 1)).1)), (6, .int ((lw_hz M j nl (3 - (y + 1)) (y + 1)).2.1)), (7, .int ((lw_hz M j nl (3 - (y + 1)) (y + 1)).2.2)), (8, .int (nI y)), (9, .int (lw_sm (lw_hs M j y) i2)), (10, .int (nI (lw_ct (lw_hb M j y) i2)))]) hx hb dL_hand_80 hl (k := 11) rfl (nI_1 _) (by decide) rfl (fun ls hl => ?_)
                    refine lv_goto (tgt := 26) hx hb dL_hand_83 (by decide) ?_
                    have hb : lw_hb M j y i2 = false := decide_eq_false (fun q => c_60 q.2.2)
                    replace hl : lv_has ls 12 [(11, .int (nI (i2 + 1))), (0, .ref (B + 412)), (1, .ref (B + 414)), (2, .ref (B + 415)), (3, .ref (B + 417)), (4, .int (nI j)), (5, .int ((lw_hz M j nl (3 - (y + 1)) (y + 1)).1)), (6, .int ((lw_hz M j nl (3 - (y + 1)) (y + 1)).2.1)), (7, .int ((lw_hz M j nl (3 - (y + 1)) (y + 1)).2.2)), (8, .int (nI y)), (9, .int (lw_sm (lw_hs M j y) (i2 + 1))), (10, .int (nI (lw_ct (lw_hb M j y) (i2 + 1))))] := by rw [lw_sm_s (f := lw_hs M j y) (k := i2), show lw_hs M j y i2 = 0 from if_neg (by rw [hb]; decide), lw_ct, hb, if_neg (by decide), Nat.add_zero, Int32.add_zero]; exact hl
                    exact ih2 (i2 + 1) (by omega) _ _ _ hH (lv_sub hl [1, 2, 3, 4, 5, 6, 7, 8, 9, 10, 11, 0] rfl)
                  · refine lv_iload hx hb dL_hand_63 (lv_at hl 9 rfl) ?_
                    refine lv_aload_n hx hb dL_hand_65 rfl (lv_at hl 0 rfl) ?_
                    refine lv_aload_n hx hb dL_hand_66 rfl (lv_at hl 1 rfl) ?_
                    refine lv_iload hx hb dL_hand_67 (lv_at hl 4 rfl) ?_
                    refine lv_iload hx hb dL_hand_69 (lv_at hl 11 rfl) ?_
                    refine rg_callSGi C0 hH (As := [.ref (B + 412), .ref (B + 414), .int (nI j), .int (nI i2)]) (rest := [.int (lw_sm (lw_hs M j y) i2)]) (k_L_alike l E B M n j i2 (by assumption) (by assumption) (by assumption) hj (by omega)) (rg_cwS 4 C0.1.2.2.2.2 tw_m_L_50 tw_s_L_alike tw_n_L tw_c_L_alike rfl rfl hd_L_alike ⟨Nat.le_of_ble_eq_true rfl, Nat.le_of_ble_eq_true rfl⟩) rfl hl.1 rfl (Nat.le_of_ble_eq_true rfl) dL_hand_71 ⟨Nat.le_of_ble_eq_true rfl, Nat.le_of_ble_eq_true rfl⟩ (fun H locs hH => ?_)
                    refine lv_iadd hx hb dL_hand_74 ?_
                    refine lv_istore (lv' := [(9, .int ((lw_sm (lw_hs M j y) i2) + (lw_al M j i2))), (0, .ref (B + 412)), (1, .ref (B + 414)), (2, .ref (B + 415)), (3, .ref (B + 417)), (4, .int (nI j)), (5, .int ((lw_hz M j nl (3 - (y + 1)) (y + 1)).1)), (6, .int ((lw_hz M j nl (3 - (y + 1)) (y + 1)).2.1)), (7, .int ((lw_hz M j nl (3 - (y + 1)) (y + 1)).2.2)), (8, .int (nI y)), (10, .int (nI (lw_ct (lw_hb M j y) i2))), (11, .int (nI i2))]) hx hb dL_hand_75 hl (by decide) rfl (fun ls hl => ?_)
                    refine lv_iinc (v := nI ((lw_ct (lw_hb M j y) i2) + 1)) (lv' := [(10, .int (nI ((lw_ct (lw_hb M j y) i2) + 1))), (9, .int ((lw_sm (lw_hs M j y) i2) + (lw_al M j i2))), (0, .ref (B + 412)), (1, .ref (B + 414)), (2, .ref (B + 415)), (3, .ref (B + 417)), (4, .int (nI j)), (5, .int ((lw_hz M j nl (3 - (y + 1)) (y + 1)).1)), (6, .int ((lw_hz M j nl (3 - (y + 1)) (y + 1)).2.1)), (7, .int ((lw_hz M j nl (3 - (y + 1)) (y + 1)).2.2)), (8, .int (nI y)), (11, .int (nI i2))]) hx hb dL_hand_77 hl (k := 10) rfl (nI_1 _) (by decide) rfl (fun ls hl => ?_)
                    refine lv_iinc (v := nI (i2 + 1)) (lv' := [(11, .int (nI (i2 + 1))), (10, .int (nI ((lw_ct (lw_hb M j y) i2) + 1))), (9, .int ((lw_sm (lw_hs M j y) i2) + (lw_al M j i2))), (0, .ref (B + 412)), (1, .ref (B + 414)), (2, .ref (B + 415)), (3, .ref (B + 417)), (4, .int (nI j)), (5, .int ((lw_hz M j nl (3 - (y + 1)) (y + 1)).1)), (6, .int ((lw_hz M j nl (3 - (y + 1)) (y + 1)).2.1)), (7, .int ((lw_hz M j nl (3 - (y + 1)) (y + 1)).2.2)), (8, .int (nI y))]) hx hb dL_hand_80 hl (k := 11) rfl (nI_1 _) (by decide) rfl (fun ls hl => ?_)
                    refine lv_goto (tgt := 26) hx hb dL_hand_83 (by decide) ?_
                    have hb : lw_hb M j y i2 = true := decide_eq_true ⟨fun q => c_38 (by rw [q]), c_49, c_60⟩
                    replace hl : lv_has ls 12 [(11, .int (nI (i2 + 1))), (10, .int (nI (lw_ct (lw_hb M j y) (i2 + 1)))), (9, .int (lw_sm (lw_hs M j y) (i2 + 1))), (0, .ref (B + 412)), (1, .ref (B + 414)), (2, .ref (B + 415)), (3, .ref (B + 417)), (4, .int (nI j)), (5, .int ((lw_hz M j nl (3 - (y + 1)) (y + 1)).1)), (6, .int ((lw_hz M j nl (3 - (y + 1)) (y + 1)).2.1)), (7, .int ((lw_hz M j nl (3 - (y + 1)) (y + 1)).2.2)), (8, .int (nI y))] := by rw [lw_sm_s (f := lw_hs M j y) (k := i2), show lw_hs M j y i2 = lw_al M j i2 from if_pos hb, lw_ct, hb, if_pos rfl]; exact hl
                    exact ih2 (i2 + 1) (by omega) _ _ _ hH (lv_sub hl [3, 4, 5, 6, 7, 8, 9, 10, 11, 2, 1, 0] rfl)
        replace hl : lv_has ls 12 [(11, .int (nI 0)), (10, .int (nI (lw_ct (lw_hb M j y) 0))), (9, .int (lw_sm (lw_hs M j y) 0)), (0, .ref (B + 412)), (1, .ref (B + 414)), (2, .ref (B + 415)), (3, .ref (B + 417)), (4, .int (nI j)), (5, .int ((lw_hz M j nl (3 - ((y + 1))) ((y + 1))).1)), (6, .int ((lw_hz M j nl (3 - ((y + 1))) ((y + 1))).2.1)), (7, .int ((lw_hz M j nl (3 - ((y + 1))) ((y + 1))).2.2)), (8, .int (nI y))] := by skip; exact hl
        exact cut_26 (nl + 1) 0 (by omega) _ _ _ hH (lv_sub hl [3, 4, 5, 6, 7, 8, 9, 10, 11, 2, 1, 0] rfl)
  replace hl : lv_has ls 12 [(8, .int (nI 3 - 1)), (7, .int ((lw_hz M j nl (3 - (3)) (3)).2.2)), (6, .int ((lw_hz M j nl (3 - (3)) (3)).2.1)), (5, .int ((lw_hz M j nl (3 - (3)) (3)).1)), (0, .ref (B + 412)), (1, .ref (B + 414)), (2, .ref (B + 415)), (3, .ref (B + 417)), (4, .int (nI j))] := by rw [show (lw_hz M j nl (3 - (3)) (3)) = (-1, 0, 1) from rfl, show (nI 3 - 1 : Int32) = 2 from by decide]; exact hl
  exact cut_12 4 3 (by omega) _ _ _ hH (lv_sub hl [4, 5, 6, 7, 8, 3, 2, 1, 0] rfl)
