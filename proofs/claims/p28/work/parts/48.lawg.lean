set_option maxHeartbeats 4000000 in
set_option maxRecDepth 100000 in
/-- the row of words with a number among those that a poet could offer; or how many there are -/
theorem k_L_chance (l : Launch) (E : rg_Env) (B : Nat) (M : rg_Mem) (j : Nat) (sp : Nat) (po : Int32) (num : Int32) (hT : lw_TI M) (hW : lw_WI M) (hj : j < 10) (hsp : M.1 417 0 = nI sp) (hs10 : sp ≤ 10) (hm3 : M.1 417 3 = nI j) (hz : ∀ k, k < 6 → M.1 414 (6 * j + k) = 0) : Met l yL_chance (rg_w yL_chance cL_chance 10 (some (FieldType.int))) ({ frames := 5, cells := 1, slots := 6, locals := 133 } : Room) (va_Pc [.ref (B + 412), .ref (B + 413), .ref (B + 414), .ref (B + 415), .ref (B + 417), .int (po), .int (num)] (rg_Pre E B 422 rg_R0 M)) (rg_Ri E B 422 rg_R0 (M) (fun r => r = lw_ch (lw_ok M j sp po) num 272 0 0)) 1 6 (rg_A B) := by
  refine rg_ofW (by decide +kernel) rfl (Nat.le_of_ble_eq_true rfl) ?_
  intro p e s m args below meth c ls C0 hH hl hr hlocks hnm
  replace hl : lv_has ls 10 [(0, .ref (B + 412)), (1, .ref (B + 413)), (2, .ref (B + 414)), (3, .ref (B + 415)), (4, .ref (B + 417)), (5, .int (po)), (6, .int (num))] := hl
  have hx := C0.1.1
  have hb := C0.1.2.1
  generalize hH9 : s.heap = H at hH ⊢
  generalize hL9 : ([] : List Loc) = locs at hH ⊢
  clear hH9 hL9
  refine lv_bipush (v := 6) hx hb dL_chance_0 (by decide) ?_
  refine rg_newD C0 hH dL_chance_2 (Nat.le_of_ble_eq_true rfl) (Nat.le_of_ble_eq_true rfl) (fun d H hd4 hH => ?_)
  refine lv_astore (lv' := [(7, .ref (B + d)), (0, .ref (B + 412)), (1, .ref (B + 413)), (2, .ref (B + 414)), (3, .ref (B + 415)), (4, .ref (B + 417)), (5, .int (po)), (6, .int (num))]) hx hb dL_chance_4 hl (by decide) rfl (fun ls hl => ?_)
  refine lv_iconst (v := 0) hx hb dL_chance_6 (by decide) ?_
  refine lv_istore (lv' := [(8, .int (0)), (7, .ref (B + d)), (0, .ref (B + 412)), (1, .ref (B + 413)), (2, .ref (B + 414)), (3, .ref (B + 415)), (4, .ref (B + 417)), (5, .int (po)), (6, .int (num))]) hx hb dL_chance_7 hl (by decide) rfl (fun ls hl => ?_)
  refine lv_iconst (v := 0) hx hb dL_chance_9 (by decide) ?_
  refine lv_istore (lv' := [(9, .int (0)), (8, .int (0)), (7, .ref (B + d)), (0, .ref (B + 412)), (1, .ref (B + 413)), (2, .ref (B + 414)), (3, .ref (B + 415)), (4, .ref (B + 417)), (5, .int (po)), (6, .int (num))]) hx hb dL_chance_10 hl (by decide) rfl (fun ls hl => ?_)
  have cut_12 : ∀ (fu i : Nat), i ≤ 272 ∧ 272 < i + fu → ∀ (c1 : Nat) (Mi : rg_Mem) (H : Heap) (locs : List Loc) (ls : Array Slot), rg_H E B (d + 1) rg_R0 Mi s H locs → lv_has ls 10 [(0, .ref (B + 412)), (1, .ref (B + 413)), (2, .ref (B + 414)), (3, .ref (B + 415)), (4, .ref (B + 417)), (5, .int (po)), (6, .int (num)), (7, .ref (B + d)), (8, .int (nI c1)), (9, .int (nI i))] → (c1 ≤ i) → ((∀ c, c ≠ d → Mi.1 c = M.1 c) ∧ Mi.2 = M.2 ∧ ∀ k, 2 ≤ k → Mi.1 d k = 0) → (lw_ch (lw_ok M j sp po) num (272 - i) i c1 = lw_ch (lw_ok M j sp po) num 272 0 0) → W p l e ({ frames := 5, cells := 1, slots := 6, locals := 133 } : Room) s m args below meth c H locs 1 6 (MQ below (rg_Ri E B 422 rg_R0 (M) (fun r => r = lw_ch (lw_ok M j sp po) num 272 0 0)) args s 1 6 (rg_A B)) (F0 m 12 ls []) := by
    intro fu
    induction fu with
    | zero =>
      intro i hm
      exact absurd hm (by omega)
    | succ fu ih =>
      intro i hm c1 Mi H locs ls hH hl hc1 hMi hch
      refine lv_iload hx hb dL_chance_12 (lv_at hl 9 rfl) ?_
      refine lv_sipush (v := 272) hx hb dL_chance_14 (by decide) ?_
      refine lv_icmp_ge (tgt := 87) hx hb dL_chance_17 (by decide) (fun c_17 => ?_) (fun c_17 => ?_)
      · refine lv_iload hx hb dL_chance_87 (lv_at hl 8 rfl) ?_
        replace hH := rg_H_dn (M := M) hH hd4 (fun c hc k => by rw [hMi.1 c (by omega)]) hMi.2.1
        exact rg_retRi C0 hH hr hlocks (by simp_all) (by rw [← hch, rg_lp_end (n := 272) hm.1 (by omega) c_17]; rfl) dL_chance_89
      · have h272 : i < 272 := rg_lp_lt (n := 272) hm.1 (by omega) c_17
        refine lv_aload hx hb dL_chance_20 (lv_at hl 7 rfl) ?_
        refine lv_iconst (v := 0) hx hb dL_chance_22 (by decide) ?_
        refine rg_topi (y := nI 0) (by exact rfl) ?_
        refine lv_iload hx hb dL_chance_23 (lv_at hl 9 rfl) ?_
        refine lv_bipush (v := 17) hx hb dL_chance_25 (by decide) ?_
        refine lv_idiv hx hb dL_chance_27 (by decide) ?_
        refine rg_topi (y := nI (i / 17)) (by exact pk_div (a := i) (d := 17) (by omega) (by omega) (by omega)) ?_
        refine lv_iconst (v := 1) hx hb dL_chance_28 (by decide) ?_
        refine lv_iadd hx hb dL_chance_29 ?_
        refine rg_topi (y := nI ((i / 17) + 1)) (by exact nI_add (i / 17) (1)) ?_
        refine rg_iastN C0 hH (o := d) (j := 0) (n0 := 6) (by omega) (rg_kd_hi (by omega)) (rg_ln_hi hd4) (by omega) dL_chance_30 (fun H locs hH => ?_)
        refine lv_aload hx hb dL_chance_31 (lv_at hl 7 rfl) ?_
        refine lv_iconst (v := 1) hx hb dL_chance_33 (by decide) ?_
        refine rg_topi (y := nI 1) (by exact rfl) ?_
        refine lv_iload hx hb dL_chance_34 (lv_at hl 9 rfl) ?_
        refine lv_bipush (v := 17) hx hb dL_chance_36 (by decide) ?_
        refine lv_irem hx hb dL_chance_38 (by decide) ?_
        refine rg_topi (y := nI (i % 17)) (by exact pk_rem (a := i) (d := 17) (by omega) (by omega) (by omega)) ?_
        refine rg_iastN C0 hH (o := d) (j := 1) (n0 := 6) (by omega) (rg_kd_hi (by omega)) (rg_ln_hi hd4) (by omega) dL_chance_39 (fun H locs hH => ?_)
        generalize eMj : rg_I (rg_I Mi d 0 (nI ((i / 17) + 1))) d 1 (nI (i % 17)) = Mj at hH
        have hMj : (∀ c, c ≠ d → Mj.1 c = M.1 c) ∧ Mj.2 = M.2 ∧ ∀ k, 2 ≤ k → Mj.1 d k = 0 := by
          subst eMj
          exact ⟨fun c hc => by rw [rg_I_cell hc, rg_I_cell hc]; exact hMi.1 c hc, hMi.2.1, fun k hk => by rw [rg_I_slot (by omega), rg_I_slot (by omega)]; exact hMi.2.2 k hk⟩
        have hMd : ∀ k, k < 6 → Mj.1 d k = lw_rw2 i k := by
          intro k hk
          by_cases q1 : k = 1
          · subst q1; subst eMj; rw [rg_I_same]; rfl
          by_cases q0 : k = 0
          · subst q0; subst eMj; rw [rg_I_slot (by omega), rg_I_same]; rfl
          rw [hMj.2.2 k (by omega), lw_rw2, if_neg q0, if_neg q1]
        have hTj : lw_TI Mj := by unfold lw_TI lw_t; rw [hMj.1 414 (by omega)]; exact hT
        have hWj : lw_WI Mj := by unfold lw_WI; rw [hMj.1 412 (by omega), hMj.1 2 (by omega), hMj.1 3 (by omega), hMj.1 4 (by omega)]; exact hW
        have hcs : lw_cs (lw_row Mj j (Mj.1 d)) j sp po = lw_cs (lw_row M j (lw_rw2 i)) j sp po := lw_cs_c (fun c hc => lw_row_r (hMj.1 c (by omega)) hMd)
        refine lv_aload_n hx hb dL_chance_40 rfl (lv_at hl 0 rfl) ?_
        refine lv_aload_n hx hb dL_chance_41 rfl (lv_at hl 1 rfl) ?_
        refine lv_aload_n hx hb dL_chance_42 rfl (lv_at hl 2 rfl) ?_
        refine lv_aload_n hx hb dL_chance_43 rfl (lv_at hl 3 rfl) ?_
        refine lv_aload hx hb dL_chance_44 (lv_at hl 4 rfl) ?_
        refine lv_aload hx hb dL_chance_46 (lv_at hl 7 rfl) ?_
        refine lv_iload hx hb dL_chance_48 (lv_at hl 5 rfl) ?_
        refine rg_callSGi C0 hH (As := [.ref (B + 412), .ref (B + 413), .ref (B + 414), .ref (B + 415), .ref (B + 417), .ref (B + d), .int (po)]) (rest := []) (k_L_looked l E B Mj (d + 1) d j sp po (by omega) hTj hWj (by assumption) (by rw [hMj.1 417 (by omega)]; exact hsp) (by assumption) (by rw [hMj.1 417 (by omega)]; exact hm3) (fun k hk => by rw [hMj.1 414 (by omega)]; exact hz k hk) (by omega) (rg_kd_hi (by omega)) (rg_ln_hi hd4) (by omega) (fun k hk => by rw [hMd k hk]; exact lw_rw2_in h272)) (rg_cwS 7 C0.1.2.2.2.2 tw_m_L_46 tw_s_L_looked tw_n_L tw_c_L_looked rfl rfl hd_L_looked ⟨Nat.le_of_ble_eq_true rfl, Nat.le_of_ble_eq_true rfl⟩) rfl hl.1 rfl (Nat.le_of_ble_eq_true rfl) dL_chance_50 ⟨Nat.le_of_ble_eq_true rfl, Nat.le_of_ble_eq_true rfl⟩ (fun H locs hH => ?_)
        refine rg_topi (y := lw_fl (lw_cs (lw_row M j (lw_rw2 i)) j sp po)) (by rw [hcs]) ?_
        refine lv_if_ne (tgt := 81) hx hb dL_chance_53 (by decide) (fun c_53 => ?_) (fun c_53 => ?_)
        · have hno : ¬ lw_ok M j sp po i = true := fun q => c_53 (of_decide_eq_true q)
          refine lv_iinc (v := nI (i + 1)) (lv' := [(9, .int (nI (i + 1))), (0, .ref (B + 412)), (1, .ref (B + 413)), (2, .ref (B + 414)), (3, .ref (B + 415)), (4, .ref (B + 417)), (5, .int (po)), (6, .int (num)), (7, .ref (B + d)), (8, .int (nI c1))]) hx hb dL_chance_81 hl (k := 9) rfl (nI_1 _) (by decide) rfl (fun ls hl => ?_)
          refine lv_goto (tgt := 12) hx hb dL_chance_84 (by decide) ?_
          exact ih (i + 1) (by omega) c1 Mj _ _ _ hH (lv_sub hl [1, 2, 3, 4, 5, 6, 7, 8, 9, 0] rfl) (by omega) (by exact hMj) (by rw [← hch, lw_ch_at h272, if_neg hno])
        · have hyes : lw_ok M j sp po i = true := decide_eq_true c_53
          refine lv_iload hx hb dL_chance_56 (lv_at hl 8 rfl) ?_
          refine lv_iload hx hb dL_chance_58 (lv_at hl 6 rfl) ?_
          refine lv_icmp_ne (tgt := 78) hx hb dL_chance_60 (by decide) (fun c_60 => ?_) (fun c_60 => ?_)
          · refine lv_iinc (v := nI (c1 + 1)) (lv' := [(8, .int (nI (c1 + 1))), (0, .ref (B + 412)), (1, .ref (B + 413)), (2, .ref (B + 414)), (3, .ref (B + 415)), (4, .ref (B + 417)), (5, .int (po)), (6, .int (num)), (7, .ref (B + d)), (9, .int (nI i))]) hx hb dL_chance_78 hl (k := 8) rfl (nI_1 _) (by decide) rfl (fun ls hl => ?_)
            refine lv_iinc (v := nI (i + 1)) (lv' := [(9, .int (nI (i + 1))), (8, .int (nI (c1 + 1))), (0, .ref (B + 412)), (1, .ref (B + 413)), (2, .ref (B + 414)), (3, .ref (B + 415)), (4, .ref (B + 417)), (5, .int (po)), (6, .int (num)), (7, .ref (B + d))]) hx hb dL_chance_81 hl (k := 9) rfl (nI_1 _) (by decide) rfl (fun ls hl => ?_)
            refine lv_goto (tgt := 12) hx hb dL_chance_84 (by decide) ?_
            exact ih (i + 1) (by omega) (c1 + 1) Mj _ _ _ hH (lv_sub hl [2, 3, 4, 5, 6, 7, 8, 9, 1, 0] rfl) (by omega) (by exact hMj) (by rw [← hch, lw_ch_at h272, if_pos hyes, if_neg c_60])
          · refine lv_bipush (v := 20) hx hb dL_chance_63 (by decide) ?_
            refine lv_iload hx hb dL_chance_65 (lv_at hl 9 rfl) ?_
            refine lv_bipush (v := 17) hx hb dL_chance_67 (by decide) ?_
            refine lv_idiv hx hb dL_chance_69 (by decide) ?_
            refine rg_topi (y := nI (i / 17)) (by exact pk_div (a := i) (d := 17) (by omega) (by omega) (by omega)) ?_
            refine lv_imul hx hb dL_chance_70 ?_
            refine rg_topi (y := nI (20 * (i / 17))) (by exact lw_mul (20) (i / 17)) ?_
            refine lv_iload hx hb dL_chance_71 (lv_at hl 9 rfl) ?_
            refine lv_bipush (v := 17) hx hb dL_chance_73 (by decide) ?_
            refine lv_irem hx hb dL_chance_75 (by decide) ?_
            refine rg_topi (y := nI (i % 17)) (by exact pk_rem (a := i) (d := 17) (by omega) (by omega) (by omega)) ?_
            refine lv_iadd hx hb dL_chance_76 ?_
            refine rg_topi (y := nI ((20 * (i / 17)) + (i % 17))) (by exact nI_add (20 * (i / 17)) (i % 17)) ?_
            replace hH := rg_H_dn (M := M) hH hd4 (fun c hc k => by rw [hMj.1 c (by omega)]) hMj.2.1
            exact rg_retRi C0 hH hr hlocks (by simp_all) (by rw [← hch, lw_ch_at h272, if_pos hyes, if_pos c_60]) dL_chance_77
  replace hl : lv_has ls 10 [(9, .int (nI 0)), (8, .int (nI 0)), (7, .ref (B + d)), (0, .ref (B + 412)), (1, .ref (B + 413)), (2, .ref (B + 414)), (3, .ref (B + 415)), (4, .ref (B + 417)), (5, .int (po)), (6, .int (num))] := by skip; exact hl
  exact cut_12 273 0 (by omega) 0 (lw_nw M d) _ _ _ hH (lv_sub hl [3, 4, 5, 6, 7, 8, 9, 2, 1, 0] rfl) (by omega) (by exact ⟨fun c hc => funext fun k => lw_nw_c hc, rfl, fun k _ => lw_nw_d⟩) (by rfl)
