set_option maxHeartbeats 4000000 in
set_option maxRecDepth 100000 in
/-- how many links up to one have its season -/
theorem k_L_run (l : Launch) (E : rg_Env) (B : Nat) (M : rg_Mem) (n : Nat) (j : Nat) (hn : 422 ≤ n) (hT : lw_TI M) (hW : lw_WI M) (hj : j < 10) : Met l yL_run (rg_w yL_run cL_run 5 (some (FieldType.int))) ({ frames := 1, cells := 0, slots := 0, locals := 25 } : Room) (va_Pc [.ref (B + 412), .ref (B + 414), .int (nI j)] (rg_Pre E B n rg_R0 M)) (rg_Ri E B n rg_R0 (M) (fun r => r = lw_run M j)) 0 0 (rg_A B) := by
  refine rg_ofW (by decide +kernel) rfl (Nat.le_of_ble_eq_true rfl) ?_
  intro p e s m args below meth c ls C0 hH hl hr hlocks hnm
  replace hl : lv_has ls 5 [(0, .ref (B + 412)), (1, .ref (B + 414)), (2, .int (nI j))] := hl
  have hx := C0.1.1
  have hb := C0.1.2.1
  generalize hH9 : s.heap = H at hH ⊢
  generalize hL9 : ([] : List Loc) = locs at hH ⊢
  clear hH9 hL9
  refine lv_iconst (v := 0) hx hb dL_run_0 (by decide) ?_
  refine lv_istore_n (lv' := [(3, .int (0)), (0, .ref (B + 412)), (1, .ref (B + 414)), (2, .int (nI j))]) hx hb dL_run_1 rfl hl (by decide) rfl (fun ls hl => ?_)
  refine lv_aload_n hx hb dL_run_2 rfl (lv_at hl 1 rfl) ?_
  refine lv_aload_n hx hb dL_run_3 rfl (lv_at hl 2 rfl) ?_
  refine lv_iload_n hx hb dL_run_4 rfl (lv_at hl 3 rfl) ?_
  refine rg_callSGi C0 hH (As := [.ref (B + 412), .ref (B + 414), .int (nI j)]) (rest := []) (k_L_season l E B M n j (by assumption) (by assumption) (by assumption) hj) (rg_cwS 3 C0.1.2.2.2.2 tw_m_L_9 tw_s_L_season tw_n_L tw_c_L_season rfl rfl hd_L_season ⟨Nat.le_of_ble_eq_true rfl, Nat.le_of_ble_eq_true rfl⟩) rfl hl.1 rfl (Nat.le_of_ble_eq_true rfl) dL_run_5 ⟨Nat.le_of_ble_eq_true rfl, Nat.le_of_ble_eq_true rfl⟩ (fun H locs hH => ?_)
  refine lv_if_lt (tgt := 15) hx hb dL_run_8 (by decide) (fun c_8 => ?_) (fun c_8 => ?_)
  · refine lv_iconst (v := 0) hx hb dL_run_15 (by decide) ?_
    refine lv_istore (lv' := [(4, .int (0)), (3, .int (0)), (0, .ref (B + 412)), (1, .ref (B + 414)), (2, .int (nI j))]) hx hb dL_run_16 hl (by decide) rfl (fun ls hl => ?_)
    have cut_18 : ∀ (fu i : Nat), i ≤ j + 1 ∧ j + 1 < i + fu → ∀  (H : Heap) (locs : List Loc) (ls : Array Slot), rg_H E B n rg_R0 M s H locs → lv_has ls 5 [(0, .ref (B + 412)), (1, .ref (B + 414)), (2, .int (nI j)), (3, .int (nI i)), (4, .int (rg_b (lw_go M j i)))] → (i = 0 ∨ ¬ lw_sea M j = -1) → (i + rg_rn (lw_sea M) (lw_sea M j) (j + 1 - i) = rg_rn (lw_sea M) (lw_sea M j) (j + 1)) → W p l e ({ frames := 1, cells := 0, slots := 0, locals := 25 } : Room) s m args below meth c H locs 0 0 (MQ below (rg_Ri E B n rg_R0 (M) (fun r => r = lw_run M j)) args s 0 0 (rg_A B)) (F0 m 18 ls []) := by
      intro fu
      induction fu with
      | zero =>
        intro i hm
        exact absurd hm (by omega)
      | succ fu ih =>
        intro i hm  H locs ls hH hl h0 h2
        refine lv_iload hx hb dL_run_18 (lv_at hl 4 rfl) ?_
        refine lv_if_eq (tgt := 58) hx hb dL_run_20 (by decide) (fun c_20 => ?_) (fun c_20 => ?_)
        · refine lv_iload_n hx hb dL_run_58 rfl (lv_at hl 3 rfl) ?_
          exact rg_retRi C0 hH hr hlocks rfl (by exact lw_run_end hm.1 h0 (rg_b_eq.mp c_20) h2) dL_run_59
        · refine lv_iinc (v := nI (i + 1)) (lv' := [(3, .int (nI (i + 1))), (0, .ref (B + 412)), (1, .ref (B + 414)), (2, .int (nI j)), (4, .int (rg_b (lw_go M j i)))]) hx hb dL_run_23 hl (k := 3) rfl (nI_1 _) (by decide) rfl (fun ls hl => ?_)
          refine lv_iload_n hx hb dL_run_26 rfl (lv_at hl 0 rfl) ?_
          refine lv_iload_n hx hb dL_run_27 rfl (lv_at hl 3 rfl) ?_
          refine lv_icmp_gt (tgt := 52) hx hb dL_run_28 (by decide) (fun c_28 => ?_) (fun c_28 => ?_)
          · refine lv_iconst (v := 0) hx hb dL_run_52 (by decide) ?_
            refine lv_istore (lv' := [(4, .int (0)), (3, .int (nI (i + 1))), (0, .ref (B + 412)), (1, .ref (B + 414)), (2, .int (nI j))]) hx hb dL_run_53 hl (by decide) rfl (fun ls hl => ?_)
            refine lv_goto (tgt := 18) hx hb dL_run_55 (by decide) ?_
            have hg := rg_b_ne.mp c_20
            have hg2 := lw_go_le hg
            replace hl : lv_has ls 5 [(4, .int (rg_b (lw_go M j (i + 1)))), (3, .int (nI (i + 1))), (0, .ref (B + 412)), (1, .ref (B + 414)), (2, .int (nI j))] := by rw [← rg_b_f (p := lw_go M j (i + 1)) (fun q => absurd (lw_go_le q).1 (by have := lw_no (lw_nle (a := i + 1) (b := j) (by omega) (by omega)) (Int32.not_le.mpr c_28); omega))]; exact hl
            exact ih (i + 1) (by omega) _ _ _ hH (lv_sub hl [2, 3, 4, 1, 0] rfl) (by exact Or.inr hg.1) (by exact lw_rn_go hg2.1 hg2.2 h2)
          · refine lv_aload_n hx hb dL_run_31 rfl (lv_at hl 1 rfl) ?_
            refine lv_aload_n hx hb dL_run_32 rfl (lv_at hl 2 rfl) ?_
            refine lv_iload_n hx hb dL_run_33 rfl (lv_at hl 3 rfl) ?_
            refine lv_iload_n hx hb dL_run_34 rfl (lv_at hl 0 rfl) ?_
            refine lv_isub hx hb dL_run_35 ?_
            refine rg_topi (y := nI (j - (i + 1))) (by exact lw_sub (by have := (lw_nle (a := i + 1) (b := j) (by omega) (by omega)).mp (Int32.not_lt.mp c_28); omega)) ?_
            refine rg_callSGi C0 hH (As := [.ref (B + 412), .ref (B + 414), .int (nI (j - (i + 1)))]) (rest := []) (k_L_season l E B M n (j - (i + 1)) (by assumption) (by assumption) (by assumption) (by omega)) (rg_cwS 3 C0.1.2.2.2.2 tw_m_L_9 tw_s_L_season tw_n_L tw_c_L_season rfl rfl hd_L_season ⟨Nat.le_of_ble_eq_true rfl, Nat.le_of_ble_eq_true rfl⟩) rfl hl.1 rfl (Nat.le_of_ble_eq_true rfl) dL_run_36 ⟨Nat.le_of_ble_eq_true rfl, Nat.le_of_ble_eq_true rfl⟩ (fun H locs hH => ?_)
            refine lv_aload_n hx hb dL_run_39 rfl (lv_at hl 1 rfl) ?_
            refine lv_aload_n hx hb dL_run_40 rfl (lv_at hl 2 rfl) ?_
            refine lv_iload_n hx hb dL_run_41 rfl (lv_at hl 3 rfl) ?_
            refine rg_callSGi C0 hH (As := [.ref (B + 412), .ref (B + 414), .int (nI j)]) (rest := [.int (lw_sea M (j - (i + 1)))]) (k_L_season l E B M n j (by assumption) (by assumption) (by assumption) hj) (rg_cwS 3 C0.1.2.2.2.2 tw_m_L_9 tw_s_L_season tw_n_L tw_c_L_season rfl rfl hd_L_season ⟨Nat.le_of_ble_eq_true rfl, Nat.le_of_ble_eq_true rfl⟩) rfl hl.1 rfl (Nat.le_of_ble_eq_true rfl) dL_run_42 ⟨Nat.le_of_ble_eq_true rfl, Nat.le_of_ble_eq_true rfl⟩ (fun H locs hH => ?_)
            refine lv_icmp_ne (tgt := 52) hx hb dL_run_45 (by decide) (fun c_45 => ?_) (fun c_45 => ?_)
            · refine lv_iconst (v := 0) hx hb dL_run_52 (by decide) ?_
              refine lv_istore (lv' := [(4, .int (0)), (3, .int (nI (i + 1))), (0, .ref (B + 412)), (1, .ref (B + 414)), (2, .int (nI j))]) hx hb dL_run_53 hl (by decide) rfl (fun ls hl => ?_)
              refine lv_goto (tgt := 18) hx hb dL_run_55 (by decide) ?_
              have hg := rg_b_ne.mp c_20
              have hg2 := lw_go_le hg
              replace hl : lv_has ls 5 [(4, .int (rg_b (lw_go M j (i + 1)))), (3, .int (nI (i + 1))), (0, .ref (B + 412)), (1, .ref (B + 414)), (2, .int (nI j))] := by rw [← rg_b_f (p := lw_go M j (i + 1)) (fun q => c_45 (lw_go_le q).2)]; exact hl
              exact ih (i + 1) (by omega) _ _ _ hH (lv_sub hl [2, 3, 4, 1, 0] rfl) (by exact Or.inr hg.1) (by exact lw_rn_go hg2.1 hg2.2 h2)
            · refine lv_iconst (v := 1) hx hb dL_run_48 (by decide) ?_
              refine lv_goto (tgt := 53) hx hb dL_run_49 (by decide) ?_
              refine lv_istore (lv' := [(4, .int (1)), (3, .int (nI (i + 1))), (0, .ref (B + 412)), (1, .ref (B + 414)), (2, .int (nI j))]) hx hb dL_run_53 hl (by decide) rfl (fun ls hl => ?_)
              refine lv_goto (tgt := 18) hx hb dL_run_55 (by decide) ?_
              have hg := rg_b_ne.mp c_20
              have hg2 := lw_go_le hg
              replace hl : lv_has ls 5 [(4, .int (rg_b (lw_go M j (i + 1)))), (3, .int (nI (i + 1))), (0, .ref (B + 412)), (1, .ref (B + 414)), (2, .int (nI j))] := by rw [← rg_b_t (p := lw_go M j (i + 1)) ⟨hg.1, Or.inr ⟨by have := (lw_nle (a := i + 1) (b := j) (by omega) (by omega)).mp (Int32.not_lt.mp c_28); omega, c_45⟩⟩]; exact hl
              exact ih (i + 1) (by omega) _ _ _ hH (lv_sub hl [2, 3, 4, 1, 0] rfl) (by exact Or.inr hg.1) (by exact lw_rn_go hg2.1 hg2.2 h2)
    replace hl : lv_has ls 5 [(4, .int (rg_b (lw_go M j 0))), (3, .int (nI 0)), (0, .ref (B + 412)), (1, .ref (B + 414)), (2, .int (nI j))] := by rw [show rg_b (lw_go M j 0) = 0 from (rg_b_f (fun q => q.1 ((lw_neg (lw_sea_in hT hW hj)).mp c_8))).symm]; exact hl
    exact cut_18 (j + 2) 0 (by omega) _ _ _ hH (lv_sub hl [2, 3, 4, 1, 0] rfl) (by exact Or.inl rfl) (by rw [Nat.zero_add, Nat.sub_zero])
  · refine lv_iconst (v := 1) hx hb dL_run_11 (by decide) ?_
    refine lv_goto (tgt := 16) hx hb dL_run_12 (by decide) ?_
    refine lv_istore (lv' := [(4, .int (1)), (3, .int (0)), (0, .ref (B + 412)), (1, .ref (B + 414)), (2, .int (nI j))]) hx hb dL_run_16 hl (by decide) rfl (fun ls hl => ?_)
    have cut_18 : ∀ (fu i : Nat), i ≤ j + 1 ∧ j + 1 < i + fu → ∀  (H : Heap) (locs : List Loc) (ls : Array Slot), rg_H E B n rg_R0 M s H locs → lv_has ls 5 [(0, .ref (B + 412)), (1, .ref (B + 414)), (2, .int (nI j)), (3, .int (nI i)), (4, .int (rg_b (lw_go M j i)))] → (i = 0 ∨ ¬ lw_sea M j = -1) → (i + rg_rn (lw_sea M) (lw_sea M j) (j + 1 - i) = rg_rn (lw_sea M) (lw_sea M j) (j + 1)) → W p l e ({ frames := 1, cells := 0, slots := 0, locals := 25 } : Room) s m args below meth c H locs 0 0 (MQ below (rg_Ri E B n rg_R0 (M) (fun r => r = lw_run M j)) args s 0 0 (rg_A B)) (F0 m 18 ls []) := by
      intro fu
      induction fu with
      | zero =>
        intro i hm
        exact absurd hm (by omega)
      | succ fu ih =>
        intro i hm  H locs ls hH hl h0 h2
        refine lv_iload hx hb dL_run_18 (lv_at hl 4 rfl) ?_
        refine lv_if_eq (tgt := 58) hx hb dL_run_20 (by decide) (fun c_20 => ?_) (fun c_20 => ?_)
        · refine lv_iload_n hx hb dL_run_58 rfl (lv_at hl 3 rfl) ?_
          exact rg_retRi C0 hH hr hlocks rfl (by exact lw_run_end hm.1 h0 (rg_b_eq.mp c_20) h2) dL_run_59
        · refine lv_iinc (v := nI (i + 1)) (lv' := [(3, .int (nI (i + 1))), (0, .ref (B + 412)), (1, .ref (B + 414)), (2, .int (nI j)), (4, .int (rg_b (lw_go M j i)))]) hx hb dL_run_23 hl (k := 3) rfl (nI_1 _) (by decide) rfl (fun ls hl => ?_)
          refine lv_iload_n hx hb dL_run_26 rfl (lv_at hl 0 rfl) ?_
          refine lv_iload_n hx hb dL_run_27 rfl (lv_at hl 3 rfl) ?_
          refine lv_icmp_gt (tgt := 52) hx hb dL_run_28 (by decide) (fun c_28 => ?_) (fun c_28 => ?_)
          · refine lv_iconst (v := 0) hx hb dL_run_52 (by decide) ?_
            refine lv_istore (lv' := [(4, .int (0)), (3, .int (nI (i + 1))), (0, .ref (B + 412)), (1, .ref (B + 414)), (2, .int (nI j))]) hx hb dL_run_53 hl (by decide) rfl (fun ls hl => ?_)
            refine lv_goto (tgt := 18) hx hb dL_run_55 (by decide) ?_
            have hg := rg_b_ne.mp c_20
            have hg2 := lw_go_le hg
            replace hl : lv_has ls 5 [(4, .int (rg_b (lw_go M j (i + 1)))), (3, .int (nI (i + 1))), (0, .ref (B + 412)), (1, .ref (B + 414)), (2, .int (nI j))] := by rw [← rg_b_f (p := lw_go M j (i + 1)) (fun q => absurd (lw_go_le q).1 (by have := lw_no (lw_nle (a := i + 1) (b := j) (by omega) (by omega)) (Int32.not_le.mpr c_28); omega))]; exact hl
            exact ih (i + 1) (by omega) _ _ _ hH (lv_sub hl [2, 3, 4, 1, 0] rfl) (by exact Or.inr hg.1) (by exact lw_rn_go hg2.1 hg2.2 h2)
          · refine lv_aload_n hx hb dL_run_31 rfl (lv_at hl 1 rfl) ?_
            refine lv_aload_n hx hb dL_run_32 rfl (lv_at hl 2 rfl) ?_
            refine lv_iload_n hx hb dL_run_33 rfl (lv_at hl 3 rfl) ?_
            refine lv_iload_n hx hb dL_run_34 rfl (lv_at hl 0 rfl) ?_
            refine lv_isub hx hb dL_run_35 ?_
            refine rg_topi (y := nI (j - (i + 1))) (by exact lw_sub (by have := (lw_nle (a := i + 1) (b := j) (by omega) (by omega)).mp (Int32.not_lt.mp c_28); omega)) ?_
            refine rg_callSGi C0 hH (As := [.ref (B + 412), .ref (B + 414), .int (nI (j - (i + 1)))]) (rest := []) (k_L_season l E B M n (j - (i + 1)) (by assumption) (by assumption) (by assumption) (by omega)) (rg_cwS 3 C0.1.2.2.2.2 tw_m_L_9 tw_s_L_season tw_n_L tw_c_L_season rfl rfl hd_L_season ⟨Nat.le_of_ble_eq_true rfl, Nat.le_of_ble_eq_true rfl⟩) rfl hl.1 rfl (Nat.le_of_ble_eq_true rfl) dL_run_36 ⟨Nat.le_of_ble_eq_true rfl, Nat.le_of_ble_eq_true rfl⟩ (fun H locs hH => ?_)
            refine lv_aload_n hx hb dL_run_39 rfl (lv_at hl 1 rfl) ?_
            refine lv_aload_n hx hb dL_run_40 rfl (lv_at hl 2 rfl) ?_
            refine lv_iload_n hx hb dL_run_41 rfl (lv_at hl 3 rfl) ?_
            refine rg_callSGi C0 hH (As := [.ref (B + 412), .ref (B + 414), .int (nI j)]) (rest := [.int (lw_sea M (j - (i + 1)))]) (k_L_season l E B M n j (by assumption) (by assumption) (by assumption) hj) (rg_cwS 3 C0.1.2.2.2.2 tw_m_L_9 tw_s_L_season tw_n_L tw_c_L_season rfl rfl hd_L_season ⟨Nat.le_of_ble_eq_true rfl, Nat.le_of_ble_eq_true rfl⟩) rfl hl.1 rfl (Nat.le_of_ble_eq_true rfl) dL_run_42 ⟨Nat.le_of_ble_eq_true rfl, Nat.le_of_ble_eq_true rfl⟩ (fun H locs hH => ?_)
            refine lv_icmp_ne (tgt := 52) hx hb dL_run_45 (by decide) (fun c_45 => ?_) (fun c_45 => ?_)
            · refine lv_iconst (v := 0) hx hb dL_run_52 (by decide) ?_
              refine lv_istore (lv' := [(4, .int (0)), (3, .int (nI (i + 1))), (0, .ref (B + 412)), (1, .ref (B + 414)), (2, .int (nI j))]) hx hb dL_run_53 hl (by decide) rfl (fun ls hl => ?_)
              refine lv_goto (tgt := 18) hx hb dL_run_55 (by decide) ?_
              have hg := rg_b_ne.mp c_20
              have hg2 := lw_go_le hg
              replace hl : lv_has ls 5 [(4, .int (rg_b (lw_go M j (i + 1)))), (3, .int (nI (i + 1))), (0, .ref (B + 412)), (1, .ref (B + 414)), (2, .int (nI j))] := by rw [← rg_b_f (p := lw_go M j (i + 1)) (fun q => c_45 (lw_go_le q).2)]; exact hl
              exact ih (i + 1) (by omega) _ _ _ hH (lv_sub hl [2, 3, 4, 1, 0] rfl) (by exact Or.inr hg.1) (by exact lw_rn_go hg2.1 hg2.2 h2)
            · refine lv_iconst (v := 1) hx hb dL_run_48 (by decide) ?_
              refine lv_goto (tgt := 53) hx hb dL_run_49 (by decide) ?_
              refine lv_istore (lv' := [(4, .int (1)), (3, .int (nI (i + 1))), (0, .ref (B + 412)), (1, .ref (B + 414)), (2, .int (nI j))]) hx hb dL_run_53 hl (by decide) rfl (fun ls hl => ?_)
              refine lv_goto (tgt := 18) hx hb dL_run_55 (by decide) ?_
              have hg := rg_b_ne.mp c_20
              have hg2 := lw_go_le hg
              replace hl : lv_has ls 5 [(4, .int (rg_b (lw_go M j (i + 1)))), (3, .int (nI (i + 1))), (0, .ref (B + 412)), (1, .ref (B + 414)), (2, .int (nI j))] := by rw [← rg_b_t (p := lw_go M j (i + 1)) ⟨hg.1, Or.inr ⟨by have := (lw_nle (a := i + 1) (b := j) (by omega) (by omega)).mp (Int32.not_lt.mp c_28); omega, c_45⟩⟩]; exact hl
              exact ih (i + 1) (by omega) _ _ _ hH (lv_sub hl [2, 3, 4, 1, 0] rfl) (by exact Or.inr hg.1) (by exact lw_rn_go hg2.1 hg2.2 h2)
    replace hl : lv_has ls 5 [(4, .int (rg_b (lw_go M j 0))), (3, .int (nI 0)), (0, .ref (B + 412)), (1, .ref (B + 414)), (2, .int (nI j))] := by rw [show rg_b (lw_go M j 0) = 1 from (rg_b_t ⟨fun q => c_8 ((lw_neg (lw_sea_in hT hW hj)).mpr q), Or.inl rfl⟩).symm]; exact hl
    exact cut_18 (j + 2) 0 (by omega) _ _ _ hH (lv_sub hl [2, 3, 4, 1, 0] rfl) (by exact Or.inl rfl) (by rw [Nat.zero_add, Nat.sub_zero])

set_option maxHeartbeats 4000000 in
set_option maxRecDepth 100000 in
/-- the first place of another season -/
theorem k_L_mixed (l : Launch) (E : rg_Env) (B : Nat) (M : rg_Mem) (n : Nat) (j : Nat) (hn : 422 ≤ n) (hT : lw_TI M) (hW : lw_WI M) (hj : j < 10) : Met l yL_mixed (rg_w yL_mixed cL_mixed 7 (some (FieldType.int))) ({ frames := 1, cells := 0, slots := 0, locals := 25 } : Room) (va_Pc [.ref (B + 412), .ref (B + 414), .int (nI j)] (rg_Pre E B n rg_R0 M)) (rg_Ri E B n rg_R0 (M) (fun r => r = rg_ff (lw_mp M j) 6 0)) 0 0 (rg_A B) := by
  refine rg_ofW (by decide +kernel) rfl (Nat.le_of_ble_eq_true rfl) ?_
  intro p e s m args below meth c ls C0 hH hl hr hlocks hnm
  replace hl : lv_has ls 7 [(0, .ref (B + 412)), (1, .ref (B + 414)), (2, .int (nI j))] := hl
  have hx := C0.1.1
  have hb := C0.1.2.1
  generalize hH9 : s.heap = H at hH ⊢
  generalize hL9 : ([] : List Loc) = locs at hH ⊢
  clear hH9 hL9
  refine lv_aload_n hx hb dL_mixed_0 rfl (lv_at hl 0 rfl) ?_
  refine lv_aload_n hx hb dL_mixed_1 rfl (lv_at hl 1 rfl) ?_
  refine lv_iload_n hx hb dL_mixed_2 rfl (lv_at hl 2 rfl) ?_
  refine rg_callSGi C0 hH (As := [.ref (B + 412), .ref (B + 414), .int (nI j)]) (rest := []) (k_L_season l E B M n j (by assumption) (by assumption) (by assumption) hj) (rg_cwS 3 C0.1.2.2.2.2 tw_m_L_9 tw_s_L_season tw_n_L tw_c_L_season rfl rfl hd_L_season ⟨Nat.le_of_ble_eq_true rfl, Nat.le_of_ble_eq_true rfl⟩) rfl hl.1 rfl (Nat.le_of_ble_eq_true rfl) dL_mixed_3 ⟨Nat.le_of_ble_eq_true rfl, Nat.le_of_ble_eq_true rfl⟩ (fun H locs hH => ?_)
  refine lv_istore_n (lv' := [(3, .int (lw_sea M j)), (0, .ref (B + 412)), (1, .ref (B + 414)), (2, .int (nI j))]) hx hb dL_mixed_6 rfl hl (by decide) rfl (fun ls hl => ?_)
  refine lv_iconst (v := (-1)) hx hb dL_mixed_7 (by decide) ?_
  refine lv_istore (lv' := [(4, .int ((-1))), (3, .int (lw_sea M j)), (0, .ref (B + 412)), (1, .ref (B + 414)), (2, .int (nI j))]) hx hb dL_mixed_8 hl (by decide) rfl (fun ls hl => ?_)
  refine lv_iconst (v := 5) hx hb dL_mixed_10 (by decide) ?_
  refine lv_istore (lv' := [(5, .int (5)), (4, .int ((-1))), (3, .int (lw_sea M j)), (0, .ref (B + 412)), (1, .ref (B + 414)), (2, .int (nI j))]) hx hb dL_mixed_11 hl (by decide) rfl (fun ls hl => ?_)
  have cut_13 : ∀ (fu i : Nat), i ≤ 6 ∧ i < fu → ∀  (H : Heap) (locs : List Loc) (ls : Array Slot), rg_H E B n rg_R0 M s H locs → lv_has ls 7 [(0, .ref (B + 412)), (1, .ref (B + 414)), (2, .int (nI j)), (3, .int (lw_sea M j)), (4, .int (rg_ff (lw_mp M j) (6 - (i)) (i))), (5, .int (nI i - 1))] → W p l e ({ frames := 1, cells := 0, slots := 0, locals := 25 } : Room) s m args below meth c H locs 0 0 (MQ below (rg_Ri E B n rg_R0 (M) (fun r => r = rg_ff (lw_mp M j) 6 0)) args s 0 0 (rg_A B)) (F0 m 13 ls []) := by
    intro fu
    induction fu with
    | zero =>
      intro i hm
      exact absurd hm (by omega)
    | succ fu ih =>
      intro i hm  H locs ls hH hl 
      refine lv_iload hx hb dL_mixed_13 (lv_at hl 5 rfl) ?_
      refine lv_if_lt (tgt := 82) hx hb dL_mixed_15 (by decide) (fun c_15 => ?_) (fun c_15 => ?_)
      · refine lv_iload hx hb dL_mixed_82 (lv_at hl 4 rfl) ?_
        exact rg_retRi C0 hH hr hlocks rfl (by have q := (lw_lt0 (t := i) (by omega)).mp c_15; subst q; rfl) dL_mixed_84
      · obtain ⟨y, rfl⟩ : ∃ y, i = y + 1 := ⟨i - 1, by have := lw_no (lw_lt0 (t := i) (by omega)) c_15; omega⟩
        replace hl : lv_has ls 7 [(0, .ref (B + 412)), (1, .ref (B + 414)), (2, .int (nI j)), (3, .int (lw_sea M j)), (4, .int (rg_ff (lw_mp M j) (6 - ((y + 1))) ((y + 1)))), (5, .int (nI y))] := by rw [nI_pred] at hl; exact hl
        refine lv_aload_n hx hb dL_mixed_18 rfl (lv_at hl 1 rfl) ?_
        have cut_54 : ∀  (H : Heap) (locs : List Loc) (ls : Array Slot), rg_H E B n rg_R0 M s H locs → lv_has ls 7 [(0, .ref (B + 412)), (1, .ref (B + 414)), (2, .int (nI j)), (3, .int (lw_sea M j)), (4, .int (rg_ff (lw_mp M j) (6 - ((y + 1))) ((y + 1)))), (5, .int (nI y))] → W p l e ({ frames := 1, cells := 0, slots := 0, locals := 25 } : Room) s m args below meth c H locs 0 0 (MQ below (rg_Ri E B n rg_R0 (M) (fun r => r = rg_ff (lw_mp M j) 6 0)) args s 0 0 (rg_A B)) (F0 m 54 ls [.int (lw_sv M (6 * j + y))]) := by
          intro  H locs ls hH hl 
          refine lv_istore (lv' := [(6, .int (lw_sv M (6 * j + y))), (0, .ref (B + 412)), (1, .ref (B + 414)), (2, .int (nI j)), (3, .int (lw_sea M j)), (4, .int (rg_ff (lw_mp M j) (6 - ((y + 1))) ((y + 1)))), (5, .int (nI y))]) hx hb dL_mixed_54 hl (by decide) rfl (fun ls hl => ?_)
          refine lv_iload hx hb dL_mixed_56 (lv_at hl 0 rfl) ?_
          refine lv_if_lt (tgt := 72) hx hb dL_mixed_58 (by decide) (fun c_58 => ?_) (fun c_58 => ?_)
          · refine lv_iload hx hb dL_mixed_72 (lv_at hl 5 rfl) ?_
            refine lv_istore (lv' := [(4, .int (rg_ff (lw_mp M j) (6 - ((y + 1))) ((y + 1)))), (6, .int (lw_sv M (6 * j + y))), (0, .ref (B + 412)), (1, .ref (B + 414)), (2, .int (nI j)), (3, .int (lw_sea M j)), (5, .int (nI y))]) hx hb dL_mixed_74 hl (by decide) rfl (fun ls hl => ?_)
            refine lv_iinc (v := (nI y) - 1) (lv' := [(5, .int ((nI y) - 1)), (4, .int (rg_ff (lw_mp M j) (6 - ((y + 1))) ((y + 1)))), (6, .int (lw_sv M (6 * j + y))), (0, .ref (B + 412)), (1, .ref (B + 414)), (2, .int (nI j)), (3, .int (lw_sea M j))]) hx hb dL_mixed_76 hl (k := 6) rfl (rg_m1s _) (by decide) rfl (fun ls hl => ?_)
            refine lv_goto (tgt := 13) hx hb dL_mixed_79 (by decide) ?_
            replace hl : lv_has ls 7 [(5, .int ((nI y) - 1)), (4, .int (rg_ff (lw_mp M j) (6 - (y)) (y))), (6, .int (lw_sv M (6 * j + y))), (0, .ref (B + 412)), (1, .ref (B + 414)), (2, .int (nI j)), (3, .int (lw_sea M j))] := by rw [lw_ff_at (show y < 6 by omega), if_neg (by rw [decide_eq_true_eq]; exact fun q => q.1 ((lw_neg (lw_sv_in hT hW (by omega))).mp c_58))]; exact hl
            replace hl : lv_has ls 7 [(5, .int (nI y - 1)), (4, .int (rg_ff (lw_mp M j) (6 - (y)) (y))), (6, .int (lw_sv M (6 * j + y))), (0, .ref (B + 412)), (1, .ref (B + 414)), (2, .int (nI j)), (3, .int (lw_sea M j))] := by skip; exact hl
            exact ih y (by omega) _ _ _ hH (lv_sub hl [3, 4, 5, 6, 1, 0] rfl)
          · refine lv_iload hx hb dL_mixed_61 (lv_at hl 0 rfl) ?_
            refine lv_iload_n hx hb dL_mixed_63 rfl (lv_at hl 4 rfl) ?_
            refine lv_icmp_eq (tgt := 72) hx hb dL_mixed_64 (by decide) (fun c_64 => ?_) (fun c_64 => ?_)
            · refine lv_iload hx hb dL_mixed_72 (lv_at hl 5 rfl) ?_
              refine lv_istore (lv' := [(4, .int (rg_ff (lw_mp M j) (6 - ((y + 1))) ((y + 1)))), (6, .int (lw_sv M (6 * j + y))), (0, .ref (B + 412)), (1, .ref (B + 414)), (2, .int (nI j)), (3, .int (lw_sea M j)), (5, .int (nI y))]) hx hb dL_mixed_74 hl (by decide) rfl (fun ls hl => ?_)
              refine lv_iinc (v := (nI y) - 1) (lv' := [(5, .int ((nI y) - 1)), (4, .int (rg_ff (lw_mp M j) (6 - ((y + 1))) ((y + 1)))), (6, .int (lw_sv M (6 * j + y))), (0, .ref (B + 412)), (1, .ref (B + 414)), (2, .int (nI j)), (3, .int (lw_sea M j))]) hx hb dL_mixed_76 hl (k := 6) rfl (rg_m1s _) (by decide) rfl (fun ls hl => ?_)
              refine lv_goto (tgt := 13) hx hb dL_mixed_79 (by decide) ?_
              replace hl : lv_has ls 7 [(5, .int ((nI y) - 1)), (4, .int (rg_ff (lw_mp M j) (6 - (y)) (y))), (6, .int (lw_sv M (6 * j + y))), (0, .ref (B + 412)), (1, .ref (B + 414)), (2, .int (nI j)), (3, .int (lw_sea M j))] := by rw [lw_ff_at (show y < 6 by omega), if_neg (by rw [decide_eq_true_eq]; exact fun q => q.2 c_64)]; exact hl
              replace hl : lv_has ls 7 [(5, .int (nI y - 1)), (4, .int (rg_ff (lw_mp M j) (6 - (y)) (y))), (6, .int (lw_sv M (6 * j + y))), (0, .ref (B + 412)), (1, .ref (B + 414)), (2, .int (nI j)), (3, .int (lw_sea M j))] := by skip; exact hl
              exact ih y (by omega) _ _ _ hH (lv_sub hl [3, 4, 5, 6, 1, 0] rfl)
            · refine lv_iload hx hb dL_mixed_67 (lv_at hl 6 rfl) ?_
              refine lv_goto (tgt := 74) hx hb dL_mixed_69 (by decide) ?_
              refine lv_istore (lv' := [(4, .int (nI y)), (6, .int (lw_sv M (6 * j + y))), (0, .ref (B + 412)), (1, .ref (B + 414)), (2, .int (nI j)), (3, .int (lw_sea M j)), (5, .int (nI y))]) hx hb dL_mixed_74 hl (by decide) rfl (fun ls hl => ?_)
              refine lv_iinc (v := (nI y) - 1) (lv' := [(5, .int ((nI y) - 1)), (4, .int (nI y)), (6, .int (lw_sv M (6 * j + y))), (0, .ref (B + 412)), (1, .ref (B + 414)), (2, .int (nI j)), (3, .int (lw_sea M j))]) hx hb dL_mixed_76 hl (k := 6) rfl (rg_m1s _) (by decide) rfl (fun ls hl => ?_)
              refine lv_goto (tgt := 13) hx hb dL_mixed_79 (by decide) ?_
              replace hl : lv_has ls 7 [(5, .int ((nI y) - 1)), (4, .int (rg_ff (lw_mp M j) (6 - (y)) (y))), (6, .int (lw_sv M (6 * j + y))), (0, .ref (B + 412)), (1, .ref (B + 414)), (2, .int (nI j)), (3, .int (lw_sea M j))] := by rw [lw_ff_at (show y < 6 by omega), if_pos (decide_eq_true (⟨fun q => c_58 ((lw_neg (lw_sv_in hT hW (by omega))).mpr q), c_64⟩ : ¬ lw_sv M (6 * j + y) = -1 ∧ ¬ lw_sv M (6 * j + y) = lw_sea M j))]; exact hl
              replace hl : lv_has ls 7 [(5, .int (nI y - 1)), (4, .int (rg_ff (lw_mp M j) (6 - (y)) (y))), (6, .int (lw_sv M (6 * j + y))), (0, .ref (B + 412)), (1, .ref (B + 414)), (2, .int (nI j)), (3, .int (lw_sea M j))] := by skip; exact hl
              exact ih y (by omega) _ _ _ hH (lv_sub hl [3, 4, 5, 6, 1, 0] rfl)
        refine lv_bipush (v := 6) hx hb dL_mixed_19 (by decide) ?_
        refine lv_iload_n hx hb dL_mixed_21 rfl (lv_at hl 2 rfl) ?_
        refine lv_imul hx hb dL_mixed_22 ?_
        refine rg_topi (y := nI (6 * j)) (by exact lw_mul (6) (j)) ?_
        refine lv_iload hx hb dL_mixed_23 (lv_at hl 5 rfl) ?_
        refine lv_iadd hx hb dL_mixed_25 ?_
        refine rg_topi (y := nI ((6 * j) + y)) (by exact nI_add (6 * j) (y)) ?_
        refine rg_ialdN C0 hH (o := 414) (j := ((6 * j) + y)) (n0 := 64) (by omega) rfl rfl (by omega) dL_mixed_26 ?_
        refine rg_topi (y := nI (lw_t M (6 * j + y))) (by exact (hT _ (by omega)).1) ?_
        have ht16 := (hT (6 * j + y) (by omega)).2
        refine lv_if_le (tgt := 53) hx hb dL_mixed_27 (by decide) (fun c_27 => ?_) (fun c_27 => ?_)
        · refine lv_iconst (v := (-1)) hx hb dL_mixed_53 (by decide) ?_
          refine rg_topi (y := lw_sv M (6 * j + y)) (by exact (lw_sv_0 ((lw_le0 (by have := (hT (6 * j + y) (by omega)).2; omega)).mp c_27)).symm) ?_
          exact cut_54 _ _ _ hH (lv_sub hl [0, 1, 2, 3, 4, 5] rfl)
        · have ht1 : 1 ≤ lw_t M (6 * j + y) := by have := lw_no (lw_le0 (t := lw_t M (6 * j + y)) (by omega)) c_27; omega
          refine lv_aload_n hx hb dL_mixed_30 rfl (lv_at hl 0 rfl) ?_
          refine lv_aload_n hx hb dL_mixed_31 rfl (lv_at hl 1 rfl) ?_
          refine lv_bipush (v := 6) hx hb dL_mixed_32 (by decide) ?_
          refine lv_iload_n hx hb dL_mixed_34 rfl (lv_at hl 2 rfl) ?_
          refine lv_imul hx hb dL_mixed_35 ?_
          refine rg_topi (y := nI (6 * j)) (by exact lw_mul (6) (j)) ?_
          refine lv_iload hx hb dL_mixed_36 (lv_at hl 5 rfl) ?_
          refine lv_iadd hx hb dL_mixed_38 ?_
          refine rg_topi (y := nI ((6 * j) + y)) (by exact nI_add (6 * j) (y)) ?_
          refine rg_ialdN C0 hH (o := 414) (j := ((6 * j) + y)) (n0 := 64) (by omega) rfl rfl (by omega) dL_mixed_39 ?_
          refine rg_topi (y := nI (lw_t M (6 * j + y))) (by exact (hT _ (by omega)).1) ?_
          refine lv_iconst (v := 1) hx hb dL_mixed_40 (by decide) ?_
          refine lv_isub hx hb dL_mixed_41 ?_
          refine rg_topi (y := nI (lw_t M (6 * j + y) - 1)) (by exact lw_sub1 ht1) ?_
          have ht16 := (hT (6 * j + y) (by omega)).2
          refine rg_ialdN C0 hH (o := 412) (j := (lw_t M (6 * j + y) - 1)) (n0 := 16) (by omega) rfl rfl (by omega) dL_mixed_42 ?_
          refine lv_iconst (v := 4) hx hb dL_mixed_43 (by decide) ?_
          refine lv_ishr hx hb dL_mixed_44 ?_
          refine lv_bipush (v := 7) hx hb dL_mixed_45 (by decide) ?_
          refine lv_iand hx hb dL_mixed_47 ?_
          refine rg_topi (y := M.1 3 (lw_t M (6 * j + y) - 1) + 1) (by exact (hW _ (by omega)).2.1) ?_
          refine lv_iconst (v := 1) hx hb dL_mixed_48 (by decide) ?_
          refine lv_isub hx hb dL_mixed_49 ?_
          refine rg_topi (y := M.1 3 (lw_t M (6 * j + y) - 1)) (by exact lw_s2) ?_
          refine lv_goto (tgt := 54) hx hb dL_mixed_50 (by decide) ?_
          refine rg_topi (y := lw_sv M (6 * j + y)) (by exact (lw_sv_1 ht1).symm) ?_
          exact cut_54 _ _ _ hH (lv_sub hl [0, 1, 2, 3, 4, 5] rfl)
  replace hl : lv_has ls 7 [(5, .int (5)), (4, .int (rg_ff (lw_mp M j) (6 - (6)) (6))), (3, .int (lw_sea M j)), (0, .ref (B + 412)), (1, .ref (B + 414)), (2, .int (nI j))] := by rw [show rg_ff (lw_mp M j) (6 - (6)) (6) = -1 from rfl]; exact hl
  replace hl : lv_has ls 7 [(5, .int (nI 6 - 1)), (4, .int (rg_ff (lw_mp M j) (6 - (6)) (6))), (3, .int (lw_sea M j)), (0, .ref (B + 412)), (1, .ref (B + 414)), (2, .int (nI j))] := by rw [show (nI 6 - 1 : Int32) = 5 from by decide]; exact hl
  exact cut_13 7 6 (by omega) _ _ _ hH (lv_sub hl [3, 4, 5, 2, 1, 0] rfl)
