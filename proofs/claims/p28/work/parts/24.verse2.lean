set_option maxHeartbeats 4000000 in
set_option maxRecDepth 100000 in
/-- Verse.append -/
theorem k_X5_append (l : Launch) (E : rg_Env) (B : Nat) (M : rg_Mem) (v : Nat) (n : Nat) (w : Int32) (hv : rg_isV v) (hn : rg_cn M) (hvs : rg_VS M v n) (hn6 : n < 6) (hw : rg_has M w) : Met l yX5_append (rg_w yX5_append cX5_append 3 none) ({ frames := 2, cells := 0, slots := 0, locals := 42 } : Room) (va_Pc [.ref (B + v), .int (w), .ref (B + 1)] (rg_Pre E B 422 rg_R0 M)) (rg_Wv E B 422 rg_R0 (fun M1 => rg_VS M1 v (n + 1) ∧ M1.1 (v + 1) n = w ∧ (∀ k, k < n → M1.1 (v + 1) k = M.1 (v + 1) k) ∧ rg_off M M1 v)) 0 0 (rg_A B) := by
  refine rg_ofW (by decide +kernel) rfl (Nat.le_of_ble_eq_true rfl) ?_
  intro p e s m args below meth c ls C0 hH hl hr hlocks hnm
  replace hl : lv_has ls 3 [(0, .ref (B + v)), (1, .int (w)), (2, .ref (B + 1))] := hl
  have hx := C0.1.1
  have hb := C0.1.2.1
  generalize hH9 : s.heap = H at hH ⊢
  generalize hL9 : ([] : List Loc) = locs at hH ⊢
  clear hH9 hL9
  have hv17 := rg_isV_ge hv
  have k1 := hvs.1
  have z0 : ¬ v = 0 := by omega
  have z1 : ¬ v = 1 := by omega
  have z2 : ¬ v = 2 := by omega
  have z3 : ¬ v = 3 := by omega
  have z4 : ¬ v = 4 := by omega
  have y0 : ¬ 0 = v := by omega
  have y1 : ¬ 1 = v := by omega
  have y2 : ¬ 2 = v := by omega
  have y3 : ¬ 3 = v := by omega
  have y4 : ¬ 4 = v := by omega
  refine lv_aload_n hx hb dX5_append_0 rfl (lv_at hl 0 rfl) ?_
  refine rg_gI C0 hH (ci := 5) (k := 1) (o := v) rfl inT_X5 (by decide) tw_f_X5_19 (rg_isV_lt hv) hv.2 (by decide) rfl dX5_append_1 ?_
  refine lv_bipush (v := 6) hx hb dX5_append_4 (by decide) ?_
  refine lv_icmp_ge (tgt := 17) hx hb dX5_append_6 (by decide) (fun c_6 => ?_) (fun c_6 => ?_)
  · exact absurd c_6 (by rw [hvs.1]; exact nI_ge (a := n) (b := 6) hn6 (by omega))
  · refine lv_aload_n hx hb dX5_append_9 rfl (lv_at hl 2 rfl) ?_
    refine lv_iload_n hx hb dX5_append_10 rfl (lv_at hl 1 rfl) ?_
    refine rg_callGi C0 hH (As := [.int (w)]) (rest := []) (o := 1) (ci := 4) (k_X4_has l E B M w) (rg_cw 1 C0.1.2.2.2.2 tw_m_X5_32 tw_i_X4_has tw_v_X4_has tw_n_X4 tw_c_X4_has rfl rfl hd_X4_has ⟨Nat.le_of_ble_eq_true rfl, Nat.le_of_ble_eq_true rfl⟩) rfl (by decide) rfl (by decide) rfl hl.1 rfl (Nat.le_of_ble_eq_true rfl) dX5_append_11 ⟨Nat.le_of_ble_eq_true rfl, Nat.le_of_ble_eq_true rfl⟩ (fun H locs hH => ?_)
    refine lv_if_ne (tgt := 18) hx hb dX5_append_14 (by decide) (fun c_14 => ?_) (fun c_14 => ?_)
    · refine lv_aload_n hx hb dX5_append_18 rfl (lv_at hl 0 rfl) ?_
      refine rg_gR C0 hH (o2 := (v + 1)) (ci := 5) (k := 0) (o := v) (rg_isV_w hv).2.2.2 rfl inT_X5 (by decide) tw_f_X5_9 (rg_isV_lt hv) hv.2 (by decide) rfl dX5_append_19 ?_
      refine lv_aload_n hx hb dX5_append_22 rfl (lv_at hl 0 rfl) ?_
      refine rg_gI C0 hH (ci := 5) (k := 1) (o := v) rfl inT_X5 (by decide) tw_f_X5_19 (rg_isV_lt hv) hv.2 (by decide) rfl dX5_append_23 ?_
      refine rg_topi (y := nI n) (by exact hvs.1) ?_
      refine lv_iload_n hx hb dX5_append_26 rfl (lv_at hl 1 rfl) ?_
      refine rg_iastN C0 hH (o := (v + 1)) (j := n) (rg_isV_w hv).1 (rg_isV_w hv).2.1 (rg_isV_w hv).2.2.1 (by omega) dX5_append_27 (fun H locs hH => ?_)
      refine lv_aload_n hx hb dX5_append_28 rfl (lv_at hl 0 rfl) ?_
      refine lv_dup hx hb dX5_append_29 rfl ?_
      refine rg_gI C0 hH (ci := 5) (k := 1) (o := v) rfl inT_X5 (by decide) tw_f_X5_19 (rg_isV_lt hv) hv.2 (by decide) rfl dX5_append_30 ?_
      refine rg_topi (y := nI n) (by simp [rg_I, k1]) ?_
      refine lv_iconst (v := 1) hx hb dX5_append_33 (by decide) ?_
      refine lv_iadd hx hb dX5_append_34 ?_
      refine rg_topi (y := nI (n + 1)) (by exact nI_1 n) ?_
      refine rg_pI C0 hH (v := nI (n + 1)) tyX5 tyX5_ok nmX5 (ci := 5) (k := 1) (o := v) rfl inT_X5 (by decide) tw_f_X5_19 (rg_isV_lt hv) hv.2 (by decide) rfl rfl rfl rfl dX5_append_35 (fun H locs hH => ?_)
      refine lv_aload_n hx hb dX5_append_38 rfl (lv_at hl 0 rfl) ?_
      refine lv_dup hx hb dX5_append_39 rfl ?_
      refine rg_gI C0 hH (ci := 5) (k := 2) (o := v) rfl inT_X5 (by decide) tw_f_X5_22 (rg_isV_lt hv) hv.2 (by decide) rfl dX5_append_40 ?_
      refine rg_topi (y := M.1 v 2) (by simp [rg_I, rg_J]) ?_
      refine lv_aload_n hx hb dX5_append_43 rfl (lv_at hl 2 rfl) ?_
      refine lv_iload_n hx hb dX5_append_44 rfl (lv_at hl 1 rfl) ?_
      refine rg_callGi C0 hH (As := [.int (w)]) (rest := [.int (M.1 v 2), .ref (B + v)]) (o := 1) (ci := 4) (k_X4_soundsOf l E B (rg_I (rg_I M (v + 1) n w) v 1 (nI (n + 1))) w (by first | exact hv | (show rg_cn _; simpa [rg_cn, rg_I, rg_J, z0, z1, z2, z3, z4, y0, y1, y2, y3, y4] using hn))) (rg_cw 1 C0.1.2.2.2.2 tw_m_X5_38 tw_i_X4_soundsOf tw_v_X4_soundsOf tw_n_X4 tw_c_X4_soundsOf rfl rfl hd_X4_soundsOf ⟨Nat.le_of_ble_eq_true rfl, Nat.le_of_ble_eq_true rfl⟩) rfl (by decide) rfl (by decide) rfl hl.1 rfl (Nat.le_of_ble_eq_true rfl) dX5_append_45 ⟨Nat.le_of_ble_eq_true rfl, Nat.le_of_ble_eq_true rfl⟩ (fun H locs hH => ?_)
      refine rg_topi (y := M.1 2 w.toNatClampNeg) (by rw [if_pos (show rg_has _ w from by simpa [rg_has, rg_I, rg_J, z0, z1, z2, z3, z4, y0, y1, y2, y3, y4] using hw)]; simp [rg_I, rg_J, z0, z1, z2, z3, z4, y0, y1, y2, y3, y4]) ?_
      refine lv_iadd hx hb dX5_append_48 ?_
      refine rg_pI C0 hH (v := (M.1 v 2) + (M.1 2 w.toNatClampNeg)) tyX5 tyX5_ok nmX5 (ci := 5) (k := 2) (o := v) rfl inT_X5 (by decide) tw_f_X5_22 (rg_isV_lt hv) hv.2 (by decide) rfl rfl rfl rfl dX5_append_49 (fun H locs hH => ?_)
      refine lv_aload_n hx hb dX5_append_52 rfl (lv_at hl 0 rfl) ?_
      refine rg_gI C0 hH (ci := 5) (k := 3) (o := v) rfl inT_X5 (by decide) tw_f_X5_15 (rg_isV_lt hv) hv.2 (by decide) rfl dX5_append_53 ?_
      refine rg_topi (y := M.1 v 3) (by simp [rg_I, rg_J]) ?_
      refine lv_iconst (v := (-1)) hx hb dX5_append_56 (by decide) ?_
      refine lv_icmp_ne (tgt := 69) hx hb dX5_append_57 (by decide) (fun c_57 => ?_) (fun c_57 => ?_)
      · refine lv_aload_n hx hb dX5_append_69 rfl (lv_at hl 0 rfl) ?_
        refine lv_dup hx hb dX5_append_70 rfl ?_
        refine rg_gI C0 hH (ci := 5) (k := 4) (o := v) rfl inT_X5 (by decide) tw_f_X5_25 (rg_isV_lt hv) hv.2 (by decide) rfl dX5_append_71 ?_
        refine rg_topi (y := M.1 v 4) (by simp [rg_I, rg_J]) ?_
        refine lv_aload_n hx hb dX5_append_74 rfl (lv_at hl 2 rfl) ?_
        refine lv_iload_n hx hb dX5_append_75 rfl (lv_at hl 1 rfl) ?_
        refine rg_callGi C0 hH (As := [.int (w)]) (rest := [.int (M.1 v 4), .ref (B + v)]) (o := 1) (ci := 4) (k_X4_signsOf l E B (rg_I ((rg_I (rg_I M (v + 1) n w) v 1 (nI (n + 1)))) v 2 ((M.1 v 2) + (M.1 2 w.toNatClampNeg))) w (by first | exact hv | (show rg_cn _; simpa [rg_cn, rg_I, rg_J, z0, z1, z2, z3, z4, y0, y1, y2, y3, y4] using hn))) (rg_cw 1 C0.1.2.2.2.2 tw_m_X5_45 tw_i_X4_signsOf tw_v_X4_signsOf tw_n_X4 tw_c_X4_signsOf rfl rfl hd_X4_signsOf ⟨Nat.le_of_ble_eq_true rfl, Nat.le_of_ble_eq_true rfl⟩) rfl (by decide) rfl (by decide) rfl hl.1 rfl (Nat.le_of_ble_eq_true rfl) dX5_append_76 ⟨Nat.le_of_ble_eq_true rfl, Nat.le_of_ble_eq_true rfl⟩ (fun H locs hH => ?_)
        refine rg_topi (y := M.1 4 w.toNatClampNeg) (by rw [if_pos (show rg_has _ w from by simpa [rg_has, rg_I, rg_J, z0, z1, z2, z3, z4, y0, y1, y2, y3, y4] using hw)]; simp [rg_I, rg_J, z0, z1, z2, z3, z4, y0, y1, y2, y3, y4]) ?_
        refine lv_ior hx hb dX5_append_79 ?_
        refine rg_pI C0 hH (v := (M.1 v 4) ||| (M.1 4 w.toNatClampNeg)) tyX5 tyX5_ok nmX5 (ci := 5) (k := 4) (o := v) rfl inT_X5 (by decide) tw_f_X5_25 (rg_isV_lt hv) hv.2 (by decide) rfl rfl rfl rfl dX5_append_80 (fun H locs hH => ?_)
        refine lv_aload_n hx hb dX5_append_83 rfl (lv_at hl 0 rfl) ?_
        refine lv_dup hx hb dX5_append_84 rfl ?_
        refine rg_gJ C0 hH (ci := 5) (k := 5) (o := v) rfl inT_X5 (by decide) tw_f_X5_28 (rg_isV_lt hv) hv.2 (by decide) rfl dX5_append_85 ?_
        refine rg_topl (y := M.2 v 5) (by simp [rg_I, rg_J]) ?_
        refine lv_lconst (v := 1) hx hb dX5_append_88 (by decide) ?_
        refine lv_iload_n hx hb dX5_append_89 rfl (lv_at hl 1 rfl) ?_
        refine lv_lshl hx hb dX5_append_90 rfl ?_
        refine lv_lor hx hb dX5_append_91 ?_
        refine rg_pJ C0 hH (v := (M.2 v 5) ||| ((1 : Int64) <<< (w.toInt64 &&& 63))) tyX5 tyX5_ok nmX5 (ci := 5) (k := 5) (o := v) rfl inT_X5 (by decide) tw_f_X5_28 (rg_isV_lt hv) hv.2 (by decide) rfl rfl rfl rfl dX5_append_92 (fun H locs hH => ?_)
        exact rg_retWv C0 hH hr hlocks (by exact rg_VS_app hv hvs hn6 hw (by simp [rg_I, rg_J]) (by simp [rg_I, rg_J]) (by simp [rg_I, rg_J, c_57]) (by simp [rg_I, rg_J]) (by simp [rg_I, rg_J]) (fun j => by simp [rg_I, rg_J]) (fun c h1 h2 => ⟨by funext j; simp [rg_I, rg_J, h1, h2], by funext j; simp [rg_I, rg_J, h1, h2]⟩)) dX5_append_95
      · refine lv_aload_n hx hb dX5_append_60 rfl (lv_at hl 0 rfl) ?_
        refine lv_aload_n hx hb dX5_append_61 rfl (lv_at hl 2 rfl) ?_
        refine lv_iload_n hx hb dX5_append_62 rfl (lv_at hl 1 rfl) ?_
        refine rg_callGi C0 hH (As := [.int (w)]) (rest := [.ref (B + v)]) (o := 1) (ci := 4) (k_X4_seasonOf l E B (rg_I ((rg_I (rg_I M (v + 1) n w) v 1 (nI (n + 1)))) v 2 ((M.1 v 2) + (M.1 2 w.toNatClampNeg))) w (by first | exact hv | (show rg_cn _; simpa [rg_cn, rg_I, rg_J, z0, z1, z2, z3, z4, y0, y1, y2, y3, y4] using hn))) (rg_cw 1 C0.1.2.2.2.2 tw_m_X5_42 tw_i_X4_seasonOf tw_v_X4_seasonOf tw_n_X4 tw_c_X4_seasonOf rfl rfl hd_X4_seasonOf ⟨Nat.le_of_ble_eq_true rfl, Nat.le_of_ble_eq_true rfl⟩) rfl (by decide) rfl (by decide) rfl hl.1 rfl (Nat.le_of_ble_eq_true rfl) dX5_append_63 ⟨Nat.le_of_ble_eq_true rfl, Nat.le_of_ble_eq_true rfl⟩ (fun H locs hH => ?_)
        refine rg_topi (y := M.1 3 w.toNatClampNeg) (by rw [if_pos (show rg_has _ w from by simpa [rg_has, rg_I, rg_J, z0, z1, z2, z3, z4, y0, y1, y2, y3, y4] using hw)]; simp [rg_I, rg_J, z0, z1, z2, z3, z4, y0, y1, y2, y3, y4]) ?_
        refine rg_pI C0 hH (v := M.1 3 w.toNatClampNeg) tyX5 tyX5_ok nmX5 (ci := 5) (k := 3) (o := v) rfl inT_X5 (by decide) tw_f_X5_15 (rg_isV_lt hv) hv.2 (by decide) rfl rfl rfl rfl dX5_append_66 (fun H locs hH => ?_)
        refine lv_aload_n hx hb dX5_append_69 rfl (lv_at hl 0 rfl) ?_
        refine lv_dup hx hb dX5_append_70 rfl ?_
        refine rg_gI C0 hH (ci := 5) (k := 4) (o := v) rfl inT_X5 (by decide) tw_f_X5_25 (rg_isV_lt hv) hv.2 (by decide) rfl dX5_append_71 ?_
        refine rg_topi (y := M.1 v 4) (by simp [rg_I, rg_J]) ?_
        refine lv_aload_n hx hb dX5_append_74 rfl (lv_at hl 2 rfl) ?_
        refine lv_iload_n hx hb dX5_append_75 rfl (lv_at hl 1 rfl) ?_
        refine rg_callGi C0 hH (As := [.int (w)]) (rest := [.int (M.1 v 4), .ref (B + v)]) (o := 1) (ci := 4) (k_X4_signsOf l E B (rg_I ((rg_I ((rg_I (rg_I M (v + 1) n w) v 1 (nI (n + 1)))) v 2 ((M.1 v 2) + (M.1 2 w.toNatClampNeg)))) v 3 (M.1 3 w.toNatClampNeg)) w (by first | exact hv | (show rg_cn _; simpa [rg_cn, rg_I, rg_J, z0, z1, z2, z3, z4, y0, y1, y2, y3, y4] using hn))) (rg_cw 1 C0.1.2.2.2.2 tw_m_X5_45 tw_i_X4_signsOf tw_v_X4_signsOf tw_n_X4 tw_c_X4_signsOf rfl rfl hd_X4_signsOf ⟨Nat.le_of_ble_eq_true rfl, Nat.le_of_ble_eq_true rfl⟩) rfl (by decide) rfl (by decide) rfl hl.1 rfl (Nat.le_of_ble_eq_true rfl) dX5_append_76 ⟨Nat.le_of_ble_eq_true rfl, Nat.le_of_ble_eq_true rfl⟩ (fun H locs hH => ?_)
        refine rg_topi (y := M.1 4 w.toNatClampNeg) (by rw [if_pos (show rg_has _ w from by simpa [rg_has, rg_I, rg_J, z0, z1, z2, z3, z4, y0, y1, y2, y3, y4] using hw)]; simp [rg_I, rg_J, z0, z1, z2, z3, z4, y0, y1, y2, y3, y4]) ?_
        refine lv_ior hx hb dX5_append_79 ?_
        refine rg_pI C0 hH (v := (M.1 v 4) ||| (M.1 4 w.toNatClampNeg)) tyX5 tyX5_ok nmX5 (ci := 5) (k := 4) (o := v) rfl inT_X5 (by decide) tw_f_X5_25 (rg_isV_lt hv) hv.2 (by decide) rfl rfl rfl rfl dX5_append_80 (fun H locs hH => ?_)
        refine lv_aload_n hx hb dX5_append_83 rfl (lv_at hl 0 rfl) ?_
        refine lv_dup hx hb dX5_append_84 rfl ?_
        refine rg_gJ C0 hH (ci := 5) (k := 5) (o := v) rfl inT_X5 (by decide) tw_f_X5_28 (rg_isV_lt hv) hv.2 (by decide) rfl dX5_append_85 ?_
        refine rg_topl (y := M.2 v 5) (by simp [rg_I, rg_J]) ?_
        refine lv_lconst (v := 1) hx hb dX5_append_88 (by decide) ?_
        refine lv_iload_n hx hb dX5_append_89 rfl (lv_at hl 1 rfl) ?_
        refine lv_lshl hx hb dX5_append_90 rfl ?_
        refine lv_lor hx hb dX5_append_91 ?_
        refine rg_pJ C0 hH (v := (M.2 v 5) ||| ((1 : Int64) <<< (w.toInt64 &&& 63))) tyX5 tyX5_ok nmX5 (ci := 5) (k := 5) (o := v) rfl inT_X5 (by decide) tw_f_X5_28 (rg_isV_lt hv) hv.2 (by decide) rfl rfl rfl rfl dX5_append_92 (fun H locs hH => ?_)
        exact rg_retWv C0 hH hr hlocks (by exact rg_VS_app hv hvs hn6 hw (by simp [rg_I, rg_J]) (by simp [rg_I, rg_J]) (by simp [rg_I, rg_J, c_57]) (by simp [rg_I, rg_J]) (by simp [rg_I, rg_J]) (fun j => by simp [rg_I, rg_J]) (fun c h1 h2 => ⟨by funext j; simp [rg_I, rg_J, h1, h2], by funext j; simp [rg_I, rg_J, h1, h2]⟩)) dX5_append_95
    · exact absurd hw (rg_b_eq.mp c_14)

set_option maxHeartbeats 4000000 in
set_option maxRecDepth 100000 in
/-- Verse.takeMended -/
theorem k_X5_takeMended (l : Launch) (E : rg_Env) (B : Nat) (M : rg_Mem) (v : Nat) (o : Nat) (n : Nat) (x : Int32) (w : Int32) (hv : rg_isV v) (ho : rg_isV o) (hne : v ≠ o) (hn : rg_cn M) (hvs : rg_VS M o n) (hw : ∀ k, k < n → nI k = x → rg_has M w) : Met l yX5_takeMended (rg_w yX5_takeMended cX5_takeMended 6 none) ({ frames := 3, cells := 0, slots := 0, locals := 64 } : Room) (va_Pc [.ref (B + v), .ref (B + o), .int (x), .int (w), .ref (B + 1)] (rg_Pre E B 422 rg_R0 M)) (rg_Wv E B 422 rg_R0 (fun M1 => rg_VS M1 v n ∧ (∀ k, k < n → M1.1 (v + 1) k = if nI k = x then w else M.1 (o + 1) k) ∧ rg_off M M1 v)) 0 0 (rg_A B) := by
  refine rg_ofW (by decide +kernel) rfl (Nat.le_of_ble_eq_true rfl) ?_
  intro p e s m args below meth c ls C0 hH hl hr hlocks hnm
  replace hl : lv_has ls 6 [(0, .ref (B + v)), (1, .ref (B + o)), (2, .int (x)), (3, .int (w)), (4, .ref (B + 1))] := hl
  have hx := C0.1.1
  have hb := C0.1.2.1
  generalize hH9 : s.heap = H at hH ⊢
  generalize hL9 : ([] : List Loc) = locs at hH ⊢
  clear hH9 hL9
  have hv17 := rg_isV_ge hv
  refine lv_aload_n hx hb dX5_takeMended_0 rfl (lv_at hl 0 rfl) ?_
  refine rg_callRv C0 hH (As := []) (rest := []) (o := v) (ci := 5) (k_X5_empty l E B M v (by assumption)) (rg_cw 0 C0.1.2.2.2.2 tw_m_X5_52 tw_i_X5_empty tw_v_X5_empty tw_n_X5 tw_c_X5_empty rfl rfl hd_X5_empty ⟨Nat.le_of_ble_eq_true rfl, Nat.le_of_ble_eq_true rfl⟩) rfl (rg_isV_lt hv) hv.2 (by decide) rfl hl.1 rfl (Nat.le_of_ble_eq_true rfl) dX5_takeMended_1 ⟨Nat.le_of_ble_eq_true rfl, Nat.le_of_ble_eq_true rfl⟩ (fun H locs e_1 hH => ?_)
  refine lv_iconst (v := 0) hx hb dX5_takeMended_4 (by decide) ?_
  refine lv_istore (lv' := [(5, .int (0)), (0, .ref (B + v)), (1, .ref (B + o)), (2, .int (x)), (3, .int (w)), (4, .ref (B + 1))]) hx hb dX5_takeMended_5 hl (by decide) rfl (fun ls hl => ?_)
  have cut_7 : ∀ (fu i : Nat), i ≤ n ∧ n < i + fu → ∀ (Mi : rg_Mem) (H : Heap) (locs : List Loc) (ls : Array Slot), rg_H E B 422 rg_R0 Mi s H locs → lv_has ls 6 [(0, .ref (B + v)), (1, .ref (B + o)), (2, .int (x)), (3, .int (w)), (4, .ref (B + 1)), (5, .int (nI i))] → (rg_VS Mi v i) → (∀ k, k < i → Mi.1 (v + 1) k = if nI k = x then w else M.1 (o + 1) k) → (rg_off M Mi v) → W p l e ({ frames := 3, cells := 0, slots := 0, locals := 64 } : Room) s m args below meth c H locs 0 0 (MQ below (rg_Wv E B 422 rg_R0 (fun M1 => rg_VS M1 v n ∧ (∀ k, k < n → M1.1 (v + 1) k = if nI k = x then w else M.1 (o + 1) k) ∧ rg_off M M1 v)) args s 0 0 (rg_A B)) (F0 m 7 ls []) := by
    intro fu
    induction fu with
    | zero =>
      intro i hm
      exact absurd hm (by omega)
    | succ fu ih =>
      intro i hm Mi H locs ls hH hl hVi hwi hoi
      have hVo := rg_VS_off hvs hv ho hne hoi
      have g1 := (hoi 1 (by omega) (by omega)).1
      have hcn : rg_cn Mi := by unfold rg_cn; rw [g1]; exact hn
      have go := (hoi (o + 1) (rg_isV_n hv ho).2 (fun q => hne (by omega))).1
      refine lv_iload hx hb dX5_takeMended_7 (lv_at hl 5 rfl) ?_
      refine lv_aload_n hx hb dX5_takeMended_9 rfl (lv_at hl 1 rfl) ?_
      refine rg_gI C0 hH (ci := 5) (k := 1) (o := o) rfl inT_X5 (by decide) tw_f_X5_19 (rg_isV_lt ho) ho.2 (by decide) rfl dX5_takeMended_10 ?_
      refine rg_topi (y := nI n) (by exact hVo.1) ?_
      refine lv_icmp_ge (tgt := 44) hx hb dX5_takeMended_13 (by decide) (fun c_13 => ?_) (fun c_13 => ?_)
      · exact rg_retWv C0 hH hr hlocks (by have q := rg_lp_end hm.1 (by have := hvs.2.1; omega) c_13; subst q; exact ⟨hVi, hwi, hoi⟩) dX5_takeMended_44
      · have hlt : i < n := rg_lp_lt hm.1 (by have := hvs.2.1; omega) c_13
        refine lv_aload_n hx hb dX5_takeMended_16 rfl (lv_at hl 0 rfl) ?_
        refine lv_iload hx hb dX5_takeMended_17 (lv_at hl 5 rfl) ?_
        refine lv_iload_n hx hb dX5_takeMended_19 rfl (lv_at hl 2 rfl) ?_
        refine lv_icmp_ne (tgt := 27) hx hb dX5_takeMended_20 (by decide) (fun c_20 => ?_) (fun c_20 => ?_)
        · refine lv_aload_n hx hb dX5_takeMended_27 rfl (lv_at hl 1 rfl) ?_
          refine lv_iload hx hb dX5_takeMended_28 (lv_at hl 5 rfl) ?_
          refine rg_callGi C0 hH (As := [.int (nI i)]) (rest := [.ref (B + v)]) (o := o) (ci := 5) (k_X5_wordOrNone l E B Mi o (nI i) (by exact ho)) (rg_cw 1 C0.1.2.2.2.2 tw_m_X5_55 tw_i_X5_wordOrNone tw_v_X5_wordOrNone tw_n_X5 tw_c_X5_wordOrNone rfl rfl hd_X5_wordOrNone ⟨Nat.le_of_ble_eq_true rfl, Nat.le_of_ble_eq_true rfl⟩) rfl (rg_isV_lt ho) ho.2 (by decide) rfl hl.1 rfl (Nat.le_of_ble_eq_true rfl) dX5_takeMended_30 ⟨Nat.le_of_ble_eq_true rfl, Nat.le_of_ble_eq_true rfl⟩ (fun H locs hH => ?_)
          refine rg_topi (y := Mi.1 (o + 1) i) (by exact rg_wn_k hVo.1 hVo.2.1 hlt) ?_
          refine lv_aload hx hb dX5_takeMended_33 (lv_at hl 4 rfl) ?_
          refine rg_callWv C0 hH (As := [.int (Mi.1 (o + 1) i), .ref (B + 1)]) (rest := []) (o := v) (ci := 5) (k_X5_append l E B Mi v i (Mi.1 (o + 1) i) hv hcn hVi (by have := hvs.2.1; omega) (by unfold rg_has; rw [g1]; first | exact hw i hlt c_20 | (rw [go]; exact hvs.2.2.1 i hlt))) (rg_cw 2 C0.1.2.2.2.2 tw_m_X5_58 tw_i_X5_append tw_v_X5_append tw_n_X5 tw_c_X5_append rfl rfl hd_X5_append ⟨Nat.le_of_ble_eq_true rfl, Nat.le_of_ble_eq_true rfl⟩) rfl (rg_isV_lt hv) hv.2 (by decide) rfl hl.1 rfl (Nat.le_of_ble_eq_true rfl) dX5_takeMended_35 ⟨Nat.le_of_ble_eq_true rfl, Nat.le_of_ble_eq_true rfl⟩ (fun M_35 H locs e_35 hH => ?_)
          refine lv_iinc (v := nI (i + 1)) (lv' := [(5, .int (nI (i + 1))), (0, .ref (B + v)), (1, .ref (B + o)), (2, .int (x)), (3, .int (w)), (4, .ref (B + 1))]) hx hb dX5_takeMended_38 hl (k := 5) rfl (nI_1 _) (by decide) rfl (fun ls hl => ?_)
          refine lv_goto (tgt := 7) hx hb dX5_takeMended_41 (by decide) ?_
          exact ih (i + 1) (by omega) M_35 _ _ _ hH (lv_sub hl [1, 2, 3, 4, 5, 0] rfl) (by exact e_35.1) (by exact rg_tm hwi e_35.2.1 e_35.2.2.1 (by rw [if_neg c_20, go])) (by exact rg_off_tr hoi e_35.2.2.2)
        · refine lv_iload_n hx hb dX5_takeMended_23 rfl (lv_at hl 3 rfl) ?_
          refine lv_goto (tgt := 33) hx hb dX5_takeMended_24 (by decide) ?_
          refine lv_aload hx hb dX5_takeMended_33 (lv_at hl 4 rfl) ?_
          refine rg_callWv C0 hH (As := [.int (w), .ref (B + 1)]) (rest := []) (o := v) (ci := 5) (k_X5_append l E B Mi v i w hv hcn hVi (by have := hvs.2.1; omega) (by unfold rg_has; rw [g1]; first | exact hw i hlt c_20 | (rw [go]; exact hvs.2.2.1 i hlt))) (rg_cw 2 C0.1.2.2.2.2 tw_m_X5_58 tw_i_X5_append tw_v_X5_append tw_n_X5 tw_c_X5_append rfl rfl hd_X5_append ⟨Nat.le_of_ble_eq_true rfl, Nat.le_of_ble_eq_true rfl⟩) rfl (rg_isV_lt hv) hv.2 (by decide) rfl hl.1 rfl (Nat.le_of_ble_eq_true rfl) dX5_takeMended_35 ⟨Nat.le_of_ble_eq_true rfl, Nat.le_of_ble_eq_true rfl⟩ (fun M_35 H locs e_35 hH => ?_)
          refine lv_iinc (v := nI (i + 1)) (lv' := [(5, .int (nI (i + 1))), (0, .ref (B + v)), (1, .ref (B + o)), (2, .int (x)), (3, .int (w)), (4, .ref (B + 1))]) hx hb dX5_takeMended_38 hl (k := 5) rfl (nI_1 _) (by decide) rfl (fun ls hl => ?_)
          refine lv_goto (tgt := 7) hx hb dX5_takeMended_41 (by decide) ?_
          exact ih (i + 1) (by omega) M_35 _ _ _ hH (lv_sub hl [1, 2, 3, 4, 5, 0] rfl) (by exact e_35.1) (by exact rg_tm hwi e_35.2.1 e_35.2.2.1 (by rw [if_pos c_20])) (by exact rg_off_tr hoi e_35.2.2.2)
  exact cut_7 (n + 1) 0 (by omega) (rg_J (rg_I (rg_I (rg_I (rg_I M v 1 0) v 2 0) v 3 (-1)) v 4 0) v 5 0) _ _ _ hH (lv_sub hl [1, 2, 3, 4, 5, 0] rfl) (by exact ⟨by simp [rg_I, rg_J]; rfl, by omega, fun k hk => absurd hk (by omega), by simp [rg_I, rg_J]; rfl, by simp [rg_I, rg_J]; rfl, by simp [rg_I, rg_J]; rfl, by simp [rg_I, rg_J]; rfl⟩) (by intro k hk; omega) (by exact fun c h1 h2 => ⟨by funext j; simp [rg_I, rg_J, h1], by funext j; simp [rg_I, rg_J, h1]⟩)

set_option maxHeartbeats 4000000 in
set_option maxRecDepth 100000 in
/-- Verse.take -/
theorem k_X5_take (l : Launch) (E : rg_Env) (B : Nat) (M : rg_Mem) (v : Nat) (o : Nat) (n : Nat) (hv : rg_isV v) (ho : rg_isV o) (hne : v ≠ o) (hn : rg_cn M) (hvs : rg_VS M o n) : Met l yX5_take (rg_w yX5_take cX5_take 3 none) ({ frames := 4, cells := 0, slots := 0, locals := 89 } : Room) (va_Pc [.ref (B + v), .ref (B + o), .ref (B + 1)] (rg_Pre E B 422 rg_R0 M)) (rg_Wv E B 422 rg_R0 (fun M1 => rg_VS M1 v n ∧ (∀ k, k < n → M1.1 (v + 1) k = M.1 (o + 1) k) ∧ rg_off M M1 v)) 0 0 (rg_A B) := by
  refine rg_ofW (by decide +kernel) rfl (Nat.le_of_ble_eq_true rfl) ?_
  intro p e s m args below meth c ls C0 hH hl hr hlocks hnm
  replace hl : lv_has ls 3 [(0, .ref (B + v)), (1, .ref (B + o)), (2, .ref (B + 1))] := hl
  have hx := C0.1.1
  have hb := C0.1.2.1
  generalize hH9 : s.heap = H at hH ⊢
  generalize hL9 : ([] : List Loc) = locs at hH ⊢
  clear hH9 hL9
  refine lv_aload_n hx hb dX5_take_0 rfl (lv_at hl 0 rfl) ?_
  refine lv_aload_n hx hb dX5_take_1 rfl (lv_at hl 1 rfl) ?_
  refine lv_iconst (v := (-1)) hx hb dX5_take_2 (by decide) ?_
  refine lv_iconst (v := (-1)) hx hb dX5_take_3 (by decide) ?_
  refine lv_aload_n hx hb dX5_take_4 rfl (lv_at hl 2 rfl) ?_
  refine rg_callWv C0 hH (As := [.ref (B + o), .int ((-1)), .int ((-1)), .ref (B + 1)]) (rest := []) (o := v) (ci := 5) (k_X5_takeMended l E B M v o n ((-1)) ((-1)) (by assumption) (by assumption) (by assumption) (by assumption) (by assumption) (fun k hk q => absurd q (rg_nIm (by have := hvs.2.1; omega)))) (rg_cw 4 C0.1.2.2.2.2 tw_m_X5_48 tw_i_X5_takeMended tw_v_X5_takeMended tw_n_X5 tw_c_X5_takeMended rfl rfl hd_X5_takeMended ⟨Nat.le_of_ble_eq_true rfl, Nat.le_of_ble_eq_true rfl⟩) rfl (rg_isV_lt hv) hv.2 (by decide) rfl hl.1 rfl (Nat.le_of_ble_eq_true rfl) dX5_take_5 ⟨Nat.le_of_ble_eq_true rfl, Nat.le_of_ble_eq_true rfl⟩ (fun M_5 H locs e_5 hH => ?_)
  exact rg_retWv C0 hH hr hlocks (by exact ⟨e_5.1, fun k hk => by rw [e_5.2.1 k hk, if_neg (rg_nIm (by have := hvs.2.1; omega))], e_5.2.2⟩) dX5_take_8
