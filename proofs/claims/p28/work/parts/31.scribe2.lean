set_option maxHeartbeats 4000000 in
set_option maxRecDepth 100000 in
/-- Scribe.wrongSeason -/
theorem k_X2_wrongSeason (l : Launch) (E : rg_Env) (B : Nat) (M : rg_Mem) (x : Int32) (j : Nat) (nl : Nat) (hmd : M.1 6 4 = nI nl) (hnl : nl ≤ 36) (hj : j ≤ nl) : Met l yX2_wrongSeason (rg_w yX2_wrongSeason cX2_wrongSeason 5 (some (FieldType.int))) ({ frames := 3, cells := 0, slots := 0, locals := 66 } : Room) (va_Pc [.ref (B + 89), .int (x), .int (nI j)] (rg_Pre E B 422 rg_R0 M)) (rg_Ri E B 422 rg_R0 (M) (fun r => r = rg_wrs M x j)) 0 0 (rg_A B) := by
  refine rg_ofW (by decide +kernel) rfl (Nat.le_of_ble_eq_true rfl) ?_
  intro p e s m args below meth c ls C0 hH hl hr hlocks hnm
  replace hl : lv_has ls 5 [(0, .ref (B + 89)), (1, .int (x)), (2, .int (nI j))] := hl
  have hx := C0.1.1
  have hb := C0.1.2.1
  generalize hH9 : s.heap = H at hH ⊢
  generalize hL9 : ([] : List Loc) = locs at hH ⊢
  clear hH9 hL9
  refine lv_aload_n hx hb dX2_wrongSeason_0 rfl (lv_at hl 0 rfl) ?_
  refine rg_gR C0 hH (o2 := 6) (ci := 2) (k := 1) (o := 89) rfl rfl inT_X2 (by decide) tw_f_X2_15 (by decide) rfl (by decide) rfl dX2_wrongSeason_1 ?_
  refine lv_iload_n hx hb dX2_wrongSeason_4 rfl (lv_at hl 2 rfl) ?_
  refine lv_iconst (v := 1) hx hb dX2_wrongSeason_5 (by decide) ?_
  refine lv_isub hx hb dX2_wrongSeason_6 ?_
  refine rg_callGi C0 hH (As := [.int ((nI j) - 1)]) (rest := []) (o := 6) (ci := 1) (k_X1_seasonAt l E B M ((nI j) - 1) (by exact rg_mn_of hmd hnl)) (rg_cw 1 C0.1.2.2.2.2 tw_m_X2_93 tw_i_X1_seasonAt tw_v_X1_seasonAt tw_n_X1 tw_c_X1_seasonAt rfl rfl hd_X1_seasonAt ⟨Nat.le_of_ble_eq_true rfl, Nat.le_of_ble_eq_true rfl⟩) rfl (by decide) rfl (by decide) rfl hl.1 rfl (Nat.le_of_ble_eq_true rfl) dX2_wrongSeason_7 ⟨Nat.le_of_ble_eq_true rfl, Nat.le_of_ble_eq_true rfl⟩ (fun H locs hH => ?_)
  refine rg_topi (y := rg_ca M j) (by exact rg_atd (d := 1) hmd hnl hj (by omega) (by omega) (rg_cs M) (-1)) ?_
  refine lv_istore_n (lv' := [(3, .int (rg_ca M j)), (0, .ref (B + 89)), (1, .int (x)), (2, .int (nI j))]) hx hb dX2_wrongSeason_10 rfl hl (by decide) rfl (fun ls hl => ?_)
  refine lv_aload_n hx hb dX2_wrongSeason_11 rfl (lv_at hl 1 rfl) ?_
  refine rg_gR C0 hH (o2 := 6) (ci := 2) (k := 1) (o := 89) rfl rfl inT_X2 (by decide) tw_f_X2_15 (by decide) rfl (by decide) rfl dX2_wrongSeason_12 ?_
  refine lv_iload_n hx hb dX2_wrongSeason_15 rfl (lv_at hl 3 rfl) ?_
  refine lv_iconst (v := 1) hx hb dX2_wrongSeason_16 (by decide) ?_
  refine lv_isub hx hb dX2_wrongSeason_17 ?_
  refine rg_callGi C0 hH (As := [.int ((nI j) - 1)]) (rest := []) (o := 6) (ci := 1) (k_X1_runAt l E B M ((nI j) - 1) (by exact rg_mn_of hmd hnl)) (rg_cw 1 C0.1.2.2.2.2 tw_m_X2_96 tw_i_X1_runAt tw_v_X1_runAt tw_n_X1 tw_c_X1_runAt rfl rfl hd_X1_runAt ⟨Nat.le_of_ble_eq_true rfl, Nat.le_of_ble_eq_true rfl⟩) rfl (by decide) rfl (by decide) rfl hl.1 rfl (Nat.le_of_ble_eq_true rfl) dX2_wrongSeason_18 ⟨Nat.le_of_ble_eq_true rfl, Nat.le_of_ble_eq_true rfl⟩ (fun H locs hH => ?_)
  refine rg_topi (y := rg_run M j) (by exact rg_ru_run hmd hnl hj) ?_
  refine lv_istore (lv' := [(4, .int (rg_run M j)), (3, .int (rg_ca M j)), (0, .ref (B + 89)), (1, .int (x)), (2, .int (nI j))]) hx hb dX2_wrongSeason_21 hl (by decide) rfl (fun ls hl => ?_)
  refine lv_iload_n hx hb dX2_wrongSeason_23 rfl (lv_at hl 1 rfl) ?_
  refine lv_iconst (v := (-1)) hx hb dX2_wrongSeason_24 (by decide) ?_
  refine lv_icmp_eq (tgt := 45) hx hb dX2_wrongSeason_25 (by decide) (fun c_25 => ?_) (fun c_25 => ?_)
  · refine lv_iload_n hx hb dX2_wrongSeason_45 rfl (lv_at hl 1 rfl) ?_
    refine lv_iconst (v := (-1)) hx hb dX2_wrongSeason_46 (by decide) ?_
    refine lv_icmp_eq (tgt := 67) hx hb dX2_wrongSeason_47 (by decide) (fun c_47 => ?_) (fun c_47 => ?_)
    · refine lv_iload_n hx hb dX2_wrongSeason_67 rfl (lv_at hl 3 rfl) ?_
      refine lv_iconst (v := (-1)) hx hb dX2_wrongSeason_68 (by decide) ?_
      refine lv_icmp_eq (tgt := 88) hx hb dX2_wrongSeason_69 (by decide) (fun c_69 => ?_) (fun c_69 => ?_)
      · refine lv_iconst (v := (-1)) hx hb dX2_wrongSeason_88 (by decide) ?_
        exact rg_retRi C0 hH hr hlocks rfl (by unfold rg_wrs; rw [if_neg (fun q => q.1 c_25), if_neg (fun q => q.1 c_47), if_neg (fun q => q.1 c_69)]) dX2_wrongSeason_89
      · refine lv_iload_n hx hb dX2_wrongSeason_72 rfl (lv_at hl 3 rfl) ?_
        refine lv_iload_n hx hb dX2_wrongSeason_73 rfl (lv_at hl 1 rfl) ?_
        refine lv_icmp_eq (tgt := 88) hx hb dX2_wrongSeason_74 (by decide) (fun c_74 => ?_) (fun c_74 => ?_)
        · refine lv_iconst (v := (-1)) hx hb dX2_wrongSeason_88 (by decide) ?_
          exact rg_retRi C0 hH hr hlocks rfl (by unfold rg_wrs; rw [if_neg (fun q => q.1 c_25), if_neg (fun q => q.1 c_47), if_neg (fun q => q.2.1 c_74)]) dX2_wrongSeason_89
        · refine lv_aload_n hx hb dX2_wrongSeason_77 rfl (lv_at hl 2 rfl) ?_
          refine lv_iload_n hx hb dX2_wrongSeason_78 rfl (lv_at hl 3 rfl) ?_
          refine lv_iload_n hx hb dX2_wrongSeason_79 rfl (lv_at hl 4 rfl) ?_
          refine rg_callGi C0 hH (As := [.int (x), .int (nI j)]) (rest := []) (o := 89) (ci := 2) (k_X2_isLately l E B M x j nl (by assumption) (by assumption) (by assumption)) (rg_cw 2 C0.1.2.2.2.2 tw_m_X2_105 tw_i_X2_isLately tw_v_X2_isLately tw_n_X2 tw_c_X2_isLately rfl rfl hd_X2_isLately ⟨Nat.le_of_ble_eq_true rfl, Nat.le_of_ble_eq_true rfl⟩) rfl (by decide) rfl (by decide) rfl hl.1 rfl (Nat.le_of_ble_eq_true rfl) dX2_wrongSeason_80 ⟨Nat.le_of_ble_eq_true rfl, Nat.le_of_ble_eq_true rfl⟩ (fun H locs hH => ?_)
          refine lv_if_eq (tgt := 88) hx hb dX2_wrongSeason_83 (by decide) (fun c_83 => ?_) (fun c_83 => ?_)
          · refine lv_iconst (v := (-1)) hx hb dX2_wrongSeason_88 (by decide) ?_
            exact rg_retRi C0 hH hr hlocks rfl (by unfold rg_wrs; rw [if_neg (fun q => q.1 c_25), if_neg (fun q => q.1 c_47), if_neg (fun q => (rg_b_eq.mp c_83) q.2.2)]) dX2_wrongSeason_89
          · refine lv_iload_n hx hb dX2_wrongSeason_86 rfl (lv_at hl 3 rfl) ?_
            exact rg_retRi C0 hH hr hlocks rfl (by unfold rg_wrs; rw [if_neg (fun q => q.1 c_25), if_neg (fun q => q.1 c_47), if_pos ⟨c_69, c_74, rg_b_ne.mp c_83⟩]) dX2_wrongSeason_87
    · refine lv_iload_n hx hb dX2_wrongSeason_50 rfl (lv_at hl 3 rfl) ?_
      refine lv_iload_n hx hb dX2_wrongSeason_51 rfl (lv_at hl 1 rfl) ?_
      refine lv_icmp_ne (tgt := 67) hx hb dX2_wrongSeason_52 (by decide) (fun c_52 => ?_) (fun c_52 => ?_)
      · refine lv_iload_n hx hb dX2_wrongSeason_67 rfl (lv_at hl 3 rfl) ?_
        refine lv_iconst (v := (-1)) hx hb dX2_wrongSeason_68 (by decide) ?_
        refine lv_icmp_eq (tgt := 88) hx hb dX2_wrongSeason_69 (by decide) (fun c_69 => ?_) (fun c_69 => ?_)
        · refine lv_iconst (v := (-1)) hx hb dX2_wrongSeason_88 (by decide) ?_
          exact rg_retRi C0 hH hr hlocks rfl (by unfold rg_wrs; rw [if_neg (fun q => q.1 c_25), if_neg (fun q => c_52 q.2.1), if_neg (fun q => q.1 c_69)]) dX2_wrongSeason_89
        · refine lv_iload_n hx hb dX2_wrongSeason_72 rfl (lv_at hl 3 rfl) ?_
          refine lv_iload_n hx hb dX2_wrongSeason_73 rfl (lv_at hl 1 rfl) ?_
          refine lv_icmp_eq (tgt := 88) hx hb dX2_wrongSeason_74 (by decide) (fun c_74 => ?_) (fun c_74 => ?_)
          · refine lv_iconst (v := (-1)) hx hb dX2_wrongSeason_88 (by decide) ?_
            exact rg_retRi C0 hH hr hlocks rfl (by unfold rg_wrs; rw [if_neg (fun q => q.1 c_25), if_neg (fun q => c_52 q.2.1), if_neg (fun q => q.2.1 c_74)]) dX2_wrongSeason_89
          · refine lv_aload_n hx hb dX2_wrongSeason_77 rfl (lv_at hl 2 rfl) ?_
            refine lv_iload_n hx hb dX2_wrongSeason_78 rfl (lv_at hl 3 rfl) ?_
            refine lv_iload_n hx hb dX2_wrongSeason_79 rfl (lv_at hl 4 rfl) ?_
            refine rg_callGi C0 hH (As := [.int (x), .int (nI j)]) (rest := []) (o := 89) (ci := 2) (k_X2_isLately l E B M x j nl (by assumption) (by assumption) (by assumption)) (rg_cw 2 C0.1.2.2.2.2 tw_m_X2_105 tw_i_X2_isLately tw_v_X2_isLately tw_n_X2 tw_c_X2_isLately rfl rfl hd_X2_isLately ⟨Nat.le_of_ble_eq_true rfl, Nat.le_of_ble_eq_true rfl⟩) rfl (by decide) rfl (by decide) rfl hl.1 rfl (Nat.le_of_ble_eq_true rfl) dX2_wrongSeason_80 ⟨Nat.le_of_ble_eq_true rfl, Nat.le_of_ble_eq_true rfl⟩ (fun H locs hH => ?_)
            refine lv_if_eq (tgt := 88) hx hb dX2_wrongSeason_83 (by decide) (fun c_83 => ?_) (fun c_83 => ?_)
            · refine lv_iconst (v := (-1)) hx hb dX2_wrongSeason_88 (by decide) ?_
              exact rg_retRi C0 hH hr hlocks rfl (by unfold rg_wrs; rw [if_neg (fun q => q.1 c_25), if_neg (fun q => c_52 q.2.1), if_neg (fun q => (rg_b_eq.mp c_83) q.2.2)]) dX2_wrongSeason_89
            · refine lv_iload_n hx hb dX2_wrongSeason_86 rfl (lv_at hl 3 rfl) ?_
              exact rg_retRi C0 hH hr hlocks rfl (by unfold rg_wrs; rw [if_neg (fun q => q.1 c_25), if_neg (fun q => c_52 q.2.1), if_pos ⟨c_69, c_74, rg_b_ne.mp c_83⟩]) dX2_wrongSeason_87
      · refine lv_iload hx hb dX2_wrongSeason_55 (lv_at hl 0 rfl) ?_
        refine lv_aload_n hx hb dX2_wrongSeason_57 rfl (lv_at hl 2 rfl) ?_
        refine lv_iload_n hx hb dX2_wrongSeason_58 rfl (lv_at hl 1 rfl) ?_
        refine rg_callGi C0 hH (As := [.int (rg_ca M j)]) (rest := [.int (rg_run M j)]) (o := 89) (ci := 2) (k_X2_mostRun l E B M (rg_ca M j)) (rg_cw 1 C0.1.2.2.2.2 tw_m_X2_102 tw_i_X2_mostRun tw_v_X2_mostRun tw_n_X2 tw_c_X2_mostRun rfl rfl hd_X2_mostRun ⟨Nat.le_of_ble_eq_true rfl, Nat.le_of_ble_eq_true rfl⟩) rfl (by decide) rfl (by decide) rfl hl.1 rfl (Nat.le_of_ble_eq_true rfl) dX2_wrongSeason_59 ⟨Nat.le_of_ble_eq_true rfl, Nat.le_of_ble_eq_true rfl⟩ (fun H locs hH => ?_)
        refine lv_icmp_lt (tgt := 67) hx hb dX2_wrongSeason_62 (by decide) (fun c_62 => ?_) (fun c_62 => ?_)
        · refine lv_iload_n hx hb dX2_wrongSeason_67 rfl (lv_at hl 3 rfl) ?_
          refine lv_iconst (v := (-1)) hx hb dX2_wrongSeason_68 (by decide) ?_
          refine lv_icmp_eq (tgt := 88) hx hb dX2_wrongSeason_69 (by decide) (fun c_69 => ?_) (fun c_69 => ?_)
          · refine lv_iconst (v := (-1)) hx hb dX2_wrongSeason_88 (by decide) ?_
            exact rg_retRi C0 hH hr hlocks rfl (by unfold rg_wrs; rw [if_neg (fun q => q.1 c_25), if_neg (fun q => q.2.2 c_62), if_neg (fun q => q.1 c_69)]) dX2_wrongSeason_89
          · refine lv_iload_n hx hb dX2_wrongSeason_72 rfl (lv_at hl 3 rfl) ?_
            refine lv_iload_n hx hb dX2_wrongSeason_73 rfl (lv_at hl 1 rfl) ?_
            refine lv_icmp_eq (tgt := 88) hx hb dX2_wrongSeason_74 (by decide) (fun c_74 => ?_) (fun c_74 => ?_)
            · refine lv_iconst (v := (-1)) hx hb dX2_wrongSeason_88 (by decide) ?_
              exact rg_retRi C0 hH hr hlocks rfl (by unfold rg_wrs; rw [if_neg (fun q => q.1 c_25), if_neg (fun q => q.2.2 c_62), if_neg (fun q => q.2.1 c_74)]) dX2_wrongSeason_89
            · refine lv_aload_n hx hb dX2_wrongSeason_77 rfl (lv_at hl 2 rfl) ?_
              refine lv_iload_n hx hb dX2_wrongSeason_78 rfl (lv_at hl 3 rfl) ?_
              refine lv_iload_n hx hb dX2_wrongSeason_79 rfl (lv_at hl 4 rfl) ?_
              refine rg_callGi C0 hH (As := [.int (x), .int (nI j)]) (rest := []) (o := 89) (ci := 2) (k_X2_isLately l E B M x j nl (by assumption) (by assumption) (by assumption)) (rg_cw 2 C0.1.2.2.2.2 tw_m_X2_105 tw_i_X2_isLately tw_v_X2_isLately tw_n_X2 tw_c_X2_isLately rfl rfl hd_X2_isLately ⟨Nat.le_of_ble_eq_true rfl, Nat.le_of_ble_eq_true rfl⟩) rfl (by decide) rfl (by decide) rfl hl.1 rfl (Nat.le_of_ble_eq_true rfl) dX2_wrongSeason_80 ⟨Nat.le_of_ble_eq_true rfl, Nat.le_of_ble_eq_true rfl⟩ (fun H locs hH => ?_)
              refine lv_if_eq (tgt := 88) hx hb dX2_wrongSeason_83 (by decide) (fun c_83 => ?_) (fun c_83 => ?_)
              · refine lv_iconst (v := (-1)) hx hb dX2_wrongSeason_88 (by decide) ?_
                exact rg_retRi C0 hH hr hlocks rfl (by unfold rg_wrs; rw [if_neg (fun q => q.1 c_25), if_neg (fun q => q.2.2 c_62), if_neg (fun q => (rg_b_eq.mp c_83) q.2.2)]) dX2_wrongSeason_89
              · refine lv_iload_n hx hb dX2_wrongSeason_86 rfl (lv_at hl 3 rfl) ?_
                exact rg_retRi C0 hH hr hlocks rfl (by unfold rg_wrs; rw [if_neg (fun q => q.1 c_25), if_neg (fun q => q.2.2 c_62), if_pos ⟨c_69, c_74, rg_b_ne.mp c_83⟩]) dX2_wrongSeason_87
        · refine lv_iload_n hx hb dX2_wrongSeason_65 rfl (lv_at hl 1 rfl) ?_
          exact rg_retRi C0 hH hr hlocks rfl (by unfold rg_wrs; rw [if_neg (fun q => q.1 c_25), if_pos ⟨c_47, c_52, c_62⟩]) dX2_wrongSeason_66
  · refine lv_iload_n hx hb dX2_wrongSeason_28 rfl (lv_at hl 3 rfl) ?_
    refine lv_iload_n hx hb dX2_wrongSeason_29 rfl (lv_at hl 1 rfl) ?_
    refine lv_icmp_eq (tgt := 45) hx hb dX2_wrongSeason_30 (by decide) (fun c_30 => ?_) (fun c_30 => ?_)
    · refine lv_iload_n hx hb dX2_wrongSeason_45 rfl (lv_at hl 1 rfl) ?_
      refine lv_iconst (v := (-1)) hx hb dX2_wrongSeason_46 (by decide) ?_
      refine lv_icmp_eq (tgt := 67) hx hb dX2_wrongSeason_47 (by decide) (fun c_47 => ?_) (fun c_47 => ?_)
      · refine lv_iload_n hx hb dX2_wrongSeason_67 rfl (lv_at hl 3 rfl) ?_
        refine lv_iconst (v := (-1)) hx hb dX2_wrongSeason_68 (by decide) ?_
        refine lv_icmp_eq (tgt := 88) hx hb dX2_wrongSeason_69 (by decide) (fun c_69 => ?_) (fun c_69 => ?_)
        · refine lv_iconst (v := (-1)) hx hb dX2_wrongSeason_88 (by decide) ?_
          exact rg_retRi C0 hH hr hlocks rfl (by unfold rg_wrs; rw [if_neg (fun q => q.2.1 c_30), if_neg (fun q => q.1 c_47), if_neg (fun q => q.1 c_69)]) dX2_wrongSeason_89
        · refine lv_iload_n hx hb dX2_wrongSeason_72 rfl (lv_at hl 3 rfl) ?_
          refine lv_iload_n hx hb dX2_wrongSeason_73 rfl (lv_at hl 1 rfl) ?_
          refine lv_icmp_eq (tgt := 88) hx hb dX2_wrongSeason_74 (by decide) (fun c_74 => ?_) (fun c_74 => ?_)
          · refine lv_iconst (v := (-1)) hx hb dX2_wrongSeason_88 (by decide) ?_
            exact rg_retRi C0 hH hr hlocks rfl (by unfold rg_wrs; rw [if_neg (fun q => q.2.1 c_30), if_neg (fun q => q.1 c_47), if_neg (fun q => q.2.1 c_74)]) dX2_wrongSeason_89
          · refine lv_aload_n hx hb dX2_wrongSeason_77 rfl (lv_at hl 2 rfl) ?_
            refine lv_iload_n hx hb dX2_wrongSeason_78 rfl (lv_at hl 3 rfl) ?_
            refine lv_iload_n hx hb dX2_wrongSeason_79 rfl (lv_at hl 4 rfl) ?_
            refine rg_callGi C0 hH (As := [.int (x), .int (nI j)]) (rest := []) (o := 89) (ci := 2) (k_X2_isLately l E B M x j nl (by assumption) (by assumption) (by assumption)) (rg_cw 2 C0.1.2.2.2.2 tw_m_X2_105 tw_i_X2_isLately tw_v_X2_isLately tw_n_X2 tw_c_X2_isLately rfl rfl hd_X2_isLately ⟨Nat.le_of_ble_eq_true rfl, Nat.le_of_ble_eq_true rfl⟩) rfl (by decide) rfl (by decide) rfl hl.1 rfl (Nat.le_of_ble_eq_true rfl) dX2_wrongSeason_80 ⟨Nat.le_of_ble_eq_true rfl, Nat.le_of_ble_eq_true rfl⟩ (fun H locs hH => ?_)
            refine lv_if_eq (tgt := 88) hx hb dX2_wrongSeason_83 (by decide) (fun c_83 => ?_) (fun c_83 => ?_)
            · refine lv_iconst (v := (-1)) hx hb dX2_wrongSeason_88 (by decide) ?_
              exact rg_retRi C0 hH hr hlocks rfl (by unfold rg_wrs; rw [if_neg (fun q => q.2.1 c_30), if_neg (fun q => q.1 c_47), if_neg (fun q => (rg_b_eq.mp c_83) q.2.2)]) dX2_wrongSeason_89
            · refine lv_iload_n hx hb dX2_wrongSeason_86 rfl (lv_at hl 3 rfl) ?_
              exact rg_retRi C0 hH hr hlocks rfl (by unfold rg_wrs; rw [if_neg (fun q => q.2.1 c_30), if_neg (fun q => q.1 c_47), if_pos ⟨c_69, c_74, rg_b_ne.mp c_83⟩]) dX2_wrongSeason_87
      · refine lv_iload_n hx hb dX2_wrongSeason_50 rfl (lv_at hl 3 rfl) ?_
        refine lv_iload_n hx hb dX2_wrongSeason_51 rfl (lv_at hl 1 rfl) ?_
        refine lv_icmp_ne (tgt := 67) hx hb dX2_wrongSeason_52 (by decide) (fun c_52 => ?_) (fun c_52 => ?_)
        · refine lv_iload_n hx hb dX2_wrongSeason_67 rfl (lv_at hl 3 rfl) ?_
          refine lv_iconst (v := (-1)) hx hb dX2_wrongSeason_68 (by decide) ?_
          refine lv_icmp_eq (tgt := 88) hx hb dX2_wrongSeason_69 (by decide) (fun c_69 => ?_) (fun c_69 => ?_)
          · refine lv_iconst (v := (-1)) hx hb dX2_wrongSeason_88 (by decide) ?_
            exact rg_retRi C0 hH hr hlocks rfl (by unfold rg_wrs; rw [if_neg (fun q => q.2.1 c_30), if_neg (fun q => c_52 q.2.1), if_neg (fun q => q.1 c_69)]) dX2_wrongSeason_89
          · refine lv_iload_n hx hb dX2_wrongSeason_72 rfl (lv_at hl 3 rfl) ?_
            refine lv_iload_n hx hb dX2_wrongSeason_73 rfl (lv_at hl 1 rfl) ?_
            refine lv_icmp_eq (tgt := 88) hx hb dX2_wrongSeason_74 (by decide) (fun c_74 => ?_) (fun c_74 => ?_)
            · refine lv_iconst (v := (-1)) hx hb dX2_wrongSeason_88 (by decide) ?_
              exact rg_retRi C0 hH hr hlocks rfl (by unfold rg_wrs; rw [if_neg (fun q => q.2.1 c_30), if_neg (fun q => c_52 q.2.1), if_neg (fun q => q.2.1 c_74)]) dX2_wrongSeason_89
            · refine lv_aload_n hx hb dX2_wrongSeason_77 rfl (lv_at hl 2 rfl) ?_
              refine lv_iload_n hx hb dX2_wrongSeason_78 rfl (lv_at hl 3 rfl) ?_
              refine lv_iload_n hx hb dX2_wrongSeason_79 rfl (lv_at hl 4 rfl) ?_
              refine rg_callGi C0 hH (As := [.int (x), .int (nI j)]) (rest := []) (o := 89) (ci := 2) (k_X2_isLately l E B M x j nl (by assumption) (by assumption) (by assumption)) (rg_cw 2 C0.1.2.2.2.2 tw_m_X2_105 tw_i_X2_isLately tw_v_X2_isLately tw_n_X2 tw_c_X2_isLately rfl rfl hd_X2_isLately ⟨Nat.le_of_ble_eq_true rfl, Nat.le_of_ble_eq_true rfl⟩) rfl (by decide) rfl (by decide) rfl hl.1 rfl (Nat.le_of_ble_eq_true rfl) dX2_wrongSeason_80 ⟨Nat.le_of_ble_eq_true rfl, Nat.le_of_ble_eq_true rfl⟩ (fun H locs hH => ?_)
              refine lv_if_eq (tgt := 88) hx hb dX2_wrongSeason_83 (by decide) (fun c_83 => ?_) (fun c_83 => ?_)
              · refine lv_iconst (v := (-1)) hx hb dX2_wrongSeason_88 (by decide) ?_
                exact rg_retRi C0 hH hr hlocks rfl (by unfold rg_wrs; rw [if_neg (fun q => q.2.1 c_30), if_neg (fun q => c_52 q.2.1), if_neg (fun q => (rg_b_eq.mp c_83) q.2.2)]) dX2_wrongSeason_89
              · refine lv_iload_n hx hb dX2_wrongSeason_86 rfl (lv_at hl 3 rfl) ?_
                exact rg_retRi C0 hH hr hlocks rfl (by unfold rg_wrs; rw [if_neg (fun q => q.2.1 c_30), if_neg (fun q => c_52 q.2.1), if_pos ⟨c_69, c_74, rg_b_ne.mp c_83⟩]) dX2_wrongSeason_87
        · refine lv_iload hx hb dX2_wrongSeason_55 (lv_at hl 0 rfl) ?_
          refine lv_aload_n hx hb dX2_wrongSeason_57 rfl (lv_at hl 2 rfl) ?_
          refine lv_iload_n hx hb dX2_wrongSeason_58 rfl (lv_at hl 1 rfl) ?_
          refine rg_callGi C0 hH (As := [.int (rg_ca M j)]) (rest := [.int (rg_run M j)]) (o := 89) (ci := 2) (k_X2_mostRun l E B M (rg_ca M j)) (rg_cw 1 C0.1.2.2.2.2 tw_m_X2_102 tw_i_X2_mostRun tw_v_X2_mostRun tw_n_X2 tw_c_X2_mostRun rfl rfl hd_X2_mostRun ⟨Nat.le_of_ble_eq_true rfl, Nat.le_of_ble_eq_true rfl⟩) rfl (by decide) rfl (by decide) rfl hl.1 rfl (Nat.le_of_ble_eq_true rfl) dX2_wrongSeason_59 ⟨Nat.le_of_ble_eq_true rfl, Nat.le_of_ble_eq_true rfl⟩ (fun H locs hH => ?_)
          refine lv_icmp_lt (tgt := 67) hx hb dX2_wrongSeason_62 (by decide) (fun c_62 => ?_) (fun c_62 => ?_)
          · refine lv_iload_n hx hb dX2_wrongSeason_67 rfl (lv_at hl 3 rfl) ?_
            refine lv_iconst (v := (-1)) hx hb dX2_wrongSeason_68 (by decide) ?_
            refine lv_icmp_eq (tgt := 88) hx hb dX2_wrongSeason_69 (by decide) (fun c_69 => ?_) (fun c_69 => ?_)
            · refine lv_iconst (v := (-1)) hx hb dX2_wrongSeason_88 (by decide) ?_
              exact rg_retRi C0 hH hr hlocks rfl (by unfold rg_wrs; rw [if_neg (fun q => q.2.1 c_30), if_neg (fun q => q.2.2 c_62), if_neg (fun q => q.1 c_69)]) dX2_wrongSeason_89
            · refine lv_iload_n hx hb dX2_wrongSeason_72 rfl (lv_at hl 3 rfl) ?_
              refine lv_iload_n hx hb dX2_wrongSeason_73 rfl (lv_at hl 1 rfl) ?_
              refine lv_icmp_eq (tgt := 88) hx hb dX2_wrongSeason_74 (by decide) (fun c_74 => ?_) (fun c_74 => ?_)
              · refine lv_iconst (v := (-1)) hx hb dX2_wrongSeason_88 (by decide) ?_
                exact rg_retRi C0 hH hr hlocks rfl (by unfold rg_wrs; rw [if_neg (fun q => q.2.1 c_30), if_neg (fun q => q.2.2 c_62), if_neg (fun q => q.2.1 c_74)]) dX2_wrongSeason_89
              · refine lv_aload_n hx hb dX2_wrongSeason_77 rfl (lv_at hl 2 rfl) ?_
                refine lv_iload_n hx hb dX2_wrongSeason_78 rfl (lv_at hl 3 rfl) ?_
                refine lv_iload_n hx hb dX2_wrongSeason_79 rfl (lv_at hl 4 rfl) ?_
                refine rg_callGi C0 hH (As := [.int (x), .int (nI j)]) (rest := []) (o := 89) (ci := 2) (k_X2_isLately l E B M x j nl (by assumption) (by assumption) (by assumption)) (rg_cw 2 C0.1.2.2.2.2 tw_m_X2_105 tw_i_X2_isLately tw_v_X2_isLately tw_n_X2 tw_c_X2_isLately rfl rfl hd_X2_isLately ⟨Nat.le_of_ble_eq_true rfl, Nat.le_of_ble_eq_true rfl⟩) rfl (by decide) rfl (by decide) rfl hl.1 rfl (Nat.le_of_ble_eq_true rfl) dX2_wrongSeason_80 ⟨Nat.le_of_ble_eq_true rfl, Nat.le_of_ble_eq_true rfl⟩ (fun H locs hH => ?_)
                refine lv_if_eq (tgt := 88) hx hb dX2_wrongSeason_83 (by decide) (fun c_83 => ?_) (fun c_83 => ?_)
                · refine lv_iconst (v := (-1)) hx hb dX2_wrongSeason_88 (by decide) ?_
                  exact rg_retRi C0 hH hr hlocks rfl (by unfold rg_wrs; rw [if_neg (fun q => q.2.1 c_30), if_neg (fun q => q.2.2 c_62), if_neg (fun q => (rg_b_eq.mp c_83) q.2.2)]) dX2_wrongSeason_89
                · refine lv_iload_n hx hb dX2_wrongSeason_86 rfl (lv_at hl 3 rfl) ?_
                  exact rg_retRi C0 hH hr hlocks rfl (by unfold rg_wrs; rw [if_neg (fun q => q.2.1 c_30), if_neg (fun q => q.2.2 c_62), if_pos ⟨c_69, c_74, rg_b_ne.mp c_83⟩]) dX2_wrongSeason_87
          · refine lv_iload_n hx hb dX2_wrongSeason_65 rfl (lv_at hl 1 rfl) ?_
            exact rg_retRi C0 hH hr hlocks rfl (by unfold rg_wrs; rw [if_neg (fun q => q.2.1 c_30), if_pos ⟨c_47, c_52, c_62⟩]) dX2_wrongSeason_66
    · refine lv_iload hx hb dX2_wrongSeason_33 (lv_at hl 0 rfl) ?_
      refine lv_aload_n hx hb dX2_wrongSeason_35 rfl (lv_at hl 2 rfl) ?_
      refine lv_iload_n hx hb dX2_wrongSeason_36 rfl (lv_at hl 1 rfl) ?_
      refine rg_callGi C0 hH (As := [.int (rg_ca M j)]) (rest := [.int (rg_run M j)]) (o := 89) (ci := 2) (k_X2_leastRun l E B M (rg_ca M j)) (rg_cw 1 C0.1.2.2.2.2 tw_m_X2_99 tw_i_X2_leastRun tw_v_X2_leastRun tw_n_X2 tw_c_X2_leastRun rfl rfl hd_X2_leastRun ⟨Nat.le_of_ble_eq_true rfl, Nat.le_of_ble_eq_true rfl⟩) rfl (by decide) rfl (by decide) rfl hl.1 rfl (Nat.le_of_ble_eq_true rfl) dX2_wrongSeason_37 ⟨Nat.le_of_ble_eq_true rfl, Nat.le_of_ble_eq_true rfl⟩ (fun H locs hH => ?_)
      refine lv_icmp_ge (tgt := 45) hx hb dX2_wrongSeason_40 (by decide) (fun c_40 => ?_) (fun c_40 => ?_)
      · refine lv_iload_n hx hb dX2_wrongSeason_45 rfl (lv_at hl 1 rfl) ?_
        refine lv_iconst (v := (-1)) hx hb dX2_wrongSeason_46 (by decide) ?_
        refine lv_icmp_eq (tgt := 67) hx hb dX2_wrongSeason_47 (by decide) (fun c_47 => ?_) (fun c_47 => ?_)
        · refine lv_iload_n hx hb dX2_wrongSeason_67 rfl (lv_at hl 3 rfl) ?_
          refine lv_iconst (v := (-1)) hx hb dX2_wrongSeason_68 (by decide) ?_
          refine lv_icmp_eq (tgt := 88) hx hb dX2_wrongSeason_69 (by decide) (fun c_69 => ?_) (fun c_69 => ?_)
          · refine lv_iconst (v := (-1)) hx hb dX2_wrongSeason_88 (by decide) ?_
            exact rg_retRi C0 hH hr hlocks rfl (by unfold rg_wrs; rw [if_neg (fun q => q.2.2 c_40), if_neg (fun q => q.1 c_47), if_neg (fun q => q.1 c_69)]) dX2_wrongSeason_89
          · refine lv_iload_n hx hb dX2_wrongSeason_72 rfl (lv_at hl 3 rfl) ?_
            refine lv_iload_n hx hb dX2_wrongSeason_73 rfl (lv_at hl 1 rfl) ?_
            refine lv_icmp_eq (tgt := 88) hx hb dX2_wrongSeason_74 (by decide) (fun c_74 => ?_) (fun c_74 => ?_)
            · refine lv_iconst (v := (-1)) hx hb dX2_wrongSeason_88 (by decide) ?_
              exact rg_retRi C0 hH hr hlocks rfl (by unfold rg_wrs; rw [if_neg (fun q => q.2.2 c_40), if_neg (fun q => q.1 c_47), if_neg (fun q => q.2.1 c_74)]) dX2_wrongSeason_89
            · refine lv_aload_n hx hb dX2_wrongSeason_77 rfl (lv_at hl 2 rfl) ?_
              refine lv_iload_n hx hb dX2_wrongSeason_78 rfl (lv_at hl 3 rfl) ?_
              refine lv_iload_n hx hb dX2_wrongSeason_79 rfl (lv_at hl 4 rfl) ?_
              refine rg_callGi C0 hH (As := [.int (x), .int (nI j)]) (rest := []) (o := 89) (ci := 2) (k_X2_isLately l E B M x j nl (by assumption) (by assumption) (by assumption)) (rg_cw 2 C0.1.2.2.2.2 tw_m_X2_105 tw_i_X2_isLately tw_v_X2_isLately tw_n_X2 tw_c_X2_isLately rfl rfl hd_X2_isLately ⟨Nat.le_of_ble_eq_true rfl, Nat.le_of_ble_eq_true rfl⟩) rfl (by decide) rfl (by decide) rfl hl.1 rfl (Nat.le_of_ble_eq_true rfl) dX2_wrongSeason_80 ⟨Nat.le_of_ble_eq_true rfl, Nat.le_of_ble_eq_true rfl⟩ (fun H locs hH => ?_)
              refine lv_if_eq (tgt := 88) hx hb dX2_wrongSeason_83 (by decide) (fun c_83 => ?_) (fun c_83 => ?_)
              · refine lv_iconst (v := (-1)) hx hb dX2_wrongSeason_88 (by decide) ?_
                exact rg_retRi C0 hH hr hlocks rfl (by unfold rg_wrs; rw [if_neg (fun q => q.2.2 c_40), if_neg (fun q => q.1 c_47), if_neg (fun q => (rg_b_eq.mp c_83) q.2.2)]) dX2_wrongSeason_89
              · refine lv_iload_n hx hb dX2_wrongSeason_86 rfl (lv_at hl 3 rfl) ?_
                exact rg_retRi C0 hH hr hlocks rfl (by unfold rg_wrs; rw [if_neg (fun q => q.2.2 c_40), if_neg (fun q => q.1 c_47), if_pos ⟨c_69, c_74, rg_b_ne.mp c_83⟩]) dX2_wrongSeason_87
        · refine lv_iload_n hx hb dX2_wrongSeason_50 rfl (lv_at hl 3 rfl) ?_
          refine lv_iload_n hx hb dX2_wrongSeason_51 rfl (lv_at hl 1 rfl) ?_
          refine lv_icmp_ne (tgt := 67) hx hb dX2_wrongSeason_52 (by decide) (fun c_52 => ?_) (fun c_52 => ?_)
          · refine lv_iload_n hx hb dX2_wrongSeason_67 rfl (lv_at hl 3 rfl) ?_
            refine lv_iconst (v := (-1)) hx hb dX2_wrongSeason_68 (by decide) ?_
            refine lv_icmp_eq (tgt := 88) hx hb dX2_wrongSeason_69 (by decide) (fun c_69 => ?_) (fun c_69 => ?_)
            · refine lv_iconst (v := (-1)) hx hb dX2_wrongSeason_88 (by decide) ?_
              exact rg_retRi C0 hH hr hlocks rfl (by unfold rg_wrs; rw [if_neg (fun q => q.2.2 c_40), if_neg (fun q => c_52 q.2.1), if_neg (fun q => q.1 c_69)]) dX2_wrongSeason_89
            · refine lv_iload_n hx hb dX2_wrongSeason_72 rfl (lv_at hl 3 rfl) ?_
              refine lv_iload_n hx hb dX2_wrongSeason_73 rfl (lv_at hl 1 rfl) ?_
              refine lv_icmp_eq (tgt := 88) hx hb dX2_wrongSeason_74 (by decide) (fun c_74 => ?_) (fun c_74 => ?_)
              · refine lv_iconst (v := (-1)) hx hb dX2_wrongSeason_88 (by decide) ?_
                exact rg_retRi C0 hH hr hlocks rfl (by unfold rg_wrs; rw [if_neg (fun q => q.2.2 c_40), if_neg (fun q => c_52 q.2.1), if_neg (fun q => q.2.1 c_74)]) dX2_wrongSeason_89
              · refine lv_aload_n hx hb dX2_wrongSeason_77 rfl (lv_at hl 2 rfl) ?_
                refine lv_iload_n hx hb dX2_wrongSeason_78 rfl (lv_at hl 3 rfl) ?_
                refine lv_iload_n hx hb dX2_wrongSeason_79 rfl (lv_at hl 4 rfl) ?_
                refine rg_callGi C0 hH (As := [.int (x), .int (nI j)]) (rest := []) (o := 89) (ci := 2) (k_X2_isLately l E B M x j nl (by assumption) (by assumption) (by assumption)) (rg_cw 2 C0.1.2.2.2.2 tw_m_X2_105 tw_i_X2_isLately tw_v_X2_isLately tw_n_X2 tw_c_X2_isLately rfl rfl hd_X2_isLately ⟨Nat.le_of_ble_eq_true rfl, Nat.le_of_ble_eq_true rfl⟩) rfl (by decide) rfl (by decide) rfl hl.1 rfl (Nat.le_of_ble_eq_true rfl) dX2_wrongSeason_80 ⟨Nat.le_of_ble_eq_true rfl, Nat.le_of_ble_eq_true rfl⟩ (fun H locs hH => ?_)
                refine lv_if_eq (tgt := 88) hx hb dX2_wrongSeason_83 (by decide) (fun c_83 => ?_) (fun c_83 => ?_)
                · refine lv_iconst (v := (-1)) hx hb dX2_wrongSeason_88 (by decide) ?_
                  exact rg_retRi C0 hH hr hlocks rfl (by unfold rg_wrs; rw [if_neg (fun q => q.2.2 c_40), if_neg (fun q => c_52 q.2.1), if_neg (fun q => (rg_b_eq.mp c_83) q.2.2)]) dX2_wrongSeason_89
                · refine lv_iload_n hx hb dX2_wrongSeason_86 rfl (lv_at hl 3 rfl) ?_
                  exact rg_retRi C0 hH hr hlocks rfl (by unfold rg_wrs; rw [if_neg (fun q => q.2.2 c_40), if_neg (fun q => c_52 q.2.1), if_pos ⟨c_69, c_74, rg_b_ne.mp c_83⟩]) dX2_wrongSeason_87
          · refine lv_iload hx hb dX2_wrongSeason_55 (lv_at hl 0 rfl) ?_
            refine lv_aload_n hx hb dX2_wrongSeason_57 rfl (lv_at hl 2 rfl) ?_
            refine lv_iload_n hx hb dX2_wrongSeason_58 rfl (lv_at hl 1 rfl) ?_
            refine rg_callGi C0 hH (As := [.int (rg_ca M j)]) (rest := [.int (rg_run M j)]) (o := 89) (ci := 2) (k_X2_mostRun l E B M (rg_ca M j)) (rg_cw 1 C0.1.2.2.2.2 tw_m_X2_102 tw_i_X2_mostRun tw_v_X2_mostRun tw_n_X2 tw_c_X2_mostRun rfl rfl hd_X2_mostRun ⟨Nat.le_of_ble_eq_true rfl, Nat.le_of_ble_eq_true rfl⟩) rfl (by decide) rfl (by decide) rfl hl.1 rfl (Nat.le_of_ble_eq_true rfl) dX2_wrongSeason_59 ⟨Nat.le_of_ble_eq_true rfl, Nat.le_of_ble_eq_true rfl⟩ (fun H locs hH => ?_)
            refine lv_icmp_lt (tgt := 67) hx hb dX2_wrongSeason_62 (by decide) (fun c_62 => ?_) (fun c_62 => ?_)
            · refine lv_iload_n hx hb dX2_wrongSeason_67 rfl (lv_at hl 3 rfl) ?_
              refine lv_iconst (v := (-1)) hx hb dX2_wrongSeason_68 (by decide) ?_
              refine lv_icmp_eq (tgt := 88) hx hb dX2_wrongSeason_69 (by decide) (fun c_69 => ?_) (fun c_69 => ?_)
              · refine lv_iconst (v := (-1)) hx hb dX2_wrongSeason_88 (by decide) ?_
                exact rg_retRi C0 hH hr hlocks rfl (by unfold rg_wrs; rw [if_neg (fun q => q.2.2 c_40), if_neg (fun q => q.2.2 c_62), if_neg (fun q => q.1 c_69)]) dX2_wrongSeason_89
              · refine lv_iload_n hx hb dX2_wrongSeason_72 rfl (lv_at hl 3 rfl) ?_
                refine lv_iload_n hx hb dX2_wrongSeason_73 rfl (lv_at hl 1 rfl) ?_
                refine lv_icmp_eq (tgt := 88) hx hb dX2_wrongSeason_74 (by decide) (fun c_74 => ?_) (fun c_74 => ?_)
                · refine lv_iconst (v := (-1)) hx hb dX2_wrongSeason_88 (by decide) ?_
                  exact rg_retRi C0 hH hr hlocks rfl (by unfold rg_wrs; rw [if_neg (fun q => q.2.2 c_40), if_neg (fun q => q.2.2 c_62), if_neg (fun q => q.2.1 c_74)]) dX2_wrongSeason_89
                · refine lv_aload_n hx hb dX2_wrongSeason_77 rfl (lv_at hl 2 rfl) ?_
                  refine lv_iload_n hx hb dX2_wrongSeason_78 rfl (lv_at hl 3 rfl) ?_
                  refine lv_iload_n hx hb dX2_wrongSeason_79 rfl (lv_at hl 4 rfl) ?_
                  refine rg_callGi C0 hH (As := [.int (x), .int (nI j)]) (rest := []) (o := 89) (ci := 2) (k_X2_isLately l E B M x j nl (by assumption) (by assumption) (by assumption)) (rg_cw 2 C0.1.2.2.2.2 tw_m_X2_105 tw_i_X2_isLately tw_v_X2_isLately tw_n_X2 tw_c_X2_isLately rfl rfl hd_X2_isLately ⟨Nat.le_of_ble_eq_true rfl, Nat.le_of_ble_eq_true rfl⟩) rfl (by decide) rfl (by decide) rfl hl.1 rfl (Nat.le_of_ble_eq_true rfl) dX2_wrongSeason_80 ⟨Nat.le_of_ble_eq_true rfl, Nat.le_of_ble_eq_true rfl⟩ (fun H locs hH => ?_)
                  refine lv_if_eq (tgt := 88) hx hb dX2_wrongSeason_83 (by decide) (fun c_83 => ?_) (fun c_83 => ?_)
                  · refine lv_iconst (v := (-1)) hx hb dX2_wrongSeason_88 (by decide) ?_
                    exact rg_retRi C0 hH hr hlocks rfl (by unfold rg_wrs; rw [if_neg (fun q => q.2.2 c_40), if_neg (fun q => q.2.2 c_62), if_neg (fun q => (rg_b_eq.mp c_83) q.2.2)]) dX2_wrongSeason_89
                  · refine lv_iload_n hx hb dX2_wrongSeason_86 rfl (lv_at hl 3 rfl) ?_
                    exact rg_retRi C0 hH hr hlocks rfl (by unfold rg_wrs; rw [if_neg (fun q => q.2.2 c_40), if_neg (fun q => q.2.2 c_62), if_pos ⟨c_69, c_74, rg_b_ne.mp c_83⟩]) dX2_wrongSeason_87
            · refine lv_iload_n hx hb dX2_wrongSeason_65 rfl (lv_at hl 1 rfl) ?_
              exact rg_retRi C0 hH hr hlocks rfl (by unfold rg_wrs; rw [if_neg (fun q => q.2.2 c_40), if_pos ⟨c_47, c_52, c_62⟩]) dX2_wrongSeason_66
      · refine lv_iload_n hx hb dX2_wrongSeason_43 rfl (lv_at hl 1 rfl) ?_
        exact rg_retRi C0 hH hr hlocks rfl (by unfold rg_wrs; rw [if_pos ⟨c_25, c_30, c_40⟩]) dX2_wrongSeason_44

set_option maxHeartbeats 4000000 in
set_option maxRecDepth 100000 in
/-- Scribe.causeOf -/
theorem k_X2_causeOf (l : Launch) (E : rg_Env) (B : Nat) (M : rg_Mem) (t : Nat) (v : Nat) (n : Nat) (j : Nat) (nl : Nat) (sp : Nat) (z : Int32) (hv : rg_isV v) (hvs : rg_VS M v n) (hn : rg_cn M) (hmd : M.1 6 4 = nI nl) (hnl : nl ≤ 36) (hj : j ≤ nl) (hsp : M.1 6 1 = nI sp) (hsp9 : sp ≤ 10) (ht1 : 1 ≤ t) (ht8 : t ≤ 8) : Met l yX2_causeOf (rg_w yX2_causeOf cX2_causeOf 5 (some (FieldType.int))) ({ frames := 4, cells := 0, slots := 0, locals := 90 } : Room) (va_Pc [.ref (B + 89), .int (nI t), .ref (B + v), .int (nI j), .int (z)] (rg_Pre E B 422 rg_R0 M)) (rg_Ri E B 422 rg_R0 (M) (fun r => r = rg_co M v n j sp z t)) 0 0 (rg_A B) := by
  refine rg_ofW (by decide +kernel) rfl (Nat.le_of_ble_eq_true rfl) ?_
  intro p e s m args below meth c ls C0 hH hl hr hlocks hnm
  replace hl : lv_has ls 5 [(0, .ref (B + 89)), (1, .int (nI t)), (2, .ref (B + v)), (3, .int (nI j)), (4, .int (z))] := hl
  have hx := C0.1.1
  have hb := C0.1.2.1
  generalize hH9 : s.heap = H at hH ⊢
  generalize hL9 : ([] : List Loc) = locs at hH ⊢
  clear hH9 hL9
  refine lv_iload_n hx hb dX2_causeOf_0 rfl (lv_at hl 1 rfl) ?_
  rcases (show t = 1 ∨ t = 2 ∨ t = 3 ∨ t = 4 ∨ t = 5 ∨ t = 6 ∨ t = 7 ∨ t = 8 by omega) with rfl | rfl | rfl | rfl | rfl | rfl | rfl | rfl
  · refine lv_tableIn (off := 43) (tgt := 44) hx hb dX2_causeOf_1 (by decide) (by decide) rfl (by decide) ?_
    refine lv_aload_n hx hb dX2_causeOf_44 rfl (lv_at hl 2 rfl) ?_
    refine rg_nI C0 hH (ci := 5) (k := 2) (o := v) rfl inT_X5 (by decide) (by decide) (rg_isV_lt hv) hv.2 (by decide) rfl dX2_causeOf_45 ?_
    refine lv_aload_n hx hb dX2_causeOf_48 rfl (lv_at hl 0 rfl) ?_
    refine rg_gR C0 hH (o2 := 6) (ci := 2) (k := 1) (o := 89) rfl rfl inT_X2 (by decide) tw_f_X2_15 (by decide) rfl (by decide) rfl dX2_causeOf_49 ?_
    refine lv_iload_n hx hb dX2_causeOf_52 rfl (lv_at hl 3 rfl) ?_
    refine rg_callGi C0 hH (As := [.int (nI j)]) (rest := [.int (M.1 v 2)]) (o := 6) (ci := 1) (k_X1_soundsAt l E B M (nI j)) (rg_cw 1 C0.1.2.2.2.2 tw_m_X2_29 tw_i_X1_soundsAt tw_v_X1_soundsAt tw_n_X1 tw_c_X1_soundsAt rfl rfl hd_X1_soundsAt ⟨Nat.le_of_ble_eq_true rfl, Nat.le_of_ble_eq_true rfl⟩) rfl (by decide) rfl (by decide) rfl hl.1 rfl (Nat.le_of_ble_eq_true rfl) dX2_causeOf_53 ⟨Nat.le_of_ble_eq_true rfl, Nat.le_of_ble_eq_true rfl⟩ (fun H locs hH => ?_)
    refine lv_icmp_ne (tgt := 63) hx hb dX2_causeOf_56 (by decide) (fun c_56 => ?_) (fun c_56 => ?_)
    · refine lv_aload_n hx hb dX2_causeOf_63 rfl (lv_at hl 2 rfl) ?_
      refine rg_nI C0 hH (ci := 5) (k := 2) (o := v) rfl inT_X5 (by decide) (by decide) (rg_isV_lt hv) hv.2 (by decide) rfl dX2_causeOf_64 ?_
      exact rg_retRi C0 hH hr hlocks rfl (by simp only [rg_co]; rw [if_neg c_56]) dX2_causeOf_67
    · refine lv_iconst (v := (-1)) hx hb dX2_causeOf_59 (by decide) ?_
      refine lv_goto (tgt := 67) hx hb dX2_causeOf_60 (by decide) ?_
      exact rg_retRi C0 hH hr hlocks rfl (by simp only [rg_co]; rw [if_pos c_56]) dX2_causeOf_67
  · refine lv_tableIn (off := 67) (tgt := 68) hx hb dX2_causeOf_1 (by decide) (by decide) rfl (by decide) ?_
    refine lv_aload_n hx hb dX2_causeOf_68 rfl (lv_at hl 0 rfl) ?_
    refine lv_aload_n hx hb dX2_causeOf_69 rfl (lv_at hl 2 rfl) ?_
    refine rg_callGi C0 hH (As := [.ref (B + v)]) (rest := []) (o := 89) (ci := 2) (k_X2_unlikeSeasonPlace l E B M v n (by assumption) (by assumption) (by assumption)) (rg_cw 1 C0.1.2.2.2.2 tw_m_X2_35 tw_i_X2_unlikeSeasonPlace tw_v_X2_unlikeSeasonPlace tw_n_X2 tw_c_X2_unlikeSeasonPlace rfl rfl hd_X2_unlikeSeasonPlace ⟨Nat.le_of_ble_eq_true rfl, Nat.le_of_ble_eq_true rfl⟩) rfl (by decide) rfl (by decide) rfl hl.1 rfl (Nat.le_of_ble_eq_true rfl) dX2_causeOf_70 ⟨Nat.le_of_ble_eq_true rfl, Nat.le_of_ble_eq_true rfl⟩ (fun H locs hH => ?_)
    exact rg_retRi C0 hH hr hlocks rfl (by rfl) dX2_causeOf_73
  · refine lv_tableIn (off := 73) (tgt := 74) hx hb dX2_causeOf_1 (by decide) (by decide) rfl (by decide) ?_
    refine lv_aload_n hx hb dX2_causeOf_74 rfl (lv_at hl 0 rfl) ?_
    refine lv_aload_n hx hb dX2_causeOf_75 rfl (lv_at hl 2 rfl) ?_
    refine lv_iload_n hx hb dX2_causeOf_76 rfl (lv_at hl 3 rfl) ?_
    refine rg_callGi C0 hH (As := [.ref (B + v), .int (nI j)]) (rest := []) (o := 89) (ci := 2) (k_X2_wordAgainPlace l E B M v n j nl sp (by assumption) (by assumption) (by assumption) (by assumption) (by assumption) (by assumption) (by assumption)) (rg_cw 2 C0.1.2.2.2.2 tw_m_X2_39 tw_i_X2_wordAgainPlace tw_v_X2_wordAgainPlace tw_n_X2 tw_c_X2_wordAgainPlace rfl rfl hd_X2_wordAgainPlace ⟨Nat.le_of_ble_eq_true rfl, Nat.le_of_ble_eq_true rfl⟩) rfl (by decide) rfl (by decide) rfl hl.1 rfl (Nat.le_of_ble_eq_true rfl) dX2_causeOf_77 ⟨Nat.le_of_ble_eq_true rfl, Nat.le_of_ble_eq_true rfl⟩ (fun H locs hH => ?_)
    exact rg_retRi C0 hH hr hlocks rfl (by rfl) dX2_causeOf_80
  · refine lv_tableIn (off := 80) (tgt := 81) hx hb dX2_causeOf_1 (by decide) (by decide) rfl (by decide) ?_
    refine lv_iload hx hb dX2_causeOf_81 (lv_at hl 4 rfl) ?_
    refine lv_aload_n hx hb dX2_causeOf_83 rfl (lv_at hl 0 rfl) ?_
    refine rg_gR C0 hH (o2 := 6) (ci := 2) (k := 1) (o := 89) rfl rfl inT_X2 (by decide) tw_f_X2_15 (by decide) rfl (by decide) rfl dX2_causeOf_84 ?_
    refine lv_iload_n hx hb dX2_causeOf_87 rfl (lv_at hl 3 rfl) ?_
    refine lv_iconst (v := 1) hx hb dX2_causeOf_88 (by decide) ?_
    refine lv_isub hx hb dX2_causeOf_89 ?_
    refine rg_callGi C0 hH (As := [.int ((nI j) - 1)]) (rest := [.int (z)]) (o := 6) (ci := 1) (k_X1_makerAt l E B M ((nI j) - 1) (by exact rg_mn_of hmd hnl)) (rg_cw 1 C0.1.2.2.2.2 tw_m_X2_43 tw_i_X1_makerAt tw_v_X1_makerAt tw_n_X1 tw_c_X1_makerAt rfl rfl hd_X1_makerAt ⟨Nat.le_of_ble_eq_true rfl, Nat.le_of_ble_eq_true rfl⟩) rfl (by decide) rfl (by decide) rfl hl.1 rfl (Nat.le_of_ble_eq_true rfl) dX2_causeOf_90 ⟨Nat.le_of_ble_eq_true rfl, Nat.le_of_ble_eq_true rfl⟩ (fun H locs hH => ?_)
    refine rg_topi (y := if 1 ≤ j then M.1 9 (j - 1) else -1) (by exact rg_atd (d := 1) hmd hnl hj (by omega) (by omega) (M.1 9) (-1)) ?_
    refine lv_icmp_ne (tgt := 101) hx hb dX2_causeOf_93 (by decide) (fun c_93 => ?_) (fun c_93 => ?_)
    · refine lv_iconst (v := (-1)) hx hb dX2_causeOf_101 (by decide) ?_
      exact rg_retRi C0 hH hr hlocks rfl (by simp only [rg_co]; rw [if_neg c_93]) dX2_causeOf_102
    · refine lv_iload hx hb dX2_causeOf_96 (lv_at hl 4 rfl) ?_
      refine lv_goto (tgt := 102) hx hb dX2_causeOf_98 (by decide) ?_
      exact rg_retRi C0 hH hr hlocks rfl (by simp only [rg_co]; rw [if_pos c_93]) dX2_causeOf_102
  · refine lv_tableIn (off := 102) (tgt := 103) hx hb dX2_causeOf_1 (by decide) (by decide) rfl (by decide) ?_
    refine lv_iload_n hx hb dX2_causeOf_103 rfl (lv_at hl 3 rfl) ?_
    refine lv_if_eq (tgt := 118) hx hb dX2_causeOf_104 (by decide) (fun c_104 => ?_) (fun c_104 => ?_)
    · refine lv_iconst (v := (-1)) hx hb dX2_causeOf_118 (by decide) ?_
      refine lv_goto (tgt := 125) hx hb dX2_causeOf_119 (by decide) ?_
      exact rg_retRi C0 hH hr hlocks rfl (by simp only [rg_co]; rw [if_pos (Or.inl (rg_nI0 (by omega) c_104))]) dX2_causeOf_125
    · refine lv_aload_n hx hb dX2_causeOf_107 rfl (lv_at hl 0 rfl) ?_
      refine lv_aload_n hx hb dX2_causeOf_108 rfl (lv_at hl 2 rfl) ?_
      refine lv_iload_n hx hb dX2_causeOf_109 rfl (lv_at hl 3 rfl) ?_
      refine lv_iconst (v := 1) hx hb dX2_causeOf_110 (by decide) ?_
      refine lv_isub hx hb dX2_causeOf_111 ?_
      have hj1 : 1 ≤ j := by
        rcases Nat.eq_zero_or_pos j with q | q
        · exact absurd (by rw [q]; rfl) c_104
        · exact q
      refine rg_topi (y := nI (j - 1)) (by exact pk_sub (a := j) (b := 1) hj1) ?_
      refine rg_callGi C0 hH (As := [.ref (B + v), .int (nI (j - 1))]) (rest := []) (o := 89) (ci := 2) (k_X2_joins l E B M v n (j - 1) nl (by assumption) (by assumption) (by assumption) (by assumption) (by assumption) (by omega)) (rg_cw 2 C0.1.2.2.2.2 tw_m_X2_46 tw_i_X2_joins tw_v_X2_joins tw_n_X2 tw_c_X2_joins rfl rfl hd_X2_joins ⟨Nat.le_of_ble_eq_true rfl, Nat.le_of_ble_eq_true rfl⟩) rfl (by decide) rfl (by decide) rfl hl.1 rfl (Nat.le_of_ble_eq_true rfl) dX2_causeOf_112 ⟨Nat.le_of_ble_eq_true rfl, Nat.le_of_ble_eq_true rfl⟩ (fun H locs hH => ?_)
      refine lv_if_eq (tgt := 122) hx hb dX2_causeOf_115 (by decide) (fun c_115 => ?_) (fun c_115 => ?_)
      · refine lv_iload_n hx hb dX2_causeOf_122 rfl (lv_at hl 3 rfl) ?_
        refine lv_iconst (v := 1) hx hb dX2_causeOf_123 (by decide) ?_
        refine lv_isub hx hb dX2_causeOf_124 ?_
        exact rg_retRi C0 hH hr hlocks rfl (by simp only [rg_co]; rw [if_neg (fun q => q.elim (fun z => c_104 (by rw [z]; rfl)) (rg_b_eq.mp c_115))]) dX2_causeOf_125
      · refine lv_iconst (v := (-1)) hx hb dX2_causeOf_118 (by decide) ?_
        refine lv_goto (tgt := 125) hx hb dX2_causeOf_119 (by decide) ?_
        exact rg_retRi C0 hH hr hlocks rfl (by simp only [rg_co]; rw [if_pos (Or.inr (rg_b_ne.mp c_115))]) dX2_causeOf_125
  · refine lv_tableIn (off := 125) (tgt := 126) hx hb dX2_causeOf_1 (by decide) (by decide) rfl (by decide) ?_
    refine lv_aload_n hx hb dX2_causeOf_126 rfl (lv_at hl 0 rfl) ?_
    refine lv_aload_n hx hb dX2_causeOf_127 rfl (lv_at hl 2 rfl) ?_
    refine rg_nI C0 hH (ci := 5) (k := 4) (o := v) rfl inT_X5 (by decide) (by decide) (rg_isV_lt hv) hv.2 (by decide) rfl dX2_causeOf_128 ?_
    refine lv_aload_n hx hb dX2_causeOf_131 rfl (lv_at hl 0 rfl) ?_
    refine rg_gR C0 hH (o2 := 6) (ci := 2) (k := 1) (o := 89) rfl rfl inT_X2 (by decide) tw_f_X2_15 (by decide) rfl (by decide) rfl dX2_causeOf_132 ?_
    refine lv_iload_n hx hb dX2_causeOf_135 rfl (lv_at hl 3 rfl) ?_
    refine lv_iconst (v := 2) hx hb dX2_causeOf_136 (by decide) ?_
    refine lv_isub hx hb dX2_causeOf_137 ?_
    refine rg_callGi C0 hH (As := [.int ((nI j) - 2)]) (rest := [.int (M.1 v 4), .ref (B + 89)]) (o := 6) (ci := 1) (k_X1_signsAt l E B M ((nI j) - 2) (by exact rg_mn_of hmd hnl)) (rg_cw 1 C0.1.2.2.2.2 tw_m_X2_53 tw_i_X1_signsAt tw_v_X1_signsAt tw_n_X1 tw_c_X1_signsAt rfl rfl hd_X1_signsAt ⟨Nat.le_of_ble_eq_true rfl, Nat.le_of_ble_eq_true rfl⟩) rfl (by decide) rfl (by decide) rfl hl.1 rfl (Nat.le_of_ble_eq_true rfl) dX2_causeOf_138 ⟨Nat.le_of_ble_eq_true rfl, Nat.le_of_ble_eq_true rfl⟩ (fun H locs hH => ?_)
    refine rg_topi (y := if 2 ≤ j then M.1 (17 + 2 * (j - 2)) 4 else 0) (by exact rg_atd (d := 2) hmd hnl hj (by omega) (by omega) (fun k => M.1 (17 + 2 * k) 4) 0) ?_
    refine lv_iand hx hb dX2_causeOf_141 ?_
    refine rg_callGi C0 hH (As := [.int ((M.1 v 4) &&& (if 2 ≤ j then M.1 (17 + 2 * (j - 2)) 4 else 0))]) (rest := []) (o := 89) (ci := 2) (k_X2_lowestSubject l E B M ((M.1 v 4) &&& (if 2 ≤ j then M.1 (17 + 2 * (j - 2)) 4 else 0))) (rg_cw 1 C0.1.2.2.2.2 tw_m_X2_56 tw_i_X2_lowestSubject tw_v_X2_lowestSubject tw_n_X2 tw_c_X2_lowestSubject rfl rfl hd_X2_lowestSubject ⟨Nat.le_of_ble_eq_true rfl, Nat.le_of_ble_eq_true rfl⟩) rfl (by decide) rfl (by decide) rfl hl.1 rfl (Nat.le_of_ble_eq_true rfl) dX2_causeOf_142 ⟨Nat.le_of_ble_eq_true rfl, Nat.le_of_ble_eq_true rfl⟩ (fun H locs hH => ?_)
    exact rg_retRi C0 hH hr hlocks rfl (by rfl) dX2_causeOf_145
  · refine lv_tableIn (off := 145) (tgt := 146) hx hb dX2_causeOf_1 (by decide) (by decide) rfl (by decide) ?_
    refine lv_aload_n hx hb dX2_causeOf_146 rfl (lv_at hl 0 rfl) ?_
    refine lv_aload_n hx hb dX2_causeOf_147 rfl (lv_at hl 2 rfl) ?_
    refine rg_nI C0 hH (ci := 5) (k := 3) (o := v) rfl inT_X5 (by decide) (by decide) (rg_isV_lt hv) hv.2 (by decide) rfl dX2_causeOf_148 ?_
    refine lv_iload_n hx hb dX2_causeOf_151 rfl (lv_at hl 3 rfl) ?_
    refine rg_callGi C0 hH (As := [.int (M.1 v 3), .int (nI j)]) (rest := []) (o := 89) (ci := 2) (k_X2_wrongSeason l E B M (M.1 v 3) j nl (by assumption) (by assumption) (by assumption)) (rg_cw 2 C0.1.2.2.2.2 tw_m_X2_62 tw_i_X2_wrongSeason tw_v_X2_wrongSeason tw_n_X2 tw_c_X2_wrongSeason rfl rfl hd_X2_wrongSeason ⟨Nat.le_of_ble_eq_true rfl, Nat.le_of_ble_eq_true rfl⟩) rfl (by decide) rfl (by decide) rfl hl.1 rfl (Nat.le_of_ble_eq_true rfl) dX2_causeOf_152 ⟨Nat.le_of_ble_eq_true rfl, Nat.le_of_ble_eq_true rfl⟩ (fun H locs hH => ?_)
    exact rg_retRi C0 hH hr hlocks rfl (by rfl) dX2_causeOf_155
  · refine lv_tableOut (tgt := 156) hx hb dX2_causeOf_1 (Or.inr (by decide)) (by decide) ?_
    refine lv_aload_n hx hb dX2_causeOf_156 rfl (lv_at hl 0 rfl) ?_
    refine lv_aload_n hx hb dX2_causeOf_157 rfl (lv_at hl 2 rfl) ?_
    refine rg_nI C0 hH (ci := 5) (k := 4) (o := v) rfl inT_X5 (by decide) (by decide) (rg_isV_lt hv) hv.2 (by decide) rfl dX2_causeOf_158 ?_
    refine lv_aload_n hx hb dX2_causeOf_161 rfl (lv_at hl 0 rfl) ?_
    refine rg_gR C0 hH (o2 := 6) (ci := 2) (k := 1) (o := 89) rfl rfl inT_X2 (by decide) tw_f_X2_15 (by decide) rfl (by decide) rfl dX2_causeOf_162 ?_
    refine lv_iload_n hx hb dX2_causeOf_165 rfl (lv_at hl 3 rfl) ?_
    refine rg_callGi C0 hH (As := [.int (nI j)]) (rest := [.int (M.1 v 4), .ref (B + 89)]) (o := 6) (ci := 1) (k_X1_seatAt l E B M (nI j)) (rg_cw 1 C0.1.2.2.2.2 tw_m_X2_66 tw_i_X1_seatAt tw_v_X1_seatAt tw_n_X1 tw_c_X1_seatAt rfl rfl hd_X1_seatAt ⟨Nat.le_of_ble_eq_true rfl, Nat.le_of_ble_eq_true rfl⟩) rfl (by decide) rfl (by decide) rfl hl.1 rfl (Nat.le_of_ble_eq_true rfl) dX2_causeOf_166 ⟨Nat.le_of_ble_eq_true rfl, Nat.le_of_ble_eq_true rfl⟩ (fun H locs hH => ?_)
    refine rg_topi (y := if j < 36 then M.1 7 j else 0) (by exact rg_at36 (by omega) (M.1 7) 0) ?_
    refine rg_callGi C0 hH (As := [.int (M.1 v 4), .int (if j < 36 then M.1 7 j else 0)]) (rest := []) (o := 89) (ci := 2) (k_X2_wrongSeat l E B M (M.1 v 4) (if j < 36 then M.1 7 j else 0)) (rg_cw 2 C0.1.2.2.2.2 tw_m_X2_69 tw_i_X2_wrongSeat tw_v_X2_wrongSeat tw_n_X2 tw_c_X2_wrongSeat rfl rfl hd_X2_wrongSeat ⟨Nat.le_of_ble_eq_true rfl, Nat.le_of_ble_eq_true rfl⟩) rfl (by decide) rfl (by decide) rfl hl.1 rfl (Nat.le_of_ble_eq_true rfl) dX2_causeOf_169 ⟨Nat.le_of_ble_eq_true rfl, Nat.le_of_ble_eq_true rfl⟩ (fun H locs hH => ?_)
    exact rg_retRi C0 hH hr hlocks rfl (by rfl) dX2_causeOf_172

set_option maxHeartbeats 4000000 in
set_option maxRecDepth 100000 in
/-- Scribe.firstFault -/
theorem k_X2_firstFault (l : Launch) (E : rg_Env) (B : Nat) (M : rg_Mem) (v : Nat) (n : Nat) (j : Nat) (nl : Nat) (sp : Nat) (z : Int32) (hv : rg_isV v) (hvs : rg_VS M v n) (hn : rg_cn M) (hmd : M.1 6 4 = nI nl) (hnl : nl ≤ 36) (hj : j ≤ nl) (hsp : M.1 6 1 = nI sp) (hsp9 : sp ≤ 10) : Met l yX2_firstFault (rg_w yX2_firstFault cX2_firstFault 5 (some (FieldType.int))) ({ frames := 5, cells := 0, slots := 0, locals := 114 } : Room) (va_Pc [.ref (B + 89), .ref (B + v), .int (nI j), .int (z)] (rg_Pre E B 422 rg_R0 M)) (rg_Ri E B 422 rg_R0 (M) (fun r => r = rg_f8 (rg_co M v n j sp z) 8 1)) 0 0 (rg_A B) := by
  refine rg_ofW (by decide +kernel) rfl (Nat.le_of_ble_eq_true rfl) ?_
  intro p e s m args below meth c ls C0 hH hl hr hlocks hnm
  replace hl : lv_has ls 5 [(0, .ref (B + 89)), (1, .ref (B + v)), (2, .int (nI j)), (3, .int (z))] := hl
  have hx := C0.1.1
  have hb := C0.1.2.1
  generalize hH9 : s.heap = H at hH ⊢
  generalize hL9 : ([] : List Loc) = locs at hH ⊢
  clear hH9 hL9
  refine lv_iconst (v := 1) hx hb dX2_firstFault_0 (by decide) ?_
  refine lv_istore (lv' := [(4, .int (1)), (0, .ref (B + 89)), (1, .ref (B + v)), (2, .int (nI j)), (3, .int (z))]) hx hb dX2_firstFault_1 hl (by decide) rfl (fun ls hl => ?_)
  have cut_3 : ∀ (fu i : Nat), (1 ≤ i ∧ i ≤ 9) ∧ 9 < i + fu → ∀  (H : Heap) (locs : List Loc) (ls : Array Slot), rg_H E B 422 rg_R0 M s H locs → lv_has ls 5 [(0, .ref (B + 89)), (1, .ref (B + v)), (2, .int (nI j)), (3, .int (z)), (4, .int (nI i))] → (rg_f8 (rg_co M v n j sp z) (9 - i) i = rg_f8 (rg_co M v n j sp z) 8 1) → W p l e ({ frames := 5, cells := 0, slots := 0, locals := 114 } : Room) s m args below meth c H locs 0 0 (MQ below (rg_Ri E B 422 rg_R0 (M) (fun r => r = rg_f8 (rg_co M v n j sp z) 8 1)) args s 0 0 (rg_A B)) (F0 m 3 ls []) := by
    intro fu
    induction fu with
    | zero =>
      intro i hm
      exact absurd hm (by omega)
    | succ fu ih =>
      intro i hm  H locs ls hH hl hf
      refine lv_iload hx hb dX2_firstFault_3 (lv_at hl 4 rfl) ?_
      refine lv_bipush (v := 8) hx hb dX2_firstFault_5 (by decide) ?_
      refine lv_icmp_gt (tgt := 32) hx hb dX2_firstFault_7 (by decide) (fun c_7 => ?_) (fun c_7 => ?_)
      · refine lv_iconst (v := 0) hx hb dX2_firstFault_32 (by decide) ?_
        exact rg_retRi C0 hH hr hlocks rfl (by have q : i = 9 := (by rcases Nat.lt_or_ge i 9 with q | q; exact absurd c_7 (nI_nlt (b := i) (a := 8) (by omega) (by omega)); omega); subst q; exact hf) dX2_firstFault_33
      · have hi8 : i ≤ 8 := by
          rcases Nat.lt_or_ge 8 i with q | q
          · exact absurd (nI_lt (a := 8) q (by omega)) c_7
          · exact q
        obtain ⟨m9, hm9⟩ : ∃ m9, 9 - i = m9 + 1 := ⟨9 - i - 1, by omega⟩
        refine lv_aload_n hx hb dX2_firstFault_10 rfl (lv_at hl 0 rfl) ?_
        refine lv_iload hx hb dX2_firstFault_11 (lv_at hl 4 rfl) ?_
        refine lv_aload_n hx hb dX2_firstFault_13 rfl (lv_at hl 1 rfl) ?_
        refine lv_iload_n hx hb dX2_firstFault_14 rfl (lv_at hl 2 rfl) ?_
        refine lv_iload_n hx hb dX2_firstFault_15 rfl (lv_at hl 3 rfl) ?_
        refine rg_callGi C0 hH (As := [.int (nI i), .ref (B + v), .int (nI j), .int (z)]) (rest := []) (o := 89) (ci := 2) (k_X2_causeOf l E B M i v n j nl sp z (by first | assumption | omega) (by first | assumption | omega) (by first | assumption | omega) (by first | assumption | omega) (by first | assumption | omega) (by first | assumption | omega) (by first | assumption | omega) (by first | assumption | omega) (by first | assumption | omega) (by first | assumption | omega)) (rg_cw 4 C0.1.2.2.2.2 tw_m_X2_19 tw_i_X2_causeOf tw_v_X2_causeOf tw_n_X2 tw_c_X2_causeOf rfl rfl hd_X2_causeOf ⟨Nat.le_of_ble_eq_true rfl, Nat.le_of_ble_eq_true rfl⟩) rfl (by decide) rfl (by decide) rfl hl.1 rfl (Nat.le_of_ble_eq_true rfl) dX2_firstFault_16 ⟨Nat.le_of_ble_eq_true rfl, Nat.le_of_ble_eq_true rfl⟩ (fun H locs hH => ?_)
        refine lv_iconst (v := (-1)) hx hb dX2_firstFault_19 (by decide) ?_
        refine lv_icmp_eq (tgt := 26) hx hb dX2_firstFault_20 (by decide) (fun c_20 => ?_) (fun c_20 => ?_)
        · refine lv_iinc (v := nI (i + 1)) (lv' := [(4, .int (nI (i + 1))), (0, .ref (B + 89)), (1, .ref (B + v)), (2, .int (nI j)), (3, .int (z))]) hx hb dX2_firstFault_26 hl (k := 4) rfl (nI_1 _) (by decide) rfl (fun ls hl => ?_)
          refine lv_goto (tgt := 3) hx hb dX2_firstFault_29 (by decide) ?_
          exact ih (i + 1) (by omega) _ _ _ hH (lv_sub hl [1, 2, 3, 4, 0] rfl) (by exact (show 9 - (i + 1) = m9 by omega) ▸ rg_f8_n (hm9 ▸ hf) c_20)
        · refine lv_iload hx hb dX2_firstFault_23 (lv_at hl 4 rfl) ?_
          exact rg_retRi C0 hH hr hlocks rfl (by exact rg_f8_y (hm9 ▸ hf) c_20) dX2_firstFault_25
  exact cut_3 10 1 (by omega) _ _ _ hH (lv_sub hl [1, 2, 3, 4, 0] rfl) (by rfl)
