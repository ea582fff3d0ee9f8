set_option maxHeartbeats 4000000 in
set_option maxRecDepth 100000 in
/-- Scribe.unlikeSeasonPlace -/
theorem k_X2_unlikeSeasonPlace (l : Launch) (E : rg_Env) (B : Nat) (M : rg_Mem) (v : Nat) (n : Nat) (hv : rg_isV v) (hvs : rg_VS M v n) (hn : rg_cn M) : Met l yX2_unlikeSeasonPlace (rg_w yX2_unlikeSeasonPlace cX2_unlikeSeasonPlace 4 (some (FieldType.int))) ({ frames := 2, cells := 0, slots := 0, locals := 42 } : Room) (va_Pc [.ref (B + 89), .ref (B + v)] (rg_Pre E B 422 rg_R0 M)) (rg_Ri E B 422 rg_R0 (M) (fun r => r = rg_ff (rg_mx M v) n 0)) 0 0 (rg_A B) := by
  refine rg_ofW (by decide +kernel) rfl (Nat.le_of_ble_eq_true rfl) ?_
  intro p e s m args below meth c ls C0 hH hl hr hlocks hnm
  replace hl : lv_has ls 4 [(0, .ref (B + 89)), (1, .ref (B + v))] := hl
  have hx := C0.1.1
  have hb := C0.1.2.1
  generalize hH9 : s.heap = H at hH ⊢
  generalize hL9 : ([] : List Loc) = locs at hH ⊢
  clear hH9 hL9
  refine lv_iconst (v := 0) hx hb dX2_unlikeSeasonPlace_0 (by decide) ?_
  refine lv_istore_n (lv' := [(2, .int (0)), (0, .ref (B + 89)), (1, .ref (B + v))]) hx hb dX2_unlikeSeasonPlace_1 rfl hl (by decide) rfl (fun ls hl => ?_)
  have cut_2 : ∀ (fu i : Nat), i ≤ n ∧ n < i + fu → ∀  (H : Heap) (locs : List Loc) (ls : Array Slot), rg_H E B 422 rg_R0 M s H locs → lv_has ls 4 [(0, .ref (B + 89)), (1, .ref (B + v)), (2, .int (nI i))] → (rg_ff (rg_mx M v) (n - i) i = rg_ff (rg_mx M v) n 0) → W p l e ({ frames := 2, cells := 0, slots := 0, locals := 42 } : Room) s m args below meth c H locs 0 0 (MQ below (rg_Ri E B 422 rg_R0 (M) (fun r => r = rg_ff (rg_mx M v) n 0)) args s 0 0 (rg_A B)) (F0 m 2 ls []) := by
    intro fu
    induction fu with
    | zero =>
      intro i hm
      exact absurd hm (by omega)
    | succ fu ih =>
      intro i hm  H locs ls hH hl hf
      refine lv_iload_n hx hb dX2_unlikeSeasonPlace_2 rfl (lv_at hl 2 rfl) ?_
      refine lv_aload_n hx hb dX2_unlikeSeasonPlace_3 rfl (lv_at hl 1 rfl) ?_
      refine rg_nI C0 hH (ci := 5) (k := 1) (o := v) rfl inT_X5 (by decide) (by decide) (rg_isV_lt hv) hv.2 (by decide) rfl dX2_unlikeSeasonPlace_4 ?_
      refine rg_topi (y := nI n) (by exact hvs.1) ?_
      refine lv_icmp_ge (tgt := 44) hx hb dX2_unlikeSeasonPlace_7 (by decide) (fun c_7 => ?_) (fun c_7 => ?_)
      · refine lv_iconst (v := (-1)) hx hb dX2_unlikeSeasonPlace_44 (by decide) ?_
        exact rg_retRi C0 hH hr hlocks rfl (by have q := rg_lp_end hm.1 (by have := hvs.2.1; omega) c_7; subst q; exact rg_ff_e hf) dX2_unlikeSeasonPlace_45
      · have hlt : i < n := rg_lp_lt hm.1 (by have := hvs.2.1; omega) c_7
        refine lv_aload_n hx hb dX2_unlikeSeasonPlace_10 rfl (lv_at hl 0 rfl) ?_
        refine rg_gR C0 hH (o2 := 1) (ci := 2) (k := 0) (o := 89) rfl rfl inT_X2 (by decide) tw_f_X2_9 (by decide) rfl (by decide) rfl dX2_unlikeSeasonPlace_11 ?_
        refine lv_aload_n hx hb dX2_unlikeSeasonPlace_14 rfl (lv_at hl 1 rfl) ?_
        refine lv_iload_n hx hb dX2_unlikeSeasonPlace_15 rfl (lv_at hl 2 rfl) ?_
        refine rg_callGi C0 hH (As := [.int (nI i)]) (rest := [.ref (B + 1)]) (o := v) (ci := 5) (k_X5_wordOrNone l E B M v (nI i) (by assumption)) (rg_cw 1 C0.1.2.2.2.2 tw_m_X2_75 tw_i_X5_wordOrNone tw_v_X5_wordOrNone tw_n_X5 tw_c_X5_wordOrNone rfl rfl hd_X5_wordOrNone ⟨Nat.le_of_ble_eq_true rfl, Nat.le_of_ble_eq_true rfl⟩) rfl (rg_isV_lt hv) hv.2 (by decide) rfl hl.1 rfl (Nat.le_of_ble_eq_true rfl) dX2_unlikeSeasonPlace_16 ⟨Nat.le_of_ble_eq_true rfl, Nat.le_of_ble_eq_true rfl⟩ (fun H locs hH => ?_)
        refine rg_topi (y := M.1 (v + 1) i) (by exact rg_wn_k hvs.1 hvs.2.1 hlt) ?_
        refine rg_callGi C0 hH (As := [.int (M.1 (v + 1) i)]) (rest := []) (o := 1) (ci := 4) (k_X4_seasonOf l E B M (M.1 (v + 1) i) (by assumption)) (rg_cw 1 C0.1.2.2.2.2 tw_m_X2_78 tw_i_X4_seasonOf tw_v_X4_seasonOf tw_n_X4 tw_c_X4_seasonOf rfl rfl hd_X4_seasonOf ⟨Nat.le_of_ble_eq_true rfl, Nat.le_of_ble_eq_true rfl⟩) rfl (by decide) rfl (by decide) rfl hl.1 rfl (Nat.le_of_ble_eq_true rfl) dX2_unlikeSeasonPlace_19 ⟨Nat.le_of_ble_eq_true rfl, Nat.le_of_ble_eq_true rfl⟩ (fun H locs hH => ?_)
        refine rg_topi (y := M.1 3 (M.1 (v + 1) i).toNatClampNeg) (by rw [if_pos (hvs.2.2.1 i hlt)]) ?_
        refine lv_istore_n (lv' := [(3, .int (M.1 3 (M.1 (v + 1) i).toNatClampNeg)), (0, .ref (B + 89)), (1, .ref (B + v)), (2, .int (nI i))]) hx hb dX2_unlikeSeasonPlace_22 rfl hl (by decide) rfl (fun ls hl => ?_)
        refine lv_iload_n hx hb dX2_unlikeSeasonPlace_23 rfl (lv_at hl 0 rfl) ?_
        refine lv_iconst (v := (-1)) hx hb dX2_unlikeSeasonPlace_24 (by decide) ?_
        refine lv_icmp_eq (tgt := 38) hx hb dX2_unlikeSeasonPlace_25 (by decide) (fun c_25 => ?_) (fun c_25 => ?_)
        · refine lv_iinc (v := nI (i + 1)) (lv' := [(2, .int (nI (i + 1))), (3, .int (M.1 3 (M.1 (v + 1) i).toNatClampNeg)), (0, .ref (B + 89)), (1, .ref (B + v))]) hx hb dX2_unlikeSeasonPlace_38 hl (k := 3) rfl (nI_1 _) (by decide) rfl (fun ls hl => ?_)
          refine lv_goto (tgt := 2) hx hb dX2_unlikeSeasonPlace_41 (by decide) ?_
          exact ih (i + 1) (by omega) _ _ _ hH (lv_sub hl [2, 3, 0] rfl) (by exact rg_ff_n hf hlt (by simp only [rg_mx, decide_eq_true_eq]; exact fun q => q.1 c_25))
        · refine lv_iload_n hx hb dX2_unlikeSeasonPlace_28 rfl (lv_at hl 0 rfl) ?_
          refine lv_aload_n hx hb dX2_unlikeSeasonPlace_29 rfl (lv_at hl 2 rfl) ?_
          refine rg_nI C0 hH (ci := 5) (k := 3) (o := v) rfl inT_X5 (by decide) (by decide) (rg_isV_lt hv) hv.2 (by decide) rfl dX2_unlikeSeasonPlace_30 ?_
          refine lv_icmp_eq (tgt := 38) hx hb dX2_unlikeSeasonPlace_33 (by decide) (fun c_33 => ?_) (fun c_33 => ?_)
          · refine lv_iinc (v := nI (i + 1)) (lv' := [(2, .int (nI (i + 1))), (3, .int (M.1 3 (M.1 (v + 1) i).toNatClampNeg)), (0, .ref (B + 89)), (1, .ref (B + v))]) hx hb dX2_unlikeSeasonPlace_38 hl (k := 3) rfl (nI_1 _) (by decide) rfl (fun ls hl => ?_)
            refine lv_goto (tgt := 2) hx hb dX2_unlikeSeasonPlace_41 (by decide) ?_
            exact ih (i + 1) (by omega) _ _ _ hH (lv_sub hl [2, 3, 0] rfl) (by exact rg_ff_n hf hlt (by simp only [rg_mx, decide_eq_true_eq]; exact fun q => q.2 c_33))
          · refine lv_iload_n hx hb dX2_unlikeSeasonPlace_36 rfl (lv_at hl 3 rfl) ?_
            exact rg_retRi C0 hH hr hlocks rfl (by exact rg_ff_y hf hlt (by simp only [rg_mx, decide_eq_true_eq]; exact ⟨c_25, c_33⟩)) dX2_unlikeSeasonPlace_37
  exact cut_2 (n + 1) 0 (by omega) _ _ _ hH (lv_sub hl [1, 2, 0] rfl) (by rfl)

set_option maxHeartbeats 4000000 in
set_option maxRecDepth 100000 in
/-- Scribe.wordAgainPlace -/
theorem k_X2_wordAgainPlace (l : Launch) (E : rg_Env) (B : Nat) (M : rg_Mem) (v : Nat) (n : Nat) (j : Nat) (nl : Nat) (sp : Nat) (hv : rg_isV v) (hvs : rg_VS M v n) (hmd : M.1 6 4 = nI nl) (hnl : nl ≤ 36) (hj : j ≤ nl) (hsp : M.1 6 1 = nI sp) (hsp9 : sp ≤ 10) : Met l yX2_wordAgainPlace (rg_w yX2_wordAgainPlace cX2_wordAgainPlace 8 (some (FieldType.int))) ({ frames := 2, cells := 0, slots := 0, locals := 42 } : Room) (va_Pc [.ref (B + 89), .ref (B + v), .int (nI j)] (rg_Pre E B 422 rg_R0 M)) (rg_Ri E B 422 rg_R0 (M) (fun r => r = rg_ff (rg_ag (rg_ra (rg_cwd M j) sp) (M.1 (v + 1))) n 0)) 0 0 (rg_A B) := by
  refine rg_ofW (by decide +kernel) rfl (Nat.le_of_ble_eq_true rfl) ?_
  intro p e s m args below meth c ls C0 hH hl hr hlocks hnm
  replace hl : lv_has ls 8 [(0, .ref (B + 89)), (1, .ref (B + v)), (2, .int (nI j))] := hl
  have hx := C0.1.1
  have hb := C0.1.2.1
  generalize hH9 : s.heap = H at hH ⊢
  generalize hL9 : ([] : List Loc) = locs at hH ⊢
  clear hH9 hL9
  refine lv_lconst (v := 0) hx hb dX2_wordAgainPlace_0 (by decide) ?_
  refine lv_lstore_n (lv' := [(3, .long (0)), (0, .ref (B + 89)), (1, .ref (B + v)), (2, .int (nI j))]) hx hb dX2_wordAgainPlace_1 rfl hl (by decide) rfl (fun ls hl => ?_)
  refine lv_iload_n hx hb dX2_wordAgainPlace_2 rfl (lv_at hl 3 rfl) ?_
  refine lv_aload_n hx hb dX2_wordAgainPlace_3 rfl (lv_at hl 1 rfl) ?_
  refine rg_gR C0 hH (o2 := 6) (ci := 2) (k := 1) (o := 89) rfl rfl inT_X2 (by decide) tw_f_X2_15 (by decide) rfl (by decide) rfl dX2_wordAgainPlace_4 ?_
  refine rg_nI C0 hH (ci := 1) (k := 1) (o := 6) rfl inT_X1 (by decide) (by decide) (by decide) rfl (by decide) rfl dX2_wordAgainPlace_7 ?_
  refine rg_topi (y := nI sp) (by exact hsp) ?_
  refine lv_isub hx hb dX2_wordAgainPlace_10 ?_
  refine lv_istore (lv' := [(5, .int ((nI j) - (nI sp))), (3, .long (0)), (0, .ref (B + 89)), (1, .ref (B + v)), (2, .int (nI j))]) hx hb dX2_wordAgainPlace_11 hl (by decide) rfl (fun ls hl => ?_)
  have cut_13 : ∀ (fu i : Nat), i ≤ sp ∧ i < fu → ∀ (a : Int64) (H : Heap) (locs : List Loc) (ls : Array Slot), rg_H E B 422 rg_R0 M s H locs → lv_has ls 8 [(0, .ref (B + 89)), (1, .ref (B + v)), (2, .int (nI j)), (3, .long (a)), (5, .int (nI j - nI i))] → (a ||| rg_ra (rg_cwd M j) i = rg_ra (rg_cwd M j) sp) → W p l e ({ frames := 2, cells := 0, slots := 0, locals := 42 } : Room) s m args below meth c H locs 0 0 (MQ below (rg_Ri E B 422 rg_R0 (M) (fun r => r = rg_ff (rg_ag (rg_ra (rg_cwd M j) sp) (M.1 (v + 1))) n 0)) args s 0 0 (rg_A B)) (F0 m 13 ls []) := by
    intro fu
    induction fu with
    | zero =>
      intro i hm
      exact absurd hm (by omega)
    | succ fu ih =>
      intro i hm a H locs ls hH hl ha
      refine lv_iload hx hb dX2_wordAgainPlace_13 (lv_at hl 4 rfl) ?_
      refine lv_iload_n hx hb dX2_wordAgainPlace_15 rfl (lv_at hl 2 rfl) ?_
      refine lv_icmp_ge (tgt := 37) hx hb dX2_wordAgainPlace_16 (by decide) (fun c_16 => ?_) (fun c_16 => ?_)
      · refine lv_iconst (v := 0) hx hb dX2_wordAgainPlace_37 (by decide) ?_
        refine lv_istore (lv' := [(5, .int (0)), (0, .ref (B + 89)), (1, .ref (B + v)), (2, .int (nI j)), (3, .long (a))]) hx hb dX2_wordAgainPlace_38 hl (by decide) rfl (fun ls hl => ?_)
        have cut_40 : ∀ (fu i : Nat), i ≤ n ∧ n < i + fu → ∀  (H : Heap) (locs : List Loc) (ls : Array Slot), rg_H E B 422 rg_R0 M s H locs → lv_has ls 8 [(0, .ref (B + 89)), (1, .ref (B + v)), (2, .int (nI j)), (3, .long (rg_ra (rg_cwd M j) sp ||| rg_ws (M.1 (v + 1)) i)), (5, .int (nI i))] → (rg_ff (rg_ag (rg_ra (rg_cwd M j) sp) (M.1 (v + 1))) (n - i) i = rg_ff (rg_ag (rg_ra (rg_cwd M j) sp) (M.1 (v + 1))) n 0) → W p l e ({ frames := 2, cells := 0, slots := 0, locals := 42 } : Room) s m args below meth c H locs 0 0 (MQ below (rg_Ri E B 422 rg_R0 (M) (fun r => r = rg_ff (rg_ag (rg_ra (rg_cwd M j) sp) (M.1 (v + 1))) n 0)) args s 0 0 (rg_A B)) (F0 m 40 ls []) := by
          intro fu
          induction fu with
          | zero =>
            intro i hm
            exact absurd hm (by omega)
          | succ fu ih =>
            intro i hm  H locs ls hH hl hf
            refine lv_iload hx hb dX2_wordAgainPlace_40 (lv_at hl 4 rfl) ?_
            refine lv_aload_n hx hb dX2_wordAgainPlace_42 rfl (lv_at hl 1 rfl) ?_
            refine rg_nI C0 hH (ci := 5) (k := 1) (o := v) rfl inT_X5 (by decide) (by decide) (rg_isV_lt hv) hv.2 (by decide) rfl dX2_wordAgainPlace_43 ?_
            refine rg_topi (y := nI n) (by exact hvs.1) ?_
            refine lv_icmp_ge (tgt := 82) hx hb dX2_wordAgainPlace_46 (by decide) (fun c_46 => ?_) (fun c_46 => ?_)
            · refine lv_iconst (v := (-1)) hx hb dX2_wordAgainPlace_82 (by decide) ?_
              exact rg_retRi C0 hH hr hlocks rfl (by have q := rg_lp_end hm.1 (by have := hvs.2.1; omega) c_46; subst q; exact rg_ff_e hf) dX2_wordAgainPlace_83
            · have hlt : i < n := rg_lp_lt hm.1 (by have := hvs.2.1; omega) c_46
              refine lv_lconst (v := 1) hx hb dX2_wordAgainPlace_49 (by decide) ?_
              refine lv_aload_n hx hb dX2_wordAgainPlace_50 rfl (lv_at hl 1 rfl) ?_
              refine lv_iload hx hb dX2_wordAgainPlace_51 (lv_at hl 4 rfl) ?_
              refine rg_callGi C0 hH (As := [.int (nI i)]) (rest := [.long (1)]) (o := v) (ci := 5) (k_X5_wordOrNone l E B M v (nI i) (by assumption)) (rg_cw 1 C0.1.2.2.2.2 tw_m_X2_75 tw_i_X5_wordOrNone tw_v_X5_wordOrNone tw_n_X5 tw_c_X5_wordOrNone rfl rfl hd_X5_wordOrNone ⟨Nat.le_of_ble_eq_true rfl, Nat.le_of_ble_eq_true rfl⟩) rfl (rg_isV_lt hv) hv.2 (by decide) rfl hl.1 rfl (Nat.le_of_ble_eq_true rfl) dX2_wordAgainPlace_53 ⟨Nat.le_of_ble_eq_true rfl, Nat.le_of_ble_eq_true rfl⟩ (fun H locs hH => ?_)
              refine rg_topi (y := M.1 (v + 1) i) (by exact rg_wn_k hvs.1 hvs.2.1 hlt) ?_
              refine lv_lshl hx hb dX2_wordAgainPlace_56 rfl ?_
              refine lv_lstore (lv' := [(6, .long ((1 : Int64) <<< ((M.1 (v + 1) i).toInt64 &&& 63))), (0, .ref (B + 89)), (1, .ref (B + v)), (2, .int (nI j)), (3, .long (rg_ra (rg_cwd M j) sp ||| rg_ws (M.1 (v + 1)) i)), (5, .int (nI i))]) hx hb dX2_wordAgainPlace_57 hl (by decide) rfl (fun ls hl => ?_)
              refine lv_lload_n hx hb dX2_wordAgainPlace_59 rfl (lv_at hl 4 rfl) ?_
              refine lv_lload hx hb dX2_wordAgainPlace_60 (lv_at hl 0 rfl) ?_
              refine lv_land hx hb dX2_wordAgainPlace_62 ?_
              refine lv_lconst (v := 0) hx hb dX2_wordAgainPlace_63 (by decide) ?_
              refine W.lcmp hx hb dX2_wordAgainPlace_64 ?_
              refine lv_if_eq (tgt := 71) hx hb dX2_wordAgainPlace_65 (by decide) (fun c_65 => ?_) (fun c_65 => ?_)
              · refine lv_lload_n hx hb dX2_wordAgainPlace_71 rfl (lv_at hl 4 rfl) ?_
                refine lv_lload hx hb dX2_wordAgainPlace_72 (lv_at hl 0 rfl) ?_
                refine lv_lor hx hb dX2_wordAgainPlace_74 ?_
                refine lv_lstore_n (lv' := [(3, .long ((rg_ra (rg_cwd M j) sp ||| rg_ws (M.1 (v + 1)) i) ||| ((1 : Int64) <<< ((M.1 (v + 1) i).toInt64 &&& 63)))), (6, .long ((1 : Int64) <<< ((M.1 (v + 1) i).toInt64 &&& 63))), (0, .ref (B + 89)), (1, .ref (B + v)), (2, .int (nI j)), (5, .int (nI i))]) hx hb dX2_wordAgainPlace_75 rfl hl (by decide) rfl (fun ls hl => ?_)
                refine lv_iinc (v := nI (i + 1)) (lv' := [(5, .int (nI (i + 1))), (3, .long ((rg_ra (rg_cwd M j) sp ||| rg_ws (M.1 (v + 1)) i) ||| ((1 : Int64) <<< ((M.1 (v + 1) i).toInt64 &&& 63)))), (6, .long ((1 : Int64) <<< ((M.1 (v + 1) i).toInt64 &&& 63))), (0, .ref (B + 89)), (1, .ref (B + v)), (2, .int (nI j))]) hx hb dX2_wordAgainPlace_76 hl (k := 5) rfl (nI_1 _) (by decide) rfl (fun ls hl => ?_)
                refine lv_goto (tgt := 40) hx hb dX2_wordAgainPlace_79 (by decide) ?_
                rw [Int64.or_assoc] at hl
                exact ih (i + 1) (by omega) _ _ _ hH (lv_sub hl [3, 4, 5, 1, 0] rfl) (by exact rg_ff_n hf hlt (by simp only [rg_ag, decide_eq_true_eq]; exact fun q => q (rg_cmp0.mp c_65)))
              · refine lv_iload hx hb dX2_wordAgainPlace_68 (lv_at hl 5 rfl) ?_
                exact rg_retRi C0 hH hr hlocks rfl (by exact rg_ff_y hf hlt (by simp only [rg_ag, decide_eq_true_eq]; exact fun q => c_65 (rg_cmp0.mpr q))) dX2_wordAgainPlace_70
        have ha0 : a = rg_ra (rg_cwd M j) sp ||| rg_ws (M.1 (v + 1)) 0 := by
          have q : i = 0 := by
            rcases Nat.eq_zero_or_pos i with q | q
            · exact q
            · exact absurd c_16 (rg_subd0 q (by omega) (by omega))
          subst q; rw [← ha]; show a = (a ||| 0) ||| 0; rw [Int64.or_zero, Int64.or_zero]
        rw [ha0] at hl
        exact cut_40 (n + 1) 0 (by omega) _ _ _ hH (lv_sub hl [1, 2, 3, 4, 0] rfl) (by rfl)
      · obtain ⟨q, rfl⟩ : ∃ q, i = q + 1 := ⟨i - 1, by
          rcases Nat.eq_zero_or_pos i with q | q
          · subst q; exact absurd (rg_subz.symm ▸ Int32.le_refl _) c_16
          · omega⟩
        refine lv_lload_n hx hb dX2_wordAgainPlace_19 rfl (lv_at hl 3 rfl) ?_
        refine lv_aload_n hx hb dX2_wordAgainPlace_20 rfl (lv_at hl 0 rfl) ?_
        refine rg_gR C0 hH (o2 := 6) (ci := 2) (k := 1) (o := 89) rfl rfl inT_X2 (by decide) tw_f_X2_15 (by decide) rfl (by decide) rfl dX2_wordAgainPlace_21 ?_
        refine lv_iload hx hb dX2_wordAgainPlace_24 (lv_at hl 4 rfl) ?_
        refine rg_callGl C0 hH (As := [.int (nI j - nI ((q + 1)))]) (rest := [.long (a)]) (o := 6) (ci := 1) (k_X1_wordSetAt l E B M (nI j - nI ((q + 1))) (by exact rg_mn_of hmd hnl)) (rg_cw 1 C0.1.2.2.2.2 tw_m_X2_86 tw_i_X1_wordSetAt tw_v_X1_wordSetAt tw_n_X1 tw_c_X1_wordSetAt rfl rfl hd_X1_wordSetAt ⟨Nat.le_of_ble_eq_true rfl, Nat.le_of_ble_eq_true rfl⟩) rfl (by decide) rfl (by decide) rfl hl.1 rfl (Nat.le_of_ble_eq_true rfl) dX2_wordAgainPlace_26 ⟨Nat.le_of_ble_eq_true rfl, Nat.le_of_ble_eq_true rfl⟩ (fun H locs hH => ?_)
        refine rg_topl (y := rg_cwd M j (q + 1)) (by exact rg_atd hmd hnl hj (by omega) (by omega) (fun k => M.2 (17 + 2 * k) 5) 0) ?_
        refine lv_lor hx hb dX2_wordAgainPlace_29 ?_
        refine lv_lstore_n (lv' := [(3, .long (a ||| (rg_cwd M j (q + 1)))), (0, .ref (B + 89)), (1, .ref (B + v)), (2, .int (nI j)), (5, .int (nI j - nI ((q + 1))))]) hx hb dX2_wordAgainPlace_30 rfl hl (by decide) rfl (fun ls hl => ?_)
        refine lv_iinc (v := nI j - nI q) (lv' := [(5, .int (nI j - nI q)), (3, .long (a ||| (rg_cwd M j (q + 1)))), (0, .ref (B + 89)), (1, .ref (B + v)), (2, .int (nI j))]) hx hb dX2_wordAgainPlace_31 hl (k := 4) rfl rg_subd (by decide) rfl (fun ls hl => ?_)
        refine lv_goto (tgt := 13) hx hb dX2_wordAgainPlace_34 (by decide) ?_
        exact ih q (by omega) (a ||| rg_cwd M j (q + 1)) _ _ _ hH (lv_sub hl [2, 3, 4, 1, 0] rfl) (by rw [Int64.or_assoc]; exact ha)
  exact cut_13 (sp + 1) sp (by omega) 0 _ _ _ hH (lv_sub hl [2, 3, 4, 1, 0] rfl) (by exact Int64.zero_or)

set_option maxHeartbeats 4000000 in
set_option maxRecDepth 100000 in
/-- Scribe.joins -/
theorem k_X2_joins (l : Launch) (E : rg_Env) (B : Nat) (M : rg_Mem) (v : Nat) (n : Nat) (a : Nat) (nl : Nat) (hv : rg_isV v) (hvs : rg_VS M v n) (hn : rg_cn M) (hmd : M.1 6 4 = nI nl) (hnl : nl ≤ 36) (ha : a < nl) : Met l yX2_joins (rg_w yX2_joins cX2_joins 6 (some (FieldType.boolean))) ({ frames := 2, cells := 0, slots := 0, locals := 42 } : Room) (va_Pc [.ref (B + 89), .ref (B + v), .int (nI a)] (rg_Pre E B 422 rg_R0 M)) (rg_Ri E B 422 rg_R0 (M) (fun r => r = rg_b (rg_jn M v n a))) 0 0 (rg_A B) := by
  refine rg_ofW (by decide +kernel) rfl (Nat.le_of_ble_eq_true rfl) ?_
  intro p e s m args below meth c ls C0 hH hl hr hlocks hnm
  replace hl : lv_has ls 6 [(0, .ref (B + 89)), (1, .ref (B + v)), (2, .int (nI a))] := hl
  have hx := C0.1.1
  have hb := C0.1.2.1
  generalize hH9 : s.heap = H at hH ⊢
  generalize hL9 : ([] : List Loc) = locs at hH ⊢
  clear hH9 hL9
  refine lv_aload_n hx hb dX2_joins_0 rfl (lv_at hl 1 rfl) ?_
  refine rg_nI C0 hH (ci := 5) (k := 4) (o := v) rfl inT_X5 (by decide) (by decide) (rg_isV_lt hv) hv.2 (by decide) rfl dX2_joins_1 ?_
  refine lv_aload_n hx hb dX2_joins_4 rfl (lv_at hl 0 rfl) ?_
  refine rg_gR C0 hH (o2 := 6) (ci := 2) (k := 1) (o := 89) rfl rfl inT_X2 (by decide) tw_f_X2_15 (by decide) rfl (by decide) rfl dX2_joins_5 ?_
  refine lv_iload_n hx hb dX2_joins_8 rfl (lv_at hl 2 rfl) ?_
  refine rg_callGi C0 hH (As := [.int (nI a)]) (rest := [.int (M.1 v 4)]) (o := 6) (ci := 1) (k_X1_signsAt l E B M (nI a) (by exact rg_mn_of hmd hnl)) (rg_cw 1 C0.1.2.2.2.2 tw_m_X2_53 tw_i_X1_signsAt tw_v_X1_signsAt tw_n_X1 tw_c_X1_signsAt rfl rfl hd_X1_signsAt ⟨Nat.le_of_ble_eq_true rfl, Nat.le_of_ble_eq_true rfl⟩) rfl (by decide) rfl (by decide) rfl hl.1 rfl (Nat.le_of_ble_eq_true rfl) dX2_joins_9 ⟨Nat.le_of_ble_eq_true rfl, Nat.le_of_ble_eq_true rfl⟩ (fun H locs hH => ?_)
  refine rg_topi (y := M.1 (17 + 2 * a) 4) (by exact rg_atk hmd hnl ha (fun k => M.1 (17 + 2 * k) 4) 0) ?_
  refine lv_iand hx hb dX2_joins_12 ?_
  refine lv_sipush (v := 255) hx hb dX2_joins_13 (by decide) ?_
  refine lv_iand hx hb dX2_joins_16 ?_
  refine lv_if_eq (tgt := 22) hx hb dX2_joins_17 (by decide) (fun c_17 => ?_) (fun c_17 => ?_)
  · refine lv_aload_n hx hb dX2_joins_22 rfl (lv_at hl 0 rfl) ?_
    refine rg_gR C0 hH (o2 := 6) (ci := 2) (k := 1) (o := 89) rfl rfl inT_X2 (by decide) tw_f_X2_15 (by decide) rfl (by decide) rfl dX2_joins_23 ?_
    refine lv_iload_n hx hb dX2_joins_26 rfl (lv_at hl 2 rfl) ?_
    refine rg_callGl C0 hH (As := [.int (nI a)]) (rest := []) (o := 6) (ci := 1) (k_X1_wordSetAt l E B M (nI a) (by exact rg_mn_of hmd hnl)) (rg_cw 1 C0.1.2.2.2.2 tw_m_X2_86 tw_i_X1_wordSetAt tw_v_X1_wordSetAt tw_n_X1 tw_c_X1_wordSetAt rfl rfl hd_X1_wordSetAt ⟨Nat.le_of_ble_eq_true rfl, Nat.le_of_ble_eq_true rfl⟩) rfl (by decide) rfl (by decide) rfl hl.1 rfl (Nat.le_of_ble_eq_true rfl) dX2_joins_27 ⟨Nat.le_of_ble_eq_true rfl, Nat.le_of_ble_eq_true rfl⟩ (fun H locs hH => ?_)
    refine rg_topl (y := M.2 (17 + 2 * a) 5) (by exact rg_atk hmd hnl ha (fun k => M.2 (17 + 2 * k) 5) 0) ?_
    refine lv_lstore_n (lv' := [(3, .long (M.2 (17 + 2 * a) 5)), (0, .ref (B + 89)), (1, .ref (B + v)), (2, .int (nI a))]) hx hb dX2_joins_30 rfl hl (by decide) rfl (fun ls hl => ?_)
    refine lv_iconst (v := 0) hx hb dX2_joins_31 (by decide) ?_
    refine lv_istore (lv' := [(5, .int (0)), (3, .long (M.2 (17 + 2 * a) 5)), (0, .ref (B + 89)), (1, .ref (B + v)), (2, .int (nI a))]) hx hb dX2_joins_32 hl (by decide) rfl (fun ls hl => ?_)
    have cut_34 : ∀ (fu i : Nat), i ≤ n ∧ n < i + fu → ∀  (H : Heap) (locs : List Loc) (ls : Array Slot), rg_H E B 422 rg_R0 M s H locs → lv_has ls 6 [(0, .ref (B + 89)), (1, .ref (B + v)), (3, .long (M.2 (17 + 2 * a) 5)), (5, .int (nI i))] → (rg_ex (rg_jc M v a) (n - i) i = rg_ex (rg_jc M v a) n 0) → W p l e ({ frames := 2, cells := 0, slots := 0, locals := 42 } : Room) s m args below meth c H locs 0 0 (MQ below (rg_Ri E B 422 rg_R0 (M) (fun r => r = rg_b (rg_jn M v n a))) args s 0 0 (rg_A B)) (F0 m 34 ls []) := by
      intro fu
      induction fu with
      | zero =>
        intro i hm
        exact absurd hm (by omega)
      | succ fu ih =>
        intro i hm  H locs ls hH hl hf
        refine lv_iload hx hb dX2_joins_34 (lv_at hl 3 rfl) ?_
        refine lv_aload_n hx hb dX2_joins_36 rfl (lv_at hl 1 rfl) ?_
        refine rg_nI C0 hH (ci := 5) (k := 1) (o := v) rfl inT_X5 (by decide) (by decide) (rg_isV_lt hv) hv.2 (by decide) rfl dX2_joins_37 ?_
        refine rg_topi (y := nI n) (by exact hvs.1) ?_
        refine lv_icmp_ge (tgt := 71) hx hb dX2_joins_40 (by decide) (fun c_40 => ?_) (fun c_40 => ?_)
        · refine lv_iconst (v := 0) hx hb dX2_joins_71 (by decide) ?_
          exact rg_retRz C0 hH hr hlocks (Or.inl rfl) rfl (by have q := rg_lp_end hm.1 (by have := hvs.2.1; omega) c_40; subst q; rw [Nat.sub_self] at hf; exact rg_b_f (fun q => q.elim (fun z => z c_17) (fun z => absurd (hf.trans z) (by simp [rg_ex])))) dX2_joins_72
        · have hlt : i < n := rg_lp_lt hm.1 (by have := hvs.2.1; omega) c_40
          refine lv_aload_n hx hb dX2_joins_43 rfl (lv_at hl 0 rfl) ?_
          refine rg_gR C0 hH (o2 := 1) (ci := 2) (k := 0) (o := 89) rfl rfl inT_X2 (by decide) tw_f_X2_9 (by decide) rfl (by decide) rfl dX2_joins_44 ?_
          refine lv_aload_n hx hb dX2_joins_47 rfl (lv_at hl 1 rfl) ?_
          refine lv_iload hx hb dX2_joins_48 (lv_at hl 3 rfl) ?_
          refine rg_callGi C0 hH (As := [.int (nI i)]) (rest := [.ref (B + 1)]) (o := v) (ci := 5) (k_X5_wordOrNone l E B M v (nI i) (by assumption)) (rg_cw 1 C0.1.2.2.2.2 tw_m_X2_75 tw_i_X5_wordOrNone tw_v_X5_wordOrNone tw_n_X5 tw_c_X5_wordOrNone rfl rfl hd_X5_wordOrNone ⟨Nat.le_of_ble_eq_true rfl, Nat.le_of_ble_eq_true rfl⟩) rfl (rg_isV_lt hv) hv.2 (by decide) rfl hl.1 rfl (Nat.le_of_ble_eq_true rfl) dX2_joins_50 ⟨Nat.le_of_ble_eq_true rfl, Nat.le_of_ble_eq_true rfl⟩ (fun H locs hH => ?_)
          refine rg_topi (y := M.1 (v + 1) i) (by exact rg_wn_k hvs.1 hvs.2.1 hlt) ?_
          refine rg_callGl C0 hH (As := [.int (M.1 (v + 1) i)]) (rest := []) (o := 1) (ci := 4) (k_X4_calledBy l E B M (M.1 (v + 1) i) (by assumption)) (rg_cw 1 C0.1.2.2.2.2 tw_m_X2_90 tw_i_X4_calledBy tw_v_X4_calledBy tw_n_X4 tw_c_X4_calledBy rfl rfl hd_X4_calledBy ⟨Nat.le_of_ble_eq_true rfl, Nat.le_of_ble_eq_true rfl⟩) rfl (by decide) rfl (by decide) rfl hl.1 rfl (Nat.le_of_ble_eq_true rfl) dX2_joins_53 ⟨Nat.le_of_ble_eq_true rfl, Nat.le_of_ble_eq_true rfl⟩ (fun H locs hH => ?_)
          refine rg_topl (y := M.2 5 (M.1 (v + 1) i).toNatClampNeg) (by rw [if_pos (hvs.2.2.1 i hlt)]) ?_
          refine lv_lload_n hx hb dX2_joins_56 rfl (lv_at hl 2 rfl) ?_
          refine lv_land hx hb dX2_joins_57 ?_
          refine lv_lconst (v := 0) hx hb dX2_joins_58 (by decide) ?_
          refine W.lcmp hx hb dX2_joins_59 ?_
          refine lv_if_eq (tgt := 65) hx hb dX2_joins_60 (by decide) (fun c_60 => ?_) (fun c_60 => ?_)
          · refine lv_iinc (v := nI (i + 1)) (lv' := [(5, .int (nI (i + 1))), (0, .ref (B + 89)), (1, .ref (B + v)), (3, .long (M.2 (17 + 2 * a) 5))]) hx hb dX2_joins_65 hl (k := 3) rfl (nI_1 _) (by decide) rfl (fun ls hl => ?_)
            refine lv_goto (tgt := 34) hx hb dX2_joins_68 (by decide) ?_
            exact ih (i + 1) (by omega) _ _ _ hH (lv_sub hl [1, 2, 3, 0] rfl) (by exact rg_ex_n hf hlt (by simp only [rg_jc, decide_eq_true_eq]; exact fun q => q (rg_cmp0.mp c_60)))
          · refine lv_iconst (v := 1) hx hb dX2_joins_63 (by decide) ?_
            exact rg_retRz C0 hH hr hlocks (Or.inr rfl) rfl (by exact rg_b_t (Or.inr (rg_ex_y hf hlt (by simp only [rg_jc, decide_eq_true_eq]; exact fun q => c_60 (rg_cmp0.mpr q))))) dX2_joins_64
    exact cut_34 (n + 1) 0 (by omega) _ _ _ hH (lv_sub hl [2, 3, 1, 0] rfl) (by rfl)
  · refine lv_iconst (v := 1) hx hb dX2_joins_20 (by decide) ?_
    exact rg_retRz C0 hH hr hlocks (Or.inr rfl) rfl (by exact rg_b_t (Or.inl c_17)) dX2_joins_21

set_option maxHeartbeats 4000000 in
set_option maxRecDepth 100000 in
/-- Scribe.lowestSubject -/
theorem k_X2_lowestSubject (l : Launch) (E : rg_Env) (B : Nat) (M : rg_Mem) (x : Int32) : Met l yX2_lowestSubject (rg_w yX2_lowestSubject cX2_lowestSubject 3 (some (FieldType.int))) ({ frames := 0, cells := 0, slots := 0, locals := 0 } : Room) (va_Pc [.ref (B + 89), .int (x)] (rg_Pre E B 422 rg_R0 M)) (rg_Ri E B 422 rg_R0 (M) (fun r => r = rg_ff (rg_lw x) 8 0)) 0 0 (rg_A B) := by
  refine rg_ofW (by decide +kernel) rfl (Nat.le_of_ble_eq_true rfl) ?_
  intro p e s m args below meth c ls C0 hH hl hr hlocks hnm
  replace hl : lv_has ls 3 [(0, .ref (B + 89)), (1, .int (x))] := hl
  have hx := C0.1.1
  have hb := C0.1.2.1
  generalize hH9 : s.heap = H at hH ⊢
  generalize hL9 : ([] : List Loc) = locs at hH ⊢
  clear hH9 hL9
  refine lv_iconst (v := 0) hx hb dX2_lowestSubject_0 (by decide) ?_
  refine lv_istore_n (lv' := [(2, .int (0)), (0, .ref (B + 89)), (1, .int (x))]) hx hb dX2_lowestSubject_1 rfl hl (by decide) rfl (fun ls hl => ?_)
  have cut_2 : ∀ (fu i : Nat), i ≤ 8 ∧ 8 < i + fu → ∀  (H : Heap) (locs : List Loc) (ls : Array Slot), rg_H E B 422 rg_R0 M s H locs → lv_has ls 3 [(0, .ref (B + 89)), (1, .int (x)), (2, .int (nI i))] → (rg_ff (rg_lw x) (8 - i) i = rg_ff (rg_lw x) 8 0) → W p l e ({ frames := 0, cells := 0, slots := 0, locals := 0 } : Room) s m args below meth c H locs 0 0 (MQ below (rg_Ri E B 422 rg_R0 (M) (fun r => r = rg_ff (rg_lw x) 8 0)) args s 0 0 (rg_A B)) (F0 m 2 ls []) := by
    intro fu
    induction fu with
    | zero =>
      intro i hm
      exact absurd hm (by omega)
    | succ fu ih =>
      intro i hm  H locs ls hH hl hf
      refine lv_iload_n hx hb dX2_lowestSubject_2 rfl (lv_at hl 2 rfl) ?_
      refine lv_bipush (v := 8) hx hb dX2_lowestSubject_3 (by decide) ?_
      refine lv_icmp_ge (tgt := 24) hx hb dX2_lowestSubject_5 (by decide) (fun c_5 => ?_) (fun c_5 => ?_)
      · refine lv_iconst (v := (-1)) hx hb dX2_lowestSubject_24 (by decide) ?_
        exact rg_retRi C0 hH hr hlocks rfl (by have q := rg_lp_end (n := 8) hm.1 (by omega) c_5; subst q; exact rg_ff_e hf) dX2_lowestSubject_25
      · have hlt : i < 8 := rg_lp_lt (n := 8) hm.1 (by omega) c_5
        refine lv_iload_n hx hb dX2_lowestSubject_8 rfl (lv_at hl 1 rfl) ?_
        refine lv_iload_n hx hb dX2_lowestSubject_9 rfl (lv_at hl 2 rfl) ?_
        refine lv_ishr hx hb dX2_lowestSubject_10 ?_
        refine lv_iconst (v := 1) hx hb dX2_lowestSubject_11 (by decide) ?_
        refine lv_iand hx hb dX2_lowestSubject_12 ?_
        refine lv_if_eq (tgt := 18) hx hb dX2_lowestSubject_13 (by decide) (fun c_13 => ?_) (fun c_13 => ?_)
        · refine lv_iinc (v := nI (i + 1)) (lv' := [(2, .int (nI (i + 1))), (0, .ref (B + 89)), (1, .int (x))]) hx hb dX2_lowestSubject_18 hl (k := 2) rfl (nI_1 _) (by decide) rfl (fun ls hl => ?_)
          refine lv_goto (tgt := 2) hx hb dX2_lowestSubject_21 (by decide) ?_
          exact ih (i + 1) (by omega) _ _ _ hH (lv_sub hl [1, 2, 0] rfl) (by exact rg_ff_n hf hlt (by simp only [rg_lw, decide_eq_true_eq]; exact fun q => q c_13))
        · refine lv_iload_n hx hb dX2_lowestSubject_16 rfl (lv_at hl 2 rfl) ?_
          exact rg_retRi C0 hH hr hlocks rfl (by exact rg_ff_y hf hlt (by simp only [rg_lw, decide_eq_true_eq]; exact c_13)) dX2_lowestSubject_17
  exact cut_2 9 0 (by omega) _ _ _ hH (lv_sub hl [1, 2, 0] rfl) (by rfl)

set_option maxHeartbeats 4000000 in
set_option maxRecDepth 100000 in
/-- Scribe.isLong -/
theorem k_X2_isLong (l : Launch) (E : rg_Env) (B : Nat) (M : rg_Mem) (x : Int32) : Met l yX2_isLong (rg_w yX2_isLong cX2_isLong 2 (some (FieldType.boolean))) ({ frames := 0, cells := 0, slots := 0, locals := 0 } : Room) (va_Pc [.ref (B + 89), .int (x)] (rg_Pre E B 422 rg_R0 M)) (rg_Ri E B 422 rg_R0 (M) (fun r => r = rg_b (rg_lg x))) 0 0 (rg_A B) := by
  refine rg_ofW (by decide +kernel) rfl (Nat.le_of_ble_eq_true rfl) ?_
  intro p e s m args below meth c ls C0 hH hl hr hlocks hnm
  replace hl : lv_has ls 2 [(0, .ref (B + 89)), (1, .int (x))] := hl
  have hx := C0.1.1
  have hb := C0.1.2.1
  generalize hH9 : s.heap = H at hH ⊢
  generalize hL9 : ([] : List Loc) = locs at hH ⊢
  clear hH9 hL9
  refine lv_iload_n hx hb dX2_isLong_0 rfl (lv_at hl 1 rfl) ?_
  refine lv_if_eq (tgt := 9) hx hb dX2_isLong_1 (by decide) (fun c_1 => ?_) (fun c_1 => ?_)
  · refine lv_iconst (v := 1) hx hb dX2_isLong_9 (by decide) ?_
    refine lv_goto (tgt := 14) hx hb dX2_isLong_10 (by decide) ?_
    exact rg_retRz C0 hH hr hlocks (Or.inr rfl) rfl (by simp_all [rg_b, rg_lg]) dX2_isLong_14
  · refine lv_iload_n hx hb dX2_isLong_4 rfl (lv_at hl 1 rfl) ?_
    refine lv_iconst (v := 2) hx hb dX2_isLong_5 (by decide) ?_
    refine lv_icmp_ne (tgt := 13) hx hb dX2_isLong_6 (by decide) (fun c_6 => ?_) (fun c_6 => ?_)
    · refine lv_iconst (v := 0) hx hb dX2_isLong_13 (by decide) ?_
      exact rg_retRz C0 hH hr hlocks (Or.inl rfl) rfl (by simp_all [rg_b, rg_lg]) dX2_isLong_14
    · refine lv_iconst (v := 1) hx hb dX2_isLong_9 (by decide) ?_
      refine lv_goto (tgt := 14) hx hb dX2_isLong_10 (by decide) ?_
      exact rg_retRz C0 hH hr hlocks (Or.inr rfl) rfl (by simp_all [rg_b, rg_lg]) dX2_isLong_14

set_option maxHeartbeats 4000000 in
set_option maxRecDepth 100000 in
/-- Scribe.leastRun -/
theorem k_X2_leastRun (l : Launch) (E : rg_Env) (B : Nat) (M : rg_Mem) (x : Int32) : Met l yX2_leastRun (rg_w yX2_leastRun cX2_leastRun 2 (some (FieldType.int))) ({ frames := 1, cells := 0, slots := 0, locals := 21 } : Room) (va_Pc [.ref (B + 89), .int (x)] (rg_Pre E B 422 rg_R0 M)) (rg_Ri E B 422 rg_R0 (M) (fun r => r = if rg_lg x then 3 else 1)) 0 0 (rg_A B) := by
  refine rg_ofW (by decide +kernel) rfl (Nat.le_of_ble_eq_true rfl) ?_
  intro p e s m args below meth c ls C0 hH hl hr hlocks hnm
  replace hl : lv_has ls 2 [(0, .ref (B + 89)), (1, .int (x))] := hl
  have hx := C0.1.1
  have hb := C0.1.2.1
  generalize hH9 : s.heap = H at hH ⊢
  generalize hL9 : ([] : List Loc) = locs at hH ⊢
  clear hH9 hL9
  refine lv_aload_n hx hb dX2_leastRun_0 rfl (lv_at hl 0 rfl) ?_
  refine lv_iload_n hx hb dX2_leastRun_1 rfl (lv_at hl 1 rfl) ?_
  refine rg_callGi C0 hH (As := [.int (x)]) (rest := []) (o := 89) (ci := 2) (k_X2_isLong l E B M x) (rg_cw 1 C0.1.2.2.2.2 tw_m_X2_109 tw_i_X2_isLong tw_v_X2_isLong tw_n_X2 tw_c_X2_isLong rfl rfl hd_X2_isLong ⟨Nat.le_of_ble_eq_true rfl, Nat.le_of_ble_eq_true rfl⟩) rfl (by decide) rfl (by decide) rfl hl.1 rfl (Nat.le_of_ble_eq_true rfl) dX2_leastRun_2 ⟨Nat.le_of_ble_eq_true rfl, Nat.le_of_ble_eq_true rfl⟩ (fun H locs hH => ?_)
  refine lv_if_eq (tgt := 12) hx hb dX2_leastRun_5 (by decide) (fun c_5 => ?_) (fun c_5 => ?_)
  · refine lv_iconst (v := 1) hx hb dX2_leastRun_12 (by decide) ?_
    exact rg_retRi C0 hH hr hlocks rfl (by first | rw [if_pos (rg_b_ne.mp c_5)] | rw [if_neg (rg_b_eq.mp c_5)]) dX2_leastRun_13
  · refine lv_iconst (v := 3) hx hb dX2_leastRun_8 (by decide) ?_
    refine lv_goto (tgt := 13) hx hb dX2_leastRun_9 (by decide) ?_
    exact rg_retRi C0 hH hr hlocks rfl (by first | rw [if_pos (rg_b_ne.mp c_5)] | rw [if_neg (rg_b_eq.mp c_5)]) dX2_leastRun_13

set_option maxHeartbeats 4000000 in
set_option maxRecDepth 100000 in
/-- Scribe.mostRun -/
theorem k_X2_mostRun (l : Launch) (E : rg_Env) (B : Nat) (M : rg_Mem) (x : Int32) : Met l yX2_mostRun (rg_w yX2_mostRun cX2_mostRun 2 (some (FieldType.int))) ({ frames := 1, cells := 0, slots := 0, locals := 21 } : Room) (va_Pc [.ref (B + 89), .int (x)] (rg_Pre E B 422 rg_R0 M)) (rg_Ri E B 422 rg_R0 (M) (fun r => r = if rg_lg x then 5 else 3)) 0 0 (rg_A B) := by
  refine rg_ofW (by decide +kernel) rfl (Nat.le_of_ble_eq_true rfl) ?_
  intro p e s m args below meth c ls C0 hH hl hr hlocks hnm
  replace hl : lv_has ls 2 [(0, .ref (B + 89)), (1, .int (x))] := hl
  have hx := C0.1.1
  have hb := C0.1.2.1
  generalize hH9 : s.heap = H at hH ⊢
  generalize hL9 : ([] : List Loc) = locs at hH ⊢
  clear hH9 hL9
  refine lv_aload_n hx hb dX2_mostRun_0 rfl (lv_at hl 0 rfl) ?_
  refine lv_iload_n hx hb dX2_mostRun_1 rfl (lv_at hl 1 rfl) ?_
  refine rg_callGi C0 hH (As := [.int (x)]) (rest := []) (o := 89) (ci := 2) (k_X2_isLong l E B M x) (rg_cw 1 C0.1.2.2.2.2 tw_m_X2_109 tw_i_X2_isLong tw_v_X2_isLong tw_n_X2 tw_c_X2_isLong rfl rfl hd_X2_isLong ⟨Nat.le_of_ble_eq_true rfl, Nat.le_of_ble_eq_true rfl⟩) rfl (by decide) rfl (by decide) rfl hl.1 rfl (Nat.le_of_ble_eq_true rfl) dX2_mostRun_2 ⟨Nat.le_of_ble_eq_true rfl, Nat.le_of_ble_eq_true rfl⟩ (fun H locs hH => ?_)
  refine lv_if_eq (tgt := 12) hx hb dX2_mostRun_5 (by decide) (fun c_5 => ?_) (fun c_5 => ?_)
  · refine lv_iconst (v := 3) hx hb dX2_mostRun_12 (by decide) ?_
    exact rg_retRi C0 hH hr hlocks rfl (by first | rw [if_pos (rg_b_ne.mp c_5)] | rw [if_neg (rg_b_eq.mp c_5)]) dX2_mostRun_13
  · refine lv_iconst (v := 5) hx hb dX2_mostRun_8 (by decide) ?_
    refine lv_goto (tgt := 13) hx hb dX2_mostRun_9 (by decide) ?_
    exact rg_retRi C0 hH hr hlocks rfl (by first | rw [if_pos (rg_b_ne.mp c_5)] | rw [if_neg (rg_b_eq.mp c_5)]) dX2_mostRun_13

set_option maxHeartbeats 4000000 in
set_option maxRecDepth 100000 in
/-- Scribe.wrongSeat -/
theorem k_X2_wrongSeat (l : Launch) (E : rg_Env) (B : Nat) (M : rg_Mem) (x : Int32) (y : Int32) : Met l yX2_wrongSeat (rg_w yX2_wrongSeat cX2_wrongSeat 5 (some (FieldType.int))) ({ frames := 0, cells := 0, slots := 0, locals := 0 } : Room) (va_Pc [.ref (B + 89), .int (x), .int (y)] (rg_Pre E B 422 rg_R0 M)) (rg_Ri E B 422 rg_R0 (M) (fun r => r = rg_wst x y)) 0 0 (rg_A B) := by
  refine rg_ofW (by decide +kernel) rfl (Nat.le_of_ble_eq_true rfl) ?_
  intro p e s m args below meth c ls C0 hH hl hr hlocks hnm
  replace hl : lv_has ls 5 [(0, .ref (B + 89)), (1, .int (x)), (2, .int (y))] := hl
  have hx := C0.1.1
  have hb := C0.1.2.1
  generalize hH9 : s.heap = H at hH ⊢
  generalize hL9 : ([] : List Loc) = locs at hH ⊢
  clear hH9 hL9
  refine lv_iload_n hx hb dX2_wrongSeat_0 rfl (lv_at hl 1 rfl) ?_
  refine lv_bipush (v := 8) hx hb dX2_wrongSeat_1 (by decide) ?_
  refine lv_ishr hx hb dX2_wrongSeat_3 ?_
  refine lv_iconst (v := 1) hx hb dX2_wrongSeat_4 (by decide) ?_
  refine lv_iand hx hb dX2_wrongSeat_5 ?_
  refine lv_if_eq (tgt := 13) hx hb dX2_wrongSeat_6 (by decide) (fun c_6 => ?_) (fun c_6 => ?_)
  · refine lv_iconst (v := 0) hx hb dX2_wrongSeat_13 (by decide) ?_
    refine lv_istore_n (lv' := [(3, .int (0)), (0, .ref (B + 89)), (1, .int (x)), (2, .int (y))]) hx hb dX2_wrongSeat_14 rfl hl (by decide) rfl (fun ls hl => ?_)
    refine lv_iload_n hx hb dX2_wrongSeat_15 rfl (lv_at hl 2 rfl) ?_
    refine lv_bipush (v := 9) hx hb dX2_wrongSeat_16 (by decide) ?_
    refine lv_ishr hx hb dX2_wrongSeat_18 ?_
    refine lv_iconst (v := 1) hx hb dX2_wrongSeat_19 (by decide) ?_
    refine lv_iand hx hb dX2_wrongSeat_20 ?_
    refine lv_if_eq (tgt := 28) hx hb dX2_wrongSeat_21 (by decide) (fun c_21 => ?_) (fun c_21 => ?_)
    · refine lv_iconst (v := 0) hx hb dX2_wrongSeat_28 (by decide) ?_
      refine lv_istore (lv' := [(4, .int (0)), (3, .int (0)), (0, .ref (B + 89)), (1, .int (x)), (2, .int (y))]) hx hb dX2_wrongSeat_29 hl (by decide) rfl (fun ls hl => ?_)
      refine lv_iload_n hx hb dX2_wrongSeat_31 rfl (lv_at hl 1 rfl) ?_
      refine lv_iload_n hx hb dX2_wrongSeat_32 rfl (lv_at hl 4 rfl) ?_
      refine lv_iconst (v := 1) hx hb dX2_wrongSeat_33 (by decide) ?_
      refine lv_icmp_ne (tgt := 41) hx hb dX2_wrongSeat_34 (by decide) (fun c_34 => ?_) (fun c_34 => ?_)
      · refine lv_iconst (v := 0) hx hb dX2_wrongSeat_41 (by decide) ?_
        refine lv_icmp_eq (tgt := 47) hx hb dX2_wrongSeat_42 (by decide) (fun c_42 => ?_) (fun c_42 => ?_)
        · refine lv_iload hx hb dX2_wrongSeat_47 (lv_at hl 0 rfl) ?_
          refine lv_iload_n hx hb dX2_wrongSeat_49 rfl (lv_at hl 4 rfl) ?_
          refine lv_iconst (v := 2) hx hb dX2_wrongSeat_50 (by decide) ?_
          refine lv_icmp_ne (tgt := 58) hx hb dX2_wrongSeat_51 (by decide) (fun c_51 => ?_) (fun c_51 => ?_)
          · refine lv_iconst (v := 0) hx hb dX2_wrongSeat_58 (by decide) ?_
            refine lv_icmp_eq (tgt := 66) hx hb dX2_wrongSeat_59 (by decide) (fun c_59 => ?_) (fun c_59 => ?_)
            · refine lv_iconst (v := (-1)) hx hb dX2_wrongSeat_66 (by decide) ?_
              exact rg_retRi C0 hH hr hlocks rfl (by simp_all [rg_wst]) dX2_wrongSeat_67
            · exact absurd c_59 (by decide)
          · refine lv_iconst (v := 1) hx hb dX2_wrongSeat_54 (by decide) ?_
            refine lv_goto (tgt := 59) hx hb dX2_wrongSeat_55 (by decide) ?_
            refine lv_icmp_eq (tgt := 66) hx hb dX2_wrongSeat_59 (by decide) (fun c_59 => ?_) (fun c_59 => ?_)
            · exact absurd c_59 (by decide)
            · refine lv_iconst (v := 2) hx hb dX2_wrongSeat_62 (by decide) ?_
              refine lv_goto (tgt := 67) hx hb dX2_wrongSeat_63 (by decide) ?_
              exact rg_retRi C0 hH hr hlocks rfl (by simp_all [rg_wst]) dX2_wrongSeat_67
        · exact absurd c_42 (by decide)
      · refine lv_iconst (v := 1) hx hb dX2_wrongSeat_37 (by decide) ?_
        refine lv_goto (tgt := 42) hx hb dX2_wrongSeat_38 (by decide) ?_
        refine lv_icmp_eq (tgt := 47) hx hb dX2_wrongSeat_42 (by decide) (fun c_42 => ?_) (fun c_42 => ?_)
        · exact absurd c_42 (by decide)
        · refine lv_iconst (v := 1) hx hb dX2_wrongSeat_45 (by decide) ?_
          exact rg_retRi C0 hH hr hlocks rfl (by simp_all [rg_wst]) dX2_wrongSeat_46
    · refine lv_iconst (v := 1) hx hb dX2_wrongSeat_24 (by decide) ?_
      refine lv_goto (tgt := 29) hx hb dX2_wrongSeat_25 (by decide) ?_
      refine lv_istore (lv' := [(4, .int (1)), (3, .int (0)), (0, .ref (B + 89)), (1, .int (x)), (2, .int (y))]) hx hb dX2_wrongSeat_29 hl (by decide) rfl (fun ls hl => ?_)
      refine lv_iload_n hx hb dX2_wrongSeat_31 rfl (lv_at hl 1 rfl) ?_
      refine lv_iload_n hx hb dX2_wrongSeat_32 rfl (lv_at hl 4 rfl) ?_
      refine lv_iconst (v := 1) hx hb dX2_wrongSeat_33 (by decide) ?_
      refine lv_icmp_ne (tgt := 41) hx hb dX2_wrongSeat_34 (by decide) (fun c_34 => ?_) (fun c_34 => ?_)
      · refine lv_iconst (v := 0) hx hb dX2_wrongSeat_41 (by decide) ?_
        refine lv_icmp_eq (tgt := 47) hx hb dX2_wrongSeat_42 (by decide) (fun c_42 => ?_) (fun c_42 => ?_)
        · refine lv_iload hx hb dX2_wrongSeat_47 (lv_at hl 0 rfl) ?_
          refine lv_iload_n hx hb dX2_wrongSeat_49 rfl (lv_at hl 4 rfl) ?_
          refine lv_iconst (v := 2) hx hb dX2_wrongSeat_50 (by decide) ?_
          refine lv_icmp_ne (tgt := 58) hx hb dX2_wrongSeat_51 (by decide) (fun c_51 => ?_) (fun c_51 => ?_)
          · refine lv_iconst (v := 0) hx hb dX2_wrongSeat_58 (by decide) ?_
            refine lv_icmp_eq (tgt := 66) hx hb dX2_wrongSeat_59 (by decide) (fun c_59 => ?_) (fun c_59 => ?_)
            · exact absurd c_59 (by decide)
            · refine lv_iconst (v := 2) hx hb dX2_wrongSeat_62 (by decide) ?_
              refine lv_goto (tgt := 67) hx hb dX2_wrongSeat_63 (by decide) ?_
              exact rg_retRi C0 hH hr hlocks rfl (by simp_all [rg_wst]) dX2_wrongSeat_67
          · refine lv_iconst (v := 1) hx hb dX2_wrongSeat_54 (by decide) ?_
            refine lv_goto (tgt := 59) hx hb dX2_wrongSeat_55 (by decide) ?_
            refine lv_icmp_eq (tgt := 66) hx hb dX2_wrongSeat_59 (by decide) (fun c_59 => ?_) (fun c_59 => ?_)
            · refine lv_iconst (v := (-1)) hx hb dX2_wrongSeat_66 (by decide) ?_
              exact rg_retRi C0 hH hr hlocks rfl (by simp_all [rg_wst]) dX2_wrongSeat_67
            · exact absurd c_59 (by decide)
        · exact absurd c_42 (by decide)
      · refine lv_iconst (v := 1) hx hb dX2_wrongSeat_37 (by decide) ?_
        refine lv_goto (tgt := 42) hx hb dX2_wrongSeat_38 (by decide) ?_
        refine lv_icmp_eq (tgt := 47) hx hb dX2_wrongSeat_42 (by decide) (fun c_42 => ?_) (fun c_42 => ?_)
        · exact absurd c_42 (by decide)
        · refine lv_iconst (v := 1) hx hb dX2_wrongSeat_45 (by decide) ?_
          exact rg_retRi C0 hH hr hlocks rfl (by simp_all [rg_wst]) dX2_wrongSeat_46
  · refine lv_iconst (v := 1) hx hb dX2_wrongSeat_9 (by decide) ?_
    refine lv_goto (tgt := 14) hx hb dX2_wrongSeat_10 (by decide) ?_
    refine lv_istore_n (lv' := [(3, .int (1)), (0, .ref (B + 89)), (1, .int (x)), (2, .int (y))]) hx hb dX2_wrongSeat_14 rfl hl (by decide) rfl (fun ls hl => ?_)
    refine lv_iload_n hx hb dX2_wrongSeat_15 rfl (lv_at hl 2 rfl) ?_
    refine lv_bipush (v := 9) hx hb dX2_wrongSeat_16 (by decide) ?_
    refine lv_ishr hx hb dX2_wrongSeat_18 ?_
    refine lv_iconst (v := 1) hx hb dX2_wrongSeat_19 (by decide) ?_
    refine lv_iand hx hb dX2_wrongSeat_20 ?_
    refine lv_if_eq (tgt := 28) hx hb dX2_wrongSeat_21 (by decide) (fun c_21 => ?_) (fun c_21 => ?_)
    · refine lv_iconst (v := 0) hx hb dX2_wrongSeat_28 (by decide) ?_
      refine lv_istore (lv' := [(4, .int (0)), (3, .int (1)), (0, .ref (B + 89)), (1, .int (x)), (2, .int (y))]) hx hb dX2_wrongSeat_29 hl (by decide) rfl (fun ls hl => ?_)
      refine lv_iload_n hx hb dX2_wrongSeat_31 rfl (lv_at hl 1 rfl) ?_
      refine lv_iload_n hx hb dX2_wrongSeat_32 rfl (lv_at hl 4 rfl) ?_
      refine lv_iconst (v := 1) hx hb dX2_wrongSeat_33 (by decide) ?_
      refine lv_icmp_ne (tgt := 41) hx hb dX2_wrongSeat_34 (by decide) (fun c_34 => ?_) (fun c_34 => ?_)
      · refine lv_iconst (v := 0) hx hb dX2_wrongSeat_41 (by decide) ?_
        refine lv_icmp_eq (tgt := 47) hx hb dX2_wrongSeat_42 (by decide) (fun c_42 => ?_) (fun c_42 => ?_)
        · exact absurd c_42 (by decide)
        · refine lv_iconst (v := 1) hx hb dX2_wrongSeat_45 (by decide) ?_
          exact rg_retRi C0 hH hr hlocks rfl (by simp_all [rg_wst]) dX2_wrongSeat_46
      · refine lv_iconst (v := 1) hx hb dX2_wrongSeat_37 (by decide) ?_
        refine lv_goto (tgt := 42) hx hb dX2_wrongSeat_38 (by decide) ?_
        refine lv_icmp_eq (tgt := 47) hx hb dX2_wrongSeat_42 (by decide) (fun c_42 => ?_) (fun c_42 => ?_)
        · refine lv_iload hx hb dX2_wrongSeat_47 (lv_at hl 0 rfl) ?_
          refine lv_iload_n hx hb dX2_wrongSeat_49 rfl (lv_at hl 4 rfl) ?_
          refine lv_iconst (v := 2) hx hb dX2_wrongSeat_50 (by decide) ?_
          refine lv_icmp_ne (tgt := 58) hx hb dX2_wrongSeat_51 (by decide) (fun c_51 => ?_) (fun c_51 => ?_)
          · refine lv_iconst (v := 0) hx hb dX2_wrongSeat_58 (by decide) ?_
            refine lv_icmp_eq (tgt := 66) hx hb dX2_wrongSeat_59 (by decide) (fun c_59 => ?_) (fun c_59 => ?_)
            · refine lv_iconst (v := (-1)) hx hb dX2_wrongSeat_66 (by decide) ?_
              exact rg_retRi C0 hH hr hlocks rfl (by simp_all [rg_wst]) dX2_wrongSeat_67
            · exact absurd c_59 (by decide)
          · refine lv_iconst (v := 1) hx hb dX2_wrongSeat_54 (by decide) ?_
            refine lv_goto (tgt := 59) hx hb dX2_wrongSeat_55 (by decide) ?_
            refine lv_icmp_eq (tgt := 66) hx hb dX2_wrongSeat_59 (by decide) (fun c_59 => ?_) (fun c_59 => ?_)
            · exact absurd c_59 (by decide)
            · refine lv_iconst (v := 2) hx hb dX2_wrongSeat_62 (by decide) ?_
              refine lv_goto (tgt := 67) hx hb dX2_wrongSeat_63 (by decide) ?_
              exact rg_retRi C0 hH hr hlocks rfl (by simp_all [rg_wst]) dX2_wrongSeat_67
        · exact absurd c_42 (by decide)
    · refine lv_iconst (v := 1) hx hb dX2_wrongSeat_24 (by decide) ?_
      refine lv_goto (tgt := 29) hx hb dX2_wrongSeat_25 (by decide) ?_
      refine lv_istore (lv' := [(4, .int (1)), (3, .int (1)), (0, .ref (B + 89)), (1, .int (x)), (2, .int (y))]) hx hb dX2_wrongSeat_29 hl (by decide) rfl (fun ls hl => ?_)
      refine lv_iload_n hx hb dX2_wrongSeat_31 rfl (lv_at hl 1 rfl) ?_
      refine lv_iload_n hx hb dX2_wrongSeat_32 rfl (lv_at hl 4 rfl) ?_
      refine lv_iconst (v := 1) hx hb dX2_wrongSeat_33 (by decide) ?_
      refine lv_icmp_ne (tgt := 41) hx hb dX2_wrongSeat_34 (by decide) (fun c_34 => ?_) (fun c_34 => ?_)
      · refine lv_iconst (v := 0) hx hb dX2_wrongSeat_41 (by decide) ?_
        refine lv_icmp_eq (tgt := 47) hx hb dX2_wrongSeat_42 (by decide) (fun c_42 => ?_) (fun c_42 => ?_)
        · exact absurd c_42 (by decide)
        · refine lv_iconst (v := 1) hx hb dX2_wrongSeat_45 (by decide) ?_
          exact rg_retRi C0 hH hr hlocks rfl (by simp_all [rg_wst]) dX2_wrongSeat_46
      · refine lv_iconst (v := 1) hx hb dX2_wrongSeat_37 (by decide) ?_
        refine lv_goto (tgt := 42) hx hb dX2_wrongSeat_38 (by decide) ?_
        refine lv_icmp_eq (tgt := 47) hx hb dX2_wrongSeat_42 (by decide) (fun c_42 => ?_) (fun c_42 => ?_)
        · refine lv_iload hx hb dX2_wrongSeat_47 (lv_at hl 0 rfl) ?_
          refine lv_iload_n hx hb dX2_wrongSeat_49 rfl (lv_at hl 4 rfl) ?_
          refine lv_iconst (v := 2) hx hb dX2_wrongSeat_50 (by decide) ?_
          refine lv_icmp_ne (tgt := 58) hx hb dX2_wrongSeat_51 (by decide) (fun c_51 => ?_) (fun c_51 => ?_)
          · refine lv_iconst (v := 0) hx hb dX2_wrongSeat_58 (by decide) ?_
            refine lv_icmp_eq (tgt := 66) hx hb dX2_wrongSeat_59 (by decide) (fun c_59 => ?_) (fun c_59 => ?_)
            · exact absurd c_59 (by decide)
            · refine lv_iconst (v := 2) hx hb dX2_wrongSeat_62 (by decide) ?_
              refine lv_goto (tgt := 67) hx hb dX2_wrongSeat_63 (by decide) ?_
              exact rg_retRi C0 hH hr hlocks rfl (by simp_all [rg_wst]) dX2_wrongSeat_67
          · refine lv_iconst (v := 1) hx hb dX2_wrongSeat_54 (by decide) ?_
            refine lv_goto (tgt := 59) hx hb dX2_wrongSeat_55 (by decide) ?_
            refine lv_icmp_eq (tgt := 66) hx hb dX2_wrongSeat_59 (by decide) (fun c_59 => ?_) (fun c_59 => ?_)
            · refine lv_iconst (v := (-1)) hx hb dX2_wrongSeat_66 (by decide) ?_
              exact rg_retRi C0 hH hr hlocks rfl (by simp_all [rg_wst]) dX2_wrongSeat_67
            · exact absurd c_59 (by decide)
        · exact absurd c_42 (by decide)

set_option maxHeartbeats 4000000 in
set_option maxRecDepth 100000 in
/-- Scribe.isLately -/
theorem k_X2_isLately (l : Launch) (E : rg_Env) (B : Nat) (M : rg_Mem) (x : Int32) (j : Nat) (nl : Nat) (hmd : M.1 6 4 = nI nl) (hnl : nl ≤ 36) (hj : j ≤ nl) : Met l yX2_isLately (rg_w yX2_isLately cX2_isLately 4 (some (FieldType.boolean))) ({ frames := 2, cells := 0, slots := 0, locals := 42 } : Room) (va_Pc [.ref (B + 89), .int (x), .int (nI j)] (rg_Pre E B 422 rg_R0 M)) (rg_Ri E B 422 rg_R0 (M) (fun r => r = rg_b (rg_lt4 (rg_la M j x) 4 = true))) 0 0 (rg_A B) := by
  refine rg_ofW (by decide +kernel) rfl (Nat.le_of_ble_eq_true rfl) ?_
  intro p e s m args below meth c ls C0 hH hl hr hlocks hnm
  replace hl : lv_has ls 4 [(0, .ref (B + 89)), (1, .int (x)), (2, .int (nI j))] := hl
  have hx := C0.1.1
  have hb := C0.1.2.1
  generalize hH9 : s.heap = H at hH ⊢
  generalize hL9 : ([] : List Loc) = locs at hH ⊢
  clear hH9 hL9
  refine lv_iload_n hx hb dX2_isLately_0 rfl (lv_at hl 2 rfl) ?_
  refine lv_iconst (v := 4) hx hb dX2_isLately_1 (by decide) ?_
  refine lv_isub hx hb dX2_isLately_2 ?_
  refine lv_istore_n (lv' := [(3, .int ((nI j) - 4)), (0, .ref (B + 89)), (1, .int (x)), (2, .int (nI j))]) hx hb dX2_isLately_3 rfl hl (by decide) rfl (fun ls hl => ?_)
  have cut_4 : ∀ (fu i : Nat), i ≤ 4 ∧ i < fu → ∀  (H : Heap) (locs : List Loc) (ls : Array Slot), rg_H E B 422 rg_R0 M s H locs → lv_has ls 4 [(0, .ref (B + 89)), (1, .int (x)), (2, .int (nI j)), (3, .int (nI j - nI i))] → (rg_lt4 (rg_la M j x) i = rg_lt4 (rg_la M j x) 4) → W p l e ({ frames := 2, cells := 0, slots := 0, locals := 42 } : Room) s m args below meth c H locs 0 0 (MQ below (rg_Ri E B 422 rg_R0 (M) (fun r => r = rg_b (rg_lt4 (rg_la M j x) 4 = true))) args s 0 0 (rg_A B)) (F0 m 4 ls []) := by
    intro fu
    induction fu with
    | zero =>
      intro i hm
      exact absurd hm (by omega)
    | succ fu ih =>
      intro i hm  H locs ls hH hl hf
      refine lv_iload_n hx hb dX2_isLately_4 rfl (lv_at hl 3 rfl) ?_
      refine lv_iload_n hx hb dX2_isLately_5 rfl (lv_at hl 2 rfl) ?_
      refine lv_icmp_ge (tgt := 29) hx hb dX2_isLately_6 (by decide) (fun c_6 => ?_) (fun c_6 => ?_)
      · refine lv_iconst (v := 0) hx hb dX2_isLately_29 (by decide) ?_
        exact rg_retRz C0 hH hr hlocks (Or.inl rfl) rfl (by have q : i = 0 := (by rcases Nat.eq_zero_or_pos i with q | q; exact q; exact absurd c_6 (rg_subd0 q (by omega) (by omega))); subst q; rw [← hf]; rfl) dX2_isLately_30
      · obtain ⟨q, rfl⟩ : ∃ q, i = q + 1 := ⟨i - 1, by
          rcases Nat.eq_zero_or_pos i with q | q
          · subst q; exact absurd (rg_subz.symm ▸ Int32.le_refl _) c_6
          · omega⟩
        refine lv_aload_n hx hb dX2_isLately_9 rfl (lv_at hl 0 rfl) ?_
        refine rg_gR C0 hH (o2 := 6) (ci := 2) (k := 1) (o := 89) rfl rfl inT_X2 (by decide) tw_f_X2_15 (by decide) rfl (by decide) rfl dX2_isLately_10 ?_
        refine lv_iload_n hx hb dX2_isLately_13 rfl (lv_at hl 3 rfl) ?_
        refine rg_callGi C0 hH (As := [.int (nI j - nI ((q + 1)))]) (rest := []) (o := 6) (ci := 1) (k_X1_seasonAt l E B M (nI j - nI ((q + 1))) (by exact rg_mn_of hmd hnl)) (rg_cw 1 C0.1.2.2.2.2 tw_m_X2_93 tw_i_X1_seasonAt tw_v_X1_seasonAt tw_n_X1 tw_c_X1_seasonAt rfl rfl hd_X1_seasonAt ⟨Nat.le_of_ble_eq_true rfl, Nat.le_of_ble_eq_true rfl⟩) rfl (by decide) rfl (by decide) rfl hl.1 rfl (Nat.le_of_ble_eq_true rfl) dX2_isLately_14 ⟨Nat.le_of_ble_eq_true rfl, Nat.le_of_ble_eq_true rfl⟩ (fun H locs hH => ?_)
        refine rg_topi (y := if q + 1 ≤ j then rg_cs M (j - (q + 1)) else -1) (by exact rg_atd hmd hnl hj (by omega) (by omega) (rg_cs M) (-1)) ?_
        refine lv_iload_n hx hb dX2_isLately_17 rfl (lv_at hl 1 rfl) ?_
        refine lv_icmp_ne (tgt := 23) hx hb dX2_isLately_18 (by decide) (fun c_18 => ?_) (fun c_18 => ?_)
        · refine lv_iinc (v := nI j - nI q) (lv' := [(3, .int (nI j - nI q)), (0, .ref (B + 89)), (1, .int (x)), (2, .int (nI j))]) hx hb dX2_isLately_23 hl (k := 3) rfl rg_subd (by decide) rfl (fun ls hl => ?_)
          refine lv_goto (tgt := 4) hx hb dX2_isLately_26 (by decide) ?_
          exact ih q (by omega) _ _ _ hH (lv_sub hl [1, 2, 3, 0] rfl) (by rw [← hf, rg_lt4, show rg_la M j x (q + 1) = false from by simp only [rg_la, decide_eq_false_iff_not]; exact c_18, Bool.false_or])
        · refine lv_iconst (v := 1) hx hb dX2_isLately_21 (by decide) ?_
          exact rg_retRz C0 hH hr hlocks (Or.inr rfl) rfl (by rw [← hf, rg_lt4, show rg_la M j x (q + 1) = true from by simp only [rg_la, decide_eq_true_eq]; exact c_18, Bool.true_or]; rfl) dX2_isLately_22
  exact cut_4 5 4 (by omega) _ _ _ hH (lv_sub hl [1, 2, 3, 0] rfl) (by rfl)
