theorem rp_CH_417 {M M1 : rg_Mem} {ov : Nat} (hl : rg_nl M < 100) (h : rp_CH M ov M1) : M1.1 417 = M.1 417 := by
  obtain ⟨M2, ⟨_, _, v3⟩, rfl⟩ := h
  rw [rg_I_cell (by omega), rg_I_cell (by omega), rg_zp_c (by omega), rg_I_cell (by omega), rg_I_cell (by omega), rg_I_cell (by omega)]
  exact (v3 417 (by omega) (by omega)).1
theorem a_choose (l : Launch) (E : rg_Env) (B : Nat) (M : rg_Mem) (ov : Nat) (hC : rg_CI M) (ho : ov < rg_no M) (hn : rg_nl M < rg_nt M) (hst : l.stackTraces = false) : Met l yX6_choose (rg_w yX6_choose cX6_choose 2 (some (FieldType.int))) ({ frames := 6, cells := 1, slots := 6, locals := 135 } : Room) (va_Pc [.ref (B + 0), .int (nI ov)] (rg_Pre E B 422 rg_R0 M)) (rg_Wi E B 422 rg_R0 (fun r M1 => r = nI (rg_nl M) ∧ rp_CH M ov M1)) 1 6 (rg_A B) := by
  have hno := rg_CI_o hC
  refine rg_WW (rg_noX (k_X6_choose l hst E B M (nI ov) hC (fun _ => hn)) (fun X q => q.1 ⟨nI_pos (by omega), by rw [hno.1]; exact (lw_nlt (by omega) (by omega)).mpr ho⟩)) (fun r M1 q => ?_)
  rw [nI_clamp (by omega)] at q
  exact q.2

set_option maxHeartbeats 4000000 in
set_option maxRecDepth 100000 in
/-- an offer is chosen -/
theorem k_L_isChosen (l : Launch) (E : rg_Env) (B : Nat) (M : rg_Mem) (zz : Nat) (hI : rp_Inv M) (hz : zz < 1000000000) (hst : l.stackTraces = false) : Met l yL_isChosen (rg_w yL_isChosen cL_isChosen 8 (some (FieldType.boolean))) ({ frames := 7, cells := 1, slots := 6, locals := 156 } : Room) (va_Pc [.ref (B + 0), .ref (B + 414), .ref (B + 415), .ref (B + 417), .ref (B + 419), .int (nI zz)] (rg_Pre E B 422 rg_R0 M)) (rg_Wi E B 422 rg_R0 (fun r M1 => r = 1 ∧ rp_Inv M1)) 1 6 (rg_A B) := by
  refine rg_ofW (by decide +kernel) rfl (Nat.le_of_ble_eq_true rfl) ?_
  intro p e s m args below meth c ls C0 hH hl hr hlocks hnm
  replace hl : lv_has ls 8 [(0, .ref (B + 0)), (1, .ref (B + 414)), (2, .ref (B + 415)), (3, .ref (B + 417)), (4, .ref (B + 419)), (5, .int (nI zz))] := hl
  have hx := C0.1.1
  have hb := C0.1.2.1
  generalize hH9 : s.heap = H at hH ⊢
  generalize hL9 : ([] : List Loc) = locs at hH ⊢
  clear hH9 hL9
  have hlt9 := rp_nl hI
  have hno9 := (rg_CI_o (rp_ci hI)).2
  have hml : M.1 417 3 = nI (rg_nl M) := (rp_m hI).2.2.2.1.trans (rg_CI_l (rp_ci hI)).1
  refine lv_aload_n hx hb dL_isChosen_0 rfl (lv_at hl 3 rfl) ?_
  refine lv_iconst (v := 5) hx hb dL_isChosen_1 (by decide) ?_
  refine rg_topi (y := nI 5) (by exact rfl) ?_
  refine rg_ialdN C0 hH (o := 417) (j := 5) (n0 := 9) (by decide) rfl rfl (by omega) dL_isChosen_2 ?_
  refine rg_topi (y := nI (rg_no M)) (by exact (rp_m hI).2.2.2.2.2.1.trans (rg_CI_o (rp_ci hI)).1) ?_
  refine lv_if_ne (tgt := 8) hx hb dL_isChosen_3 (by decide) (fun c_3 => ?_) (fun c_3 => ?_)
  · have hno0 : 0 < rg_no M := by
      rcases Nat.eq_zero_or_pos (rg_no M) with q | q
      · exact absurd (by rw [q]; rfl) c_3
      · exact q
    have hlt8 := (rp_n hI).2.2.2.1 hno0
    refine lv_iload hx hb dL_isChosen_8 (lv_at hl 5 rfl) ?_
    refine lv_aload_n hx hb dL_isChosen_10 rfl (lv_at hl 3 rfl) ?_
    refine lv_iconst (v := 5) hx hb dL_isChosen_11 (by decide) ?_
    refine rg_topi (y := nI 5) (by exact rfl) ?_
    refine rg_ialdN C0 hH (o := 417) (j := 5) (n0 := 9) (by decide) rfl rfl (by omega) dL_isChosen_12 ?_
    refine rg_topi (y := nI (rg_no M)) (by exact (rp_m hI).2.2.2.2.2.1.trans (rg_CI_o (rp_ci hI)).1) ?_
    refine lv_irem hx hb dL_isChosen_13 (by exact nI_ne0 (by omega) (by omega)) ?_
    refine rg_topi (y := nI (zz % (rg_no M))) (by exact pk_rem (a := zz) (d := rg_no M) (by omega) (by omega) (by omega)) ?_
    refine lv_istore (lv' := [(6, .int (nI (zz % (rg_no M)))), (0, .ref (B + 0)), (1, .ref (B + 414)), (2, .ref (B + 415)), (3, .ref (B + 417)), (4, .ref (B + 419)), (5, .int (nI zz))]) hx hb dL_isChosen_14 hl (by decide) rfl (fun ls hl => ?_)
    obtain ⟨ov, hd_ov⟩ : ∃ ov, ov = zz % rg_no M := ⟨_, rfl⟩
    have hov : ov < rg_no M := by rw [hd_ov]; exact Nat.mod_lt _ hno0
    replace hl : lv_has ls 8 [(6, .int (nI ov)), (0, .ref (B + 0)), (1, .ref (B + 414)), (2, .ref (B + 415)), (3, .ref (B + 417)), (4, .ref (B + 419)), (5, .int (nI zz))] := by rw [hd_ov]; exact hl
    refine lv_aload_n hx hb dL_isChosen_16 rfl (lv_at hl 3 rfl) ?_
    refine lv_iconst (v := 4) hx hb dL_isChosen_17 (by decide) ?_
    refine lv_aload_n hx hb dL_isChosen_18 rfl (lv_at hl 4 rfl) ?_
    refine lv_iconst (v := 3) hx hb dL_isChosen_19 (by decide) ?_
    refine rg_topi (y := nI 3) (by exact rfl) ?_
    refine rg_ialdN C0 hH (o := 417) (j := 3) (n0 := 9) (by decide) rfl rfl (by omega) dL_isChosen_20 ?_
    refine rg_topi (y := nI (rg_nl M)) (by exact hml) ?_
    refine lv_imul hx hb dL_isChosen_21 ?_
    refine rg_topi (y := nI (4 * (rg_nl M))) (by exact lw_mul (4) (rg_nl M)) ?_
    refine lv_aload hx hb dL_isChosen_22 (lv_at hl 5 rfl) ?_
    refine lv_bipush (v := 7) hx hb dL_isChosen_24 (by decide) ?_
    refine lv_iload hx hb dL_isChosen_26 (lv_at hl 0 rfl) ?_
    refine lv_imul hx hb dL_isChosen_28 ?_
    refine rg_topi (y := nI (7 * ov)) (by exact lw_mul (7) (ov)) ?_
    refine rg_ialdN C0 hH (o := 419) (j := (7 * ov)) (n0 := 28) (by decide) rfl rfl (by omega) dL_isChosen_29 ?_
    refine rg_iastN C0 hH (o := 415) (j := (4 * (rg_nl M))) (n0 := 44) (by decide) rfl rfl (by omega) dL_isChosen_30 (fun H locs hH => ?_)
    refine lv_iconst (v := 0) hx hb dL_isChosen_31 (by decide) ?_
    refine lv_istore (lv' := [(7, .int (0)), (6, .int (nI ov)), (0, .ref (B + 0)), (1, .ref (B + 414)), (2, .ref (B + 415)), (3, .ref (B + 417)), (4, .ref (B + 419)), (5, .int (nI zz))]) hx hb dL_isChosen_32 hl (by decide) rfl (fun ls hl => ?_)
    have cut_34 : ∀ (fu i : Nat), i ≤ 6 ∧ 6 < i + fu → ∀  (H : Heap) (locs : List Loc) (ls : Array Slot), rg_H E B 422 rg_R0 (lw_pt (rg_I M 415 (4 * rg_nl M) (M.1 419 (7 * ov))) (rg_nl M) (fun k => M.1 419 (7 * ov + 1 + k)) i) s H locs → lv_has ls 8 [(6, .int (nI ov)), (0, .ref (B + 0)), (1, .ref (B + 414)), (2, .ref (B + 415)), (3, .ref (B + 417)), (4, .ref (B + 419)), (5, .int (nI zz)), (7, .int (nI i))] → W p l e ({ frames := 7, cells := 1, slots := 6, locals := 156 } : Room) s m args below meth c H locs 0 0 (MQ below (rg_Wi E B 422 rg_R0 (fun r M1 => r = 1 ∧ rp_Inv M1)) args s 1 6 (rg_A B)) (F0 m 34 ls []) := by
      intro fu
      induction fu with
      | zero =>
        intro i hm
        exact absurd hm (by omega)
      | succ fu ih =>
        intro i hm  H locs ls hH hl 
        refine lv_iload hx hb dL_isChosen_34 (lv_at hl 7 rfl) ?_
        refine lv_bipush (v := 6) hx hb dL_isChosen_36 (by decide) ?_
        refine lv_icmp_ge (tgt := 71) hx hb dL_isChosen_38 (by decide) (fun c_38 => ?_) (fun c_38 => ?_)
        · have q6 : i = 6 := rg_lp_end (n := 6) hm.1 (by omega) c_38
          subst q6
          refine lv_aload_n hx hb dL_isChosen_71 rfl (lv_at hl 4 rfl) ?_
          refine lv_iconst (v := 5) hx hb dL_isChosen_72 (by decide) ?_
          refine rg_topi (y := nI 5) (by exact rfl) ?_
          refine lv_iconst (v := 0) hx hb dL_isChosen_73 (by decide) ?_
          refine rg_iastN C0 hH (o := 417) (j := 5) (n0 := 9) (by decide) rfl rfl (by omega) dL_isChosen_74 (fun H locs hH => ?_)
          refine lv_aload_n hx hb dL_isChosen_75 rfl (lv_at hl 4 rfl) ?_
          refine lv_iconst (v := 3) hx hb dL_isChosen_76 (by decide) ?_
          refine rg_topi (y := nI 3) (by exact rfl) ?_
          refine lv_dup2_11 hx hb dL_isChosen_77 rfl rfl ?_
          refine rg_ialdN C0 hH (o := 417) (j := 3) (n0 := 9) (by decide) rfl rfl (by omega) dL_isChosen_78 ?_
          refine rg_topi (y := nI (rg_nl M)) (by rw [rg_I_slot (by omega), lw_pt_c (by omega), rg_I_cell (by omega)]; exact hml) ?_
          refine lv_iconst (v := 1) hx hb dL_isChosen_79 (by decide) ?_
          refine lv_iadd hx hb dL_isChosen_80 ?_
          refine rg_topi (y := nI ((rg_nl M) + 1)) (by exact nI_add (rg_nl M) (1)) ?_
          refine rg_iastN C0 hH (o := 417) (j := 3) (n0 := 9) (by decide) rfl rfl (by omega) dL_isChosen_81 (fun H locs hH => ?_)
          generalize eX : rg_I (rg_I (lw_pt (rg_I M 415 (4 * rg_nl M) (M.1 419 (7 * ov))) (rg_nl M) (fun k => M.1 419 (7 * ov + 1 + k)) 6) 417 5 0) 417 3 (nI ((rg_nl M) + 1)) = X at hH
          have x0 : ∀ c, c ≠ 414 → c ≠ 415 → c ≠ 417 → X.1 c = M.1 c := fun c h1 h2 h3 => by
            subst eX
            rw [rg_I_cell h3, rg_I_cell h3]
            funext k
            rw [lw_pt_c h1, rg_I_cell h2]
          have x2 : X.2 = M.2 := by subst eX; rfl
          have x4 : X.1 414 = (lw_row M (rg_nl M) (fun k => M.1 419 (7 * ov + 1 + k))).1 414 := by
            subst eX
            rw [rg_I_cell (by omega), rg_I_cell (by omega)]
            funext k
            show (if 414 = 414 ∧ 6 * rg_nl M ≤ k ∧ k < 6 * rg_nl M + 6 then _ else (rg_I M 415 (4 * rg_nl M) (M.1 419 (7 * ov))).1 414 k) = if 414 = 414 ∧ 6 * rg_nl M ≤ k ∧ k < 6 * rg_nl M + 6 then _ else _
            rw [rg_I_cell (by omega)]
          have x5 : ∀ k, X.1 415 k = if k = 4 * rg_nl M then M.1 419 (7 * ov) else M.1 415 k := fun k => by
            subst eX
            rw [rg_I_cell (by omega), rg_I_cell (by omega), lw_pt_c (by omega), rg_I_at]
          have x7 : ∀ k, X.1 417 k = if k = 3 then nI (rg_nl M + 1) else if k = 5 then 0 else M.1 417 k := fun k => by
            subst eX
            rw [rg_I_at, rg_I_at, lw_pt_c (by omega), rg_I_cell (by omega)]
          have enl : rg_nl X = rg_nl M := by unfold rg_nl; rw [x0 6 (by omega) (by omega) (by omega)]
          have eno : rg_no X = rg_no M := by unfold rg_no; rw [x0 0 (by omega) (by omega) (by omega)]
          have ent : rg_nt X = rg_nt M := by unfold rg_nt; rw [x0 6 (by omega) (by omega) (by omega)]
          have hC : rg_CI X := rg_CI_c2 (rp_ci hI) (fun c hc => x0 c (by omega) (by omega) (by omega)) (fun c hc => by rw [x2])
          refine lv_aload_n hx hb dL_isChosen_82 rfl (lv_at hl 1 rfl) ?_
          refine lv_iload hx hb dL_isChosen_83 (lv_at hl 0 rfl) ?_
          refine rg_callWi C0 hH (As := [.int (nI ov)]) (rest := []) (o := 0) (ci := 6) (a_choose l E B X ov hC (by rw [eno]; exact hov) (by rw [enl, ent]; exact hlt8) hst) (rg_cw 1 C0.1.2.2.2.2 tw_m_L_112 tw_i_X6_choose tw_v_X6_choose tw_n_X6 tw_c_X6_choose rfl rfl hd_X6_choose ⟨Nat.le_of_ble_eq_true rfl, Nat.le_of_ble_eq_true rfl⟩) rfl (by decide) rfl (by decide) rfl hl.1 rfl (Nat.le_of_ble_eq_true rfl) dL_isChosen_85 ⟨Nat.le_of_ble_eq_true rfl, Nat.le_of_ble_eq_true rfl⟩ (fun r_85 M_85 H locs e_85 hH => ?_)
          have hF9 := rp_choose hI hov x0 x2 x4 x5 x7 e_85.2
          have h417 : M_85.1 417 = X.1 417 := rp_CH_417 (by rw [enl]; omega) e_85.2
          refine lv_aload_n hx hb dL_isChosen_88 rfl (lv_at hl 4 rfl) ?_
          refine lv_iconst (v := 3) hx hb dL_isChosen_89 (by decide) ?_
          refine rg_topi (y := nI 3) (by exact rfl) ?_
          refine rg_ialdN C0 hH (o := 417) (j := 3) (n0 := 9) (by decide) rfl rfl (by omega) dL_isChosen_90 ?_
          refine rg_topi (y := nI (rg_nl M + 1)) (by rw [h417, x7]; rfl) ?_
          refine lv_iconst (v := 1) hx hb dL_isChosen_91 (by decide) ?_
          refine lv_isub hx hb dL_isChosen_92 ?_
          refine rg_topi (y := nI ((rg_nl M + 1) - 1)) (by exact lw_sub1 (by omega)) ?_
          refine lv_icmp_ne (tgt := 100) hx hb dL_isChosen_93 (by decide) (fun c_93 => ?_) (fun c_93 => ?_)
          · exact absurd (by rw [e_85.1, enl]; rfl) c_93
          · refine lv_iconst (v := 1) hx hb dL_isChosen_96 (by decide) ?_
            refine lv_goto (tgt := 101) hx hb dL_isChosen_97 (by decide) ?_
            exact rg_retWz C0 hH hr hlocks (Or.inr rfl) (by exact ⟨rfl, hF9⟩) dL_isChosen_101
        · have h6 := rg_lp_lt (n := 6) hm.1 (by omega) c_38
          refine lv_aload_n hx hb dL_isChosen_41 rfl (lv_at hl 2 rfl) ?_
          refine lv_bipush (v := 6) hx hb dL_isChosen_42 (by decide) ?_
          refine lv_aload_n hx hb dL_isChosen_44 rfl (lv_at hl 4 rfl) ?_
          refine lv_iconst (v := 3) hx hb dL_isChosen_45 (by decide) ?_
          refine rg_topi (y := nI 3) (by exact rfl) ?_
          refine rg_ialdN C0 hH (o := 417) (j := 3) (n0 := 9) (by decide) rfl rfl (by omega) dL_isChosen_46 ?_
          refine rg_topi (y := nI (rg_nl M)) (by rw [lw_pt_c (by omega), rg_I_cell (by omega)]; exact hml) ?_
          refine lv_imul hx hb dL_isChosen_47 ?_
          refine rg_topi (y := nI (6 * (rg_nl M))) (by exact lw_mul (6) (rg_nl M)) ?_
          refine lv_iload hx hb dL_isChosen_48 (lv_at hl 7 rfl) ?_
          refine lv_iadd hx hb dL_isChosen_50 ?_
          refine rg_topi (y := nI ((6 * (rg_nl M)) + i)) (by exact nI_add (6 * (rg_nl M)) (i)) ?_
          refine lv_aload hx hb dL_isChosen_51 (lv_at hl 5 rfl) ?_
          refine lv_bipush (v := 7) hx hb dL_isChosen_53 (by decide) ?_
          refine lv_iload hx hb dL_isChosen_55 (lv_at hl 0 rfl) ?_
          refine lv_imul hx hb dL_isChosen_57 ?_
          refine rg_topi (y := nI (7 * ov)) (by exact lw_mul (7) (ov)) ?_
          refine lv_iconst (v := 1) hx hb dL_isChosen_58 (by decide) ?_
          refine lv_iadd hx hb dL_isChosen_59 ?_
          refine rg_topi (y := nI ((7 * ov) + 1)) (by exact nI_add (7 * ov) (1)) ?_
          refine lv_iload hx hb dL_isChosen_60 (lv_at hl 7 rfl) ?_
          refine lv_iadd hx hb dL_isChosen_62 ?_
          refine rg_topi (y := nI (((7 * ov) + 1) + i)) (by exact nI_add ((7 * ov) + 1) (i)) ?_
          refine rg_ialdN C0 hH (o := 419) (j := (((7 * ov) + 1) + i)) (n0 := 28) (by decide) rfl rfl (by omega) dL_isChosen_63 ?_
          refine rg_topi (y := M.1 419 (7 * ov + 1 + i)) (by rw [lw_pt_c (by omega), rg_I_cell (by omega)]) ?_
          refine rg_iastN C0 hH (o := 414) (j := ((6 * (rg_nl M)) + i)) (n0 := 64) (by decide) rfl rfl (by omega) dL_isChosen_64 (fun H locs hH => ?_)
          refine lv_iinc (v := nI (i + 1)) (lv' := [(7, .int (nI (i + 1))), (6, .int (nI ov)), (0, .ref (B + 0)), (1, .ref (B + 414)), (2, .ref (B + 415)), (3, .ref (B + 417)), (4, .ref (B + 419)), (5, .int (nI zz))]) hx hb dL_isChosen_65 hl (k := 7) rfl (nI_1 _) (by decide) rfl (fun ls hl => ?_)
          refine lv_goto (tgt := 34) hx hb dL_isChosen_68 (by decide) ?_
          exact ih (i + 1) (by omega) _ _ _ (rg_H_eq (by exact lw_pt_s rfl) hH) (lv_sub hl [1, 2, 3, 4, 5, 6, 7, 0] rfl)
    replace hl : lv_has ls 8 [(7, .int (nI 0)), (6, .int (nI ov)), (0, .ref (B + 0)), (1, .ref (B + 414)), (2, .ref (B + 415)), (3, .ref (B + 417)), (4, .ref (B + 419)), (5, .int (nI zz))] := by skip; exact hl
    exact cut_34 7 0 (by omega) _ _ _ (rg_H_eq (by exact lw_pt_0) hH) (lv_sub hl [1, 2, 3, 4, 5, 6, 7, 0] rfl)
  · refine lv_iconst (v := 1) hx hb dL_isChosen_6 (by decide) ?_
    refine W.widen (k := 1) (n := 6) (Nat.le_of_ble_eq_true rfl) (Nat.le_of_ble_eq_true rfl) ?_
    exact rg_retWz C0 hH hr hlocks (Or.inr rfl) (by exact ⟨rfl, hI⟩) dL_isChosen_7
