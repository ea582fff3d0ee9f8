theorem a_begin (l : Launch) (E : rg_Env) (B : Nat) (M : rg_Mem) (a : Nat) (b : Nat) (d : Nat) (f : Nat) (ha : 2 ≤ a ∧ a ≤ 36) (hb : b ≤ 10) (hd : 2 ≤ d ∧ d ≤ 40) (hf : 2 ≤ f ∧ f ≤ 40) (ho : ¬ (¬ M.1 6 0 ≤ M.1 6 4 ∧ ¬ M.1 6 4 ≤ 0)) (hst : l.stackTraces = false) : Met l yX6_begin (rg_w yX6_begin cX6_begin 5 none) ({ frames := 7, cells := 5, slots := 30, locals := 113 } : Room) (va_Pc [.ref (B + 0), .int (nI a), .int (nI b), .int (nI d), .int (nI f)] (rg_Pre E B 422 rg_R0 M)) (rg_Rv E B 422 rg_R0 (rg_I (rg_I (rg_z7 (rg_I (rg_I (rg_I (rg_I (rg_I M 6 0 (nI a)) 6 1 (nI b)) 6 2 (nI d)) 6 3 (nI f)) 6 4 0) 36) 0 10 0) 0 11 0) (True)) 5 30 (rg_A B) := by
  have r : ∀ {x lo hi : Nat}, lo ≤ x ∧ x ≤ hi ∧ hi ≤ 1000 → rg_in (nI x) (nI lo) (nI hi) := fun {x lo hi} q => ⟨by rw [lw_nlt (by omega) (by omega)]; omega, (lw_nle (by omega) (by omega)).mpr q.2.1⟩
  have z : rg_in (nI a) 2 36 ∧ rg_in (nI b) 0 10 ∧ rg_in (nI d) 2 40 ∧ rg_in (nI f) 2 40 := ⟨r (lo := 2) (hi := 36) ⟨ha.1, ha.2, by omega⟩, r (lo := 0) (hi := 10) ⟨by omega, hb, by omega⟩, r (lo := 2) (hi := 40) ⟨hd.1, hd.2, by omega⟩, r (lo := 2) (hi := 40) ⟨hf.1, hf.2, by omega⟩⟩
  refine rg_RvT (rg_noX (k_X6_begin l hst E B M (nI a) (nI b) (nI d) (nI f)) (fun X q => ?_))
  rcases q with q | q
  · exact q.1 z
  · exact q.2.1 ho

set_option maxHeartbeats 4000000 in
set_option maxRecDepth 100000 in
/-- a poem is begun -/
theorem k_L_isBegun (l : Launch) (E : rg_Env) (B : Nat) (M : rg_Mem) (zz : Nat) (hI : rp_Inv M) (hz : zz < 1000000000) (hst : l.stackTraces = false) : Met l yL_isBegun (rg_w yL_isBegun cL_isBegun 7 (some (FieldType.boolean))) ({ frames := 8, cells := 5, slots := 30, locals := 137 } : Room) (va_Pc [.ref (B + 0), .ref (B + 414), .ref (B + 415), .ref (B + 416), .ref (B + 417), .int (nI zz)] (rg_Pre E B 422 rg_R0 M)) (rg_Wi E B 422 rg_R0 (fun r M1 => r = 1 ∧ rp_Inv M1)) 5 30 (rg_A B) := by
  refine rg_ofW (by decide +kernel) rfl (Nat.le_of_ble_eq_true rfl) ?_
  intro p e s m args below meth c ls C0 hH hl hr hlocks hnm
  replace hl : lv_has ls 7 [(0, .ref (B + 0)), (1, .ref (B + 414)), (2, .ref (B + 415)), (3, .ref (B + 416)), (4, .ref (B + 417)), (5, .int (nI zz))] := hl
  have hx := C0.1.1
  have hb := C0.1.2.1
  generalize hH9 : s.heap = H at hH ⊢
  generalize hL9 : ([] : List Loc) = locs at hH ⊢
  clear hH9 hL9
  have hlt9 := rp_nl hI
  have cut_29 : ∀  (H : Heap) (locs : List Loc) (ls : Array Slot), rg_H E B 422 rg_R0 M s H locs → lv_has ls 7 [(0, .ref (B + 0)), (1, .ref (B + 414)), (2, .ref (B + 415)), (3, .ref (B + 416)), (4, .ref (B + 417)), (5, .int (nI zz))] → (¬ (rg_nl M < rg_nt M ∧ 0 < rg_nl M)) → W p l e ({ frames := 8, cells := 5, slots := 30, locals := 137 } : Room) s m args below meth c H locs 0 0 (MQ below (rg_Wi E B 422 rg_R0 (fun r M1 => r = 1 ∧ rp_Inv M1)) args s 5 30 (rg_A B)) (F0 m 29 ls []) := by
    intro  H locs ls hH hl ho
    refine lv_iconst (v := 0) hx hb dL_isBegun_29 (by decide) ?_
    refine lv_istore (lv' := [(6, .int (0)), (0, .ref (B + 0)), (1, .ref (B + 414)), (2, .ref (B + 415)), (3, .ref (B + 416)), (4, .ref (B + 417)), (5, .int (nI zz))]) hx hb dL_isBegun_30 hl (by decide) rfl (fun ls hl => ?_)
    have cut_32 : ∀ (fu i : Nat), i ≤ 60 ∧ 60 < i + fu → ∀  (H : Heap) (locs : List Loc) (ls : Array Slot), rg_H E B 422 rg_R0 (lw_bg M i) s H locs → lv_has ls 7 [(0, .ref (B + 0)), (1, .ref (B + 414)), (2, .ref (B + 415)), (3, .ref (B + 416)), (4, .ref (B + 417)), (5, .int (nI zz)), (6, .int (nI i))] → W p l e ({ frames := 8, cells := 5, slots := 30, locals := 137 } : Room) s m args below meth c H locs 0 0 (MQ below (rg_Wi E B 422 rg_R0 (fun r M1 => r = 1 ∧ rp_Inv M1)) args s 5 30 (rg_A B)) (F0 m 32 ls []) := by
      intro fu
      induction fu with
      | zero =>
        intro i hm
        exact absurd hm (by omega)
      | succ fu ih =>
        intro i hm  H locs ls hH hl 
        refine lv_iload hx hb dL_isBegun_32 (lv_at hl 6 rfl) ?_
        refine lv_bipush (v := 60) hx hb dL_isBegun_34 (by decide) ?_
        refine lv_icmp_ge (tgt := 66) hx hb dL_isBegun_36 (by decide) (fun c_36 => ?_) (fun c_36 => ?_)
        · have q60 : i = 60 := rg_lp_end (n := 60) hm.1 (by omega) c_36
          subst q60
          refine lv_aload hx hb dL_isBegun_66 (lv_at hl 4 rfl) ?_
          refine lv_iconst (v := 0) hx hb dL_isBegun_68 (by decide) ?_
          refine rg_topi (y := nI 0) (by exact rfl) ?_
          refine lv_iload hx hb dL_isBegun_69 (lv_at hl 5 rfl) ?_
          refine lv_iconst (v := 4) hx hb dL_isBegun_71 (by decide) ?_
          refine lv_irem hx hb dL_isBegun_72 (by decide) ?_
          refine rg_topi (y := nI (zz % 4)) (by exact pk_rem (a := zz) (d := 4) (by omega) (by omega) (by omega)) ?_
          refine rg_iastN C0 hH (o := 417) (j := 0) (n0 := 9) (by decide) rfl rfl (by omega) dL_isBegun_73 (fun H locs hH => ?_)
          refine lv_aload hx hb dL_isBegun_74 (lv_at hl 4 rfl) ?_
          refine lv_iconst (v := 1) hx hb dL_isBegun_76 (by decide) ?_
          refine rg_topi (y := nI 1) (by exact rfl) ?_
          refine lv_iconst (v := 2) hx hb dL_isBegun_77 (by decide) ?_
          refine lv_iload hx hb dL_isBegun_78 (lv_at hl 5 rfl) ?_
          refine lv_iconst (v := 4) hx hb dL_isBegun_80 (by decide) ?_
          refine lv_idiv hx hb dL_isBegun_81 (by decide) ?_
          refine rg_topi (y := nI (zz / 4)) (by exact pk_div (a := zz) (d := 4) (by omega) (by omega) (by omega)) ?_
          refine lv_bipush (v := 6) hx hb dL_isBegun_82 (by decide) ?_
          refine lv_irem hx hb dL_isBegun_84 (by decide) ?_
          refine rg_topi (y := nI ((zz / 4) % 6)) (by exact pk_rem (a := zz / 4) (d := 6) (by omega) (by omega) (by omega)) ?_
          refine lv_iadd hx hb dL_isBegun_85 ?_
          refine rg_topi (y := nI (2 + ((zz / 4) % 6))) (by exact nI_add (2) ((zz / 4) % 6)) ?_
          refine rg_iastN C0 hH (o := 417) (j := 1) (n0 := 9) (by decide) rfl rfl (by omega) dL_isBegun_86 (fun H locs hH => ?_)
          refine lv_aload hx hb dL_isBegun_87 (lv_at hl 4 rfl) ?_
          refine lv_iconst (v := 2) hx hb dL_isBegun_89 (by decide) ?_
          refine rg_topi (y := nI 2) (by exact rfl) ?_
          refine lv_iconst (v := 2) hx hb dL_isBegun_90 (by decide) ?_
          refine lv_iload hx hb dL_isBegun_91 (lv_at hl 5 rfl) ?_
          refine lv_bipush (v := 24) hx hb dL_isBegun_93 (by decide) ?_
          refine lv_idiv hx hb dL_isBegun_95 (by decide) ?_
          refine rg_topi (y := nI (zz / 24)) (by exact pk_div (a := zz) (d := 24) (by omega) (by omega) (by omega)) ?_
          refine lv_bipush (v := 6) hx hb dL_isBegun_96 (by decide) ?_
          refine lv_irem hx hb dL_isBegun_98 (by decide) ?_
          refine rg_topi (y := nI ((zz / 24) % 6)) (by exact pk_rem (a := zz / 24) (d := 6) (by omega) (by omega) (by omega)) ?_
          refine lv_iadd hx hb dL_isBegun_99 ?_
          refine rg_topi (y := nI (2 + ((zz / 24) % 6))) (by exact nI_add (2) ((zz / 24) % 6)) ?_
          refine rg_iastN C0 hH (o := 417) (j := 2) (n0 := 9) (by decide) rfl rfl (by omega) dL_isBegun_100 (fun H locs hH => ?_)
          refine lv_aload hx hb dL_isBegun_101 (lv_at hl 4 rfl) ?_
          refine lv_iconst (v := 3) hx hb dL_isBegun_103 (by decide) ?_
          refine rg_topi (y := nI 3) (by exact rfl) ?_
          refine lv_iconst (v := 0) hx hb dL_isBegun_104 (by decide) ?_
          refine rg_iastN C0 hH (o := 417) (j := 3) (n0 := 9) (by decide) rfl rfl (by omega) dL_isBegun_105 (fun H locs hH => ?_)
          refine lv_aload hx hb dL_isBegun_106 (lv_at hl 4 rfl) ?_
          refine lv_iconst (v := 4) hx hb dL_isBegun_108 (by decide) ?_
          refine rg_topi (y := nI 4) (by exact rfl) ?_
          refine lv_iconst (v := 2) hx hb dL_isBegun_109 (by decide) ?_
          refine lv_iload hx hb dL_isBegun_110 (lv_at hl 5 rfl) ?_
          refine lv_sipush (v := 144) hx hb dL_isBegun_112 (by decide) ?_
          refine lv_idiv hx hb dL_isBegun_115 (by decide) ?_
          refine rg_topi (y := nI (zz / 144)) (by exact pk_div (a := zz) (d := 144) (by omega) (by omega) (by omega)) ?_
          refine lv_bipush (v := 9) hx hb dL_isBegun_116 (by decide) ?_
          refine lv_irem hx hb dL_isBegun_118 (by decide) ?_
          refine rg_topi (y := nI ((zz / 144) % 9)) (by exact pk_rem (a := zz / 144) (d := 9) (by omega) (by omega) (by omega)) ?_
          refine lv_iadd hx hb dL_isBegun_119 ?_
          refine rg_topi (y := nI (2 + ((zz / 144) % 9))) (by exact nI_add (2) ((zz / 144) % 9)) ?_
          refine rg_iastN C0 hH (o := 417) (j := 4) (n0 := 9) (by decide) rfl rfl (by omega) dL_isBegun_120 (fun H locs hH => ?_)
          refine lv_aload hx hb dL_isBegun_121 (lv_at hl 4 rfl) ?_
          refine lv_iconst (v := 5) hx hb dL_isBegun_123 (by decide) ?_
          refine rg_topi (y := nI 5) (by exact rfl) ?_
          refine lv_iconst (v := 0) hx hb dL_isBegun_124 (by decide) ?_
          refine rg_iastN C0 hH (o := 417) (j := 5) (n0 := 9) (by decide) rfl rfl (by omega) dL_isBegun_125 (fun H locs hH => ?_)
          refine lv_aload hx hb dL_isBegun_126 (lv_at hl 4 rfl) ?_
          refine lv_bipush (v := 7) hx hb dL_isBegun_128 (by decide) ?_
          refine rg_topi (y := nI 7) (by exact rfl) ?_
          refine lv_iconst (v := 0) hx hb dL_isBegun_130 (by decide) ?_
          refine rg_iastN C0 hH (o := 417) (j := 7) (n0 := 9) (by decide) rfl rfl (by omega) dL_isBegun_131 (fun H locs hH => ?_)
          refine lv_aload hx hb dL_isBegun_132 (lv_at hl 4 rfl) ?_
          refine lv_bipush (v := 8) hx hb dL_isBegun_134 (by decide) ?_
          refine rg_topi (y := nI 8) (by exact rfl) ?_
          refine lv_iconst (v := 1) hx hb dL_isBegun_136 (by decide) ?_
          refine rg_iastN C0 hH (o := 417) (j := 8) (n0 := 9) (by decide) rfl rfl (by omega) dL_isBegun_137 (fun H locs hH => ?_)
          generalize eX : rg_I (rg_I (rg_I (rg_I (rg_I (rg_I (rg_I (rg_I (lw_bg M 60) 417 0 (nI (zz % 4))) 417 1 (nI (2 + ((zz / 4) % 6)))) 417 2 (nI (2 + ((zz / 24) % 6)))) 417 3 0) 417 4 (nI (2 + ((zz / 144) % 9)))) 417 5 0) 417 7 0) 417 8 1 = X at hH
          obtain ⟨x0, x2, x4, x5, x6, x7⟩ := lw_bg_X eX
          refine lv_aload_n hx hb dL_isBegun_138 rfl (lv_at hl 0 rfl) ?_
          refine lv_aload hx hb dL_isBegun_139 (lv_at hl 4 rfl) ?_
          refine lv_iconst (v := 4) hx hb dL_isBegun_141 (by decide) ?_
          refine rg_topi (y := nI 4) (by exact rfl) ?_
          refine rg_ialdN C0 hH (o := 417) (j := 4) (n0 := 9) (by decide) rfl rfl (by omega) dL_isBegun_142 ?_
          refine rg_topi (y := nI (2 + zz / 144 % 9)) (by exact x7.2.2.2.2.1) ?_
          refine lv_aload hx hb dL_isBegun_143 (lv_at hl 4 rfl) ?_
          refine lv_iconst (v := 0) hx hb dL_isBegun_145 (by decide) ?_
          refine rg_topi (y := nI 0) (by exact rfl) ?_
          refine rg_ialdN C0 hH (o := 417) (j := 0) (n0 := 9) (by decide) rfl rfl (by omega) dL_isBegun_146 ?_
          refine rg_topi (y := nI (zz % 4)) (by exact x7.1) ?_
          refine lv_aload hx hb dL_isBegun_147 (lv_at hl 4 rfl) ?_
          refine lv_iconst (v := 1) hx hb dL_isBegun_149 (by decide) ?_
          refine rg_topi (y := nI 1) (by exact rfl) ?_
          refine rg_ialdN C0 hH (o := 417) (j := 1) (n0 := 9) (by decide) rfl rfl (by omega) dL_isBegun_150 ?_
          refine rg_topi (y := nI (2 + zz / 4 % 6)) (by exact x7.2.1) ?_
          refine lv_aload hx hb dL_isBegun_151 (lv_at hl 4 rfl) ?_
          refine lv_iconst (v := 2) hx hb dL_isBegun_153 (by decide) ?_
          refine rg_topi (y := nI 2) (by exact rfl) ?_
          refine rg_ialdN C0 hH (o := 417) (j := 2) (n0 := 9) (by decide) rfl rfl (by omega) dL_isBegun_154 ?_
          refine rg_topi (y := nI (2 + zz / 24 % 6)) (by exact x7.2.2.1) ?_
          refine rg_callRv C0 hH (As := [.int (nI (2 + zz / 144 % 9)), .int (nI (zz % 4)), .int (nI (2 + zz / 4 % 6)), .int (nI (2 + zz / 24 % 6))]) (rest := []) (o := 0) (ci := 6) (a_begin l E B X (2 + zz / 144 % 9) (zz % 4) (2 + zz / 4 % 6) (2 + zz / 24 % 6) (by omega) (by omega) (by omega) (by omega) (by rw [x0 6 (by omega) (by omega) (by omega) (by omega), (rg_CI_l (rp_ci hI)).1, (rg_CI_t (rp_ci hI)).1, lw_nle (by omega) (by omega), lw_le0 (by omega)]; omega) hst) (rg_cw 4 C0.1.2.2.2.2 tw_m_L_118 tw_i_X6_begin tw_v_X6_begin tw_n_X6 tw_c_X6_begin rfl rfl hd_X6_begin ⟨Nat.le_of_ble_eq_true rfl, Nat.le_of_ble_eq_true rfl⟩) rfl (by decide) rfl (by decide) rfl hl.1 rfl (Nat.le_of_ble_eq_true rfl) dL_isBegun_155 ⟨Nat.le_of_ble_eq_true rfl, Nat.le_of_ble_eq_true rfl⟩ (fun H locs e_155 hH => ?_)
          refine lv_iconst (v := 1) hx hb dL_isBegun_158 (by decide) ?_
          exact rg_retWz C0 hH hr hlocks (Or.inr rfl) (by exact ⟨rfl, rp_begin hI (by omega) (by omega) x0 x2 x4 x5 x6 x7 rfl⟩) dL_isBegun_159
        · have h60 := rg_lp_lt (n := 60) hm.1 (by omega) c_36
          refine lv_aload_n hx hb dL_isBegun_39 rfl (lv_at hl 1 rfl) ?_
          refine lv_iload hx hb dL_isBegun_40 (lv_at hl 6 rfl) ?_
          refine lv_iconst (v := 0) hx hb dL_isBegun_42 (by decide) ?_
          refine rg_iastN C0 hH (o := 414) (j := i) (n0 := 64) (by decide) rfl rfl (by omega) dL_isBegun_43 (fun H locs hH => ?_)
          refine lv_aload_n hx hb dL_isBegun_44 rfl (lv_at hl 2 rfl) ?_
          refine lv_iload hx hb dL_isBegun_45 (lv_at hl 6 rfl) ?_
          refine lv_bipush (v := 40) hx hb dL_isBegun_47 (by decide) ?_
          refine lv_irem hx hb dL_isBegun_49 (by decide) ?_
          refine rg_topi (y := nI (i % 40)) (by exact pk_rem (a := i) (d := 40) (by omega) (by omega) (by omega)) ?_
          refine lv_iconst (v := 0) hx hb dL_isBegun_50 (by decide) ?_
          refine rg_iastN C0 hH (o := 415) (j := (i % 40)) (n0 := 44) (by decide) rfl rfl (by omega) dL_isBegun_51 (fun H locs hH => ?_)
          refine lv_aload_n hx hb dL_isBegun_52 rfl (lv_at hl 3 rfl) ?_
          refine lv_iload hx hb dL_isBegun_53 (lv_at hl 6 rfl) ?_
          refine lv_bipush (v := 40) hx hb dL_isBegun_55 (by decide) ?_
          refine lv_irem hx hb dL_isBegun_57 (by decide) ?_
          refine rg_topi (y := nI (i % 40)) (by exact pk_rem (a := i) (d := 40) (by omega) (by omega) (by omega)) ?_
          refine lv_iconst (v := 0) hx hb dL_isBegun_58 (by decide) ?_
          refine rg_iastN C0 hH (o := 416) (j := (i % 40)) (n0 := 40) (by decide) rfl rfl (by omega) dL_isBegun_59 (fun H locs hH => ?_)
          refine lv_iinc (v := nI (i + 1)) (lv' := [(6, .int (nI (i + 1))), (0, .ref (B + 0)), (1, .ref (B + 414)), (2, .ref (B + 415)), (3, .ref (B + 416)), (4, .ref (B + 417)), (5, .int (nI zz))]) hx hb dL_isBegun_60 hl (k := 6) rfl (nI_1 _) (by decide) rfl (fun ls hl => ?_)
          refine lv_goto (tgt := 32) hx hb dL_isBegun_63 (by decide) ?_
          exact ih (i + 1) (by omega) _ _ _ (rg_H_eq (by exact lw_bg_s h60) hH) (lv_sub hl [1, 2, 3, 4, 5, 6, 0] rfl)
    replace hl : lv_has ls 7 [(6, .int (nI 0)), (0, .ref (B + 0)), (1, .ref (B + 414)), (2, .ref (B + 415)), (3, .ref (B + 416)), (4, .ref (B + 417)), (5, .int (nI zz))] := by skip; exact hl
    exact cut_32 61 0 (by omega) _ _ _ (rg_H_eq (by exact lw_bg_0) hH) (lv_sub hl [1, 2, 3, 4, 5, 6, 0] rfl)
  refine lv_aload hx hb dL_isBegun_0 (lv_at hl 4 rfl) ?_
  refine lv_bipush (v := 8) hx hb dL_isBegun_2 (by decide) ?_
  refine rg_topi (y := nI 8) (by exact rfl) ?_
  refine rg_ialdN C0 hH (o := 417) (j := 8) (n0 := 9) (by decide) rfl rfl (by omega) dL_isBegun_4 ?_
  refine rg_topi (y := rg_b (0 < rg_nt M)) (by exact (rp_m hI).2.2.2.2.2.2.2.2) ?_
  refine lv_iconst (v := 1) hx hb dL_isBegun_5 (by decide) ?_
  refine lv_icmp_ne (tgt := 29) hx hb dL_isBegun_6 (by decide) (fun c_6 => ?_) (fun c_6 => ?_)
  · exact cut_29 _ _ _ hH (lv_sub hl [0, 1, 2, 3, 4, 5] rfl) (by exact fun q => c_6 (rg_b_t (by omega)).symm)
  · refine lv_aload hx hb dL_isBegun_9 (lv_at hl 4 rfl) ?_
    refine lv_iconst (v := 3) hx hb dL_isBegun_11 (by decide) ?_
    refine rg_topi (y := nI 3) (by exact rfl) ?_
    refine rg_ialdN C0 hH (o := 417) (j := 3) (n0 := 9) (by decide) rfl rfl (by omega) dL_isBegun_12 ?_
    refine rg_topi (y := nI (rg_nl M)) (by exact (rp_m hI).2.2.2.1.trans (rg_CI_l (rp_ci hI)).1) ?_
    refine lv_if_le (tgt := 29) hx hb dL_isBegun_13 (by decide) (fun c_13 => ?_) (fun c_13 => ?_)
    · exact cut_29 _ _ _ hH (lv_sub hl [0, 1, 2, 3, 4, 5] rfl) (by exact fun q => by have := (lw_le0 (t := rg_nl M) (by omega)).mp c_13; omega)
    · refine lv_aload hx hb dL_isBegun_16 (lv_at hl 4 rfl) ?_
      refine lv_iconst (v := 3) hx hb dL_isBegun_18 (by decide) ?_
      refine rg_topi (y := nI 3) (by exact rfl) ?_
      refine rg_ialdN C0 hH (o := 417) (j := 3) (n0 := 9) (by decide) rfl rfl (by omega) dL_isBegun_19 ?_
      refine rg_topi (y := nI (rg_nl M)) (by exact (rp_m hI).2.2.2.1.trans (rg_CI_l (rp_ci hI)).1) ?_
      refine lv_aload hx hb dL_isBegun_20 (lv_at hl 4 rfl) ?_
      refine lv_iconst (v := 4) hx hb dL_isBegun_22 (by decide) ?_
      refine rg_topi (y := nI 4) (by exact rfl) ?_
      refine rg_ialdN C0 hH (o := 417) (j := 4) (n0 := 9) (by decide) rfl rfl (by omega) dL_isBegun_23 ?_
      refine rg_topi (y := nI (rg_nt M)) (by exact (rp_m hI).2.2.2.2.1.trans (rg_CI_t (rp_ci hI)).1) ?_
      refine lv_icmp_ge (tgt := 29) hx hb dL_isBegun_24 (by decide) (fun c_24 => ?_) (fun c_24 => ?_)
      · exact cut_29 _ _ _ hH (lv_sub hl [0, 1, 2, 3, 4, 5] rfl) (by exact fun q => by have := (lw_nle (a := rg_nt M) (b := rg_nl M) (by omega) (by omega)).mp c_24; omega)
      · refine lv_iconst (v := 1) hx hb dL_isBegun_27 (by decide) ?_
        refine W.widen (k := 5) (n := 30) (Nat.le_of_ble_eq_true rfl) (Nat.le_of_ble_eq_true rfl) ?_
        exact rg_retWz C0 hH hr hlocks (Or.inr rfl) (by exact ⟨rfl, hI⟩) dL_isBegun_28
