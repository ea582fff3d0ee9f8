set_option maxHeartbeats 4000000 in
set_option maxRecDepth 100000 in
/-- the season that is left too early, goes on too long or comes back too soon -/
theorem k_L_lengthy (l : Launch) (E : rg_Env) (B : Nat) (M : rg_Mem) (n : Nat) (j : Nat) (hn : 422 ≤ n) (hT : lw_TI M) (hW : lw_WI M) (hj : j < 10) : Met l yL_lengthy (rg_w yL_lengthy cL_lengthy 7 (some (FieldType.int))) ({ frames := 2, cells := 0, slots := 0, locals := 49 } : Room) (va_Pc [.ref (B + 412), .ref (B + 414), .int (nI j)] (rg_Pre E B n rg_R0 M)) (rg_Ri E B n rg_R0 (M) (fun r => r = lw_wr M j)) 0 0 (rg_A B) := by
  refine rg_ofW (by decide +kernel) rfl (Nat.le_of_ble_eq_true rfl) ?_
  intro p e s m args below meth c ls C0 hH hl hr hlocks hnm
  replace hl : lv_has ls 7 [(0, .ref (B + 412)), (1, .ref (B + 414)), (2, .int (nI j))] := hl
  have hx := C0.1.1
  have hb := C0.1.2.1
  generalize hH9 : s.heap = H at hH ⊢
  generalize hL9 : ([] : List Loc) = locs at hH ⊢
  clear hH9 hL9
  have cut_16 : ∀  (H : Heap) (locs : List Loc) (ls : Array Slot), rg_H E B n rg_R0 M s H locs → lv_has ls 7 [(0, .ref (B + 412)), (1, .ref (B + 414)), (2, .int (nI j))] → W p l e ({ frames := 2, cells := 0, slots := 0, locals := 49 } : Room) s m args below meth c H locs 0 0 (MQ below (rg_Ri E B n rg_R0 (M) (fun r => r = lw_wr M j)) args s 0 0 (rg_A B)) (F0 m 16 ls [.int (lw_ca M j)]) := by
    intro  H locs ls hH hl 
    refine lv_istore_n (lv' := [(3, .int (lw_ca M j)), (0, .ref (B + 412)), (1, .ref (B + 414)), (2, .int (nI j))]) hx hb dL_lengthy_16 rfl hl (by decide) rfl (fun ls hl => ?_)
    refine lv_aload_n hx hb dL_lengthy_17 rfl (lv_at hl 1 rfl) ?_
    refine lv_aload_n hx hb dL_lengthy_18 rfl (lv_at hl 2 rfl) ?_
    refine lv_iload_n hx hb dL_lengthy_19 rfl (lv_at hl 3 rfl) ?_
    refine rg_callSGi C0 hH (As := [.ref (B + 412), .ref (B + 414), .int (nI j)]) (rest := []) (k_L_season l E B M n j (by assumption) (by assumption) (by assumption) hj) (rg_cwS 3 C0.1.2.2.2.2 tw_m_L_9 tw_s_L_season tw_n_L tw_c_L_season rfl rfl hd_L_season ⟨Nat.le_of_ble_eq_true rfl, Nat.le_of_ble_eq_true rfl⟩) rfl hl.1 rfl (Nat.le_of_ble_eq_true rfl) dL_lengthy_20 ⟨Nat.le_of_ble_eq_true rfl, Nat.le_of_ble_eq_true rfl⟩ (fun H locs hH => ?_)
    refine lv_istore (lv' := [(4, .int (lw_sea M j)), (3, .int (lw_ca M j)), (0, .ref (B + 412)), (1, .ref (B + 414)), (2, .int (nI j))]) hx hb dL_lengthy_23 hl (by decide) rfl (fun ls hl => ?_)
    have cut_41 : ∀  (H : Heap) (locs : List Loc) (ls : Array Slot), rg_H E B n rg_R0 M s H locs → lv_has ls 7 [(4, .int (lw_sea M j)), (3, .int (lw_ca M j)), (0, .ref (B + 412)), (1, .ref (B + 414)), (2, .int (nI j))] → W p l e ({ frames := 2, cells := 0, slots := 0, locals := 49 } : Room) s m args below meth c H locs 0 0 (MQ below (rg_Ri E B n rg_R0 (M) (fun r => r = lw_wr M j)) args s 0 0 (rg_A B)) (F0 m 41 ls [.int (lw_ru M j)]) := by
      intro  H locs ls hH hl 
      refine lv_istore (lv' := [(5, .int (lw_ru M j)), (4, .int (lw_sea M j)), (3, .int (lw_ca M j)), (0, .ref (B + 412)), (1, .ref (B + 414)), (2, .int (nI j))]) hx hb dL_lengthy_41 hl (by decide) rfl (fun ls hl => ?_)
      have cut_67 : ∀  (H : Heap) (locs : List Loc) (ls : Array Slot), rg_H E B n rg_R0 M s H locs → lv_has ls 7 [(5, .int (lw_ru M j)), (4, .int (lw_sea M j)), (3, .int (lw_ca M j)), (0, .ref (B + 412)), (1, .ref (B + 414)), (2, .int (nI j))] → (¬ (¬ lw_ca M j < 0 ∧ lw_ca M j - lw_ca M j / 2 * 2 = 0 ∧ ¬ 3 ≤ lw_ru M j ∧ ¬ lw_sea M j = lw_ca M j)) → W p l e ({ frames := 2, cells := 0, slots := 0, locals := 49 } : Room) s m args below meth c H locs 0 0 (MQ below (rg_Ri E B n rg_R0 (M) (fun r => r = lw_wr M j)) args s 0 0 (rg_A B)) (F0 m 67 ls []) := by
        intro  H locs ls hH hl hA
        have cut_94 : ∀  (H : Heap) (locs : List Loc) (ls : Array Slot), rg_H E B n rg_R0 M s H locs → lv_has ls 7 [(5, .int (lw_ru M j)), (4, .int (lw_sea M j)), (3, .int (lw_ca M j)), (0, .ref (B + 412)), (1, .ref (B + 414)), (2, .int (nI j))] → (¬ (¬ lw_sea M j < 0 ∧ lw_sea M j = lw_ca M j ∧ ¬ lw_ru M j < 5 - 2 * (lw_sea M j - lw_sea M j / 2 * 2))) → W p l e ({ frames := 2, cells := 0, slots := 0, locals := 49 } : Room) s m args below meth c H locs 0 0 (MQ below (rg_Ri E B n rg_R0 (M) (fun r => r = lw_wr M j)) args s 0 0 (rg_A B)) (F0 m 94 ls []) := by
          intro  H locs ls hH hl hB
          refine lv_iconst (v := 1) hx hb dL_lengthy_94 (by decide) ?_
          refine lv_istore (lv' := [(6, .int (1)), (5, .int (lw_ru M j)), (4, .int (lw_sea M j)), (3, .int (lw_ca M j)), (0, .ref (B + 412)), (1, .ref (B + 414)), (2, .int (nI j))]) hx hb dL_lengthy_95 hl (by decide) rfl (fun ls hl => ?_)
          have cut_97 : ∀ (fu d : Nat), (d ≤ 4 ∧ d ≤ j) ∧ 4 < d + fu → ∀  (H : Heap) (locs : List Loc) (ls : Array Slot), rg_H E B n rg_R0 M s H locs → lv_has ls 7 [(5, .int (lw_ru M j)), (4, .int (lw_sea M j)), (3, .int (lw_ca M j)), (0, .ref (B + 412)), (1, .ref (B + 414)), (2, .int (nI j)), (6, .int (nI (d + 1)))] → (¬ lw_an (lw_lp M j) d = true) → W p l e ({ frames := 2, cells := 0, slots := 0, locals := 49 } : Room) s m args below meth c H locs 0 0 (MQ below (rg_Ri E B n rg_R0 (M) (fun r => r = lw_wr M j)) args s 0 0 (rg_A B)) (F0 m 97 ls []) := by
            intro fu
            induction fu with
            | zero =>
              intro d hm
              exact absurd hm (by omega)
            | succ fu ih =>
              intro d hm  H locs ls hH hl hC
              refine lv_iload hx hb dL_lengthy_97 (lv_at hl 6 rfl) ?_
              refine lv_iconst (v := 4) hx hb dL_lengthy_99 (by decide) ?_
              refine lv_icmp_gt (tgt := 143) hx hb dL_lengthy_100 (by decide) (fun c_100 => ?_) (fun c_100 => ?_)
              · refine lv_iconst (v := (-1)) hx hb dL_lengthy_143 (by decide) ?_
                exact rg_retRi C0 hH hr hlocks rfl (by have hd : min 4 j = d := (by have := (lw_nlt (a := 4) (b := d + 1) (by omega) (by omega)).mp c_100; omega); rw [lw_wr, if_neg hA, if_neg hB, hd, if_neg hC]) dL_lengthy_144
              · refine lv_iload hx hb dL_lengthy_103 (lv_at hl 6 rfl) ?_
                refine lv_iload_n hx hb dL_lengthy_105 rfl (lv_at hl 5 rfl) ?_
                refine lv_icmp_gt (tgt := 143) hx hb dL_lengthy_106 (by decide) (fun c_106 => ?_) (fun c_106 => ?_)
                · refine lv_iconst (v := (-1)) hx hb dL_lengthy_143 (by decide) ?_
                  exact rg_retRi C0 hH hr hlocks rfl (by have hd : min 4 j = d := (by have := (lw_nlt (a := j) (b := d + 1) (by omega) (by omega)).mp c_106; omega); rw [lw_wr, if_neg hA, if_neg hB, hd, if_neg hC]) dL_lengthy_144
                · refine lv_iload hx hb dL_lengthy_109 (lv_at hl 1 rfl) ?_
                  refine lv_if_lt (tgt := 137) hx hb dL_lengthy_111 (by decide) (fun c_111 => ?_) (fun c_111 => ?_)
                  · have hdj : d + 1 ≤ j := (lw_nle (a := d + 1) (b := j) (by omega) (by omega)).mp (Int32.not_lt.mp c_106)
                    have hd4 : d < 4 := by have := (lw_nle (a := d + 1) (b := 4) (by omega) (by omega)).mp (Int32.not_lt.mp c_100); omega
                    refine lv_iinc (v := nI ((d + 1) + 1)) (lv' := [(6, .int (nI ((d + 1) + 1))), (5, .int (lw_ru M j)), (4, .int (lw_sea M j)), (3, .int (lw_ca M j)), (0, .ref (B + 412)), (1, .ref (B + 414)), (2, .int (nI j))]) hx hb dL_lengthy_137 hl (k := 6) rfl (nI_1 _) (by decide) rfl (fun ls hl => ?_)
                    refine lv_goto (tgt := 97) hx hb dL_lengthy_140 (by decide) ?_
                    exact ih (d + 1) (by omega) _ _ _ hH (lv_sub hl [1, 2, 3, 4, 5, 6, 0] rfl) (by rw [lw_an, Bool.or_eq_true, decide_eq_true_eq]; exact fun q => q.elim hC (fun z => z.1 c_111))
                  · refine lv_iload hx hb dL_lengthy_114 (lv_at hl 1 rfl) ?_
                    refine lv_iload_n hx hb dL_lengthy_116 rfl (lv_at hl 2 rfl) ?_
                    refine lv_icmp_eq (tgt := 137) hx hb dL_lengthy_117 (by decide) (fun c_117 => ?_) (fun c_117 => ?_)
                    · have hdj : d + 1 ≤ j := (lw_nle (a := d + 1) (b := j) (by omega) (by omega)).mp (Int32.not_lt.mp c_106)
                      have hd4 : d < 4 := by have := (lw_nle (a := d + 1) (b := 4) (by omega) (by omega)).mp (Int32.not_lt.mp c_100); omega
                      refine lv_iinc (v := nI ((d + 1) + 1)) (lv' := [(6, .int (nI ((d + 1) + 1))), (5, .int (lw_ru M j)), (4, .int (lw_sea M j)), (3, .int (lw_ca M j)), (0, .ref (B + 412)), (1, .ref (B + 414)), (2, .int (nI j))]) hx hb dL_lengthy_137 hl (k := 6) rfl (nI_1 _) (by decide) rfl (fun ls hl => ?_)
                      refine lv_goto (tgt := 97) hx hb dL_lengthy_140 (by decide) ?_
                      exact ih (d + 1) (by omega) _ _ _ hH (lv_sub hl [1, 2, 3, 4, 5, 6, 0] rfl) (by rw [lw_an, Bool.or_eq_true, decide_eq_true_eq]; exact fun q => q.elim hC (fun z => z.2.1 c_117))
                    · have hdj : d + 1 ≤ j := (lw_nle (a := d + 1) (b := j) (by omega) (by omega)).mp (Int32.not_lt.mp c_106)
                      have hd4 : d < 4 := by have := (lw_nle (a := d + 1) (b := 4) (by omega) (by omega)).mp (Int32.not_lt.mp c_100); omega
                      refine lv_aload_n hx hb dL_lengthy_120 rfl (lv_at hl 3 rfl) ?_
                      refine lv_aload_n hx hb dL_lengthy_121 rfl (lv_at hl 4 rfl) ?_
                      refine lv_iload_n hx hb dL_lengthy_122 rfl (lv_at hl 5 rfl) ?_
                      refine lv_iload hx hb dL_lengthy_123 (lv_at hl 6 rfl) ?_
                      refine lv_isub hx hb dL_lengthy_125 ?_
                      refine rg_topi (y := nI (j - (d + 1))) (by exact lw_sub (d := d + 1) (by omega)) ?_
                      refine rg_callSGi C0 hH (As := [.ref (B + 412), .ref (B + 414), .int (nI (j - (d + 1)))]) (rest := []) (k_L_season l E B M n (j - (d + 1)) (by assumption) (by assumption) (by assumption) (by omega)) (rg_cwS 3 C0.1.2.2.2.2 tw_m_L_9 tw_s_L_season tw_n_L tw_c_L_season rfl rfl hd_L_season ⟨Nat.le_of_ble_eq_true rfl, Nat.le_of_ble_eq_true rfl⟩) rfl hl.1 rfl (Nat.le_of_ble_eq_true rfl) dL_lengthy_126 ⟨Nat.le_of_ble_eq_true rfl, Nat.le_of_ble_eq_true rfl⟩ (fun H locs hH => ?_)
                      refine lv_iload hx hb dL_lengthy_129 (lv_at hl 1 rfl) ?_
                      refine lv_icmp_ne (tgt := 137) hx hb dL_lengthy_131 (by decide) (fun c_131 => ?_) (fun c_131 => ?_)
                      · have hdj : d + 1 ≤ j := (lw_nle (a := d + 1) (b := j) (by omega) (by omega)).mp (Int32.not_lt.mp c_106)
                        have hd4 : d < 4 := by have := (lw_nle (a := d + 1) (b := 4) (by omega) (by omega)).mp (Int32.not_lt.mp c_100); omega
                        refine lv_iinc (v := nI ((d + 1) + 1)) (lv' := [(6, .int (nI ((d + 1) + 1))), (5, .int (lw_ru M j)), (4, .int (lw_sea M j)), (3, .int (lw_ca M j)), (0, .ref (B + 412)), (1, .ref (B + 414)), (2, .int (nI j))]) hx hb dL_lengthy_137 hl (k := 6) rfl (nI_1 _) (by decide) rfl (fun ls hl => ?_)
                        refine lv_goto (tgt := 97) hx hb dL_lengthy_140 (by decide) ?_
                        exact ih (d + 1) (by omega) _ _ _ hH (lv_sub hl [1, 2, 3, 4, 5, 6, 0] rfl) (by rw [lw_an, Bool.or_eq_true, decide_eq_true_eq]; exact fun q => q.elim hC (fun z => c_131 z.2.2))
                      · refine lv_iload hx hb dL_lengthy_134 (lv_at hl 1 rfl) ?_
                        exact rg_retRi C0 hH hr hlocks rfl (by rw [lw_wr, if_neg hA, if_neg hB, if_pos (lw_an_iff.mpr ⟨d, by omega, decide_eq_true ⟨c_111, c_117, c_131⟩⟩)]) dL_lengthy_136
          replace hl : lv_has ls 7 [(6, .int (nI (0 + 1))), (5, .int (lw_ru M j)), (4, .int (lw_sea M j)), (3, .int (lw_ca M j)), (0, .ref (B + 412)), (1, .ref (B + 414)), (2, .int (nI j))] := by skip; exact hl
          exact cut_97 5 0 (by omega) _ _ _ hH (lv_sub hl [1, 2, 3, 4, 5, 6, 0] rfl) (by exact fun q => by cases q)
        refine lv_iload hx hb dL_lengthy_67 (lv_at hl 1 rfl) ?_
        refine lv_if_lt (tgt := 94) hx hb dL_lengthy_69 (by decide) (fun c_69 => ?_) (fun c_69 => ?_)
        · exact cut_94 _ _ _ hH (lv_sub hl [0, 1, 2, 3, 4, 5] rfl) (by exact fun q => q.1 c_69)
        · refine lv_iload hx hb dL_lengthy_72 (lv_at hl 1 rfl) ?_
          refine lv_iload_n hx hb dL_lengthy_74 rfl (lv_at hl 2 rfl) ?_
          refine lv_icmp_ne (tgt := 94) hx hb dL_lengthy_75 (by decide) (fun c_75 => ?_) (fun c_75 => ?_)
          · exact cut_94 _ _ _ hH (lv_sub hl [0, 1, 2, 3, 4, 5] rfl) (by exact fun q => c_75 q.2.1)
          · refine lv_iload hx hb dL_lengthy_78 (lv_at hl 0 rfl) ?_
            refine lv_iconst (v := 5) hx hb dL_lengthy_80 (by decide) ?_
            refine lv_iconst (v := 2) hx hb dL_lengthy_81 (by decide) ?_
            refine lv_iload hx hb dL_lengthy_82 (lv_at hl 1 rfl) ?_
            refine lv_iconst (v := 2) hx hb dL_lengthy_84 (by decide) ?_
            refine lv_irem hx hb dL_lengthy_85 (by decide) ?_
            refine lv_imul hx hb dL_lengthy_86 ?_
            refine lv_isub hx hb dL_lengthy_87 ?_
            refine lv_icmp_lt (tgt := 94) hx hb dL_lengthy_88 (by decide) (fun c_88 => ?_) (fun c_88 => ?_)
            · exact cut_94 _ _ _ hH (lv_sub hl [0, 1, 2, 3, 4, 5] rfl) (by exact fun q => q.2.2 c_88)
            · refine lv_iload hx hb dL_lengthy_91 (lv_at hl 1 rfl) ?_
              exact rg_retRi C0 hH hr hlocks rfl (by rw [lw_wr, if_neg hA, if_pos ⟨c_69, c_75, c_88⟩]) dL_lengthy_93
      refine lv_iload_n hx hb dL_lengthy_43 rfl (lv_at hl 2 rfl) ?_
      refine lv_if_lt (tgt := 67) hx hb dL_lengthy_44 (by decide) (fun c_44 => ?_) (fun c_44 => ?_)
      · exact cut_67 _ _ _ hH (lv_sub hl [0, 1, 2, 3, 4, 5] rfl) (by exact fun q => q.1 c_44)
      · refine lv_iload_n hx hb dL_lengthy_47 rfl (lv_at hl 2 rfl) ?_
        refine lv_iconst (v := 2) hx hb dL_lengthy_48 (by decide) ?_
        refine lv_irem hx hb dL_lengthy_49 (by decide) ?_
        refine lv_if_ne (tgt := 67) hx hb dL_lengthy_50 (by decide) (fun c_50 => ?_) (fun c_50 => ?_)
        · exact cut_67 _ _ _ hH (lv_sub hl [0, 1, 2, 3, 4, 5] rfl) (by exact fun q => c_50 q.2.1)
        · refine lv_iload hx hb dL_lengthy_53 (lv_at hl 0 rfl) ?_
          refine lv_iconst (v := 3) hx hb dL_lengthy_55 (by decide) ?_
          refine lv_icmp_ge (tgt := 67) hx hb dL_lengthy_56 (by decide) (fun c_56 => ?_) (fun c_56 => ?_)
          · exact cut_67 _ _ _ hH (lv_sub hl [0, 1, 2, 3, 4, 5] rfl) (by exact fun q => q.2.2.1 c_56)
          · refine lv_iload hx hb dL_lengthy_59 (lv_at hl 1 rfl) ?_
            refine lv_iload_n hx hb dL_lengthy_61 rfl (lv_at hl 2 rfl) ?_
            refine lv_icmp_eq (tgt := 67) hx hb dL_lengthy_62 (by decide) (fun c_62 => ?_) (fun c_62 => ?_)
            · exact cut_67 _ _ _ hH (lv_sub hl [0, 1, 2, 3, 4, 5] rfl) (by exact fun q => q.2.2.2 c_62)
            · refine lv_iload_n hx hb dL_lengthy_65 rfl (lv_at hl 2 rfl) ?_
              exact rg_retRi C0 hH hr hlocks rfl (by rw [lw_wr, if_pos ⟨c_44, c_50, c_56, c_62⟩]) dL_lengthy_66
    refine lv_iload_n hx hb dL_lengthy_25 rfl (lv_at hl 1 rfl) ?_
    refine lv_if_ge (tgt := 33) hx hb dL_lengthy_26 (by decide) (fun c_26 => ?_) (fun c_26 => ?_)
    · have h1 : 1 ≤ j := by
        by_cases q : 1 ≤ j
        · exact q
        · exact absurd (show lw_ca M j < 0 by unfold lw_ca; rw [if_neg q]; decide) (Int32.not_lt.mpr c_26)
      refine lv_aload_n hx hb dL_lengthy_33 rfl (lv_at hl 2 rfl) ?_
      refine lv_aload_n hx hb dL_lengthy_34 rfl (lv_at hl 3 rfl) ?_
      refine lv_iload_n hx hb dL_lengthy_35 rfl (lv_at hl 4 rfl) ?_
      refine lv_iconst (v := 1) hx hb dL_lengthy_36 (by decide) ?_
      refine lv_isub hx hb dL_lengthy_37 ?_
      refine rg_topi (y := nI (j - 1)) (by exact lw_sub1 (by omega)) ?_
      refine rg_callSGi C0 hH (As := [.ref (B + 412), .ref (B + 414), .int (nI (j - 1))]) (rest := []) (k_L_run l E B M n (j - 1) (by assumption) (by assumption) (by assumption) (by omega)) (rg_cwS 3 C0.1.2.2.2.2 tw_m_L_22 tw_s_L_run tw_n_L tw_c_L_run rfl rfl hd_L_run ⟨Nat.le_of_ble_eq_true rfl, Nat.le_of_ble_eq_true rfl⟩) rfl hl.1 rfl (Nat.le_of_ble_eq_true rfl) dL_lengthy_38 ⟨Nat.le_of_ble_eq_true rfl, Nat.le_of_ble_eq_true rfl⟩ (fun H locs hH => ?_)
      refine rg_topi (y := lw_ru M j) (by exact (if_neg (Int32.not_lt.mpr c_26)).symm) ?_
      exact cut_41 _ _ _ hH (lv_sub hl [0, 1, 2, 3, 4] rfl)
    · refine lv_iconst (v := 0) hx hb dL_lengthy_29 (by decide) ?_
      refine lv_goto (tgt := 41) hx hb dL_lengthy_30 (by decide) ?_
      refine rg_topi (y := lw_ru M j) (by exact (if_pos (by first | exact Int32.not_le.mp c_26)).symm) ?_
      exact cut_41 _ _ _ hH (lv_sub hl [0, 1, 2, 3, 4] rfl)
  refine lv_iload_n hx hb dL_lengthy_0 rfl (lv_at hl 2 rfl) ?_
  refine lv_if_ne (tgt := 8) hx hb dL_lengthy_1 (by decide) (fun c_1 => ?_) (fun c_1 => ?_)
  · have h1 : 1 ≤ j := by
      have : ¬ j = 0 := fun q => c_1 (by rw [q]; rfl)
      omega
    refine lv_aload_n hx hb dL_lengthy_8 rfl (lv_at hl 0 rfl) ?_
    refine lv_aload_n hx hb dL_lengthy_9 rfl (lv_at hl 1 rfl) ?_
    refine lv_iload_n hx hb dL_lengthy_10 rfl (lv_at hl 2 rfl) ?_
    refine lv_iconst (v := 1) hx hb dL_lengthy_11 (by decide) ?_
    refine lv_isub hx hb dL_lengthy_12 ?_
    refine rg_topi (y := nI (j - 1)) (by exact lw_sub1 (by omega)) ?_
    refine rg_callSGi C0 hH (As := [.ref (B + 412), .ref (B + 414), .int (nI (j - 1))]) (rest := []) (k_L_season l E B M n (j - 1) (by assumption) (by assumption) (by assumption) (by omega)) (rg_cwS 3 C0.1.2.2.2.2 tw_m_L_9 tw_s_L_season tw_n_L tw_c_L_season rfl rfl hd_L_season ⟨Nat.le_of_ble_eq_true rfl, Nat.le_of_ble_eq_true rfl⟩) rfl hl.1 rfl (Nat.le_of_ble_eq_true rfl) dL_lengthy_13 ⟨Nat.le_of_ble_eq_true rfl, Nat.le_of_ble_eq_true rfl⟩ (fun H locs hH => ?_)
    refine rg_topi (y := lw_ca M j) (by exact (if_pos h1).symm) ?_
    exact cut_16 _ _ _ hH (lv_sub hl [0, 1, 2] rfl)
  · refine lv_iconst (v := (-1)) hx hb dL_lengthy_4 (by decide) ?_
    refine lv_goto (tgt := 16) hx hb dL_lengthy_5 (by decide) ?_
    refine rg_topi (y := lw_ca M j) (by exact (if_neg (by have := rg_nI0 (by omega) c_1; omega)).symm) ?_
    exact cut_16 _ _ _ hH (lv_sub hl [0, 1, 2] rfl)

set_option maxHeartbeats 4000000 in
set_option maxRecDepth 100000 in
/-- the seat that is wrong -/
theorem k_L_seat (l : Launch) (E : rg_Env) (B : Nat) (M : rg_Mem) (n : Nat) (j : Nat) (hn : 422 ≤ n) (hT : lw_TI M) (hW : lw_WI M) (hj : j < 10) : Met l yL_seat (rg_w yL_seat cL_seat 7 (some (FieldType.int))) ({ frames := 1, cells := 0, slots := 0, locals := 24 } : Room) (va_Pc [.ref (B + 412), .ref (B + 414), .ref (B + 415), .int (nI j)] (rg_Pre E B n rg_R0 M)) (rg_Ri E B n rg_R0 (M) (fun r => r = rg_wst (lw_sgn M j) (M.1 415 (4 * j + 1)))) 0 0 (rg_A B) := by
  refine rg_ofW (by decide +kernel) rfl (Nat.le_of_ble_eq_true rfl) ?_
  intro p e s m args below meth c ls C0 hH hl hr hlocks hnm
  replace hl : lv_has ls 7 [(0, .ref (B + 412)), (1, .ref (B + 414)), (2, .ref (B + 415)), (3, .int (nI j))] := hl
  have hx := C0.1.1
  have hb := C0.1.2.1
  generalize hH9 : s.heap = H at hH ⊢
  generalize hL9 : ([] : List Loc) = locs at hH ⊢
  clear hH9 hL9
  refine lv_aload_n hx hb dL_seat_0 rfl (lv_at hl 0 rfl) ?_
  refine lv_aload_n hx hb dL_seat_1 rfl (lv_at hl 1 rfl) ?_
  refine lv_iload_n hx hb dL_seat_2 rfl (lv_at hl 3 rfl) ?_
  refine rg_callSGi C0 hH (As := [.ref (B + 412), .ref (B + 414), .int (nI j)]) (rest := []) (k_L_signs l E B M n j (by assumption) (by assumption) (by assumption) hj) (rg_cwS 3 C0.1.2.2.2.2 tw_m_L_19 tw_s_L_signs tw_n_L tw_c_L_signs rfl rfl hd_L_signs ⟨Nat.le_of_ble_eq_true rfl, Nat.le_of_ble_eq_true rfl⟩) rfl hl.1 rfl (Nat.le_of_ble_eq_true rfl) dL_seat_3 ⟨Nat.le_of_ble_eq_true rfl, Nat.le_of_ble_eq_true rfl⟩ (fun H locs hH => ?_)
  refine lv_istore (lv' := [(4, .int (lw_sgn M j)), (0, .ref (B + 412)), (1, .ref (B + 414)), (2, .ref (B + 415)), (3, .int (nI j))]) hx hb dL_seat_6 hl (by decide) rfl (fun ls hl => ?_)
  have cut_54 : ∀  (H : Heap) (locs : List Loc) (ls : Array Slot), rg_H E B n rg_R0 M s H locs → lv_has ls 7 [(4, .int (lw_sgn M j)), (0, .ref (B + 412)), (1, .ref (B + 414)), (2, .ref (B + 415)), (3, .int (nI j))] → W p l e ({ frames := 1, cells := 0, slots := 0, locals := 24 } : Room) s m args below meth c H locs 0 0 (MQ below (rg_Ri E B n rg_R0 (M) (fun r => r = rg_wst (lw_sgn M j) (M.1 415 (4 * j + 1)))) args s 0 0 (rg_A B)) (F0 m 54 ls [.int (rg_b (¬ ((¬ (lw_sgn M j >>> (8 &&& 31)) &&& 1 = 0) ↔ M.1 415 (4 * j + 1) = 1)))]) := by
    intro  H locs ls hH hl 
    refine lv_istore (lv' := [(5, .int (rg_b (¬ ((¬ (lw_sgn M j >>> (8 &&& 31)) &&& 1 = 0) ↔ M.1 415 (4 * j + 1) = 1)))), (4, .int (lw_sgn M j)), (0, .ref (B + 412)), (1, .ref (B + 414)), (2, .ref (B + 415)), (3, .int (nI j))]) hx hb dL_seat_54 hl (by decide) rfl (fun ls hl => ?_)
    have cut_102 : ∀  (H : Heap) (locs : List Loc) (ls : Array Slot), rg_H E B n rg_R0 M s H locs → lv_has ls 7 [(5, .int (rg_b (¬ ((¬ (lw_sgn M j >>> (8 &&& 31)) &&& 1 = 0) ↔ M.1 415 (4 * j + 1) = 1)))), (4, .int (lw_sgn M j)), (0, .ref (B + 412)), (1, .ref (B + 414)), (2, .ref (B + 415)), (3, .int (nI j))] → W p l e ({ frames := 1, cells := 0, slots := 0, locals := 24 } : Room) s m args below meth c H locs 0 0 (MQ below (rg_Ri E B n rg_R0 (M) (fun r => r = rg_wst (lw_sgn M j) (M.1 415 (4 * j + 1)))) args s 0 0 (rg_A B)) (F0 m 102 ls [.int (rg_b (¬ ((¬ (lw_sgn M j >>> (9 &&& 31)) &&& 1 = 0) ↔ M.1 415 (4 * j + 1) = 2)))]) := by
      intro  H locs ls hH hl 
      refine lv_istore (lv' := [(6, .int (rg_b (¬ ((¬ (lw_sgn M j >>> (9 &&& 31)) &&& 1 = 0) ↔ M.1 415 (4 * j + 1) = 2)))), (5, .int (rg_b (¬ ((¬ (lw_sgn M j >>> (8 &&& 31)) &&& 1 = 0) ↔ M.1 415 (4 * j + 1) = 1)))), (4, .int (lw_sgn M j)), (0, .ref (B + 412)), (1, .ref (B + 414)), (2, .ref (B + 415)), (3, .int (nI j))]) hx hb dL_seat_102 hl (by decide) rfl (fun ls hl => ?_)
      refine lv_iload hx hb dL_seat_104 (lv_at hl 1 rfl) ?_
      refine lv_if_eq (tgt := 113) hx hb dL_seat_106 (by decide) (fun c_106 => ?_) (fun c_106 => ?_)
      · refine lv_iload hx hb dL_seat_113 (lv_at hl 0 rfl) ?_
        refine lv_if_eq (tgt := 122) hx hb dL_seat_115 (by decide) (fun c_115 => ?_) (fun c_115 => ?_)
        · refine lv_iconst (v := (-1)) hx hb dL_seat_122 (by decide) ?_
          exact rg_retRi C0 hH hr hlocks rfl (by rw [rg_wst, if_neg (rg_b_eq.mp c_106), if_neg (rg_b_eq.mp c_115)]) dL_seat_123
        · refine lv_iconst (v := 2) hx hb dL_seat_118 (by decide) ?_
          refine lv_goto (tgt := 123) hx hb dL_seat_119 (by decide) ?_
          exact rg_retRi C0 hH hr hlocks rfl (by rw [rg_wst, if_neg (rg_b_eq.mp c_106), if_pos (rg_b_ne.mp c_115)]) dL_seat_123
      · refine lv_iconst (v := 1) hx hb dL_seat_109 (by decide) ?_
        refine lv_goto (tgt := 123) hx hb dL_seat_110 (by decide) ?_
        exact rg_retRi C0 hH hr hlocks rfl (by rw [rg_wst, if_pos (rg_b_ne.mp c_106)]) dL_seat_123
    refine lv_iload hx hb dL_seat_56 (lv_at hl 1 rfl) ?_
    refine lv_bipush (v := 9) hx hb dL_seat_58 (by decide) ?_
    refine lv_ishr hx hb dL_seat_60 ?_
    refine lv_iconst (v := 1) hx hb dL_seat_61 (by decide) ?_
    refine lv_iand hx hb dL_seat_62 ?_
    refine lv_iconst (v := 1) hx hb dL_seat_63 (by decide) ?_
    refine lv_icmp_ne (tgt := 86) hx hb dL_seat_64 (by decide) (fun c_64 => ?_) (fun c_64 => ?_)
    · refine lv_aload_n hx hb dL_seat_86 rfl (lv_at hl 4 rfl) ?_
      refine lv_iconst (v := 4) hx hb dL_seat_87 (by decide) ?_
      refine lv_iload_n hx hb dL_seat_88 rfl (lv_at hl 5 rfl) ?_
      refine lv_imul hx hb dL_seat_89 ?_
      refine rg_topi (y := nI (4 * j)) (by exact lw_mul (4) (j)) ?_
      refine lv_iconst (v := 1) hx hb dL_seat_90 (by decide) ?_
      refine lv_iadd hx hb dL_seat_91 ?_
      refine rg_topi (y := nI ((4 * j) + 1)) (by exact nI_add (4 * j) (1)) ?_
      refine rg_ialdN C0 hH (o := 415) (j := ((4 * j) + 1)) (n0 := 44) (by omega) rfl rfl (by omega) dL_seat_92 ?_
      refine lv_iconst (v := 2) hx hb dL_seat_93 (by decide) ?_
      refine lv_icmp_ne (tgt := 101) hx hb dL_seat_94 (by decide) (fun c_94 => ?_) (fun c_94 => ?_)
      · refine lv_iconst (v := 0) hx hb dL_seat_101 (by decide) ?_
        refine rg_topi (y := rg_b (¬ ((¬ (lw_sgn M j >>> (9 &&& 31)) &&& 1 = 0) ↔ M.1 415 (4 * j + 1) = 2))) (by exact rg_b_f (by simp_all [lw_b1])) ?_
        exact cut_102 _ _ _ hH (lv_sub hl [0, 1, 2, 3, 4, 5] rfl)
      · refine lv_iconst (v := 1) hx hb dL_seat_97 (by decide) ?_
        refine lv_goto (tgt := 102) hx hb dL_seat_98 (by decide) ?_
        refine rg_topi (y := rg_b (¬ ((¬ (lw_sgn M j >>> (9 &&& 31)) &&& 1 = 0) ↔ M.1 415 (4 * j + 1) = 2))) (by exact rg_b_t (by simp_all [lw_b1])) ?_
        exact cut_102 _ _ _ hH (lv_sub hl [0, 1, 2, 3, 4, 5] rfl)
    · refine lv_aload_n hx hb dL_seat_67 rfl (lv_at hl 4 rfl) ?_
      refine lv_iconst (v := 4) hx hb dL_seat_68 (by decide) ?_
      refine lv_iload_n hx hb dL_seat_69 rfl (lv_at hl 5 rfl) ?_
      refine lv_imul hx hb dL_seat_70 ?_
      refine rg_topi (y := nI (4 * j)) (by exact lw_mul (4) (j)) ?_
      refine lv_iconst (v := 1) hx hb dL_seat_71 (by decide) ?_
      refine lv_iadd hx hb dL_seat_72 ?_
      refine rg_topi (y := nI ((4 * j) + 1)) (by exact nI_add (4 * j) (1)) ?_
      refine rg_ialdN C0 hH (o := 415) (j := ((4 * j) + 1)) (n0 := 44) (by omega) rfl rfl (by omega) dL_seat_73 ?_
      refine lv_iconst (v := 2) hx hb dL_seat_74 (by decide) ?_
      refine lv_icmp_eq (tgt := 82) hx hb dL_seat_75 (by decide) (fun c_75 => ?_) (fun c_75 => ?_)
      · refine lv_iconst (v := 0) hx hb dL_seat_82 (by decide) ?_
        refine lv_goto (tgt := 102) hx hb dL_seat_83 (by decide) ?_
        refine rg_topi (y := rg_b (¬ ((¬ (lw_sgn M j >>> (9 &&& 31)) &&& 1 = 0) ↔ M.1 415 (4 * j + 1) = 2))) (by exact rg_b_f (by simp_all [lw_b1])) ?_
        exact cut_102 _ _ _ hH (lv_sub hl [0, 1, 2, 3, 4, 5] rfl)
      · refine lv_iconst (v := 1) hx hb dL_seat_78 (by decide) ?_
        refine lv_goto (tgt := 102) hx hb dL_seat_79 (by decide) ?_
        refine rg_topi (y := rg_b (¬ ((¬ (lw_sgn M j >>> (9 &&& 31)) &&& 1 = 0) ↔ M.1 415 (4 * j + 1) = 2))) (by exact rg_b_t (by simp_all [lw_b1])) ?_
        exact cut_102 _ _ _ hH (lv_sub hl [0, 1, 2, 3, 4, 5] rfl)
  refine lv_iload hx hb dL_seat_8 (lv_at hl 0 rfl) ?_
  refine lv_bipush (v := 8) hx hb dL_seat_10 (by decide) ?_
  refine lv_ishr hx hb dL_seat_12 ?_
  refine lv_iconst (v := 1) hx hb dL_seat_13 (by decide) ?_
  refine lv_iand hx hb dL_seat_14 ?_
  refine lv_iconst (v := 1) hx hb dL_seat_15 (by decide) ?_
  refine lv_icmp_ne (tgt := 38) hx hb dL_seat_16 (by decide) (fun c_16 => ?_) (fun c_16 => ?_)
  · refine lv_aload_n hx hb dL_seat_38 rfl (lv_at hl 3 rfl) ?_
    refine lv_iconst (v := 4) hx hb dL_seat_39 (by decide) ?_
    refine lv_iload_n hx hb dL_seat_40 rfl (lv_at hl 4 rfl) ?_
    refine lv_imul hx hb dL_seat_41 ?_
    refine rg_topi (y := nI (4 * j)) (by exact lw_mul (4) (j)) ?_
    refine lv_iconst (v := 1) hx hb dL_seat_42 (by decide) ?_
    refine lv_iadd hx hb dL_seat_43 ?_
    refine rg_topi (y := nI ((4 * j) + 1)) (by exact nI_add (4 * j) (1)) ?_
    refine rg_ialdN C0 hH (o := 415) (j := ((4 * j) + 1)) (n0 := 44) (by omega) rfl rfl (by omega) dL_seat_44 ?_
    refine lv_iconst (v := 1) hx hb dL_seat_45 (by decide) ?_
    refine lv_icmp_ne (tgt := 53) hx hb dL_seat_46 (by decide) (fun c_46 => ?_) (fun c_46 => ?_)
    · refine lv_iconst (v := 0) hx hb dL_seat_53 (by decide) ?_
      refine rg_topi (y := rg_b (¬ ((¬ (lw_sgn M j >>> (8 &&& 31)) &&& 1 = 0) ↔ M.1 415 (4 * j + 1) = 1))) (by exact rg_b_f (by simp_all [lw_b1])) ?_
      exact cut_54 _ _ _ hH (lv_sub hl [0, 1, 2, 3, 4] rfl)
    · refine lv_iconst (v := 1) hx hb dL_seat_49 (by decide) ?_
      refine lv_goto (tgt := 54) hx hb dL_seat_50 (by decide) ?_
      refine rg_topi (y := rg_b (¬ ((¬ (lw_sgn M j >>> (8 &&& 31)) &&& 1 = 0) ↔ M.1 415 (4 * j + 1) = 1))) (by exact rg_b_t (by simp_all [lw_b1])) ?_
      exact cut_54 _ _ _ hH (lv_sub hl [0, 1, 2, 3, 4] rfl)
  · refine lv_aload_n hx hb dL_seat_19 rfl (lv_at hl 3 rfl) ?_
    refine lv_iconst (v := 4) hx hb dL_seat_20 (by decide) ?_
    refine lv_iload_n hx hb dL_seat_21 rfl (lv_at hl 4 rfl) ?_
    refine lv_imul hx hb dL_seat_22 ?_
    refine rg_topi (y := nI (4 * j)) (by exact lw_mul (4) (j)) ?_
    refine lv_iconst (v := 1) hx hb dL_seat_23 (by decide) ?_
    refine lv_iadd hx hb dL_seat_24 ?_
    refine rg_topi (y := nI ((4 * j) + 1)) (by exact nI_add (4 * j) (1)) ?_
    refine rg_ialdN C0 hH (o := 415) (j := ((4 * j) + 1)) (n0 := 44) (by omega) rfl rfl (by omega) dL_seat_25 ?_
    refine lv_iconst (v := 1) hx hb dL_seat_26 (by decide) ?_
    refine lv_icmp_eq (tgt := 34) hx hb dL_seat_27 (by decide) (fun c_27 => ?_) (fun c_27 => ?_)
    · refine lv_iconst (v := 0) hx hb dL_seat_34 (by decide) ?_
      refine lv_goto (tgt := 54) hx hb dL_seat_35 (by decide) ?_
      refine rg_topi (y := rg_b (¬ ((¬ (lw_sgn M j >>> (8 &&& 31)) &&& 1 = 0) ↔ M.1 415 (4 * j + 1) = 1))) (by exact rg_b_f (by simp_all [lw_b1])) ?_
      exact cut_54 _ _ _ hH (lv_sub hl [0, 1, 2, 3, 4] rfl)
    · refine lv_iconst (v := 1) hx hb dL_seat_30 (by decide) ?_
      refine lv_goto (tgt := 54) hx hb dL_seat_31 (by decide) ?_
      refine rg_topi (y := rg_b (¬ ((¬ (lw_sgn M j >>> (8 &&& 31)) &&& 1 = 0) ↔ M.1 415 (4 * j + 1) = 1))) (by exact rg_b_t (by simp_all [lw_b1])) ?_
      exact cut_54 _ _ _ hH (lv_sub hl [0, 1, 2, 3, 4] rfl)
