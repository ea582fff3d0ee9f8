set_option maxHeartbeats 4000000 in
set_option maxRecDepth 100000 in
/-- joins -/
theorem k_X7_joins (l : Launch) (E : rg_Env) (B : Nat) (M : rg_Mem) (n : Nat) (v : Nat) (hI : rm_CI M) (hmy : M.1 412 31 = nI n) (hn6 : n ≤ 6) (hrw : ∀ k, k < n → rm_iw M (M.1 431 k)) (hv9 : v ≤ rm_nl M) (hv1 : 1 ≤ v) : Met l yX7_joins (rg_w yX7_joins cX7_joins 5 (some (FieldType.boolean))) ({ frames := 1, cells := 0, slots := 0, locals := 23 } : Room) (va_Pc [.ref (B + 412), .int (nI v)] (rg_Pre E B 433 rg_R0 M)) (rg_Ri E B 433 rg_R0 (M) (fun r => r = rg_b ((rm_jo M (M.1 431) n v) = true))) 0 0 (rg_A B) := by
  refine rg_ofW (by decide +kernel) rfl (Nat.le_of_ble_eq_true rfl) ?_
  intro p e s m args below meth c ls C0 hH hl hr hlocks hnm
  replace hl : lv_has ls 5 [(0, .ref (B + 412)), (1, .int (nI v))] := hl
  have hx := C0.1.1
  have hb := C0.1.2.1
  generalize hH9 : s.heap = H at hH ⊢
  generalize hL9 : ([] : List Loc) = locs at hH ⊢
  clear hH9 hL9
  have hl36 := (rm_CI_l hI).2
  have hvl : v - 1 < rm_nl M := by omega
  have hz6 := (rm_CI_v hI (v - 1) hvl).2.1
  refine lv_aload_n hx hb dX7_joins_0 rfl (lv_at hl 0 rfl) ?_
  refine rg_callGi C0 hH (As := []) (rest := []) (o := 412) (ci := 7) (k_X7_signsOfRow l E B M n (by assumption) (by assumption) (by assumption) (by assumption)) (rg_cw 0 C0.1.2.2.2.2 tw_m_X7_140 tw_i_X7_signsOfRow tw_v_X7_signsOfRow tw_n_X7 tw_c_X7_signsOfRow rfl rfl hd_X7_signsOfRow ⟨Nat.le_of_ble_eq_true rfl, Nat.le_of_ble_eq_true rfl⟩) rfl (by decide) rfl (by decide) rfl hl.1 rfl (Nat.le_of_ble_eq_true rfl) dX7_joins_1 ⟨Nat.le_of_ble_eq_true rfl, Nat.le_of_ble_eq_true rfl⟩ (fun H locs hH => ?_)
  refine lv_aload_n hx hb dX7_joins_4 rfl (lv_at hl 0 rfl) ?_
  refine lv_iload_n hx hb dX7_joins_5 rfl (lv_at hl 1 rfl) ?_
  refine lv_iconst (v := 1) hx hb dX7_joins_6 (by decide) ?_
  refine lv_isub hx hb dX7_joins_7 ?_
  refine rg_topi (y := nI (v - 1)) (by exact rm_sub1 hv1) ?_
  refine rg_callGi C0 hH (As := [.int (nI (v - 1))]) (rest := [.int (rg_og (M.1 415) (M.1 431) n)]) (o := 412) (ci := 7) (k_X7_signsOf l E B M (v - 1) (by first | exact hI | exact hvl) (by first | exact hI | exact hvl)) (rg_cw 1 C0.1.2.2.2.2 tw_m_X7_143 tw_i_X7_signsOf tw_v_X7_signsOf tw_n_X7 tw_c_X7_signsOf rfl rfl hd_X7_signsOf ⟨Nat.le_of_ble_eq_true rfl, Nat.le_of_ble_eq_true rfl⟩) rfl (by decide) rfl (by decide) rfl hl.1 rfl (Nat.le_of_ble_eq_true rfl) dX7_joins_8 ⟨Nat.le_of_ble_eq_true rfl, Nat.le_of_ble_eq_true rfl⟩ (fun H locs hH => ?_)
  refine lv_iand hx hb dX7_joins_11 ?_
  refine lv_sipush (v := 255) hx hb dX7_joins_12 (by decide) ?_
  refine lv_iand hx hb dX7_joins_15 ?_
  have cut_24 : ∀  (H : Heap) (locs : List Loc) (ls : Array Slot), rg_H E B 433 rg_R0 M s H locs → lv_has ls 5 [(0, .ref (B + 412)), (1, .int (nI v))] → W p l e ({ frames := 1, cells := 0, slots := 0, locals := 23 } : Room) s m args below meth c H locs 0 0 (MQ below (rg_Ri E B 433 rg_R0 (M) (fun r => r = rg_b ((rm_jo M (M.1 431) n v) = true))) args s 0 0 (rg_A B)) (F0 m 24 ls [.int (rg_b (¬ (rg_og (M.1 415) (M.1 431) n &&& rm_sgn M (v - 1)) &&& 255 = 0))]) := by
    intro  H locs ls hH hl 
    refine lv_istore_n (lv' := [(2, .int (rg_b (¬ (rg_og (M.1 415) (M.1 431) n &&& rm_sgn M (v - 1)) &&& 255 = 0))), (0, .ref (B + 412)), (1, .int (nI v))]) hx hb dX7_joins_24 rfl hl (by decide) rfl (fun ls hl => ?_)
    refine lv_iconst (v := 0) hx hb dX7_joins_25 (by decide) ?_
    refine lv_istore_n (lv' := [(3, .int (0)), (2, .int (rg_b (¬ (rg_og (M.1 415) (M.1 431) n &&& rm_sgn M (v - 1)) &&& 255 = 0))), (0, .ref (B + 412)), (1, .int (nI v))]) hx hb dX7_joins_26 rfl hl (by decide) rfl (fun ls hl => ?_)
    have cut_27 : ∀ (fu i : Nat), i ≤ n ∧ n < i + fu → ∀  (H : Heap) (locs : List Loc) (ls : Array Slot), rg_H E B 433 rg_R0 M s H locs → lv_has ls 5 [(0, .ref (B + 412)), (1, .int (nI v)), (2, .int (rg_b ((rm_jG M (M.1 431) n v || rm_an (rm_jP M (M.1 431) v) i) = true))), (3, .int (nI i))] → W p l e ({ frames := 1, cells := 0, slots := 0, locals := 23 } : Room) s m args below meth c H locs 0 0 (MQ below (rg_Ri E B 433 rg_R0 (M) (fun r => r = rg_b ((rm_jo M (M.1 431) n v) = true))) args s 0 0 (rg_A B)) (F0 m 27 ls []) := by
      intro fu
      induction fu with
      | zero =>
        intro i hm
        exact absurd hm (by omega)
      | succ fu ih =>
        intro i hm  H locs ls hH hl 
        refine lv_iload_n hx hb dX7_joins_27 rfl (lv_at hl 3 rfl) ?_
        refine lv_aload_n hx hb dX7_joins_28 rfl (lv_at hl 0 rfl) ?_
        refine rg_gI C0 hH (ci := 7) (k := 31) (o := 412) rfl inT_X7 (by decide) tw_f_X7_133 (by decide) rfl (by decide) rfl dX7_joins_29 ?_
        refine rg_topi (y := nI n) (by exact hmy) ?_
        refine lv_icmp_ge (tgt := 100) hx hb dX7_joins_32 (by decide) (fun c_32 => ?_) (fun c_32 => ?_)
        · refine lv_iload_n hx hb dX7_joins_100 rfl (lv_at hl 2 rfl) ?_
          exact rg_retRz C0 hH hr hlocks (by exact rg_b_01) rfl (by rw [rg_lp_end hm.1 (by omega) c_32]) dX7_joins_101
        · have hlt := rg_lp_lt hm.1 (by omega) c_32
          have hwi := rm_iw_in hI (hrw i hlt)
          refine lv_iconst (v := 0) hx hb dX7_joins_35 (by decide) ?_
          refine lv_istore (lv' := [(4, .int (0)), (0, .ref (B + 412)), (1, .int (nI v)), (2, .int (rg_b ((rm_jG M (M.1 431) n v || rm_an (rm_jP M (M.1 431) v) i) = true))), (3, .int (nI i))]) hx hb dX7_joins_36 hl (by decide) rfl (fun ls hl => ?_)
          have cut_38 : ∀ (fu2 j : Nat), j ≤ rm_z M (v - 1) ∧ rm_z M (v - 1) < j + fu2 → ∀  (H : Heap) (locs : List Loc) (ls : Array Slot), rg_H E B 433 rg_R0 M s H locs → lv_has ls 5 [(0, .ref (B + 412)), (1, .int (nI v)), (2, .int (rg_b (((rm_jG M (M.1 431) n v || rm_an (rm_jP M (M.1 431) v) i) || rm_an (rm_jQ M (M.1 431) v i) j) = true))), (3, .int (nI i)), (4, .int (nI j))] → W p l e ({ frames := 1, cells := 0, slots := 0, locals := 23 } : Room) s m args below meth c H locs 0 0 (MQ below (rg_Ri E B 433 rg_R0 (M) (fun r => r = rg_b ((rm_jo M (M.1 431) n v) = true))) args s 0 0 (rg_A B)) (F0 m 38 ls []) := by
            intro fu2
            induction fu2 with
            | zero =>
              intro j hm2
              exact absurd hm2 (by omega)
            | succ fu2 ih2 =>
              intro j hm2  H locs ls hH hl 
              refine lv_iload hx hb dX7_joins_38 (lv_at hl 4 rfl) ?_
              refine lv_aload_n hx hb dX7_joins_40 rfl (lv_at hl 0 rfl) ?_
              refine rg_gR C0 hH (o2 := 418) (ci := 7) (k := 13) (o := 412) rfl rfl inT_X7 (by decide) tw_f_X7_26 (by decide) rfl (by decide) rfl dX7_joins_41 ?_
              refine lv_iload_n hx hb dX7_joins_44 rfl (lv_at hl 1 rfl) ?_
              refine lv_iconst (v := 1) hx hb dX7_joins_45 (by decide) ?_
              refine lv_isub hx hb dX7_joins_46 ?_
              refine rg_topi (y := nI (v - 1)) (by exact rm_sub1 hv1) ?_
              refine rg_ialdN C0 hH (o := 418) (j := (v - 1)) (n0 := 36) (by decide) rfl rfl (by omega) dX7_joins_47 ?_
              refine rg_topi (y := nI (rm_z M (v - 1))) (by exact (rm_CI_v hI (v - 1) hvl).1) ?_
              refine lv_icmp_ge (tgt := 94) hx hb dX7_joins_48 (by decide) (fun c_48 => ?_) (fun c_48 => ?_)
              · replace hl : lv_has ls 5 [(0, .ref (B + 412)), (1, .int (nI v)), (2, .int (rg_b (((rm_jG M (M.1 431) n v || rm_an (rm_jP M (M.1 431) v) i) || rm_an (rm_jQ M (M.1 431) v i) (rm_z M (v - 1))) = true))), (3, .int (nI i)), (4, .int (nI j))] := by rw [← rg_lp_end hm2.1 (by omega) c_48]; exact hl
                refine lv_iinc (v := nI (i + 1)) (lv' := [(3, .int (nI (i + 1))), (0, .ref (B + 412)), (1, .int (nI v)), (2, .int (rg_b (((rm_jG M (M.1 431) n v || rm_an (rm_jP M (M.1 431) v) i) || rm_an (rm_jQ M (M.1 431) v i) (rm_z M (v - 1))) = true))), (4, .int (nI j))]) hx hb dX7_joins_94 hl (k := 3) rfl (nI_1 _) (by decide) rfl (fun ls hl => ?_)
                refine lv_goto (tgt := 27) hx hb dX7_joins_97 (by decide) ?_
                replace hl : lv_has ls 5 [(3, .int (nI (i + 1))), (0, .ref (B + 412)), (1, .int (nI v)), (2, .int (rg_b ((rm_jG M (M.1 431) n v || rm_an (rm_jP M (M.1 431) v) (i + 1)) = true))), (4, .int (nI j))] := by have e : rg_b ((rm_jG M (M.1 431) n v || rm_an (rm_jP M (M.1 431) v) (i + 1)) = true) = rg_b (((rm_jG M (M.1 431) n v || rm_an (rm_jP M (M.1 431) v) i) || rm_an (rm_jQ M (M.1 431) v i) (rm_z M (v - 1))) = true) := rg_b_cg (by show ((rm_jG M (M.1 431) n v || (rm_an (rm_jP M (M.1 431) v) i || rm_an (rm_jQ M (M.1 431) v i) (rm_z M (v - 1)))) = true) ↔ _; rw [Bool.or_assoc]); rw [e]; exact hl
                exact ih (i + 1) (by omega) _ _ _ hH (lv_sub hl [1, 2, 3, 0] rfl)
              · have hlt2 := rg_lp_lt hm2.1 (by omega) c_48
                refine lv_iload_n hx hb dX7_joins_51 rfl (lv_at hl 2 rfl) ?_
                refine lv_if_ne (tgt := 82) hx hb dX7_joins_52 (by decide) (fun c_52 => ?_) (fun c_52 => ?_)
                · refine lv_iconst (v := 1) hx hb dX7_joins_82 (by decide) ?_
                  refine lv_goto (tgt := 87) hx hb dX7_joins_83 (by decide) ?_
                  refine lv_istore_n (lv' := [(2, .int (1)), (0, .ref (B + 412)), (1, .int (nI v)), (3, .int (nI i)), (4, .int (nI j))]) hx hb dX7_joins_87 rfl hl (by decide) rfl (fun ls hl => ?_)
                  refine lv_iinc (v := nI (j + 1)) (lv' := [(4, .int (nI (j + 1))), (2, .int (1)), (0, .ref (B + 412)), (1, .int (nI v)), (3, .int (nI i))]) hx hb dX7_joins_88 hl (k := 4) rfl (nI_1 _) (by decide) rfl (fun ls hl => ?_)
                  refine lv_goto (tgt := 38) hx hb dX7_joins_91 (by decide) ?_
                  replace hl : lv_has ls 5 [(4, .int (nI (j + 1))), (2, .int (rg_b (((rm_jG M (M.1 431) n v || rm_an (rm_jP M (M.1 431) v) i) || rm_an (rm_jQ M (M.1 431) v i) (j + 1)) = true))), (0, .ref (B + 412)), (1, .int (nI v)), (3, .int (nI i))] := by have e : (1 : Int32) = rg_b (((rm_jG M (M.1 431) n v || rm_an (rm_jP M (M.1 431) v) i) || rm_an (rm_jQ M (M.1 431) v i) (j + 1)) = true) := rm_or1 c_52; rw [← e]; exact hl
                  exact ih2 (j + 1) (by omega) _ _ _ hH (lv_sub hl [2, 3, 1, 4, 0] rfl)
                · refine lv_aload_n hx hb dX7_joins_55 rfl (lv_at hl 0 rfl) ?_
                  refine lv_aload_n hx hb dX7_joins_56 rfl (lv_at hl 0 rfl) ?_
                  refine rg_gR C0 hH (o2 := 431) (ci := 7) (k := 30) (o := 412) rfl rfl inT_X7 (by decide) tw_f_X7_70 (by decide) rfl (by decide) rfl dX7_joins_57 ?_
                  refine lv_iload_n hx hb dX7_joins_60 rfl (lv_at hl 3 rfl) ?_
                  refine rg_ialdN C0 hH (o := 431) (j := i) (n0 := 6) (by decide) rfl rfl (by omega) dX7_joins_61 ?_
                  refine lv_aload_n hx hb dX7_joins_62 rfl (lv_at hl 0 rfl) ?_
                  refine rg_gR C0 hH (o2 := 417) (ci := 7) (k := 12) (o := 412) rfl rfl inT_X7 (by decide) tw_f_X7_23 (by decide) rfl (by decide) rfl dX7_joins_63 ?_
                  refine lv_bipush (v := 6) hx hb dX7_joins_66 (by decide) ?_
                  refine lv_iload_n hx hb dX7_joins_68 rfl (lv_at hl 1 rfl) ?_
                  refine lv_iconst (v := 1) hx hb dX7_joins_69 (by decide) ?_
                  refine lv_isub hx hb dX7_joins_70 ?_
                  refine rg_topi (y := nI (v - 1)) (by exact rm_sub1 hv1) ?_
                  refine lv_imul hx hb dX7_joins_71 ?_
                  refine rg_topi (y := nI (6 * (v - 1))) (by exact rm_mul (6) (v - 1)) ?_
                  refine lv_iload hx hb dX7_joins_72 (lv_at hl 4 rfl) ?_
                  refine lv_iadd hx hb dX7_joins_74 ?_
                  refine rg_topi (y := nI ((6 * (v - 1)) + j)) (by exact nI_add (6 * (v - 1)) (j)) ?_
                  refine rg_ialdN C0 hH (o := 417) (j := ((6 * (v - 1)) + j)) (n0 := 216) (by decide) rfl rfl (by omega) dX7_joins_75 ?_
                  refine rg_callGi C0 hH (As := [.int (M.1 431 i), .int (M.1 417 (((6 * (v - 1)) + j)))]) (rest := []) (o := 412) (ci := 7) (k_X7_calls l E B M (M.1 431 i) (M.1 417 (((6 * (v - 1)) + j))) (by exact hwi)) (rg_cw 2 C0.1.2.2.2.2 tw_m_X7_100 tw_i_X7_calls tw_v_X7_calls tw_n_X7 tw_c_X7_calls rfl rfl hd_X7_calls ⟨Nat.le_of_ble_eq_true rfl, Nat.le_of_ble_eq_true rfl⟩) rfl (by decide) rfl (by decide) rfl hl.1 rfl (Nat.le_of_ble_eq_true rfl) dX7_joins_76 ⟨Nat.le_of_ble_eq_true rfl, Nat.le_of_ble_eq_true rfl⟩ (fun H locs hH => ?_)
                  refine lv_if_eq (tgt := 86) hx hb dX7_joins_79 (by decide) (fun c_79 => ?_) (fun c_79 => ?_)
                  · refine lv_iconst (v := 0) hx hb dX7_joins_86 (by decide) ?_
                    refine lv_istore_n (lv' := [(2, .int (0)), (0, .ref (B + 412)), (1, .int (nI v)), (3, .int (nI i)), (4, .int (nI j))]) hx hb dX7_joins_87 rfl hl (by decide) rfl (fun ls hl => ?_)
                    refine lv_iinc (v := nI (j + 1)) (lv' := [(4, .int (nI (j + 1))), (2, .int (0)), (0, .ref (B + 412)), (1, .int (nI v)), (3, .int (nI i))]) hx hb dX7_joins_88 hl (k := 4) rfl (nI_1 _) (by decide) rfl (fun ls hl => ?_)
                    refine lv_goto (tgt := 38) hx hb dX7_joins_91 (by decide) ?_
                    replace hl : lv_has ls 5 [(4, .int (nI (j + 1))), (2, .int (rg_b (((rm_jG M (M.1 431) n v || rm_an (rm_jP M (M.1 431) v) i) || rm_an (rm_jQ M (M.1 431) v i) (j + 1)) = true))), (0, .ref (B + 412)), (1, .int (nI v)), (3, .int (nI i))] := by have e : (0 : Int32) = rg_b (((rm_jG M (M.1 431) n v || rm_an (rm_jP M (M.1 431) v) i) || rm_an (rm_jQ M (M.1 431) v i) (j + 1)) = true) := rm_or0 c_52 (fun q => rg_b_eq.mp c_79 (of_decide_eq_true q)); rw [← e]; exact hl
                    exact ih2 (j + 1) (by omega) _ _ _ hH (lv_sub hl [2, 3, 1, 4, 0] rfl)
                  · refine lv_iconst (v := 1) hx hb dX7_joins_82 (by decide) ?_
                    refine lv_goto (tgt := 87) hx hb dX7_joins_83 (by decide) ?_
                    refine lv_istore_n (lv' := [(2, .int (1)), (0, .ref (B + 412)), (1, .int (nI v)), (3, .int (nI i)), (4, .int (nI j))]) hx hb dX7_joins_87 rfl hl (by decide) rfl (fun ls hl => ?_)
                    refine lv_iinc (v := nI (j + 1)) (lv' := [(4, .int (nI (j + 1))), (2, .int (1)), (0, .ref (B + 412)), (1, .int (nI v)), (3, .int (nI i))]) hx hb dX7_joins_88 hl (k := 4) rfl (nI_1 _) (by decide) rfl (fun ls hl => ?_)
                    refine lv_goto (tgt := 38) hx hb dX7_joins_91 (by decide) ?_
                    replace hl : lv_has ls 5 [(4, .int (nI (j + 1))), (2, .int (rg_b (((rm_jG M (M.1 431) n v || rm_an (rm_jP M (M.1 431) v) i) || rm_an (rm_jQ M (M.1 431) v i) (j + 1)) = true))), (0, .ref (B + 412)), (1, .int (nI v)), (3, .int (nI i))] := by have e : (1 : Int32) = rg_b (((rm_jG M (M.1 431) n v || rm_an (rm_jP M (M.1 431) v) i) || rm_an (rm_jQ M (M.1 431) v i) (j + 1)) = true) := rm_or2 (decide_eq_true (rg_b_ne.mp c_79)); rw [← e]; exact hl
                    exact ih2 (j + 1) (by omega) _ _ _ hH (lv_sub hl [2, 3, 1, 4, 0] rfl)
          replace hl : lv_has ls 5 [(4, .int (0)), (0, .ref (B + 412)), (1, .int (nI v)), (2, .int (rg_b (((rm_jG M (M.1 431) n v || rm_an (rm_jP M (M.1 431) v) i) || rm_an (rm_jQ M (M.1 431) v i) 0) = true))), (3, .int (nI i))] := by have e : rg_b (((rm_jG M (M.1 431) n v || rm_an (rm_jP M (M.1 431) v) i) || rm_an (rm_jQ M (M.1 431) v i) 0) = true) = rg_b ((rm_jG M (M.1 431) n v || rm_an (rm_jP M (M.1 431) v) i) = true) := rm_or3; rw [e]; exact hl
          exact cut_38 (rm_z M (v - 1) + 1) 0 (by omega) _ _ _ hH (lv_sub hl [1, 2, 3, 4, 0] rfl)
    replace hl : lv_has ls 5 [(3, .int (0)), (2, .int (rg_b ((rm_jG M (M.1 431) n v || rm_an (rm_jP M (M.1 431) v) 0) = true))), (0, .ref (B + 412)), (1, .int (nI v))] := by have e : rg_b (¬ (rg_og (M.1 415) (M.1 431) n &&& rm_sgn M (v - 1)) &&& 255 = 0) = rg_b ((rm_jG M (M.1 431) n v || rm_an (rm_jP M (M.1 431) v) 0) = true) := rg_b_cg (by show _ ↔ ((rm_jG M (M.1 431) n v || false) = true); rw [Bool.or_false, decide_eq_true_iff]); rw [← e]; exact hl
    exact cut_27 (n + 1) 0 (by omega) _ _ _ hH (lv_sub hl [2, 3, 1, 0] rfl)
  refine lv_if_eq (tgt := 23) hx hb dX7_joins_16 (by decide) (fun c_16 => ?_) (fun c_16 => ?_)
  · refine lv_iconst (v := 0) hx hb dX7_joins_23 (by decide) ?_
    refine rg_topi (y := rg_b (¬ (rg_og (M.1 415) (M.1 431) n &&& rm_sgn M (v - 1)) &&& 255 = 0)) (by first | exact rg_b_f (fun q => q c_16)) ?_
    exact cut_24 _ _ _ hH (lv_sub hl [0, 1] rfl)
  · refine lv_iconst (v := 1) hx hb dX7_joins_19 (by decide) ?_
    refine lv_goto (tgt := 24) hx hb dX7_joins_20 (by decide) ?_
    refine rg_topi (y := rg_b (¬ (rg_og (M.1 415) (M.1 431) n &&& rm_sgn M (v - 1)) &&& 255 = 0)) (by exact rg_b_t (c_16)) ?_
    exact cut_24 _ _ _ hH (lv_sub hl [0, 1] rfl)

set_option maxHeartbeats 4000000 in
set_option maxRecDepth 100000 in
/-- seatFault -/
theorem k_X7_seatFault (l : Launch) (E : rg_Env) (B : Nat) (M : rg_Mem) (n : Nat) (v : Nat) (hI : rm_CI M) (hmy : M.1 412 31 = nI n) (hn6 : n ≤ 6) (hrw : ∀ k, k < n → rm_iw M (M.1 431 k)) (hv36 : v < 36) : Met l yX7_seatFault (rg_w yX7_seatFault cX7_seatFault 5 (some (FieldType.int))) ({ frames := 1, cells := 0, slots := 0, locals := 22 } : Room) (va_Pc [.ref (B + 412), .int (nI v)] (rg_Pre E B 433 rg_R0 M)) (rg_Ri E B 433 rg_R0 (M) (fun r => r = rg_wst (rg_og (M.1 415) (M.1 431) n) (M.1 420 v))) 0 0 (rg_A B) := by
  refine rg_ofW (by decide +kernel) rfl (Nat.le_of_ble_eq_true rfl) ?_
  intro p e s m args below meth c ls C0 hH hl hr hlocks hnm
  replace hl : lv_has ls 5 [(0, .ref (B + 412)), (1, .int (nI v))] := hl
  have hx := C0.1.1
  have hb := C0.1.2.1
  generalize hH9 : s.heap = H at hH ⊢
  generalize hL9 : ([] : List Loc) = locs at hH ⊢
  clear hH9 hL9
  refine lv_aload_n hx hb dX7_seatFault_0 rfl (lv_at hl 0 rfl) ?_
  refine rg_callGi C0 hH (As := []) (rest := []) (o := 412) (ci := 7) (k_X7_signsOfRow l E B M n (by assumption) (by assumption) (by assumption) (by assumption)) (rg_cw 0 C0.1.2.2.2.2 tw_m_X7_140 tw_i_X7_signsOfRow tw_v_X7_signsOfRow tw_n_X7 tw_c_X7_signsOfRow rfl rfl hd_X7_signsOfRow ⟨Nat.le_of_ble_eq_true rfl, Nat.le_of_ble_eq_true rfl⟩) rfl (by decide) rfl (by decide) rfl hl.1 rfl (Nat.le_of_ble_eq_true rfl) dX7_seatFault_1 ⟨Nat.le_of_ble_eq_true rfl, Nat.le_of_ble_eq_true rfl⟩ (fun H locs hH => ?_)
  refine lv_istore_n (lv' := [(2, .int (rg_og (M.1 415) (M.1 431) n)), (0, .ref (B + 412)), (1, .int (nI v))]) hx hb dX7_seatFault_4 rfl hl (by decide) rfl (fun ls hl => ?_)
  have cut_20 : ∀  (H : Heap) (locs : List Loc) (ls : Array Slot), rg_H E B 433 rg_R0 M s H locs → lv_has ls 5 [(2, .int (rg_og (M.1 415) (M.1 431) n)), (0, .ref (B + 412)), (1, .int (nI v))] → W p l e ({ frames := 1, cells := 0, slots := 0, locals := 22 } : Room) s m args below meth c H locs 0 0 (MQ below (rg_Ri E B 433 rg_R0 (M) (fun r => r = rg_wst (rg_og (M.1 415) (M.1 431) n) (M.1 420 v))) args s 0 0 (rg_A B)) (F0 m 20 ls [.int (rg_b ((rg_og (M.1 415) (M.1 431) n >>> (8 &&& 31)) &&& 1 = 1))]) := by
    intro  H locs ls hH hl 
    refine lv_istore_n (lv' := [(3, .int (rg_b ((rg_og (M.1 415) (M.1 431) n >>> (8 &&& 31)) &&& 1 = 1))), (2, .int (rg_og (M.1 415) (M.1 431) n)), (0, .ref (B + 412)), (1, .int (nI v))]) hx hb dX7_seatFault_20 rfl hl (by decide) rfl (fun ls hl => ?_)
    have cut_36 : ∀  (H : Heap) (locs : List Loc) (ls : Array Slot), rg_H E B 433 rg_R0 M s H locs → lv_has ls 5 [(3, .int (rg_b ((rg_og (M.1 415) (M.1 431) n >>> (8 &&& 31)) &&& 1 = 1))), (2, .int (rg_og (M.1 415) (M.1 431) n)), (0, .ref (B + 412)), (1, .int (nI v))] → W p l e ({ frames := 1, cells := 0, slots := 0, locals := 22 } : Room) s m args below meth c H locs 0 0 (MQ below (rg_Ri E B 433 rg_R0 (M) (fun r => r = rg_wst (rg_og (M.1 415) (M.1 431) n) (M.1 420 v))) args s 0 0 (rg_A B)) (F0 m 36 ls [.int (rg_b ((rg_og (M.1 415) (M.1 431) n >>> (9 &&& 31)) &&& 1 = 1))]) := by
      intro  H locs ls hH hl 
      refine lv_istore (lv' := [(4, .int (rg_b ((rg_og (M.1 415) (M.1 431) n >>> (9 &&& 31)) &&& 1 = 1))), (3, .int (rg_b ((rg_og (M.1 415) (M.1 431) n >>> (8 &&& 31)) &&& 1 = 1))), (2, .int (rg_og (M.1 415) (M.1 431) n)), (0, .ref (B + 412)), (1, .int (nI v))]) hx hb dX7_seatFault_36 hl (by decide) rfl (fun ls hl => ?_)
      refine lv_iload_n hx hb dX7_seatFault_38 rfl (lv_at hl 1 rfl) ?_
      have cut_54 : ∀  (H : Heap) (locs : List Loc) (ls : Array Slot), rg_H E B 433 rg_R0 M s H locs → lv_has ls 5 [(4, .int (rg_b ((rg_og (M.1 415) (M.1 431) n >>> (9 &&& 31)) &&& 1 = 1))), (3, .int (rg_b ((rg_og (M.1 415) (M.1 431) n >>> (8 &&& 31)) &&& 1 = 1))), (2, .int (rg_og (M.1 415) (M.1 431) n)), (0, .ref (B + 412)), (1, .int (nI v))] → W p l e ({ frames := 1, cells := 0, slots := 0, locals := 22 } : Room) s m args below meth c H locs 0 0 (MQ below (rg_Ri E B 433 rg_R0 (M) (fun r => r = rg_wst (rg_og (M.1 415) (M.1 431) n) (M.1 420 v))) args s 0 0 (rg_A B)) (F0 m 54 ls [.int (rg_b (M.1 420 v = 1)), .int (rg_b ((rg_og (M.1 415) (M.1 431) n >>> (8 &&& 31)) &&& 1 = 1))]) := by
        intro  H locs ls hH hl 
        refine lv_icmp_eq (tgt := 61) hx hb dX7_seatFault_54 (by decide) (fun c_54 => ?_) (fun c_54 => ?_)
        · refine lv_iload hx hb dX7_seatFault_61 (lv_at hl 0 rfl) ?_
          have cut_78 : ∀  (H : Heap) (locs : List Loc) (ls : Array Slot), rg_H E B 433 rg_R0 M s H locs → lv_has ls 5 [(4, .int (rg_b ((rg_og (M.1 415) (M.1 431) n >>> (9 &&& 31)) &&& 1 = 1))), (3, .int (rg_b ((rg_og (M.1 415) (M.1 431) n >>> (8 &&& 31)) &&& 1 = 1))), (2, .int (rg_og (M.1 415) (M.1 431) n)), (0, .ref (B + 412)), (1, .int (nI v))] → W p l e ({ frames := 1, cells := 0, slots := 0, locals := 22 } : Room) s m args below meth c H locs 0 0 (MQ below (rg_Ri E B 433 rg_R0 (M) (fun r => r = rg_wst (rg_og (M.1 415) (M.1 431) n) (M.1 420 v))) args s 0 0 (rg_A B)) (F0 m 78 ls [.int (rg_b (M.1 420 v = 2)), .int (rg_b ((rg_og (M.1 415) (M.1 431) n >>> (9 &&& 31)) &&& 1 = 1))]) := by
            intro  H locs ls hH hl 
            refine lv_icmp_eq (tgt := 85) hx hb dX7_seatFault_78 (by decide) (fun c_78 => ?_) (fun c_78 => ?_)
            · refine lv_iconst (v := (-1)) hx hb dX7_seatFault_85 (by decide) ?_
              exact rg_retRi C0 hH hr hlocks rfl (by exact rm_wst3 c_54 c_78) dX7_seatFault_86
            · refine lv_iconst (v := 2) hx hb dX7_seatFault_81 (by decide) ?_
              refine lv_goto (tgt := 86) hx hb dX7_seatFault_82 (by decide) ?_
              exact rg_retRi C0 hH hr hlocks rfl (by exact rm_wst2 c_54 c_78) dX7_seatFault_86
          refine lv_aload_n hx hb dX7_seatFault_63 rfl (lv_at hl 3 rfl) ?_
          refine rg_gR C0 hH (o2 := 420) (ci := 7) (k := 15) (o := 412) rfl rfl inT_X7 (by decide) tw_f_X7_32 (by decide) rfl (by decide) rfl dX7_seatFault_64 ?_
          refine lv_iload_n hx hb dX7_seatFault_67 rfl (lv_at hl 4 rfl) ?_
          refine rg_ialdN C0 hH (o := 420) (j := v) (n0 := 36) (by decide) rfl rfl (by omega) dX7_seatFault_68 ?_
          refine lv_iconst (v := 2) hx hb dX7_seatFault_69 (by decide) ?_
          refine lv_icmp_ne (tgt := 77) hx hb dX7_seatFault_70 (by decide) (fun c_70 => ?_) (fun c_70 => ?_)
          · refine lv_iconst (v := 0) hx hb dX7_seatFault_77 (by decide) ?_
            refine rg_topi (y := rg_b (M.1 420 v = 2)) (by first | exact rg_b_f (c_70)) ?_
            exact cut_78 _ _ _ hH (lv_sub hl [0, 1, 2, 3, 4] rfl)
          · refine lv_iconst (v := 1) hx hb dX7_seatFault_73 (by decide) ?_
            refine lv_goto (tgt := 78) hx hb dX7_seatFault_74 (by decide) ?_
            refine rg_topi (y := rg_b (M.1 420 v = 2)) (by exact rg_b_t (c_70)) ?_
            exact cut_78 _ _ _ hH (lv_sub hl [0, 1, 2, 3, 4] rfl)
        · refine lv_iconst (v := 1) hx hb dX7_seatFault_57 (by decide) ?_
          refine lv_goto (tgt := 86) hx hb dX7_seatFault_58 (by decide) ?_
          exact rg_retRi C0 hH hr hlocks rfl (by exact rm_wst1 c_54) dX7_seatFault_86
      refine lv_aload_n hx hb dX7_seatFault_39 rfl (lv_at hl 3 rfl) ?_
      refine rg_gR C0 hH (o2 := 420) (ci := 7) (k := 15) (o := 412) rfl rfl inT_X7 (by decide) tw_f_X7_32 (by decide) rfl (by decide) rfl dX7_seatFault_40 ?_
      refine lv_iload_n hx hb dX7_seatFault_43 rfl (lv_at hl 4 rfl) ?_
      refine rg_ialdN C0 hH (o := 420) (j := v) (n0 := 36) (by decide) rfl rfl (by omega) dX7_seatFault_44 ?_
      refine lv_iconst (v := 1) hx hb dX7_seatFault_45 (by decide) ?_
      refine lv_icmp_ne (tgt := 53) hx hb dX7_seatFault_46 (by decide) (fun c_46 => ?_) (fun c_46 => ?_)
      · refine lv_iconst (v := 0) hx hb dX7_seatFault_53 (by decide) ?_
        refine rg_topi (y := rg_b (M.1 420 v = 1)) (by first | exact rg_b_f (c_46)) ?_
        exact cut_54 _ _ _ hH (lv_sub hl [0, 1, 2, 3, 4] rfl)
      · refine lv_iconst (v := 1) hx hb dX7_seatFault_49 (by decide) ?_
        refine lv_goto (tgt := 54) hx hb dX7_seatFault_50 (by decide) ?_
        refine rg_topi (y := rg_b (M.1 420 v = 1)) (by exact rg_b_t (c_46)) ?_
        exact cut_54 _ _ _ hH (lv_sub hl [0, 1, 2, 3, 4] rfl)
    refine lv_iload_n hx hb dX7_seatFault_21 rfl (lv_at hl 1 rfl) ?_
    refine lv_bipush (v := 9) hx hb dX7_seatFault_22 (by decide) ?_
    refine lv_ishr hx hb dX7_seatFault_24 ?_
    refine lv_iconst (v := 1) hx hb dX7_seatFault_25 (by decide) ?_
    refine lv_iand hx hb dX7_seatFault_26 ?_
    refine lv_iconst (v := 1) hx hb dX7_seatFault_27 (by decide) ?_
    refine lv_icmp_ne (tgt := 35) hx hb dX7_seatFault_28 (by decide) (fun c_28 => ?_) (fun c_28 => ?_)
    · refine lv_iconst (v := 0) hx hb dX7_seatFault_35 (by decide) ?_
      refine rg_topi (y := rg_b ((rg_og (M.1 415) (M.1 431) n >>> (9 &&& 31)) &&& 1 = 1)) (by first | exact rg_b_f (c_28)) ?_
      exact cut_36 _ _ _ hH (lv_sub hl [0, 1, 2, 3] rfl)
    · refine lv_iconst (v := 1) hx hb dX7_seatFault_31 (by decide) ?_
      refine lv_goto (tgt := 36) hx hb dX7_seatFault_32 (by decide) ?_
      refine rg_topi (y := rg_b ((rg_og (M.1 415) (M.1 431) n >>> (9 &&& 31)) &&& 1 = 1)) (by exact rg_b_t (c_28)) ?_
      exact cut_36 _ _ _ hH (lv_sub hl [0, 1, 2, 3] rfl)
  refine lv_iload_n hx hb dX7_seatFault_5 rfl (lv_at hl 0 rfl) ?_
  refine lv_bipush (v := 8) hx hb dX7_seatFault_6 (by decide) ?_
  refine lv_ishr hx hb dX7_seatFault_8 ?_
  refine lv_iconst (v := 1) hx hb dX7_seatFault_9 (by decide) ?_
  refine lv_iand hx hb dX7_seatFault_10 ?_
  refine lv_iconst (v := 1) hx hb dX7_seatFault_11 (by decide) ?_
  refine lv_icmp_ne (tgt := 19) hx hb dX7_seatFault_12 (by decide) (fun c_12 => ?_) (fun c_12 => ?_)
  · refine lv_iconst (v := 0) hx hb dX7_seatFault_19 (by decide) ?_
    refine rg_topi (y := rg_b ((rg_og (M.1 415) (M.1 431) n >>> (8 &&& 31)) &&& 1 = 1)) (by first | exact rg_b_f (c_12)) ?_
    exact cut_20 _ _ _ hH (lv_sub hl [0, 1, 2] rfl)
  · refine lv_iconst (v := 1) hx hb dX7_seatFault_15 (by decide) ?_
    refine lv_goto (tgt := 20) hx hb dX7_seatFault_16 (by decide) ?_
    refine rg_topi (y := rg_b ((rg_og (M.1 415) (M.1 431) n >>> (8 &&& 31)) &&& 1 = 1)) (by exact rg_b_t (c_12)) ?_
    exact cut_20 _ _ _ hH (lv_sub hl [0, 1, 2] rfl)

set_option maxHeartbeats 4000000 in
set_option maxRecDepth 100000 in
/-- lengthFault -/
theorem k_X7_lengthFault (l : Launch) (E : rg_Env) (B : Nat) (M : rg_Mem) (n : Nat) (v : Nat) (hI : rm_CI M) (hmy : M.1 412 31 = nI n) (hn6 : n ≤ 6) (hrw : ∀ k, k < n → rm_iw M (M.1 431 k)) (hv9 : v ≤ rm_nl M) : Met l yX7_lengthFault (rg_w yX7_lengthFault cX7_lengthFault 6 (some (FieldType.int))) ({ frames := 2, cells := 0, slots := 0, locals := 46 } : Room) (va_Pc [.ref (B + 412), .int (nI v)] (rg_Pre E B 433 rg_R0 M)) (rg_Ri E B 433 rg_R0 (M) (fun r => r = rm_lf M (M.1 431) n v)) 0 0 (rg_A B) := by
  refine rg_ofW (by decide +kernel) rfl (Nat.le_of_ble_eq_true rfl) ?_
  intro p e s m args below meth c ls C0 hH hl hr hlocks hnm
  replace hl : lv_has ls 6 [(0, .ref (B + 412)), (1, .int (nI v))] := hl
  have hx := C0.1.1
  have hb := C0.1.2.1
  generalize hH9 : s.heap = H at hH ⊢
  generalize hL9 : ([] : List Loc) = locs at hH ⊢
  clear hH9 hL9
  have hl36 := (rm_CI_l hI).2
  refine lv_iload_n hx hb dX7_lengthFault_0 rfl (lv_at hl 1 rfl) ?_
  refine lv_if_ne (tgt := 6) hx hb dX7_lengthFault_1 (by decide) (fun c_1 => ?_) (fun c_1 => ?_)
  · have hv1 : 1 ≤ v := by
      rcases Nat.eq_zero_or_pos v with z | z
      · subst z; exact absurd rfl c_1
      · exact z
    have hvl : v - 1 < rm_nl M := by omega
    refine lv_aload_n hx hb dX7_lengthFault_6 rfl (lv_at hl 0 rfl) ?_
    refine lv_iload_n hx hb dX7_lengthFault_7 rfl (lv_at hl 1 rfl) ?_
    refine lv_iconst (v := 1) hx hb dX7_lengthFault_8 (by decide) ?_
    refine lv_isub hx hb dX7_lengthFault_9 ?_
    refine rg_topi (y := nI (v - 1)) (by exact rm_sub1 hv1) ?_
    refine rg_callGi C0 hH (As := [.int (nI (v - 1))]) (rest := []) (o := 412) (ci := 7) (k_X7_seasonOf l E B M (v - 1) (by first | exact hI | exact hvl) (by first | exact hI | exact hvl)) (rg_cw 1 C0.1.2.2.2.2 tw_m_X7_129 tw_i_X7_seasonOf tw_v_X7_seasonOf tw_n_X7 tw_c_X7_seasonOf rfl rfl hd_X7_seasonOf ⟨Nat.le_of_ble_eq_true rfl, Nat.le_of_ble_eq_true rfl⟩) rfl (by decide) rfl (by decide) rfl hl.1 rfl (Nat.le_of_ble_eq_true rfl) dX7_lengthFault_10 ⟨Nat.le_of_ble_eq_true rfl, Nat.le_of_ble_eq_true rfl⟩ (fun H locs hH => ?_)
    refine lv_istore_n (lv' := [(2, .int (rm_son M (v - 1))), (0, .ref (B + 412)), (1, .int (nI v))]) hx hb dX7_lengthFault_13 rfl hl (by decide) rfl (fun ls hl => ?_)
    refine lv_aload_n hx hb dX7_lengthFault_14 rfl (lv_at hl 1 rfl) ?_
    refine lv_iload_n hx hb dX7_lengthFault_15 rfl (lv_at hl 2 rfl) ?_
    refine lv_iconst (v := 1) hx hb dX7_lengthFault_16 (by decide) ?_
    refine lv_isub hx hb dX7_lengthFault_17 ?_
    refine rg_topi (y := nI (v - 1)) (by exact rm_sub1 hv1) ?_
    refine rg_callGi C0 hH (As := [.int (nI (v - 1))]) (rest := []) (o := 412) (ci := 7) (k_X7_runAt l E B M (v - 1) (by first | exact hI | exact hvl) (by first | exact hI | exact hvl)) (rg_cw 1 C0.1.2.2.2.2 tw_m_X7_146 tw_i_X7_runAt tw_v_X7_runAt tw_n_X7 tw_c_X7_runAt rfl rfl hd_X7_runAt ⟨Nat.le_of_ble_eq_true rfl, Nat.le_of_ble_eq_true rfl⟩) rfl (by decide) rfl (by decide) rfl hl.1 rfl (Nat.le_of_ble_eq_true rfl) dX7_lengthFault_18 ⟨Nat.le_of_ble_eq_true rfl, Nat.le_of_ble_eq_true rfl⟩ (fun H locs hH => ?_)
    refine lv_istore_n (lv' := [(3, .int (rm_rn M (v - 1))), (2, .int (rm_son M (v - 1))), (0, .ref (B + 412)), (1, .int (nI v))]) hx hb dX7_lengthFault_21 rfl hl (by decide) rfl (fun ls hl => ?_)
    refine lv_aload_n hx hb dX7_lengthFault_22 rfl (lv_at hl 2 rfl) ?_
    refine rg_callGi C0 hH (As := []) (rest := []) (o := 412) (ci := 7) (k_X7_seasonOfRow l E B M n (by assumption) (by assumption) (by assumption) (by assumption)) (rg_cw 0 C0.1.2.2.2.2 tw_m_X7_136 tw_i_X7_seasonOfRow tw_v_X7_seasonOfRow tw_n_X7 tw_c_X7_seasonOfRow rfl rfl hd_X7_seasonOfRow ⟨Nat.le_of_ble_eq_true rfl, Nat.le_of_ble_eq_true rfl⟩) rfl (by decide) rfl (by decide) rfl hl.1 rfl (Nat.le_of_ble_eq_true rfl) dX7_lengthFault_23 ⟨Nat.le_of_ble_eq_true rfl, Nat.le_of_ble_eq_true rfl⟩ (fun H locs hH => ?_)
    refine lv_istore (lv' := [(4, .int (rg_fi (M.1 414) (M.1 431) n)), (3, .int (rm_rn M (v - 1))), (2, .int (rm_son M (v - 1))), (0, .ref (B + 412)), (1, .int (nI v))]) hx hb dX7_lengthFault_26 hl (by decide) rfl (fun ls hl => ?_)
    refine lv_iload_n hx hb dX7_lengthFault_28 rfl (lv_at hl 2 rfl) ?_
    refine lv_iconst (v := (-1)) hx hb dX7_lengthFault_29 (by decide) ?_
    refine lv_icmp_eq (tgt := 53) hx hb dX7_lengthFault_30 (by decide) (fun c_30 => ?_) (fun c_30 => ?_)
    · refine lv_iload hx hb dX7_lengthFault_53 (lv_at hl 0 rfl) ?_
      refine lv_iconst (v := (-1)) hx hb dX7_lengthFault_55 (by decide) ?_
      refine lv_icmp_ne (tgt := 61) hx hb dX7_lengthFault_56 (by decide) (fun c_56 => ?_) (fun c_56 => ?_)
      · refine lv_iload hx hb dX7_lengthFault_61 (lv_at hl 0 rfl) ?_
        refine lv_iload_n hx hb dX7_lengthFault_63 rfl (lv_at hl 2 rfl) ?_
        refine lv_icmp_ne (tgt := 91) hx hb dX7_lengthFault_64 (by decide) (fun c_64 => ?_) (fun c_64 => ?_)
        · refine lv_iload_n hx hb dX7_lengthFault_91 rfl (lv_at hl 4 rfl) ?_
          refine lv_iconst (v := 1) hx hb dX7_lengthFault_92 (by decide) ?_
          refine lv_isub hx hb dX7_lengthFault_93 ?_
          refine lv_istore (lv' := [(5, .int ((nI v) - 1)), (4, .int (rg_fi (M.1 414) (M.1 431) n)), (3, .int (rm_rn M (v - 1))), (2, .int (rm_son M (v - 1))), (0, .ref (B + 412)), (1, .int (nI v))]) hx hb dX7_lengthFault_94 hl (by decide) rfl (fun ls hl => ?_)
          have cut_96 : ∀ (fu d : Nat), (1 ≤ d ∧ d ≤ 5) ∧ 5 < d + fu → ∀  (H : Heap) (locs : List Loc) (ls : Array Slot), rg_H E B 433 rg_R0 M s H locs → lv_has ls 6 [(0, .ref (B + 412)), (1, .int (nI v)), (4, .int (rg_fi (M.1 414) (M.1 431) n)), (5, .int (nI v - nI d))] → (rg_ex (rm_dL M v (rg_fi (M.1 414) (M.1 431) n)) (5 - d) d = rg_ex (rm_dL M v (rg_fi (M.1 414) (M.1 431) n)) 4 1) → W p l e ({ frames := 2, cells := 0, slots := 0, locals := 46 } : Room) s m args below meth c H locs 0 0 (MQ below (rg_Ri E B 433 rg_R0 (M) (fun r => r = rm_lf M (M.1 431) n v)) args s 0 0 (rg_A B)) (F0 m 96 ls []) := by
            intro fu
            induction fu with
            | zero =>
              intro d hm
              exact absurd hm (by omega)
            | succ fu ih =>
              intro d hm  H locs ls hH hl hB
              refine lv_iload hx hb dX7_lengthFault_96 (lv_at hl 3 rfl) ?_
              refine lv_if_lt (tgt := 129) hx hb dX7_lengthFault_98 (by decide) (fun c_98 => ?_) (fun c_98 => ?_)
              · refine lv_iconst (v := (-1)) hx hb dX7_lengthFault_129 (by decide) ?_
                exact rg_retRi C0 hH hr hlocks rfl (by rw [rm_lf, if_neg (show ¬ v = 0 by omega), if_neg (fun q => q.1 c_30), if_neg c_56, if_neg c_64, if_neg (by rw [← hB, rg_ex_ff _ _ (fun q hq => decide_eq_false (fun z => absurd z.1 (by have := (rm_sub0 (by omega) (by omega)).mp c_98; omega)))]; decide)]) dX7_lengthFault_130
              · refine lv_iload hx hb dX7_lengthFault_101 (lv_at hl 3 rfl) ?_
                refine lv_iload_n hx hb dX7_lengthFault_103 rfl (lv_at hl 1 rfl) ?_
                refine lv_iconst (v := 4) hx hb dX7_lengthFault_104 (by decide) ?_
                refine lv_isub hx hb dX7_lengthFault_105 ?_
                refine lv_icmp_lt (tgt := 129) hx hb dX7_lengthFault_106 (by decide) (fun c_106 => ?_) (fun c_106 => ?_)
                · refine lv_iconst (v := (-1)) hx hb dX7_lengthFault_129 (by decide) ?_
                  exact rg_retRi C0 hH hr hlocks rfl (by rw [rm_lf, if_neg (show ¬ v = 0 by omega), if_neg (fun q => q.1 c_30), if_neg c_56, if_neg c_64, if_neg (by rw [← hB, show 5 - d = 0 by have := (rm_sub2 (e := 4) (by omega) (by omega) (by omega)).mp c_106; omega]; exact Bool.false_ne_true)]) dX7_lengthFault_130
                · have hdv : d ≤ v := by
                    rcases Nat.lt_or_ge v d with z | z
                    · exact absurd ((rm_sub0 (by omega) (by omega)).mpr z) c_98
                    · exact z
                  have hdn : v - d < rm_nl M := by omega
                  have hds : d ≤ 4 := by
                    rcases Nat.lt_or_ge 4 d with z | z
                    · exact absurd ((rm_sub2 (e := 4) (by omega) (by omega) (by omega)).mpr z) c_106
                    · exact z
                  replace hl : lv_has ls 6 [(0, .ref (B + 412)), (1, .int (nI v)), (4, .int (rg_fi (M.1 414) (M.1 431) n)), (5, .int (nI (v - d)))] := by rw [← rm_sub hdv]; exact hl
                  refine lv_aload_n hx hb dX7_lengthFault_109 rfl (lv_at hl 0 rfl) ?_
                  refine lv_iload hx hb dX7_lengthFault_110 (lv_at hl 3 rfl) ?_
                  refine rg_callGi C0 hH (As := [.int (nI (v - d))]) (rest := []) (o := 412) (ci := 7) (k_X7_seasonOf l E B M (v - d) (by first | exact hI | exact hdn) (by first | exact hI | exact hdn)) (rg_cw 1 C0.1.2.2.2.2 tw_m_X7_129 tw_i_X7_seasonOf tw_v_X7_seasonOf tw_n_X7 tw_c_X7_seasonOf rfl rfl hd_X7_seasonOf ⟨Nat.le_of_ble_eq_true rfl, Nat.le_of_ble_eq_true rfl⟩) rfl (by decide) rfl (by decide) rfl hl.1 rfl (Nat.le_of_ble_eq_true rfl) dX7_lengthFault_112 ⟨Nat.le_of_ble_eq_true rfl, Nat.le_of_ble_eq_true rfl⟩ (fun H locs hH => ?_)
                  refine lv_iload hx hb dX7_lengthFault_115 (lv_at hl 2 rfl) ?_
                  refine lv_icmp_ne (tgt := 123) hx hb dX7_lengthFault_117 (by decide) (fun c_117 => ?_) (fun c_117 => ?_)
                  · replace hl : lv_has ls 6 [(0, .ref (B + 412)), (1, .int (nI v)), (4, .int (rg_fi (M.1 414) (M.1 431) n)), (5, .int (nI v - nI d))] := by rw [rm_sub hdv]; exact hl
                    refine lv_iinc (v := nI v - nI (d + 1)) (lv' := [(5, .int (nI v - nI (d + 1))), (0, .ref (B + 412)), (1, .int (nI v)), (4, .int (rg_fi (M.1 414) (M.1 431) n))]) hx hb dX7_lengthFault_123 hl (k := 3) rfl ((rg_m1s _).trans rm_subS) (by decide) rfl (fun ls hl => ?_)
                    refine lv_goto (tgt := 96) hx hb dX7_lengthFault_126 (by decide) ?_
                    exact ih (d + 1) (by omega) _ _ _ hH (lv_sub hl [1, 2, 3, 0] rfl) (by exact rg_ex_n hB (by omega) (fun q => c_117 (of_decide_eq_true q).2))
                  · refine lv_iload hx hb dX7_lengthFault_120 (lv_at hl 2 rfl) ?_
                    exact rg_retRi C0 hH hr hlocks rfl (by rw [rm_lf, if_neg (show ¬ v = 0 by omega), if_neg (fun q => q.1 c_30), if_neg c_56, if_neg c_64, if_pos (rg_ex_y hB (by omega) (decide_eq_true ⟨hdv, c_117⟩))]) dX7_lengthFault_122
          exact cut_96 6 1 (by omega) _ _ _ hH (lv_sub hl [4, 5, 1, 0] rfl) (by rfl)
        · refine lv_iload_n hx hb dX7_lengthFault_67 rfl (lv_at hl 1 rfl) ?_
          refine lv_iload hx hb dX7_lengthFault_68 (lv_at hl 0 rfl) ?_
          refine rg_callSGi C0 hH (As := [.int (rg_fi (M.1 414) (M.1 431) n)]) (rest := [.int (rm_rn M (v - 1))]) (k_X7_isLong l E B M (rg_fi (M.1 414) (M.1 431) n)) (rg_cwS 1 C0.1.2.2.2.2 tw_m_X7_149 tw_s_X7_isLong tw_n_X7 tw_c_X7_isLong rfl rfl hd_X7_isLong ⟨Nat.le_of_ble_eq_true rfl, Nat.le_of_ble_eq_true rfl⟩) rfl hl.1 rfl (Nat.le_of_ble_eq_true rfl) dX7_lengthFault_70 ⟨Nat.le_of_ble_eq_true rfl, Nat.le_of_ble_eq_true rfl⟩ (fun H locs hH => ?_)
          refine lv_if_eq (tgt := 80) hx hb dX7_lengthFault_73 (by decide) (fun c_73 => ?_) (fun c_73 => ?_)
          · refine lv_iconst (v := 3) hx hb dX7_lengthFault_80 (by decide) ?_
            refine lv_icmp_lt (tgt := 89) hx hb dX7_lengthFault_81 (by decide) (fun c_81 => ?_) (fun c_81 => ?_)
            · refine lv_iconst (v := (-1)) hx hb dX7_lengthFault_89 (by decide) ?_
              exact rg_retRi C0 hH hr hlocks rfl (by rw [rm_lf, if_neg (show ¬ v = 0 by omega), if_neg (fun q => q.1 c_30), if_neg c_56, if_pos c_64, if_neg (rg_b_eq.mp c_73), if_pos c_81]) dX7_lengthFault_90
            · refine lv_iload hx hb dX7_lengthFault_84 (lv_at hl 0 rfl) ?_
              refine lv_goto (tgt := 90) hx hb dX7_lengthFault_86 (by decide) ?_
              exact rg_retRi C0 hH hr hlocks rfl (by rw [rm_lf, if_neg (show ¬ v = 0 by omega), if_neg (fun q => q.1 c_30), if_neg c_56, if_pos c_64, if_neg (rg_b_eq.mp c_73), if_neg c_81]) dX7_lengthFault_90
          · refine lv_iconst (v := 5) hx hb dX7_lengthFault_76 (by decide) ?_
            refine lv_goto (tgt := 81) hx hb dX7_lengthFault_77 (by decide) ?_
            refine lv_icmp_lt (tgt := 89) hx hb dX7_lengthFault_81 (by decide) (fun c_81 => ?_) (fun c_81 => ?_)
            · refine lv_iconst (v := (-1)) hx hb dX7_lengthFault_89 (by decide) ?_
              exact rg_retRi C0 hH hr hlocks rfl (by rw [rm_lf, if_neg (show ¬ v = 0 by omega), if_neg (fun q => q.1 c_30), if_neg c_56, if_pos c_64, if_pos (rg_b_ne.mp c_73), if_pos c_81]) dX7_lengthFault_90
            · refine lv_iload hx hb dX7_lengthFault_84 (lv_at hl 0 rfl) ?_
              refine lv_goto (tgt := 90) hx hb dX7_lengthFault_86 (by decide) ?_
              exact rg_retRi C0 hH hr hlocks rfl (by rw [rm_lf, if_neg (show ¬ v = 0 by omega), if_neg (fun q => q.1 c_30), if_neg c_56, if_pos c_64, if_pos (rg_b_ne.mp c_73), if_neg c_81]) dX7_lengthFault_90
      · refine lv_iconst (v := (-1)) hx hb dX7_lengthFault_59 (by decide) ?_
        exact rg_retRi C0 hH hr hlocks rfl (by rw [rm_lf, if_neg (show ¬ v = 0 by omega), if_neg (fun q => q.1 c_30), if_pos c_56]) dX7_lengthFault_60
    · refine lv_iload_n hx hb dX7_lengthFault_33 rfl (lv_at hl 2 rfl) ?_
      refine rg_callSGi C0 hH (As := [.int (rm_son M (v - 1))]) (rest := []) (k_X7_isLong l E B M (rm_son M (v - 1))) (rg_cwS 1 C0.1.2.2.2.2 tw_m_X7_149 tw_s_X7_isLong tw_n_X7 tw_c_X7_isLong rfl rfl hd_X7_isLong ⟨Nat.le_of_ble_eq_true rfl, Nat.le_of_ble_eq_true rfl⟩) rfl hl.1 rfl (Nat.le_of_ble_eq_true rfl) dX7_lengthFault_34 ⟨Nat.le_of_ble_eq_true rfl, Nat.le_of_ble_eq_true rfl⟩ (fun H locs hH => ?_)
      refine lv_if_eq (tgt := 53) hx hb dX7_lengthFault_37 (by decide) (fun c_37 => ?_) (fun c_37 => ?_)
      · refine lv_iload hx hb dX7_lengthFault_53 (lv_at hl 0 rfl) ?_
        refine lv_iconst (v := (-1)) hx hb dX7_lengthFault_55 (by decide) ?_
        refine lv_icmp_ne (tgt := 61) hx hb dX7_lengthFault_56 (by decide) (fun c_56 => ?_) (fun c_56 => ?_)
        · refine lv_iload hx hb dX7_lengthFault_61 (lv_at hl 0 rfl) ?_
          refine lv_iload_n hx hb dX7_lengthFault_63 rfl (lv_at hl 2 rfl) ?_
          refine lv_icmp_ne (tgt := 91) hx hb dX7_lengthFault_64 (by decide) (fun c_64 => ?_) (fun c_64 => ?_)
          · refine lv_iload_n hx hb dX7_lengthFault_91 rfl (lv_at hl 4 rfl) ?_
            refine lv_iconst (v := 1) hx hb dX7_lengthFault_92 (by decide) ?_
            refine lv_isub hx hb dX7_lengthFault_93 ?_
            refine lv_istore (lv' := [(5, .int ((nI v) - 1)), (4, .int (rg_fi (M.1 414) (M.1 431) n)), (3, .int (rm_rn M (v - 1))), (2, .int (rm_son M (v - 1))), (0, .ref (B + 412)), (1, .int (nI v))]) hx hb dX7_lengthFault_94 hl (by decide) rfl (fun ls hl => ?_)
            have cut_96 : ∀ (fu d : Nat), (1 ≤ d ∧ d ≤ 5) ∧ 5 < d + fu → ∀  (H : Heap) (locs : List Loc) (ls : Array Slot), rg_H E B 433 rg_R0 M s H locs → lv_has ls 6 [(0, .ref (B + 412)), (1, .int (nI v)), (4, .int (rg_fi (M.1 414) (M.1 431) n)), (5, .int (nI v - nI d))] → (rg_ex (rm_dL M v (rg_fi (M.1 414) (M.1 431) n)) (5 - d) d = rg_ex (rm_dL M v (rg_fi (M.1 414) (M.1 431) n)) 4 1) → W p l e ({ frames := 2, cells := 0, slots := 0, locals := 46 } : Room) s m args below meth c H locs 0 0 (MQ below (rg_Ri E B 433 rg_R0 (M) (fun r => r = rm_lf M (M.1 431) n v)) args s 0 0 (rg_A B)) (F0 m 96 ls []) := by
              intro fu
              induction fu with
              | zero =>
                intro d hm
                exact absurd hm (by omega)
              | succ fu ih =>
                intro d hm  H locs ls hH hl hB
                refine lv_iload hx hb dX7_lengthFault_96 (lv_at hl 3 rfl) ?_
                refine lv_if_lt (tgt := 129) hx hb dX7_lengthFault_98 (by decide) (fun c_98 => ?_) (fun c_98 => ?_)
                · refine lv_iconst (v := (-1)) hx hb dX7_lengthFault_129 (by decide) ?_
                  exact rg_retRi C0 hH hr hlocks rfl (by rw [rm_lf, if_neg (show ¬ v = 0 by omega), if_neg (fun q => rg_b_eq.mp c_37 q.2.1), if_neg c_56, if_neg c_64, if_neg (by rw [← hB, rg_ex_ff _ _ (fun q hq => decide_eq_false (fun z => absurd z.1 (by have := (rm_sub0 (by omega) (by omega)).mp c_98; omega)))]; decide)]) dX7_lengthFault_130
                · refine lv_iload hx hb dX7_lengthFault_101 (lv_at hl 3 rfl) ?_
                  refine lv_iload_n hx hb dX7_lengthFault_103 rfl (lv_at hl 1 rfl) ?_
                  refine lv_iconst (v := 4) hx hb dX7_lengthFault_104 (by decide) ?_
                  refine lv_isub hx hb dX7_lengthFault_105 ?_
                  refine lv_icmp_lt (tgt := 129) hx hb dX7_lengthFault_106 (by decide) (fun c_106 => ?_) (fun c_106 => ?_)
                  · refine lv_iconst (v := (-1)) hx hb dX7_lengthFault_129 (by decide) ?_
                    exact rg_retRi C0 hH hr hlocks rfl (by rw [rm_lf, if_neg (show ¬ v = 0 by omega), if_neg (fun q => rg_b_eq.mp c_37 q.2.1), if_neg c_56, if_neg c_64, if_neg (by rw [← hB, show 5 - d = 0 by have := (rm_sub2 (e := 4) (by omega) (by omega) (by omega)).mp c_106; omega]; exact Bool.false_ne_true)]) dX7_lengthFault_130
                  · have hdv : d ≤ v := by
                      rcases Nat.lt_or_ge v d with z | z
                      · exact absurd ((rm_sub0 (by omega) (by omega)).mpr z) c_98
                      · exact z
                    have hdn : v - d < rm_nl M := by omega
                    have hds : d ≤ 4 := by
                      rcases Nat.lt_or_ge 4 d with z | z
                      · exact absurd ((rm_sub2 (e := 4) (by omega) (by omega) (by omega)).mpr z) c_106
                      · exact z
                    replace hl : lv_has ls 6 [(0, .ref (B + 412)), (1, .int (nI v)), (4, .int (rg_fi (M.1 414) (M.1 431) n)), (5, .int (nI (v - d)))] := by rw [← rm_sub hdv]; exact hl
                    refine lv_aload_n hx hb dX7_lengthFault_109 rfl (lv_at hl 0 rfl) ?_
                    refine lv_iload hx hb dX7_lengthFault_110 (lv_at hl 3 rfl) ?_
                    refine rg_callGi C0 hH (As := [.int (nI (v - d))]) (rest := []) (o := 412) (ci := 7) (k_X7_seasonOf l E B M (v - d) (by first | exact hI | exact hdn) (by first | exact hI | exact hdn)) (rg_cw 1 C0.1.2.2.2.2 tw_m_X7_129 tw_i_X7_seasonOf tw_v_X7_seasonOf tw_n_X7 tw_c_X7_seasonOf rfl rfl hd_X7_seasonOf ⟨Nat.le_of_ble_eq_true rfl, Nat.le_of_ble_eq_true rfl⟩) rfl (by decide) rfl (by decide) rfl hl.1 rfl (Nat.le_of_ble_eq_true rfl) dX7_lengthFault_112 ⟨Nat.le_of_ble_eq_true rfl, Nat.le_of_ble_eq_true rfl⟩ (fun H locs hH => ?_)
                    refine lv_iload hx hb dX7_lengthFault_115 (lv_at hl 2 rfl) ?_
                    refine lv_icmp_ne (tgt := 123) hx hb dX7_lengthFault_117 (by decide) (fun c_117 => ?_) (fun c_117 => ?_)
                    · replace hl : lv_has ls 6 [(0, .ref (B + 412)), (1, .int (nI v)), (4, .int (rg_fi (M.1 414) (M.1 431) n)), (5, .int (nI v - nI d))] := by rw [rm_sub hdv]; exact hl
                      refine lv_iinc (v := nI v - nI (d + 1)) (lv' := [(5, .int (nI v - nI (d + 1))), (0, .ref (B + 412)), (1, .int (nI v)), (4, .int (rg_fi (M.1 414) (M.1 431) n))]) hx hb dX7_lengthFault_123 hl (k := 3) rfl ((rg_m1s _).trans rm_subS) (by decide) rfl (fun ls hl => ?_)
                      refine lv_goto (tgt := 96) hx hb dX7_lengthFault_126 (by decide) ?_
                      exact ih (d + 1) (by omega) _ _ _ hH (lv_sub hl [1, 2, 3, 0] rfl) (by exact rg_ex_n hB (by omega) (fun q => c_117 (of_decide_eq_true q).2))
                    · refine lv_iload hx hb dX7_lengthFault_120 (lv_at hl 2 rfl) ?_
                      exact rg_retRi C0 hH hr hlocks rfl (by rw [rm_lf, if_neg (show ¬ v = 0 by omega), if_neg (fun q => rg_b_eq.mp c_37 q.2.1), if_neg c_56, if_neg c_64, if_pos (rg_ex_y hB (by omega) (decide_eq_true ⟨hdv, c_117⟩))]) dX7_lengthFault_122
            exact cut_96 6 1 (by omega) _ _ _ hH (lv_sub hl [4, 5, 1, 0] rfl) (by rfl)
          · refine lv_iload_n hx hb dX7_lengthFault_67 rfl (lv_at hl 1 rfl) ?_
            refine lv_iload hx hb dX7_lengthFault_68 (lv_at hl 0 rfl) ?_
            refine rg_callSGi C0 hH (As := [.int (rg_fi (M.1 414) (M.1 431) n)]) (rest := [.int (rm_rn M (v - 1))]) (k_X7_isLong l E B M (rg_fi (M.1 414) (M.1 431) n)) (rg_cwS 1 C0.1.2.2.2.2 tw_m_X7_149 tw_s_X7_isLong tw_n_X7 tw_c_X7_isLong rfl rfl hd_X7_isLong ⟨Nat.le_of_ble_eq_true rfl, Nat.le_of_ble_eq_true rfl⟩) rfl hl.1 rfl (Nat.le_of_ble_eq_true rfl) dX7_lengthFault_70 ⟨Nat.le_of_ble_eq_true rfl, Nat.le_of_ble_eq_true rfl⟩ (fun H locs hH => ?_)
            refine lv_if_eq (tgt := 80) hx hb dX7_lengthFault_73 (by decide) (fun c_73 => ?_) (fun c_73 => ?_)
            · refine lv_iconst (v := 3) hx hb dX7_lengthFault_80 (by decide) ?_
              refine lv_icmp_lt (tgt := 89) hx hb dX7_lengthFault_81 (by decide) (fun c_81 => ?_) (fun c_81 => ?_)
              · refine lv_iconst (v := (-1)) hx hb dX7_lengthFault_89 (by decide) ?_
                exact rg_retRi C0 hH hr hlocks rfl (by rw [rm_lf, if_neg (show ¬ v = 0 by omega), if_neg (fun q => rg_b_eq.mp c_37 q.2.1), if_neg c_56, if_pos c_64, if_neg (rg_b_eq.mp c_73), if_pos c_81]) dX7_lengthFault_90
              · refine lv_iload hx hb dX7_lengthFault_84 (lv_at hl 0 rfl) ?_
                refine lv_goto (tgt := 90) hx hb dX7_lengthFault_86 (by decide) ?_
                exact rg_retRi C0 hH hr hlocks rfl (by rw [rm_lf, if_neg (show ¬ v = 0 by omega), if_neg (fun q => rg_b_eq.mp c_37 q.2.1), if_neg c_56, if_pos c_64, if_neg (rg_b_eq.mp c_73), if_neg c_81]) dX7_lengthFault_90
            · refine lv_iconst (v := 5) hx hb dX7_lengthFault_76 (by decide) ?_
              refine lv_goto (tgt := 81) hx hb dX7_lengthFault_77 (by decide) ?_
              refine lv_icmp_lt (tgt := 89) hx hb dX7_lengthFault_81 (by decide) (fun c_81 => ?_) (fun c_81 => ?_)
              · refine lv_iconst (v := (-1)) hx hb dX7_lengthFault_89 (by decide) ?_
                exact rg_retRi C0 hH hr hlocks rfl (by rw [rm_lf, if_neg (show ¬ v = 0 by omega), if_neg (fun q => rg_b_eq.mp c_37 q.2.1), if_neg c_56, if_pos c_64, if_pos (rg_b_ne.mp c_73), if_pos c_81]) dX7_lengthFault_90
              · refine lv_iload hx hb dX7_lengthFault_84 (lv_at hl 0 rfl) ?_
                refine lv_goto (tgt := 90) hx hb dX7_lengthFault_86 (by decide) ?_
                exact rg_retRi C0 hH hr hlocks rfl (by rw [rm_lf, if_neg (show ¬ v = 0 by omega), if_neg (fun q => rg_b_eq.mp c_37 q.2.1), if_neg c_56, if_pos c_64, if_pos (rg_b_ne.mp c_73), if_neg c_81]) dX7_lengthFault_90
        · refine lv_iconst (v := (-1)) hx hb dX7_lengthFault_59 (by decide) ?_
          exact rg_retRi C0 hH hr hlocks rfl (by rw [rm_lf, if_neg (show ¬ v = 0 by omega), if_neg (fun q => rg_b_eq.mp c_37 q.2.1), if_pos c_56]) dX7_lengthFault_60
      · refine lv_iload_n hx hb dX7_lengthFault_40 rfl (lv_at hl 1 rfl) ?_
        refine lv_iconst (v := 3) hx hb dX7_lengthFault_41 (by decide) ?_
        refine lv_icmp_ge (tgt := 53) hx hb dX7_lengthFault_42 (by decide) (fun c_42 => ?_) (fun c_42 => ?_)
        · refine lv_iload hx hb dX7_lengthFault_53 (lv_at hl 0 rfl) ?_
          refine lv_iconst (v := (-1)) hx hb dX7_lengthFault_55 (by decide) ?_
          refine lv_icmp_ne (tgt := 61) hx hb dX7_lengthFault_56 (by decide) (fun c_56 => ?_) (fun c_56 => ?_)
          · refine lv_iload hx hb dX7_lengthFault_61 (lv_at hl 0 rfl) ?_
            refine lv_iload_n hx hb dX7_lengthFault_63 rfl (lv_at hl 2 rfl) ?_
            refine lv_icmp_ne (tgt := 91) hx hb dX7_lengthFault_64 (by decide) (fun c_64 => ?_) (fun c_64 => ?_)
            · refine lv_iload_n hx hb dX7_lengthFault_91 rfl (lv_at hl 4 rfl) ?_
              refine lv_iconst (v := 1) hx hb dX7_lengthFault_92 (by decide) ?_
              refine lv_isub hx hb dX7_lengthFault_93 ?_
              refine lv_istore (lv' := [(5, .int ((nI v) - 1)), (4, .int (rg_fi (M.1 414) (M.1 431) n)), (3, .int (rm_rn M (v - 1))), (2, .int (rm_son M (v - 1))), (0, .ref (B + 412)), (1, .int (nI v))]) hx hb dX7_lengthFault_94 hl (by decide) rfl (fun ls hl => ?_)
              have cut_96 : ∀ (fu d : Nat), (1 ≤ d ∧ d ≤ 5) ∧ 5 < d + fu → ∀  (H : Heap) (locs : List Loc) (ls : Array Slot), rg_H E B 433 rg_R0 M s H locs → lv_has ls 6 [(0, .ref (B + 412)), (1, .int (nI v)), (4, .int (rg_fi (M.1 414) (M.1 431) n)), (5, .int (nI v - nI d))] → (rg_ex (rm_dL M v (rg_fi (M.1 414) (M.1 431) n)) (5 - d) d = rg_ex (rm_dL M v (rg_fi (M.1 414) (M.1 431) n)) 4 1) → W p l e ({ frames := 2, cells := 0, slots := 0, locals := 46 } : Room) s m args below meth c H locs 0 0 (MQ below (rg_Ri E B 433 rg_R0 (M) (fun r => r = rm_lf M (M.1 431) n v)) args s 0 0 (rg_A B)) (F0 m 96 ls []) := by
                intro fu
                induction fu with
                | zero =>
                  intro d hm
                  exact absurd hm (by omega)
                | succ fu ih =>
                  intro d hm  H locs ls hH hl hB
                  refine lv_iload hx hb dX7_lengthFault_96 (lv_at hl 3 rfl) ?_
                  refine lv_if_lt (tgt := 129) hx hb dX7_lengthFault_98 (by decide) (fun c_98 => ?_) (fun c_98 => ?_)
                  · refine lv_iconst (v := (-1)) hx hb dX7_lengthFault_129 (by decide) ?_
                    exact rg_retRi C0 hH hr hlocks rfl (by rw [rm_lf, if_neg (show ¬ v = 0 by omega), if_neg (fun q => q.2.2.1 c_42), if_neg c_56, if_neg c_64, if_neg (by rw [← hB, rg_ex_ff _ _ (fun q hq => decide_eq_false (fun z => absurd z.1 (by have := (rm_sub0 (by omega) (by omega)).mp c_98; omega)))]; decide)]) dX7_lengthFault_130
                  · refine lv_iload hx hb dX7_lengthFault_101 (lv_at hl 3 rfl) ?_
                    refine lv_iload_n hx hb dX7_lengthFault_103 rfl (lv_at hl 1 rfl) ?_
                    refine lv_iconst (v := 4) hx hb dX7_lengthFault_104 (by decide) ?_
                    refine lv_isub hx hb dX7_lengthFault_105 ?_
                    refine lv_icmp_lt (tgt := 129) hx hb dX7_lengthFault_106 (by decide) (fun c_106 => ?_) (fun c_106 => ?_)
                    · refine lv_iconst (v := (-1)) hx hb dX7_lengthFault_129 (by decide) ?_
                      exact rg_retRi C0 hH hr hlocks rfl (by rw [rm_lf, if_neg (show ¬ v = 0 by omega), if_neg (fun q => q.2.2.1 c_42), if_neg c_56, if_neg c_64, if_neg (by rw [← hB, show 5 - d = 0 by have := (rm_sub2 (e := 4) (by omega) (by omega) (by omega)).mp c_106; omega]; exact Bool.false_ne_true)]) dX7_lengthFault_130
                    · have hdv : d ≤ v := by
                        rcases Nat.lt_or_ge v d with z | z
                        · exact absurd ((rm_sub0 (by omega) (by omega)).mpr z) c_98
                        · exact z
                      have hdn : v - d < rm_nl M := by omega
                      have hds : d ≤ 4 := by
                        rcases Nat.lt_or_ge 4 d with z | z
                        · exact absurd ((rm_sub2 (e := 4) (by omega) (by omega) (by omega)).mpr z) c_106
                        · exact z
                      replace hl : lv_has ls 6 [(0, .ref (B + 412)), (1, .int (nI v)), (4, .int (rg_fi (M.1 414) (M.1 431) n)), (5, .int (nI (v - d)))] := by rw [← rm_sub hdv]; exact hl
                      refine lv_aload_n hx hb dX7_lengthFault_109 rfl (lv_at hl 0 rfl) ?_
                      refine lv_iload hx hb dX7_lengthFault_110 (lv_at hl 3 rfl) ?_
                      refine rg_callGi C0 hH (As := [.int (nI (v - d))]) (rest := []) (o := 412) (ci := 7) (k_X7_seasonOf l E B M (v - d) (by first | exact hI | exact hdn) (by first | exact hI | exact hdn)) (rg_cw 1 C0.1.2.2.2.2 tw_m_X7_129 tw_i_X7_seasonOf tw_v_X7_seasonOf tw_n_X7 tw_c_X7_seasonOf rfl rfl hd_X7_seasonOf ⟨Nat.le_of_ble_eq_true rfl, Nat.le_of_ble_eq_true rfl⟩) rfl (by decide) rfl (by decide) rfl hl.1 rfl (Nat.le_of_ble_eq_true rfl) dX7_lengthFault_112 ⟨Nat.le_of_ble_eq_true rfl, Nat.le_of_ble_eq_true rfl⟩ (fun H locs hH => ?_)
                      refine lv_iload hx hb dX7_lengthFault_115 (lv_at hl 2 rfl) ?_
                      refine lv_icmp_ne (tgt := 123) hx hb dX7_lengthFault_117 (by decide) (fun c_117 => ?_) (fun c_117 => ?_)
                      · replace hl : lv_has ls 6 [(0, .ref (B + 412)), (1, .int (nI v)), (4, .int (rg_fi (M.1 414) (M.1 431) n)), (5, .int (nI v - nI d))] := by rw [rm_sub hdv]; exact hl
                        refine lv_iinc (v := nI v - nI (d + 1)) (lv' := [(5, .int (nI v - nI (d + 1))), (0, .ref (B + 412)), (1, .int (nI v)), (4, .int (rg_fi (M.1 414) (M.1 431) n))]) hx hb dX7_lengthFault_123 hl (k := 3) rfl ((rg_m1s _).trans rm_subS) (by decide) rfl (fun ls hl => ?_)
                        refine lv_goto (tgt := 96) hx hb dX7_lengthFault_126 (by decide) ?_
                        exact ih (d + 1) (by omega) _ _ _ hH (lv_sub hl [1, 2, 3, 0] rfl) (by exact rg_ex_n hB (by omega) (fun q => c_117 (of_decide_eq_true q).2))
                      · refine lv_iload hx hb dX7_lengthFault_120 (lv_at hl 2 rfl) ?_
                        exact rg_retRi C0 hH hr hlocks rfl (by rw [rm_lf, if_neg (show ¬ v = 0 by omega), if_neg (fun q => q.2.2.1 c_42), if_neg c_56, if_neg c_64, if_pos (rg_ex_y hB (by omega) (decide_eq_true ⟨hdv, c_117⟩))]) dX7_lengthFault_122
              exact cut_96 6 1 (by omega) _ _ _ hH (lv_sub hl [4, 5, 1, 0] rfl) (by rfl)
            · refine lv_iload_n hx hb dX7_lengthFault_67 rfl (lv_at hl 1 rfl) ?_
              refine lv_iload hx hb dX7_lengthFault_68 (lv_at hl 0 rfl) ?_
              refine rg_callSGi C0 hH (As := [.int (rg_fi (M.1 414) (M.1 431) n)]) (rest := [.int (rm_rn M (v - 1))]) (k_X7_isLong l E B M (rg_fi (M.1 414) (M.1 431) n)) (rg_cwS 1 C0.1.2.2.2.2 tw_m_X7_149 tw_s_X7_isLong tw_n_X7 tw_c_X7_isLong rfl rfl hd_X7_isLong ⟨Nat.le_of_ble_eq_true rfl, Nat.le_of_ble_eq_true rfl⟩) rfl hl.1 rfl (Nat.le_of_ble_eq_true rfl) dX7_lengthFault_70 ⟨Nat.le_of_ble_eq_true rfl, Nat.le_of_ble_eq_true rfl⟩ (fun H locs hH => ?_)
              refine lv_if_eq (tgt := 80) hx hb dX7_lengthFault_73 (by decide) (fun c_73 => ?_) (fun c_73 => ?_)
              · refine lv_iconst (v := 3) hx hb dX7_lengthFault_80 (by decide) ?_
                refine lv_icmp_lt (tgt := 89) hx hb dX7_lengthFault_81 (by decide) (fun c_81 => ?_) (fun c_81 => ?_)
                · refine lv_iconst (v := (-1)) hx hb dX7_lengthFault_89 (by decide) ?_
                  exact rg_retRi C0 hH hr hlocks rfl (by rw [rm_lf, if_neg (show ¬ v = 0 by omega), if_neg (fun q => q.2.2.1 c_42), if_neg c_56, if_pos c_64, if_neg (rg_b_eq.mp c_73), if_pos c_81]) dX7_lengthFault_90
                · refine lv_iload hx hb dX7_lengthFault_84 (lv_at hl 0 rfl) ?_
                  refine lv_goto (tgt := 90) hx hb dX7_lengthFault_86 (by decide) ?_
                  exact rg_retRi C0 hH hr hlocks rfl (by rw [rm_lf, if_neg (show ¬ v = 0 by omega), if_neg (fun q => q.2.2.1 c_42), if_neg c_56, if_pos c_64, if_neg (rg_b_eq.mp c_73), if_neg c_81]) dX7_lengthFault_90
              · refine lv_iconst (v := 5) hx hb dX7_lengthFault_76 (by decide) ?_
                refine lv_goto (tgt := 81) hx hb dX7_lengthFault_77 (by decide) ?_
                refine lv_icmp_lt (tgt := 89) hx hb dX7_lengthFault_81 (by decide) (fun c_81 => ?_) (fun c_81 => ?_)
                · refine lv_iconst (v := (-1)) hx hb dX7_lengthFault_89 (by decide) ?_
                  exact rg_retRi C0 hH hr hlocks rfl (by rw [rm_lf, if_neg (show ¬ v = 0 by omega), if_neg (fun q => q.2.2.1 c_42), if_neg c_56, if_pos c_64, if_pos (rg_b_ne.mp c_73), if_pos c_81]) dX7_lengthFault_90
                · refine lv_iload hx hb dX7_lengthFault_84 (lv_at hl 0 rfl) ?_
                  refine lv_goto (tgt := 90) hx hb dX7_lengthFault_86 (by decide) ?_
                  exact rg_retRi C0 hH hr hlocks rfl (by rw [rm_lf, if_neg (show ¬ v = 0 by omega), if_neg (fun q => q.2.2.1 c_42), if_neg c_56, if_pos c_64, if_pos (rg_b_ne.mp c_73), if_neg c_81]) dX7_lengthFault_90
          · refine lv_iconst (v := (-1)) hx hb dX7_lengthFault_59 (by decide) ?_
            exact rg_retRi C0 hH hr hlocks rfl (by rw [rm_lf, if_neg (show ¬ v = 0 by omega), if_neg (fun q => q.2.2.1 c_42), if_pos c_56]) dX7_lengthFault_60
        · refine lv_iload hx hb dX7_lengthFault_45 (lv_at hl 0 rfl) ?_
          refine lv_iload_n hx hb dX7_lengthFault_47 rfl (lv_at hl 2 rfl) ?_
          refine lv_icmp_eq (tgt := 53) hx hb dX7_lengthFault_48 (by decide) (fun c_48 => ?_) (fun c_48 => ?_)
          · refine lv_iload hx hb dX7_lengthFault_53 (lv_at hl 0 rfl) ?_
            refine lv_iconst (v := (-1)) hx hb dX7_lengthFault_55 (by decide) ?_
            refine lv_icmp_ne (tgt := 61) hx hb dX7_lengthFault_56 (by decide) (fun c_56 => ?_) (fun c_56 => ?_)
            · refine lv_iload hx hb dX7_lengthFault_61 (lv_at hl 0 rfl) ?_
              refine lv_iload_n hx hb dX7_lengthFault_63 rfl (lv_at hl 2 rfl) ?_
              refine lv_icmp_ne (tgt := 91) hx hb dX7_lengthFault_64 (by decide) (fun c_64 => ?_) (fun c_64 => ?_)
              · refine lv_iload_n hx hb dX7_lengthFault_91 rfl (lv_at hl 4 rfl) ?_
                refine lv_iconst (v := 1) hx hb dX7_lengthFault_92 (by decide) ?_
                refine lv_isub hx hb dX7_lengthFault_93 ?_
                refine lv_istore (lv' := [(5, .int ((nI v) - 1)), (4, .int (rg_fi (M.1 414) (M.1 431) n)), (3, .int (rm_rn M (v - 1))), (2, .int (rm_son M (v - 1))), (0, .ref (B + 412)), (1, .int (nI v))]) hx hb dX7_lengthFault_94 hl (by decide) rfl (fun ls hl => ?_)
                have cut_96 : ∀ (fu d : Nat), (1 ≤ d ∧ d ≤ 5) ∧ 5 < d + fu → ∀  (H : Heap) (locs : List Loc) (ls : Array Slot), rg_H E B 433 rg_R0 M s H locs → lv_has ls 6 [(0, .ref (B + 412)), (1, .int (nI v)), (4, .int (rg_fi (M.1 414) (M.1 431) n)), (5, .int (nI v - nI d))] → (rg_ex (rm_dL M v (rg_fi (M.1 414) (M.1 431) n)) (5 - d) d = rg_ex (rm_dL M v (rg_fi (M.1 414) (M.1 431) n)) 4 1) → W p l e ({ frames := 2, cells := 0, slots := 0, locals := 46 } : Room) s m args below meth c H locs 0 0 (MQ below (rg_Ri E B 433 rg_R0 (M) (fun r => r = rm_lf M (M.1 431) n v)) args s 0 0 (rg_A B)) (F0 m 96 ls []) := by
                  intro fu
                  induction fu with
                  | zero =>
                    intro d hm
                    exact absurd hm (by omega)
                  | succ fu ih =>
                    intro d hm  H locs ls hH hl hB
                    refine lv_iload hx hb dX7_lengthFault_96 (lv_at hl 3 rfl) ?_
                    refine lv_if_lt (tgt := 129) hx hb dX7_lengthFault_98 (by decide) (fun c_98 => ?_) (fun c_98 => ?_)
                    · refine lv_iconst (v := (-1)) hx hb dX7_lengthFault_129 (by decide) ?_
                      exact rg_retRi C0 hH hr hlocks rfl (by rw [rm_lf, if_neg (show ¬ v = 0 by omega), if_neg (fun q => q.2.2.2 c_48), if_neg c_56, if_neg c_64, if_neg (by rw [← hB, rg_ex_ff _ _ (fun q hq => decide_eq_false (fun z => absurd z.1 (by have := (rm_sub0 (by omega) (by omega)).mp c_98; omega)))]; decide)]) dX7_lengthFault_130
                    · refine lv_iload hx hb dX7_lengthFault_101 (lv_at hl 3 rfl) ?_
                      refine lv_iload_n hx hb dX7_lengthFault_103 rfl (lv_at hl 1 rfl) ?_
                      refine lv_iconst (v := 4) hx hb dX7_lengthFault_104 (by decide) ?_
                      refine lv_isub hx hb dX7_lengthFault_105 ?_
                      refine lv_icmp_lt (tgt := 129) hx hb dX7_lengthFault_106 (by decide) (fun c_106 => ?_) (fun c_106 => ?_)
                      · refine lv_iconst (v := (-1)) hx hb dX7_lengthFault_129 (by decide) ?_
                        exact rg_retRi C0 hH hr hlocks rfl (by rw [rm_lf, if_neg (show ¬ v = 0 by omega), if_neg (fun q => q.2.2.2 c_48), if_neg c_56, if_neg c_64, if_neg (by rw [← hB, show 5 - d = 0 by have := (rm_sub2 (e := 4) (by omega) (by omega) (by omega)).mp c_106; omega]; exact Bool.false_ne_true)]) dX7_lengthFault_130
                      · have hdv : d ≤ v := by
                          rcases Nat.lt_or_ge v d with z | z
                          · exact absurd ((rm_sub0 (by omega) (by omega)).mpr z) c_98
                          · exact z
                        have hdn : v - d < rm_nl M := by omega
                        have hds : d ≤ 4 := by
                          rcases Nat.lt_or_ge 4 d with z | z
                          · exact absurd ((rm_sub2 (e := 4) (by omega) (by omega) (by omega)).mpr z) c_106
                          · exact z
                        replace hl : lv_has ls 6 [(0, .ref (B + 412)), (1, .int (nI v)), (4, .int (rg_fi (M.1 414) (M.1 431) n)), (5, .int (nI (v - d)))] := by rw [← rm_sub hdv]; exact hl
                        refine lv_aload_n hx hb dX7_lengthFault_109 rfl (lv_at hl 0 rfl) ?_
                        refine lv_iload hx hb dX7_lengthFault_110 (lv_at hl 3 rfl) ?_
                        refine rg_callGi C0 hH (As := [.int (nI (v - d))]) (rest := []) (o := 412) (ci := 7) (k_X7_seasonOf l E B M (v - d) (by first | exact hI | exact hdn) (by first | exact hI | exact hdn)) (rg_cw 1 C0.1.2.2.2.2 tw_m_X7_129 tw_i_X7_seasonOf tw_v_X7_seasonOf tw_n_X7 tw_c_X7_seasonOf rfl rfl hd_X7_seasonOf ⟨Nat.le_of_ble_eq_true rfl, Nat.le_of_ble_eq_true rfl⟩) rfl (by decide) rfl (by decide) rfl hl.1 rfl (Nat.le_of_ble_eq_true rfl) dX7_lengthFault_112 ⟨Nat.le_of_ble_eq_true rfl, Nat.le_of_ble_eq_true rfl⟩ (fun H locs hH => ?_)
                        refine lv_iload hx hb dX7_lengthFault_115 (lv_at hl 2 rfl) ?_
                        refine lv_icmp_ne (tgt := 123) hx hb dX7_lengthFault_117 (by decide) (fun c_117 => ?_) (fun c_117 => ?_)
                        · replace hl : lv_has ls 6 [(0, .ref (B + 412)), (1, .int (nI v)), (4, .int (rg_fi (M.1 414) (M.1 431) n)), (5, .int (nI v - nI d))] := by rw [rm_sub hdv]; exact hl
                          refine lv_iinc (v := nI v - nI (d + 1)) (lv' := [(5, .int (nI v - nI (d + 1))), (0, .ref (B + 412)), (1, .int (nI v)), (4, .int (rg_fi (M.1 414) (M.1 431) n))]) hx hb dX7_lengthFault_123 hl (k := 3) rfl ((rg_m1s _).trans rm_subS) (by decide) rfl (fun ls hl => ?_)
                          refine lv_goto (tgt := 96) hx hb dX7_lengthFault_126 (by decide) ?_
                          exact ih (d + 1) (by omega) _ _ _ hH (lv_sub hl [1, 2, 3, 0] rfl) (by exact rg_ex_n hB (by omega) (fun q => c_117 (of_decide_eq_true q).2))
                        · refine lv_iload hx hb dX7_lengthFault_120 (lv_at hl 2 rfl) ?_
                          exact rg_retRi C0 hH hr hlocks rfl (by rw [rm_lf, if_neg (show ¬ v = 0 by omega), if_neg (fun q => q.2.2.2 c_48), if_neg c_56, if_neg c_64, if_pos (rg_ex_y hB (by omega) (decide_eq_true ⟨hdv, c_117⟩))]) dX7_lengthFault_122
                exact cut_96 6 1 (by omega) _ _ _ hH (lv_sub hl [4, 5, 1, 0] rfl) (by rfl)
              · refine lv_iload_n hx hb dX7_lengthFault_67 rfl (lv_at hl 1 rfl) ?_
                refine lv_iload hx hb dX7_lengthFault_68 (lv_at hl 0 rfl) ?_
                refine rg_callSGi C0 hH (As := [.int (rg_fi (M.1 414) (M.1 431) n)]) (rest := [.int (rm_rn M (v - 1))]) (k_X7_isLong l E B M (rg_fi (M.1 414) (M.1 431) n)) (rg_cwS 1 C0.1.2.2.2.2 tw_m_X7_149 tw_s_X7_isLong tw_n_X7 tw_c_X7_isLong rfl rfl hd_X7_isLong ⟨Nat.le_of_ble_eq_true rfl, Nat.le_of_ble_eq_true rfl⟩) rfl hl.1 rfl (Nat.le_of_ble_eq_true rfl) dX7_lengthFault_70 ⟨Nat.le_of_ble_eq_true rfl, Nat.le_of_ble_eq_true rfl⟩ (fun H locs hH => ?_)
                refine lv_if_eq (tgt := 80) hx hb dX7_lengthFault_73 (by decide) (fun c_73 => ?_) (fun c_73 => ?_)
                · refine lv_iconst (v := 3) hx hb dX7_lengthFault_80 (by decide) ?_
                  refine lv_icmp_lt (tgt := 89) hx hb dX7_lengthFault_81 (by decide) (fun c_81 => ?_) (fun c_81 => ?_)
                  · refine lv_iconst (v := (-1)) hx hb dX7_lengthFault_89 (by decide) ?_
                    exact rg_retRi C0 hH hr hlocks rfl (by rw [rm_lf, if_neg (show ¬ v = 0 by omega), if_neg (fun q => q.2.2.2 c_48), if_neg c_56, if_pos c_64, if_neg (rg_b_eq.mp c_73), if_pos c_81]) dX7_lengthFault_90
                  · refine lv_iload hx hb dX7_lengthFault_84 (lv_at hl 0 rfl) ?_
                    refine lv_goto (tgt := 90) hx hb dX7_lengthFault_86 (by decide) ?_
                    exact rg_retRi C0 hH hr hlocks rfl (by rw [rm_lf, if_neg (show ¬ v = 0 by omega), if_neg (fun q => q.2.2.2 c_48), if_neg c_56, if_pos c_64, if_neg (rg_b_eq.mp c_73), if_neg c_81]) dX7_lengthFault_90
                · refine lv_iconst (v := 5) hx hb dX7_lengthFault_76 (by decide) ?_
                  refine lv_goto (tgt := 81) hx hb dX7_lengthFault_77 (by decide) ?_
                  refine lv_icmp_lt (tgt := 89) hx hb dX7_lengthFault_81 (by decide) (fun c_81 => ?_) (fun c_81 => ?_)
                  · refine lv_iconst (v := (-1)) hx hb dX7_lengthFault_89 (by decide) ?_
                    exact rg_retRi C0 hH hr hlocks rfl (by rw [rm_lf, if_neg (show ¬ v = 0 by omega), if_neg (fun q => q.2.2.2 c_48), if_neg c_56, if_pos c_64, if_pos (rg_b_ne.mp c_73), if_pos c_81]) dX7_lengthFault_90
                  · refine lv_iload hx hb dX7_lengthFault_84 (lv_at hl 0 rfl) ?_
                    refine lv_goto (tgt := 90) hx hb dX7_lengthFault_86 (by decide) ?_
                    exact rg_retRi C0 hH hr hlocks rfl (by rw [rm_lf, if_neg (show ¬ v = 0 by omega), if_neg (fun q => q.2.2.2 c_48), if_neg c_56, if_pos c_64, if_pos (rg_b_ne.mp c_73), if_neg c_81]) dX7_lengthFault_90
            · refine lv_iconst (v := (-1)) hx hb dX7_lengthFault_59 (by decide) ?_
              exact rg_retRi C0 hH hr hlocks rfl (by rw [rm_lf, if_neg (show ¬ v = 0 by omega), if_neg (fun q => q.2.2.2 c_48), if_pos c_56]) dX7_lengthFault_60
          · refine lv_iload_n hx hb dX7_lengthFault_51 rfl (lv_at hl 2 rfl) ?_
            exact rg_retRi C0 hH hr hlocks rfl (by rw [rm_lf, if_neg (show ¬ v = 0 by omega), if_pos ⟨c_30, rg_b_ne.mp c_37, c_42, c_48⟩]) dX7_lengthFault_52
  · refine lv_iconst (v := (-1)) hx hb dX7_lengthFault_4 (by decide) ?_
    exact rg_retRi C0 hH hr hlocks rfl (by rw [rm_lf, if_pos (rg_nI0 (by omega) c_1)]) dX7_lengthFault_5
