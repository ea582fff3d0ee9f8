set_option maxHeartbeats 4000000 in
set_option maxRecDepth 100000 in
/-- what the class answers is what the law has -/
theorem k_L_isSame (l : Launch) (E : rg_Env) (B : Nat) (M : rg_Mem) (zz : Nat) (hI : rp_Inv M) (hz : zz < 1000000000) (hst : l.stackTraces = false) : Met l yL_isSame (rg_w yL_isSame cL_isSame 15 (some (FieldType.boolean))) ({ frames := 9, cells := 52, slots := 312, locals := 185 } : Room) (va_Pc [.ref (B + 0), .ref (B + 412), .ref (B + 413), .ref (B + 414), .ref (B + 415), .ref (B + 416), .ref (B + 417), .ref (B + 420), .ref (B + 421), .int (nI zz)] (rg_Pre E B 422 rg_R0 M)) (rg_Wi E B 422 rg_R0 (fun r M1 => r = 1 ∧ rp_Inv M1)) 52 312 (rg_A B) := by
  refine rg_ofW (by decide +kernel) rfl (Nat.le_of_ble_eq_true rfl) ?_
  intro p e s m args below meth c ls C0 hH hl hr hlocks hnm
  replace hl : lv_has ls 15 [(0, .ref (B + 0)), (1, .ref (B + 412)), (2, .ref (B + 413)), (3, .ref (B + 414)), (4, .ref (B + 415)), (5, .ref (B + 416)), (6, .ref (B + 417)), (7, .ref (B + 420)), (8, .ref (B + 421)), (9, .int (nI zz))] := hl
  have hx := C0.1.1
  have hb := C0.1.2.1
  generalize hH9 : s.heap = H at hH ⊢
  generalize hL9 : ([] : List Loc) = locs at hH ⊢
  clear hH9 hL9
  refine lv_aload_n hx hb dL_isSame_0 rfl (lv_at hl 0 rfl) ?_
  refine rg_callGi C0 hH (As := []) (rest := []) (o := 0) (ci := 6) (a_links l E B M hI hst) (rg_cw 0 C0.1.2.2.2.2 tw_m_L_54 tw_i_X6_links tw_v_X6_links tw_n_X6 tw_c_X6_links rfl rfl hd_X6_links ⟨Nat.le_of_ble_eq_true rfl, Nat.le_of_ble_eq_true rfl⟩) rfl (by decide) rfl (by decide) rfl hl.1 rfl (Nat.le_of_ble_eq_true rfl) dL_isSame_1 ⟨Nat.le_of_ble_eq_true rfl, Nat.le_of_ble_eq_true rfl⟩ (fun H locs hH => ?_)
  refine lv_aload hx hb dL_isSame_4 (lv_at hl 6 rfl) ?_
  refine lv_iconst (v := 3) hx hb dL_isSame_6 (by decide) ?_
  refine rg_topi (y := nI 3) (by exact rfl) ?_
  refine rg_ialdN C0 hH (o := 417) (j := 3) (n0 := 9) (by decide) rfl rfl (by omega) dL_isSame_7 ?_
  refine lv_icmp_ne (tgt := 55) hx hb dL_isSame_8 (by decide) (fun c_8 => ?_) (fun c_8 => ?_)
  · exact absurd rfl c_8
  · refine lv_aload_n hx hb dL_isSame_11 rfl (lv_at hl 0 rfl) ?_
    refine rg_callGi C0 hH (As := []) (rest := []) (o := 0) (ci := 6) (a_offers l E B M hI hst) (rg_cw 0 C0.1.2.2.2.2 tw_m_L_60 tw_i_X6_offers tw_v_X6_offers tw_n_X6 tw_c_X6_offers rfl rfl hd_X6_offers ⟨Nat.le_of_ble_eq_true rfl, Nat.le_of_ble_eq_true rfl⟩) rfl (by decide) rfl (by decide) rfl hl.1 rfl (Nat.le_of_ble_eq_true rfl) dL_isSame_12 ⟨Nat.le_of_ble_eq_true rfl, Nat.le_of_ble_eq_true rfl⟩ (fun H locs hH => ?_)
    refine lv_aload hx hb dL_isSame_15 (lv_at hl 6 rfl) ?_
    refine lv_iconst (v := 5) hx hb dL_isSame_17 (by decide) ?_
    refine rg_topi (y := nI 5) (by exact rfl) ?_
    refine rg_ialdN C0 hH (o := 417) (j := 5) (n0 := 9) (by decide) rfl rfl (by omega) dL_isSame_18 ?_
    refine lv_icmp_ne (tgt := 55) hx hb dL_isSame_19 (by decide) (fun c_19 => ?_) (fun c_19 => ?_)
    · exact absurd rfl c_19
    · refine lv_aload_n hx hb dL_isSame_22 rfl (lv_at hl 0 rfl) ?_
      refine rg_callGi C0 hH (As := []) (rest := []) (o := 0) (ci := 6) (a_why l E B M hI hst) (rg_cw 0 C0.1.2.2.2.2 tw_m_L_63 tw_i_X6_why tw_v_X6_why tw_n_X6 tw_c_X6_why rfl rfl hd_X6_why ⟨Nat.le_of_ble_eq_true rfl, Nat.le_of_ble_eq_true rfl⟩) rfl (by decide) rfl (by decide) rfl hl.1 rfl (Nat.le_of_ble_eq_true rfl) dL_isSame_23 ⟨Nat.le_of_ble_eq_true rfl, Nat.le_of_ble_eq_true rfl⟩ (fun H locs hH => ?_)
      refine lv_aload hx hb dL_isSame_26 (lv_at hl 6 rfl) ?_
      refine lv_bipush (v := 6) hx hb dL_isSame_28 (by decide) ?_
      refine rg_topi (y := nI 6) (by exact rfl) ?_
      refine rg_ialdN C0 hH (o := 417) (j := 6) (n0 := 9) (by decide) rfl rfl (by omega) dL_isSame_30 ?_
      refine lv_icmp_ne (tgt := 55) hx hb dL_isSame_31 (by decide) (fun c_31 => ?_) (fun c_31 => ?_)
      · exact absurd rfl c_31
      · refine lv_aload_n hx hb dL_isSame_34 rfl (lv_at hl 0 rfl) ?_
        refine rg_callWi C0 hH (As := []) (rest := []) (o := 0) (ci := 6) (a_prize l E B M hI hst) (rg_cw 0 C0.1.2.2.2.2 tw_m_L_66 tw_i_X6_prize tw_v_X6_prize tw_n_X6 tw_c_X6_prize rfl rfl hd_X6_prize ⟨Nat.le_of_ble_eq_true rfl, Nat.le_of_ble_eq_true rfl⟩) rfl (by decide) rfl (by decide) rfl hl.1 rfl (Nat.le_of_ble_eq_true rfl) dL_isSame_35 ⟨Nat.le_of_ble_eq_true rfl, Nat.le_of_ble_eq_true rfl⟩ (fun r_35 M_35 H locs e_35 hH => ?_)
        have hI5 := e_35.1
        have hl5 := rp_nl hI5
        have hT5 := rp_TI hI5
        refine rg_topi (y := (lw_pz M_35 (3 - (0)) (0)).1) (by exact e_35.2.2) ?_
        refine lv_aload hx hb dL_isSame_38 (lv_at hl 4 rfl) ?_
        refine lv_aload hx hb dL_isSame_40 (lv_at hl 5 rfl) ?_
        refine lv_aload hx hb dL_isSame_42 (lv_at hl 6 rfl) ?_
        refine lv_iconst (v := 3) hx hb dL_isSame_44 (by decide) ?_
        refine rg_callSGi C0 hH (As := [.ref (B + 415), .ref (B + 416), .ref (B + 417), .int (3)]) (rest := [.int ((lw_pz M_35 (3 - (0)) (0)).1)]) (k_L_prize l E B M_35 422 (by omega)) (rg_cwS 4 C0.1.2.2.2.2 tw_m_L_69 tw_s_L_prize tw_n_L tw_c_L_prize rfl rfl hd_L_prize ⟨Nat.le_of_ble_eq_true rfl, Nat.le_of_ble_eq_true rfl⟩) rfl hl.1 rfl (Nat.le_of_ble_eq_true rfl) dL_isSame_45 ⟨Nat.le_of_ble_eq_true rfl, Nat.le_of_ble_eq_true rfl⟩ (fun H locs hH => ?_)
        refine lv_icmp_ne (tgt := 55) hx hb dL_isSame_48 (by decide) (fun c_48 => ?_) (fun c_48 => ?_)
        · exact absurd rfl c_48
        · refine lv_iconst (v := 1) hx hb dL_isSame_51 (by decide) ?_
          refine lv_goto (tgt := 56) hx hb dL_isSame_52 (by decide) ?_
          refine lv_istore (lv' := [(10, .int (1)), (0, .ref (B + 0)), (1, .ref (B + 412)), (2, .ref (B + 413)), (3, .ref (B + 414)), (4, .ref (B + 415)), (5, .ref (B + 416)), (6, .ref (B + 417)), (7, .ref (B + 420)), (8, .ref (B + 421)), (9, .int (nI zz))]) hx hb dL_isSame_56 hl (by decide) rfl (fun ls hl => ?_)
          have cut_347 : ∀ (Mv : rg_Mem) (H : Heap) (locs : List Loc) (ls : Array Slot), rg_H E B 422 rg_R0 Mv s H locs → lv_has ls 15 [(10, .int (1)), (0, .ref (B + 0)), (1, .ref (B + 412)), (2, .ref (B + 413)), (3, .ref (B + 414)), (4, .ref (B + 415)), (5, .ref (B + 416)), (6, .ref (B + 417)), (7, .ref (B + 420)), (8, .ref (B + 421)), (9, .int (nI zz))] → (rp_Inv Mv) → W p l e ({ frames := 9, cells := 52, slots := 312, locals := 185 } : Room) s m args below meth c H locs 30 180 (MQ below (rg_Wi E B 422 rg_R0 (fun r M1 => r = 1 ∧ rp_Inv M1)) args s 52 312 (rg_A B)) (F0 m 347 ls []) := by
            intro Mv H locs ls hH hl hIv
            refine lv_aload hx hb dL_isSame_347 (lv_at hl 7 rfl) ?_
            have cut_493 : ∀  (H : Heap) (locs : List Loc) (ls : Array Slot), rg_H E B 422 rg_R0 Mv s H locs → lv_has ls 15 [(10, .int (1)), (0, .ref (B + 0)), (1, .ref (B + 412)), (2, .ref (B + 413)), (3, .ref (B + 414)), (4, .ref (B + 415)), (5, .ref (B + 416)), (6, .ref (B + 417)), (7, .ref (B + 420)), (8, .ref (B + 421)), (9, .int (nI zz))] → W p l e ({ frames := 9, cells := 52, slots := 312, locals := 185 } : Room) s m args below meth c H locs 50 300 (MQ below (rg_Wi E B 422 rg_R0 (fun r M1 => r = 1 ∧ rp_Inv M1)) args s 52 312 (rg_A B)) (F0 m 493 ls []) := by
              intro  H locs ls hH hl 
              refine lv_iload hx hb dL_isSame_493 (lv_at hl 10 rfl) ?_
              refine lv_bipush (v := 60) hx hb dL_isSame_495 (by decide) ?_
              refine lv_idiv hx hb dL_isSame_497 (by decide) ?_
              refine rg_topi (y := nI (zz / 60)) (by exact pk_div (a := zz) (d := 60) (by omega) (by omega) (by omega)) ?_
              refine lv_bipush (v := 6) hx hb dL_isSame_498 (by decide) ?_
              refine lv_irem hx hb dL_isSame_500 (by decide) ?_
              refine rg_topi (y := nI ((zz / 60) % 6)) (by exact pk_rem (a := zz / 60) (d := 6) (by omega) (by omega) (by omega)) ?_
              refine lv_if_ne (tgt := 574) hx hb dL_isSame_501 (by decide) (fun c_501 => ?_) (fun c_501 => ?_)
              · refine lv_iload hx hb dL_isSame_574 (lv_at hl 0 rfl) ?_
                refine W.widen (k := 52) (n := 312) (Nat.le_of_ble_eq_true rfl) (Nat.le_of_ble_eq_true rfl) ?_
                exact rg_retWz C0 hH hr hlocks (Or.inr rfl) (by exact ⟨rfl, hIv⟩) dL_isSame_576
              · refine lv_iload hx hb dL_isSame_504 (lv_at hl 0 rfl) ?_
                refine lv_if_eq (tgt := 574) hx hb dL_isSame_506 (by decide) (fun c_506 => ?_) (fun c_506 => ?_)
                · exact absurd c_506 (by decide)
                · refine lv_aload_n hx hb dL_isSame_509 rfl (lv_at hl 1 rfl) ?_
                  refine lv_iload hx hb dL_isSame_510 (lv_at hl 10 rfl) ?_
                  refine lv_sipush (v := 360) hx hb dL_isSame_512 (by decide) ?_
                  refine lv_idiv hx hb dL_isSame_515 (by decide) ?_
                  refine rg_topi (y := nI (zz / 360)) (by exact pk_div (a := zz) (d := 360) (by omega) (by omega) (by omega)) ?_
                  refine lv_iconst (v := 3) hx hb dL_isSame_516 (by decide) ?_
                  refine lv_irem hx hb dL_isSame_517 (by decide) ?_
                  refine rg_topi (y := nI ((zz / 360) % 3)) (by exact pk_rem (a := zz / 360) (d := 3) (by omega) (by omega) (by omega)) ?_
                  refine rg_callWi C0 hH (As := [.int (nI ((zz / 360) % 3))]) (rest := []) (o := 0) (ci := 6) (a_chances l E B Mv ((zz / 360) % 3) hIv (by omega) hst) (rg_cw 1 C0.1.2.2.2.2 tw_m_L_97 tw_i_X6_chances tw_v_X6_chances tw_n_X6 tw_c_X6_chances rfl rfl hd_X6_chances ⟨Nat.le_of_ble_eq_true rfl, Nat.le_of_ble_eq_true rfl⟩) rfl (by decide) rfl (by decide) rfl hl.1 rfl (Nat.le_of_ble_eq_true rfl) dL_isSame_518 ⟨Nat.le_of_ble_eq_true rfl, Nat.le_of_ble_eq_true rfl⟩ (fun r_518 M_518 H locs e_518 hH => ?_)
                  have hI8 := e_518.1
                  have hl8 := rp_nl hI8
                  refine lv_aload hx hb dL_isSame_521 (lv_at hl 7 rfl) ?_
                  refine lv_bipush (v := 8) hx hb dL_isSame_523 (by decide) ?_
                  refine rg_topi (y := nI 8) (by exact rfl) ?_
                  refine rg_ialdN C0 hH (o := 417) (j := 8) (n0 := 9) (by decide) rfl rfl (by omega) dL_isSame_525 ?_
                  refine rg_topi (y := rg_b (0 < rg_nt M_518)) (by exact (rp_m hI8).2.2.2.2.2.2.2.2) ?_
                  refine lv_iconst (v := 1) hx hb dL_isSame_526 (by decide) ?_
                  refine lv_icmp_ne (tgt := 563) hx hb dL_isSame_527 (by decide) (fun c_527 => ?_) (fun c_527 => ?_)
                  · refine lv_iconst (v := 0) hx hb dL_isSame_563 (by decide) ?_
                    refine lv_icmp_ne (tgt := 571) hx hb dL_isSame_564 (by decide) (fun c_564 => ?_) (fun c_564 => ?_)
                    · exact absurd (e_518.2.2.trans (if_neg (fun q => c_527 (rg_b_t (by omega)).symm))) c_564
                    · refine lv_iconst (v := 1) hx hb dL_isSame_567 (by decide) ?_
                      refine lv_goto (tgt := 572) hx hb dL_isSame_568 (by decide) ?_
                      refine lv_istore (lv' := [(10, .int (1)), (0, .ref (B + 0)), (1, .ref (B + 412)), (2, .ref (B + 413)), (3, .ref (B + 414)), (4, .ref (B + 415)), (5, .ref (B + 416)), (6, .ref (B + 417)), (7, .ref (B + 420)), (8, .ref (B + 421)), (9, .int (nI zz))]) hx hb dL_isSame_572 hl (by decide) rfl (fun ls hl => ?_)
                      refine lv_iload hx hb dL_isSame_574 (lv_at hl 0 rfl) ?_
                      refine W.widen (k := 52) (n := 312) (Nat.le_of_ble_eq_true rfl) (Nat.le_of_ble_eq_true rfl) ?_
                      exact rg_retWz C0 hH hr hlocks (Or.inr rfl) (by exact ⟨rfl, hI8⟩) dL_isSame_576
                  · refine lv_aload hx hb dL_isSame_530 (lv_at hl 7 rfl) ?_
                    refine lv_iconst (v := 3) hx hb dL_isSame_532 (by decide) ?_
                    refine rg_topi (y := nI 3) (by exact rfl) ?_
                    refine rg_ialdN C0 hH (o := 417) (j := 3) (n0 := 9) (by decide) rfl rfl (by omega) dL_isSame_533 ?_
                    refine rg_topi (y := nI (rg_nl M_518)) (by exact (rp_m hI8).2.2.2.1.trans (rg_CI_l (rp_ci hI8)).1) ?_
                    refine lv_aload hx hb dL_isSame_534 (lv_at hl 7 rfl) ?_
                    refine lv_iconst (v := 4) hx hb dL_isSame_536 (by decide) ?_
                    refine rg_topi (y := nI 4) (by exact rfl) ?_
                    refine rg_ialdN C0 hH (o := 417) (j := 4) (n0 := 9) (by decide) rfl rfl (by omega) dL_isSame_537 ?_
                    refine rg_topi (y := nI (rg_nt M_518)) (by exact (rp_m hI8).2.2.2.2.1.trans (rg_CI_t (rp_ci hI8)).1) ?_
                    refine lv_icmp_ge (tgt := 563) hx hb dL_isSame_538 (by decide) (fun c_538 => ?_) (fun c_538 => ?_)
                    · refine lv_iconst (v := 0) hx hb dL_isSame_563 (by decide) ?_
                      refine lv_icmp_ne (tgt := 571) hx hb dL_isSame_564 (by decide) (fun c_564 => ?_) (fun c_564 => ?_)
                      · exact absurd (e_518.2.2.trans (if_neg (fun q => by have := (lw_nle (by omega) (by omega)).mp c_538; omega))) c_564
                      · refine lv_iconst (v := 1) hx hb dL_isSame_567 (by decide) ?_
                        refine lv_goto (tgt := 572) hx hb dL_isSame_568 (by decide) ?_
                        refine lv_istore (lv' := [(10, .int (1)), (0, .ref (B + 0)), (1, .ref (B + 412)), (2, .ref (B + 413)), (3, .ref (B + 414)), (4, .ref (B + 415)), (5, .ref (B + 416)), (6, .ref (B + 417)), (7, .ref (B + 420)), (8, .ref (B + 421)), (9, .int (nI zz))]) hx hb dL_isSame_572 hl (by decide) rfl (fun ls hl => ?_)
                        refine lv_iload hx hb dL_isSame_574 (lv_at hl 0 rfl) ?_
                        refine W.widen (k := 52) (n := 312) (Nat.le_of_ble_eq_true rfl) (Nat.le_of_ble_eq_true rfl) ?_
                        exact rg_retWz C0 hH hr hlocks (Or.inr rfl) (by exact ⟨rfl, hI8⟩) dL_isSame_576
                    · have hlt8 : rg_nl M_518 < rg_nt M_518 := by have := lw_no (lw_nle (by omega) (by omega)) c_538; omega
                      refine lv_aload_n hx hb dL_isSame_541 rfl (lv_at hl 2 rfl) ?_
                      refine lv_aload_n hx hb dL_isSame_542 rfl (lv_at hl 3 rfl) ?_
                      refine lv_aload_n hx hb dL_isSame_543 rfl (lv_at hl 4 rfl) ?_
                      refine lv_aload hx hb dL_isSame_544 (lv_at hl 5 rfl) ?_
                      refine lv_aload hx hb dL_isSame_546 (lv_at hl 7 rfl) ?_
                      refine lv_iload hx hb dL_isSame_548 (lv_at hl 10 rfl) ?_
                      refine lv_sipush (v := 360) hx hb dL_isSame_550 (by decide) ?_
                      refine lv_idiv hx hb dL_isSame_553 (by decide) ?_
                      refine rg_topi (y := nI (zz / 360)) (by exact pk_div (a := zz) (d := 360) (by omega) (by omega) (by omega)) ?_
                      refine lv_iconst (v := 3) hx hb dL_isSame_554 (by decide) ?_
                      refine lv_irem hx hb dL_isSame_555 (by decide) ?_
                      refine rg_topi (y := nI ((zz / 360) % 3)) (by exact pk_rem (a := zz / 360) (d := 3) (by omega) (by omega) (by omega)) ?_
                      refine lv_iconst (v := (-1)) hx hb dL_isSame_556 (by decide) ?_
                      refine rg_callSGi C0 hH (As := [.ref (B + 412), .ref (B + 413), .ref (B + 414), .ref (B + 415), .ref (B + 417), .int (nI ((zz / 360) % 3)), .int ((-1))]) (rest := [.int (r_518)]) (k_L_chance l E B M_518 (rg_nl M_518) (rg_sp M_518) (nI ((zz / 360) % 3)) ((-1)) (rp_TI hI8) (rp_wi hI8) (by omega) ((rp_m hI8).1.trans (rg_CI_s (rp_ci hI8)).1) (rg_CI_s (rp_ci hI8)).2 ((rp_m hI8).2.2.2.1.trans (rg_CI_l (rp_ci hI8)).1) (fun k hk => (rp_t hI8).2 _ (by omega) (by omega))) (rg_cwS 7 C0.1.2.2.2.2 tw_m_L_100 tw_s_L_chance tw_n_L tw_c_L_chance rfl rfl hd_L_chance ⟨Nat.le_of_ble_eq_true rfl, Nat.le_of_ble_eq_true rfl⟩) rfl hl.1 rfl (Nat.le_of_ble_eq_true rfl) dL_isSame_557 ⟨Nat.le_of_ble_eq_true rfl, Nat.le_of_ble_eq_true rfl⟩ (fun H locs hH => ?_)
                      refine lv_goto (tgt := 564) hx hb dL_isSame_560 (by decide) ?_
                      refine lv_icmp_ne (tgt := 571) hx hb dL_isSame_564 (by decide) (fun c_564 => ?_) (fun c_564 => ?_)
                      · exact absurd (e_518.2.2.trans (if_pos (by have := lw_no (lw_nle (by omega) (by omega)) c_538; omega))) c_564
                      · refine lv_iconst (v := 1) hx hb dL_isSame_567 (by decide) ?_
                        refine lv_goto (tgt := 572) hx hb dL_isSame_568 (by decide) ?_
                        refine lv_istore (lv' := [(10, .int (1)), (0, .ref (B + 0)), (1, .ref (B + 412)), (2, .ref (B + 413)), (3, .ref (B + 414)), (4, .ref (B + 415)), (5, .ref (B + 416)), (6, .ref (B + 417)), (7, .ref (B + 420)), (8, .ref (B + 421)), (9, .int (nI zz))]) hx hb dL_isSame_572 hl (by decide) rfl (fun ls hl => ?_)
                        refine lv_iload hx hb dL_isSame_574 (lv_at hl 0 rfl) ?_
                        exact rg_retWz C0 hH hr hlocks (Or.inr rfl) (by exact ⟨rfl, hI8⟩) dL_isSame_576
            refine lv_bipush (v := 7) hx hb dL_isSame_349 (by decide) ?_
            refine rg_topi (y := nI 7) (by exact rfl) ?_
            refine rg_ialdN C0 hH (o := 417) (j := 7) (n0 := 9) (by decide) rfl rfl (by omega) dL_isSame_351 ?_
            refine rg_topi (y := nI (rg_nc Mv)) (by exact (rp_m hIv).2.2.2.2.2.2.2.1.trans (rg_CI_c (rp_ci hIv)).1) ?_
            refine lv_if_le (tgt := 493) hx hb dL_isSame_352 (by decide) (fun c_352 => ?_) (fun c_352 => ?_)
            · refine W.widen (k := 50) (n := 300) (Nat.le_of_ble_eq_true rfl) (Nat.le_of_ble_eq_true rfl) ?_
              exact cut_493 _ _ _ hH (lv_sub hl [0, 1, 2, 3, 4, 5, 6, 7, 8, 9, 10] rfl)
            · have hnc2 := (rp_n hIv).2.2.1
              have hnc0 : 0 < rg_nc Mv := by have := lw_no (lw_le0 (t := rg_nc Mv) (by have := (rp_n hIv).2.2.1; omega)) c_352; omega
              have hcd1 := rp_cd_le (p := Mv.1 420) (q := Mv.1 421) 60
              have hcd2 := rp_cd_le (p := Mv.1 420) (q := Mv.1 414) 60
              have hcd3 := rp_cd_le (p := Mv.1 421) (q := Mv.1 420) 60
              have hcd4 := rp_cd_le (p := Mv.1 421) (q := Mv.1 414) 60
              refine lv_iload hx hb dL_isSame_355 (lv_at hl 0 rfl) ?_
              refine lv_if_eq (tgt := 493) hx hb dL_isSame_357 (by decide) (fun c_357 => ?_) (fun c_357 => ?_)
              · exact absurd c_357 (by decide)
              · refine lv_aload hx hb dL_isSame_360 (lv_at hl 7 rfl) ?_
                have cut_410 : ∀  (H : Heap) (locs : List Loc) (ls : Array Slot), rg_H E B 422 rg_R0 Mv s H locs → lv_has ls 15 [(10, .int (1)), (0, .ref (B + 0)), (1, .ref (B + 412)), (2, .ref (B + 413)), (3, .ref (B + 414)), (4, .ref (B + 415)), (5, .ref (B + 416)), (6, .ref (B + 417)), (7, .ref (B + 420)), (8, .ref (B + 421)), (9, .int (nI zz))] → W p l e ({ frames := 9, cells := 52, slots := 312, locals := 185 } : Room) s m args below meth c H locs 40 240 (MQ below (rg_Wi E B 422 rg_R0 (fun r M1 => r = 1 ∧ rp_Inv M1)) args s 52 312 (rg_A B)) (F0 m 410 ls []) := by
                  intro  H locs ls hH hl 
                  refine lv_aload_n hx hb dL_isSame_410 rfl (lv_at hl 1 rfl) ?_
                  have cut_448 : ∀  (H : Heap) (locs : List Loc) (ls : Array Slot), rg_H E B 422 rg_R0 Mv s H locs → lv_has ls 15 [(10, .int (1)), (0, .ref (B + 0)), (1, .ref (B + 412)), (2, .ref (B + 413)), (3, .ref (B + 414)), (4, .ref (B + 415)), (5, .ref (B + 416)), (6, .ref (B + 417)), (7, .ref (B + 420)), (8, .ref (B + 421)), (9, .int (nI zz))] → W p l e ({ frames := 9, cells := 52, slots := 312, locals := 185 } : Room) s m args below meth c H locs 45 270 (MQ below (rg_Wi E B 422 rg_R0 (fun r M1 => r = 1 ∧ rp_Inv M1)) args s 52 312 (rg_A B)) (F0 m 448 ls []) := by
                    intro  H locs ls hH hl 
                    refine lv_aload hx hb dL_isSame_448 (lv_at hl 7 rfl) ?_
                    have cut_486 : ∀  (H : Heap) (locs : List Loc) (ls : Array Slot), rg_H E B 422 rg_R0 Mv s H locs → lv_has ls 15 [(10, .int (1)), (0, .ref (B + 0)), (1, .ref (B + 412)), (2, .ref (B + 413)), (3, .ref (B + 414)), (4, .ref (B + 415)), (5, .ref (B + 416)), (6, .ref (B + 417)), (7, .ref (B + 420)), (8, .ref (B + 421)), (9, .int (nI zz))] → W p l e ({ frames := 9, cells := 52, slots := 312, locals := 185 } : Room) s m args below meth c H locs 50 300 (MQ below (rg_Wi E B 422 rg_R0 (fun r M1 => r = 1 ∧ rp_Inv M1)) args s 52 312 (rg_A B)) (F0 m 486 ls []) := by
                      intro  H locs ls hH hl 
                      refine lv_iconst (v := 1) hx hb dL_isSame_486 (by decide) ?_
                      refine lv_goto (tgt := 491) hx hb dL_isSame_487 (by decide) ?_
                      refine lv_istore (lv' := [(10, .int (1)), (0, .ref (B + 0)), (1, .ref (B + 412)), (2, .ref (B + 413)), (3, .ref (B + 414)), (4, .ref (B + 415)), (5, .ref (B + 416)), (6, .ref (B + 417)), (7, .ref (B + 420)), (8, .ref (B + 421)), (9, .int (nI zz))]) hx hb dL_isSame_491 hl (by decide) rfl (fun ls hl => ?_)
                      exact cut_493 _ _ _ hH (lv_sub hl [0, 1, 2, 3, 4, 5, 6, 7, 8, 9, 10] rfl)
                    refine lv_bipush (v := 7) hx hb dL_isSame_450 (by decide) ?_
                    refine rg_topi (y := nI 7) (by exact rfl) ?_
                    refine rg_ialdN C0 hH (o := 417) (j := 7) (n0 := 9) (by decide) rfl rfl (by omega) dL_isSame_452 ?_
                    refine rg_topi (y := nI (rg_nc Mv)) (by exact (rp_m hIv).2.2.2.2.2.2.2.1.trans (rg_CI_c (rp_ci hIv)).1) ?_
                    refine lv_iconst (v := 2) hx hb dL_isSame_453 (by decide) ?_
                    refine lv_icmp_lt (tgt := 486) hx hb dL_isSame_454 (by decide) (fun c_454 => ?_) (fun c_454 => ?_)
                    · refine W.widen (k := 50) (n := 300) (Nat.le_of_ble_eq_true rfl) (Nat.le_of_ble_eq_true rfl) ?_
                      exact cut_486 _ _ _ hH (lv_sub hl [0, 1, 2, 3, 4, 5, 6, 7, 8, 9, 10] rfl)
                    · have hnc22 : rg_nc Mv = 2 := by have := lw_no (lw_nlt (a := rg_nc Mv) (b := 2) (by omega) (by omega)) c_454; omega
                      refine lv_aload_n hx hb dL_isSame_457 rfl (lv_at hl 1 rfl) ?_
                      refine lv_iconst (v := 1) hx hb dL_isSame_458 (by decide) ?_
                      refine rg_callGi C0 hH (As := [.int (1)]) (rest := []) (o := 0) (ci := 6) (a_src1 l E B Mv hIv hnc22 hst) (rg_cw 1 C0.1.2.2.2.2 tw_m_L_94 tw_i_X6_source tw_v_X6_source tw_n_X6 tw_c_X6_source rfl rfl hd_X6_source ⟨Nat.le_of_ble_eq_true rfl, Nat.le_of_ble_eq_true rfl⟩) rfl (by decide) rfl (by decide) rfl hl.1 rfl (Nat.le_of_ble_eq_true rfl) dL_isSame_459 ⟨Nat.le_of_ble_eq_true rfl, Nat.le_of_ble_eq_true rfl⟩ (fun H locs hH => ?_)
                      refine lv_aload hx hb dL_isSame_462 (lv_at hl 9 rfl) ?_
                      refine lv_aload hx hb dL_isSame_464 (lv_at hl 8 rfl) ?_
                      refine rg_callSGi C0 hH (As := [.ref (B + 421), .ref (B + 420)]) (rest := [.int (if lw_cd (Mv.1 421) (Mv.1 420) 60 < lw_cd (Mv.1 421) (Mv.1 414) 60 then 0 else -1)]) (k_L_far l E B Mv 422 421 420 60 60 (by omega) (by omega) rfl rfl (by omega) rfl rfl (by omega)) (rg_cwS 2 C0.1.2.2.2.2 tw_m_L_91 tw_s_L_far tw_n_L tw_c_L_far rfl rfl hd_L_far ⟨Nat.le_of_ble_eq_true rfl, Nat.le_of_ble_eq_true rfl⟩) rfl hl.1 rfl (Nat.le_of_ble_eq_true rfl) dL_isSame_466 ⟨Nat.le_of_ble_eq_true rfl, Nat.le_of_ble_eq_true rfl⟩ (fun H locs hH => ?_)
                      refine lv_aload hx hb dL_isSame_469 (lv_at hl 9 rfl) ?_
                      refine lv_aload_n hx hb dL_isSame_471 rfl (lv_at hl 4 rfl) ?_
                      refine rg_callSGi C0 hH (As := [.ref (B + 421), .ref (B + 414)]) (rest := [.int (nI (lw_cd (Mv.1 421) (Mv.1 420) 60)), .int (if lw_cd (Mv.1 421) (Mv.1 420) 60 < lw_cd (Mv.1 421) (Mv.1 414) 60 then 0 else -1)]) (k_L_far l E B Mv 422 421 414 60 64 (by omega) (by omega) rfl rfl (by omega) rfl rfl (by omega)) (rg_cwS 2 C0.1.2.2.2.2 tw_m_L_91 tw_s_L_far tw_n_L tw_c_L_far rfl rfl hd_L_far ⟨Nat.le_of_ble_eq_true rfl, Nat.le_of_ble_eq_true rfl⟩) rfl hl.1 rfl (Nat.le_of_ble_eq_true rfl) dL_isSame_472 ⟨Nat.le_of_ble_eq_true rfl, Nat.le_of_ble_eq_true rfl⟩ (fun H locs hH => ?_)
                      refine lv_icmp_ge (tgt := 482) hx hb dL_isSame_475 (by decide) (fun c_475 => ?_) (fun c_475 => ?_)
                      · refine lv_iconst (v := (-1)) hx hb dL_isSame_482 (by decide) ?_
                        refine lv_icmp_ne (tgt := 490) hx hb dL_isSame_483 (by decide) (fun c_483 => ?_) (fun c_483 => ?_)
                        · exact absurd (if_neg (fun q => by have := (lw_nle (by omega) (by omega)).mp c_475; omega)) c_483
                        · refine W.widen (k := 50) (n := 300) (Nat.le_of_ble_eq_true rfl) (Nat.le_of_ble_eq_true rfl) ?_
                          exact cut_486 _ _ _ hH (lv_sub hl [0, 1, 2, 3, 4, 5, 6, 7, 8, 9, 10] rfl)
                      · refine lv_iconst (v := 0) hx hb dL_isSame_478 (by decide) ?_
                        refine lv_goto (tgt := 483) hx hb dL_isSame_479 (by decide) ?_
                        refine lv_icmp_ne (tgt := 490) hx hb dL_isSame_483 (by decide) (fun c_483 => ?_) (fun c_483 => ?_)
                        · exact absurd (if_pos (by have := lw_no (lw_nle (by omega) (by omega)) c_475; omega)) c_483
                        · refine W.widen (k := 50) (n := 300) (Nat.le_of_ble_eq_true rfl) (Nat.le_of_ble_eq_true rfl) ?_
                          exact cut_486 _ _ _ hH (lv_sub hl [0, 1, 2, 3, 4, 5, 6, 7, 8, 9, 10] rfl)
                  refine lv_iconst (v := 0) hx hb dL_isSame_411 (by decide) ?_
                  refine rg_callGi C0 hH (As := [.int (0)]) (rest := []) (o := 0) (ci := 6) (a_src0 l E B Mv hIv hnc0 hst) (rg_cw 1 C0.1.2.2.2.2 tw_m_L_94 tw_i_X6_source tw_v_X6_source tw_n_X6 tw_c_X6_source rfl rfl hd_X6_source ⟨Nat.le_of_ble_eq_true rfl, Nat.le_of_ble_eq_true rfl⟩) rfl (by decide) rfl (by decide) rfl hl.1 rfl (Nat.le_of_ble_eq_true rfl) dL_isSame_412 ⟨Nat.le_of_ble_eq_true rfl, Nat.le_of_ble_eq_true rfl⟩ (fun H locs hH => ?_)
                  refine lv_aload hx hb dL_isSame_415 (lv_at hl 7 rfl) ?_
                  refine lv_bipush (v := 7) hx hb dL_isSame_417 (by decide) ?_
                  refine rg_topi (y := nI 7) (by exact rfl) ?_
                  refine rg_ialdN C0 hH (o := 417) (j := 7) (n0 := 9) (by decide) rfl rfl (by omega) dL_isSame_419 ?_
                  refine rg_topi (y := nI (rg_nc Mv)) (by exact (rp_m hIv).2.2.2.2.2.2.2.1.trans (rg_CI_c (rp_ci hIv)).1) ?_
                  refine lv_iconst (v := 1) hx hb dL_isSame_420 (by decide) ?_
                  refine lv_icmp_le (tgt := 444) hx hb dL_isSame_421 (by decide) (fun c_421 => ?_) (fun c_421 => ?_)
                  · refine lv_iconst (v := (-1)) hx hb dL_isSame_444 (by decide) ?_
                    refine lv_icmp_ne (tgt := 490) hx hb dL_isSame_445 (by decide) (fun c_445 => ?_) (fun c_445 => ?_)
                    · exact absurd (if_neg (fun q => by have := (lw_nle (a := rg_nc Mv) (b := 1) (by omega) (by omega)).mp c_421; omega)) c_445
                    · refine W.widen (k := 45) (n := 270) (Nat.le_of_ble_eq_true rfl) (Nat.le_of_ble_eq_true rfl) ?_
                      exact cut_448 _ _ _ hH (lv_sub hl [0, 1, 2, 3, 4, 5, 6, 7, 8, 9, 10] rfl)
                  · refine lv_aload hx hb dL_isSame_424 (lv_at hl 8 rfl) ?_
                    refine lv_aload hx hb dL_isSame_426 (lv_at hl 9 rfl) ?_
                    refine rg_callSGi C0 hH (As := [.ref (B + 420), .ref (B + 421)]) (rest := [.int (if 1 < rg_nc Mv ∧ lw_cd (Mv.1 420) (Mv.1 421) 60 < lw_cd (Mv.1 420) (Mv.1 414) 60 then 1 else -1)]) (k_L_far l E B Mv 422 420 421 60 60 (by omega) (by omega) rfl rfl (by omega) rfl rfl (by omega)) (rg_cwS 2 C0.1.2.2.2.2 tw_m_L_91 tw_s_L_far tw_n_L tw_c_L_far rfl rfl hd_L_far ⟨Nat.le_of_ble_eq_true rfl, Nat.le_of_ble_eq_true rfl⟩) rfl hl.1 rfl (Nat.le_of_ble_eq_true rfl) dL_isSame_428 ⟨Nat.le_of_ble_eq_true rfl, Nat.le_of_ble_eq_true rfl⟩ (fun H locs hH => ?_)
                    refine lv_aload hx hb dL_isSame_431 (lv_at hl 8 rfl) ?_
                    refine lv_aload_n hx hb dL_isSame_433 rfl (lv_at hl 4 rfl) ?_
                    refine rg_callSGi C0 hH (As := [.ref (B + 420), .ref (B + 414)]) (rest := [.int (nI (lw_cd (Mv.1 420) (Mv.1 421) 60)), .int (if 1 < rg_nc Mv ∧ lw_cd (Mv.1 420) (Mv.1 421) 60 < lw_cd (Mv.1 420) (Mv.1 414) 60 then 1 else -1)]) (k_L_far l E B Mv 422 420 414 60 64 (by omega) (by omega) rfl rfl (by omega) rfl rfl (by omega)) (rg_cwS 2 C0.1.2.2.2.2 tw_m_L_91 tw_s_L_far tw_n_L tw_c_L_far rfl rfl hd_L_far ⟨Nat.le_of_ble_eq_true rfl, Nat.le_of_ble_eq_true rfl⟩) rfl hl.1 rfl (Nat.le_of_ble_eq_true rfl) dL_isSame_434 ⟨Nat.le_of_ble_eq_true rfl, Nat.le_of_ble_eq_true rfl⟩ (fun H locs hH => ?_)
                    refine lv_icmp_ge (tgt := 444) hx hb dL_isSame_437 (by decide) (fun c_437 => ?_) (fun c_437 => ?_)
                    · refine lv_iconst (v := (-1)) hx hb dL_isSame_444 (by decide) ?_
                      refine lv_icmp_ne (tgt := 490) hx hb dL_isSame_445 (by decide) (fun c_445 => ?_) (fun c_445 => ?_)
                      · exact absurd (if_neg (fun q => by have := (lw_nle (by omega) (by omega)).mp c_437; omega)) c_445
                      · refine W.widen (k := 45) (n := 270) (Nat.le_of_ble_eq_true rfl) (Nat.le_of_ble_eq_true rfl) ?_
                        exact cut_448 _ _ _ hH (lv_sub hl [0, 1, 2, 3, 4, 5, 6, 7, 8, 9, 10] rfl)
                    · refine lv_iconst (v := 1) hx hb dL_isSame_440 (by decide) ?_
                      refine lv_goto (tgt := 445) hx hb dL_isSame_441 (by decide) ?_
                      refine lv_icmp_ne (tgt := 490) hx hb dL_isSame_445 (by decide) (fun c_445 => ?_) (fun c_445 => ?_)
                      · exact absurd (if_pos ⟨by have := lw_no (lw_nle (a := rg_nc Mv) (b := 1) (by omega) (by omega)) c_421; omega, by have := lw_no (lw_nle (by omega) (by omega)) c_437; omega⟩) c_445
                      · refine W.widen (k := 45) (n := 270) (Nat.le_of_ble_eq_true rfl) (Nat.le_of_ble_eq_true rfl) ?_
                        exact cut_448 _ _ _ hH (lv_sub hl [0, 1, 2, 3, 4, 5, 6, 7, 8, 9, 10] rfl)
                refine lv_bipush (v := 7) hx hb dL_isSame_362 (by decide) ?_
                refine rg_topi (y := nI 7) (by exact rfl) ?_
                refine rg_ialdN C0 hH (o := 417) (j := 7) (n0 := 9) (by decide) rfl rfl (by omega) dL_isSame_364 ?_
                refine rg_topi (y := nI (rg_nc Mv)) (by exact (rp_m hIv).2.2.2.2.2.2.2.1.trans (rg_CI_c (rp_ci hIv)).1) ?_
                refine lv_iconst (v := 1) hx hb dL_isSame_365 (by decide) ?_
                refine lv_icmp_le (tgt := 381) hx hb dL_isSame_366 (by decide) (fun c_366 => ?_) (fun c_366 => ?_)
                · refine lv_aload_n hx hb dL_isSame_381 rfl (lv_at hl 4 rfl) ?_
                  refine lv_astore (lv' := [(11, .ref (B + 414)), (10, .int (1)), (0, .ref (B + 0)), (1, .ref (B + 412)), (2, .ref (B + 413)), (3, .ref (B + 414)), (4, .ref (B + 415)), (5, .ref (B + 416)), (6, .ref (B + 417)), (7, .ref (B + 420)), (8, .ref (B + 421)), (9, .int (nI zz))]) hx hb dL_isSame_382 hl (by decide) rfl (fun ls hl => ?_)
                  refine lv_aload_n hx hb dL_isSame_384 rfl (lv_at hl 2 rfl) ?_
                  refine lv_iconst (v := 0) hx hb dL_isSame_385 (by decide) ?_
                  refine lv_aload hx hb dL_isSame_386 (lv_at hl 0 rfl) ?_
                  refine lv_aload_n hx hb dL_isSame_388 rfl (lv_at hl 5 rfl) ?_
                  refine lv_acmp_ne (rx := some (B + 414)) (ry := some (B + 414)) (tgt := 396) hx hb dL_isSame_389 (by decide) (fun c_389 => ?_) (fun c_389 => ?_)
                  · exact absurd rfl c_389
                  · refine lv_iconst (v := (-1)) hx hb dL_isSame_392 (by decide) ?_
                    refine lv_goto (tgt := 397) hx hb dL_isSame_393 (by decide) ?_
                    refine rg_callGi C0 hH (As := [.int (0), .int ((-1))]) (rest := []) (o := 0) (ci := 6) (a_far0 l E B Mv hIv hnc0 hst) (rg_cw 2 C0.1.2.2.2.2 tw_m_L_88 tw_i_X6_far tw_v_X6_far tw_n_X6 tw_c_X6_far rfl rfl hd_X6_far ⟨Nat.le_of_ble_eq_true rfl, Nat.le_of_ble_eq_true rfl⟩) rfl (by decide) rfl (by decide) rfl hl.1 rfl (Nat.le_of_ble_eq_true rfl) dL_isSame_397 ⟨Nat.le_of_ble_eq_true rfl, Nat.le_of_ble_eq_true rfl⟩ (fun H locs hH => ?_)
                    refine lv_aload hx hb dL_isSame_400 (lv_at hl 9 rfl) ?_
                    refine lv_aload hx hb dL_isSame_402 (lv_at hl 0 rfl) ?_
                    refine rg_callSGi C0 hH (As := [.ref (B + 420), .ref (B + 414)]) (rest := [.int (nI (lw_cd (Mv.1 420) (Mv.1 414) 60))]) (k_L_far l E B Mv 422 420 414 60 64 (by omega) (by omega) rfl rfl (by omega) rfl rfl (by omega)) (rg_cwS 2 C0.1.2.2.2.2 tw_m_L_91 tw_s_L_far tw_n_L tw_c_L_far rfl rfl hd_L_far ⟨Nat.le_of_ble_eq_true rfl, Nat.le_of_ble_eq_true rfl⟩) rfl hl.1 rfl (Nat.le_of_ble_eq_true rfl) dL_isSame_404 ⟨Nat.le_of_ble_eq_true rfl, Nat.le_of_ble_eq_true rfl⟩ (fun H locs hH => ?_)
                    refine lv_icmp_ne (tgt := 490) hx hb dL_isSame_407 (by decide) (fun c_407 => ?_) (fun c_407 => ?_)
                    · exact absurd rfl c_407
                    · refine W.widen (k := 40) (n := 240) (Nat.le_of_ble_eq_true rfl) (Nat.le_of_ble_eq_true rfl) ?_
                      exact cut_410 _ _ _ hH (lv_sub hl [1, 2, 3, 4, 5, 6, 7, 8, 9, 10, 11] rfl)
                · have hnc1 : 1 < rg_nc Mv := by have := lw_no (lw_nle (a := rg_nc Mv) (b := 1) (by omega) (by omega)) c_366; omega
                  refine lv_iload hx hb dL_isSame_369 (lv_at hl 10 rfl) ?_
                  refine lv_iconst (v := 2) hx hb dL_isSame_371 (by decide) ?_
                  refine lv_irem hx hb dL_isSame_372 (by decide) ?_
                  refine rg_topi (y := nI (zz % 2)) (by exact pk_rem (a := zz) (d := 2) (by omega) (by omega) (by omega)) ?_
                  refine lv_if_ne (tgt := 381) hx hb dL_isSame_373 (by decide) (fun c_373 => ?_) (fun c_373 => ?_)
                  · refine lv_aload_n hx hb dL_isSame_381 rfl (lv_at hl 4 rfl) ?_
                    refine lv_astore (lv' := [(11, .ref (B + 414)), (10, .int (1)), (0, .ref (B + 0)), (1, .ref (B + 412)), (2, .ref (B + 413)), (3, .ref (B + 414)), (4, .ref (B + 415)), (5, .ref (B + 416)), (6, .ref (B + 417)), (7, .ref (B + 420)), (8, .ref (B + 421)), (9, .int (nI zz))]) hx hb dL_isSame_382 hl (by decide) rfl (fun ls hl => ?_)
                    refine lv_aload_n hx hb dL_isSame_384 rfl (lv_at hl 2 rfl) ?_
                    refine lv_iconst (v := 0) hx hb dL_isSame_385 (by decide) ?_
                    refine lv_aload hx hb dL_isSame_386 (lv_at hl 0 rfl) ?_
                    refine lv_aload_n hx hb dL_isSame_388 rfl (lv_at hl 5 rfl) ?_
                    refine lv_acmp_ne (rx := some (B + 414)) (ry := some (B + 414)) (tgt := 396) hx hb dL_isSame_389 (by decide) (fun c_389 => ?_) (fun c_389 => ?_)
                    · exact absurd rfl c_389
                    · refine lv_iconst (v := (-1)) hx hb dL_isSame_392 (by decide) ?_
                      refine lv_goto (tgt := 397) hx hb dL_isSame_393 (by decide) ?_
                      refine rg_callGi C0 hH (As := [.int (0), .int ((-1))]) (rest := []) (o := 0) (ci := 6) (a_far0 l E B Mv hIv hnc0 hst) (rg_cw 2 C0.1.2.2.2.2 tw_m_L_88 tw_i_X6_far tw_v_X6_far tw_n_X6 tw_c_X6_far rfl rfl hd_X6_far ⟨Nat.le_of_ble_eq_true rfl, Nat.le_of_ble_eq_true rfl⟩) rfl (by decide) rfl (by decide) rfl hl.1 rfl (Nat.le_of_ble_eq_true rfl) dL_isSame_397 ⟨Nat.le_of_ble_eq_true rfl, Nat.le_of_ble_eq_true rfl⟩ (fun H locs hH => ?_)
                      refine lv_aload hx hb dL_isSame_400 (lv_at hl 9 rfl) ?_
                      refine lv_aload hx hb dL_isSame_402 (lv_at hl 0 rfl) ?_
                      refine rg_callSGi C0 hH (As := [.ref (B + 420), .ref (B + 414)]) (rest := [.int (nI (lw_cd (Mv.1 420) (Mv.1 414) 60))]) (k_L_far l E B Mv 422 420 414 60 64 (by omega) (by omega) rfl rfl (by omega) rfl rfl (by omega)) (rg_cwS 2 C0.1.2.2.2.2 tw_m_L_91 tw_s_L_far tw_n_L tw_c_L_far rfl rfl hd_L_far ⟨Nat.le_of_ble_eq_true rfl, Nat.le_of_ble_eq_true rfl⟩) rfl hl.1 rfl (Nat.le_of_ble_eq_true rfl) dL_isSame_404 ⟨Nat.le_of_ble_eq_true rfl, Nat.le_of_ble_eq_true rfl⟩ (fun H locs hH => ?_)
                      refine lv_icmp_ne (tgt := 490) hx hb dL_isSame_407 (by decide) (fun c_407 => ?_) (fun c_407 => ?_)
                      · exact absurd rfl c_407
                      · refine W.widen (k := 40) (n := 240) (Nat.le_of_ble_eq_true rfl) (Nat.le_of_ble_eq_true rfl) ?_
                        exact cut_410 _ _ _ hH (lv_sub hl [1, 2, 3, 4, 5, 6, 7, 8, 9, 10, 11] rfl)
                  · refine lv_aload hx hb dL_isSame_376 (lv_at hl 9 rfl) ?_
                    refine lv_goto (tgt := 382) hx hb dL_isSame_378 (by decide) ?_
                    refine lv_astore (lv' := [(11, .ref (B + 421)), (10, .int (1)), (0, .ref (B + 0)), (1, .ref (B + 412)), (2, .ref (B + 413)), (3, .ref (B + 414)), (4, .ref (B + 415)), (5, .ref (B + 416)), (6, .ref (B + 417)), (7, .ref (B + 420)), (8, .ref (B + 421)), (9, .int (nI zz))]) hx hb dL_isSame_382 hl (by decide) rfl (fun ls hl => ?_)
                    refine lv_aload_n hx hb dL_isSame_384 rfl (lv_at hl 2 rfl) ?_
                    refine lv_iconst (v := 0) hx hb dL_isSame_385 (by decide) ?_
                    refine lv_aload hx hb dL_isSame_386 (lv_at hl 0 rfl) ?_
                    refine lv_aload_n hx hb dL_isSame_388 rfl (lv_at hl 5 rfl) ?_
                    refine lv_acmp_ne (rx := some (B + 421)) (ry := some (B + 414)) (tgt := 396) hx hb dL_isSame_389 (by decide) (fun c_389 => ?_) (fun c_389 => ?_)
                    · refine lv_iconst (v := 1) hx hb dL_isSame_396 (by decide) ?_
                      refine rg_callGi C0 hH (As := [.int (0), .int (1)]) (rest := []) (o := 0) (ci := 6) (a_far1 l E B Mv hIv hnc1 hst) (rg_cw 2 C0.1.2.2.2.2 tw_m_L_88 tw_i_X6_far tw_v_X6_far tw_n_X6 tw_c_X6_far rfl rfl hd_X6_far ⟨Nat.le_of_ble_eq_true rfl, Nat.le_of_ble_eq_true rfl⟩) rfl (by decide) rfl (by decide) rfl hl.1 rfl (Nat.le_of_ble_eq_true rfl) dL_isSame_397 ⟨Nat.le_of_ble_eq_true rfl, Nat.le_of_ble_eq_true rfl⟩ (fun H locs hH => ?_)
                      refine lv_aload hx hb dL_isSame_400 (lv_at hl 9 rfl) ?_
                      refine lv_aload hx hb dL_isSame_402 (lv_at hl 0 rfl) ?_
                      refine rg_callSGi C0 hH (As := [.ref (B + 420), .ref (B + 421)]) (rest := [.int (nI (lw_cd (Mv.1 420) (Mv.1 421) 60))]) (k_L_far l E B Mv 422 420 421 60 60 (by omega) (by omega) rfl rfl (by omega) rfl rfl (by omega)) (rg_cwS 2 C0.1.2.2.2.2 tw_m_L_91 tw_s_L_far tw_n_L tw_c_L_far rfl rfl hd_L_far ⟨Nat.le_of_ble_eq_true rfl, Nat.le_of_ble_eq_true rfl⟩) rfl hl.1 rfl (Nat.le_of_ble_eq_true rfl) dL_isSame_404 ⟨Nat.le_of_ble_eq_true rfl, Nat.le_of_ble_eq_true rfl⟩ (fun H locs hH => ?_)
                      refine lv_icmp_ne (tgt := 490) hx hb dL_isSame_407 (by decide) (fun c_407 => ?_) (fun c_407 => ?_)
                      · exact absurd rfl c_407
                      · refine W.widen (k := 40) (n := 240) (Nat.le_of_ble_eq_true rfl) (Nat.le_of_ble_eq_true rfl) ?_
                        exact cut_410 _ _ _ hH (lv_sub hl [1, 2, 3, 4, 5, 6, 7, 8, 9, 10, 11] rfl)
                    · exact absurd (Option.some.inj c_389) (by omega)
          refine lv_aload hx hb dL_isSame_58 (lv_at hl 7 rfl) ?_
          refine lv_iconst (v := 3) hx hb dL_isSame_60 (by decide) ?_
          refine rg_topi (y := nI 3) (by exact rfl) ?_
          refine rg_ialdN C0 hH (o := 417) (j := 3) (n0 := 9) (by decide) rfl rfl (by omega) dL_isSame_61 ?_
          refine rg_topi (y := nI (rg_nl M_35)) (by exact (rp_m hI5).2.2.2.1.trans (rg_CI_l (rp_ci hI5)).1) ?_
          refine lv_if_le (tgt := 347) hx hb dL_isSame_62 (by decide) (fun c_62 => ?_) (fun c_62 => ?_)
          · refine W.widen (k := 30) (n := 180) (Nat.le_of_ble_eq_true rfl) (Nat.le_of_ble_eq_true rfl) ?_
            exact cut_347 M_35 _ _ _ hH (lv_sub hl [0, 1, 2, 3, 4, 5, 6, 7, 8, 9, 10] rfl) (by exact hI5)
          · refine lv_iload hx hb dL_isSame_65 (lv_at hl 0 rfl) ?_
            refine lv_if_eq (tgt := 347) hx hb dL_isSame_67 (by decide) (fun c_67 => ?_) (fun c_67 => ?_)
            · exact absurd c_67 (by decide)
            · have hnl0 : 0 < rg_nl M_35 := by have := lw_no (lw_le0 (t := rg_nl M_35) (by omega)) c_62; omega
              refine lv_iload hx hb dL_isSame_70 (lv_at hl 10 rfl) ?_
              refine lv_aload hx hb dL_isSame_72 (lv_at hl 7 rfl) ?_
              refine lv_iconst (v := 3) hx hb dL_isSame_74 (by decide) ?_
              refine rg_topi (y := nI 3) (by exact rfl) ?_
              refine rg_ialdN C0 hH (o := 417) (j := 3) (n0 := 9) (by decide) rfl rfl (by omega) dL_isSame_75 ?_
              refine rg_topi (y := nI (rg_nl M_35)) (by exact (rp_m hI5).2.2.2.1.trans (rg_CI_l (rp_ci hI5)).1) ?_
              refine lv_irem hx hb dL_isSame_76 (by exact nI_ne0 (by omega) (by omega)) ?_
              refine rg_topi (y := nI (zz % (rg_nl M_35))) (by exact pk_rem (a := zz) (d := rg_nl M_35) (by omega) (by omega) (by omega)) ?_
              refine lv_istore (lv' := [(11, .int (nI (zz % (rg_nl M_35)))), (10, .int (1)), (0, .ref (B + 0)), (1, .ref (B + 412)), (2, .ref (B + 413)), (3, .ref (B + 414)), (4, .ref (B + 415)), (5, .ref (B + 416)), (6, .ref (B + 417)), (7, .ref (B + 420)), (8, .ref (B + 421)), (9, .int (nI zz))]) hx hb dL_isSame_77 hl (by decide) rfl (fun ls hl => ?_)
              obtain ⟨j, hd_j⟩ : ∃ j, j = zz % rg_nl M_35 := ⟨_, rfl⟩
              have hjl : j < rg_nl M_35 := by rw [hd_j]; exact Nat.mod_lt _ hnl0
              have hj10 : j < 10 := by omega
              replace hl : lv_has ls 15 [(11, .int (nI j)), (10, .int (1)), (0, .ref (B + 0)), (1, .ref (B + 412)), (2, .ref (B + 413)), (3, .ref (B + 414)), (4, .ref (B + 415)), (5, .ref (B + 416)), (6, .ref (B + 417)), (7, .ref (B + 420)), (8, .ref (B + 421)), (9, .int (nI zz))] := by rw [hd_j]; exact hl
              refine lv_iload hx hb dL_isSame_79 (lv_at hl 11 rfl) ?_
              refine lv_bipush (v := 10) hx hb dL_isSame_81 (by decide) ?_
              refine lv_idiv hx hb dL_isSame_83 (by decide) ?_
              refine rg_topi (y := nI (zz / 10)) (by exact pk_div (a := zz) (d := 10) (by omega) (by omega) (by omega)) ?_
              refine lv_bipush (v := 6) hx hb dL_isSame_84 (by decide) ?_
              refine lv_irem hx hb dL_isSame_86 (by decide) ?_
              refine rg_topi (y := nI ((zz / 10) % 6)) (by exact pk_rem (a := zz / 10) (d := 6) (by omega) (by omega) (by omega)) ?_
              refine lv_istore (lv' := [(12, .int (nI ((zz / 10) % 6))), (11, .int (nI j)), (10, .int (1)), (0, .ref (B + 0)), (1, .ref (B + 412)), (2, .ref (B + 413)), (3, .ref (B + 414)), (4, .ref (B + 415)), (5, .ref (B + 416)), (6, .ref (B + 417)), (7, .ref (B + 420)), (8, .ref (B + 421)), (9, .int (nI zz))]) hx hb dL_isSame_87 hl (by decide) rfl (fun ls hl => ?_)
              obtain ⟨pz, hd_pz⟩ : ∃ pz, pz = zz / 10 % 6 := ⟨_, rfl⟩
              have hp6 : pz < 6 := by omega
              replace hl : lv_has ls 15 [(12, .int (nI pz)), (11, .int (nI j)), (10, .int (1)), (0, .ref (B + 0)), (1, .ref (B + 412)), (2, .ref (B + 413)), (3, .ref (B + 414)), (4, .ref (B + 415)), (5, .ref (B + 416)), (6, .ref (B + 417)), (7, .ref (B + 420)), (8, .ref (B + 421)), (9, .int (nI zz))] := by rw [hd_pz]; exact hl
              refine lv_iconst (v := 0) hx hb dL_isSame_89 (by decide) ?_
              refine lv_istore (lv' := [(13, .int (0)), (12, .int (nI pz)), (11, .int (nI j)), (10, .int (1)), (0, .ref (B + 0)), (1, .ref (B + 412)), (2, .ref (B + 413)), (3, .ref (B + 414)), (4, .ref (B + 415)), (5, .ref (B + 416)), (6, .ref (B + 417)), (7, .ref (B + 420)), (8, .ref (B + 421)), (9, .int (nI zz))]) hx hb dL_isSame_90 hl (by decide) rfl (fun ls hl => ?_)
              refine lv_iconst (v := 0) hx hb dL_isSame_92 (by decide) ?_
              refine lv_istore (lv' := [(14, .int (0)), (13, .int (0)), (12, .int (nI pz)), (11, .int (nI j)), (10, .int (1)), (0, .ref (B + 0)), (1, .ref (B + 412)), (2, .ref (B + 413)), (3, .ref (B + 414)), (4, .ref (B + 415)), (5, .ref (B + 416)), (6, .ref (B + 417)), (7, .ref (B + 420)), (8, .ref (B + 421)), (9, .int (nI zz))]) hx hb dL_isSame_93 hl (by decide) rfl (fun ls hl => ?_)
              have cut_95 : ∀ (fu i : Nat), i ≤ 6 ∧ 6 < i + fu → ∀  (H : Heap) (locs : List Loc) (ls : Array Slot), rg_H E B 422 rg_R0 M_35 s H locs → lv_has ls 15 [(12, .int (nI pz)), (11, .int (nI j)), (10, .int (1)), (0, .ref (B + 0)), (1, .ref (B + 412)), (2, .ref (B + 413)), (3, .ref (B + 414)), (4, .ref (B + 415)), (5, .ref (B + 416)), (6, .ref (B + 417)), (7, .ref (B + 420)), (8, .ref (B + 421)), (9, .int (nI zz)), (13, .int (nI (lw_ct (rp_nz M_35 j) i))), (14, .int (nI i))] → W p l e ({ frames := 9, cells := 52, slots := 312, locals := 185 } : Room) s m args below meth c H locs 0 0 (MQ below (rg_Wi E B 422 rg_R0 (fun r M1 => r = 1 ∧ rp_Inv M1)) args s 52 312 (rg_A B)) (F0 m 95 ls []) := by
                intro fu
                induction fu with
                | zero =>
                  intro i hm
                  exact absurd hm (by omega)
                | succ fu ih =>
                  intro i hm  H locs ls hH hl 
                  refine lv_iload hx hb dL_isSame_95 (lv_at hl 14 rfl) ?_
                  refine lv_bipush (v := 6) hx hb dL_isSame_97 (by decide) ?_
                  refine lv_icmp_ge (tgt := 131) hx hb dL_isSame_99 (by decide) (fun c_99 => ?_) (fun c_99 => ?_)
                  · have q6 : i = 6 := rg_lp_end (n := 6) hm.1 (by omega) c_99
                    subst q6
                    refine lv_aload_n hx hb dL_isSame_131 rfl (lv_at hl 3 rfl) ?_
                    have cut_165 : ∀  (H : Heap) (locs : List Loc) (ls : Array Slot), rg_H E B 422 rg_R0 M_35 s H locs → lv_has ls 15 [(12, .int (nI pz)), (11, .int (nI j)), (10, .int (1)), (0, .ref (B + 0)), (1, .ref (B + 412)), (2, .ref (B + 413)), (3, .ref (B + 414)), (4, .ref (B + 415)), (5, .ref (B + 416)), (6, .ref (B + 417)), (7, .ref (B + 420)), (8, .ref (B + 421)), (9, .int (nI zz)), (13, .int (nI (lw_ct (rp_nz M_35 j) 6))), (14, .int (nI 6))] → W p l e ({ frames := 9, cells := 52, slots := 312, locals := 185 } : Room) s m args below meth c H locs 2 12 (MQ below (rg_Wi E B 422 rg_R0 (fun r M1 => r = 1 ∧ rp_Inv M1)) args s 52 312 (rg_A B)) (F0 m 165 ls []) := by
                      intro  H locs ls hH hl 
                      refine lv_aload_n hx hb dL_isSame_165 rfl (lv_at hl 3 rfl) ?_
                      refine lv_iload hx hb dL_isSame_166 (lv_at hl 1 rfl) ?_
                      refine lv_iconst (v := 1) hx hb dL_isSame_168 (by decide) ?_
                      refine rg_callGi C0 hH (As := [.int (nI j), .int (1)]) (rest := []) (o := 0) (ci := 6) (a_of1 l E B M_35 j hI5 hjl hst) (rg_cw 2 C0.1.2.2.2.2 tw_m_L_71 tw_i_X6_ofLink tw_v_X6_ofLink tw_n_X6 tw_c_X6_ofLink rfl rfl hd_X6_ofLink ⟨Nat.le_of_ble_eq_true rfl, Nat.le_of_ble_eq_true rfl⟩) rfl (by decide) rfl (by decide) rfl hl.1 rfl (Nat.le_of_ble_eq_true rfl) dL_isSame_169 ⟨Nat.le_of_ble_eq_true rfl, Nat.le_of_ble_eq_true rfl⟩ (fun H locs hH => ?_)
                      refine lv_aload_n hx hb dL_isSame_172 rfl (lv_at hl 4 rfl) ?_
                      refine lv_aload_n hx hb dL_isSame_173 rfl (lv_at hl 6 rfl) ?_
                      refine lv_iload hx hb dL_isSame_174 (lv_at hl 1 rfl) ?_
                      refine rg_callSGi C0 hH (As := [.ref (B + 412), .ref (B + 414), .int (nI j)]) (rest := [.int (lw_sea M_35 j)]) (k_L_season l E B M_35 422 j (by omega) hT5 (rp_wi hI5) hj10) (rg_cwS 3 C0.1.2.2.2.2 tw_m_L_9 tw_s_L_season tw_n_L tw_c_L_season rfl rfl hd_L_season ⟨Nat.le_of_ble_eq_true rfl, Nat.le_of_ble_eq_true rfl⟩) rfl hl.1 rfl (Nat.le_of_ble_eq_true rfl) dL_isSame_176 ⟨Nat.le_of_ble_eq_true rfl, Nat.le_of_ble_eq_true rfl⟩ (fun H locs hH => ?_)
                      refine lv_icmp_ne (tgt := 251) hx hb dL_isSame_179 (by decide) (fun c_179 => ?_) (fun c_179 => ?_)
                      · exact absurd rfl c_179
                      · refine lv_aload_n hx hb dL_isSame_182 rfl (lv_at hl 3 rfl) ?_
                        refine lv_iload hx hb dL_isSame_183 (lv_at hl 1 rfl) ?_
                        refine lv_iconst (v := 2) hx hb dL_isSame_185 (by decide) ?_
                        refine rg_callGi C0 hH (As := [.int (nI j), .int (2)]) (rest := []) (o := 0) (ci := 6) (a_of2 l E B M_35 j hI5 hjl hst) (rg_cw 2 C0.1.2.2.2.2 tw_m_L_71 tw_i_X6_ofLink tw_v_X6_ofLink tw_n_X6 tw_c_X6_ofLink rfl rfl hd_X6_ofLink ⟨Nat.le_of_ble_eq_true rfl, Nat.le_of_ble_eq_true rfl⟩) rfl (by decide) rfl (by decide) rfl hl.1 rfl (Nat.le_of_ble_eq_true rfl) dL_isSame_186 ⟨Nat.le_of_ble_eq_true rfl, Nat.le_of_ble_eq_true rfl⟩ (fun H locs hH => ?_)
                        refine lv_aload_n hx hb dL_isSame_189 rfl (lv_at hl 4 rfl) ?_
                        refine lv_aload_n hx hb dL_isSame_190 rfl (lv_at hl 6 rfl) ?_
                        refine lv_iload hx hb dL_isSame_191 (lv_at hl 1 rfl) ?_
                        refine rg_callSGi C0 hH (As := [.ref (B + 412), .ref (B + 414), .int (nI j)]) (rest := [.int (lw_sgn M_35 j)]) (k_L_signs l E B M_35 422 j (by omega) hT5 (rp_wi hI5) hj10) (rg_cwS 3 C0.1.2.2.2.2 tw_m_L_19 tw_s_L_signs tw_n_L tw_c_L_signs rfl rfl hd_L_signs ⟨Nat.le_of_ble_eq_true rfl, Nat.le_of_ble_eq_true rfl⟩) rfl hl.1 rfl (Nat.le_of_ble_eq_true rfl) dL_isSame_193 ⟨Nat.le_of_ble_eq_true rfl, Nat.le_of_ble_eq_true rfl⟩ (fun H locs hH => ?_)
                        refine lv_icmp_ne (tgt := 251) hx hb dL_isSame_196 (by decide) (fun c_196 => ?_) (fun c_196 => ?_)
                        · exact absurd rfl c_196
                        · refine lv_aload_n hx hb dL_isSame_199 rfl (lv_at hl 3 rfl) ?_
                          refine lv_iload hx hb dL_isSame_200 (lv_at hl 1 rfl) ?_
                          refine lv_iconst (v := 3) hx hb dL_isSame_202 (by decide) ?_
                          refine rg_callGi C0 hH (As := [.int (nI j), .int (3)]) (rest := []) (o := 0) (ci := 6) (a_of3 l E B M_35 j hI5 hjl hst) (rg_cw 2 C0.1.2.2.2.2 tw_m_L_71 tw_i_X6_ofLink tw_v_X6_ofLink tw_n_X6 tw_c_X6_ofLink rfl rfl hd_X6_ofLink ⟨Nat.le_of_ble_eq_true rfl, Nat.le_of_ble_eq_true rfl⟩) rfl (by decide) rfl (by decide) rfl hl.1 rfl (Nat.le_of_ble_eq_true rfl) dL_isSame_203 ⟨Nat.le_of_ble_eq_true rfl, Nat.le_of_ble_eq_true rfl⟩ (fun H locs hH => ?_)
                          refine lv_iload hx hb dL_isSame_206 (lv_at hl 13 rfl) ?_
                          refine lv_icmp_ne (tgt := 251) hx hb dL_isSame_208 (by decide) (fun c_208 => ?_) (fun c_208 => ?_)
                          · exact absurd rfl c_208
                          · refine lv_aload_n hx hb dL_isSame_211 rfl (lv_at hl 3 rfl) ?_
                            refine lv_iload hx hb dL_isSame_212 (lv_at hl 1 rfl) ?_
                            refine lv_iconst (v := 4) hx hb dL_isSame_214 (by decide) ?_
                            refine rg_callGi C0 hH (As := [.int (nI j), .int (4)]) (rest := []) (o := 0) (ci := 6) (a_of4 l E B M_35 j hI5 hjl hst) (rg_cw 2 C0.1.2.2.2.2 tw_m_L_71 tw_i_X6_ofLink tw_v_X6_ofLink tw_n_X6 tw_c_X6_ofLink rfl rfl hd_X6_ofLink ⟨Nat.le_of_ble_eq_true rfl, Nat.le_of_ble_eq_true rfl⟩) rfl (by decide) rfl (by decide) rfl hl.1 rfl (Nat.le_of_ble_eq_true rfl) dL_isSame_215 ⟨Nat.le_of_ble_eq_true rfl, Nat.le_of_ble_eq_true rfl⟩ (fun H locs hH => ?_)
                            refine lv_aload_n hx hb dL_isSame_218 rfl (lv_at hl 4 rfl) ?_
                            refine lv_aload_n hx hb dL_isSame_219 rfl (lv_at hl 6 rfl) ?_
                            refine lv_iload hx hb dL_isSame_220 (lv_at hl 1 rfl) ?_
                            refine rg_callSGi C0 hH (As := [.ref (B + 412), .ref (B + 414), .int (nI j)]) (rest := [.int (lw_run M_35 j)]) (k_L_run l E B M_35 422 j (by omega) hT5 (rp_wi hI5) hj10) (rg_cwS 3 C0.1.2.2.2.2 tw_m_L_22 tw_s_L_run tw_n_L tw_c_L_run rfl rfl hd_L_run ⟨Nat.le_of_ble_eq_true rfl, Nat.le_of_ble_eq_true rfl⟩) rfl hl.1 rfl (Nat.le_of_ble_eq_true rfl) dL_isSame_222 ⟨Nat.le_of_ble_eq_true rfl, Nat.le_of_ble_eq_true rfl⟩ (fun H locs hH => ?_)
                            refine lv_icmp_ne (tgt := 251) hx hb dL_isSame_225 (by decide) (fun c_225 => ?_) (fun c_225 => ?_)
                            · exact absurd rfl c_225
                            · refine lv_aload_n hx hb dL_isSame_228 rfl (lv_at hl 3 rfl) ?_
                              refine lv_iload hx hb dL_isSame_229 (lv_at hl 1 rfl) ?_
                              refine lv_iconst (v := 5) hx hb dL_isSame_231 (by decide) ?_
                              refine rg_callGi C0 hH (As := [.int (nI j), .int (5)]) (rest := []) (o := 0) (ci := 6) (a_of5 l E B M_35 j hI5 hjl hst) (rg_cw 2 C0.1.2.2.2.2 tw_m_L_71 tw_i_X6_ofLink tw_v_X6_ofLink tw_n_X6 tw_c_X6_ofLink rfl rfl hd_X6_ofLink ⟨Nat.le_of_ble_eq_true rfl, Nat.le_of_ble_eq_true rfl⟩) rfl (by decide) rfl (by decide) rfl hl.1 rfl (Nat.le_of_ble_eq_true rfl) dL_isSame_232 ⟨Nat.le_of_ble_eq_true rfl, Nat.le_of_ble_eq_true rfl⟩ (fun H locs hH => ?_)
                              refine lv_aload hx hb dL_isSame_235 (lv_at hl 7 rfl) ?_
                              refine lv_iconst (v := 4) hx hb dL_isSame_237 (by decide) ?_
                              refine lv_iload hx hb dL_isSame_238 (lv_at hl 1 rfl) ?_
                              refine lv_imul hx hb dL_isSame_240 ?_
                              refine rg_topi (y := nI (4 * j)) (by exact lw_mul (4) (j)) ?_
                              refine lv_iconst (v := 3) hx hb dL_isSame_241 (by decide) ?_
                              refine lv_iadd hx hb dL_isSame_242 ?_
                              refine rg_topi (y := nI ((4 * j) + 3)) (by exact nI_add (4 * j) (3)) ?_
                              refine rg_ialdN C0 hH (o := 415) (j := ((4 * j) + 3)) (n0 := 44) (by decide) rfl rfl (by omega) dL_isSame_243 ?_
                              refine lv_icmp_ne (tgt := 251) hx hb dL_isSame_244 (by decide) (fun c_244 => ?_) (fun c_244 => ?_)
                              · exact absurd rfl c_244
                              · refine lv_iconst (v := 1) hx hb dL_isSame_247 (by decide) ?_
                                refine lv_goto (tgt := 252) hx hb dL_isSame_248 (by decide) ?_
                                refine lv_istore (lv' := [(10, .int (1)), (12, .int (nI pz)), (11, .int (nI j)), (0, .ref (B + 0)), (1, .ref (B + 412)), (2, .ref (B + 413)), (3, .ref (B + 414)), (4, .ref (B + 415)), (5, .ref (B + 416)), (6, .ref (B + 417)), (7, .ref (B + 420)), (8, .ref (B + 421)), (9, .int (nI zz)), (13, .int (nI (lw_ct (rp_nz M_35 j) 6))), (14, .int (nI 6))]) hx hb dL_isSame_252 hl (by decide) rfl (fun ls hl => ?_)
                                refine lv_iload hx hb dL_isSame_254 (lv_at hl 0 rfl) ?_
                                refine lv_if_eq (tgt := 344) hx hb dL_isSame_256 (by decide) (fun c_256 => ?_) (fun c_256 => ?_)
                                · exact absurd c_256 (by decide)
                                · refine lv_iload hx hb dL_isSame_259 (lv_at hl 1 rfl) ?_
                                  have cut_289 : ∀  (H : Heap) (locs : List Loc) (ls : Array Slot), rg_H E B 422 rg_R0 M_35 s H locs → lv_has ls 15 [(10, .int (1)), (12, .int (nI pz)), (11, .int (nI j)), (0, .ref (B + 0)), (1, .ref (B + 412)), (2, .ref (B + 413)), (3, .ref (B + 414)), (4, .ref (B + 415)), (5, .ref (B + 416)), (6, .ref (B + 417)), (7, .ref (B + 420)), (8, .ref (B + 421)), (9, .int (nI zz)), (13, .int (nI (lw_ct (rp_nz M_35 j) 6))), (14, .int (nI 6))] → W p l e ({ frames := 9, cells := 52, slots := 312, locals := 185 } : Room) s m args below meth c H locs 20 120 (MQ below (rg_Wi E B 422 rg_R0 (fun r M1 => r = 1 ∧ rp_Inv M1)) args s 52 312 (rg_A B)) (F0 m 289 ls []) := by
                                    intro  H locs ls hH hl 
                                    refine lv_aload_n hx hb dL_isSame_289 rfl (lv_at hl 3 rfl) ?_
                                    refine lv_iload hx hb dL_isSame_290 (lv_at hl 2 rfl) ?_
                                    refine rg_callGi C0 hH (As := [.int (nI j)]) (rest := []) (o := 0) (ci := 6) (a_faultAnew l E B M_35 j hI5 hjl hst) (rg_cw 1 C0.1.2.2.2.2 tw_m_L_78 tw_i_X6_faultAnew tw_v_X6_faultAnew tw_n_X6 tw_c_X6_faultAnew rfl rfl hd_X6_faultAnew ⟨Nat.le_of_ble_eq_true rfl, Nat.le_of_ble_eq_true rfl⟩) rfl (by decide) rfl (by decide) rfl hl.1 rfl (Nat.le_of_ble_eq_true rfl) dL_isSame_292 ⟨Nat.le_of_ble_eq_true rfl, Nat.le_of_ble_eq_true rfl⟩ (fun H locs hH => ?_)
                                    refine lv_aload_n hx hb dL_isSame_295 rfl (lv_at hl 4 rfl) ?_
                                    refine lv_aload_n hx hb dL_isSame_296 rfl (lv_at hl 5 rfl) ?_
                                    refine lv_aload_n hx hb dL_isSame_297 rfl (lv_at hl 6 rfl) ?_
                                    refine lv_aload hx hb dL_isSame_298 (lv_at hl 7 rfl) ?_
                                    refine lv_aload hx hb dL_isSame_300 (lv_at hl 9 rfl) ?_
                                    refine lv_iload hx hb dL_isSame_302 (lv_at hl 2 rfl) ?_
                                    refine lv_aload hx hb dL_isSame_304 (lv_at hl 7 rfl) ?_
                                    refine lv_iconst (v := 4) hx hb dL_isSame_306 (by decide) ?_
                                    refine lv_iload hx hb dL_isSame_307 (lv_at hl 2 rfl) ?_
                                    refine lv_imul hx hb dL_isSame_309 ?_
                                    refine rg_topi (y := nI (4 * j)) (by exact lw_mul (4) (j)) ?_
                                    refine rg_ialdN C0 hH (o := 415) (j := (4 * j)) (n0 := 44) (by decide) rfl rfl (by omega) dL_isSame_310 ?_
                                    refine rg_callSGi C0 hH (As := [.ref (B + 412), .ref (B + 413), .ref (B + 414), .ref (B + 415), .ref (B + 417), .int (nI j), .int (M_35.1 415 ((4 * j)))]) (rest := [.int ((lw_fl (lw_cs M_35 j (rg_sp M_35) (M_35.1 415 (4 * j)))) / 100)]) (k_L_fault l E B M_35 422 j (rg_sp M_35) (M_35.1 415 ((4 * j))) (by omega) hT5 (rp_wi hI5) hj10 ((rp_m hI5).1.trans (rg_CI_s (rp_ci hI5)).1) (rg_CI_s (rp_ci hI5)).2) (rg_cwS 7 C0.1.2.2.2.2 tw_m_L_42 tw_s_L_fault tw_n_L tw_c_L_fault rfl rfl hd_L_fault ⟨Nat.le_of_ble_eq_true rfl, Nat.le_of_ble_eq_true rfl⟩) rfl hl.1 rfl (Nat.le_of_ble_eq_true rfl) dL_isSame_311 ⟨Nat.le_of_ble_eq_true rfl, Nat.le_of_ble_eq_true rfl⟩ (fun H locs hH => ?_)
                                    refine lv_bipush (v := 100) hx hb dL_isSame_314 (by decide) ?_
                                    refine lv_idiv hx hb dL_isSame_316 (by decide) ?_
                                    refine lv_icmp_ne (tgt := 344) hx hb dL_isSame_317 (by decide) (fun c_317 => ?_) (fun c_317 => ?_)
                                    · exact absurd rfl c_317
                                    · refine lv_aload_n hx hb dL_isSame_320 rfl (lv_at hl 3 rfl) ?_
                                      refine lv_iload hx hb dL_isSame_321 (lv_at hl 2 rfl) ?_
                                      refine rg_callWi C0 hH (As := [.int (nI j)]) (rest := []) (o := 0) (ci := 6) (a_hand l E B M_35 j hI5 hjl hst) (rg_cw 1 C0.1.2.2.2.2 tw_m_L_82 tw_i_X6_hand tw_v_X6_hand tw_n_X6 tw_c_X6_hand rfl rfl hd_X6_hand ⟨Nat.le_of_ble_eq_true rfl, Nat.le_of_ble_eq_true rfl⟩) rfl (by decide) rfl (by decide) rfl hl.1 rfl (Nat.le_of_ble_eq_true rfl) dL_isSame_323 ⟨Nat.le_of_ble_eq_true rfl, Nat.le_of_ble_eq_true rfl⟩ (fun r_323 M_323 H locs e_323 hH => ?_)
                                      have hI3 := e_323.1
                                      have hl3 := rp_nl hI3
                                      refine rg_topi (y := (lw_hz M_323 j (rg_nl M_323) (3 - (0)) (0)).1) (by exact e_323.2.2) ?_
                                      refine lv_aload_n hx hb dL_isSame_326 rfl (lv_at hl 4 rfl) ?_
                                      refine lv_aload_n hx hb dL_isSame_327 rfl (lv_at hl 6 rfl) ?_
                                      refine lv_aload hx hb dL_isSame_328 (lv_at hl 7 rfl) ?_
                                      refine lv_aload hx hb dL_isSame_330 (lv_at hl 9 rfl) ?_
                                      refine lv_iload hx hb dL_isSame_332 (lv_at hl 2 rfl) ?_
                                      refine rg_callSGi C0 hH (As := [.ref (B + 412), .ref (B + 414), .ref (B + 415), .ref (B + 417), .int (nI j)]) (rest := [.int ((lw_hz M_323 j (rg_nl M_323) (3 - (0)) (0)).1)]) (k_L_hand l E B M_323 422 j (rg_nl M_323) (by omega) (rp_TI hI3) (rp_wi hI3) hj10 ((rp_m hI3).2.2.2.1.trans (rg_CI_l (rp_ci hI3)).1) (by omega)) (rg_cwS 5 C0.1.2.2.2.2 tw_m_L_85 tw_s_L_hand tw_n_L tw_c_L_hand rfl rfl hd_L_hand ⟨Nat.le_of_ble_eq_true rfl, Nat.le_of_ble_eq_true rfl⟩) rfl hl.1 rfl (Nat.le_of_ble_eq_true rfl) dL_isSame_334 ⟨Nat.le_of_ble_eq_true rfl, Nat.le_of_ble_eq_true rfl⟩ (fun H locs hH => ?_)
                                      refine lv_icmp_ne (tgt := 344) hx hb dL_isSame_337 (by decide) (fun c_337 => ?_) (fun c_337 => ?_)
                                      · exact absurd rfl c_337
                                      · refine lv_iconst (v := 1) hx hb dL_isSame_340 (by decide) ?_
                                        refine lv_goto (tgt := 345) hx hb dL_isSame_341 (by decide) ?_
                                        refine lv_istore (lv' := [(10, .int (1)), (12, .int (nI pz)), (11, .int (nI j)), (0, .ref (B + 0)), (1, .ref (B + 412)), (2, .ref (B + 413)), (3, .ref (B + 414)), (4, .ref (B + 415)), (5, .ref (B + 416)), (6, .ref (B + 417)), (7, .ref (B + 420)), (8, .ref (B + 421)), (9, .int (nI zz)), (13, .int (nI (lw_ct (rp_nz M_35 j) 6))), (14, .int (nI 6))]) hx hb dL_isSame_345 hl (by decide) rfl (fun ls hl => ?_)
                                        refine W.widen (k := 30) (n := 180) (Nat.le_of_ble_eq_true rfl) (Nat.le_of_ble_eq_true rfl) ?_
                                        exact cut_347 M_323 _ _ _ hH (lv_sub hl [0, 3, 4, 5, 6, 7, 8, 9, 10, 11, 12] rfl) (by exact hI3)
                                  refine lv_iload hx hb dL_isSame_261 (lv_at hl 13 rfl) ?_
                                  refine lv_icmp_ge (tgt := 289) hx hb dL_isSame_263 (by decide) (fun c_263 => ?_) (fun c_263 => ?_)
                                  · refine W.widen (k := 20) (n := 120) (Nat.le_of_ble_eq_true rfl) (Nat.le_of_ble_eq_true rfl) ?_
                                    exact cut_289 _ _ _ hH (lv_sub hl [0, 1, 2, 3, 4, 5, 6, 7, 8, 9, 10, 11, 12, 13, 14] rfl)
                                  · have hpn : pz < lw_ct (rp_nz M_35 j) 6 := by have := lw_ct_le (p := rp_nz M_35 j) 6; have := lw_no (lw_nle (a := lw_ct (rp_nz M_35 j) 6) (b := pz) (by omega) (by omega)) c_263; omega
                                    refine lv_aload_n hx hb dL_isSame_266 rfl (lv_at hl 3 rfl) ?_
                                    refine lv_iload hx hb dL_isSame_267 (lv_at hl 2 rfl) ?_
                                    refine lv_iload hx hb dL_isSame_269 (lv_at hl 1 rfl) ?_
                                    refine rg_callGi C0 hH (As := [.int (nI j), .int (nI pz)]) (rest := []) (o := 0) (ci := 6) (a_wordAt l E B M_35 j pz hI5 hjl hpn hst) (rg_cw 2 C0.1.2.2.2.2 tw_m_L_75 tw_i_X6_wordAt tw_v_X6_wordAt tw_n_X6 tw_c_X6_wordAt rfl rfl hd_X6_wordAt ⟨Nat.le_of_ble_eq_true rfl, Nat.le_of_ble_eq_true rfl⟩) rfl (by decide) rfl (by decide) rfl hl.1 rfl (Nat.le_of_ble_eq_true rfl) dL_isSame_271 ⟨Nat.le_of_ble_eq_true rfl, Nat.le_of_ble_eq_true rfl⟩ (fun H locs hH => ?_)
                                    refine lv_aload_n hx hb dL_isSame_274 rfl (lv_at hl 6 rfl) ?_
                                    refine lv_bipush (v := 6) hx hb dL_isSame_275 (by decide) ?_
                                    refine lv_iload hx hb dL_isSame_277 (lv_at hl 2 rfl) ?_
                                    refine lv_imul hx hb dL_isSame_279 ?_
                                    refine rg_topi (y := nI (6 * j)) (by exact lw_mul (6) (j)) ?_
                                    refine lv_iload hx hb dL_isSame_280 (lv_at hl 1 rfl) ?_
                                    refine lv_iadd hx hb dL_isSame_282 ?_
                                    refine rg_topi (y := nI ((6 * j) + pz)) (by exact nI_add (6 * j) (pz)) ?_
                                    refine rg_ialdN C0 hH (o := 414) (j := ((6 * j) + pz)) (n0 := 64) (by decide) rfl rfl (by omega) dL_isSame_283 ?_
                                    refine lv_iconst (v := 1) hx hb dL_isSame_284 (by decide) ?_
                                    refine lv_isub hx hb dL_isSame_285 ?_
                                    refine lv_icmp_ne (tgt := 344) hx hb dL_isSame_286 (by decide) (fun c_286 => ?_) (fun c_286 => ?_)
                                    · exact absurd rfl c_286
                                    · refine W.widen (k := 20) (n := 120) (Nat.le_of_ble_eq_true rfl) (Nat.le_of_ble_eq_true rfl) ?_
                                      exact cut_289 _ _ _ hH (lv_sub hl [0, 1, 2, 3, 4, 5, 6, 7, 8, 9, 10, 11, 12, 13, 14] rfl)
                    refine lv_iload hx hb dL_isSame_132 (lv_at hl 1 rfl) ?_
                    refine lv_iconst (v := 0) hx hb dL_isSame_134 (by decide) ?_
                    refine rg_callGi C0 hH (As := [.int (nI j), .int (0)]) (rest := []) (o := 0) (ci := 6) (a_of0 l E B M_35 j hI5 hjl hst) (rg_cw 2 C0.1.2.2.2.2 tw_m_L_71 tw_i_X6_ofLink tw_v_X6_ofLink tw_n_X6 tw_c_X6_ofLink rfl rfl hd_X6_ofLink ⟨Nat.le_of_ble_eq_true rfl, Nat.le_of_ble_eq_true rfl⟩) rfl (by decide) rfl (by decide) rfl hl.1 rfl (Nat.le_of_ble_eq_true rfl) dL_isSame_135 ⟨Nat.le_of_ble_eq_true rfl, Nat.le_of_ble_eq_true rfl⟩ (fun H locs hH => ?_)
                    refine lv_aload hx hb dL_isSame_138 (lv_at hl 7 rfl) ?_
                    refine lv_iconst (v := 4) hx hb dL_isSame_140 (by decide) ?_
                    refine lv_iload hx hb dL_isSame_141 (lv_at hl 1 rfl) ?_
                    refine lv_imul hx hb dL_isSame_143 ?_
                    refine rg_topi (y := nI (4 * j)) (by exact lw_mul (4) (j)) ?_
                    refine lv_iconst (v := 2) hx hb dL_isSame_144 (by decide) ?_
                    refine lv_iadd hx hb dL_isSame_145 ?_
                    refine rg_topi (y := nI ((4 * j) + 2)) (by exact nI_add (4 * j) (2)) ?_
                    refine rg_ialdN C0 hH (o := 415) (j := ((4 * j) + 2)) (n0 := 44) (by decide) rfl rfl (by omega) dL_isSame_146 ?_
                    refine lv_iconst (v := 1) hx hb dL_isSame_147 (by decide) ?_
                    refine lv_icmp_ne (tgt := 155) hx hb dL_isSame_148 (by decide) (fun c_148 => ?_) (fun c_148 => ?_)
                    · refine lv_aload hx hb dL_isSame_155 (lv_at hl 7 rfl) ?_
                      refine lv_iconst (v := 4) hx hb dL_isSame_157 (by decide) ?_
                      refine lv_iload hx hb dL_isSame_158 (lv_at hl 1 rfl) ?_
                      refine lv_imul hx hb dL_isSame_160 ?_
                      refine rg_topi (y := nI (4 * j)) (by exact lw_mul (4) (j)) ?_
                      refine rg_ialdN C0 hH (o := 415) (j := (4 * j)) (n0 := 44) (by decide) rfl rfl (by omega) dL_isSame_161 ?_
                      refine lv_icmp_ne (tgt := 251) hx hb dL_isSame_162 (by decide) (fun c_162 => ?_) (fun c_162 => ?_)
                      · exact absurd (if_neg c_148) c_162
                      · exact cut_165 _ _ _ hH (lv_sub hl [0, 1, 2, 3, 4, 5, 6, 7, 8, 9, 10, 11, 12, 13, 14] rfl)
                    · refine lv_iconst (v := (-1)) hx hb dL_isSame_151 (by decide) ?_
                      refine lv_goto (tgt := 162) hx hb dL_isSame_152 (by decide) ?_
                      refine lv_icmp_ne (tgt := 251) hx hb dL_isSame_162 (by decide) (fun c_162 => ?_) (fun c_162 => ?_)
                      · exact absurd (if_pos c_148) c_162
                      · exact cut_165 _ _ _ hH (lv_sub hl [0, 1, 2, 3, 4, 5, 6, 7, 8, 9, 10, 11, 12, 13, 14] rfl)
                  · have h6 := rg_lp_lt (n := 6) hm.1 (by omega) c_99
                    refine lv_iload hx hb dL_isSame_102 (lv_at hl 13 rfl) ?_
                    refine lv_aload_n hx hb dL_isSame_104 rfl (lv_at hl 6 rfl) ?_
                    refine lv_bipush (v := 6) hx hb dL_isSame_105 (by decide) ?_
                    refine lv_iload hx hb dL_isSame_107 (lv_at hl 1 rfl) ?_
                    refine lv_imul hx hb dL_isSame_109 ?_
                    refine rg_topi (y := nI (6 * j)) (by exact lw_mul (6) (j)) ?_
                    refine lv_iload hx hb dL_isSame_110 (lv_at hl 14 rfl) ?_
                    refine lv_iadd hx hb dL_isSame_112 ?_
                    refine rg_topi (y := nI ((6 * j) + i)) (by exact nI_add (6 * j) (i)) ?_
                    refine rg_ialdN C0 hH (o := 414) (j := ((6 * j) + i)) (n0 := 64) (by decide) rfl rfl (by omega) dL_isSame_113 ?_
                    refine rg_topi (y := nI (lw_t M_35 (6 * j + i))) (by exact (hT5 _ (by omega)).1) ?_
                    have ht16 := (hT5 (6 * j + i) (by omega)).2
                    refine lv_if_le (tgt := 121) hx hb dL_isSame_114 (by decide) (fun c_114 => ?_) (fun c_114 => ?_)
                    · refine lv_iconst (v := 0) hx hb dL_isSame_121 (by decide) ?_
                      refine lv_iadd hx hb dL_isSame_122 ?_
                      refine rg_topi (y := nI ((lw_ct (rp_nz M_35 j) i) + 0)) (by exact nI_add (lw_ct (rp_nz M_35 j) i) (0)) ?_
                      refine lv_istore (lv' := [(13, .int (nI ((lw_ct (rp_nz M_35 j) i) + 0))), (12, .int (nI pz)), (11, .int (nI j)), (10, .int (1)), (0, .ref (B + 0)), (1, .ref (B + 412)), (2, .ref (B + 413)), (3, .ref (B + 414)), (4, .ref (B + 415)), (5, .ref (B + 416)), (6, .ref (B + 417)), (7, .ref (B + 420)), (8, .ref (B + 421)), (9, .int (nI zz)), (14, .int (nI i))]) hx hb dL_isSame_123 hl (by decide) rfl (fun ls hl => ?_)
                      refine lv_iinc (v := nI (i + 1)) (lv' := [(14, .int (nI (i + 1))), (13, .int (nI ((lw_ct (rp_nz M_35 j) i) + 0))), (12, .int (nI pz)), (11, .int (nI j)), (10, .int (1)), (0, .ref (B + 0)), (1, .ref (B + 412)), (2, .ref (B + 413)), (3, .ref (B + 414)), (4, .ref (B + 415)), (5, .ref (B + 416)), (6, .ref (B + 417)), (7, .ref (B + 420)), (8, .ref (B + 421)), (9, .int (nI zz))]) hx hb dL_isSame_125 hl (k := 14) rfl (nI_1 _) (by decide) rfl (fun ls hl => ?_)
                      refine lv_goto (tgt := 95) hx hb dL_isSame_128 (by decide) ?_
                      replace hl : lv_has ls 15 [(14, .int (nI (i + 1))), (13, .int (nI (lw_ct (rp_nz M_35 j) (i + 1)))), (12, .int (nI pz)), (11, .int (nI j)), (10, .int (1)), (0, .ref (B + 0)), (1, .ref (B + 412)), (2, .ref (B + 413)), (3, .ref (B + 414)), (4, .ref (B + 415)), (5, .ref (B + 416)), (6, .ref (B + 417)), (7, .ref (B + 420)), (8, .ref (B + 421)), (9, .int (nI zz))] := by rw [lw_ct, if_neg (by rw [decide_eq_true_eq]; exact fun q => q ((lw_le0 (by omega)).mp c_114))]; exact hl
                      exact ih (i + 1) (by omega) _ _ _ hH (lv_sub hl [2, 3, 4, 5, 6, 7, 8, 9, 10, 11, 12, 13, 14, 1, 0] rfl)
                    · refine lv_iconst (v := 1) hx hb dL_isSame_117 (by decide) ?_
                      refine lv_goto (tgt := 122) hx hb dL_isSame_118 (by decide) ?_
                      refine lv_iadd hx hb dL_isSame_122 ?_
                      refine rg_topi (y := nI ((lw_ct (rp_nz M_35 j) i) + 1)) (by exact nI_add (lw_ct (rp_nz M_35 j) i) (1)) ?_
                      refine lv_istore (lv' := [(13, .int (nI ((lw_ct (rp_nz M_35 j) i) + 1))), (12, .int (nI pz)), (11, .int (nI j)), (10, .int (1)), (0, .ref (B + 0)), (1, .ref (B + 412)), (2, .ref (B + 413)), (3, .ref (B + 414)), (4, .ref (B + 415)), (5, .ref (B + 416)), (6, .ref (B + 417)), (7, .ref (B + 420)), (8, .ref (B + 421)), (9, .int (nI zz)), (14, .int (nI i))]) hx hb dL_isSame_123 hl (by decide) rfl (fun ls hl => ?_)
                      refine lv_iinc (v := nI (i + 1)) (lv' := [(14, .int (nI (i + 1))), (13, .int (nI ((lw_ct (rp_nz M_35 j) i) + 1))), (12, .int (nI pz)), (11, .int (nI j)), (10, .int (1)), (0, .ref (B + 0)), (1, .ref (B + 412)), (2, .ref (B + 413)), (3, .ref (B + 414)), (4, .ref (B + 415)), (5, .ref (B + 416)), (6, .ref (B + 417)), (7, .ref (B + 420)), (8, .ref (B + 421)), (9, .int (nI zz))]) hx hb dL_isSame_125 hl (k := 14) rfl (nI_1 _) (by decide) rfl (fun ls hl => ?_)
                      refine lv_goto (tgt := 95) hx hb dL_isSame_128 (by decide) ?_
                      replace hl : lv_has ls 15 [(14, .int (nI (i + 1))), (13, .int (nI (lw_ct (rp_nz M_35 j) (i + 1)))), (12, .int (nI pz)), (11, .int (nI j)), (10, .int (1)), (0, .ref (B + 0)), (1, .ref (B + 412)), (2, .ref (B + 413)), (3, .ref (B + 414)), (4, .ref (B + 415)), (5, .ref (B + 416)), (6, .ref (B + 417)), (7, .ref (B + 420)), (8, .ref (B + 421)), (9, .int (nI zz))] := by rw [lw_ct, if_pos (decide_eq_true (lw_no (lw_le0 (by omega)) c_114))]; exact hl
                      exact ih (i + 1) (by omega) _ _ _ hH (lv_sub hl [2, 3, 4, 5, 6, 7, 8, 9, 10, 11, 12, 13, 14, 1, 0] rfl)
              replace hl : lv_has ls 15 [(14, .int (nI 0)), (13, .int (nI (lw_ct (rp_nz M_35 j) 0))), (12, .int (nI pz)), (11, .int (nI j)), (10, .int (1)), (0, .ref (B + 0)), (1, .ref (B + 412)), (2, .ref (B + 413)), (3, .ref (B + 414)), (4, .ref (B + 415)), (5, .ref (B + 416)), (6, .ref (B + 417)), (7, .ref (B + 420)), (8, .ref (B + 421)), (9, .int (nI zz))] := by skip; exact hl
              exact cut_95 7 0 (by omega) _ _ _ hH (lv_sub hl [2, 3, 4, 5, 6, 7, 8, 9, 10, 11, 12, 13, 14, 1, 0] rfl)
