set_option maxHeartbeats 4000000 in
set_option maxRecDepth 100000 in
/-- calls, seats, points, hidden links, copies -/
theorem k_L_isTold (l : Launch) (E : rg_Env) (B : Nat) (M : rg_Mem) (wy : Nat) (zz : Nat) (hI : rp_Inv M) (hwy : wy ≤ 4) (hz : zz < 1000000000) (hst : l.stackTraces = false) : Met l yL_isTold (rg_w yL_isTold cL_isTold 14 (some (FieldType.boolean))) ({ frames := 9, cells := 3, slots := 18, locals := 153 } : Room) (va_Pc [.ref (B + 0), .ref (B + 413), .ref (B + 414), .ref (B + 415), .ref (B + 416), .ref (B + 417), .ref (B + 420), .ref (B + 421), .int (nI wy), .int (nI zz)] (rg_Pre E B 422 rg_R0 M)) (rg_Wi E B 422 rg_R0 (fun r M1 => r = 1 ∧ rp_Inv M1)) 3 18 (rg_A B) := by
  refine rg_ofW (by decide +kernel) rfl (Nat.le_of_ble_eq_true rfl) ?_
  intro p e s m args below meth c ls C0 hH hl hr hlocks hnm
  replace hl : lv_has ls 14 [(0, .ref (B + 0)), (1, .ref (B + 413)), (2, .ref (B + 414)), (3, .ref (B + 415)), (4, .ref (B + 416)), (5, .ref (B + 417)), (6, .ref (B + 420)), (7, .ref (B + 421)), (8, .int (nI wy)), (9, .int (nI zz))] := hl
  have hx := C0.1.1
  have hb := C0.1.2.1
  generalize hH9 : s.heap = H at hH ⊢
  generalize hL9 : ([] : List Loc) = locs at hH ⊢
  clear hH9 hL9
  have hlt9 := rp_nl hI
  have hno9 := (rg_CI_o (rp_ci hI)).2
  have hnc9 := (rp_n hI).2.2.1
  refine lv_iload hx hb dL_isTold_0 (lv_at hl 8 rfl) ?_
  refine lv_if_ne (tgt := 91) hx hb dL_isTold_2 (by decide) (fun c_2 => ?_) (fun c_2 => ?_)
  · refine lv_iload hx hb dL_isTold_91 (lv_at hl 8 rfl) ?_
    refine lv_iconst (v := 1) hx hb dL_isTold_93 (by decide) ?_
    refine lv_icmp_ne (tgt := 210) hx hb dL_isTold_94 (by decide) (fun c_94 => ?_) (fun c_94 => ?_)
    · refine lv_aload hx hb dL_isTold_210 (lv_at hl 5 rfl) ?_
      refine lv_iconst (v := 3) hx hb dL_isTold_212 (by decide) ?_
      refine rg_topi (y := nI 3) (by exact rfl) ?_
      refine rg_ialdN C0 hH (o := 417) (j := 3) (n0 := 9) (by decide) rfl rfl (by omega) dL_isTold_213 ?_
      refine rg_topi (y := nI (rg_nl M)) (by exact (rp_m hI).2.2.2.1.trans (rg_CI_l (rp_ci hI)).1) ?_
      refine lv_if_ne (tgt := 219) hx hb dL_isTold_214 (by decide) (fun c_214 => ?_) (fun c_214 => ?_)
      · have hnl0 : 0 < rg_nl M := by
          rcases Nat.eq_zero_or_pos (rg_nl M) with q | q
          · exact absurd (by rw [q]; rfl) c_214
          · exact q
        refine lv_iload hx hb dL_isTold_219 (lv_at hl 9 rfl) ?_
        refine lv_aload hx hb dL_isTold_221 (lv_at hl 5 rfl) ?_
        refine lv_iconst (v := 3) hx hb dL_isTold_223 (by decide) ?_
        refine rg_topi (y := nI 3) (by exact rfl) ?_
        refine rg_ialdN C0 hH (o := 417) (j := 3) (n0 := 9) (by decide) rfl rfl (by omega) dL_isTold_224 ?_
        refine rg_topi (y := nI (rg_nl M)) (by exact (rp_m hI).2.2.2.1.trans (rg_CI_l (rp_ci hI)).1) ?_
        refine lv_irem hx hb dL_isTold_225 (by exact nI_ne0 (by omega) (by omega)) ?_
        refine rg_topi (y := nI (zz % (rg_nl M))) (by exact pk_rem (a := zz) (d := rg_nl M) (by omega) (by omega) (by omega)) ?_
        refine lv_istore (lv' := [(10, .int (nI (zz % (rg_nl M)))), (0, .ref (B + 0)), (1, .ref (B + 413)), (2, .ref (B + 414)), (3, .ref (B + 415)), (4, .ref (B + 416)), (5, .ref (B + 417)), (6, .ref (B + 420)), (7, .ref (B + 421)), (8, .int (nI wy)), (9, .int (nI zz))]) hx hb dL_isTold_226 hl (by decide) rfl (fun ls hl => ?_)
        obtain ⟨j, hd_j⟩ : ∃ j, j = zz % rg_nl M := ⟨_, rfl⟩
        have hjl : j < rg_nl M := by rw [hd_j]; exact Nat.mod_lt _ hnl0
        have hj10 : j < 10 := by omega
        replace hl : lv_has ls 14 [(10, .int (nI j)), (0, .ref (B + 0)), (1, .ref (B + 413)), (2, .ref (B + 414)), (3, .ref (B + 415)), (4, .ref (B + 416)), (5, .ref (B + 417)), (6, .ref (B + 420)), (7, .ref (B + 421)), (8, .int (nI wy)), (9, .int (nI zz))] := by rw [hd_j]; exact hl
        refine lv_iload hx hb dL_isTold_228 (lv_at hl 9 rfl) ?_
        refine lv_iconst (v := 2) hx hb dL_isTold_230 (by decide) ?_
        refine lv_icmp_ne (tgt := 304) hx hb dL_isTold_231 (by decide) (fun c_231 => ?_) (fun c_231 => ?_)
        · refine lv_iload hx hb dL_isTold_304 (lv_at hl 9 rfl) ?_
          refine lv_iconst (v := 3) hx hb dL_isTold_306 (by decide) ?_
          refine lv_icmp_ne (tgt := 377) hx hb dL_isTold_307 (by decide) (fun c_307 => ?_) (fun c_307 => ?_)
          · refine lv_aload hx hb dL_isTold_377 (lv_at hl 6 rfl) ?_
            refine lv_bipush (v := 7) hx hb dL_isTold_379 (by decide) ?_
            refine rg_topi (y := nI 7) (by exact rfl) ?_
            refine rg_ialdN C0 hH (o := 417) (j := 7) (n0 := 9) (by decide) rfl rfl (by omega) dL_isTold_381 ?_
            refine rg_topi (y := nI (rg_nc M)) (by exact (rp_m hI).2.2.2.2.2.2.2.1.trans (rg_CI_c (rp_ci hI)).1) ?_
            refine lv_iconst (v := 2) hx hb dL_isTold_382 (by decide) ?_
            refine lv_icmp_ge (tgt := 508) hx hb dL_isTold_383 (by decide) (fun c_383 => ?_) (fun c_383 => ?_)
            · refine lv_iload hx hb dL_isTold_508 (lv_at hl 10 rfl) ?_
              refine lv_bipush (v := 20) hx hb dL_isTold_510 (by decide) ?_
              refine lv_idiv hx hb dL_isTold_512 (by decide) ?_
              refine rg_topi (y := nI (zz / 20)) (by exact pk_div (a := zz) (d := 20) (by omega) (by omega) (by omega)) ?_
              refine lv_iconst (v := 2) hx hb dL_isTold_513 (by decide) ?_
              refine lv_irem hx hb dL_isTold_514 (by decide) ?_
              refine rg_topi (y := nI ((zz / 20) % 2)) (by exact pk_rem (a := zz / 20) (d := 2) (by omega) (by omega) (by omega)) ?_
              refine lv_if_ne (tgt := 523) hx hb dL_isTold_515 (by decide) (fun c_515 => ?_) (fun c_515 => ?_)
              · refine lv_aload hx hb dL_isTold_523 (lv_at hl 8 rfl) ?_
                refine lv_astore (lv' := [(11, .ref (B + 421)), (10, .int (nI j)), (0, .ref (B + 0)), (1, .ref (B + 413)), (2, .ref (B + 414)), (3, .ref (B + 415)), (4, .ref (B + 416)), (5, .ref (B + 417)), (6, .ref (B + 420)), (7, .ref (B + 421)), (8, .int (nI wy)), (9, .int (nI zz))]) hx hb dL_isTold_525 hl (by decide) rfl (fun ls hl => ?_)
                refine lv_iload hx hb dL_isTold_527 (lv_at hl 11 rfl) ?_
                refine lv_bipush (v := 40) hx hb dL_isTold_529 (by decide) ?_
                refine lv_idiv hx hb dL_isTold_531 (by decide) ?_
                refine rg_topi (y := nI (zz / 40)) (by exact pk_div (a := zz) (d := 40) (by omega) (by omega) (by omega)) ?_
                refine lv_iconst (v := 2) hx hb dL_isTold_532 (by decide) ?_
                refine lv_irem hx hb dL_isTold_533 (by decide) ?_
                refine rg_topi (y := nI ((zz / 40) % 2)) (by exact pk_rem (a := zz / 40) (d := 2) (by omega) (by omega) (by omega)) ?_
                refine lv_istore (lv' := [(12, .int (nI ((zz / 40) % 2))), (11, .ref (B + 421)), (10, .int (nI j)), (0, .ref (B + 0)), (1, .ref (B + 413)), (2, .ref (B + 414)), (3, .ref (B + 415)), (4, .ref (B + 416)), (5, .ref (B + 417)), (6, .ref (B + 420)), (7, .ref (B + 421)), (8, .int (nI wy)), (9, .int (nI zz))]) hx hb dL_isTold_534 hl (by decide) rfl (fun ls hl => ?_)
                obtain ⟨pl, hd_pl⟩ : ∃ pl, pl = zz / 40 % 2 := ⟨_, rfl⟩
                have hpl2 : pl < 2 := by omega
                replace hl : lv_has ls 14 [(12, .int (nI pl)), (11, .ref (B + 421)), (10, .int (nI j)), (0, .ref (B + 0)), (1, .ref (B + 413)), (2, .ref (B + 414)), (3, .ref (B + 415)), (4, .ref (B + 416)), (5, .ref (B + 417)), (6, .ref (B + 420)), (7, .ref (B + 421)), (8, .int (nI wy)), (9, .int (nI zz))] := by rw [hd_pl]; exact hl
                refine lv_aload hx hb dL_isTold_536 (lv_at hl 8 rfl) ?_
                refine lv_bipush (v := 7) hx hb dL_isTold_538 (by decide) ?_
                refine rg_topi (y := nI 7) (by exact rfl) ?_
                refine rg_ialdN C0 hH (o := 417) (j := 7) (n0 := 9) (by decide) rfl rfl (by omega) dL_isTold_540 ?_
                refine rg_topi (y := nI (rg_nc M)) (by exact (rp_m hI).2.2.2.2.2.2.2.1.trans (rg_CI_c (rp_ci hI)).1) ?_
                refine lv_iload hx hb dL_isTold_541 (lv_at hl 12 rfl) ?_
                refine lv_bipush (v := 20) hx hb dL_isTold_543 (by decide) ?_
                refine lv_idiv hx hb dL_isTold_545 (by decide) ?_
                refine rg_topi (y := nI (zz / 20)) (by exact pk_div (a := zz) (d := 20) (by omega) (by omega) (by omega)) ?_
                refine lv_iconst (v := 2) hx hb dL_isTold_546 (by decide) ?_
                refine lv_irem hx hb dL_isTold_547 (by decide) ?_
                refine rg_topi (y := nI ((zz / 20) % 2)) (by exact pk_rem (a := zz / 20) (d := 2) (by omega) (by omega) (by omega)) ?_
                refine lv_icmp_le (tgt := 565) hx hb dL_isTold_548 (by decide) (fun c_548 => ?_) (fun c_548 => ?_)
                · refine lv_iconst (v := 1) hx hb dL_isTold_565 (by decide) ?_
                  refine W.widen (k := 3) (n := 18) (Nat.le_of_ble_eq_true rfl) (Nat.le_of_ble_eq_true rfl) ?_
                  exact rg_retWz C0 hH hr hlocks (Or.inr rfl) (by exact ⟨rfl, hI⟩) dL_isTold_566
                · have hz20 : zz / 20 % 2 = 1 := by
                    rcases Nat.eq_zero_or_pos (zz / 20 % 2) with q | q
                    · exact absurd (by rw [q]; rfl) c_515
                    · omega
                  have hcn : 1 < rg_nc M := by have := lw_no (lw_nle (a := rg_nc M) (b := zz / 20 % 2) (by omega) (by omega)) c_548; omega
                  refine lv_aload hx hb dL_isTold_551 (lv_at hl 1 rfl) ?_
                  refine lv_bipush (v := 6) hx hb dL_isTold_553 (by decide) ?_
                  refine lv_iload hx hb dL_isTold_555 (lv_at hl 2 rfl) ?_
                  refine lv_imul hx hb dL_isTold_557 ?_
                  refine rg_topi (y := nI (6 * j)) (by exact lw_mul (6) (j)) ?_
                  refine lv_iload hx hb dL_isTold_558 (lv_at hl 0 rfl) ?_
                  refine lv_iadd hx hb dL_isTold_560 ?_
                  refine rg_topi (y := nI ((6 * j) + pl)) (by exact nI_add (6 * j) (pl)) ?_
                  refine rg_ialdN C0 hH (o := 421) (j := ((6 * j) + pl)) (n0 := 60) (by decide) rfl rfl (by omega) dL_isTold_561 ?_
                  refine lv_if_ne (tgt := 567) hx hb dL_isTold_562 (by decide) (fun c_562 => ?_) (fun c_562 => ?_)
                  · refine lv_aload hx hb dL_isTold_567 (lv_at hl 1 rfl) ?_
                    refine lv_bipush (v := 6) hx hb dL_isTold_569 (by decide) ?_
                    refine lv_iload hx hb dL_isTold_571 (lv_at hl 2 rfl) ?_
                    refine lv_imul hx hb dL_isTold_573 ?_
                    refine rg_topi (y := nI (6 * j)) (by exact lw_mul (6) (j)) ?_
                    refine lv_iload hx hb dL_isTold_574 (lv_at hl 0 rfl) ?_
                    refine lv_iadd hx hb dL_isTold_576 ?_
                    refine rg_topi (y := nI ((6 * j) + pl)) (by exact nI_add (6 * j) (pl)) ?_
                    refine rg_ialdN C0 hH (o := 421) (j := ((6 * j) + pl)) (n0 := 60) (by decide) rfl rfl (by omega) dL_isTold_577 ?_
                    refine lv_iconst (v := 1) hx hb dL_isTold_578 (by decide) ?_
                    refine lv_isub hx hb dL_isTold_579 ?_
                    refine lv_istore (lv' := [(13, .int ((M.1 421 (((6 * j) + pl))) - 1)), (12, .int (nI pl)), (11, .ref (B + 421)), (10, .int (nI j)), (0, .ref (B + 0)), (1, .ref (B + 413)), (2, .ref (B + 414)), (3, .ref (B + 415)), (4, .ref (B + 416)), (5, .ref (B + 417)), (6, .ref (B + 420)), (7, .ref (B + 421)), (8, .int (nI wy)), (9, .int (nI zz))]) hx hb dL_isTold_580 hl (by decide) rfl (fun ls hl => ?_)
                    refine lv_aload hx hb dL_isTold_582 (lv_at hl 2 rfl) ?_
                    refine lv_bipush (v := 6) hx hb dL_isTold_584 (by decide) ?_
                    refine lv_iload hx hb dL_isTold_586 (lv_at hl 3 rfl) ?_
                    refine lv_imul hx hb dL_isTold_588 ?_
                    refine rg_topi (y := nI (6 * j)) (by exact lw_mul (6) (j)) ?_
                    refine lv_iload hx hb dL_isTold_589 (lv_at hl 1 rfl) ?_
                    refine lv_iadd hx hb dL_isTold_591 ?_
                    refine rg_topi (y := nI ((6 * j) + pl)) (by exact nI_add (6 * j) (pl)) ?_
                    refine lv_iconst (v := 1) hx hb dL_isTold_592 (by decide) ?_
                    refine lv_iload hx hb dL_isTold_593 (lv_at hl 13 rfl) ?_
                    refine lv_bipush (v := 80) hx hb dL_isTold_595 (by decide) ?_
                    refine lv_idiv hx hb dL_isTold_597 (by decide) ?_
                    refine rg_topi (y := nI (zz / 80)) (by exact pk_div (a := zz) (d := 80) (by omega) (by omega) (by omega)) ?_
                    refine lv_bipush (v := 16) hx hb dL_isTold_598 (by decide) ?_
                    refine lv_irem hx hb dL_isTold_600 (by decide) ?_
                    refine rg_topi (y := nI ((zz / 80) % 16)) (by exact pk_rem (a := zz / 80) (d := 16) (by omega) (by omega) (by omega)) ?_
                    obtain ⟨wd, hd_wd⟩ : ∃ wd, wd = zz / 80 % 16 := ⟨_, rfl⟩
                    have hwd : wd < 16 := by omega
                    refine rg_topi (y := nI wd) (by rw [hd_wd]) ?_
                    refine lv_iadd hx hb dL_isTold_601 ?_
                    refine rg_topi (y := nI (1 + wd)) (by exact nI_add (1) (wd)) ?_
                    refine rg_topi (y := nI (wd + 1)) (by rw [Nat.add_comm]) ?_
                    refine rg_iastN C0 hH (o := 421) (j := ((6 * j) + pl)) (n0 := 60) (by decide) rfl rfl (by omega) dL_isTold_602 (fun H locs hH => ?_)
                    generalize eX : rg_I M 421 (((6 * j) + pl)) (nI (wd + 1)) = X at hH
                    have x0 : ∀ c, c ≠ 421 → X.1 c = M.1 c := fun c h1 => by subst eX; rw [rg_I_cell h1]
                    have x2 : X.2 = M.2 := by subst eX; rfl
                    have x5 : ∀ k, X.1 421 k = if k = 6 * j + pl then nI (wd + 1) else M.1 421 k := fun k => by subst eX; rw [rg_I_at]
                    have hC : rg_CI X := rg_CI_c2 (rp_ci hI) (fun c hc => x0 c (by omega)) (fun c hc => by rw [x2])
                    have enc : rg_nc X = rg_nc M := by unfold rg_nc; rw [x0 0 (by omega)]
                    have hx9 := (rp_x hI 1 hcn j (by omega) pl (by omega)).1 hj10
                    have htw : rg_tw X (nI 1) (nI j) (nI pl) = M.1 (110 + 38 * 1 + j) pl := by
                      have e1 := rg_tw_cong (M := M) (M' := X) (t := nI 1) (x := nI j) (y := nI pl) (rp_ci hI) (fun c hc => x0 c (by omega)) (fun _ hcp r hr => x0 _ (by have := rg_in_lt (rg_cp_in (rp_ci hI) hcp); omega))
                      rw [e1]
                      exact rp_tc hI hcn (by omega) (by omega)
                    have hne9 : ¬ M.1 (110 + 38 * 1 + j) pl = -1 := fun q => c_562 (by rw [show M.1 421 (6 * j + pl) = M.1 (110 + 38 * 1 + j) pl + 1 from hx9.1, q]; rfl)
                    refine lv_aload_n hx hb dL_isTold_603 rfl (lv_at hl 4 rfl) ?_
                    refine lv_iload hx hb dL_isTold_604 (lv_at hl 13 rfl) ?_
                    refine lv_bipush (v := 20) hx hb dL_isTold_606 (by decide) ?_
                    refine lv_idiv hx hb dL_isTold_608 (by decide) ?_
                    refine rg_topi (y := nI (zz / 20)) (by exact pk_div (a := zz) (d := 20) (by omega) (by omega) (by omega)) ?_
                    refine lv_iconst (v := 2) hx hb dL_isTold_609 (by decide) ?_
                    refine lv_irem hx hb dL_isTold_610 (by decide) ?_
                    refine rg_topi (y := nI ((zz / 20) % 2)) (by exact pk_rem (a := zz / 20) (d := 2) (by omega) (by omega) (by omega)) ?_
                    refine rg_topi (y := nI 1) (by rw [show zz / 20 % 2 = 1 from by
                      rcases Nat.eq_zero_or_pos (zz / 20 % 2) with q | q
                      · exact absurd (by rw [q]; rfl) c_515
                      · omega]) ?_
                    refine lv_iload hx hb dL_isTold_611 (lv_at hl 3 rfl) ?_
                    refine lv_iload hx hb dL_isTold_613 (lv_at hl 1 rfl) ?_
                    refine lv_iload hx hb dL_isTold_615 (lv_at hl 13 rfl) ?_
                    refine lv_bipush (v := 80) hx hb dL_isTold_617 (by decide) ?_
                    refine lv_idiv hx hb dL_isTold_619 (by decide) ?_
                    refine rg_topi (y := nI (zz / 80)) (by exact pk_div (a := zz) (d := 80) (by omega) (by omega) (by omega)) ?_
                    refine lv_bipush (v := 16) hx hb dL_isTold_620 (by decide) ?_
                    refine lv_irem hx hb dL_isTold_622 (by decide) ?_
                    refine rg_topi (y := nI ((zz / 80) % 16)) (by exact pk_rem (a := zz / 80) (d := 16) (by omega) (by omega) (by omega)) ?_
                    refine rg_topi (y := nI wd) (by rw [hd_wd]) ?_
                    refine rg_callWi C0 hH (As := [.int (nI 1), .int (nI j), .int (nI pl), .int (nI wd)]) (rest := []) (o := 0) (ci := 6) (a_write l E B X 1 j pl wd hC (by omega) (by omega) (by omega) (by unfold rg_has; rw [x0 1 (by omega)]; exact rp_has2 hI hwd) (by rw [htw]; exact hne9) hst) (rg_cw 4 C0.1.2.2.2.2 tw_m_L_139 tw_i_X6_write tw_v_X6_write tw_n_X6 tw_c_X6_write rfl rfl hd_X6_write ⟨Nat.le_of_ble_eq_true rfl, Nat.le_of_ble_eq_true rfl⟩) rfl (by decide) rfl (by decide) rfl hl.1 rfl (Nat.le_of_ble_eq_true rfl) dL_isTold_623 ⟨Nat.le_of_ble_eq_true rfl, Nat.le_of_ble_eq_true rfl⟩ (fun r_623 M_623 H locs e_623 hH => ?_)
                    have hF9 : rp_Inv M_623 := rp_write (c := 1) (j := j) (pl := pl) (wd := wd) hI hcn hj10 (by omega) hwd (fun z h1 h2 => by rw [e_623.2, rg_I_cell h2, x0 z h1]) (by rw [e_623.2]; exact x2) (fun k => by rw [e_623.2, rg_I_cell (by omega)]; exact x5 k) (fun k => by rw [e_623.2, rg_I_at, x0 _ (by omega)])
                    refine lv_iload hx hb dL_isTold_626 (lv_at hl 0 rfl) ?_
                    refine lv_icmp_ne (tgt := 635) hx hb dL_isTold_628 (by decide) (fun c_628 => ?_) (fun c_628 => ?_)
                    · exact absurd (by rw [e_623.1, htw, show M.1 421 (6 * j + pl) = _ from hx9.1, lw_s2]) c_628
                    · refine lv_iconst (v := 1) hx hb dL_isTold_631 (by decide) ?_
                      refine lv_goto (tgt := 636) hx hb dL_isTold_632 (by decide) ?_
                      exact rg_retWz C0 hH hr hlocks (Or.inr rfl) (by exact ⟨rfl, hF9⟩) dL_isTold_636
                  · refine lv_iconst (v := 1) hx hb dL_isTold_565 (by decide) ?_
                    refine W.widen (k := 3) (n := 18) (Nat.le_of_ble_eq_true rfl) (Nat.le_of_ble_eq_true rfl) ?_
                    exact rg_retWz C0 hH hr hlocks (Or.inr rfl) (by exact ⟨rfl, hI⟩) dL_isTold_566
              · refine lv_aload hx hb dL_isTold_518 (lv_at hl 7 rfl) ?_
                refine lv_goto (tgt := 525) hx hb dL_isTold_520 (by decide) ?_
                refine lv_astore (lv' := [(11, .ref (B + 420)), (10, .int (nI j)), (0, .ref (B + 0)), (1, .ref (B + 413)), (2, .ref (B + 414)), (3, .ref (B + 415)), (4, .ref (B + 416)), (5, .ref (B + 417)), (6, .ref (B + 420)), (7, .ref (B + 421)), (8, .int (nI wy)), (9, .int (nI zz))]) hx hb dL_isTold_525 hl (by decide) rfl (fun ls hl => ?_)
                refine lv_iload hx hb dL_isTold_527 (lv_at hl 11 rfl) ?_
                refine lv_bipush (v := 40) hx hb dL_isTold_529 (by decide) ?_
                refine lv_idiv hx hb dL_isTold_531 (by decide) ?_
                refine rg_topi (y := nI (zz / 40)) (by exact pk_div (a := zz) (d := 40) (by omega) (by omega) (by omega)) ?_
                refine lv_iconst (v := 2) hx hb dL_isTold_532 (by decide) ?_
                refine lv_irem hx hb dL_isTold_533 (by decide) ?_
                refine rg_topi (y := nI ((zz / 40) % 2)) (by exact pk_rem (a := zz / 40) (d := 2) (by omega) (by omega) (by omega)) ?_
                refine lv_istore (lv' := [(12, .int (nI ((zz / 40) % 2))), (11, .ref (B + 420)), (10, .int (nI j)), (0, .ref (B + 0)), (1, .ref (B + 413)), (2, .ref (B + 414)), (3, .ref (B + 415)), (4, .ref (B + 416)), (5, .ref (B + 417)), (6, .ref (B + 420)), (7, .ref (B + 421)), (8, .int (nI wy)), (9, .int (nI zz))]) hx hb dL_isTold_534 hl (by decide) rfl (fun ls hl => ?_)
                obtain ⟨pl, hd_pl⟩ : ∃ pl, pl = zz / 40 % 2 := ⟨_, rfl⟩
                have hpl2 : pl < 2 := by omega
                replace hl : lv_has ls 14 [(12, .int (nI pl)), (11, .ref (B + 420)), (10, .int (nI j)), (0, .ref (B + 0)), (1, .ref (B + 413)), (2, .ref (B + 414)), (3, .ref (B + 415)), (4, .ref (B + 416)), (5, .ref (B + 417)), (6, .ref (B + 420)), (7, .ref (B + 421)), (8, .int (nI wy)), (9, .int (nI zz))] := by rw [hd_pl]; exact hl
                refine lv_aload hx hb dL_isTold_536 (lv_at hl 8 rfl) ?_
                refine lv_bipush (v := 7) hx hb dL_isTold_538 (by decide) ?_
                refine rg_topi (y := nI 7) (by exact rfl) ?_
                refine rg_ialdN C0 hH (o := 417) (j := 7) (n0 := 9) (by decide) rfl rfl (by omega) dL_isTold_540 ?_
                refine rg_topi (y := nI (rg_nc M)) (by exact (rp_m hI).2.2.2.2.2.2.2.1.trans (rg_CI_c (rp_ci hI)).1) ?_
                refine lv_iload hx hb dL_isTold_541 (lv_at hl 12 rfl) ?_
                refine lv_bipush (v := 20) hx hb dL_isTold_543 (by decide) ?_
                refine lv_idiv hx hb dL_isTold_545 (by decide) ?_
                refine rg_topi (y := nI (zz / 20)) (by exact pk_div (a := zz) (d := 20) (by omega) (by omega) (by omega)) ?_
                refine lv_iconst (v := 2) hx hb dL_isTold_546 (by decide) ?_
                refine lv_irem hx hb dL_isTold_547 (by decide) ?_
                refine rg_topi (y := nI ((zz / 20) % 2)) (by exact pk_rem (a := zz / 20) (d := 2) (by omega) (by omega) (by omega)) ?_
                refine lv_icmp_le (tgt := 565) hx hb dL_isTold_548 (by decide) (fun c_548 => ?_) (fun c_548 => ?_)
                · refine lv_iconst (v := 1) hx hb dL_isTold_565 (by decide) ?_
                  refine W.widen (k := 3) (n := 18) (Nat.le_of_ble_eq_true rfl) (Nat.le_of_ble_eq_true rfl) ?_
                  exact rg_retWz C0 hH hr hlocks (Or.inr rfl) (by exact ⟨rfl, hI⟩) dL_isTold_566
                · have hz20 : zz / 20 % 2 = 0 := by
                    exact rg_nI0 (by omega) c_515
                  have hcn : 0 < rg_nc M := by have := lw_no (lw_nle (a := rg_nc M) (b := zz / 20 % 2) (by omega) (by omega)) c_548; omega
                  refine lv_aload hx hb dL_isTold_551 (lv_at hl 1 rfl) ?_
                  refine lv_bipush (v := 6) hx hb dL_isTold_553 (by decide) ?_
                  refine lv_iload hx hb dL_isTold_555 (lv_at hl 2 rfl) ?_
                  refine lv_imul hx hb dL_isTold_557 ?_
                  refine rg_topi (y := nI (6 * j)) (by exact lw_mul (6) (j)) ?_
                  refine lv_iload hx hb dL_isTold_558 (lv_at hl 0 rfl) ?_
                  refine lv_iadd hx hb dL_isTold_560 ?_
                  refine rg_topi (y := nI ((6 * j) + pl)) (by exact nI_add (6 * j) (pl)) ?_
                  refine rg_ialdN C0 hH (o := 420) (j := ((6 * j) + pl)) (n0 := 60) (by decide) rfl rfl (by omega) dL_isTold_561 ?_
                  refine lv_if_ne (tgt := 567) hx hb dL_isTold_562 (by decide) (fun c_562 => ?_) (fun c_562 => ?_)
                  · refine lv_aload hx hb dL_isTold_567 (lv_at hl 1 rfl) ?_
                    refine lv_bipush (v := 6) hx hb dL_isTold_569 (by decide) ?_
                    refine lv_iload hx hb dL_isTold_571 (lv_at hl 2 rfl) ?_
                    refine lv_imul hx hb dL_isTold_573 ?_
                    refine rg_topi (y := nI (6 * j)) (by exact lw_mul (6) (j)) ?_
                    refine lv_iload hx hb dL_isTold_574 (lv_at hl 0 rfl) ?_
                    refine lv_iadd hx hb dL_isTold_576 ?_
                    refine rg_topi (y := nI ((6 * j) + pl)) (by exact nI_add (6 * j) (pl)) ?_
                    refine rg_ialdN C0 hH (o := 420) (j := ((6 * j) + pl)) (n0 := 60) (by decide) rfl rfl (by omega) dL_isTold_577 ?_
                    refine lv_iconst (v := 1) hx hb dL_isTold_578 (by decide) ?_
                    refine lv_isub hx hb dL_isTold_579 ?_
                    refine lv_istore (lv' := [(13, .int ((M.1 420 (((6 * j) + pl))) - 1)), (12, .int (nI pl)), (11, .ref (B + 420)), (10, .int (nI j)), (0, .ref (B + 0)), (1, .ref (B + 413)), (2, .ref (B + 414)), (3, .ref (B + 415)), (4, .ref (B + 416)), (5, .ref (B + 417)), (6, .ref (B + 420)), (7, .ref (B + 421)), (8, .int (nI wy)), (9, .int (nI zz))]) hx hb dL_isTold_580 hl (by decide) rfl (fun ls hl => ?_)
                    refine lv_aload hx hb dL_isTold_582 (lv_at hl 2 rfl) ?_
                    refine lv_bipush (v := 6) hx hb dL_isTold_584 (by decide) ?_
                    refine lv_iload hx hb dL_isTold_586 (lv_at hl 3 rfl) ?_
                    refine lv_imul hx hb dL_isTold_588 ?_
                    refine rg_topi (y := nI (6 * j)) (by exact lw_mul (6) (j)) ?_
                    refine lv_iload hx hb dL_isTold_589 (lv_at hl 1 rfl) ?_
                    refine lv_iadd hx hb dL_isTold_591 ?_
                    refine rg_topi (y := nI ((6 * j) + pl)) (by exact nI_add (6 * j) (pl)) ?_
                    refine lv_iconst (v := 1) hx hb dL_isTold_592 (by decide) ?_
                    refine lv_iload hx hb dL_isTold_593 (lv_at hl 13 rfl) ?_
                    refine lv_bipush (v := 80) hx hb dL_isTold_595 (by decide) ?_
                    refine lv_idiv hx hb dL_isTold_597 (by decide) ?_
                    refine rg_topi (y := nI (zz / 80)) (by exact pk_div (a := zz) (d := 80) (by omega) (by omega) (by omega)) ?_
                    refine lv_bipush (v := 16) hx hb dL_isTold_598 (by decide) ?_
                    refine lv_irem hx hb dL_isTold_600 (by decide) ?_
                    refine rg_topi (y := nI ((zz / 80) % 16)) (by exact pk_rem (a := zz / 80) (d := 16) (by omega) (by omega) (by omega)) ?_
                    obtain ⟨wd, hd_wd⟩ : ∃ wd, wd = zz / 80 % 16 := ⟨_, rfl⟩
                    have hwd : wd < 16 := by omega
                    refine rg_topi (y := nI wd) (by rw [hd_wd]) ?_
                    refine lv_iadd hx hb dL_isTold_601 ?_
                    refine rg_topi (y := nI (1 + wd)) (by exact nI_add (1) (wd)) ?_
                    refine rg_topi (y := nI (wd + 1)) (by rw [Nat.add_comm]) ?_
                    refine rg_iastN C0 hH (o := 420) (j := ((6 * j) + pl)) (n0 := 60) (by decide) rfl rfl (by omega) dL_isTold_602 (fun H locs hH => ?_)
                    generalize eX : rg_I M 420 (((6 * j) + pl)) (nI (wd + 1)) = X at hH
                    have x0 : ∀ c, c ≠ 420 → X.1 c = M.1 c := fun c h1 => by subst eX; rw [rg_I_cell h1]
                    have x2 : X.2 = M.2 := by subst eX; rfl
                    have x5 : ∀ k, X.1 420 k = if k = 6 * j + pl then nI (wd + 1) else M.1 420 k := fun k => by subst eX; rw [rg_I_at]
                    have hC : rg_CI X := rg_CI_c2 (rp_ci hI) (fun c hc => x0 c (by omega)) (fun c hc => by rw [x2])
                    have enc : rg_nc X = rg_nc M := by unfold rg_nc; rw [x0 0 (by omega)]
                    have hx9 := (rp_x hI 0 hcn j (by omega) pl (by omega)).1 hj10
                    have htw : rg_tw X (nI 0) (nI j) (nI pl) = M.1 (110 + 38 * 0 + j) pl := by
                      have e1 := rg_tw_cong (M := M) (M' := X) (t := nI 0) (x := nI j) (y := nI pl) (rp_ci hI) (fun c hc => x0 c (by omega)) (fun _ hcp r hr => x0 _ (by have := rg_in_lt (rg_cp_in (rp_ci hI) hcp); omega))
                      rw [e1]
                      exact rp_tc hI hcn (by omega) (by omega)
                    have hne9 : ¬ M.1 (110 + 38 * 0 + j) pl = -1 := fun q => c_562 (by rw [show M.1 420 (6 * j + pl) = M.1 (110 + 38 * 0 + j) pl + 1 from hx9.1, q]; rfl)
                    refine lv_aload_n hx hb dL_isTold_603 rfl (lv_at hl 4 rfl) ?_
                    refine lv_iload hx hb dL_isTold_604 (lv_at hl 13 rfl) ?_
                    refine lv_bipush (v := 20) hx hb dL_isTold_606 (by decide) ?_
                    refine lv_idiv hx hb dL_isTold_608 (by decide) ?_
                    refine rg_topi (y := nI (zz / 20)) (by exact pk_div (a := zz) (d := 20) (by omega) (by omega) (by omega)) ?_
                    refine lv_iconst (v := 2) hx hb dL_isTold_609 (by decide) ?_
                    refine lv_irem hx hb dL_isTold_610 (by decide) ?_
                    refine rg_topi (y := nI ((zz / 20) % 2)) (by exact pk_rem (a := zz / 20) (d := 2) (by omega) (by omega) (by omega)) ?_
                    refine rg_topi (y := nI 0) (by rw [rg_nI0 (j := zz / 20 % 2) (by omega) c_515]) ?_
                    refine lv_iload hx hb dL_isTold_611 (lv_at hl 3 rfl) ?_
                    refine lv_iload hx hb dL_isTold_613 (lv_at hl 1 rfl) ?_
                    refine lv_iload hx hb dL_isTold_615 (lv_at hl 13 rfl) ?_
                    refine lv_bipush (v := 80) hx hb dL_isTold_617 (by decide) ?_
                    refine lv_idiv hx hb dL_isTold_619 (by decide) ?_
                    refine rg_topi (y := nI (zz / 80)) (by exact pk_div (a := zz) (d := 80) (by omega) (by omega) (by omega)) ?_
                    refine lv_bipush (v := 16) hx hb dL_isTold_620 (by decide) ?_
                    refine lv_irem hx hb dL_isTold_622 (by decide) ?_
                    refine rg_topi (y := nI ((zz / 80) % 16)) (by exact pk_rem (a := zz / 80) (d := 16) (by omega) (by omega) (by omega)) ?_
                    refine rg_topi (y := nI wd) (by rw [hd_wd]) ?_
                    refine rg_callWi C0 hH (As := [.int (nI 0), .int (nI j), .int (nI pl), .int (nI wd)]) (rest := []) (o := 0) (ci := 6) (a_write l E B X 0 j pl wd hC (by omega) (by omega) (by omega) (by unfold rg_has; rw [x0 1 (by omega)]; exact rp_has2 hI hwd) (by rw [htw]; exact hne9) hst) (rg_cw 4 C0.1.2.2.2.2 tw_m_L_139 tw_i_X6_write tw_v_X6_write tw_n_X6 tw_c_X6_write rfl rfl hd_X6_write ⟨Nat.le_of_ble_eq_true rfl, Nat.le_of_ble_eq_true rfl⟩) rfl (by decide) rfl (by decide) rfl hl.1 rfl (Nat.le_of_ble_eq_true rfl) dL_isTold_623 ⟨Nat.le_of_ble_eq_true rfl, Nat.le_of_ble_eq_true rfl⟩ (fun r_623 M_623 H locs e_623 hH => ?_)
                    have hF9 : rp_Inv M_623 := rp_write (c := 0) (j := j) (pl := pl) (wd := wd) hI hcn hj10 (by omega) hwd (fun z h1 h2 => by rw [e_623.2, rg_I_cell h2, x0 z h1]) (by rw [e_623.2]; exact x2) (fun k => by rw [e_623.2, rg_I_cell (by omega)]; exact x5 k) (fun k => by rw [e_623.2, rg_I_at, x0 _ (by omega)])
                    refine lv_iload hx hb dL_isTold_626 (lv_at hl 0 rfl) ?_
                    refine lv_icmp_ne (tgt := 635) hx hb dL_isTold_628 (by decide) (fun c_628 => ?_) (fun c_628 => ?_)
                    · exact absurd (by rw [e_623.1, htw, show M.1 420 (6 * j + pl) = _ from hx9.1, lw_s2]) c_628
                    · refine lv_iconst (v := 1) hx hb dL_isTold_631 (by decide) ?_
                      refine lv_goto (tgt := 636) hx hb dL_isTold_632 (by decide) ?_
                      exact rg_retWz C0 hH hr hlocks (Or.inr rfl) (by exact ⟨rfl, hF9⟩) dL_isTold_636
                  · refine lv_iconst (v := 1) hx hb dL_isTold_565 (by decide) ?_
                    refine W.widen (k := 3) (n := 18) (Nat.le_of_ble_eq_true rfl) (Nat.le_of_ble_eq_true rfl) ?_
                    exact rg_retWz C0 hH hr hlocks (Or.inr rfl) (by exact ⟨rfl, hI⟩) dL_isTold_566
            · refine lv_iload hx hb dL_isTold_386 (lv_at hl 10 rfl) ?_
              refine lv_bipush (v := 10) hx hb dL_isTold_388 (by decide) ?_
              refine lv_idiv hx hb dL_isTold_390 (by decide) ?_
              refine rg_topi (y := nI (zz / 10)) (by exact pk_div (a := zz) (d := 10) (by omega) (by omega) (by omega)) ?_
              refine lv_iconst (v := 2) hx hb dL_isTold_391 (by decide) ?_
              refine lv_irem hx hb dL_isTold_392 (by decide) ?_
              refine rg_topi (y := nI ((zz / 10) % 2)) (by exact pk_rem (a := zz / 10) (d := 2) (by omega) (by omega) (by omega)) ?_
              refine lv_if_ne (tgt := 508) hx hb dL_isTold_393 (by decide) (fun c_393 => ?_) (fun c_393 => ?_)
              · refine lv_iload hx hb dL_isTold_508 (lv_at hl 10 rfl) ?_
                refine lv_bipush (v := 20) hx hb dL_isTold_510 (by decide) ?_
                refine lv_idiv hx hb dL_isTold_512 (by decide) ?_
                refine rg_topi (y := nI (zz / 20)) (by exact pk_div (a := zz) (d := 20) (by omega) (by omega) (by omega)) ?_
                refine lv_iconst (v := 2) hx hb dL_isTold_513 (by decide) ?_
                refine lv_irem hx hb dL_isTold_514 (by decide) ?_
                refine rg_topi (y := nI ((zz / 20) % 2)) (by exact pk_rem (a := zz / 20) (d := 2) (by omega) (by omega) (by omega)) ?_
                refine lv_if_ne (tgt := 523) hx hb dL_isTold_515 (by decide) (fun c_515 => ?_) (fun c_515 => ?_)
                · refine lv_aload hx hb dL_isTold_523 (lv_at hl 8 rfl) ?_
                  refine lv_astore (lv' := [(11, .ref (B + 421)), (10, .int (nI j)), (0, .ref (B + 0)), (1, .ref (B + 413)), (2, .ref (B + 414)), (3, .ref (B + 415)), (4, .ref (B + 416)), (5, .ref (B + 417)), (6, .ref (B + 420)), (7, .ref (B + 421)), (8, .int (nI wy)), (9, .int (nI zz))]) hx hb dL_isTold_525 hl (by decide) rfl (fun ls hl => ?_)
                  refine lv_iload hx hb dL_isTold_527 (lv_at hl 11 rfl) ?_
                  refine lv_bipush (v := 40) hx hb dL_isTold_529 (by decide) ?_
                  refine lv_idiv hx hb dL_isTold_531 (by decide) ?_
                  refine rg_topi (y := nI (zz / 40)) (by exact pk_div (a := zz) (d := 40) (by omega) (by omega) (by omega)) ?_
                  refine lv_iconst (v := 2) hx hb dL_isTold_532 (by decide) ?_
                  refine lv_irem hx hb dL_isTold_533 (by decide) ?_
                  refine rg_topi (y := nI ((zz / 40) % 2)) (by exact pk_rem (a := zz / 40) (d := 2) (by omega) (by omega) (by omega)) ?_
                  refine lv_istore (lv' := [(12, .int (nI ((zz / 40) % 2))), (11, .ref (B + 421)), (10, .int (nI j)), (0, .ref (B + 0)), (1, .ref (B + 413)), (2, .ref (B + 414)), (3, .ref (B + 415)), (4, .ref (B + 416)), (5, .ref (B + 417)), (6, .ref (B + 420)), (7, .ref (B + 421)), (8, .int (nI wy)), (9, .int (nI zz))]) hx hb dL_isTold_534 hl (by decide) rfl (fun ls hl => ?_)
                  obtain ⟨pl, hd_pl⟩ : ∃ pl, pl = zz / 40 % 2 := ⟨_, rfl⟩
                  have hpl2 : pl < 2 := by omega
                  replace hl : lv_has ls 14 [(12, .int (nI pl)), (11, .ref (B + 421)), (10, .int (nI j)), (0, .ref (B + 0)), (1, .ref (B + 413)), (2, .ref (B + 414)), (3, .ref (B + 415)), (4, .ref (B + 416)), (5, .ref (B + 417)), (6, .ref (B + 420)), (7, .ref (B + 421)), (8, .int (nI wy)), (9, .int (nI zz))] := by rw [hd_pl]; exact hl
                  refine lv_aload hx hb dL_isTold_536 (lv_at hl 8 rfl) ?_
                  refine lv_bipush (v := 7) hx hb dL_isTold_538 (by decide) ?_
                  refine rg_topi (y := nI 7) (by exact rfl) ?_
                  refine rg_ialdN C0 hH (o := 417) (j := 7) (n0 := 9) (by decide) rfl rfl (by omega) dL_isTold_540 ?_
                  refine rg_topi (y := nI (rg_nc M)) (by exact (rp_m hI).2.2.2.2.2.2.2.1.trans (rg_CI_c (rp_ci hI)).1) ?_
                  refine lv_iload hx hb dL_isTold_541 (lv_at hl 12 rfl) ?_
                  refine lv_bipush (v := 20) hx hb dL_isTold_543 (by decide) ?_
                  refine lv_idiv hx hb dL_isTold_545 (by decide) ?_
                  refine rg_topi (y := nI (zz / 20)) (by exact pk_div (a := zz) (d := 20) (by omega) (by omega) (by omega)) ?_
                  refine lv_iconst (v := 2) hx hb dL_isTold_546 (by decide) ?_
                  refine lv_irem hx hb dL_isTold_547 (by decide) ?_
                  refine rg_topi (y := nI ((zz / 20) % 2)) (by exact pk_rem (a := zz / 20) (d := 2) (by omega) (by omega) (by omega)) ?_
                  refine lv_icmp_le (tgt := 565) hx hb dL_isTold_548 (by decide) (fun c_548 => ?_) (fun c_548 => ?_)
                  · refine lv_iconst (v := 1) hx hb dL_isTold_565 (by decide) ?_
                    refine W.widen (k := 3) (n := 18) (Nat.le_of_ble_eq_true rfl) (Nat.le_of_ble_eq_true rfl) ?_
                    exact rg_retWz C0 hH hr hlocks (Or.inr rfl) (by exact ⟨rfl, hI⟩) dL_isTold_566
                  · have hz20 : zz / 20 % 2 = 1 := by
                      rcases Nat.eq_zero_or_pos (zz / 20 % 2) with q | q
                      · exact absurd (by rw [q]; rfl) c_515
                      · omega
                    have hcn : 1 < rg_nc M := by have := lw_no (lw_nle (a := rg_nc M) (b := zz / 20 % 2) (by omega) (by omega)) c_548; omega
                    refine lv_aload hx hb dL_isTold_551 (lv_at hl 1 rfl) ?_
                    refine lv_bipush (v := 6) hx hb dL_isTold_553 (by decide) ?_
                    refine lv_iload hx hb dL_isTold_555 (lv_at hl 2 rfl) ?_
                    refine lv_imul hx hb dL_isTold_557 ?_
                    refine rg_topi (y := nI (6 * j)) (by exact lw_mul (6) (j)) ?_
                    refine lv_iload hx hb dL_isTold_558 (lv_at hl 0 rfl) ?_
                    refine lv_iadd hx hb dL_isTold_560 ?_
                    refine rg_topi (y := nI ((6 * j) + pl)) (by exact nI_add (6 * j) (pl)) ?_
                    refine rg_ialdN C0 hH (o := 421) (j := ((6 * j) + pl)) (n0 := 60) (by decide) rfl rfl (by omega) dL_isTold_561 ?_
                    refine lv_if_ne (tgt := 567) hx hb dL_isTold_562 (by decide) (fun c_562 => ?_) (fun c_562 => ?_)
                    · refine lv_aload hx hb dL_isTold_567 (lv_at hl 1 rfl) ?_
                      refine lv_bipush (v := 6) hx hb dL_isTold_569 (by decide) ?_
                      refine lv_iload hx hb dL_isTold_571 (lv_at hl 2 rfl) ?_
                      refine lv_imul hx hb dL_isTold_573 ?_
                      refine rg_topi (y := nI (6 * j)) (by exact lw_mul (6) (j)) ?_
                      refine lv_iload hx hb dL_isTold_574 (lv_at hl 0 rfl) ?_
                      refine lv_iadd hx hb dL_isTold_576 ?_
                      refine rg_topi (y := nI ((6 * j) + pl)) (by exact nI_add (6 * j) (pl)) ?_
                      refine rg_ialdN C0 hH (o := 421) (j := ((6 * j) + pl)) (n0 := 60) (by decide) rfl rfl (by omega) dL_isTold_577 ?_
                      refine lv_iconst (v := 1) hx hb dL_isTold_578 (by decide) ?_
                      refine lv_isub hx hb dL_isTold_579 ?_
                      refine lv_istore (lv' := [(13, .int ((M.1 421 (((6 * j) + pl))) - 1)), (12, .int (nI pl)), (11, .ref (B + 421)), (10, .int (nI j)), (0, .ref (B + 0)), (1, .ref (B + 413)), (2, .ref (B + 414)), (3, .ref (B + 415)), (4, .ref (B + 416)), (5, .ref (B + 417)), (6, .ref (B + 420)), (7, .ref (B + 421)), (8, .int (nI wy)), (9, .int (nI zz))]) hx hb dL_isTold_580 hl (by decide) rfl (fun ls hl => ?_)
                      refine lv_aload hx hb dL_isTold_582 (lv_at hl 2 rfl) ?_
                      refine lv_bipush (v := 6) hx hb dL_isTold_584 (by decide) ?_
                      refine lv_iload hx hb dL_isTold_586 (lv_at hl 3 rfl) ?_
                      refine lv_imul hx hb dL_isTold_588 ?_
                      refine rg_topi (y := nI (6 * j)) (by exact lw_mul (6) (j)) ?_
                      refine lv_iload hx hb dL_isTold_589 (lv_at hl 1 rfl) ?_
                      refine lv_iadd hx hb dL_isTold_591 ?_
                      refine rg_topi (y := nI ((6 * j) + pl)) (by exact nI_add (6 * j) (pl)) ?_
                      refine lv_iconst (v := 1) hx hb dL_isTold_592 (by decide) ?_
                      refine lv_iload hx hb dL_isTold_593 (lv_at hl 13 rfl) ?_
                      refine lv_bipush (v := 80) hx hb dL_isTold_595 (by decide) ?_
                      refine lv_idiv hx hb dL_isTold_597 (by decide) ?_
                      refine rg_topi (y := nI (zz / 80)) (by exact pk_div (a := zz) (d := 80) (by omega) (by omega) (by omega)) ?_
                      refine lv_bipush (v := 16) hx hb dL_isTold_598 (by decide) ?_
                      refine lv_irem hx hb dL_isTold_600 (by decide) ?_
                      refine rg_topi (y := nI ((zz / 80) % 16)) (by exact pk_rem (a := zz / 80) (d := 16) (by omega) (by omega) (by omega)) ?_
                      obtain ⟨wd, hd_wd⟩ : ∃ wd, wd = zz / 80 % 16 := ⟨_, rfl⟩
                      have hwd : wd < 16 := by omega
                      refine rg_topi (y := nI wd) (by rw [hd_wd]) ?_
                      refine lv_iadd hx hb dL_isTold_601 ?_
                      refine rg_topi (y := nI (1 + wd)) (by exact nI_add (1) (wd)) ?_
                      refine rg_topi (y := nI (wd + 1)) (by rw [Nat.add_comm]) ?_
                      refine rg_iastN C0 hH (o := 421) (j := ((6 * j) + pl)) (n0 := 60) (by decide) rfl rfl (by omega) dL_isTold_602 (fun H locs hH => ?_)
                      generalize eX : rg_I M 421 (((6 * j) + pl)) (nI (wd + 1)) = X at hH
                      have x0 : ∀ c, c ≠ 421 → X.1 c = M.1 c := fun c h1 => by subst eX; rw [rg_I_cell h1]
                      have x2 : X.2 = M.2 := by subst eX; rfl
                      have x5 : ∀ k, X.1 421 k = if k = 6 * j + pl then nI (wd + 1) else M.1 421 k := fun k => by subst eX; rw [rg_I_at]
                      have hC : rg_CI X := rg_CI_c2 (rp_ci hI) (fun c hc => x0 c (by omega)) (fun c hc => by rw [x2])
                      have enc : rg_nc X = rg_nc M := by unfold rg_nc; rw [x0 0 (by omega)]
                      have hx9 := (rp_x hI 1 hcn j (by omega) pl (by omega)).1 hj10
                      have htw : rg_tw X (nI 1) (nI j) (nI pl) = M.1 (110 + 38 * 1 + j) pl := by
                        have e1 := rg_tw_cong (M := M) (M' := X) (t := nI 1) (x := nI j) (y := nI pl) (rp_ci hI) (fun c hc => x0 c (by omega)) (fun _ hcp r hr => x0 _ (by have := rg_in_lt (rg_cp_in (rp_ci hI) hcp); omega))
                        rw [e1]
                        exact rp_tc hI hcn (by omega) (by omega)
                      have hne9 : ¬ M.1 (110 + 38 * 1 + j) pl = -1 := fun q => c_562 (by rw [show M.1 421 (6 * j + pl) = M.1 (110 + 38 * 1 + j) pl + 1 from hx9.1, q]; rfl)
                      refine lv_aload_n hx hb dL_isTold_603 rfl (lv_at hl 4 rfl) ?_
                      refine lv_iload hx hb dL_isTold_604 (lv_at hl 13 rfl) ?_
                      refine lv_bipush (v := 20) hx hb dL_isTold_606 (by decide) ?_
                      refine lv_idiv hx hb dL_isTold_608 (by decide) ?_
                      refine rg_topi (y := nI (zz / 20)) (by exact pk_div (a := zz) (d := 20) (by omega) (by omega) (by omega)) ?_
                      refine lv_iconst (v := 2) hx hb dL_isTold_609 (by decide) ?_
                      refine lv_irem hx hb dL_isTold_610 (by decide) ?_
                      refine rg_topi (y := nI ((zz / 20) % 2)) (by exact pk_rem (a := zz / 20) (d := 2) (by omega) (by omega) (by omega)) ?_
                      refine rg_topi (y := nI 1) (by rw [show zz / 20 % 2 = 1 from by
                        rcases Nat.eq_zero_or_pos (zz / 20 % 2) with q | q
                        · exact absurd (by rw [q]; rfl) c_515
                        · omega]) ?_
                      refine lv_iload hx hb dL_isTold_611 (lv_at hl 3 rfl) ?_
                      refine lv_iload hx hb dL_isTold_613 (lv_at hl 1 rfl) ?_
                      refine lv_iload hx hb dL_isTold_615 (lv_at hl 13 rfl) ?_
                      refine lv_bipush (v := 80) hx hb dL_isTold_617 (by decide) ?_
                      refine lv_idiv hx hb dL_isTold_619 (by decide) ?_
                      refine rg_topi (y := nI (zz / 80)) (by exact pk_div (a := zz) (d := 80) (by omega) (by omega) (by omega)) ?_
                      refine lv_bipush (v := 16) hx hb dL_isTold_620 (by decide) ?_
                      refine lv_irem hx hb dL_isTold_622 (by decide) ?_
                      refine rg_topi (y := nI ((zz / 80) % 16)) (by exact pk_rem (a := zz / 80) (d := 16) (by omega) (by omega) (by omega)) ?_
                      refine rg_topi (y := nI wd) (by rw [hd_wd]) ?_
                      refine rg_callWi C0 hH (As := [.int (nI 1), .int (nI j), .int (nI pl), .int (nI wd)]) (rest := []) (o := 0) (ci := 6) (a_write l E B X 1 j pl wd hC (by omega) (by omega) (by omega) (by unfold rg_has; rw [x0 1 (by omega)]; exact rp_has2 hI hwd) (by rw [htw]; exact hne9) hst) (rg_cw 4 C0.1.2.2.2.2 tw_m_L_139 tw_i_X6_write tw_v_X6_write tw_n_X6 tw_c_X6_write rfl rfl hd_X6_write ⟨Nat.le_of_ble_eq_true rfl, Nat.le_of_ble_eq_true rfl⟩) rfl (by decide) rfl (by decide) rfl hl.1 rfl (Nat.le_of_ble_eq_true rfl) dL_isTold_623 ⟨Nat.le_of_ble_eq_true rfl, Nat.le_of_ble_eq_true rfl⟩ (fun r_623 M_623 H locs e_623 hH => ?_)
                      have hF9 : rp_Inv M_623 := rp_write (c := 1) (j := j) (pl := pl) (wd := wd) hI hcn hj10 (by omega) hwd (fun z h1 h2 => by rw [e_623.2, rg_I_cell h2, x0 z h1]) (by rw [e_623.2]; exact x2) (fun k => by rw [e_623.2, rg_I_cell (by omega)]; exact x5 k) (fun k => by rw [e_623.2, rg_I_at, x0 _ (by omega)])
                      refine lv_iload hx hb dL_isTold_626 (lv_at hl 0 rfl) ?_
                      refine lv_icmp_ne (tgt := 635) hx hb dL_isTold_628 (by decide) (fun c_628 => ?_) (fun c_628 => ?_)
                      · exact absurd (by rw [e_623.1, htw, show M.1 421 (6 * j + pl) = _ from hx9.1, lw_s2]) c_628
                      · refine lv_iconst (v := 1) hx hb dL_isTold_631 (by decide) ?_
                        refine lv_goto (tgt := 636) hx hb dL_isTold_632 (by decide) ?_
                        exact rg_retWz C0 hH hr hlocks (Or.inr rfl) (by exact ⟨rfl, hF9⟩) dL_isTold_636
                    · refine lv_iconst (v := 1) hx hb dL_isTold_565 (by decide) ?_
                      refine W.widen (k := 3) (n := 18) (Nat.le_of_ble_eq_true rfl) (Nat.le_of_ble_eq_true rfl) ?_
                      exact rg_retWz C0 hH hr hlocks (Or.inr rfl) (by exact ⟨rfl, hI⟩) dL_isTold_566
                · refine lv_aload hx hb dL_isTold_518 (lv_at hl 7 rfl) ?_
                  refine lv_goto (tgt := 525) hx hb dL_isTold_520 (by decide) ?_
                  refine lv_astore (lv' := [(11, .ref (B + 420)), (10, .int (nI j)), (0, .ref (B + 0)), (1, .ref (B + 413)), (2, .ref (B + 414)), (3, .ref (B + 415)), (4, .ref (B + 416)), (5, .ref (B + 417)), (6, .ref (B + 420)), (7, .ref (B + 421)), (8, .int (nI wy)), (9, .int (nI zz))]) hx hb dL_isTold_525 hl (by decide) rfl (fun ls hl => ?_)
                  refine lv_iload hx hb dL_isTold_527 (lv_at hl 11 rfl) ?_
                  refine lv_bipush (v := 40) hx hb dL_isTold_529 (by decide) ?_
                  refine lv_idiv hx hb dL_isTold_531 (by decide) ?_
                  refine rg_topi (y := nI (zz / 40)) (by exact pk_div (a := zz) (d := 40) (by omega) (by omega) (by omega)) ?_
                  refine lv_iconst (v := 2) hx hb dL_isTold_532 (by decide) ?_
                  refine lv_irem hx hb dL_isTold_533 (by decide) ?_
                  refine rg_topi (y := nI ((zz / 40) % 2)) (by exact pk_rem (a := zz / 40) (d := 2) (by omega) (by omega) (by omega)) ?_
                  refine lv_istore (lv' := [(12, .int (nI ((zz / 40) % 2))), (11, .ref (B + 420)), (10, .int (nI j)), (0, .ref (B + 0)), (1, .ref (B + 413)), (2, .ref (B + 414)), (3, .ref (B + 415)), (4, .ref (B + 416)), (5, .ref (B + 417)), (6, .ref (B + 420)), (7, .ref (B + 421)), (8, .int (nI wy)), (9, .int (nI zz))]) hx hb dL_isTold_534 hl (by decide) rfl (fun ls hl => ?_)
                  obtain ⟨pl, hd_pl⟩ : ∃ pl, pl = zz / 40 % 2 := ⟨_, rfl⟩
                  have hpl2 : pl < 2 := by omega
                  replace hl : lv_has ls 14 [(12, .int (nI pl)), (11, .ref (B + 420)), (10, .int (nI j)), (0, .ref (B + 0)), (1, .ref (B + 413)), (2, .ref (B + 414)), (3, .ref (B + 415)), (4, .ref (B + 416)), (5, .ref (B + 417)), (6, .ref (B + 420)), (7, .ref (B + 421)), (8, .int (nI wy)), (9, .int (nI zz))] := by rw [hd_pl]; exact hl
                  refine lv_aload hx hb dL_isTold_536 (lv_at hl 8 rfl) ?_
                  refine lv_bipush (v := 7) hx hb dL_isTold_538 (by decide) ?_
                  refine rg_topi (y := nI 7) (by exact rfl) ?_
                  refine rg_ialdN C0 hH (o := 417) (j := 7) (n0 := 9) (by decide) rfl rfl (by omega) dL_isTold_540 ?_
                  refine rg_topi (y := nI (rg_nc M)) (by exact (rp_m hI).2.2.2.2.2.2.2.1.trans (rg_CI_c (rp_ci hI)).1) ?_
                  refine lv_iload hx hb dL_isTold_541 (lv_at hl 12 rfl) ?_
                  refine lv_bipush (v := 20) hx hb dL_isTold_543 (by decide) ?_
                  refine lv_idiv hx hb dL_isTold_545 (by decide) ?_
                  refine rg_topi (y := nI (zz / 20)) (by exact pk_div (a := zz) (d := 20) (by omega) (by omega) (by omega)) ?_
                  refine lv_iconst (v := 2) hx hb dL_isTold_546 (by decide) ?_
                  refine lv_irem hx hb dL_isTold_547 (by decide) ?_
                  refine rg_topi (y := nI ((zz / 20) % 2)) (by exact pk_rem (a := zz / 20) (d := 2) (by omega) (by omega) (by omega)) ?_
                  refine lv_icmp_le (tgt := 565) hx hb dL_isTold_548 (by decide) (fun c_548 => ?_) (fun c_548 => ?_)
                  · refine lv_iconst (v := 1) hx hb dL_isTold_565 (by decide) ?_
                    refine W.widen (k := 3) (n := 18) (Nat.le_of_ble_eq_true rfl) (Nat.le_of_ble_eq_true rfl) ?_
                    exact rg_retWz C0 hH hr hlocks (Or.inr rfl) (by exact ⟨rfl, hI⟩) dL_isTold_566
                  · have hz20 : zz / 20 % 2 = 0 := by
                      exact rg_nI0 (by omega) c_515
                    have hcn : 0 < rg_nc M := by have := lw_no (lw_nle (a := rg_nc M) (b := zz / 20 % 2) (by omega) (by omega)) c_548; omega
                    refine lv_aload hx hb dL_isTold_551 (lv_at hl 1 rfl) ?_
                    refine lv_bipush (v := 6) hx hb dL_isTold_553 (by decide) ?_
                    refine lv_iload hx hb dL_isTold_555 (lv_at hl 2 rfl) ?_
                    refine lv_imul hx hb dL_isTold_557 ?_
                    refine rg_topi (y := nI (6 * j)) (by exact lw_mul (6) (j)) ?_
                    refine lv_iload hx hb dL_isTold_558 (lv_at hl 0 rfl) ?_
                    refine lv_iadd hx hb dL_isTold_560 ?_
                    refine rg_topi (y := nI ((6 * j) + pl)) (by exact nI_add (6 * j) (pl)) ?_
                    refine rg_ialdN C0 hH (o := 420) (j := ((6 * j) + pl)) (n0 := 60) (by decide) rfl rfl (by omega) dL_isTold_561 ?_
                    refine lv_if_ne (tgt := 567) hx hb dL_isTold_562 (by decide) (fun c_562 => ?_) (fun c_562 => ?_)
                    · refine lv_aload hx hb dL_isTold_567 (lv_at hl 1 rfl) ?_
                      refine lv_bipush (v := 6) hx hb dL_isTold_569 (by decide) ?_
                      refine lv_iload hx hb dL_isTold_571 (lv_at hl 2 rfl) ?_
                      refine lv_imul hx hb dL_isTold_573 ?_
                      refine rg_topi (y := nI (6 * j)) (by exact lw_mul (6) (j)) ?_
                      refine lv_iload hx hb dL_isTold_574 (lv_at hl 0 rfl) ?_
                      refine lv_iadd hx hb dL_isTold_576 ?_
                      refine rg_topi (y := nI ((6 * j) + pl)) (by exact nI_add (6 * j) (pl)) ?_
                      refine rg_ialdN C0 hH (o := 420) (j := ((6 * j) + pl)) (n0 := 60) (by decide) rfl rfl (by omega) dL_isTold_577 ?_
                      refine lv_iconst (v := 1) hx hb dL_isTold_578 (by decide) ?_
                      refine lv_isub hx hb dL_isTold_579 ?_
                      refine lv_istore (lv' := [(13, .int ((M.1 420 (((6 * j) + pl))) - 1)), (12, .int (nI pl)), (11, .ref (B + 420)), (10, .int (nI j)), (0, .ref (B + 0)), (1, .ref (B + 413)), (2, .ref (B + 414)), (3, .ref (B + 415)), (4, .ref (B + 416)), (5, .ref (B + 417)), (6, .ref (B + 420)), (7, .ref (B + 421)), (8, .int (nI wy)), (9, .int (nI zz))]) hx hb dL_isTold_580 hl (by decide) rfl (fun ls hl => ?_)
                      refine lv_aload hx hb dL_isTold_582 (lv_at hl 2 rfl) ?_
                      refine lv_bipush (v := 6) hx hb dL_isTold_584 (by decide) ?_
                      refine lv_iload hx hb dL_isTold_586 (lv_at hl 3 rfl) ?_
                      refine lv_imul hx hb dL_isTold_588 ?_
                      refine rg_topi (y := nI (6 * j)) (by exact lw_mul (6) (j)) ?_
                      refine lv_iload hx hb dL_isTold_589 (lv_at hl 1 rfl) ?_
                      refine lv_iadd hx hb dL_isTold_591 ?_
                      refine rg_topi (y := nI ((6 * j) + pl)) (by exact nI_add (6 * j) (pl)) ?_
                      refine lv_iconst (v := 1) hx hb dL_isTold_592 (by decide) ?_
                      refine lv_iload hx hb dL_isTold_593 (lv_at hl 13 rfl) ?_
                      refine lv_bipush (v := 80) hx hb dL_isTold_595 (by decide) ?_
                      refine lv_idiv hx hb dL_isTold_597 (by decide) ?_
                      refine rg_topi (y := nI (zz / 80)) (by exact pk_div (a := zz) (d := 80) (by omega) (by omega) (by omega)) ?_
                      refine lv_bipush (v := 16) hx hb dL_isTold_598 (by decide) ?_
                      refine lv_irem hx hb dL_isTold_600 (by decide) ?_
                      refine rg_topi (y := nI ((zz / 80) % 16)) (by exact pk_rem (a := zz / 80) (d := 16) (by omega) (by omega) (by omega)) ?_
                      obtain ⟨wd, hd_wd⟩ : ∃ wd, wd = zz / 80 % 16 := ⟨_, rfl⟩
                      have hwd : wd < 16 := by omega
                      refine rg_topi (y := nI wd) (by rw [hd_wd]) ?_
                      refine lv_iadd hx hb dL_isTold_601 ?_
                      refine rg_topi (y := nI (1 + wd)) (by exact nI_add (1) (wd)) ?_
                      refine rg_topi (y := nI (wd + 1)) (by rw [Nat.add_comm]) ?_
                      refine rg_iastN C0 hH (o := 420) (j := ((6 * j) + pl)) (n0 := 60) (by decide) rfl rfl (by omega) dL_isTold_602 (fun H locs hH => ?_)
                      generalize eX : rg_I M 420 (((6 * j) + pl)) (nI (wd + 1)) = X at hH
                      have x0 : ∀ c, c ≠ 420 → X.1 c = M.1 c := fun c h1 => by subst eX; rw [rg_I_cell h1]
                      have x2 : X.2 = M.2 := by subst eX; rfl
                      have x5 : ∀ k, X.1 420 k = if k = 6 * j + pl then nI (wd + 1) else M.1 420 k := fun k => by subst eX; rw [rg_I_at]
                      have hC : rg_CI X := rg_CI_c2 (rp_ci hI) (fun c hc => x0 c (by omega)) (fun c hc => by rw [x2])
                      have enc : rg_nc X = rg_nc M := by unfold rg_nc; rw [x0 0 (by omega)]
                      have hx9 := (rp_x hI 0 hcn j (by omega) pl (by omega)).1 hj10
                      have htw : rg_tw X (nI 0) (nI j) (nI pl) = M.1 (110 + 38 * 0 + j) pl := by
                        have e1 := rg_tw_cong (M := M) (M' := X) (t := nI 0) (x := nI j) (y := nI pl) (rp_ci hI) (fun c hc => x0 c (by omega)) (fun _ hcp r hr => x0 _ (by have := rg_in_lt (rg_cp_in (rp_ci hI) hcp); omega))
                        rw [e1]
                        exact rp_tc hI hcn (by omega) (by omega)
                      have hne9 : ¬ M.1 (110 + 38 * 0 + j) pl = -1 := fun q => c_562 (by rw [show M.1 420 (6 * j + pl) = M.1 (110 + 38 * 0 + j) pl + 1 from hx9.1, q]; rfl)
                      refine lv_aload_n hx hb dL_isTold_603 rfl (lv_at hl 4 rfl) ?_
                      refine lv_iload hx hb dL_isTold_604 (lv_at hl 13 rfl) ?_
                      refine lv_bipush (v := 20) hx hb dL_isTold_606 (by decide) ?_
                      refine lv_idiv hx hb dL_isTold_608 (by decide) ?_
                      refine rg_topi (y := nI (zz / 20)) (by exact pk_div (a := zz) (d := 20) (by omega) (by omega) (by omega)) ?_
                      refine lv_iconst (v := 2) hx hb dL_isTold_609 (by decide) ?_
                      refine lv_irem hx hb dL_isTold_610 (by decide) ?_
                      refine rg_topi (y := nI ((zz / 20) % 2)) (by exact pk_rem (a := zz / 20) (d := 2) (by omega) (by omega) (by omega)) ?_
                      refine rg_topi (y := nI 0) (by rw [rg_nI0 (j := zz / 20 % 2) (by omega) c_515]) ?_
                      refine lv_iload hx hb dL_isTold_611 (lv_at hl 3 rfl) ?_
                      refine lv_iload hx hb dL_isTold_613 (lv_at hl 1 rfl) ?_
                      refine lv_iload hx hb dL_isTold_615 (lv_at hl 13 rfl) ?_
                      refine lv_bipush (v := 80) hx hb dL_isTold_617 (by decide) ?_
                      refine lv_idiv hx hb dL_isTold_619 (by decide) ?_
                      refine rg_topi (y := nI (zz / 80)) (by exact pk_div (a := zz) (d := 80) (by omega) (by omega) (by omega)) ?_
                      refine lv_bipush (v := 16) hx hb dL_isTold_620 (by decide) ?_
                      refine lv_irem hx hb dL_isTold_622 (by decide) ?_
                      refine rg_topi (y := nI ((zz / 80) % 16)) (by exact pk_rem (a := zz / 80) (d := 16) (by omega) (by omega) (by omega)) ?_
                      refine rg_topi (y := nI wd) (by rw [hd_wd]) ?_
                      refine rg_callWi C0 hH (As := [.int (nI 0), .int (nI j), .int (nI pl), .int (nI wd)]) (rest := []) (o := 0) (ci := 6) (a_write l E B X 0 j pl wd hC (by omega) (by omega) (by omega) (by unfold rg_has; rw [x0 1 (by omega)]; exact rp_has2 hI hwd) (by rw [htw]; exact hne9) hst) (rg_cw 4 C0.1.2.2.2.2 tw_m_L_139 tw_i_X6_write tw_v_X6_write tw_n_X6 tw_c_X6_write rfl rfl hd_X6_write ⟨Nat.le_of_ble_eq_true rfl, Nat.le_of_ble_eq_true rfl⟩) rfl (by decide) rfl (by decide) rfl hl.1 rfl (Nat.le_of_ble_eq_true rfl) dL_isTold_623 ⟨Nat.le_of_ble_eq_true rfl, Nat.le_of_ble_eq_true rfl⟩ (fun r_623 M_623 H locs e_623 hH => ?_)
                      have hF9 : rp_Inv M_623 := rp_write (c := 0) (j := j) (pl := pl) (wd := wd) hI hcn hj10 (by omega) hwd (fun z h1 h2 => by rw [e_623.2, rg_I_cell h2, x0 z h1]) (by rw [e_623.2]; exact x2) (fun k => by rw [e_623.2, rg_I_cell (by omega)]; exact x5 k) (fun k => by rw [e_623.2, rg_I_at, x0 _ (by omega)])
                      refine lv_iload hx hb dL_isTold_626 (lv_at hl 0 rfl) ?_
                      refine lv_icmp_ne (tgt := 635) hx hb dL_isTold_628 (by decide) (fun c_628 => ?_) (fun c_628 => ?_)
                      · exact absurd (by rw [e_623.1, htw, show M.1 420 (6 * j + pl) = _ from hx9.1, lw_s2]) c_628
                      · refine lv_iconst (v := 1) hx hb dL_isTold_631 (by decide) ?_
                        refine lv_goto (tgt := 636) hx hb dL_isTold_632 (by decide) ?_
                        exact rg_retWz C0 hH hr hlocks (Or.inr rfl) (by exact ⟨rfl, hF9⟩) dL_isTold_636
                    · refine lv_iconst (v := 1) hx hb dL_isTold_565 (by decide) ?_
                      refine W.widen (k := 3) (n := 18) (Nat.le_of_ble_eq_true rfl) (Nat.le_of_ble_eq_true rfl) ?_
                      exact rg_retWz C0 hH hr hlocks (Or.inr rfl) (by exact ⟨rfl, hI⟩) dL_isTold_566
              · have hnc2 : rg_nc M < 2 := by have := lw_no (lw_nle (a := 2) (b := rg_nc M) (by omega) (by omega)) c_383; omega
                refine lv_aload hx hb dL_isTold_396 (lv_at hl 6 rfl) ?_
                refine lv_bipush (v := 7) hx hb dL_isTold_398 (by decide) ?_
                refine rg_topi (y := nI 7) (by exact rfl) ?_
                refine rg_ialdN C0 hH (o := 417) (j := 7) (n0 := 9) (by decide) rfl rfl (by omega) dL_isTold_400 ?_
                refine rg_topi (y := nI (rg_nc M)) (by exact (rp_m hI).2.2.2.2.2.2.2.1.trans (rg_CI_c (rp_ci hI)).1) ?_
                refine lv_if_ne (tgt := 409) hx hb dL_isTold_401 (by decide) (fun c_401 => ?_) (fun c_401 => ?_)
                · have hk1 : rg_nc M = 1 := by
                    rcases Nat.eq_zero_or_pos (rg_nc M) with q | q
                    · exact absurd (by rw [q]; rfl) c_401
                    · omega
                  refine lv_aload hx hb dL_isTold_409 (lv_at hl 8 rfl) ?_
                  refine lv_astore (lv' := [(11, .ref (B + 421)), (10, .int (nI j)), (0, .ref (B + 0)), (1, .ref (B + 413)), (2, .ref (B + 414)), (3, .ref (B + 415)), (4, .ref (B + 416)), (5, .ref (B + 417)), (6, .ref (B + 420)), (7, .ref (B + 421)), (8, .int (nI wy)), (9, .int (nI zz))]) hx hb dL_isTold_411 hl (by decide) rfl (fun ls hl => ?_)
                  refine lv_aload hx hb dL_isTold_413 (lv_at hl 7 rfl) ?_
                  refine lv_bipush (v := 7) hx hb dL_isTold_415 (by decide) ?_
                  refine rg_topi (y := nI 7) (by exact rfl) ?_
                  refine rg_ialdN C0 hH (o := 417) (j := 7) (n0 := 9) (by decide) rfl rfl (by omega) dL_isTold_417 ?_
                  refine rg_topi (y := nI (rg_nc M)) (by exact (rp_m hI).2.2.2.2.2.2.2.1.trans (rg_CI_c (rp_ci hI)).1) ?_
                  refine lv_iconst (v := 1) hx hb dL_isTold_418 (by decide) ?_
                  refine lv_icmp_ne (tgt := 436) hx hb dL_isTold_419 (by decide) (fun c_419 => ?_) (fun c_419 => ?_)
                  · exact absurd (by rw [hk1]; rfl) c_419
                  · refine lv_iload hx hb dL_isTold_422 (lv_at hl 11 rfl) ?_
                    refine lv_bipush (v := 20) hx hb dL_isTold_424 (by decide) ?_
                    refine lv_idiv hx hb dL_isTold_426 (by decide) ?_
                    refine rg_topi (y := nI (zz / 20)) (by exact pk_div (a := zz) (d := 20) (by omega) (by omega) (by omega)) ?_
                    refine lv_iconst (v := 2) hx hb dL_isTold_427 (by decide) ?_
                    refine lv_irem hx hb dL_isTold_428 (by decide) ?_
                    refine rg_topi (y := nI ((zz / 20) % 2)) (by exact pk_rem (a := zz / 20) (d := 2) (by omega) (by omega) (by omega)) ?_
                    refine lv_if_ne (tgt := 436) hx hb dL_isTold_429 (by decide) (fun c_429 => ?_) (fun c_429 => ?_)
                    · refine lv_iconst (v := (-1)) hx hb dL_isTold_436 (by decide) ?_
                      refine lv_istore (lv' := [(12, .int ((-1))), (11, .ref (B + 421)), (10, .int (nI j)), (0, .ref (B + 0)), (1, .ref (B + 413)), (2, .ref (B + 414)), (3, .ref (B + 415)), (4, .ref (B + 416)), (5, .ref (B + 417)), (6, .ref (B + 420)), (7, .ref (B + 421)), (8, .int (nI wy)), (9, .int (nI zz))]) hx hb dL_isTold_437 hl (by decide) rfl (fun ls hl => ?_)
                      refine lv_iconst (v := 0) hx hb dL_isTold_439 (by decide) ?_
                      refine lv_istore (lv' := [(13, .int (0)), (12, .int ((-1))), (11, .ref (B + 421)), (10, .int (nI j)), (0, .ref (B + 0)), (1, .ref (B + 413)), (2, .ref (B + 414)), (3, .ref (B + 415)), (4, .ref (B + 416)), (5, .ref (B + 417)), (6, .ref (B + 420)), (7, .ref (B + 421)), (8, .int (nI wy)), (9, .int (nI zz))]) hx hb dL_isTold_440 hl (by decide) rfl (fun ls hl => ?_)
                      have cut_442 : ∀ (fu i : Nat), i ≤ 60 ∧ 60 < i + fu → ∀  (H : Heap) (locs : List Loc) (ls : Array Slot), rg_H E B 422 rg_R0 (lw_da M 421 (M.1 414) i) s H locs → lv_has ls 14 [(12, .int ((-1))), (11, .ref (B + 421)), (10, .int (nI j)), (0, .ref (B + 0)), (1, .ref (B + 413)), (2, .ref (B + 414)), (3, .ref (B + 415)), (4, .ref (B + 416)), (5, .ref (B + 417)), (6, .ref (B + 420)), (7, .ref (B + 421)), (8, .int (nI wy)), (9, .int (nI zz)), (13, .int (nI i))] → W p l e ({ frames := 9, cells := 3, slots := 18, locals := 153 } : Room) s m args below meth c H locs 0 0 (MQ below (rg_Wi E B 422 rg_R0 (fun r M1 => r = 1 ∧ rp_Inv M1)) args s 3 18 (rg_A B)) (F0 m 442 ls []) := by
                        intro fu
                        induction fu with
                        | zero =>
                          intro i hm
                          exact absurd hm (by omega)
                        | succ fu ih =>
                          intro i hm  H locs ls hH hl 
                          refine lv_iload hx hb dL_isTold_442 (lv_at hl 13 rfl) ?_
                          refine lv_bipush (v := 60) hx hb dL_isTold_444 (by decide) ?_
                          refine lv_icmp_ge (tgt := 477) hx hb dL_isTold_446 (by decide) (fun c_446 => ?_) (fun c_446 => ?_)
                          · have q60 : i = 60 := rg_lp_end (n := 60) hm.1 (by omega) c_446
                            subst q60
                            refine lv_aload hx hb dL_isTold_477 (lv_at hl 8 rfl) ?_
                            refine lv_bipush (v := 7) hx hb dL_isTold_479 (by decide) ?_
                            refine rg_topi (y := nI 7) (by exact rfl) ?_
                            refine lv_dup2_11 hx hb dL_isTold_481 rfl rfl ?_
                            refine rg_ialdN C0 hH (o := 417) (j := 7) (n0 := 9) (by decide) rfl rfl (by omega) dL_isTold_482 ?_
                            refine rg_topi (y := nI (rg_nc M)) (by rw [lw_da_c (by omega)]; exact (rp_m hI).2.2.2.2.2.2.2.1.trans (rg_CI_c (rp_ci hI)).1) ?_
                            refine lv_iconst (v := 1) hx hb dL_isTold_483 (by decide) ?_
                            refine lv_iadd hx hb dL_isTold_484 ?_
                            refine rg_topi (y := nI ((rg_nc M) + 1)) (by exact nI_add (rg_nc M) (1)) ?_
                            refine rg_iastN C0 hH (o := 417) (j := 7) (n0 := 9) (by decide) rfl rfl (by omega) dL_isTold_485 (fun H locs hH => ?_)
                            generalize eX : rg_I (lw_da M 421 (M.1 414) 60) 417 7 (nI ((rg_nc M) + 1)) = X at hH
                            have x0 : ∀ c, c ≠ 420 + rg_nc M → c ≠ 417 → X.1 c = M.1 c := fun c h1 h2 => by subst eX; rw [rg_I_cell h2, lw_da_c (by omega)]
                            have x2 : X.2 = M.2 := by subst eX; rfl
                            have x5 : ∀ k, k < 60 → X.1 (420 + rg_nc M) k = M.1 414 k := fun k hk => by subst eX; rw [show 420 + rg_nc M = 421 by omega, rg_I_cell (by omega), lw_da_a hk]
                            have x7 : ∀ k, X.1 417 k = if k = 7 then nI (rg_nc M + 1) else M.1 417 k := fun k => by subst eX; rw [rg_I_at, lw_da_c (by omega)]
                            have hC : rg_CI X := rg_CI_c2 (rp_ci hI) (fun c hc => x0 c (by omega) (by omega)) (fun c hc => by rw [x2])
                            have enc : rg_nc X = rg_nc M := by unfold rg_nc; rw [x0 0 (by omega) (by omega)]
                            have ht9 : rp_TX M (-1) 414 := rp_TX_m hI
                            have htw9 : ∀ x y, y < 6 → x < 10 → rg_tk M (-1) x y = -1 ∨ ∃ w, w < 16 ∧ rg_tk M (-1) x y = nI w := fun x y h1 h2 => rp_tkw hI h1 h2
                            have ett : ∀ x y, x < 36 → y < 6 → rg_tk X (-1) x y = rg_tk M (-1) x y := fun x y _ _ => rg_tw_cong (rp_ci hI) (fun c hc => x0 c (by omega) (by omega)) (fun _ hcp r hr => x0 _ (by have := rg_in_lt (rg_cp_in (rp_ci hI) hcp); omega) (by have := rg_in_lt (rg_cp_in (rp_ci hI) hcp); omega))
                            refine lv_aload_n hx hb dL_isTold_486 rfl (lv_at hl 3 rfl) ?_
                            refine lv_iload hx hb dL_isTold_487 (lv_at hl 0 rfl) ?_
                            refine rg_callWi C0 hH (As := [.int ((-1))]) (rest := []) (o := 0) (ci := 6) (a_copy l E B X ((-1)) hC (Or.inl rfl) (by rw [x0 6 (by omega) (by omega)]; exact rp_begun2 hI (by omega)) (by omega) hst) (rg_cw 1 C0.1.2.2.2.2 tw_m_L_136 tw_i_X6_copy tw_v_X6_copy tw_n_X6 tw_c_X6_copy rfl rfl hd_X6_copy ⟨Nat.le_of_ble_eq_true rfl, Nat.le_of_ble_eq_true rfl⟩) rfl (by decide) rfl (by decide) rfl hl.1 rfl (Nat.le_of_ble_eq_true rfl) dL_isTold_489 ⟨Nat.le_of_ble_eq_true rfl, Nat.le_of_ble_eq_true rfl⟩ (fun r_489 M_489 H locs e_489 hH => ?_)
                            have hF9 : rp_Inv M_489 := rp_copy hI (by omega) (by omega) ht9 htw9 x0 x2 x5 x7 ett (by rw [e_489.2, enc])
                            have h417 : M_489.1 417 = X.1 417 := by
                              rw [e_489.2, rg_I_cell (by omega)]
                              funext z
                              have hq : ¬ ((110 + 38 * rg_nc X ≤ 417 ∧ 417 < 146 + 38 * rg_nc X) ∧ z < 6 ∧ (417 - (110 + 38 * rg_nc X) < 36 ∨ (417 - (110 + 38 * rg_nc X) = 36 ∧ z < 0))) := by omega
                              exact if_neg hq
                            refine lv_aload hx hb dL_isTold_492 (lv_at hl 8 rfl) ?_
                            refine lv_bipush (v := 7) hx hb dL_isTold_494 (by decide) ?_
                            refine rg_topi (y := nI 7) (by exact rfl) ?_
                            refine rg_ialdN C0 hH (o := 417) (j := 7) (n0 := 9) (by decide) rfl rfl (by omega) dL_isTold_496 ?_
                            refine rg_topi (y := nI (rg_nc M + 1)) (by rw [h417, x7]; rfl) ?_
                            refine lv_iconst (v := 1) hx hb dL_isTold_497 (by decide) ?_
                            refine lv_isub hx hb dL_isTold_498 ?_
                            refine rg_topi (y := nI ((rg_nc M + 1) - 1)) (by exact lw_sub1 (by omega)) ?_
                            refine lv_icmp_ne (tgt := 506) hx hb dL_isTold_499 (by decide) (fun c_499 => ?_) (fun c_499 => ?_)
                            · exact absurd (by rw [e_489.1, enc]; rfl) c_499
                            · refine lv_iconst (v := 1) hx hb dL_isTold_502 (by decide) ?_
                              refine lv_goto (tgt := 507) hx hb dL_isTold_503 (by decide) ?_
                              exact rg_retWz C0 hH hr hlocks (Or.inr rfl) (by exact ⟨rfl, hF9⟩) dL_isTold_507
                          · have h60 := rg_lp_lt (n := 60) hm.1 (by omega) c_446
                            refine lv_aload hx hb dL_isTold_449 (lv_at hl 1 rfl) ?_
                            refine lv_iload hx hb dL_isTold_451 (lv_at hl 13 rfl) ?_
                            refine lv_iload hx hb dL_isTold_453 (lv_at hl 0 rfl) ?_
                            refine lv_if_ne (tgt := 466) hx hb dL_isTold_455 (by decide) (fun c_455 => ?_) (fun c_455 => ?_)
                            · refine lv_aload_n hx hb dL_isTold_466 rfl (lv_at hl 5 rfl) ?_
                              refine lv_iload hx hb dL_isTold_467 (lv_at hl 13 rfl) ?_
                              refine rg_ialdN C0 hH (o := 414) (j := i) (n0 := 64) (by decide) rfl rfl (by omega) dL_isTold_469 ?_
                              refine rg_topi (y := M.1 414 i) (by rw [lw_da_c (by omega)]) ?_
                              refine rg_iastN C0 hH (o := 421) (j := i) (n0 := 60) (by decide) rfl rfl (by omega) dL_isTold_470 (fun H locs hH => ?_)
                              refine lv_iinc (v := nI (i + 1)) (lv' := [(13, .int (nI (i + 1))), (12, .int ((-1))), (11, .ref (B + 421)), (10, .int (nI j)), (0, .ref (B + 0)), (1, .ref (B + 413)), (2, .ref (B + 414)), (3, .ref (B + 415)), (4, .ref (B + 416)), (5, .ref (B + 417)), (6, .ref (B + 420)), (7, .ref (B + 421)), (8, .int (nI wy)), (9, .int (nI zz))]) hx hb dL_isTold_471 hl (k := 13) rfl (nI_1 _) (by decide) rfl (fun ls hl => ?_)
                              refine lv_goto (tgt := 442) hx hb dL_isTold_474 (by decide) ?_
                              exact ih (i + 1) (by omega) _ _ _ (rg_H_eq (by exact lw_da_s) hH) (lv_sub hl [1, 2, 3, 4, 5, 6, 7, 8, 9, 10, 11, 12, 13, 0] rfl)
                            · exact absurd c_455 (by decide)
                      replace hl : lv_has ls 14 [(13, .int (nI 0)), (12, .int ((-1))), (11, .ref (B + 421)), (10, .int (nI j)), (0, .ref (B + 0)), (1, .ref (B + 413)), (2, .ref (B + 414)), (3, .ref (B + 415)), (4, .ref (B + 416)), (5, .ref (B + 417)), (6, .ref (B + 420)), (7, .ref (B + 421)), (8, .int (nI wy)), (9, .int (nI zz))] := by skip; exact hl
                      exact cut_442 61 0 (by omega) _ _ _ (rg_H_eq (by exact lw_da_0) hH) (lv_sub hl [1, 2, 3, 4, 5, 6, 7, 8, 9, 10, 11, 12, 13, 0] rfl)
                    · refine lv_iconst (v := 0) hx hb dL_isTold_432 (by decide) ?_
                      refine lv_goto (tgt := 437) hx hb dL_isTold_433 (by decide) ?_
                      refine lv_istore (lv' := [(12, .int (0)), (11, .ref (B + 421)), (10, .int (nI j)), (0, .ref (B + 0)), (1, .ref (B + 413)), (2, .ref (B + 414)), (3, .ref (B + 415)), (4, .ref (B + 416)), (5, .ref (B + 417)), (6, .ref (B + 420)), (7, .ref (B + 421)), (8, .int (nI wy)), (9, .int (nI zz))]) hx hb dL_isTold_437 hl (by decide) rfl (fun ls hl => ?_)
                      refine lv_iconst (v := 0) hx hb dL_isTold_439 (by decide) ?_
                      refine lv_istore (lv' := [(13, .int (0)), (12, .int (0)), (11, .ref (B + 421)), (10, .int (nI j)), (0, .ref (B + 0)), (1, .ref (B + 413)), (2, .ref (B + 414)), (3, .ref (B + 415)), (4, .ref (B + 416)), (5, .ref (B + 417)), (6, .ref (B + 420)), (7, .ref (B + 421)), (8, .int (nI wy)), (9, .int (nI zz))]) hx hb dL_isTold_440 hl (by decide) rfl (fun ls hl => ?_)
                      have cut_442 : ∀ (fu i : Nat), i ≤ 60 ∧ 60 < i + fu → ∀  (H : Heap) (locs : List Loc) (ls : Array Slot), rg_H E B 422 rg_R0 (lw_da M 421 (M.1 420) i) s H locs → lv_has ls 14 [(12, .int (0)), (11, .ref (B + 421)), (10, .int (nI j)), (0, .ref (B + 0)), (1, .ref (B + 413)), (2, .ref (B + 414)), (3, .ref (B + 415)), (4, .ref (B + 416)), (5, .ref (B + 417)), (6, .ref (B + 420)), (7, .ref (B + 421)), (8, .int (nI wy)), (9, .int (nI zz)), (13, .int (nI i))] → W p l e ({ frames := 9, cells := 3, slots := 18, locals := 153 } : Room) s m args below meth c H locs 0 0 (MQ below (rg_Wi E B 422 rg_R0 (fun r M1 => r = 1 ∧ rp_Inv M1)) args s 3 18 (rg_A B)) (F0 m 442 ls []) := by
                        intro fu
                        induction fu with
                        | zero =>
                          intro i hm
                          exact absurd hm (by omega)
                        | succ fu ih =>
                          intro i hm  H locs ls hH hl 
                          refine lv_iload hx hb dL_isTold_442 (lv_at hl 13 rfl) ?_
                          refine lv_bipush (v := 60) hx hb dL_isTold_444 (by decide) ?_
                          refine lv_icmp_ge (tgt := 477) hx hb dL_isTold_446 (by decide) (fun c_446 => ?_) (fun c_446 => ?_)
                          · have q60 : i = 60 := rg_lp_end (n := 60) hm.1 (by omega) c_446
                            subst q60
                            refine lv_aload hx hb dL_isTold_477 (lv_at hl 8 rfl) ?_
                            refine lv_bipush (v := 7) hx hb dL_isTold_479 (by decide) ?_
                            refine rg_topi (y := nI 7) (by exact rfl) ?_
                            refine lv_dup2_11 hx hb dL_isTold_481 rfl rfl ?_
                            refine rg_ialdN C0 hH (o := 417) (j := 7) (n0 := 9) (by decide) rfl rfl (by omega) dL_isTold_482 ?_
                            refine rg_topi (y := nI (rg_nc M)) (by rw [lw_da_c (by omega)]; exact (rp_m hI).2.2.2.2.2.2.2.1.trans (rg_CI_c (rp_ci hI)).1) ?_
                            refine lv_iconst (v := 1) hx hb dL_isTold_483 (by decide) ?_
                            refine lv_iadd hx hb dL_isTold_484 ?_
                            refine rg_topi (y := nI ((rg_nc M) + 1)) (by exact nI_add (rg_nc M) (1)) ?_
                            refine rg_iastN C0 hH (o := 417) (j := 7) (n0 := 9) (by decide) rfl rfl (by omega) dL_isTold_485 (fun H locs hH => ?_)
                            generalize eX : rg_I (lw_da M 421 (M.1 420) 60) 417 7 (nI ((rg_nc M) + 1)) = X at hH
                            have x0 : ∀ c, c ≠ 420 + rg_nc M → c ≠ 417 → X.1 c = M.1 c := fun c h1 h2 => by subst eX; rw [rg_I_cell h2, lw_da_c (by omega)]
                            have x2 : X.2 = M.2 := by subst eX; rfl
                            have x5 : ∀ k, k < 60 → X.1 (420 + rg_nc M) k = M.1 420 k := fun k hk => by subst eX; rw [show 420 + rg_nc M = 421 by omega, rg_I_cell (by omega), lw_da_a hk]
                            have x7 : ∀ k, X.1 417 k = if k = 7 then nI (rg_nc M + 1) else M.1 417 k := fun k => by subst eX; rw [rg_I_at, lw_da_c (by omega)]
                            have hC : rg_CI X := rg_CI_c2 (rp_ci hI) (fun c hc => x0 c (by omega) (by omega)) (fun c hc => by rw [x2])
                            have enc : rg_nc X = rg_nc M := by unfold rg_nc; rw [x0 0 (by omega) (by omega)]
                            have ht9 : rp_TX M 0 420 := rp_TX_c hI (c := 0) (by omega)
                            have htw9 : ∀ x y, y < 6 → x < 10 → rg_tk M 0 x y = -1 ∨ ∃ w, w < 16 ∧ rg_tk M 0 x y = nI w := fun x y h1 h2 => rp_tkc hI (c := 0) (by omega) h1 h2
                            have ett : ∀ x y, x < 36 → y < 6 → rg_tk X 0 x y = rg_tk M 0 x y := fun x y _ _ => rg_tw_cong (rp_ci hI) (fun c hc => x0 c (by omega) (by omega)) (fun _ hcp r hr => x0 _ (by have := rg_in_lt (rg_cp_in (rp_ci hI) hcp); omega) (by have := rg_in_lt (rg_cp_in (rp_ci hI) hcp); omega))
                            refine lv_aload_n hx hb dL_isTold_486 rfl (lv_at hl 3 rfl) ?_
                            refine lv_iload hx hb dL_isTold_487 (lv_at hl 0 rfl) ?_
                            refine rg_callWi C0 hH (As := [.int (0)]) (rest := []) (o := 0) (ci := 6) (a_copy l E B X 0 hC (Or.inr ⟨by decide, by rw [(rg_CI_c hC).1, enc]; exact (lw_nlt (a := 0) (by omega) (by omega)).mpr (by omega)⟩) (by rw [x0 6 (by omega) (by omega)]; exact rp_begun2 hI (by omega)) (by omega) hst) (rg_cw 1 C0.1.2.2.2.2 tw_m_L_136 tw_i_X6_copy tw_v_X6_copy tw_n_X6 tw_c_X6_copy rfl rfl hd_X6_copy ⟨Nat.le_of_ble_eq_true rfl, Nat.le_of_ble_eq_true rfl⟩) rfl (by decide) rfl (by decide) rfl hl.1 rfl (Nat.le_of_ble_eq_true rfl) dL_isTold_489 ⟨Nat.le_of_ble_eq_true rfl, Nat.le_of_ble_eq_true rfl⟩ (fun r_489 M_489 H locs e_489 hH => ?_)
                            have hF9 : rp_Inv M_489 := rp_copy hI (by omega) (by omega) ht9 htw9 x0 x2 x5 x7 ett (by rw [e_489.2, enc])
                            have h417 : M_489.1 417 = X.1 417 := by
                              rw [e_489.2, rg_I_cell (by omega)]
                              funext z
                              have hq : ¬ ((110 + 38 * rg_nc X ≤ 417 ∧ 417 < 146 + 38 * rg_nc X) ∧ z < 6 ∧ (417 - (110 + 38 * rg_nc X) < 36 ∨ (417 - (110 + 38 * rg_nc X) = 36 ∧ z < 0))) := by omega
                              exact if_neg hq
                            refine lv_aload hx hb dL_isTold_492 (lv_at hl 8 rfl) ?_
                            refine lv_bipush (v := 7) hx hb dL_isTold_494 (by decide) ?_
                            refine rg_topi (y := nI 7) (by exact rfl) ?_
                            refine rg_ialdN C0 hH (o := 417) (j := 7) (n0 := 9) (by decide) rfl rfl (by omega) dL_isTold_496 ?_
                            refine rg_topi (y := nI (rg_nc M + 1)) (by rw [h417, x7]; rfl) ?_
                            refine lv_iconst (v := 1) hx hb dL_isTold_497 (by decide) ?_
                            refine lv_isub hx hb dL_isTold_498 ?_
                            refine rg_topi (y := nI ((rg_nc M + 1) - 1)) (by exact lw_sub1 (by omega)) ?_
                            refine lv_icmp_ne (tgt := 506) hx hb dL_isTold_499 (by decide) (fun c_499 => ?_) (fun c_499 => ?_)
                            · exact absurd (by rw [e_489.1, enc]; rfl) c_499
                            · refine lv_iconst (v := 1) hx hb dL_isTold_502 (by decide) ?_
                              refine lv_goto (tgt := 507) hx hb dL_isTold_503 (by decide) ?_
                              exact rg_retWz C0 hH hr hlocks (Or.inr rfl) (by exact ⟨rfl, hF9⟩) dL_isTold_507
                          · have h60 := rg_lp_lt (n := 60) hm.1 (by omega) c_446
                            refine lv_aload hx hb dL_isTold_449 (lv_at hl 1 rfl) ?_
                            refine lv_iload hx hb dL_isTold_451 (lv_at hl 13 rfl) ?_
                            refine lv_iload hx hb dL_isTold_453 (lv_at hl 0 rfl) ?_
                            refine lv_if_ne (tgt := 466) hx hb dL_isTold_455 (by decide) (fun c_455 => ?_) (fun c_455 => ?_)
                            · exact absurd c_455 (by decide)
                            · refine lv_aload hx hb dL_isTold_458 (lv_at hl 9 rfl) ?_
                              refine lv_iload hx hb dL_isTold_460 (lv_at hl 13 rfl) ?_
                              refine rg_ialdN C0 hH (o := 420) (j := i) (n0 := 60) (by decide) rfl rfl (by omega) dL_isTold_462 ?_
                              refine rg_topi (y := M.1 420 i) (by rw [lw_da_c (by omega)]) ?_
                              refine lv_goto (tgt := 470) hx hb dL_isTold_463 (by decide) ?_
                              refine rg_iastN C0 hH (o := 421) (j := i) (n0 := 60) (by decide) rfl rfl (by omega) dL_isTold_470 (fun H locs hH => ?_)
                              refine lv_iinc (v := nI (i + 1)) (lv' := [(13, .int (nI (i + 1))), (12, .int (0)), (11, .ref (B + 421)), (10, .int (nI j)), (0, .ref (B + 0)), (1, .ref (B + 413)), (2, .ref (B + 414)), (3, .ref (B + 415)), (4, .ref (B + 416)), (5, .ref (B + 417)), (6, .ref (B + 420)), (7, .ref (B + 421)), (8, .int (nI wy)), (9, .int (nI zz))]) hx hb dL_isTold_471 hl (k := 13) rfl (nI_1 _) (by decide) rfl (fun ls hl => ?_)
                              refine lv_goto (tgt := 442) hx hb dL_isTold_474 (by decide) ?_
                              exact ih (i + 1) (by omega) _ _ _ (rg_H_eq (by exact lw_da_s) hH) (lv_sub hl [1, 2, 3, 4, 5, 6, 7, 8, 9, 10, 11, 12, 13, 0] rfl)
                      replace hl : lv_has ls 14 [(13, .int (nI 0)), (12, .int (0)), (11, .ref (B + 421)), (10, .int (nI j)), (0, .ref (B + 0)), (1, .ref (B + 413)), (2, .ref (B + 414)), (3, .ref (B + 415)), (4, .ref (B + 416)), (5, .ref (B + 417)), (6, .ref (B + 420)), (7, .ref (B + 421)), (8, .int (nI wy)), (9, .int (nI zz))] := by skip; exact hl
                      exact cut_442 61 0 (by omega) _ _ _ (rg_H_eq (by exact lw_da_0) hH) (lv_sub hl [1, 2, 3, 4, 5, 6, 7, 8, 9, 10, 11, 12, 13, 0] rfl)
                · have hk0 : rg_nc M = 0 := rg_nI0 (by omega) c_401
                  refine lv_aload hx hb dL_isTold_404 (lv_at hl 7 rfl) ?_
                  refine lv_goto (tgt := 411) hx hb dL_isTold_406 (by decide) ?_
                  refine lv_astore (lv' := [(11, .ref (B + 420)), (10, .int (nI j)), (0, .ref (B + 0)), (1, .ref (B + 413)), (2, .ref (B + 414)), (3, .ref (B + 415)), (4, .ref (B + 416)), (5, .ref (B + 417)), (6, .ref (B + 420)), (7, .ref (B + 421)), (8, .int (nI wy)), (9, .int (nI zz))]) hx hb dL_isTold_411 hl (by decide) rfl (fun ls hl => ?_)
                  refine lv_aload hx hb dL_isTold_413 (lv_at hl 7 rfl) ?_
                  refine lv_bipush (v := 7) hx hb dL_isTold_415 (by decide) ?_
                  refine rg_topi (y := nI 7) (by exact rfl) ?_
                  refine rg_ialdN C0 hH (o := 417) (j := 7) (n0 := 9) (by decide) rfl rfl (by omega) dL_isTold_417 ?_
                  refine rg_topi (y := nI (rg_nc M)) (by exact (rp_m hI).2.2.2.2.2.2.2.1.trans (rg_CI_c (rp_ci hI)).1) ?_
                  refine lv_iconst (v := 1) hx hb dL_isTold_418 (by decide) ?_
                  refine lv_icmp_ne (tgt := 436) hx hb dL_isTold_419 (by decide) (fun c_419 => ?_) (fun c_419 => ?_)
                  · refine lv_iconst (v := (-1)) hx hb dL_isTold_436 (by decide) ?_
                    refine lv_istore (lv' := [(12, .int ((-1))), (11, .ref (B + 420)), (10, .int (nI j)), (0, .ref (B + 0)), (1, .ref (B + 413)), (2, .ref (B + 414)), (3, .ref (B + 415)), (4, .ref (B + 416)), (5, .ref (B + 417)), (6, .ref (B + 420)), (7, .ref (B + 421)), (8, .int (nI wy)), (9, .int (nI zz))]) hx hb dL_isTold_437 hl (by decide) rfl (fun ls hl => ?_)
                    refine lv_iconst (v := 0) hx hb dL_isTold_439 (by decide) ?_
                    refine lv_istore (lv' := [(13, .int (0)), (12, .int ((-1))), (11, .ref (B + 420)), (10, .int (nI j)), (0, .ref (B + 0)), (1, .ref (B + 413)), (2, .ref (B + 414)), (3, .ref (B + 415)), (4, .ref (B + 416)), (5, .ref (B + 417)), (6, .ref (B + 420)), (7, .ref (B + 421)), (8, .int (nI wy)), (9, .int (nI zz))]) hx hb dL_isTold_440 hl (by decide) rfl (fun ls hl => ?_)
                    have cut_442 : ∀ (fu i : Nat), i ≤ 60 ∧ 60 < i + fu → ∀  (H : Heap) (locs : List Loc) (ls : Array Slot), rg_H E B 422 rg_R0 (lw_da M 420 (M.1 414) i) s H locs → lv_has ls 14 [(12, .int ((-1))), (11, .ref (B + 420)), (10, .int (nI j)), (0, .ref (B + 0)), (1, .ref (B + 413)), (2, .ref (B + 414)), (3, .ref (B + 415)), (4, .ref (B + 416)), (5, .ref (B + 417)), (6, .ref (B + 420)), (7, .ref (B + 421)), (8, .int (nI wy)), (9, .int (nI zz)), (13, .int (nI i))] → W p l e ({ frames := 9, cells := 3, slots := 18, locals := 153 } : Room) s m args below meth c H locs 0 0 (MQ below (rg_Wi E B 422 rg_R0 (fun r M1 => r = 1 ∧ rp_Inv M1)) args s 3 18 (rg_A B)) (F0 m 442 ls []) := by
                      intro fu
                      induction fu with
                      | zero =>
                        intro i hm
                        exact absurd hm (by omega)
                      | succ fu ih =>
                        intro i hm  H locs ls hH hl 
                        refine lv_iload hx hb dL_isTold_442 (lv_at hl 13 rfl) ?_
                        refine lv_bipush (v := 60) hx hb dL_isTold_444 (by decide) ?_
                        refine lv_icmp_ge (tgt := 477) hx hb dL_isTold_446 (by decide) (fun c_446 => ?_) (fun c_446 => ?_)
                        · have q60 : i = 60 := rg_lp_end (n := 60) hm.1 (by omega) c_446
                          subst q60
                          refine lv_aload hx hb dL_isTold_477 (lv_at hl 8 rfl) ?_
                          refine lv_bipush (v := 7) hx hb dL_isTold_479 (by decide) ?_
                          refine rg_topi (y := nI 7) (by exact rfl) ?_
                          refine lv_dup2_11 hx hb dL_isTold_481 rfl rfl ?_
                          refine rg_ialdN C0 hH (o := 417) (j := 7) (n0 := 9) (by decide) rfl rfl (by omega) dL_isTold_482 ?_
                          refine rg_topi (y := nI (rg_nc M)) (by rw [lw_da_c (by omega)]; exact (rp_m hI).2.2.2.2.2.2.2.1.trans (rg_CI_c (rp_ci hI)).1) ?_
                          refine lv_iconst (v := 1) hx hb dL_isTold_483 (by decide) ?_
                          refine lv_iadd hx hb dL_isTold_484 ?_
                          refine rg_topi (y := nI ((rg_nc M) + 1)) (by exact nI_add (rg_nc M) (1)) ?_
                          refine rg_iastN C0 hH (o := 417) (j := 7) (n0 := 9) (by decide) rfl rfl (by omega) dL_isTold_485 (fun H locs hH => ?_)
                          generalize eX : rg_I (lw_da M 420 (M.1 414) 60) 417 7 (nI ((rg_nc M) + 1)) = X at hH
                          have x0 : ∀ c, c ≠ 420 + rg_nc M → c ≠ 417 → X.1 c = M.1 c := fun c h1 h2 => by subst eX; rw [rg_I_cell h2, lw_da_c (by omega)]
                          have x2 : X.2 = M.2 := by subst eX; rfl
                          have x5 : ∀ k, k < 60 → X.1 (420 + rg_nc M) k = M.1 414 k := fun k hk => by subst eX; rw [show 420 + rg_nc M = 420 by omega, rg_I_cell (by omega), lw_da_a hk]
                          have x7 : ∀ k, X.1 417 k = if k = 7 then nI (rg_nc M + 1) else M.1 417 k := fun k => by subst eX; rw [rg_I_at, lw_da_c (by omega)]
                          have hC : rg_CI X := rg_CI_c2 (rp_ci hI) (fun c hc => x0 c (by omega) (by omega)) (fun c hc => by rw [x2])
                          have enc : rg_nc X = rg_nc M := by unfold rg_nc; rw [x0 0 (by omega) (by omega)]
                          have ht9 : rp_TX M (-1) 414 := rp_TX_m hI
                          have htw9 : ∀ x y, y < 6 → x < 10 → rg_tk M (-1) x y = -1 ∨ ∃ w, w < 16 ∧ rg_tk M (-1) x y = nI w := fun x y h1 h2 => rp_tkw hI h1 h2
                          have ett : ∀ x y, x < 36 → y < 6 → rg_tk X (-1) x y = rg_tk M (-1) x y := fun x y _ _ => rg_tw_cong (rp_ci hI) (fun c hc => x0 c (by omega) (by omega)) (fun _ hcp r hr => x0 _ (by have := rg_in_lt (rg_cp_in (rp_ci hI) hcp); omega) (by have := rg_in_lt (rg_cp_in (rp_ci hI) hcp); omega))
                          refine lv_aload_n hx hb dL_isTold_486 rfl (lv_at hl 3 rfl) ?_
                          refine lv_iload hx hb dL_isTold_487 (lv_at hl 0 rfl) ?_
                          refine rg_callWi C0 hH (As := [.int ((-1))]) (rest := []) (o := 0) (ci := 6) (a_copy l E B X ((-1)) hC (Or.inl rfl) (by rw [x0 6 (by omega) (by omega)]; exact rp_begun2 hI (by omega)) (by omega) hst) (rg_cw 1 C0.1.2.2.2.2 tw_m_L_136 tw_i_X6_copy tw_v_X6_copy tw_n_X6 tw_c_X6_copy rfl rfl hd_X6_copy ⟨Nat.le_of_ble_eq_true rfl, Nat.le_of_ble_eq_true rfl⟩) rfl (by decide) rfl (by decide) rfl hl.1 rfl (Nat.le_of_ble_eq_true rfl) dL_isTold_489 ⟨Nat.le_of_ble_eq_true rfl, Nat.le_of_ble_eq_true rfl⟩ (fun r_489 M_489 H locs e_489 hH => ?_)
                          have hF9 : rp_Inv M_489 := rp_copy hI (by omega) (by omega) ht9 htw9 x0 x2 x5 x7 ett (by rw [e_489.2, enc])
                          have h417 : M_489.1 417 = X.1 417 := by
                            rw [e_489.2, rg_I_cell (by omega)]
                            funext z
                            have hq : ¬ ((110 + 38 * rg_nc X ≤ 417 ∧ 417 < 146 + 38 * rg_nc X) ∧ z < 6 ∧ (417 - (110 + 38 * rg_nc X) < 36 ∨ (417 - (110 + 38 * rg_nc X) = 36 ∧ z < 0))) := by omega
                            exact if_neg hq
                          refine lv_aload hx hb dL_isTold_492 (lv_at hl 8 rfl) ?_
                          refine lv_bipush (v := 7) hx hb dL_isTold_494 (by decide) ?_
                          refine rg_topi (y := nI 7) (by exact rfl) ?_
                          refine rg_ialdN C0 hH (o := 417) (j := 7) (n0 := 9) (by decide) rfl rfl (by omega) dL_isTold_496 ?_
                          refine rg_topi (y := nI (rg_nc M + 1)) (by rw [h417, x7]; rfl) ?_
                          refine lv_iconst (v := 1) hx hb dL_isTold_497 (by decide) ?_
                          refine lv_isub hx hb dL_isTold_498 ?_
                          refine rg_topi (y := nI ((rg_nc M + 1) - 1)) (by exact lw_sub1 (by omega)) ?_
                          refine lv_icmp_ne (tgt := 506) hx hb dL_isTold_499 (by decide) (fun c_499 => ?_) (fun c_499 => ?_)
                          · exact absurd (by rw [e_489.1, enc]; rfl) c_499
                          · refine lv_iconst (v := 1) hx hb dL_isTold_502 (by decide) ?_
                            refine lv_goto (tgt := 507) hx hb dL_isTold_503 (by decide) ?_
                            exact rg_retWz C0 hH hr hlocks (Or.inr rfl) (by exact ⟨rfl, hF9⟩) dL_isTold_507
                        · have h60 := rg_lp_lt (n := 60) hm.1 (by omega) c_446
                          refine lv_aload hx hb dL_isTold_449 (lv_at hl 1 rfl) ?_
                          refine lv_iload hx hb dL_isTold_451 (lv_at hl 13 rfl) ?_
                          refine lv_iload hx hb dL_isTold_453 (lv_at hl 0 rfl) ?_
                          refine lv_if_ne (tgt := 466) hx hb dL_isTold_455 (by decide) (fun c_455 => ?_) (fun c_455 => ?_)
                          · refine lv_aload_n hx hb dL_isTold_466 rfl (lv_at hl 5 rfl) ?_
                            refine lv_iload hx hb dL_isTold_467 (lv_at hl 13 rfl) ?_
                            refine rg_ialdN C0 hH (o := 414) (j := i) (n0 := 64) (by decide) rfl rfl (by omega) dL_isTold_469 ?_
                            refine rg_topi (y := M.1 414 i) (by rw [lw_da_c (by omega)]) ?_
                            refine rg_iastN C0 hH (o := 420) (j := i) (n0 := 60) (by decide) rfl rfl (by omega) dL_isTold_470 (fun H locs hH => ?_)
                            refine lv_iinc (v := nI (i + 1)) (lv' := [(13, .int (nI (i + 1))), (12, .int ((-1))), (11, .ref (B + 420)), (10, .int (nI j)), (0, .ref (B + 0)), (1, .ref (B + 413)), (2, .ref (B + 414)), (3, .ref (B + 415)), (4, .ref (B + 416)), (5, .ref (B + 417)), (6, .ref (B + 420)), (7, .ref (B + 421)), (8, .int (nI wy)), (9, .int (nI zz))]) hx hb dL_isTold_471 hl (k := 13) rfl (nI_1 _) (by decide) rfl (fun ls hl => ?_)
                            refine lv_goto (tgt := 442) hx hb dL_isTold_474 (by decide) ?_
                            exact ih (i + 1) (by omega) _ _ _ (rg_H_eq (by exact lw_da_s) hH) (lv_sub hl [1, 2, 3, 4, 5, 6, 7, 8, 9, 10, 11, 12, 13, 0] rfl)
                          · exact absurd c_455 (by decide)
                    replace hl : lv_has ls 14 [(13, .int (nI 0)), (12, .int ((-1))), (11, .ref (B + 420)), (10, .int (nI j)), (0, .ref (B + 0)), (1, .ref (B + 413)), (2, .ref (B + 414)), (3, .ref (B + 415)), (4, .ref (B + 416)), (5, .ref (B + 417)), (6, .ref (B + 420)), (7, .ref (B + 421)), (8, .int (nI wy)), (9, .int (nI zz))] := by skip; exact hl
                    exact cut_442 61 0 (by omega) _ _ _ (rg_H_eq (by exact lw_da_0) hH) (lv_sub hl [1, 2, 3, 4, 5, 6, 7, 8, 9, 10, 11, 12, 13, 0] rfl)
                  · exact absurd c_419 (by rw [hk0]; decide)
          · refine lv_aload_n hx hb dL_isTold_310 rfl (lv_at hl 4 rfl) ?_
            have cut_327 : ∀  (H : Heap) (locs : List Loc) (ls : Array Slot), rg_H E B 422 rg_R0 M s H locs → lv_has ls 14 [(10, .int (nI j)), (0, .ref (B + 0)), (1, .ref (B + 413)), (2, .ref (B + 414)), (3, .ref (B + 415)), (4, .ref (B + 416)), (5, .ref (B + 417)), (6, .ref (B + 420)), (7, .ref (B + 421)), (8, .int (nI wy)), (9, .int (nI zz))] → W p l e ({ frames := 9, cells := 3, slots := 18, locals := 153 } : Room) s m args below meth c H locs 0 0 (MQ below (rg_Wi E B 422 rg_R0 (fun r M1 => r = 1 ∧ rp_Inv M1)) args s 3 18 (rg_A B)) (F0 m 327 ls [.int (rg_b (M.1 415 (4 * j + 2) = 1))]) := by
              intro  H locs ls hH hl 
              refine lv_istore (lv' := [(11, .int (rg_b (M.1 415 (4 * j + 2) = 1))), (10, .int (nI j)), (0, .ref (B + 0)), (1, .ref (B + 413)), (2, .ref (B + 414)), (3, .ref (B + 415)), (4, .ref (B + 416)), (5, .ref (B + 417)), (6, .ref (B + 420)), (7, .ref (B + 421)), (8, .int (nI wy)), (9, .int (nI zz))]) hx hb dL_isTold_327 hl (by decide) rfl (fun ls hl => ?_)
              refine lv_aload_n hx hb dL_isTold_329 rfl (lv_at hl 5 rfl) ?_
              refine lv_iconst (v := 4) hx hb dL_isTold_330 (by decide) ?_
              refine lv_iload hx hb dL_isTold_331 (lv_at hl 1 rfl) ?_
              refine lv_imul hx hb dL_isTold_333 ?_
              refine rg_topi (y := nI (4 * j)) (by exact lw_mul (4) (j)) ?_
              refine lv_iconst (v := 2) hx hb dL_isTold_334 (by decide) ?_
              refine lv_iadd hx hb dL_isTold_335 ?_
              refine rg_topi (y := nI ((4 * j) + 2)) (by exact nI_add (4 * j) (2)) ?_
              refine lv_iload hx hb dL_isTold_336 (lv_at hl 11 rfl) ?_
              refine lv_bipush (v := 10) hx hb dL_isTold_338 (by decide) ?_
              refine lv_idiv hx hb dL_isTold_340 (by decide) ?_
              refine rg_topi (y := nI (zz / 10)) (by exact pk_div (a := zz) (d := 10) (by omega) (by omega) (by omega)) ?_
              refine lv_iconst (v := 2) hx hb dL_isTold_341 (by decide) ?_
              refine lv_irem hx hb dL_isTold_342 (by decide) ?_
              refine rg_topi (y := nI ((zz / 10) % 2)) (by exact pk_rem (a := zz / 10) (d := 2) (by omega) (by omega) (by omega)) ?_
              obtain ⟨h9, hd_h9⟩ : ∃ h9, h9 = zz / 10 % 2 := ⟨_, rfl⟩
              have hh9 : h9 < 2 := by omega
              refine rg_topi (y := nI h9) (by rw [hd_h9]) ?_
              refine rg_iastN C0 hH (o := 415) (j := ((4 * j) + 2)) (n0 := 44) (by decide) rfl rfl (by omega) dL_isTold_343 (fun H locs hH => ?_)
              generalize eX : rg_I M 415 (((4 * j) + 2)) (nI h9) = X at hH
              have x0 : ∀ c, c ≠ 415 → X.1 c = M.1 c := fun c h1 => by subst eX; rw [rg_I_cell h1]
              have x2 : X.2 = M.2 := by subst eX; rfl
              have x5 : ∀ k, X.1 415 k = if k = 4 * j + 2 then nI h9 else M.1 415 k := fun k => by subst eX; rw [rg_I_at]
              have hC : rg_CI X := rg_CI_c2 (rp_ci hI) (fun c hc => x0 c (by omega)) (fun c hc => by rw [x2])
              have enl : rg_nl X = rg_nl M := by unfold rg_nl; rw [x0 6 (by omega)]
              refine lv_aload_n hx hb dL_isTold_344 rfl (lv_at hl 2 rfl) ?_
              have cut_363 : ∀  (H : Heap) (locs : List Loc) (ls : Array Slot), rg_H E B 422 rg_R0 X s H locs → lv_has ls 14 [(11, .int (rg_b (M.1 415 (4 * j + 2) = 1))), (10, .int (nI j)), (0, .ref (B + 0)), (1, .ref (B + 413)), (2, .ref (B + 414)), (3, .ref (B + 415)), (4, .ref (B + 416)), (5, .ref (B + 417)), (6, .ref (B + 420)), (7, .ref (B + 421)), (8, .int (nI wy)), (9, .int (nI zz))] → W p l e ({ frames := 9, cells := 3, slots := 18, locals := 153 } : Room) s m args below meth c H locs 0 0 (MQ below (rg_Wi E B 422 rg_R0 (fun r M1 => r = 1 ∧ rp_Inv M1)) args s 3 18 (rg_A B)) (F0 m 363 ls [.int (nI h9), .int (nI j), .ref (B + 0)]) := by
                intro  H locs ls hH hl 
                refine rg_callWi C0 hH (As := [.int (nI j), .int (nI h9)]) (rest := []) (o := 0) (ci := 6) (a_hide l E B X j h9 hC (by omega) (by omega) hst) (rg_cw 2 C0.1.2.2.2.2 tw_m_L_132 tw_i_X6_hide tw_v_X6_hide tw_n_X6 tw_c_X6_hide rfl rfl hd_X6_hide ⟨Nat.le_of_ble_eq_true rfl, Nat.le_of_ble_eq_true rfl⟩) rfl (by decide) rfl (by decide) rfl hl.1 rfl (Nat.le_of_ble_eq_true rfl) dL_isTold_363 ⟨Nat.le_of_ble_eq_true rfl, Nat.le_of_ble_eq_true rfl⟩ (fun r_363 M_363 H locs e_363 hH => ?_)
                have hF9 : rp_Inv M_363 := rp_hide (j := j) (y := nI h9) hI hjl ((show h9 = 0 ∨ h9 = 1 by omega).imp (fun q => by rw [q]; rfl) (fun q => by rw [q]; rfl)) (fun c h1 h2 => by rw [e_363.2, rg_I_cell h2, x0 c h1]) (by rw [e_363.2]; exact x2) (fun k => by rw [e_363.2, rg_I_cell (by omega)]; exact x5 k) (fun k => by rw [e_363.2, rg_I_at, x0 10 (by omega)])
                refine lv_iload hx hb dL_isTold_366 (lv_at hl 0 rfl) ?_
                refine lv_icmp_ne (tgt := 375) hx hb dL_isTold_368 (by decide) (fun c_368 => ?_) (fun c_368 => ?_)
                · exact absurd (by rw [e_363.1, x0 10 (by omega), ((rp_l hI j hj10).2.1 hjl).2.1]; rcases (rg_CI_h (rp_ci hI) j hjl).1 with q | q <;> rw [q] <;> decide) c_368
                · refine lv_iconst (v := 1) hx hb dL_isTold_371 (by decide) ?_
                  refine lv_goto (tgt := 376) hx hb dL_isTold_372 (by decide) ?_
                  refine W.widen (k := 3) (n := 18) (Nat.le_of_ble_eq_true rfl) (Nat.le_of_ble_eq_true rfl) ?_
                  exact rg_retWz C0 hH hr hlocks (Or.inr rfl) (by exact ⟨rfl, hF9⟩) dL_isTold_376
              refine lv_iload hx hb dL_isTold_345 (lv_at hl 1 rfl) ?_
              refine lv_iload hx hb dL_isTold_347 (lv_at hl 11 rfl) ?_
              refine lv_bipush (v := 10) hx hb dL_isTold_349 (by decide) ?_
              refine lv_idiv hx hb dL_isTold_351 (by decide) ?_
              refine rg_topi (y := nI (zz / 10)) (by exact pk_div (a := zz) (d := 10) (by omega) (by omega) (by omega)) ?_
              refine lv_iconst (v := 2) hx hb dL_isTold_352 (by decide) ?_
              refine lv_irem hx hb dL_isTold_353 (by decide) ?_
              refine rg_topi (y := nI ((zz / 10) % 2)) (by exact pk_rem (a := zz / 10) (d := 2) (by omega) (by omega) (by omega)) ?_
              refine lv_iconst (v := 1) hx hb dL_isTold_354 (by decide) ?_
              refine lv_icmp_ne (tgt := 362) hx hb dL_isTold_355 (by decide) (fun c_355 => ?_) (fun c_355 => ?_)
              · refine lv_iconst (v := 0) hx hb dL_isTold_362 (by decide) ?_
                refine rg_topi (y := nI h9) (by rw [show h9 = 0 from by
                  rcases Nat.eq_zero_or_pos h9 with q | q
                  · exact q
                  · exact absurd (by rw [← hd_h9, show h9 = 1 by omega]; rfl) c_355]; rfl) ?_
                exact cut_363 _ _ _ hH (lv_sub hl [0, 1, 2, 3, 4, 5, 6, 7, 8, 9, 10, 11] rfl)
              · refine lv_iconst (v := 1) hx hb dL_isTold_358 (by decide) ?_
                refine lv_goto (tgt := 363) hx hb dL_isTold_359 (by decide) ?_
                refine rg_topi (y := nI h9) (by rw [hd_h9]; exact c_355.symm) ?_
                exact cut_363 _ _ _ hH (lv_sub hl [0, 1, 2, 3, 4, 5, 6, 7, 8, 9, 10, 11] rfl)
            refine lv_iconst (v := 4) hx hb dL_isTold_311 (by decide) ?_
            refine lv_iload hx hb dL_isTold_312 (lv_at hl 0 rfl) ?_
            refine lv_imul hx hb dL_isTold_314 ?_
            refine rg_topi (y := nI (4 * j)) (by exact lw_mul (4) (j)) ?_
            refine lv_iconst (v := 2) hx hb dL_isTold_315 (by decide) ?_
            refine lv_iadd hx hb dL_isTold_316 ?_
            refine rg_topi (y := nI ((4 * j) + 2)) (by exact nI_add (4 * j) (2)) ?_
            refine rg_ialdN C0 hH (o := 415) (j := ((4 * j) + 2)) (n0 := 44) (by decide) rfl rfl (by omega) dL_isTold_317 ?_
            refine lv_iconst (v := 1) hx hb dL_isTold_318 (by decide) ?_
            refine lv_icmp_ne (tgt := 326) hx hb dL_isTold_319 (by decide) (fun c_319 => ?_) (fun c_319 => ?_)
            · refine lv_iconst (v := 0) hx hb dL_isTold_326 (by decide) ?_
              refine rg_topi (y := rg_b (M.1 415 (4 * j + 2) = 1)) (by exact rg_b_f c_319) ?_
              exact cut_327 _ _ _ hH (lv_sub hl [0, 1, 2, 3, 4, 5, 6, 7, 8, 9, 10] rfl)
            · refine lv_iconst (v := 1) hx hb dL_isTold_322 (by decide) ?_
              refine lv_goto (tgt := 327) hx hb dL_isTold_323 (by decide) ?_
              refine rg_topi (y := rg_b (M.1 415 (4 * j + 2) = 1)) (by exact rg_b_t c_319) ?_
              exact cut_327 _ _ _ hH (lv_sub hl [0, 1, 2, 3, 4, 5, 6, 7, 8, 9, 10] rfl)
        · refine lv_bipush (v := 10) hx hb dL_isTold_234 (by decide) ?_
          refine lv_iload hx hb dL_isTold_236 (lv_at hl 10 rfl) ?_
          refine lv_bipush (v := 10) hx hb dL_isTold_238 (by decide) ?_
          refine lv_idiv hx hb dL_isTold_240 (by decide) ?_
          refine rg_topi (y := nI (zz / 10)) (by exact pk_div (a := zz) (d := 10) (by omega) (by omega) (by omega)) ?_
          refine lv_iconst (v := 4) hx hb dL_isTold_241 (by decide) ?_
          refine lv_irem hx hb dL_isTold_242 (by decide) ?_
          refine rg_topi (y := nI ((zz / 10) % 4)) (by exact pk_rem (a := zz / 10) (d := 4) (by omega) (by omega) (by omega)) ?_
          obtain ⟨g9, hd_g9⟩ : ∃ g9, g9 = zz / 10 % 4 := ⟨_, rfl⟩
          have hg9 : g9 < 4 := by omega
          refine rg_topi (y := nI g9) (by rw [hd_g9]) ?_
          refine lv_imul hx hb dL_isTold_243 ?_
          refine rg_topi (y := nI (10 * g9)) (by exact lw_mul (10) (g9)) ?_
          refine lv_iload hx hb dL_isTold_244 (lv_at hl 0 rfl) ?_
          refine lv_iadd hx hb dL_isTold_246 ?_
          refine rg_topi (y := nI ((10 * g9) + j)) (by exact nI_add (10 * g9) (j)) ?_
          refine lv_istore (lv' := [(11, .int (nI ((10 * g9) + j))), (10, .int (nI j)), (0, .ref (B + 0)), (1, .ref (B + 413)), (2, .ref (B + 414)), (3, .ref (B + 415)), (4, .ref (B + 416)), (5, .ref (B + 417)), (6, .ref (B + 420)), (7, .ref (B + 421)), (8, .int (nI wy)), (9, .int (nI zz))]) hx hb dL_isTold_247 hl (by decide) rfl (fun ls hl => ?_)
          refine lv_aload hx hb dL_isTold_249 (lv_at hl 6 rfl) ?_
          refine lv_iload hx hb dL_isTold_251 (lv_at hl 0 rfl) ?_
          refine rg_ialdN C0 hH (o := 416) (j := ((10 * g9) + j)) (n0 := 40) (by decide) rfl rfl (by omega) dL_isTold_253 ?_
          refine lv_iconst (v := 1) hx hb dL_isTold_254 (by decide) ?_
          refine lv_isub hx hb dL_isTold_255 ?_
          refine lv_istore (lv' := [(12, .int ((M.1 416 (((10 * g9) + j))) - 1)), (11, .int (nI ((10 * g9) + j))), (10, .int (nI j)), (0, .ref (B + 0)), (1, .ref (B + 413)), (2, .ref (B + 414)), (3, .ref (B + 415)), (4, .ref (B + 416)), (5, .ref (B + 417)), (6, .ref (B + 420)), (7, .ref (B + 421)), (8, .int (nI wy)), (9, .int (nI zz))]) hx hb dL_isTold_256 hl (by decide) rfl (fun ls hl => ?_)
          refine lv_aload hx hb dL_isTold_258 (lv_at hl 7 rfl) ?_
          refine lv_iload hx hb dL_isTold_260 (lv_at hl 1 rfl) ?_
          refine lv_iconst (v := 1) hx hb dL_isTold_262 (by decide) ?_
          refine lv_iload hx hb dL_isTold_263 (lv_at hl 12 rfl) ?_
          refine lv_bipush (v := 40) hx hb dL_isTold_265 (by decide) ?_
          refine lv_idiv hx hb dL_isTold_267 (by decide) ?_
          refine rg_topi (y := nI (zz / 40)) (by exact pk_div (a := zz) (d := 40) (by omega) (by omega) (by omega)) ?_
          refine lv_bipush (v := 11) hx hb dL_isTold_268 (by decide) ?_
          refine lv_irem hx hb dL_isTold_270 (by decide) ?_
          refine rg_topi (y := nI ((zz / 40) % 11)) (by exact pk_rem (a := zz / 40) (d := 11) (by omega) (by omega) (by omega)) ?_
          obtain ⟨v9, hd_v9⟩ : ∃ v9, v9 = zz / 40 % 11 := ⟨_, rfl⟩
          have hv9 : v9 ≤ 10 := by omega
          refine rg_topi (y := nI v9) (by rw [hd_v9]) ?_
          refine lv_iadd hx hb dL_isTold_271 ?_
          refine rg_topi (y := nI (1 + v9)) (by exact nI_add (1) (v9)) ?_
          refine rg_iastN C0 hH (o := 416) (j := ((10 * g9) + j)) (n0 := 40) (by decide) rfl rfl (by omega) dL_isTold_272 (fun H locs hH => ?_)
          generalize eX : rg_I M 416 (((10 * g9) + j)) (nI (1 + v9)) = X at hH
          have x0 : ∀ c, c ≠ 416 → X.1 c = M.1 c := fun c h1 => by subst eX; rw [rg_I_cell h1]
          have x2 : X.2 = M.2 := by subst eX; rfl
          have x6 : ∀ k, X.1 416 k = if k = 10 * g9 + j then nI (1 + v9) else M.1 416 k := fun k => by subst eX; rw [rg_I_at]
          have hC : rg_CI X := rg_CI_c2 (rp_ci hI) (fun c hc => x0 c (by omega)) (fun c hc => by rw [x2])
          have enl : rg_nl X = rg_nl M := by unfold rg_nl; rw [x0 6 (by omega)]
          refine lv_aload_n hx hb dL_isTold_273 rfl (lv_at hl 3 rfl) ?_
          refine lv_iload hx hb dL_isTold_274 (lv_at hl 12 rfl) ?_
          refine lv_bipush (v := 10) hx hb dL_isTold_276 (by decide) ?_
          refine lv_idiv hx hb dL_isTold_278 (by decide) ?_
          refine rg_topi (y := nI (zz / 10)) (by exact pk_div (a := zz) (d := 10) (by omega) (by omega) (by omega)) ?_
          refine lv_iconst (v := 4) hx hb dL_isTold_279 (by decide) ?_
          refine lv_irem hx hb dL_isTold_280 (by decide) ?_
          refine rg_topi (y := nI ((zz / 10) % 4)) (by exact pk_rem (a := zz / 10) (d := 4) (by omega) (by omega) (by omega)) ?_
          refine rg_topi (y := nI g9) (by rw [hd_g9]) ?_
          refine lv_iload hx hb dL_isTold_281 (lv_at hl 2 rfl) ?_
          refine lv_aload hx hb dL_isTold_283 (lv_at hl 7 rfl) ?_
          refine lv_iload hx hb dL_isTold_285 (lv_at hl 1 rfl) ?_
          refine rg_ialdN C0 hH (o := 416) (j := ((10 * g9) + j)) (n0 := 40) (by decide) rfl rfl (by omega) dL_isTold_287 ?_
          refine rg_topi (y := nI (1 + v9)) (by rw [x6, if_pos rfl]) ?_
          refine lv_iconst (v := 1) hx hb dL_isTold_288 (by decide) ?_
          refine lv_isub hx hb dL_isTold_289 ?_
          refine rg_topi (y := nI ((1 + v9) - 1)) (by exact lw_sub1 (by omega)) ?_
          refine rg_topi (y := nI v9) (by rw [show 1 + v9 - 1 = v9 by omega]) ?_
          refine rg_callWi C0 hH (As := [.int (nI g9), .int (nI j), .int (nI v9)]) (rest := []) (o := 0) (ci := 6) (a_give l E B X g9 j v9 hC hg9 (by omega) hv9 hst) (rg_cw 3 C0.1.2.2.2.2 tw_m_L_128 tw_i_X6_give tw_v_X6_give tw_n_X6 tw_c_X6_give rfl rfl hd_X6_give ⟨Nat.le_of_ble_eq_true rfl, Nat.le_of_ble_eq_true rfl⟩) rfl (by decide) rfl (by decide) rfl hl.1 rfl (Nat.le_of_ble_eq_true rfl) dL_isTold_290 ⟨Nat.le_of_ble_eq_true rfl, Nat.le_of_ble_eq_true rfl⟩ (fun r_290 M_290 H locs e_290 hH => ?_)
          have hF9 : rp_Inv M_290 := rp_give (g := g9) (j := j) (v := v9) hI hg9 hjl hv9 (fun c h1 h2 => by rw [e_290.2, rg_I_cell h2, x0 c h1]) (by rw [e_290.2]; exact x2) (fun k => by rw [e_290.2, rg_I_cell (by omega)]; exact x6 k) (fun k => by rw [e_290.2, rg_I_at, x0 (13 + g9) (by omega)])
          refine lv_iload hx hb dL_isTold_293 (lv_at hl 0 rfl) ?_
          refine lv_icmp_ne (tgt := 302) hx hb dL_isTold_295 (by decide) (fun c_295 => ?_) (fun c_295 => ?_)
          · exact absurd (by rw [e_290.1, x0 (13 + g9) (by omega)]; obtain ⟨v, _, h1, h2⟩ := (rp_q hI g9 hg9 j hj10).1 hjl; rw [h1, h2]) c_295
          · refine lv_iconst (v := 1) hx hb dL_isTold_298 (by decide) ?_
            refine lv_goto (tgt := 303) hx hb dL_isTold_299 (by decide) ?_
            refine W.widen (k := 3) (n := 18) (Nat.le_of_ble_eq_true rfl) (Nat.le_of_ble_eq_true rfl) ?_
            exact rg_retWz C0 hH hr hlocks (Or.inr rfl) (by exact ⟨rfl, hF9⟩) dL_isTold_303
      · refine lv_iconst (v := 1) hx hb dL_isTold_217 (by decide) ?_
        refine W.widen (k := 3) (n := 18) (Nat.le_of_ble_eq_true rfl) (Nat.le_of_ble_eq_true rfl) ?_
        exact rg_retWz C0 hH hr hlocks (Or.inr rfl) (by exact ⟨rfl, hI⟩) dL_isTold_218
    · refine lv_aload hx hb dL_isTold_97 (lv_at hl 5 rfl) ?_
      refine lv_bipush (v := 8) hx hb dL_isTold_99 (by decide) ?_
      refine rg_topi (y := nI 8) (by exact rfl) ?_
      refine rg_ialdN C0 hH (o := 417) (j := 8) (n0 := 9) (by decide) rfl rfl (by omega) dL_isTold_101 ?_
      refine rg_topi (y := rg_b (0 < rg_nt M)) (by exact (rp_m hI).2.2.2.2.2.2.2.2) ?_
      refine lv_if_eq (tgt := 123) hx hb dL_isTold_102 (by decide) (fun c_102 => ?_) (fun c_102 => ?_)
      · refine lv_iconst (v := 1) hx hb dL_isTold_123 (by decide) ?_
        refine W.widen (k := 3) (n := 18) (Nat.le_of_ble_eq_true rfl) (Nat.le_of_ble_eq_true rfl) ?_
        exact rg_retWz C0 hH hr hlocks (Or.inr rfl) (by exact ⟨rfl, hI⟩) dL_isTold_124
      · refine lv_aload hx hb dL_isTold_105 (lv_at hl 5 rfl) ?_
        refine lv_iconst (v := 3) hx hb dL_isTold_107 (by decide) ?_
        refine rg_topi (y := nI 3) (by exact rfl) ?_
        refine rg_ialdN C0 hH (o := 417) (j := 3) (n0 := 9) (by decide) rfl rfl (by omega) dL_isTold_108 ?_
        refine rg_topi (y := nI (rg_nl M)) (by exact (rp_m hI).2.2.2.1.trans (rg_CI_l (rp_ci hI)).1) ?_
        refine lv_aload hx hb dL_isTold_109 (lv_at hl 5 rfl) ?_
        refine lv_iconst (v := 4) hx hb dL_isTold_111 (by decide) ?_
        refine rg_topi (y := nI 4) (by exact rfl) ?_
        refine rg_ialdN C0 hH (o := 417) (j := 4) (n0 := 9) (by decide) rfl rfl (by omega) dL_isTold_112 ?_
        refine rg_topi (y := nI (rg_nt M)) (by exact (rp_m hI).2.2.2.2.1.trans (rg_CI_t (rp_ci hI)).1) ?_
        refine lv_icmp_eq (tgt := 123) hx hb dL_isTold_113 (by decide) (fun c_113 => ?_) (fun c_113 => ?_)
        · refine lv_iconst (v := 1) hx hb dL_isTold_123 (by decide) ?_
          refine W.widen (k := 3) (n := 18) (Nat.le_of_ble_eq_true rfl) (Nat.le_of_ble_eq_true rfl) ?_
          exact rg_retWz C0 hH hr hlocks (Or.inr rfl) (by exact ⟨rfl, hI⟩) dL_isTold_124
        · refine lv_aload hx hb dL_isTold_116 (lv_at hl 5 rfl) ?_
          refine lv_iconst (v := 5) hx hb dL_isTold_118 (by decide) ?_
          refine rg_topi (y := nI 5) (by exact rfl) ?_
          refine rg_ialdN C0 hH (o := 417) (j := 5) (n0 := 9) (by decide) rfl rfl (by omega) dL_isTold_119 ?_
          refine rg_topi (y := nI (rg_no M)) (by exact (rp_m hI).2.2.2.2.2.1.trans (rg_CI_o (rp_ci hI)).1) ?_
          refine lv_if_le (tgt := 125) hx hb dL_isTold_120 (by decide) (fun c_120 => ?_) (fun c_120 => ?_)
          · have hlt8 : rg_nl M < rg_nt M := by
              rcases Nat.lt_or_ge (rg_nl M) (rg_nt M) with q | q
              · exact q
              · exact absurd (by rw [show rg_nl M = rg_nt M by omega]) c_113
            have hno0 : rg_no M = 0 := (lw_le0 (by omega)).mp c_120
            refine lv_aload hx hb dL_isTold_125 (lv_at hl 5 rfl) ?_
            refine lv_iconst (v := 3) hx hb dL_isTold_127 (by decide) ?_
            refine rg_topi (y := nI 3) (by exact rfl) ?_
            refine rg_ialdN C0 hH (o := 417) (j := 3) (n0 := 9) (by decide) rfl rfl (by omega) dL_isTold_128 ?_
            refine rg_topi (y := nI (rg_nl M)) (by exact (rp_m hI).2.2.2.1.trans (rg_CI_l (rp_ci hI)).1) ?_
            refine lv_iload hx hb dL_isTold_129 (lv_at hl 9 rfl) ?_
            refine lv_aload hx hb dL_isTold_131 (lv_at hl 5 rfl) ?_
            refine lv_iconst (v := 4) hx hb dL_isTold_133 (by decide) ?_
            refine rg_topi (y := nI 4) (by exact rfl) ?_
            refine rg_ialdN C0 hH (o := 417) (j := 4) (n0 := 9) (by decide) rfl rfl (by omega) dL_isTold_134 ?_
            refine rg_topi (y := nI (rg_nt M)) (by exact (rp_m hI).2.2.2.2.1.trans (rg_CI_t (rp_ci hI)).1) ?_
            refine lv_aload hx hb dL_isTold_135 (lv_at hl 5 rfl) ?_
            refine lv_iconst (v := 3) hx hb dL_isTold_137 (by decide) ?_
            refine rg_topi (y := nI 3) (by exact rfl) ?_
            refine rg_ialdN C0 hH (o := 417) (j := 3) (n0 := 9) (by decide) rfl rfl (by omega) dL_isTold_138 ?_
            refine rg_topi (y := nI (rg_nl M)) (by exact (rp_m hI).2.2.2.1.trans (rg_CI_l (rp_ci hI)).1) ?_
            refine lv_isub hx hb dL_isTold_139 ?_
            refine rg_topi (y := nI ((rg_nt M) - (rg_nl M))) (by exact lw_sub (d := rg_nl M) (by omega)) ?_
            refine lv_irem hx hb dL_isTold_140 (by exact nI_ne0 (by omega) (by omega)) ?_
            refine rg_topi (y := nI (zz % ((rg_nt M) - (rg_nl M)))) (by exact pk_rem (a := zz) (d := (rg_nt M) - (rg_nl M)) (by omega) (by omega) (by omega)) ?_
            refine lv_iadd hx hb dL_isTold_141 ?_
            refine rg_topi (y := nI ((rg_nl M) + (zz % ((rg_nt M) - (rg_nl M))))) (by exact nI_add (rg_nl M) (zz % ((rg_nt M) - (rg_nl M)))) ?_
            refine lv_istore (lv' := [(10, .int (nI ((rg_nl M) + (zz % ((rg_nt M) - (rg_nl M)))))), (0, .ref (B + 0)), (1, .ref (B + 413)), (2, .ref (B + 414)), (3, .ref (B + 415)), (4, .ref (B + 416)), (5, .ref (B + 417)), (6, .ref (B + 420)), (7, .ref (B + 421)), (8, .int (nI wy)), (9, .int (nI zz))]) hx hb dL_isTold_142 hl (by decide) rfl (fun ls hl => ?_)
            obtain ⟨j, hd_j⟩ : ∃ j, j = rg_nl M + zz % (rg_nt M - rg_nl M) := ⟨_, rfl⟩
            have hjr : rg_nl M ≤ j ∧ j < rg_nt M := by have := Nat.mod_lt zz (show 0 < rg_nt M - rg_nl M by omega); omega
            replace hl : lv_has ls 14 [(10, .int (nI j)), (0, .ref (B + 0)), (1, .ref (B + 413)), (2, .ref (B + 414)), (3, .ref (B + 415)), (4, .ref (B + 416)), (5, .ref (B + 417)), (6, .ref (B + 420)), (7, .ref (B + 421)), (8, .int (nI wy)), (9, .int (nI zz))] := by rw [hd_j]; exact hl
            refine lv_aload_n hx hb dL_isTold_144 rfl (lv_at hl 4 rfl) ?_
            refine lv_iconst (v := 4) hx hb dL_isTold_145 (by decide) ?_
            refine lv_iload hx hb dL_isTold_146 (lv_at hl 0 rfl) ?_
            refine lv_imul hx hb dL_isTold_148 ?_
            refine rg_topi (y := nI (4 * j)) (by exact lw_mul (4) (j)) ?_
            refine lv_iconst (v := 1) hx hb dL_isTold_149 (by decide) ?_
            refine lv_iadd hx hb dL_isTold_150 ?_
            refine rg_topi (y := nI ((4 * j) + 1)) (by exact nI_add (4 * j) (1)) ?_
            refine rg_ialdN C0 hH (o := 415) (j := ((4 * j) + 1)) (n0 := 44) (by decide) rfl rfl (by omega) dL_isTold_151 ?_
            refine lv_istore (lv' := [(11, .int (M.1 415 (((4 * j) + 1)))), (10, .int (nI j)), (0, .ref (B + 0)), (1, .ref (B + 413)), (2, .ref (B + 414)), (3, .ref (B + 415)), (4, .ref (B + 416)), (5, .ref (B + 417)), (6, .ref (B + 420)), (7, .ref (B + 421)), (8, .int (nI wy)), (9, .int (nI zz))]) hx hb dL_isTold_152 hl (by decide) rfl (fun ls hl => ?_)
            refine lv_aload_n hx hb dL_isTold_154 rfl (lv_at hl 5 rfl) ?_
            have cut_184 : ∀ (yv : Nat) (H : Heap) (locs : List Loc) (ls : Array Slot), rg_H E B 422 rg_R0 M s H locs → lv_has ls 14 [(11, .int (M.1 415 (((4 * j) + 1)))), (10, .int (nI j)), (0, .ref (B + 0)), (1, .ref (B + 413)), (2, .ref (B + 414)), (3, .ref (B + 415)), (4, .ref (B + 416)), (5, .ref (B + 417)), (6, .ref (B + 420)), (7, .ref (B + 421)), (8, .int (nI wy)), (9, .int (nI zz))] → (yv ≤ 2) → W p l e ({ frames := 9, cells := 3, slots := 18, locals := 153 } : Room) s m args below meth c H locs 0 0 (MQ below (rg_Wi E B 422 rg_R0 (fun r M1 => r = 1 ∧ rp_Inv M1)) args s 3 18 (rg_A B)) (F0 m 184 ls [.int (nI yv), .int (nI (4 * j + 1)), .ref (B + 415)]) := by
              intro yv H locs ls hH hl hyv
              refine rg_iastN C0 hH (o := 415) (j := (4 * j + 1)) (n0 := 44) (by decide) rfl rfl (by omega) dL_isTold_184 (fun H locs hH => ?_)
              generalize eX : rg_I M 415 ((4 * j + 1)) (nI yv) = X at hH
              have x0 : ∀ c, c ≠ 415 → X.1 c = M.1 c := fun c h1 => by subst eX; rw [rg_I_cell h1]
              have x2 : X.2 = M.2 := by subst eX; rfl
              have x5 : ∀ k, X.1 415 k = if k = 4 * j + 1 then nI yv else M.1 415 k := fun k => by subst eX; rw [rg_I_at]
              have hC : rg_CI X := rg_CI_c2 (rp_ci hI) (fun c hc => x0 c (by omega)) (fun c hc => by rw [x2])
              have enl : rg_nl X = rg_nl M := by unfold rg_nl; rw [x0 6 (by omega)]
              have ent : rg_nt X = rg_nt M := by unfold rg_nt; rw [x0 6 (by omega)]
              have eno : rg_no X = rg_no M := by unfold rg_no; rw [x0 0 (by omega)]
              refine lv_aload_n hx hb dL_isTold_185 rfl (lv_at hl 2 rfl) ?_
              refine lv_iload hx hb dL_isTold_186 (lv_at hl 1 rfl) ?_
              refine lv_aload_n hx hb dL_isTold_188 rfl (lv_at hl 5 rfl) ?_
              refine lv_iconst (v := 4) hx hb dL_isTold_189 (by decide) ?_
              refine lv_iload hx hb dL_isTold_190 (lv_at hl 1 rfl) ?_
              refine lv_imul hx hb dL_isTold_192 ?_
              refine rg_topi (y := nI (4 * j)) (by exact lw_mul (4) (j)) ?_
              refine lv_iconst (v := 1) hx hb dL_isTold_193 (by decide) ?_
              refine lv_iadd hx hb dL_isTold_194 ?_
              refine rg_topi (y := nI ((4 * j) + 1)) (by exact nI_add (4 * j) (1)) ?_
              refine rg_ialdN C0 hH (o := 415) (j := ((4 * j) + 1)) (n0 := 44) (by decide) rfl rfl (by omega) dL_isTold_195 ?_
              refine rg_topi (y := nI yv) (by rw [x5, if_pos rfl]) ?_
              refine rg_callWi C0 hH (As := [.int (nI j), .int (nI yv)]) (rest := []) (o := 0) (ci := 6) (a_seat l E B X j yv hC (by omega) hyv (by omega) hst) (rg_cw 2 C0.1.2.2.2.2 tw_m_L_126 tw_i_X6_seat tw_v_X6_seat tw_n_X6 tw_c_X6_seat rfl rfl hd_X6_seat ⟨Nat.le_of_ble_eq_true rfl, Nat.le_of_ble_eq_true rfl⟩) rfl (by decide) rfl (by decide) rfl hl.1 rfl (Nat.le_of_ble_eq_true rfl) dL_isTold_196 ⟨Nat.le_of_ble_eq_true rfl, Nat.le_of_ble_eq_true rfl⟩ (fun r_196 M_196 H locs e_196 hH => ?_)
              have hF9 : rp_Inv M_196 := rp_seat (j := j) (y := nI yv) hI (by omega) (fun c h1 h2 => by rw [e_196.2, rg_I_cell h2, x0 c h1]) (by rw [e_196.2]; exact x2) (fun k => by rw [e_196.2, rg_I_cell (by omega)]; exact x5 k) (fun k => by rw [e_196.2, rg_I_at, x0 7 (by omega)])
              refine lv_iload hx hb dL_isTold_199 (lv_at hl 0 rfl) ?_
              refine lv_icmp_ne (tgt := 208) hx hb dL_isTold_201 (by decide) (fun c_201 => ?_) (fun c_201 => ?_)
              · exact absurd (by rw [e_196.1, x0 7 (by omega)]; exact (rp_l hI j (by omega)).1.symm) c_201
              · refine lv_iconst (v := 1) hx hb dL_isTold_204 (by decide) ?_
                refine lv_goto (tgt := 209) hx hb dL_isTold_205 (by decide) ?_
                refine W.widen (k := 3) (n := 18) (Nat.le_of_ble_eq_true rfl) (Nat.le_of_ble_eq_true rfl) ?_
                exact rg_retWz C0 hH hr hlocks (Or.inr rfl) (by exact ⟨rfl, hF9⟩) dL_isTold_209
            refine lv_iconst (v := 4) hx hb dL_isTold_155 (by decide) ?_
            refine lv_iload hx hb dL_isTold_156 (lv_at hl 1 rfl) ?_
            refine lv_imul hx hb dL_isTold_158 ?_
            refine rg_topi (y := nI (4 * j)) (by exact lw_mul (4) (j)) ?_
            refine lv_iconst (v := 1) hx hb dL_isTold_159 (by decide) ?_
            refine lv_iadd hx hb dL_isTold_160 ?_
            refine rg_topi (y := nI ((4 * j) + 1)) (by exact nI_add (4 * j) (1)) ?_
            refine lv_iload hx hb dL_isTold_161 (lv_at hl 11 rfl) ?_
            refine lv_bipush (v := 10) hx hb dL_isTold_163 (by decide) ?_
            refine lv_idiv hx hb dL_isTold_165 (by decide) ?_
            refine rg_topi (y := nI (zz / 10)) (by exact pk_div (a := zz) (d := 10) (by omega) (by omega) (by omega)) ?_
            refine lv_bipush (v := 6) hx hb dL_isTold_166 (by decide) ?_
            refine lv_irem hx hb dL_isTold_168 (by decide) ?_
            refine rg_topi (y := nI ((zz / 10) % 6)) (by exact pk_rem (a := zz / 10) (d := 6) (by omega) (by omega) (by omega)) ?_
            refine lv_iconst (v := 2) hx hb dL_isTold_169 (by decide) ?_
            refine lv_icmp_le (tgt := 177) hx hb dL_isTold_170 (by decide) (fun c_170 => ?_) (fun c_170 => ?_)
            · refine lv_iload hx hb dL_isTold_177 (lv_at hl 11 rfl) ?_
              refine lv_bipush (v := 10) hx hb dL_isTold_179 (by decide) ?_
              refine lv_idiv hx hb dL_isTold_181 (by decide) ?_
              refine rg_topi (y := nI (zz / 10)) (by exact pk_div (a := zz) (d := 10) (by omega) (by omega) (by omega)) ?_
              refine lv_iconst (v := 3) hx hb dL_isTold_182 (by decide) ?_
              refine lv_irem hx hb dL_isTold_183 (by decide) ?_
              refine rg_topi (y := nI ((zz / 10) % 3)) (by exact pk_rem (a := zz / 10) (d := 3) (by omega) (by omega) (by omega)) ?_
              exact cut_184 ((zz / 10) % 3) _ _ _ hH (lv_sub hl [0, 1, 2, 3, 4, 5, 6, 7, 8, 9, 10, 11] rfl) (by omega)
            · refine lv_iconst (v := 0) hx hb dL_isTold_173 (by decide) ?_
              refine lv_goto (tgt := 184) hx hb dL_isTold_174 (by decide) ?_
              refine rg_topi (y := nI 0) (by rfl) ?_
              exact cut_184 0 _ _ _ hH (lv_sub hl [0, 1, 2, 3, 4, 5, 6, 7, 8, 9, 10, 11] rfl) (by omega)
          · refine lv_iconst (v := 1) hx hb dL_isTold_123 (by decide) ?_
            refine W.widen (k := 3) (n := 18) (Nat.le_of_ble_eq_true rfl) (Nat.le_of_ble_eq_true rfl) ?_
            exact rg_retWz C0 hH hr hlocks (Or.inr rfl) (by exact ⟨rfl, hI⟩) dL_isTold_124
  · refine lv_iload hx hb dL_isTold_5 (lv_at hl 9 rfl) ?_
    refine lv_bipush (v := 16) hx hb dL_isTold_7 (by decide) ?_
    refine lv_irem hx hb dL_isTold_9 (by decide) ?_
    refine rg_topi (y := nI (zz % 16)) (by exact pk_rem (a := zz) (d := 16) (by omega) (by omega) (by omega)) ?_
    refine lv_istore (lv' := [(10, .int (nI (zz % 16))), (0, .ref (B + 0)), (1, .ref (B + 413)), (2, .ref (B + 414)), (3, .ref (B + 415)), (4, .ref (B + 416)), (5, .ref (B + 417)), (6, .ref (B + 420)), (7, .ref (B + 421)), (8, .int (nI wy)), (9, .int (nI zz))]) hx hb dL_isTold_10 hl (by decide) rfl (fun ls hl => ?_)
    obtain ⟨a1, hd_a1⟩ : ∃ a1, a1 = zz % 16 := ⟨_, rfl⟩
    have ha1 : a1 < 16 := by omega
    replace hl : lv_has ls 14 [(10, .int (nI a1)), (0, .ref (B + 0)), (1, .ref (B + 413)), (2, .ref (B + 414)), (3, .ref (B + 415)), (4, .ref (B + 416)), (5, .ref (B + 417)), (6, .ref (B + 420)), (7, .ref (B + 421)), (8, .int (nI wy)), (9, .int (nI zz))] := by rw [hd_a1]; exact hl
    refine lv_iload hx hb dL_isTold_12 (lv_at hl 0 rfl) ?_
    refine lv_iconst (v := 1) hx hb dL_isTold_14 (by decide) ?_
    refine lv_iadd hx hb dL_isTold_15 ?_
    refine rg_topi (y := nI (a1 + 1)) (by exact nI_add (a1) (1)) ?_
    refine lv_iload hx hb dL_isTold_16 (lv_at hl 10 rfl) ?_
    refine lv_bipush (v := 16) hx hb dL_isTold_18 (by decide) ?_
    refine lv_idiv hx hb dL_isTold_20 (by decide) ?_
    refine rg_topi (y := nI (zz / 16)) (by exact pk_div (a := zz) (d := 16) (by omega) (by omega) (by omega)) ?_
    refine lv_bipush (v := 15) hx hb dL_isTold_21 (by decide) ?_
    refine lv_irem hx hb dL_isTold_23 (by decide) ?_
    refine rg_topi (y := nI ((zz / 16) % 15)) (by exact pk_rem (a := zz / 16) (d := 15) (by omega) (by omega) (by omega)) ?_
    refine lv_iadd hx hb dL_isTold_24 ?_
    refine rg_topi (y := nI ((a1 + 1) + ((zz / 16) % 15))) (by exact nI_add (a1 + 1) ((zz / 16) % 15)) ?_
    refine lv_bipush (v := 16) hx hb dL_isTold_25 (by decide) ?_
    refine lv_irem hx hb dL_isTold_27 (by decide) ?_
    refine rg_topi (y := nI (((a1 + 1) + ((zz / 16) % 15)) % 16)) (by exact pk_rem (a := (a1 + 1) + ((zz / 16) % 15)) (d := 16) (by omega) (by omega) (by omega)) ?_
    refine lv_istore (lv' := [(11, .int (nI (((a1 + 1) + ((zz / 16) % 15)) % 16))), (10, .int (nI a1)), (0, .ref (B + 0)), (1, .ref (B + 413)), (2, .ref (B + 414)), (3, .ref (B + 415)), (4, .ref (B + 416)), (5, .ref (B + 417)), (6, .ref (B + 420)), (7, .ref (B + 421)), (8, .int (nI wy)), (9, .int (nI zz))]) hx hb dL_isTold_28 hl (by decide) rfl (fun ls hl => ?_)
    obtain ⟨b1, hd_b1⟩ : ∃ b1, b1 = (a1 + 1 + zz / 16 % 15) % 16 := ⟨_, rfl⟩
    have hb1 : b1 < 16 := by omega
    have hab1 : a1 ≠ b1 := by omega
    replace hl : lv_has ls 14 [(11, .int (nI b1)), (10, .int (nI a1)), (0, .ref (B + 0)), (1, .ref (B + 413)), (2, .ref (B + 414)), (3, .ref (B + 415)), (4, .ref (B + 416)), (5, .ref (B + 417)), (6, .ref (B + 420)), (7, .ref (B + 421)), (8, .int (nI wy)), (9, .int (nI zz))] := by rw [hd_b1]; exact hl
    refine lv_aload_n hx hb dL_isTold_30 rfl (lv_at hl 3 rfl) ?_
    have cut_48 : ∀  (H : Heap) (locs : List Loc) (ls : Array Slot), rg_H E B 422 rg_R0 M s H locs → lv_has ls 14 [(11, .int (nI b1)), (10, .int (nI a1)), (0, .ref (B + 0)), (1, .ref (B + 413)), (2, .ref (B + 414)), (3, .ref (B + 415)), (4, .ref (B + 416)), (5, .ref (B + 417)), (6, .ref (B + 420)), (7, .ref (B + 421)), (8, .int (nI wy)), (9, .int (nI zz))] → W p l e ({ frames := 9, cells := 3, slots := 18, locals := 153 } : Room) s m args below meth c H locs 0 0 (MQ below (rg_Wi E B 422 rg_R0 (fun r M1 => r = 1 ∧ rp_Inv M1)) args s 3 18 (rg_A B)) (F0 m 48 ls [.int (rg_b ((M.1 413 a1 >>> (nI b1 &&& 31)) &&& 1 = 1))]) := by
      intro  H locs ls hH hl 
      refine lv_istore (lv' := [(12, .int (rg_b ((M.1 413 a1 >>> (nI b1 &&& 31)) &&& 1 = 1))), (11, .int (nI b1)), (10, .int (nI a1)), (0, .ref (B + 0)), (1, .ref (B + 413)), (2, .ref (B + 414)), (3, .ref (B + 415)), (4, .ref (B + 416)), (5, .ref (B + 417)), (6, .ref (B + 420)), (7, .ref (B + 421)), (8, .int (nI wy)), (9, .int (nI zz))]) hx hb dL_isTold_48 hl (by decide) rfl (fun ls hl => ?_)
      refine lv_aload_n hx hb dL_isTold_50 rfl (lv_at hl 4 rfl) ?_
      refine lv_iload hx hb dL_isTold_51 (lv_at hl 2 rfl) ?_
      refine lv_dup2_11 hx hb dL_isTold_53 rfl rfl ?_
      refine rg_ialdN C0 hH (o := 413) (j := a1) (n0 := 16) (by decide) rfl rfl (by omega) dL_isTold_54 ?_
      refine lv_iconst (v := 1) hx hb dL_isTold_55 (by decide) ?_
      refine lv_iload hx hb dL_isTold_56 (lv_at hl 1 rfl) ?_
      refine lv_ishl hx hb dL_isTold_58 ?_
      refine lv_ior hx hb dL_isTold_59 ?_
      refine rg_iastN C0 hH (o := 413) (j := a1) (n0 := 16) (by decide) rfl rfl (by omega) dL_isTold_60 (fun H locs hH => ?_)
      refine lv_aload_n hx hb dL_isTold_61 rfl (lv_at hl 4 rfl) ?_
      refine lv_iload hx hb dL_isTold_62 (lv_at hl 1 rfl) ?_
      refine lv_dup2_11 hx hb dL_isTold_64 rfl rfl ?_
      refine rg_ialdN C0 hH (o := 413) (j := b1) (n0 := 16) (by decide) rfl rfl (by omega) dL_isTold_65 ?_
      refine rg_topi (y := M.1 413 b1) (by rw [rg_I_slot (by omega)]) ?_
      refine lv_iconst (v := 1) hx hb dL_isTold_66 (by decide) ?_
      refine lv_iload hx hb dL_isTold_67 (lv_at hl 2 rfl) ?_
      refine lv_ishl hx hb dL_isTold_69 ?_
      refine lv_ior hx hb dL_isTold_70 ?_
      refine rg_iastN C0 hH (o := 413) (j := b1) (n0 := 16) (by decide) rfl rfl (by omega) dL_isTold_71 (fun H locs hH => ?_)
      generalize eX : rg_I (rg_I M 413 a1 ((M.1 413 a1) ||| ((1 : Int32) <<< ((nI b1) &&& 31)))) 413 b1 ((M.1 413 b1) ||| ((1 : Int32) <<< ((nI a1) &&& 31))) = X at hH
      have x0 : ∀ c, c ≠ 413 → X.1 c = M.1 c := fun c h1 => by subst eX; rw [rg_I_cell h1, rg_I_cell h1]
      have x2 : X.2 = M.2 := by subst eX; rfl
      have x3 : ∀ k, X.1 413 k = if k = b1 then M.1 413 b1 ||| (1 : Int32) <<< (nI a1 &&& 31) else if k = a1 then M.1 413 a1 ||| (1 : Int32) <<< (nI b1 &&& 31) else M.1 413 k := fun k => by subst eX; rw [rg_I_at, rg_I_at]
      have hC : rg_CI X := rg_CI_c2 (rp_ci hI) (fun c hc => x0 c (by omega)) (fun c hc => by rw [x2])
      refine lv_aload_n hx hb dL_isTold_72 rfl (lv_at hl 3 rfl) ?_
      refine lv_iload hx hb dL_isTold_73 (lv_at hl 2 rfl) ?_
      refine lv_iload hx hb dL_isTold_75 (lv_at hl 1 rfl) ?_
      refine rg_callWi C0 hH (As := [.int (nI a1), .int (nI b1)]) (rest := []) (o := 0) (ci := 6) (a_call l E B X a1 b1 hC ⟨by unfold rg_has; rw [x0 1 (by omega)]; exact rp_has2 hI ha1, by omega⟩ ⟨by unfold rg_has; rw [x0 1 (by omega)]; exact rp_has2 hI hb1, by omega⟩ hab1 hst) (rg_cw 2 C0.1.2.2.2.2 tw_m_L_122 tw_i_X6_call tw_v_X6_call tw_n_X6 tw_c_X6_call rfl rfl hd_X6_call ⟨Nat.le_of_ble_eq_true rfl, Nat.le_of_ble_eq_true rfl⟩) rfl (by decide) rfl (by decide) rfl hl.1 rfl (Nat.le_of_ble_eq_true rfl) dL_isTold_77 ⟨Nat.le_of_ble_eq_true rfl, Nat.le_of_ble_eq_true rfl⟩ (fun r_77 M_77 H locs e_77 hH => ?_)
      have hF9 : rp_Inv M_77 := rp_call hI ha1 hb1 hab1 (fun c h1 => by rw [e_77.2]; exact x0 c h1) (fun c h1 => by rw [e_77.2, rg_J_cell h1, rg_J_cell h1, x2]) (fun k => by rw [e_77.2]; exact x3 k) (fun k => by rw [e_77.2, rg_J_at, rg_J_at, rg_J_at, if_neg (Ne.symm hab1), x2])
      refine lv_iload hx hb dL_isTold_80 (lv_at hl 0 rfl) ?_
      refine lv_icmp_ne (tgt := 89) hx hb dL_isTold_82 (by decide) (fun c_82 => ?_) (fun c_82 => ?_)
      · exact absurd (by rw [e_77.1, x2]; exact rp_had hI ha1 hb1) c_82
      · refine lv_iconst (v := 1) hx hb dL_isTold_85 (by decide) ?_
        refine lv_goto (tgt := 90) hx hb dL_isTold_86 (by decide) ?_
        exact rg_retWz C0 hH hr hlocks (Or.inr rfl) (by exact ⟨rfl, hF9⟩) dL_isTold_90
    refine lv_iload hx hb dL_isTold_31 (lv_at hl 1 rfl) ?_
    refine rg_ialdN C0 hH (o := 413) (j := a1) (n0 := 16) (by decide) rfl rfl (by omega) dL_isTold_33 ?_
    refine lv_iload hx hb dL_isTold_34 (lv_at hl 0 rfl) ?_
    refine lv_ishr hx hb dL_isTold_36 ?_
    refine lv_iconst (v := 1) hx hb dL_isTold_37 (by decide) ?_
    refine lv_iand hx hb dL_isTold_38 ?_
    refine lv_iconst (v := 1) hx hb dL_isTold_39 (by decide) ?_
    refine lv_icmp_ne (tgt := 47) hx hb dL_isTold_40 (by decide) (fun c_40 => ?_) (fun c_40 => ?_)
    · refine lv_iconst (v := 0) hx hb dL_isTold_47 (by decide) ?_
      refine rg_topi (y := rg_b ((M.1 413 a1 >>> (nI b1 &&& 31)) &&& 1 = 1)) (by exact rg_b_f c_40) ?_
      exact cut_48 _ _ _ hH (lv_sub hl [0, 1, 2, 3, 4, 5, 6, 7, 8, 9, 10, 11] rfl)
    · refine lv_iconst (v := 1) hx hb dL_isTold_43 (by decide) ?_
      refine lv_goto (tgt := 48) hx hb dL_isTold_44 (by decide) ?_
      refine rg_topi (y := rg_b ((M.1 413 a1 >>> (nI b1 &&& 31)) &&& 1 = 1)) (by exact rg_b_t c_40) ?_
      exact cut_48 _ _ _ hH (lv_sub hl [0, 1, 2, 3, 4, 5, 6, 7, 8, 9, 10, 11] rfl)
