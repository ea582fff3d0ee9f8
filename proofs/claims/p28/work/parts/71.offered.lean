set_option maxHeartbeats 4000000 in
set_option maxRecDepth 100000 in
/-- a row of words is offered -/
theorem k_L_isOffered (l : Launch) (E : rg_Env) (B : Nat) (M : rg_Mem) (zz : Nat) (hI : rp_Inv M) (hz : zz < 1000000000) (hst : l.stackTraces = false) : Met l yL_isOffered (rg_w yL_isOffered cL_isOffered 14 (some (FieldType.boolean))) ({ frames := 8, cells := 12, slots := 72, locals := 162 } : Room) (va_Pc [.ref (B + 0), .ref (B + 412), .ref (B + 413), .ref (B + 414), .ref (B + 415), .ref (B + 417), .ref (B + 418), .ref (B + 419), .int (nI zz)] (rg_Pre E B 422 rg_R0 M)) (rg_Wi E B 422 rg_R0 (fun r M1 => r = 1 ∧ rp_Inv M1)) 12 72 (rg_A B) := by
  refine rg_ofW (by decide +kernel) rfl (Nat.le_of_ble_eq_true rfl) ?_
  intro p e s m args below meth c ls C0 hH hl hr hlocks hnm
  replace hl : lv_has ls 14 [(0, .ref (B + 0)), (1, .ref (B + 412)), (2, .ref (B + 413)), (3, .ref (B + 414)), (4, .ref (B + 415)), (5, .ref (B + 417)), (6, .ref (B + 418)), (7, .ref (B + 419)), (8, .int (nI zz))] := hl
  have hx := C0.1.1
  have hb := C0.1.2.1
  generalize hH9 : s.heap = H at hH ⊢
  generalize hL9 : ([] : List Loc) = locs at hH ⊢
  clear hH9 hL9
  have hlt9 := rp_nl hI
  have hno9 := (rg_CI_o (rp_ci hI)).2
  refine lv_iload hx hb dL_isOffered_0 (lv_at hl 8 rfl) ?_
  refine lv_iconst (v := 3) hx hb dL_isOffered_2 (by decide) ?_
  refine lv_irem hx hb dL_isOffered_3 (by decide) ?_
  refine rg_topi (y := nI (zz % 3)) (by exact pk_rem (a := zz) (d := 3) (by omega) (by omega) (by omega)) ?_
  refine lv_istore (lv' := [(9, .int (nI (zz % 3))), (0, .ref (B + 0)), (1, .ref (B + 412)), (2, .ref (B + 413)), (3, .ref (B + 414)), (4, .ref (B + 415)), (5, .ref (B + 417)), (6, .ref (B + 418)), (7, .ref (B + 419)), (8, .int (nI zz))]) hx hb dL_isOffered_4 hl (by decide) rfl (fun ls hl => ?_)
  obtain ⟨pt, hd_pt⟩ : ∃ pt, pt = zz % 3 := ⟨_, rfl⟩
  have hpt : pt < 3 := by omega
  replace hl : lv_has ls 14 [(9, .int (nI pt)), (0, .ref (B + 0)), (1, .ref (B + 412)), (2, .ref (B + 413)), (3, .ref (B + 414)), (4, .ref (B + 415)), (5, .ref (B + 417)), (6, .ref (B + 418)), (7, .ref (B + 419)), (8, .int (nI zz))] := by rw [hd_pt]; exact hl
  refine lv_aload hx hb dL_isOffered_6 (lv_at hl 6 rfl) ?_
  refine lv_bipush (v := 8) hx hb dL_isOffered_8 (by decide) ?_
  refine rg_topi (y := nI 8) (by exact rfl) ?_
  refine rg_ialdN C0 hH (o := 417) (j := 8) (n0 := 9) (by decide) rfl rfl (by omega) dL_isOffered_10 ?_
  refine rg_topi (y := rg_b (0 < rg_nt M)) (by exact (rp_m hI).2.2.2.2.2.2.2.2) ?_
  refine lv_if_eq (tgt := 33) hx hb dL_isOffered_11 (by decide) (fun c_11 => ?_) (fun c_11 => ?_)
  · refine lv_iconst (v := 1) hx hb dL_isOffered_33 (by decide) ?_
    refine W.widen (k := 12) (n := 72) (Nat.le_of_ble_eq_true rfl) (Nat.le_of_ble_eq_true rfl) ?_
    exact rg_retWz C0 hH hr hlocks (Or.inr rfl) (by exact ⟨rfl, hI⟩) dL_isOffered_34
  · refine lv_aload hx hb dL_isOffered_14 (lv_at hl 6 rfl) ?_
    refine lv_iconst (v := 3) hx hb dL_isOffered_16 (by decide) ?_
    refine rg_topi (y := nI 3) (by exact rfl) ?_
    refine rg_ialdN C0 hH (o := 417) (j := 3) (n0 := 9) (by decide) rfl rfl (by omega) dL_isOffered_17 ?_
    refine rg_topi (y := nI (rg_nl M)) (by exact (rp_m hI).2.2.2.1.trans (rg_CI_l (rp_ci hI)).1) ?_
    refine lv_aload hx hb dL_isOffered_18 (lv_at hl 6 rfl) ?_
    refine lv_iconst (v := 4) hx hb dL_isOffered_20 (by decide) ?_
    refine rg_topi (y := nI 4) (by exact rfl) ?_
    refine rg_ialdN C0 hH (o := 417) (j := 4) (n0 := 9) (by decide) rfl rfl (by omega) dL_isOffered_21 ?_
    refine rg_topi (y := nI (rg_nt M)) (by exact (rp_m hI).2.2.2.2.1.trans (rg_CI_t (rp_ci hI)).1) ?_
    refine lv_icmp_eq (tgt := 33) hx hb dL_isOffered_22 (by decide) (fun c_22 => ?_) (fun c_22 => ?_)
    · refine lv_iconst (v := 1) hx hb dL_isOffered_33 (by decide) ?_
      refine W.widen (k := 12) (n := 72) (Nat.le_of_ble_eq_true rfl) (Nat.le_of_ble_eq_true rfl) ?_
      exact rg_retWz C0 hH hr hlocks (Or.inr rfl) (by exact ⟨rfl, hI⟩) dL_isOffered_34
    · refine lv_aload hx hb dL_isOffered_25 (lv_at hl 6 rfl) ?_
      refine lv_iconst (v := 5) hx hb dL_isOffered_27 (by decide) ?_
      refine rg_topi (y := nI 5) (by exact rfl) ?_
      refine rg_ialdN C0 hH (o := 417) (j := 5) (n0 := 9) (by decide) rfl rfl (by omega) dL_isOffered_28 ?_
      refine rg_topi (y := nI (rg_no M)) (by exact (rp_m hI).2.2.2.2.2.1.trans (rg_CI_o (rp_ci hI)).1) ?_
      refine lv_iconst (v := 4) hx hb dL_isOffered_29 (by decide) ?_
      refine lv_icmp_ne (tgt := 35) hx hb dL_isOffered_30 (by decide) (fun c_30 => ?_) (fun c_30 => ?_)
      · have hlt8 : rg_nl M < rg_nt M := by
          rcases Nat.lt_or_ge (rg_nl M) (rg_nt M) with q | q
          · exact q
          · exact absurd (by rw [show rg_nl M = rg_nt M by omega]) c_22
        have hno8 : rg_no M < 4 := by
          rcases Nat.lt_or_ge (rg_no M) 4 with q | q
          · exact q
          · exact absurd (by rw [show rg_no M = 4 by omega]; rfl) c_30
        refine lv_iload hx hb dL_isOffered_35 (lv_at hl 9 rfl) ?_
        have cut_294 : ∀ (Mz : rg_Mem) (H : Heap) (locs : List Loc) (ls : Array Slot), rg_H E B 422 rg_R0 Mz s H locs → lv_has ls 14 [(9, .int (nI pt)), (0, .ref (B + 0)), (1, .ref (B + 412)), (2, .ref (B + 413)), (3, .ref (B + 414)), (4, .ref (B + 415)), (5, .ref (B + 417)), (6, .ref (B + 418)), (7, .ref (B + 419)), (8, .int (nI zz))] → (rp_Inv Mz) → (rg_nl Mz = rg_nl M ∧ rg_nt Mz = rg_nt M ∧ rg_no Mz = rg_no M) → W p l e ({ frames := 8, cells := 12, slots := 72, locals := 162 } : Room) s m args below meth c H locs 10 60 (MQ below (rg_Wi E B 422 rg_R0 (fun r M1 => r = 1 ∧ rp_Inv M1)) args s 12 72 (rg_A B)) (F0 m 294 ls []) := by
          intro Mz H locs ls hH hl hIz hqz
          refine lv_aload_n hx hb dL_isOffered_294 rfl (lv_at hl 2 rfl) ?_
          refine lv_aload_n hx hb dL_isOffered_295 rfl (lv_at hl 3 rfl) ?_
          refine lv_aload_n hx hb dL_isOffered_296 rfl (lv_at hl 4 rfl) ?_
          refine lv_aload hx hb dL_isOffered_297 (lv_at hl 5 rfl) ?_
          refine lv_aload hx hb dL_isOffered_299 (lv_at hl 6 rfl) ?_
          refine lv_aload hx hb dL_isOffered_301 (lv_at hl 7 rfl) ?_
          refine lv_iload hx hb dL_isOffered_303 (lv_at hl 0 rfl) ?_
          refine rg_callSGi C0 hH (As := [.ref (B + 412), .ref (B + 413), .ref (B + 414), .ref (B + 415), .ref (B + 417), .ref (B + 418), .int (nI pt)]) (rest := []) (k_L_looked l E B Mz 422 418 (rg_nl Mz) (rg_sp Mz) (nI pt) (by omega) (rp_TI hIz) (rp_wi hIz) (by omega) ((rp_m hIz).1.trans (rg_CI_s (rp_ci hIz)).1) (rg_CI_s (rp_ci hIz)).2 ((rp_m hIz).2.2.2.1.trans (rg_CI_l (rp_ci hIz)).1) (fun k hk => (rp_t hIz).2 _ (by omega) (by omega)) (by omega) rfl rfl (by omega) (rp_din hIz)) (rg_cwS 7 C0.1.2.2.2.2 tw_m_L_46 tw_s_L_looked tw_n_L tw_c_L_looked rfl rfl hd_L_looked ⟨Nat.le_of_ble_eq_true rfl, Nat.le_of_ble_eq_true rfl⟩) rfl hl.1 rfl (Nat.le_of_ble_eq_true rfl) dL_isOffered_305 ⟨Nat.le_of_ble_eq_true rfl, Nat.le_of_ble_eq_true rfl⟩ (fun H locs hH => ?_)
          refine lv_istore (lv' := [(10, .int (lw_fl (lw_cs (lw_row Mz (rg_nl Mz) (Mz.1 418)) (rg_nl Mz) (rg_sp Mz) (nI pt)))), (9, .int (nI pt)), (0, .ref (B + 0)), (1, .ref (B + 412)), (2, .ref (B + 413)), (3, .ref (B + 414)), (4, .ref (B + 415)), (5, .ref (B + 417)), (6, .ref (B + 418)), (7, .ref (B + 419)), (8, .int (nI zz))]) hx hb dL_isOffered_308 hl (by decide) rfl (fun ls hl => ?_)
          have hFL := (rp_flA (r := Mz.1 418) (po := nI pt) hIz (Nat.le_refl _) (by omega) (rp_d hIz) (rg_CI_d (rp_ci hIz)).2.1 (rp_VSw hIz (rg_CI_d (rp_ci hIz))) (Or.inr ⟨pt, by omega, rfl⟩))
          refine lv_iload hx hb dL_isOffered_310 (lv_at hl 0 rfl) ?_
          refine lv_if_le (tgt := 346) hx hb dL_isOffered_312 (by decide) (fun c_312 => ?_) (fun c_312 => ?_)
          · have hf0 := (rp_FL0 hFL).mp (by
              rcases hFL with q | ⟨t9, v9, ht1, ht8, hv9, hf8, hcq, hFX⟩
              · exact q.2
              · rw [hFX] at c_312
                have := (lw_le0 (t := 100 * t9 + v9) (by omega)).mp c_312
                omega)
            refine lv_aload hx hb dL_isOffered_346 (lv_at hl 9 rfl) ?_
            refine lv_bipush (v := 7) hx hb dL_isOffered_348 (by decide) ?_
            refine lv_aload hx hb dL_isOffered_350 (lv_at hl 7 rfl) ?_
            refine lv_iconst (v := 5) hx hb dL_isOffered_352 (by decide) ?_
            refine rg_topi (y := nI 5) (by exact rfl) ?_
            refine rg_ialdN C0 hH (o := 417) (j := 5) (n0 := 9) (by decide) rfl rfl (by omega) dL_isOffered_353 ?_
            refine rg_topi (y := nI (rg_no Mz)) (by exact (rp_m hIz).2.2.2.2.2.1.trans (rg_CI_o (rp_ci hIz)).1) ?_
            refine lv_imul hx hb dL_isOffered_354 ?_
            refine rg_topi (y := nI (7 * (rg_no Mz))) (by exact lw_mul (7) (rg_no Mz)) ?_
            refine lv_iload hx hb dL_isOffered_355 (lv_at hl 1 rfl) ?_
            refine rg_iastN C0 hH (o := 419) (j := (7 * (rg_no Mz))) (n0 := 28) (by decide) rfl rfl (by omega) dL_isOffered_357 (fun H locs hH => ?_)
            refine lv_iconst (v := 0) hx hb dL_isOffered_358 (by decide) ?_
            refine lv_istore (lv' := [(11, .int (0)), (10, .int (lw_fl (lw_cs (lw_row Mz (rg_nl Mz) (Mz.1 418)) (rg_nl Mz) (rg_sp Mz) (nI pt)))), (9, .int (nI pt)), (0, .ref (B + 0)), (1, .ref (B + 412)), (2, .ref (B + 413)), (3, .ref (B + 414)), (4, .ref (B + 415)), (5, .ref (B + 417)), (6, .ref (B + 418)), (7, .ref (B + 419)), (8, .int (nI zz))]) hx hb dL_isOffered_359 hl (by decide) rfl (fun ls hl => ?_)
            have cut_361 : ∀ (fu i : Nat), i ≤ 6 ∧ 6 < i + fu → ∀  (H : Heap) (locs : List Loc) (ls : Array Slot), rg_H E B 422 rg_R0 (lw_fo Mz (rg_no Mz) pt i) s H locs → lv_has ls 14 [(9, .int (nI pt)), (0, .ref (B + 0)), (1, .ref (B + 412)), (2, .ref (B + 413)), (3, .ref (B + 414)), (4, .ref (B + 415)), (5, .ref (B + 417)), (6, .ref (B + 418)), (7, .ref (B + 419)), (8, .int (nI zz)), (11, .int (nI i))] → W p l e ({ frames := 8, cells := 12, slots := 72, locals := 162 } : Room) s m args below meth c H locs 10 60 (MQ below (rg_Wi E B 422 rg_R0 (fun r M1 => r = 1 ∧ rp_Inv M1)) args s 12 72 (rg_A B)) (F0 m 361 ls []) := by
              intro fu
              induction fu with
              | zero =>
                intro i hm
                exact absurd hm (by omega)
              | succ fu ih =>
                intro i hm  H locs ls hH hl 
                refine lv_iload hx hb dL_isOffered_361 (lv_at hl 10 rfl) ?_
                refine lv_bipush (v := 6) hx hb dL_isOffered_363 (by decide) ?_
                refine lv_icmp_ge (tgt := 400) hx hb dL_isOffered_365 (by decide) (fun c_365 => ?_) (fun c_365 => ?_)
                · have q6 : i = 6 := rg_lp_end (n := 6) hm.1 (by omega) c_365
                  subst q6
                  refine lv_aload hx hb dL_isOffered_400 (lv_at hl 6 rfl) ?_
                  refine lv_iconst (v := 5) hx hb dL_isOffered_402 (by decide) ?_
                  refine rg_topi (y := nI 5) (by exact rfl) ?_
                  refine lv_dup2_11 hx hb dL_isOffered_403 rfl rfl ?_
                  refine rg_ialdN C0 hH (o := 417) (j := 5) (n0 := 9) (by decide) rfl rfl (by omega) dL_isOffered_404 ?_
                  refine rg_topi (y := nI (rg_no Mz)) (by rw [lw_fo_c (by omega)]; exact (rp_m hIz).2.2.2.2.2.1.trans (rg_CI_o (rp_ci hIz)).1) ?_
                  refine lv_iconst (v := 1) hx hb dL_isOffered_405 (by decide) ?_
                  refine lv_iadd hx hb dL_isOffered_406 ?_
                  refine rg_topi (y := nI ((rg_no Mz) + 1)) (by exact nI_add (rg_no Mz) (1)) ?_
                  refine rg_iastN C0 hH (o := 417) (j := 5) (n0 := 9) (by decide) rfl rfl (by omega) dL_isOffered_407 (fun H locs hH => ?_)
                  generalize eX : rg_I (lw_fo Mz (rg_no Mz) pt 6) 417 5 (nI ((rg_no Mz) + 1)) = X at hH
                  obtain ⟨x0, x2, x7, x8, x9⟩ := lw_fo_X eX
                  have enoX : rg_no X = rg_no Mz := by unfold rg_no; rw [x0 0 (by omega) (by omega) (by omega)]
                  refine lv_aload_n hx hb dL_isOffered_408 rfl (lv_at hl 1 rfl) ?_
                  refine lv_iload hx hb dL_isOffered_409 (lv_at hl 0 rfl) ?_
                  refine rg_callWi C0 hH (As := [.int (nI pt)]) (rest := []) (o := 0) (ci := 6) (a_offer l E B X Mz pt hIz (fun c hc => x0 c (by omega) (by omega) (by omega)) x2 hpt (by omega) (by omega) hst) (rg_cw 1 C0.1.2.2.2.2 tw_m_L_109 tw_i_X6_offer tw_v_X6_offer tw_n_X6 tw_c_X6_offer rfl rfl hd_X6_offer ⟨Nat.le_of_ble_eq_true rfl, Nat.le_of_ble_eq_true rfl⟩) rfl (by decide) rfl (by decide) rfl hl.1 rfl (Nat.le_of_ble_eq_true rfl) dL_isOffered_411 ⟨Nat.le_of_ble_eq_true rfl, Nat.le_of_ble_eq_true rfl⟩ (fun r_411 M_411 H locs e_411 hH => ?_)
                  obtain ⟨hr9, hOF⟩ := rp_OX_0 e_411 hf0
                  have hF9 : rp_Inv M_411 := rp_offer hIz (by omega) (by omega) hpt x0 x2 x7 x8 x9 (rp_ds_of (rg_CI_d (rp_ci hIz)).2.1 (rp_VSw hIz (rg_CI_d (rp_ci hIz))) hf0) hOF
                  have h417 : M_411.1 417 = X.1 417 := rp_OF_417 (by omega) hOF
                  refine lv_aload hx hb dL_isOffered_414 (lv_at hl 6 rfl) ?_
                  refine lv_iconst (v := 5) hx hb dL_isOffered_416 (by decide) ?_
                  refine rg_topi (y := nI 5) (by exact rfl) ?_
                  refine rg_ialdN C0 hH (o := 417) (j := 5) (n0 := 9) (by decide) rfl rfl (by omega) dL_isOffered_417 ?_
                  refine rg_topi (y := nI (rg_no Mz + 1)) (by rw [h417, x7]; rfl) ?_
                  refine lv_iconst (v := 1) hx hb dL_isOffered_418 (by decide) ?_
                  refine lv_isub hx hb dL_isOffered_419 ?_
                  refine rg_topi (y := nI ((rg_no Mz + 1) - 1)) (by exact lw_sub1 (by omega)) ?_
                  refine lv_icmp_ne (tgt := 427) hx hb dL_isOffered_420 (by decide) (fun c_420 => ?_) (fun c_420 => ?_)
                  · exact absurd (by rw [hr9]; rfl) c_420
                  · refine lv_iconst (v := 1) hx hb dL_isOffered_423 (by decide) ?_
                    refine lv_goto (tgt := 428) hx hb dL_isOffered_424 (by decide) ?_
                    exact rg_retWz C0 hH hr hlocks (Or.inr rfl) (by exact ⟨rfl, hF9⟩) dL_isOffered_428
                · have h6 := rg_lp_lt (n := 6) hm.1 (by omega) c_365
                  refine lv_aload hx hb dL_isOffered_368 (lv_at hl 8 rfl) ?_
                  refine lv_bipush (v := 7) hx hb dL_isOffered_370 (by decide) ?_
                  refine lv_aload hx hb dL_isOffered_372 (lv_at hl 6 rfl) ?_
                  refine lv_iconst (v := 5) hx hb dL_isOffered_374 (by decide) ?_
                  refine rg_topi (y := nI 5) (by exact rfl) ?_
                  refine rg_ialdN C0 hH (o := 417) (j := 5) (n0 := 9) (by decide) rfl rfl (by omega) dL_isOffered_375 ?_
                  refine rg_topi (y := nI (rg_no Mz)) (by rw [lw_fo_c (by omega)]; exact (rp_m hIz).2.2.2.2.2.1.trans (rg_CI_o (rp_ci hIz)).1) ?_
                  refine lv_imul hx hb dL_isOffered_376 ?_
                  refine rg_topi (y := nI (7 * (rg_no Mz))) (by exact lw_mul (7) (rg_no Mz)) ?_
                  refine lv_iconst (v := 1) hx hb dL_isOffered_377 (by decide) ?_
                  refine lv_iadd hx hb dL_isOffered_378 ?_
                  refine rg_topi (y := nI ((7 * (rg_no Mz)) + 1)) (by exact nI_add (7 * (rg_no Mz)) (1)) ?_
                  refine lv_iload hx hb dL_isOffered_379 (lv_at hl 10 rfl) ?_
                  refine lv_iadd hx hb dL_isOffered_381 ?_
                  refine rg_topi (y := nI (((7 * (rg_no Mz)) + 1) + i)) (by exact nI_add ((7 * (rg_no Mz)) + 1) (i)) ?_
                  refine lv_aload hx hb dL_isOffered_382 (lv_at hl 7 rfl) ?_
                  refine lv_iload hx hb dL_isOffered_384 (lv_at hl 10 rfl) ?_
                  refine rg_ialdN C0 hH (o := 418) (j := i) (n0 := 6) (by decide) rfl rfl (by omega) dL_isOffered_386 ?_
                  refine rg_topi (y := Mz.1 418 i) (by exact lw_fo_d) ?_
                  refine rg_iastN C0 hH (o := 419) (j := (((7 * (rg_no Mz)) + 1) + i)) (n0 := 28) (by decide) rfl rfl (by omega) dL_isOffered_387 (fun H locs hH => ?_)
                  refine lv_aload hx hb dL_isOffered_388 (lv_at hl 7 rfl) ?_
                  refine lv_iload hx hb dL_isOffered_390 (lv_at hl 10 rfl) ?_
                  refine lv_iconst (v := 0) hx hb dL_isOffered_392 (by decide) ?_
                  refine rg_iastN C0 hH (o := 418) (j := i) (n0 := 6) (by decide) rfl rfl (by omega) dL_isOffered_393 (fun H locs hH => ?_)
                  refine lv_iinc (v := nI (i + 1)) (lv' := [(11, .int (nI (i + 1))), (9, .int (nI pt)), (0, .ref (B + 0)), (1, .ref (B + 412)), (2, .ref (B + 413)), (3, .ref (B + 414)), (4, .ref (B + 415)), (5, .ref (B + 417)), (6, .ref (B + 418)), (7, .ref (B + 419)), (8, .int (nI zz))]) hx hb dL_isOffered_394 hl (k := 10) rfl (nI_1 _) (by decide) rfl (fun ls hl => ?_)
                  refine lv_goto (tgt := 361) hx hb dL_isOffered_397 (by decide) ?_
                  exact ih (i + 1) (by omega) _ _ _ (rg_H_eq (by exact lw_fo_s) hH) (lv_sub hl [1, 2, 3, 4, 5, 6, 7, 8, 9, 10, 0] rfl)
            replace hl : lv_has ls 14 [(11, .int (nI 0)), (10, .int (lw_fl (lw_cs (lw_row Mz (rg_nl Mz) (Mz.1 418)) (rg_nl Mz) (rg_sp Mz) (nI pt)))), (9, .int (nI pt)), (0, .ref (B + 0)), (1, .ref (B + 412)), (2, .ref (B + 413)), (3, .ref (B + 414)), (4, .ref (B + 415)), (5, .ref (B + 417)), (6, .ref (B + 418)), (7, .ref (B + 419)), (8, .int (nI zz))] := by skip; exact hl
            exact cut_361 7 0 (by omega) _ _ _ (rg_H_eq (by exact lw_fo_0) hH) (lv_sub hl [2, 3, 4, 5, 6, 7, 8, 9, 10, 11, 0] rfl)
          · obtain ⟨t9, v9, ht1, ht8, hv9, hf8, hcq, hFX⟩ := hFL.resolve_left (fun q => c_312 (by rw [q.2]; decide))
            refine lv_aload hx hb dL_isOffered_315 (lv_at hl 7 rfl) ?_
            refine lv_bipush (v := 6) hx hb dL_isOffered_317 (by decide) ?_
            refine rg_topi (y := nI 6) (by exact rfl) ?_
            refine lv_iload hx hb dL_isOffered_319 (lv_at hl 0 rfl) ?_
            refine lv_bipush (v := 100) hx hb dL_isOffered_321 (by decide) ?_
            refine lv_irem hx hb dL_isOffered_323 (by decide) ?_
            refine rg_topi (y := nI v9) (by rw [hFX]; exact rp_rem ht8 hv9) ?_
            refine rg_iastN C0 hH (o := 417) (j := 6) (n0 := 9) (by decide) rfl rfl (by omega) dL_isOffered_324 (fun H locs hH => ?_)
            refine lv_aload_n hx hb dL_isOffered_325 rfl (lv_at hl 2 rfl) ?_
            refine lv_iload hx hb dL_isOffered_326 (lv_at hl 1 rfl) ?_
            refine rg_callWi C0 hH (As := [.int (nI pt)]) (rest := []) (o := 0) (ci := 6) (a_offer l E B (rg_I Mz 417 6 (nI v9)) Mz pt hIz (fun c hc => rg_I_cell (by omega)) rfl hpt (by omega) (by omega) hst) (rg_cw 1 C0.1.2.2.2.2 tw_m_L_109 tw_i_X6_offer tw_v_X6_offer tw_n_X6 tw_c_X6_offer rfl rfl hd_X6_offer ⟨Nat.le_of_ble_eq_true rfl, Nat.le_of_ble_eq_true rfl⟩) rfl (by decide) rfl (by decide) rfl hl.1 rfl (Nat.le_of_ble_eq_true rfl) dL_isOffered_328 ⟨Nat.le_of_ble_eq_true rfl, Nat.le_of_ble_eq_true rfl⟩ (fun r_328 M_328 H locs e_328 hH => ?_)
            obtain ⟨hr9, hM1⟩ := rp_OX_f e_328 ⟨ht1, ht8⟩ hf8
            rw [hcq] at hM1
            have hF9 : rp_Inv M_328 := rp_why (x := nI v9) hIz (fun c h1 h2 h3 => by rw [hM1, rg_I_cell h2, rg_I_cell h3]) (fun c h1 => by rw [hM1]; rfl) (fun k => by rw [hM1, rg_I_at, rg_I_cell (by omega)]) (fun k => by rw [hM1, rg_I_cell (by omega), rg_I_at])
            refine lv_iload hx hb dL_isOffered_331 (lv_at hl 0 rfl) ?_
            refine lv_ineg hx hb dL_isOffered_333 ?_
            refine lv_bipush (v := 100) hx hb dL_isOffered_334 (by decide) ?_
            refine lv_idiv hx hb dL_isOffered_336 (by decide) ?_
            refine lv_icmp_ne (tgt := 344) hx hb dL_isOffered_337 (by decide) (fun c_337 => ?_) (fun c_337 => ?_)
            · exact absurd (by rw [hr9, hFX]; exact (rp_neg t9 (by omega) v9 hv9).symm) c_337
            · refine lv_iconst (v := 1) hx hb dL_isOffered_340 (by decide) ?_
              refine lv_goto (tgt := 345) hx hb dL_isOffered_341 (by decide) ?_
              exact rg_retWz C0 hH hr hlocks (Or.inr rfl) (by exact ⟨rfl, hF9⟩) dL_isOffered_345
        refine lv_iconst (v := 3) hx hb dL_isOffered_37 (by decide) ?_
        refine lv_idiv hx hb dL_isOffered_38 (by decide) ?_
        refine rg_topi (y := nI (zz / 3)) (by exact pk_div (a := zz) (d := 3) (by omega) (by omega) (by omega)) ?_
        refine lv_iconst (v := 4) hx hb dL_isOffered_39 (by decide) ?_
        refine lv_irem hx hb dL_isOffered_40 (by decide) ?_
        refine rg_topi (y := nI ((zz / 3) % 4)) (by exact pk_rem (a := zz / 3) (d := 4) (by omega) (by omega) (by omega)) ?_
        refine lv_if_le (tgt := 294) hx hb dL_isOffered_41 (by decide) (fun c_41 => ?_) (fun c_41 => ?_)
        · refine W.widen (k := 10) (n := 60) (Nat.le_of_ble_eq_true rfl) (Nat.le_of_ble_eq_true rfl) ?_
          exact cut_294 M _ _ _ hH (lv_sub hl [0, 1, 2, 3, 4, 5, 6, 7, 8, 9] rfl) (by exact hI) (by exact ⟨rfl, rfl, rfl⟩)
        · have cut_96 : ∀ (q : Nat) (H : Heap) (locs : List Loc) (ls : Array Slot), rg_H E B 422 rg_R0 M s H locs → lv_has ls 14 [(9, .int (nI pt)), (0, .ref (B + 0)), (1, .ref (B + 412)), (2, .ref (B + 413)), (3, .ref (B + 414)), (4, .ref (B + 415)), (5, .ref (B + 417)), (6, .ref (B + 418)), (7, .ref (B + 419)), (8, .int (nI zz))] → (q < 320) → W p l e ({ frames := 8, cells := 12, slots := 72, locals := 162 } : Room) s m args below meth c H locs 2 12 (MQ below (rg_Wi E B 422 rg_R0 (fun r M1 => r = 1 ∧ rp_Inv M1)) args s 12 72 (rg_A B)) (F0 m 96 ls [.int (nI q)]) := by
            intro q H locs ls hH hl hq
            refine lv_istore (lv' := [(11, .int (nI q)), (9, .int (nI pt)), (0, .ref (B + 0)), (1, .ref (B + 412)), (2, .ref (B + 413)), (3, .ref (B + 414)), (4, .ref (B + 415)), (5, .ref (B + 417)), (6, .ref (B + 418)), (7, .ref (B + 419)), (8, .int (nI zz))]) hx hb dL_isOffered_96 hl (by decide) rfl (fun ls hl => ?_)
            refine lv_aload_n hx hb dL_isOffered_98 rfl (lv_at hl 2 rfl) ?_
            refine rg_callWi C0 hH (As := []) (rest := []) (o := 0) (ci := 6) (a_clear l E B M (rp_ci hI) hst) (rg_cw 0 C0.1.2.2.2.2 tw_m_L_103 tw_i_X6_clear tw_v_X6_clear tw_n_X6 tw_c_X6_clear rfl rfl hd_X6_clear ⟨Nat.le_of_ble_eq_true rfl, Nat.le_of_ble_eq_true rfl⟩) rfl (by decide) rfl (by decide) rfl hl.1 rfl (Nat.le_of_ble_eq_true rfl) dL_isOffered_99 ⟨Nat.le_of_ble_eq_true rfl, Nat.le_of_ble_eq_true rfl⟩ (fun r_99 M_99 H locs e_99 hH => ?_)
            obtain ⟨hr99, hM99⟩ := e_99
            have hE : ∀ c, c ≠ 90 → M_99.1 c = M.1 c ∧ M_99.2 c = M.2 c := fun c hc => by rw [hM99]; exact rg_emp_c hc
            have hV99 : rg_VS M_99 90 0 := by rw [hM99]; exact rg_VS_0
            have hC99 : rg_CI M_99 := rg_CI_draft (rp_ci hI) (fun c h1 _ => (hE c h1).1) (fun c h1 _ => (hE c h1).2) hV99
            have hs99 : rg_sz M_99 90 = 0 := rp_cl hV99.1 (by omega)
            have cut_173 : ∀  (H : Heap) (locs : List Loc) (ls : Array Slot), rg_H E B 422 rg_R0 M_99 s H locs → lv_has ls 14 [(11, .int (nI q)), (9, .int (nI pt)), (0, .ref (B + 0)), (1, .ref (B + 412)), (2, .ref (B + 413)), (3, .ref (B + 414)), (4, .ref (B + 415)), (5, .ref (B + 417)), (6, .ref (B + 418)), (7, .ref (B + 419)), (8, .int (nI zz))] → W p l e ({ frames := 8, cells := 12, slots := 72, locals := 162 } : Room) s m args below meth c H locs 2 12 (MQ below (rg_Wi E B 422 rg_R0 (fun r M1 => r = 1 ∧ rp_Inv M1)) args s 12 72 (rg_A B)) (F0 m 173 ls []) := by
              intro  H locs ls hH hl 
              refine lv_aload_n hx hb dL_isOffered_173 rfl (lv_at hl 2 rfl) ?_
              have cut_219 : ∀ (Mv : rg_Mem) (H : Heap) (locs : List Loc) (ls : Array Slot), rg_H E B 422 rg_R0 Mv s H locs → lv_has ls 14 [(11, .int (nI q)), (9, .int (nI pt)), (0, .ref (B + 0)), (1, .ref (B + 412)), (2, .ref (B + 413)), (3, .ref (B + 414)), (4, .ref (B + 415)), (5, .ref (B + 417)), (6, .ref (B + 418)), (7, .ref (B + 419)), (8, .int (nI zz))] → (rg_VS Mv 90 (rp_dn q) ∧ (∀ k, k < rp_dn q → Mv.1 91 k = rp_dw q k) ∧ ∀ c, c ≠ 90 → c ≠ 91 → Mv.1 c = M.1 c ∧ Mv.2 c = M.2 c) → W p l e ({ frames := 8, cells := 12, slots := 72, locals := 162 } : Room) s m args below meth c H locs 6 36 (MQ below (rg_Wi E B 422 rg_R0 (fun r M1 => r = 1 ∧ rp_Inv M1)) args s 12 72 (rg_A B)) (F0 m 219 ls []) := by
                intro Mv H locs ls hH hl hv
                refine lv_iconst (v := 1) hx hb dL_isOffered_219 (by decide) ?_
                refine lv_goto (tgt := 224) hx hb dL_isOffered_220 (by decide) ?_
                refine lv_istore (lv' := [(12, .int (1)), (11, .int (nI q)), (9, .int (nI pt)), (0, .ref (B + 0)), (1, .ref (B + 412)), (2, .ref (B + 413)), (3, .ref (B + 414)), (4, .ref (B + 415)), (5, .ref (B + 417)), (6, .ref (B + 418)), (7, .ref (B + 419)), (8, .int (nI zz))]) hx hb dL_isOffered_224 hl (by decide) rfl (fun ls hl => ?_)
                refine lv_iconst (v := 0) hx hb dL_isOffered_226 (by decide) ?_
                refine lv_istore (lv' := [(13, .int (0)), (12, .int (1)), (11, .int (nI q)), (9, .int (nI pt)), (0, .ref (B + 0)), (1, .ref (B + 412)), (2, .ref (B + 413)), (3, .ref (B + 414)), (4, .ref (B + 415)), (5, .ref (B + 417)), (6, .ref (B + 418)), (7, .ref (B + 419)), (8, .int (nI zz))]) hx hb dL_isOffered_227 hl (by decide) rfl (fun ls hl => ?_)
                have cut_229 : ∀ (fu i : Nat), i ≤ 6 ∧ 6 < i + fu → ∀  (H : Heap) (locs : List Loc) (ls : Array Slot), rg_H E B 422 rg_R0 (lw_d6 Mv (rp_dr q) i) s H locs → lv_has ls 14 [(12, .int (1)), (11, .int (nI q)), (9, .int (nI pt)), (0, .ref (B + 0)), (1, .ref (B + 412)), (2, .ref (B + 413)), (3, .ref (B + 414)), (4, .ref (B + 415)), (5, .ref (B + 417)), (6, .ref (B + 418)), (7, .ref (B + 419)), (8, .int (nI zz)), (13, .int (nI i))] → W p l e ({ frames := 8, cells := 12, slots := 72, locals := 162 } : Room) s m args below meth c H locs 6 36 (MQ below (rg_Wi E B 422 rg_R0 (fun r M1 => r = 1 ∧ rp_Inv M1)) args s 12 72 (rg_A B)) (F0 m 229 ls []) := by
                  intro fu
                  induction fu with
                  | zero =>
                    intro i hm
                    exact absurd hm (by omega)
                  | succ fu ih =>
                    intro i hm  H locs ls hH hl 
                    refine lv_iload hx hb dL_isOffered_229 (lv_at hl 12 rfl) ?_
                    refine lv_bipush (v := 6) hx hb dL_isOffered_231 (by decide) ?_
                    refine lv_icmp_ge (tgt := 287) hx hb dL_isOffered_233 (by decide) (fun c_233 => ?_) (fun c_233 => ?_)
                    · have q6 : i = 6 := rg_lp_end (n := 6) hm.1 (by omega) c_233
                      subst q6
                      have hId : rp_Inv (lw_d6 Mv (rp_dr q) 6) := rp_draft (n := rp_dn q) hI (fun c h1 h2 h3 => by rw [lw_d6_c h3, (hv.2.2 c h1 h2).1]) (fun c h1 h2 => (hv.2.2 c h1 h2).2) (rg_VS_e hv.1 (fun c hc => lw_d6_c (by omega)) rfl) (fun k hk => by
                        show (if 418 = 418 ∧ k < 6 then rp_dr q k else _) = _
                        rw [if_pos ⟨rfl, hk⟩, rp_drw hk]
                        by_cases c : k < rp_dn q
                        · rw [if_pos c, if_pos c, lw_d6_c (by omega), hv.2.1 k c]
                        · rw [if_neg c, if_neg c])
                      have hqd : rg_nl (lw_d6 Mv (rp_dr q) 6) = rg_nl M ∧ rg_nt (lw_d6 Mv (rp_dr q) 6) = rg_nt M ∧ rg_no (lw_d6 Mv (rp_dr q) 6) = rg_no M := by
                        unfold rg_nl rg_nt rg_no
                        rw [lw_d6_c (by omega), lw_d6_c (by omega), (hv.2.2 6 (by omega) (by omega)).1, (hv.2.2 0 (by omega) (by omega)).1]
                        exact ⟨rfl, rfl, rfl⟩
                      refine lv_iload hx hb dL_isOffered_287 (lv_at hl 0 rfl) ?_
                      refine lv_if_ne (tgt := 294) hx hb dL_isOffered_289 (by decide) (fun c_289 => ?_) (fun c_289 => ?_)
                      · refine W.widen (k := 10) (n := 60) (Nat.le_of_ble_eq_true rfl) (Nat.le_of_ble_eq_true rfl) ?_
                        exact cut_294 (lw_d6 Mv (rp_dr q) 6) _ _ _ hH (lv_sub hl [2, 3, 4, 5, 6, 7, 8, 9, 10, 11] rfl) (by exact hId) (by exact hqd)
                      · exact absurd c_289 (by decide)
                    · have h6 := rg_lp_lt (n := 6) hm.1 (by omega) c_233
                      refine lv_aload hx hb dL_isOffered_236 (lv_at hl 9 rfl) ?_
                      refine lv_iload hx hb dL_isOffered_238 (lv_at hl 12 rfl) ?_
                      refine lv_iload hx hb dL_isOffered_240 (lv_at hl 12 rfl) ?_
                      refine lv_if_ne (tgt := 255) hx hb dL_isOffered_242 (by decide) (fun c_242 => ?_) (fun c_242 => ?_)
                      · refine lv_iload hx hb dL_isOffered_255 (lv_at hl 12 rfl) ?_
                        refine lv_iconst (v := 1) hx hb dL_isOffered_257 (by decide) ?_
                        refine lv_icmp_ne (tgt := 279) hx hb dL_isOffered_258 (by decide) (fun c_258 => ?_) (fun c_258 => ?_)
                        · refine lv_iconst (v := 0) hx hb dL_isOffered_279 (by decide) ?_
                          refine rg_iastN C0 hH (o := 418) (j := i) (n0 := 6) (by decide) rfl rfl (by omega) dL_isOffered_280 (fun H locs hH => ?_)
                          refine lv_iinc (v := nI (i + 1)) (lv' := [(13, .int (nI (i + 1))), (12, .int (1)), (11, .int (nI q)), (9, .int (nI pt)), (0, .ref (B + 0)), (1, .ref (B + 412)), (2, .ref (B + 413)), (3, .ref (B + 414)), (4, .ref (B + 415)), (5, .ref (B + 417)), (6, .ref (B + 418)), (7, .ref (B + 419)), (8, .int (nI zz))]) hx hb dL_isOffered_281 hl (k := 12) rfl (nI_1 _) (by decide) rfl (fun ls hl => ?_)
                          refine lv_goto (tgt := 229) hx hb dL_isOffered_284 (by decide) ?_
                          exact ih (i + 1) (by omega) _ _ _ (rg_H_eq (by exact lw_d6_s (by rw [rp_dr, if_neg (fun q => c_242 (by rw [q]; rfl)), if_neg (fun q => c_258 (by rw [q.1]; rfl))])) hH) (lv_sub hl [1, 2, 3, 4, 5, 6, 7, 8, 9, 10, 11, 12, 0] rfl)
                        · refine lv_iload hx hb dL_isOffered_261 (lv_at hl 1 rfl) ?_
                          refine lv_bipush (v := 20) hx hb dL_isOffered_263 (by decide) ?_
                          refine lv_irem hx hb dL_isOffered_265 (by decide) ?_
                          refine rg_topi (y := nI (q % 20)) (by exact pk_rem (a := q) (d := 20) (by omega) (by omega) (by omega)) ?_
                          refine lv_bipush (v := 17) hx hb dL_isOffered_266 (by decide) ?_
                          refine lv_icmp_ge (tgt := 279) hx hb dL_isOffered_268 (by decide) (fun c_268 => ?_) (fun c_268 => ?_)
                          · refine lv_iconst (v := 0) hx hb dL_isOffered_279 (by decide) ?_
                            refine rg_iastN C0 hH (o := 418) (j := i) (n0 := 6) (by decide) rfl rfl (by omega) dL_isOffered_280 (fun H locs hH => ?_)
                            refine lv_iinc (v := nI (i + 1)) (lv' := [(13, .int (nI (i + 1))), (12, .int (1)), (11, .int (nI q)), (9, .int (nI pt)), (0, .ref (B + 0)), (1, .ref (B + 412)), (2, .ref (B + 413)), (3, .ref (B + 414)), (4, .ref (B + 415)), (5, .ref (B + 417)), (6, .ref (B + 418)), (7, .ref (B + 419)), (8, .int (nI zz))]) hx hb dL_isOffered_281 hl (k := 12) rfl (nI_1 _) (by decide) rfl (fun ls hl => ?_)
                            refine lv_goto (tgt := 229) hx hb dL_isOffered_284 (by decide) ?_
                            exact ih (i + 1) (by omega) _ _ _ (rg_H_eq (by exact lw_d6_s (by rw [rp_dr, if_neg (fun q => c_242 (by rw [q]; rfl)), if_neg (fun q => by have := (lw_nle (a := 17) (by omega) (by omega)).mp c_268; omega)])) hH) (lv_sub hl [1, 2, 3, 4, 5, 6, 7, 8, 9, 10, 11, 12, 0] rfl)
                          · refine lv_iload hx hb dL_isOffered_271 (lv_at hl 1 rfl) ?_
                            refine lv_bipush (v := 20) hx hb dL_isOffered_273 (by decide) ?_
                            refine lv_irem hx hb dL_isOffered_275 (by decide) ?_
                            refine rg_topi (y := nI (q % 20)) (by exact pk_rem (a := q) (d := 20) (by omega) (by omega) (by omega)) ?_
                            refine lv_goto (tgt := 280) hx hb dL_isOffered_276 (by decide) ?_
                            refine rg_iastN C0 hH (o := 418) (j := i) (n0 := 6) (by decide) rfl rfl (by omega) dL_isOffered_280 (fun H locs hH => ?_)
                            refine lv_iinc (v := nI (i + 1)) (lv' := [(13, .int (nI (i + 1))), (12, .int (1)), (11, .int (nI q)), (9, .int (nI pt)), (0, .ref (B + 0)), (1, .ref (B + 412)), (2, .ref (B + 413)), (3, .ref (B + 414)), (4, .ref (B + 415)), (5, .ref (B + 417)), (6, .ref (B + 418)), (7, .ref (B + 419)), (8, .int (nI zz))]) hx hb dL_isOffered_281 hl (k := 12) rfl (nI_1 _) (by decide) rfl (fun ls hl => ?_)
                            refine lv_goto (tgt := 229) hx hb dL_isOffered_284 (by decide) ?_
                            exact ih (i + 1) (by omega) _ _ _ (rg_H_eq (by exact lw_d6_s (by rw [rp_dr, if_neg (fun q => c_242 (by rw [q]; rfl)), if_pos ⟨(nI_eq (b := 1) (by omega) (by omega)).mp c_258, by have := lw_no (lw_nle (a := 17) (by omega) (by omega)) c_268; omega⟩])) hH) (lv_sub hl [1, 2, 3, 4, 5, 6, 7, 8, 9, 10, 11, 12, 0] rfl)
                      · refine lv_iload hx hb dL_isOffered_245 (lv_at hl 1 rfl) ?_
                        refine lv_bipush (v := 20) hx hb dL_isOffered_247 (by decide) ?_
                        refine lv_idiv hx hb dL_isOffered_249 (by decide) ?_
                        refine rg_topi (y := nI (q / 20)) (by exact pk_div (a := q) (d := 20) (by omega) (by omega) (by omega)) ?_
                        refine lv_iconst (v := 1) hx hb dL_isOffered_250 (by decide) ?_
                        refine lv_iadd hx hb dL_isOffered_251 ?_
                        refine rg_topi (y := nI ((q / 20) + 1)) (by exact nI_add (q / 20) (1)) ?_
                        refine lv_goto (tgt := 280) hx hb dL_isOffered_252 (by decide) ?_
                        refine rg_iastN C0 hH (o := 418) (j := i) (n0 := 6) (by decide) rfl rfl (by omega) dL_isOffered_280 (fun H locs hH => ?_)
                        refine lv_iinc (v := nI (i + 1)) (lv' := [(13, .int (nI (i + 1))), (12, .int (1)), (11, .int (nI q)), (9, .int (nI pt)), (0, .ref (B + 0)), (1, .ref (B + 412)), (2, .ref (B + 413)), (3, .ref (B + 414)), (4, .ref (B + 415)), (5, .ref (B + 417)), (6, .ref (B + 418)), (7, .ref (B + 419)), (8, .int (nI zz))]) hx hb dL_isOffered_281 hl (k := 12) rfl (nI_1 _) (by decide) rfl (fun ls hl => ?_)
                        refine lv_goto (tgt := 229) hx hb dL_isOffered_284 (by decide) ?_
                        exact ih (i + 1) (by omega) _ _ _ (rg_H_eq (by exact lw_d6_s (by rw [rp_dr, if_pos (rg_nI0 (by omega) c_242)])) hH) (lv_sub hl [1, 2, 3, 4, 5, 6, 7, 8, 9, 10, 11, 12, 0] rfl)
                replace hl : lv_has ls 14 [(13, .int (nI 0)), (12, .int (1)), (11, .int (nI q)), (9, .int (nI pt)), (0, .ref (B + 0)), (1, .ref (B + 412)), (2, .ref (B + 413)), (3, .ref (B + 414)), (4, .ref (B + 415)), (5, .ref (B + 417)), (6, .ref (B + 418)), (7, .ref (B + 419)), (8, .int (nI zz))] := by skip; exact hl
                exact cut_229 7 0 (by omega) _ _ _ (rg_H_eq (by exact lw_d6_0) hH) (lv_sub hl [1, 2, 3, 4, 5, 6, 7, 8, 9, 10, 11, 12, 0] rfl)
              refine lv_iload hx hb dL_isOffered_174 (lv_at hl 0 rfl) ?_
              refine lv_bipush (v := 20) hx hb dL_isOffered_176 (by decide) ?_
              refine lv_idiv hx hb dL_isOffered_178 (by decide) ?_
              refine rg_topi (y := nI (q / 20)) (by exact pk_div (a := q) (d := 20) (by omega) (by omega) (by omega)) ?_
              refine rg_callWi C0 hH (As := [.int (nI (q / 20))]) (rest := []) (o := 0) (ci := 6) (a_add l E B M_99 (q / 20) hC99 (by unfold rg_has; rw [(hE 1 (by omega)).1]; exact rp_has2 hI (by omega)) (by omega) hst) (rg_cw 1 C0.1.2.2.2.2 tw_m_L_106 tw_i_X6_add tw_v_X6_add tw_n_X6 tw_c_X6_add rfl rfl hd_X6_add ⟨Nat.le_of_ble_eq_true rfl, Nat.le_of_ble_eq_true rfl⟩) rfl (by decide) rfl (by decide) rfl hl.1 rfl (Nat.le_of_ble_eq_true rfl) dL_isOffered_179 ⟨Nat.le_of_ble_eq_true rfl, Nat.le_of_ble_eq_true rfl⟩ (fun r_179 M_179 H locs e_179 hH => ?_)
              rw [hs99] at e_179
              obtain ⟨hr1, hv1, hw1, _, hf1⟩ := e_179
              replace hf1 : ∀ c, c ≠ 90 → c ≠ 91 → M_179.1 c = M.1 c ∧ M_179.2 c = M.2 c := fun c h1 h2 => ⟨(hf1 c h1 h2).1.trans (hE c h1).1, (hf1 c h1 h2).2.trans (hE c h1).2⟩
              have hC1 : rg_CI M_179 := rg_CI_draft (rp_ci hI) (fun c h1 h2 => (hf1 c h1 h2).1) (fun c h1 h2 => (hf1 c h1 h2).2) hv1
              have hs1 : rg_sz M_179 90 = 1 := rp_cl hv1.1 (by omega)
              refine lv_iconst (v := 1) hx hb dL_isOffered_182 (by decide) ?_
              refine lv_icmp_ne (tgt := 223) hx hb dL_isOffered_183 (by decide) (fun c_183 => ?_) (fun c_183 => ?_)
              · exact absurd (by rw [hr1]; rfl) c_183
              · refine lv_iload hx hb dL_isOffered_186 (lv_at hl 0 rfl) ?_
                refine lv_bipush (v := 20) hx hb dL_isOffered_188 (by decide) ?_
                refine lv_irem hx hb dL_isOffered_190 (by decide) ?_
                refine rg_topi (y := nI (q % 20)) (by exact pk_rem (a := q) (d := 20) (by omega) (by omega) (by omega)) ?_
                refine lv_if_eq (tgt := 219) hx hb dL_isOffered_191 (by decide) (fun c_191 => ?_) (fun c_191 => ?_)
                · refine W.widen (k := 6) (n := 36) (Nat.le_of_ble_eq_true rfl) (Nat.le_of_ble_eq_true rfl) ?_
                  exact cut_219 M_179 _ _ _ hH (lv_sub hl [0, 1, 2, 3, 4, 5, 6, 7, 8, 9, 10] rfl) (by have hdn1 : rp_dn q = 1 := if_pos (by exact Or.inl (rg_nI0 (by omega) c_191)); exact ⟨by rw [hdn1]; exact hv1, fun k hk => by rw [hdn1] at hk; rw [show k = 0 by omega, hw1, rp_dw, if_pos rfl], hf1⟩)
                · refine lv_iload hx hb dL_isOffered_194 (lv_at hl 0 rfl) ?_
                  refine lv_bipush (v := 20) hx hb dL_isOffered_196 (by decide) ?_
                  refine lv_irem hx hb dL_isOffered_198 (by decide) ?_
                  refine rg_topi (y := nI (q % 20)) (by exact pk_rem (a := q) (d := 20) (by omega) (by omega) (by omega)) ?_
                  refine lv_bipush (v := 16) hx hb dL_isOffered_199 (by decide) ?_
                  refine lv_icmp_gt (tgt := 219) hx hb dL_isOffered_201 (by decide) (fun c_201 => ?_) (fun c_201 => ?_)
                  · refine W.widen (k := 6) (n := 36) (Nat.le_of_ble_eq_true rfl) (Nat.le_of_ble_eq_true rfl) ?_
                    exact cut_219 M_179 _ _ _ hH (lv_sub hl [0, 1, 2, 3, 4, 5, 6, 7, 8, 9, 10] rfl) (by have hdn1 : rp_dn q = 1 := if_pos (by have := (lw_nlt (a := 16) (by omega) (by omega)).mp c_201; omega); exact ⟨by rw [hdn1]; exact hv1, fun k hk => by rw [hdn1] at hk; rw [show k = 0 by omega, hw1, rp_dw, if_pos rfl], hf1⟩)
                  · have hq1 : 1 ≤ q % 20 := by
                      rcases Nat.eq_zero_or_pos (q % 20) with y | y
                      · exact absurd (by rw [y]; rfl) c_191
                      · exact y
                    have hq16 : q % 20 ≤ 16 := by have := lw_no (lw_nlt (a := 16) (b := q % 20) (by omega) (by omega)) c_201; omega
                    refine lv_aload_n hx hb dL_isOffered_204 rfl (lv_at hl 2 rfl) ?_
                    refine lv_iload hx hb dL_isOffered_205 (lv_at hl 0 rfl) ?_
                    refine lv_bipush (v := 20) hx hb dL_isOffered_207 (by decide) ?_
                    refine lv_irem hx hb dL_isOffered_209 (by decide) ?_
                    refine rg_topi (y := nI (q % 20)) (by exact pk_rem (a := q) (d := 20) (by omega) (by omega) (by omega)) ?_
                    refine lv_iconst (v := 1) hx hb dL_isOffered_210 (by decide) ?_
                    refine lv_isub hx hb dL_isOffered_211 ?_
                    refine rg_topi (y := nI ((q % 20) - 1)) (by exact lw_sub1 (by omega)) ?_
                    refine rg_callWi C0 hH (As := [.int (nI ((q % 20) - 1))]) (rest := []) (o := 0) (ci := 6) (a_add l E B M_179 ((q % 20) - 1) hC1 (by unfold rg_has; rw [(hf1 1 (by omega) (by omega)).1]; exact rp_has2 hI (by omega)) (by omega) hst) (rg_cw 1 C0.1.2.2.2.2 tw_m_L_106 tw_i_X6_add tw_v_X6_add tw_n_X6 tw_c_X6_add rfl rfl hd_X6_add ⟨Nat.le_of_ble_eq_true rfl, Nat.le_of_ble_eq_true rfl⟩) rfl (by decide) rfl (by decide) rfl hl.1 rfl (Nat.le_of_ble_eq_true rfl) dL_isOffered_212 ⟨Nat.le_of_ble_eq_true rfl, Nat.le_of_ble_eq_true rfl⟩ (fun r_212 M_212 H locs e_212 hH => ?_)
                    rw [hs1] at e_212
                    obtain ⟨hr2, hv2, hw2, ho2, hf2⟩ := e_212
                    have hdn2 : rp_dn q = 2 := if_neg (by omega)
                    refine lv_iconst (v := 2) hx hb dL_isOffered_215 (by decide) ?_
                    refine lv_icmp_ne (tgt := 223) hx hb dL_isOffered_216 (by decide) (fun c_216 => ?_) (fun c_216 => ?_)
                    · exact absurd (by rw [hr2]; rfl) c_216
                    · exact cut_219 M_212 _ _ _ hH (lv_sub hl [0, 1, 2, 3, 4, 5, 6, 7, 8, 9, 10] rfl) (by exact ⟨by rw [hdn2]; exact hv2, fun k hk => by
                        rw [hdn2] at hk
                        by_cases ck : k = 1
                        · rw [ck, rp_dw, if_neg (by omega)]; exact hw2
                        · rw [show k = 0 by omega, ho2 0 (by omega), hw1, rp_dw, if_pos rfl], fun c h1 h2 => ⟨(hf2 c h1 h2).1.trans ((hf1 c h1 h2).1), (hf2 c h1 h2).2.trans ((hf1 c h1 h2).2)⟩⟩)
            refine lv_aload hx hb dL_isOffered_102 (lv_at hl 8 rfl) ?_
            refine lv_iconst (v := 0) hx hb dL_isOffered_104 (by decide) ?_
            refine rg_topi (y := nI 0) (by exact rfl) ?_
            refine rg_ialdN C0 hH (o := 418) (j := 0) (n0 := 6) (by decide) rfl rfl (by omega) dL_isOffered_105 ?_
            refine rg_topi (y := M.1 418 0) (by rw [(hE 418 (by omega)).1]) ?_
            refine lv_if_ne (tgt := 113) hx hb dL_isOffered_106 (by decide) (fun c_106 => ?_) (fun c_106 => ?_)
            · refine lv_aload hx hb dL_isOffered_113 (lv_at hl 8 rfl) ?_
              refine lv_iconst (v := 1) hx hb dL_isOffered_115 (by decide) ?_
              refine rg_topi (y := nI 1) (by exact rfl) ?_
              refine rg_ialdN C0 hH (o := 418) (j := 1) (n0 := 6) (by decide) rfl rfl (by omega) dL_isOffered_116 ?_
              refine rg_topi (y := M.1 418 1) (by rw [(hE 418 (by omega)).1]) ?_
              refine lv_if_ne (tgt := 124) hx hb dL_isOffered_117 (by decide) (fun c_117 => ?_) (fun c_117 => ?_)
              · refine lv_aload hx hb dL_isOffered_124 (lv_at hl 8 rfl) ?_
                refine lv_iconst (v := 2) hx hb dL_isOffered_126 (by decide) ?_
                refine rg_topi (y := nI 2) (by exact rfl) ?_
                refine rg_ialdN C0 hH (o := 418) (j := 2) (n0 := 6) (by decide) rfl rfl (by omega) dL_isOffered_127 ?_
                refine rg_topi (y := M.1 418 2) (by rw [(hE 418 (by omega)).1]) ?_
                refine lv_if_ne (tgt := 135) hx hb dL_isOffered_128 (by decide) (fun c_128 => ?_) (fun c_128 => ?_)
                · refine lv_aload hx hb dL_isOffered_135 (lv_at hl 8 rfl) ?_
                  refine lv_iconst (v := 3) hx hb dL_isOffered_137 (by decide) ?_
                  refine rg_topi (y := nI 3) (by exact rfl) ?_
                  refine rg_ialdN C0 hH (o := 418) (j := 3) (n0 := 6) (by decide) rfl rfl (by omega) dL_isOffered_138 ?_
                  refine rg_topi (y := M.1 418 3) (by rw [(hE 418 (by omega)).1]) ?_
                  refine lv_if_ne (tgt := 146) hx hb dL_isOffered_139 (by decide) (fun c_139 => ?_) (fun c_139 => ?_)
                  · refine lv_aload hx hb dL_isOffered_146 (lv_at hl 8 rfl) ?_
                    refine lv_iconst (v := 4) hx hb dL_isOffered_148 (by decide) ?_
                    refine rg_topi (y := nI 4) (by exact rfl) ?_
                    refine rg_ialdN C0 hH (o := 418) (j := 4) (n0 := 6) (by decide) rfl rfl (by omega) dL_isOffered_149 ?_
                    refine rg_topi (y := M.1 418 4) (by rw [(hE 418 (by omega)).1]) ?_
                    refine lv_if_ne (tgt := 157) hx hb dL_isOffered_150 (by decide) (fun c_150 => ?_) (fun c_150 => ?_)
                    · refine lv_aload hx hb dL_isOffered_157 (lv_at hl 8 rfl) ?_
                      refine lv_iconst (v := 5) hx hb dL_isOffered_159 (by decide) ?_
                      refine rg_topi (y := nI 5) (by exact rfl) ?_
                      refine rg_ialdN C0 hH (o := 418) (j := 5) (n0 := 6) (by decide) rfl rfl (by omega) dL_isOffered_160 ?_
                      refine rg_topi (y := M.1 418 5) (by rw [(hE 418 (by omega)).1]) ?_
                      refine lv_if_ne (tgt := 168) hx hb dL_isOffered_161 (by decide) (fun c_161 => ?_) (fun c_161 => ?_)
                      · refine lv_bipush (v := 6) hx hb dL_isOffered_168 (by decide) ?_
                        refine lv_icmp_ne (tgt := 223) hx hb dL_isOffered_170 (by decide) (fun c_170 => ?_) (fun c_170 => ?_)
                        · exact absurd (by have y0 := lw_no (rp_dz hI (show 0 < 6 by omega)) c_106; have y1 := lw_no (rp_dz hI (show 1 < 6 by omega)) c_117; have y2 := lw_no (rp_dz hI (show 2 < 6 by omega)) c_128; have y3 := lw_no (rp_dz hI (show 3 < 6 by omega)) c_139; have y4 := lw_no (rp_dz hI (show 4 < 6 by omega)) c_150; have y5 := lw_no (rp_dz hI (show 5 < 6 by omega)) c_161; have := (rg_CI_d (rp_ci hI)).2.1; rw [hr99, show rg_sz M 90 = 6 by omega]; rfl) c_170
                        · exact cut_173 _ _ _ hH (lv_sub hl [0, 1, 2, 3, 4, 5, 6, 7, 8, 9, 10] rfl)
                      · refine lv_iconst (v := 5) hx hb dL_isOffered_164 (by decide) ?_
                        refine lv_goto (tgt := 170) hx hb dL_isOffered_165 (by decide) ?_
                        refine lv_icmp_ne (tgt := 223) hx hb dL_isOffered_170 (by decide) (fun c_170 => ?_) (fun c_170 => ?_)
                        · exact absurd (by have y0 := lw_no (rp_dz hI (show 0 < 6 by omega)) c_106; have y1 := lw_no (rp_dz hI (show 1 < 6 by omega)) c_117; have y2 := lw_no (rp_dz hI (show 2 < 6 by omega)) c_128; have y3 := lw_no (rp_dz hI (show 3 < 6 by omega)) c_139; have y4 := lw_no (rp_dz hI (show 4 < 6 by omega)) c_150; have y5 := (rp_dz hI (show 5 < 6 by omega)).mp c_161; have := (rg_CI_d (rp_ci hI)).2.1; rw [hr99, show rg_sz M 90 = 5 by omega]; rfl) c_170
                        · exact cut_173 _ _ _ hH (lv_sub hl [0, 1, 2, 3, 4, 5, 6, 7, 8, 9, 10] rfl)
                    · refine lv_iconst (v := 4) hx hb dL_isOffered_153 (by decide) ?_
                      refine lv_goto (tgt := 170) hx hb dL_isOffered_154 (by decide) ?_
                      refine lv_icmp_ne (tgt := 223) hx hb dL_isOffered_170 (by decide) (fun c_170 => ?_) (fun c_170 => ?_)
                      · exact absurd (by have y0 := lw_no (rp_dz hI (show 0 < 6 by omega)) c_106; have y1 := lw_no (rp_dz hI (show 1 < 6 by omega)) c_117; have y2 := lw_no (rp_dz hI (show 2 < 6 by omega)) c_128; have y3 := lw_no (rp_dz hI (show 3 < 6 by omega)) c_139; have y4 := (rp_dz hI (show 4 < 6 by omega)).mp c_150; have := (rg_CI_d (rp_ci hI)).2.1; rw [hr99, show rg_sz M 90 = 4 by omega]; rfl) c_170
                      · exact cut_173 _ _ _ hH (lv_sub hl [0, 1, 2, 3, 4, 5, 6, 7, 8, 9, 10] rfl)
                  · refine lv_iconst (v := 3) hx hb dL_isOffered_142 (by decide) ?_
                    refine lv_goto (tgt := 170) hx hb dL_isOffered_143 (by decide) ?_
                    refine lv_icmp_ne (tgt := 223) hx hb dL_isOffered_170 (by decide) (fun c_170 => ?_) (fun c_170 => ?_)
                    · exact absurd (by have y0 := lw_no (rp_dz hI (show 0 < 6 by omega)) c_106; have y1 := lw_no (rp_dz hI (show 1 < 6 by omega)) c_117; have y2 := lw_no (rp_dz hI (show 2 < 6 by omega)) c_128; have y3 := (rp_dz hI (show 3 < 6 by omega)).mp c_139; have := (rg_CI_d (rp_ci hI)).2.1; rw [hr99, show rg_sz M 90 = 3 by omega]; rfl) c_170
                    · exact cut_173 _ _ _ hH (lv_sub hl [0, 1, 2, 3, 4, 5, 6, 7, 8, 9, 10] rfl)
                · refine lv_iconst (v := 2) hx hb dL_isOffered_131 (by decide) ?_
                  refine lv_goto (tgt := 170) hx hb dL_isOffered_132 (by decide) ?_
                  refine lv_icmp_ne (tgt := 223) hx hb dL_isOffered_170 (by decide) (fun c_170 => ?_) (fun c_170 => ?_)
                  · exact absurd (by have y0 := lw_no (rp_dz hI (show 0 < 6 by omega)) c_106; have y1 := lw_no (rp_dz hI (show 1 < 6 by omega)) c_117; have y2 := (rp_dz hI (show 2 < 6 by omega)).mp c_128; have := (rg_CI_d (rp_ci hI)).2.1; rw [hr99, show rg_sz M 90 = 2 by omega]; rfl) c_170
                  · exact cut_173 _ _ _ hH (lv_sub hl [0, 1, 2, 3, 4, 5, 6, 7, 8, 9, 10] rfl)
              · refine lv_iconst (v := 1) hx hb dL_isOffered_120 (by decide) ?_
                refine lv_goto (tgt := 170) hx hb dL_isOffered_121 (by decide) ?_
                refine lv_icmp_ne (tgt := 223) hx hb dL_isOffered_170 (by decide) (fun c_170 => ?_) (fun c_170 => ?_)
                · exact absurd (by have y0 := lw_no (rp_dz hI (show 0 < 6 by omega)) c_106; have y1 := (rp_dz hI (show 1 < 6 by omega)).mp c_117; have := (rg_CI_d (rp_ci hI)).2.1; rw [hr99, show rg_sz M 90 = 1 by omega]; rfl) c_170
                · exact cut_173 _ _ _ hH (lv_sub hl [0, 1, 2, 3, 4, 5, 6, 7, 8, 9, 10] rfl)
            · refine lv_iconst (v := 0) hx hb dL_isOffered_109 (by decide) ?_
              refine lv_goto (tgt := 170) hx hb dL_isOffered_110 (by decide) ?_
              refine lv_icmp_ne (tgt := 223) hx hb dL_isOffered_170 (by decide) (fun c_170 => ?_) (fun c_170 => ?_)
              · exact absurd (by have y0 := (rp_dz hI (show 0 < 6 by omega)).mp c_106; have := (rg_CI_d (rp_ci hI)).2.1; rw [hr99, show rg_sz M 90 = 0 by omega]; rfl) c_170
              · exact cut_173 _ _ _ hH (lv_sub hl [0, 1, 2, 3, 4, 5, 6, 7, 8, 9, 10] rfl)
          refine lv_aload_n hx hb dL_isOffered_44 rfl (lv_at hl 2 rfl) ?_
          refine lv_aload_n hx hb dL_isOffered_45 rfl (lv_at hl 3 rfl) ?_
          refine lv_aload_n hx hb dL_isOffered_46 rfl (lv_at hl 4 rfl) ?_
          refine lv_aload hx hb dL_isOffered_47 (lv_at hl 5 rfl) ?_
          refine lv_aload hx hb dL_isOffered_49 (lv_at hl 6 rfl) ?_
          refine lv_iload hx hb dL_isOffered_51 (lv_at hl 0 rfl) ?_
          refine lv_iconst (v := (-1)) hx hb dL_isOffered_53 (by decide) ?_
          refine rg_callSGi C0 hH (As := [.ref (B + 412), .ref (B + 413), .ref (B + 414), .ref (B + 415), .ref (B + 417), .int (nI pt), .int ((-1))]) (rest := []) (k_L_chance l E B M (rg_nl M) (rg_sp M) (nI pt) ((-1)) (rp_TI hI) (rp_wi hI) (by omega) ((rp_m hI).1.trans (rg_CI_s (rp_ci hI)).1) (rg_CI_s (rp_ci hI)).2 ((rp_m hI).2.2.2.1.trans (rg_CI_l (rp_ci hI)).1) (fun k hk => (rp_t hI).2 _ (by omega) (by omega))) (rg_cwS 7 C0.1.2.2.2.2 tw_m_L_100 tw_s_L_chance tw_n_L tw_c_L_chance rfl rfl hd_L_chance ⟨Nat.le_of_ble_eq_true rfl, Nat.le_of_ble_eq_true rfl⟩) rfl hl.1 rfl (Nat.le_of_ble_eq_true rfl) dL_isOffered_54 ⟨Nat.le_of_ble_eq_true rfl, Nat.le_of_ble_eq_true rfl⟩ (fun H locs hH => ?_)
          refine rg_topi (y := nI (lw_ct (lw_ok M (rg_nl M) (rg_sp M) (nI pt)) 272)) (by exact rp_ch0 272 0 (by omega)) ?_
          have hct := lw_ct_le (p := lw_ok M (rg_nl M) (rg_sp M) (nI pt)) 272
          refine lv_istore (lv' := [(10, .int (nI (lw_ct (lw_ok M (rg_nl M) (rg_sp M) (nI pt)) 272))), (9, .int (nI pt)), (0, .ref (B + 0)), (1, .ref (B + 412)), (2, .ref (B + 413)), (3, .ref (B + 414)), (4, .ref (B + 415)), (5, .ref (B + 417)), (6, .ref (B + 418)), (7, .ref (B + 419)), (8, .int (nI zz))]) hx hb dL_isOffered_57 hl (by decide) rfl (fun ls hl => ?_)
          refine lv_iload hx hb dL_isOffered_59 (lv_at hl 0 rfl) ?_
          refine lv_if_ne (tgt := 76) hx hb dL_isOffered_61 (by decide) (fun c_61 => ?_) (fun c_61 => ?_)
          · have hct0 : 0 < (lw_ct (lw_ok M (rg_nl M) (rg_sp M) (nI pt)) 272) := by
              rcases Nat.eq_zero_or_pos (lw_ct (lw_ok M (rg_nl M) (rg_sp M) (nI pt)) 272) with q | q
              · exact absurd (by rw [q]; rfl) c_61
              · exact q
            refine lv_aload_n hx hb dL_isOffered_76 rfl (lv_at hl 3 rfl) ?_
            refine lv_aload_n hx hb dL_isOffered_77 rfl (lv_at hl 4 rfl) ?_
            refine lv_aload_n hx hb dL_isOffered_78 rfl (lv_at hl 5 rfl) ?_
            refine lv_aload hx hb dL_isOffered_79 (lv_at hl 6 rfl) ?_
            refine lv_aload hx hb dL_isOffered_81 (lv_at hl 7 rfl) ?_
            refine lv_iload hx hb dL_isOffered_83 (lv_at hl 1 rfl) ?_
            refine lv_iload hx hb dL_isOffered_85 (lv_at hl 10 rfl) ?_
            refine lv_bipush (v := 12) hx hb dL_isOffered_87 (by decide) ?_
            refine lv_idiv hx hb dL_isOffered_89 (by decide) ?_
            refine rg_topi (y := nI (zz / 12)) (by exact pk_div (a := zz) (d := 12) (by omega) (by omega) (by omega)) ?_
            refine lv_iload hx hb dL_isOffered_90 (lv_at hl 0 rfl) ?_
            refine lv_irem hx hb dL_isOffered_92 (by exact nI_ne0 hct0 (by omega)) ?_
            refine rg_topi (y := nI ((zz / 12) % (lw_ct (lw_ok M (rg_nl M) (rg_sp M) (nI pt)) 272))) (by exact pk_rem (a := zz / 12) (d := lw_ct (lw_ok M (rg_nl M) (rg_sp M) (nI pt)) 272) (by omega) (by omega) (by omega)) ?_
            refine rg_callSGi C0 hH (As := [.ref (B + 412), .ref (B + 413), .ref (B + 414), .ref (B + 415), .ref (B + 417), .int (nI pt), .int (nI ((zz / 12) % (lw_ct (lw_ok M (rg_nl M) (rg_sp M) (nI pt)) 272)))]) (rest := []) (k_L_chance l E B M (rg_nl M) (rg_sp M) (nI pt) (nI ((zz / 12) % (lw_ct (lw_ok M (rg_nl M) (rg_sp M) (nI pt)) 272))) (rp_TI hI) (rp_wi hI) (by omega) ((rp_m hI).1.trans (rg_CI_s (rp_ci hI)).1) (rg_CI_s (rp_ci hI)).2 ((rp_m hI).2.2.2.1.trans (rg_CI_l (rp_ci hI)).1) (fun k hk => (rp_t hI).2 _ (by omega) (by omega))) (rg_cwS 7 C0.1.2.2.2.2 tw_m_L_100 tw_s_L_chance tw_n_L tw_c_L_chance rfl rfl hd_L_chance ⟨Nat.le_of_ble_eq_true rfl, Nat.le_of_ble_eq_true rfl⟩) rfl hl.1 rfl (Nat.le_of_ble_eq_true rfl) dL_isOffered_93 ⟨Nat.le_of_ble_eq_true rfl, Nat.le_of_ble_eq_true rfl⟩ (fun H locs hH => ?_)
            obtain ⟨x9, hx9, _, hch9⟩ := rp_ch1 (P := lw_ok M (rg_nl M) (rg_sp M) (nI pt)) (m := zz / 12 % (lw_ct (lw_ok M (rg_nl M) (rg_sp M) (nI pt)) 272)) 272 0 (by omega) (Nat.zero_le _) (by rw [Nat.zero_add]; exact Nat.mod_lt _ hct0)
            refine rg_topi (y := nI (20 * (x9 / 17) + x9 % 17)) (by exact hch9) ?_
            exact cut_96 (20 * (x9 / 17) + x9 % 17) _ _ _ hH (lv_sub hl [1, 2, 3, 4, 5, 6, 7, 8, 9, 10] rfl) (by omega)
          · refine lv_iload hx hb dL_isOffered_64 (lv_at hl 10 rfl) ?_
            refine lv_bipush (v := 12) hx hb dL_isOffered_66 (by decide) ?_
            refine lv_idiv hx hb dL_isOffered_68 (by decide) ?_
            refine rg_topi (y := nI (zz / 12)) (by exact pk_div (a := zz) (d := 12) (by omega) (by omega) (by omega)) ?_
            refine lv_sipush (v := 300) hx hb dL_isOffered_69 (by decide) ?_
            refine lv_irem hx hb dL_isOffered_72 (by decide) ?_
            refine rg_topi (y := nI ((zz / 12) % 300)) (by exact pk_rem (a := zz / 12) (d := 300) (by omega) (by omega) (by omega)) ?_
            refine lv_goto (tgt := 96) hx hb dL_isOffered_73 (by decide) ?_
            refine W.widen (k := 2) (n := 12) (Nat.le_of_ble_eq_true rfl) (Nat.le_of_ble_eq_true rfl) ?_
            exact cut_96 ((zz / 12) % 300) _ _ _ hH (lv_sub hl [1, 2, 3, 4, 5, 6, 7, 8, 9, 10] rfl) (by omega)
      · refine lv_iconst (v := 1) hx hb dL_isOffered_33 (by decide) ?_
        refine W.widen (k := 12) (n := 72) (Nat.le_of_ble_eq_true rfl) (Nat.le_of_ble_eq_true rfl) ?_
        exact rg_retWz C0 hH hr hlocks (Or.inr rfl) (by exact ⟨rfl, hI⟩) dL_isOffered_34
