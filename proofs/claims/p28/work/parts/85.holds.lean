set_option maxHeartbeats 4000000 in
set_option maxRecDepth 100000 in
/-- words and poets, then sixty steps of the script -/
theorem k_L_holds (l : Launch) (E : rg_Env) (B b L : Nat) (xs : Nat → Int32) (hL : L ≤ 260) (hbB : b < B) (hst : l.stackTraces = false) : Met l yL_holds (rg_w yL_holds cL_holds 18 (some (FieldType.boolean))) ({ frames := 10, cells := 4342, slots := 26940, locals := 230 } : Room) (va_Pc [.ref b] (rg_PreH E B b L xs)) (rg_Ri E B 0 rg_RN rg_MN (fun r => r = 1)) 4342 26940 (rg_A B) := by
  refine rg_ofH (by decide +kernel) rfl (Nat.le_of_ble_eq_true rfl) ?_
  intro p e s m args below meth c ls C0 hH hz0 hN hX hbl hl hr hlocks
  replace hl : lv_has ls 18 [(0, .ref b)] := hl
  have hx := C0.1.1
  have hb := C0.1.2.1
  have cut_256 : ∀ (fu i : Nat), i ≤ 60 ∧ 60 < i + fu → ∀ (M : rg_Mem) (H : Heap) (locs : List Loc) (ls : Array Slot), rp_Inv M → rg_H E B 422 rg_R0 M s H locs → lv_has ls 18 [(0, .ref b), (1, .ref (B + 0)), (2, .ref (B + 412)), (3, .ref (B + 413)), (4, .ref (B + 414)), (5, .ref (B + 415)), (6, .ref (B + 416)), (7, .ref (B + 417)), (8, .ref (B + 418)), (9, .ref (B + 419)), (10, .ref (B + 420)), (11, .ref (B + 421)), (12, .int (1)), (13, .int (nI i))] → W p l e ({ frames := 10, cells := 4342, slots := 26940, locals := 230 } : Room) s m args below meth c H locs (502 + 64 * i) (3900 + 384 * i) (MQ below (rg_Ri E B 0 rg_RN rg_MN (fun r => r = 1)) args s 4342 26940 (rg_A B)) (F0 m 256 ls []) := by
    intro fu
    induction fu with
    | zero =>
      intro i hm
      exact absurd hm (by omega)
    | succ fu ih =>
      intro i hm M H locs ls hI hH hl
      refine lv_iload hx hb dL_holds_256 (lv_at hl 13 rfl) ?_
      refine lv_bipush (v := 60) hx hb dL_holds_258 (by decide) ?_
      refine lv_icmp_ge (tgt := 603) hx hb dL_holds_260 (by decide) (fun c_260 => ?_) (fun c_260 => ?_)
      · refine lv_iload hx hb dL_holds_603 (lv_at hl 12 rfl) ?_
        refine W.widen (k := 4342) (n := 26940) (by omega) (by omega) ?_
        exact rg_retRz (g := rg_MN) C0 (rg_H_0 hH) hr hlocks (Or.inr rfl) rfl rfl dL_holds_605
      · have h60 := rg_lp_lt (n := 60) hm.1 (by omega) c_260
        refine lv_iload hx hb dL_holds_263 (lv_at hl 12 rfl) ?_
        refine lv_if_eq (tgt := 603) hx hb dL_holds_265 (by decide) (fun c_265 => ?_) (fun c_265 => ?_)
        · exact absurd c_265 (by decide)
        · refine lv_aload_n hx hb dL_holds_268 rfl (lv_at hl 0 rfl) ?_
          refine lv_iconst (v := 2) hx hb dL_holds_269 (by decide) ?_
          refine lv_iload hx hb dL_holds_270 (lv_at hl 13 rfl) ?_
          refine lv_imul hx hb dL_holds_272 ?_
          refine rg_topi (y := nI (2 * i)) (by exact lw_mul (2) (i)) ?_
          refine lv_bipush (v := 32) hx hb dL_holds_273 (by decide) ?_
          refine rg_topi (y := nI 32) (by rfl) ?_
          refine rg_callSX C0 hX hbl hbB hH (As := [.ref b, .int (nI (2 * i)), .int (nI 32)]) (rest := []) (k_L_from l E B 422 rg_R0 M b L xs (2 * i) 32 hL hbB (by omega) ⟨by omega, by omega⟩) (rg_cwS 3 C0.1.2.2.2.2 tw_m_L_145 tw_s_L_from tw_n_L tw_c_L_from rfl rfl hd_L_from ⟨Nat.le_of_ble_eq_true rfl, Nat.le_of_ble_eq_true rfl⟩) rfl hl.1 rfl (Nat.le_of_ble_eq_true rfl) dL_holds_275 ⟨by show _ ≤ (4342 : Nat); omega, by show _ ≤ (26940 : Nat); omega⟩ (fun r_275 H locs e_275 hH => ?_)
          obtain ⟨wz, hz_wz, rfl⟩ := e_275
          refine lv_istore (lv' := [(14, .int (nI wz)), (0, .ref b), (1, .ref (B + 0)), (2, .ref (B + 412)), (3, .ref (B + 413)), (4, .ref (B + 414)), (5, .ref (B + 415)), (6, .ref (B + 416)), (7, .ref (B + 417)), (8, .ref (B + 418)), (9, .ref (B + 419)), (10, .ref (B + 420)), (11, .ref (B + 421)), (12, .int (1)), (13, .int (nI i))]) hx hb dL_holds_278 hl (by decide) rfl (fun ls hl => ?_)
          refine lv_aload_n hx hb dL_holds_280 rfl (lv_at hl 1 rfl) ?_
          refine lv_iconst (v := 2) hx hb dL_holds_281 (by decide) ?_
          refine lv_iload hx hb dL_holds_282 (lv_at hl 14 rfl) ?_
          refine lv_imul hx hb dL_holds_284 ?_
          refine rg_topi (y := nI (2 * i)) (by exact lw_mul (2) (i)) ?_
          refine lv_iconst (v := 1) hx hb dL_holds_285 (by decide) ?_
          refine lv_iadd hx hb dL_holds_286 ?_
          refine rg_topi (y := nI ((2 * i) + 1)) (by exact nI_add (2 * i) (1)) ?_
          refine lv_ldc (v := 1000000000) hx hb C0.1.2.2.2.1 (C0.1.2.2.2.2 _ tw_q_L_144) dL_holds_287 ?_
          refine rg_topi (y := nI 1000000000) (by rfl) ?_
          refine rg_callSX C0 hX hbl hbB hH (As := [.ref b, .int (nI ((2 * i) + 1)), .int (nI 1000000000)]) (rest := []) (k_L_from l E B 422 rg_R0 M b L xs ((2 * i) + 1) 1000000000 hL hbB (by omega) ⟨by omega, by omega⟩) (rg_cwS 3 C0.1.2.2.2.2 tw_m_L_145 tw_s_L_from tw_n_L tw_c_L_from rfl rfl hd_L_from ⟨Nat.le_of_ble_eq_true rfl, Nat.le_of_ble_eq_true rfl⟩) rfl hl.1 rfl (Nat.le_of_ble_eq_true rfl) dL_holds_289 ⟨by show _ ≤ (4342 : Nat); omega, by show _ ≤ (26940 : Nat); omega⟩ (fun r_289 H locs e_289 hH => ?_)
          obtain ⟨zz, hz_zz, rfl⟩ := e_289
          refine lv_istore (lv' := [(15, .int (nI zz)), (14, .int (nI wz)), (0, .ref b), (1, .ref (B + 0)), (2, .ref (B + 412)), (3, .ref (B + 413)), (4, .ref (B + 414)), (5, .ref (B + 415)), (6, .ref (B + 416)), (7, .ref (B + 417)), (8, .ref (B + 418)), (9, .ref (B + 419)), (10, .ref (B + 420)), (11, .ref (B + 421)), (12, .int (1)), (13, .int (nI i))]) hx hb dL_holds_292 hl (by decide) rfl (fun ls hl => ?_)
          have cut_560 : ∀ (M1 : rg_Mem) (H : Heap) (locs : List Loc) (ls : Array Slot), rp_Inv M1 → rg_H E B 422 rg_R0 M1 s H locs → lv_has ls 18 [(0, .ref b), (1, .ref (B + 0)), (2, .ref (B + 412)), (3, .ref (B + 413)), (4, .ref (B + 414)), (5, .ref (B + 415)), (6, .ref (B + 416)), (7, .ref (B + 417)), (8, .ref (B + 418)), (9, .ref (B + 419)), (10, .ref (B + 420)), (11, .ref (B + 421)), (12, .int (1)), (13, .int (nI i)), (15, .int (nI zz))] → W p l e ({ frames := 10, cells := 4342, slots := 26940, locals := 230 } : Room) s m args below meth c H locs (502 + 64 * i + 12) (3900 + 384 * i + 72) (MQ below (rg_Ri E B 0 rg_RN rg_MN (fun r => r = 1)) args s 4342 26940 (rg_A B)) (F0 m 560 ls []) := by
            intro M1 H locs ls hI1 hH hl
            refine lv_iload hx hb dL_holds_560 (lv_at hl 12 rfl) ?_
            refine lv_if_eq (tgt := 594) hx hb dL_holds_562 (by decide) (fun c_562 => ?_) (fun c_562 => ?_)
            · exact absurd c_562 (by decide)
            · refine lv_aload_n hx hb dL_holds_565 rfl (lv_at hl 1 rfl) ?_
              refine lv_aload_n hx hb dL_holds_566 rfl (lv_at hl 2 rfl) ?_
              refine lv_aload_n hx hb dL_holds_567 rfl (lv_at hl 3 rfl) ?_
              refine lv_aload hx hb dL_holds_568 (lv_at hl 4 rfl) ?_
              refine lv_aload hx hb dL_holds_570 (lv_at hl 5 rfl) ?_
              refine lv_aload hx hb dL_holds_572 (lv_at hl 6 rfl) ?_
              refine lv_aload hx hb dL_holds_574 (lv_at hl 7 rfl) ?_
              refine lv_aload hx hb dL_holds_576 (lv_at hl 10 rfl) ?_
              refine lv_aload hx hb dL_holds_578 (lv_at hl 11 rfl) ?_
              refine lv_iload hx hb dL_holds_580 (lv_at hl 14 rfl) ?_
              refine lv_iconst (v := 3) hx hb dL_holds_582 (by decide) ?_
              refine lv_idiv hx hb dL_holds_583 (by decide) ?_
              refine rg_topi (y := nI (zz / 3)) (by exact pk_div (a := zz) (d := 3) (by omega) (by omega) (by omega)) ?_
              refine rg_callSWb C0 hH (As := [.ref (B + 0), .ref (B + 412), .ref (B + 413), .ref (B + 414), .ref (B + 415), .ref (B + 416), .ref (B + 417), .ref (B + 420), .ref (B + 421), .int (nI (zz / 3))]) (rest := []) (k_L_isSame l E B M1 (zz / 3) hI1 (by omega) hst) (rg_cwS 10 C0.1.2.2.2.2 tw_m_L_174 tw_s_L_isSame tw_n_L tw_c_L_isSame rfl rfl hd_L_isSame ⟨Nat.le_of_ble_eq_true rfl, Nat.le_of_ble_eq_true rfl⟩) rfl hl.1 rfl (Nat.le_of_ble_eq_true rfl) dL_holds_584 ⟨by show _ ≤ (4342 : Nat); omega, by show _ ≤ (26940 : Nat); omega⟩ (fun r_584 M_584 H locs e_584 hH => ?_)
              obtain ⟨rfl, hK⟩ := e_584
              refine lv_if_eq (tgt := 594) hx hb dL_holds_587 (by decide) (fun c_587 => ?_) (fun c_587 => ?_)
              · exact absurd c_587 (by decide)
              · refine lv_iconst (v := 1) hx hb dL_holds_590 (by decide) ?_
                refine lv_goto (tgt := 595) hx hb dL_holds_591 (by decide) ?_
                refine lv_istore (lv' := [(12, .int (1)), (0, .ref b), (1, .ref (B + 0)), (2, .ref (B + 412)), (3, .ref (B + 413)), (4, .ref (B + 414)), (5, .ref (B + 415)), (6, .ref (B + 416)), (7, .ref (B + 417)), (8, .ref (B + 418)), (9, .ref (B + 419)), (10, .ref (B + 420)), (11, .ref (B + 421)), (13, .int (nI i)), (15, .int (nI zz))]) hx hb dL_holds_595 hl (by decide) rfl (fun ls hl => ?_)
                refine lv_iinc (v := nI (i + 1)) (lv' := [(13, .int (nI (i + 1))), (12, .int (1)), (0, .ref b), (1, .ref (B + 0)), (2, .ref (B + 412)), (3, .ref (B + 413)), (4, .ref (B + 414)), (5, .ref (B + 415)), (6, .ref (B + 416)), (7, .ref (B + 417)), (8, .ref (B + 418)), (9, .ref (B + 419)), (10, .ref (B + 420)), (11, .ref (B + 421)), (15, .int (nI zz))]) hx hb dL_holds_597 hl (k := 13) rfl (nI_1 _) (by decide) rfl (fun ls hl => ?_)
                refine lv_goto (tgt := 256) hx hb dL_holds_600 (by decide) ?_
                refine W.widen (k := 502 + 64 * (i + 1)) (n := 3900 + 384 * (i + 1)) (by omega) (by omega) ?_
                exact ih (i + 1) (by omega) M_584 H locs ls hK hH (lv_sub hl [2, 3, 4, 5, 6, 7, 8, 9, 10, 11, 12, 13, 1, 0] rfl)
          refine lv_iload hx hb dL_holds_294 (lv_at hl 15 rfl) ?_
          refine lv_if_eq (tgt := 304) hx hb dL_holds_296 (by decide) (fun c_296 => ?_) (fun c_296 => ?_)
          · refine lv_aload_n hx hb dL_holds_304 rfl (lv_at hl 3 rfl) ?_
            refine lv_aload hx hb dL_holds_305 (lv_at hl 6 rfl) ?_
            refine lv_aload hx hb dL_holds_307 (lv_at hl 7 rfl) ?_
            refine lv_aload hx hb dL_holds_309 (lv_at hl 8 rfl) ?_
            refine lv_aload hx hb dL_holds_311 (lv_at hl 9 rfl) ?_
            refine lv_iload hx hb dL_holds_313 (lv_at hl 0 rfl) ?_
            refine rg_callSWb C0 hH (As := [.ref (B + 0), .ref (B + 414), .ref (B + 415), .ref (B + 416), .ref (B + 417), .int (nI zz)]) (rest := []) (k_L_isBegun l E B M zz hI hz_zz hst) (rg_cwS 6 C0.1.2.2.2.2 tw_m_L_155 tw_s_L_isBegun tw_n_L tw_c_L_isBegun rfl rfl hd_L_isBegun ⟨Nat.le_of_ble_eq_true rfl, Nat.le_of_ble_eq_true rfl⟩) rfl hl.1 rfl (Nat.le_of_ble_eq_true rfl) dL_holds_315 ⟨by show _ ≤ (4342 : Nat); omega, by show _ ≤ (26940 : Nat); omega⟩ (fun r_315 M_315 H locs e_315 hH => ?_)
            obtain ⟨rfl, hJ⟩ := e_315
            refine lv_istore (lv' := [(12, .int (1)), (15, .int (nI zz)), (14, .int (nI wz)), (0, .ref b), (1, .ref (B + 0)), (2, .ref (B + 412)), (3, .ref (B + 413)), (4, .ref (B + 414)), (5, .ref (B + 415)), (6, .ref (B + 416)), (7, .ref (B + 417)), (8, .ref (B + 418)), (9, .ref (B + 419)), (10, .ref (B + 420)), (11, .ref (B + 421)), (13, .int (nI i))]) hx hb dL_holds_318 hl (by decide) rfl (fun ls hl => ?_)
            refine lv_goto (tgt := 560) hx hb dL_holds_320 (by decide) ?_
            refine W.widen (k := 502 + 64 * i + 12) (n := 3900 + 384 * i + 72) (by omega) (by omega) ?_
            exact cut_560 M_315 H locs ls hJ hH (lv_sub hl [3, 4, 5, 6, 7, 8, 9, 10, 11, 12, 13, 14, 0, 15, 1] rfl)
          · refine lv_iload hx hb dL_holds_299 (lv_at hl 1 rfl) ?_
            refine lv_if_ne (tgt := 323) hx hb dL_holds_301 (by decide) (fun c_301 => ?_) (fun c_301 => ?_)
            · refine lv_iload hx hb dL_holds_323 (lv_at hl 1 rfl) ?_
              refine lv_bipush (v := 10) hx hb dL_holds_325 (by decide) ?_
              refine lv_icmp_ge (tgt := 353) hx hb dL_holds_327 (by decide) (fun c_327 => ?_) (fun c_327 => ?_)
              · refine lv_iload hx hb dL_holds_353 (lv_at hl 1 rfl) ?_
                refine lv_bipush (v := 15) hx hb dL_holds_355 (by decide) ?_
                refine lv_icmp_ge (tgt := 379) hx hb dL_holds_357 (by decide) (fun c_357 => ?_) (fun c_357 => ?_)
                · refine lv_iload hx hb dL_holds_379 (lv_at hl 1 rfl) ?_
                  refine lv_bipush (v := 18) hx hb dL_holds_381 (by decide) ?_
                  refine lv_icmp_ge (tgt := 405) hx hb dL_holds_383 (by decide) (fun c_383 => ?_) (fun c_383 => ?_)
                  · refine lv_iload hx hb dL_holds_405 (lv_at hl 1 rfl) ?_
                    refine lv_bipush (v := 18) hx hb dL_holds_407 (by decide) ?_
                    refine lv_icmp_ne (tgt := 494) hx hb dL_holds_409 (by decide) (fun c_409 => ?_) (fun c_409 => ?_)
                    · refine lv_aload_n hx hb dL_holds_494 rfl (lv_at hl 3 rfl) ?_
                      refine lv_aload_n hx hb dL_holds_495 rfl (lv_at hl 5 rfl) ?_
                      refine lv_aload hx hb dL_holds_496 (lv_at hl 6 rfl) ?_
                      refine lv_aload hx hb dL_holds_498 (lv_at hl 7 rfl) ?_
                      refine lv_aload hx hb dL_holds_500 (lv_at hl 8 rfl) ?_
                      refine lv_aload hx hb dL_holds_502 (lv_at hl 9 rfl) ?_
                      refine lv_aload hx hb dL_holds_504 (lv_at hl 12 rfl) ?_
                      refine lv_aload hx hb dL_holds_506 (lv_at hl 13 rfl) ?_
                      have cut_553 : ∀ (wy : Nat) (ls : Array Slot), wy ≤ 4 → lv_has ls 18 [(15, .int (nI zz)), (14, .int (nI wz)), (0, .ref b), (1, .ref (B + 0)), (2, .ref (B + 412)), (3, .ref (B + 413)), (4, .ref (B + 414)), (5, .ref (B + 415)), (6, .ref (B + 416)), (7, .ref (B + 417)), (8, .ref (B + 418)), (9, .ref (B + 419)), (10, .ref (B + 420)), (11, .ref (B + 421)), (12, .int (1)), (13, .int (nI i))] → W p l e ({ frames := 10, cells := 4342, slots := 26940, locals := 230 } : Room) s m args below meth c H locs (502 + 64 * i + 0 + 0) (3900 + 384 * i + 0 + 0) (MQ below (rg_Ri E B 0 rg_RN rg_MN (fun r => r = 1)) args s 4342 26940 (rg_A B)) (F0 m 553 ls [.int (nI wy), .ref (B + 421), .ref (B + 420), .ref (B + 417), .ref (B + 416), .ref (B + 415), .ref (B + 414), .ref (B + 413), .ref (B + 0)]) := by
                        intro wy ls hwy hl
                        refine lv_iload hx hb dL_holds_553 (lv_at hl 0 rfl) ?_
                        refine rg_callSWb C0 hH (As := [.ref (B + 0), .ref (B + 413), .ref (B + 414), .ref (B + 415), .ref (B + 416), .ref (B + 417), .ref (B + 420), .ref (B + 421), .int (nI wy), .int (nI zz)]) (rest := []) (k_L_isTold l E B M wy zz hI hwy hz_zz hst) (rg_cwS 10 C0.1.2.2.2.2 tw_m_L_170 tw_s_L_isTold tw_n_L tw_c_L_isTold rfl rfl hd_L_isTold ⟨Nat.le_of_ble_eq_true rfl, Nat.le_of_ble_eq_true rfl⟩) rfl hl.1 rfl (Nat.le_of_ble_eq_true rfl) dL_holds_555 ⟨by show _ ≤ (4342 : Nat); omega, by show _ ≤ (26940 : Nat); omega⟩ (fun r_555 M_555 H locs e_555 hH => ?_)
                        obtain ⟨rfl, hJ⟩ := e_555
                        refine lv_istore (lv' := [(12, .int (1)), (15, .int (nI zz)), (14, .int (nI wz)), (0, .ref b), (1, .ref (B + 0)), (2, .ref (B + 412)), (3, .ref (B + 413)), (4, .ref (B + 414)), (5, .ref (B + 415)), (6, .ref (B + 416)), (7, .ref (B + 417)), (8, .ref (B + 418)), (9, .ref (B + 419)), (10, .ref (B + 420)), (11, .ref (B + 421)), (13, .int (nI i))]) hx hb dL_holds_558 hl (by decide) rfl (fun ls hl => ?_)
                        refine W.widen (k := 502 + 64 * i + 12) (n := 3900 + 384 * i + 72) (by omega) (by omega) ?_
                        exact cut_560 M_555 H locs ls hJ hH (lv_sub hl [3, 4, 5, 6, 7, 8, 9, 10, 11, 12, 13, 14, 0, 15, 1] rfl)
                      refine lv_iload hx hb dL_holds_508 (lv_at hl 1 rfl) ?_
                      refine lv_bipush (v := 23) hx hb dL_holds_510 (by decide) ?_
                      refine lv_icmp_ge (tgt := 519) hx hb dL_holds_512 (by decide) (fun c_512 => ?_) (fun c_512 => ?_)
                      · refine lv_iload hx hb dL_holds_519 (lv_at hl 1 rfl) ?_
                        refine lv_bipush (v := 25) hx hb dL_holds_521 (by decide) ?_
                        refine lv_icmp_ge (tgt := 530) hx hb dL_holds_523 (by decide) (fun c_523 => ?_) (fun c_523 => ?_)
                        · refine lv_iload hx hb dL_holds_530 (lv_at hl 1 rfl) ?_
                          refine lv_bipush (v := 27) hx hb dL_holds_532 (by decide) ?_
                          refine lv_icmp_ge (tgt := 541) hx hb dL_holds_534 (by decide) (fun c_534 => ?_) (fun c_534 => ?_)
                          · refine lv_iload hx hb dL_holds_541 (lv_at hl 1 rfl) ?_
                            refine lv_bipush (v := 27) hx hb dL_holds_543 (by decide) ?_
                            refine lv_icmp_ne (tgt := 552) hx hb dL_holds_545 (by decide) (fun c_545 => ?_) (fun c_545 => ?_)
                            · refine lv_iconst (v := 4) hx hb dL_holds_552 (by decide) ?_
                              refine rg_topi (y := nI 4) (by rfl) ?_
                              exact cut_553 4 ls (by omega) hl
                            · refine lv_iconst (v := 3) hx hb dL_holds_548 (by decide) ?_
                              refine lv_goto (tgt := 553) hx hb dL_holds_549 (by decide) ?_
                              refine rg_topi (y := nI 3) (by rfl) ?_
                              exact cut_553 3 ls (by omega) hl
                          · refine lv_iconst (v := 2) hx hb dL_holds_537 (by decide) ?_
                            refine lv_goto (tgt := 553) hx hb dL_holds_538 (by decide) ?_
                            refine rg_topi (y := nI 2) (by rfl) ?_
                            exact cut_553 2 ls (by omega) hl
                        · refine lv_iconst (v := 1) hx hb dL_holds_526 (by decide) ?_
                          refine lv_goto (tgt := 553) hx hb dL_holds_527 (by decide) ?_
                          refine rg_topi (y := nI 1) (by rfl) ?_
                          exact cut_553 1 ls (by omega) hl
                      · refine lv_iconst (v := 0) hx hb dL_holds_515 (by decide) ?_
                        refine lv_goto (tgt := 553) hx hb dL_holds_516 (by decide) ?_
                        refine rg_topi (y := nI 0) (by rfl) ?_
                        exact cut_553 0 ls (by omega) hl
                    · refine lv_iconst (v := 0) hx hb dL_holds_412 (by decide) ?_
                      refine lv_istore (lv' := [(16, .int (0)), (15, .int (nI zz)), (14, .int (nI wz)), (0, .ref b), (1, .ref (B + 0)), (2, .ref (B + 412)), (3, .ref (B + 413)), (4, .ref (B + 414)), (5, .ref (B + 415)), (6, .ref (B + 416)), (7, .ref (B + 417)), (8, .ref (B + 418)), (9, .ref (B + 419)), (10, .ref (B + 420)), (11, .ref (B + 421)), (12, .int (1)), (13, .int (nI i))]) hx hb dL_holds_413 hl (by decide) rfl (fun ls hl => ?_)
                      refine lv_iconst (v := 0) hx hb dL_holds_415 (by decide) ?_
                      refine lv_istore (lv' := [(17, .int (0)), (16, .int (0)), (15, .int (nI zz)), (14, .int (nI wz)), (0, .ref b), (1, .ref (B + 0)), (2, .ref (B + 412)), (3, .ref (B + 413)), (4, .ref (B + 414)), (5, .ref (B + 415)), (6, .ref (B + 416)), (7, .ref (B + 417)), (8, .ref (B + 418)), (9, .ref (B + 419)), (10, .ref (B + 420)), (11, .ref (B + 421)), (12, .int (1)), (13, .int (nI i))]) hx hb dL_holds_416 hl (by decide) rfl (fun ls hl => ?_)
                      have hs6 : rg_sz M 90 ≤ 6 := (rg_CI_d (rp_ci hI)).2.1
                      have cut_418 : ∀ (fu2 k : Nat), k ≤ 6 ∧ 6 < k + fu2 → ∀ (ls : Array Slot), lv_has ls 18 [(15, .int (nI zz)), (14, .int (nI wz)), (0, .ref b), (1, .ref (B + 0)), (2, .ref (B + 412)), (3, .ref (B + 413)), (4, .ref (B + 414)), (5, .ref (B + 415)), (6, .ref (B + 416)), (7, .ref (B + 417)), (8, .ref (B + 418)), (9, .ref (B + 419)), (10, .ref (B + 420)), (11, .ref (B + 421)), (12, .int (1)), (13, .int (nI i)), (16, .int (nI (if k ≤ rg_sz M 90 then k else rg_sz M 90))), (17, .int (nI k))] → W p l e ({ frames := 10, cells := 4342, slots := 26940, locals := 230 } : Room) s m args below meth c H locs (502 + 64 * i + 0 + 0) (3900 + 384 * i + 0 + 0) (MQ below (rg_Ri E B 0 rg_RN rg_MN (fun r => r = 1)) args s 4342 26940 (rg_A B)) (F0 m 418 ls []) := by
                        intro fu2
                        induction fu2 with
                        | zero =>
                          intro k hm2
                          exact absurd hm2 (by omega)
                        | succ fu2 ih2 =>
                          intro k hm2 ls hl
                          refine lv_iload hx hb dL_holds_418 (lv_at hl 17 rfl) ?_
                          refine lv_bipush (v := 6) hx hb dL_holds_420 (by decide) ?_
                          refine lv_icmp_ge (tgt := 449) hx hb dL_holds_422 (by decide) (fun c_422 => ?_) (fun c_422 => ?_)
                          · have q6 : k = 6 := rg_lp_end (n := 6) hm2.1 (by omega) c_422
                            subst q6
                            have ek : nI (rg_sz M 90) = nI (if 6 ≤ rg_sz M 90 then 6 else rg_sz M 90) := by rw [show (if 6 ≤ rg_sz M 90 then 6 else rg_sz M 90) = rg_sz M 90 from by split <;> omega]
                            replace hl : lv_has ls 18 [(15, .int (nI zz)), (14, .int (nI wz)), (0, .ref b), (1, .ref (B + 0)), (2, .ref (B + 412)), (3, .ref (B + 413)), (4, .ref (B + 414)), (5, .ref (B + 415)), (6, .ref (B + 416)), (7, .ref (B + 417)), (8, .ref (B + 418)), (9, .ref (B + 419)), (10, .ref (B + 420)), (11, .ref (B + 421)), (12, .int (1)), (13, .int (nI i)), (16, .int (nI (rg_sz M 90))), (17, .int (nI 6))] := by rw [ek]; exact hl
                            refine lv_iload hx hb dL_holds_449 (lv_at hl 16 rfl) ?_
                            refine lv_bipush (v := 6) hx hb dL_holds_451 (by decide) ?_
                            refine lv_icmp_ge (tgt := 491) hx hb dL_holds_453 (by decide) (fun c_453 => ?_) (fun c_453 => ?_)
                            · refine lv_goto (tgt := 560) hx hb dL_holds_491 (by decide) ?_
                              refine W.widen (k := 502 + 64 * i + 12) (n := 3900 + 384 * i + 72) (by omega) (by omega) ?_
                              exact cut_560 M H locs ls hI hH (lv_sub hl [2, 3, 4, 5, 6, 7, 8, 9, 10, 11, 12, 13, 14, 15, 0] rfl)
                            · have hs9 : rg_sz M 90 < 6 := by have := lw_no (lw_nle (a := 6) (b := rg_sz M 90) (by omega) (by omega)) c_453; omega
                              refine lv_aload hx hb dL_holds_456 (lv_at hl 10 rfl) ?_
                              refine lv_iload hx hb dL_holds_458 (lv_at hl 16 rfl) ?_
                              refine lv_iconst (v := 1) hx hb dL_holds_460 (by decide) ?_
                              refine lv_iload hx hb dL_holds_461 (lv_at hl 0 rfl) ?_
                              refine lv_bipush (v := 16) hx hb dL_holds_463 (by decide) ?_
                              refine lv_irem hx hb dL_holds_465 (by decide) ?_
                              refine rg_topi (y := nI (zz % 16)) (by exact pk_rem (a := zz) (d := 16) (by omega) (by omega) (by omega)) ?_
                              refine lv_iadd hx hb dL_holds_466 ?_
                              refine rg_topi (y := nI (1 + (zz % 16))) (by exact nI_add (1) (zz % 16)) ?_
                              refine rg_iastN C0 hH (o := 418) (j := (rg_sz M 90)) (n0 := 6) (by decide) rfl rfl (by omega) dL_holds_467 (fun H locs hH => ?_)
                              generalize eX : rg_I M 418 ((rg_sz M 90)) (nI (1 + (zz % 16))) = X at hH
                              have x0 : ∀ c, c ≠ 418 → X.1 c = M.1 c := fun c h1 => by subst eX; rw [rg_I_cell h1]
                              have x2 : X.2 = M.2 := by subst eX; rfl
                              have x8 : ∀ k, X.1 418 k = if k = rg_sz M 90 then nI (1 + zz % 16) else M.1 418 k := fun k => by subst eX; rw [rg_I_at]
                              have hC : rg_CI X := rg_CI_c2 (rp_ci hI) (fun c hc => x0 c (by omega)) (fun c hc => by rw [x2])
                              have esz : rg_sz X 90 = rg_sz M 90 := by unfold rg_sz; rw [x0 90 (by omega)]
                              refine lv_aload_n hx hb dL_holds_468 rfl (lv_at hl 3 rfl) ?_
                              refine lv_iload hx hb dL_holds_469 (lv_at hl 0 rfl) ?_
                              refine lv_bipush (v := 16) hx hb dL_holds_471 (by decide) ?_
                              refine lv_irem hx hb dL_holds_473 (by decide) ?_
                              refine rg_topi (y := nI (zz % 16)) (by exact pk_rem (a := zz) (d := 16) (by omega) (by omega) (by omega)) ?_
                              refine rg_callWi C0 hH (As := [.int (nI (zz % 16))]) (rest := []) (o := 0) (ci := 6) (a_add l E B X (zz % 16) hC (by unfold rg_has; rw [x0 1 (by omega)]; exact rp_has2 hI (by omega)) (by omega) hst) (rg_cw 1 C0.1.2.2.2.2 tw_m_L_106 tw_i_X6_add tw_v_X6_add tw_n_X6 tw_c_X6_add rfl rfl hd_X6_add ⟨Nat.le_of_ble_eq_true rfl, Nat.le_of_ble_eq_true rfl⟩) rfl (by decide) rfl (by decide) rfl hl.1 rfl (Nat.le_of_ble_eq_true rfl) dL_holds_474 ⟨by show _ ≤ (4342 : Nat); omega, by show _ ≤ (26940 : Nat); omega⟩ (fun r_474 M_474 H locs e_474 hH => ?_)
                              obtain ⟨e1, e2, e3, e4, e5⟩ := e_474
                              rw [esz] at e1 e2 e3 e4
                              have hJ : rp_Inv M_474 := rp_draft (n := rg_sz M 90 + 1) hI (fun c h1 h2 h3 => (e5 c h1 h2).1.trans (x0 c h3)) (fun c h1 h2 => (e5 c h1 h2).2.trans (by rw [x2])) e2 (fun k hk => by
                                rw [(e5 418 (by omega) (by omega)).1, x8 k]
                                by_cases q : k = rg_sz M 90
                                · rw [if_pos q, if_pos (by omega), q, e3, Nat.add_comm, nI_succ]
                                · rw [if_neg q, rp_d hI k hk]
                                  by_cases c9 : k < rg_sz M 90
                                  · rw [if_pos c9, if_pos (by omega), e4 k c9, x0 91 (by omega)]
                                  · rw [if_neg c9, if_neg (by omega)])
                              refine rg_topi (y := nI ((rg_sz M 90) + 1)) (by exact e1) ?_
                              refine lv_iload hx hb dL_holds_477 (lv_at hl 16 rfl) ?_
                              refine lv_iconst (v := 1) hx hb dL_holds_479 (by decide) ?_
                              refine lv_iadd hx hb dL_holds_480 ?_
                              refine rg_topi (y := nI ((rg_sz M 90) + 1)) (by exact nI_add (rg_sz M 90) (1)) ?_
                              refine lv_icmp_ne (tgt := 488) hx hb dL_holds_481 (by decide) (fun c_481 => ?_) (fun c_481 => ?_)
                              · exact absurd rfl c_481
                              · refine lv_iconst (v := 1) hx hb dL_holds_484 (by decide) ?_
                                refine lv_goto (tgt := 489) hx hb dL_holds_485 (by decide) ?_
                                refine lv_istore (lv' := [(12, .int (1)), (15, .int (nI zz)), (14, .int (nI wz)), (0, .ref b), (1, .ref (B + 0)), (2, .ref (B + 412)), (3, .ref (B + 413)), (4, .ref (B + 414)), (5, .ref (B + 415)), (6, .ref (B + 416)), (7, .ref (B + 417)), (8, .ref (B + 418)), (9, .ref (B + 419)), (10, .ref (B + 420)), (11, .ref (B + 421)), (13, .int (nI i)), (16, .int (nI (rg_sz M 90))), (17, .int (nI 6))]) hx hb dL_holds_489 hl (by decide) rfl (fun ls hl => ?_)
                                refine lv_goto (tgt := 560) hx hb dL_holds_491 (by decide) ?_
                                refine W.widen (k := 502 + 64 * i + 12) (n := 3900 + 384 * i + 72) (by omega) (by omega) ?_
                                exact cut_560 M_474 H locs ls hJ hH (lv_sub hl [3, 4, 5, 6, 7, 8, 9, 10, 11, 12, 13, 14, 0, 15, 1] rfl)
                          · have h6 := rg_lp_lt (n := 6) hm2.1 (by omega) c_422
                            refine lv_iload hx hb dL_holds_425 (lv_at hl 16 rfl) ?_
                            refine lv_aload hx hb dL_holds_427 (lv_at hl 10 rfl) ?_
                            refine lv_iload hx hb dL_holds_429 (lv_at hl 17 rfl) ?_
                            refine rg_ialdN C0 hH (o := 418) (j := k) (n0 := 6) (by decide) rfl rfl (by omega) dL_holds_431 ?_
                            refine lv_if_le (tgt := 439) hx hb dL_holds_432 (by decide) (fun c_432 => ?_) (fun c_432 => ?_)
                            · have hks : ¬ k < rg_sz M 90 := fun q => by
                                have hv := rp_d hI k h6
                                rw [if_pos q] at hv
                                obtain ⟨a, h1, h2⟩ := rp_VSw hI (rg_CI_d (rp_ci hI)) k q
                                have h2 : M.1 91 k = nI a := h2
                                rw [hv, h2, ← nI_succ] at c_432
                                have := (lw_le0 (t := a + 1) (by omega)).mp c_432
                                omega
                              refine lv_iconst (v := 0) hx hb dL_holds_439 (by decide) ?_
                              refine lv_iadd hx hb dL_holds_440 ?_
                              refine rg_topi (y := nI ((if k ≤ rg_sz M 90 then k else rg_sz M 90) + 0)) (by exact nI_add (if k ≤ rg_sz M 90 then k else rg_sz M 90) (0)) ?_
                              refine lv_istore (lv' := [(16, .int (nI ((if k ≤ rg_sz M 90 then k else rg_sz M 90) + 0))), (15, .int (nI zz)), (14, .int (nI wz)), (0, .ref b), (1, .ref (B + 0)), (2, .ref (B + 412)), (3, .ref (B + 413)), (4, .ref (B + 414)), (5, .ref (B + 415)), (6, .ref (B + 416)), (7, .ref (B + 417)), (8, .ref (B + 418)), (9, .ref (B + 419)), (10, .ref (B + 420)), (11, .ref (B + 421)), (12, .int (1)), (13, .int (nI i)), (17, .int (nI k))]) hx hb dL_holds_441 hl (by decide) rfl (fun ls hl => ?_)
                              refine lv_iinc (v := nI (k + 1)) (lv' := [(17, .int (nI (k + 1))), (16, .int (nI ((if k ≤ rg_sz M 90 then k else rg_sz M 90) + 0))), (15, .int (nI zz)), (14, .int (nI wz)), (0, .ref b), (1, .ref (B + 0)), (2, .ref (B + 412)), (3, .ref (B + 413)), (4, .ref (B + 414)), (5, .ref (B + 415)), (6, .ref (B + 416)), (7, .ref (B + 417)), (8, .ref (B + 418)), (9, .ref (B + 419)), (10, .ref (B + 420)), (11, .ref (B + 421)), (12, .int (1)), (13, .int (nI i))]) hx hb dL_holds_443 hl (k := 17) rfl (nI_1 _) (by decide) rfl (fun ls hl => ?_)
                              refine lv_goto (tgt := 418) hx hb dL_holds_446 (by decide) ?_
                              have ek : nI (if k + 1 ≤ rg_sz M 90 then k + 1 else rg_sz M 90) = nI ((if k ≤ rg_sz M 90 then k else rg_sz M 90) + 0) := by rw [show (if k + 1 ≤ rg_sz M 90 then k + 1 else rg_sz M 90) = (if k ≤ rg_sz M 90 then k else rg_sz M 90) + 0 from by split <;> split <;> omega]
                              replace hl : lv_has ls 18 [(17, .int (nI (k + 1))), (16, .int (nI (if k + 1 ≤ rg_sz M 90 then k + 1 else rg_sz M 90))), (15, .int (nI zz)), (14, .int (nI wz)), (0, .ref b), (1, .ref (B + 0)), (2, .ref (B + 412)), (3, .ref (B + 413)), (4, .ref (B + 414)), (5, .ref (B + 415)), (6, .ref (B + 416)), (7, .ref (B + 417)), (8, .ref (B + 418)), (9, .ref (B + 419)), (10, .ref (B + 420)), (11, .ref (B + 421)), (12, .int (1)), (13, .int (nI i))] := by rw [ek]; exact hl
                              exact ih2 (k + 1) (by omega) ls (lv_sub hl [2, 3, 4, 5, 6, 7, 8, 9, 10, 11, 12, 13, 14, 15, 16, 17, 1, 0] rfl)
                            · have hks : k < rg_sz M 90 := by
                                refine Nat.not_le.mp (fun q => c_432 ?_)
                                rw [(rp_dz hI h6).mpr (by omega)]
                                decide
                              refine lv_iconst (v := 1) hx hb dL_holds_435 (by decide) ?_
                              refine lv_goto (tgt := 440) hx hb dL_holds_436 (by decide) ?_
                              refine lv_iadd hx hb dL_holds_440 ?_
                              refine rg_topi (y := nI ((if k ≤ rg_sz M 90 then k else rg_sz M 90) + 1)) (by exact nI_add (if k ≤ rg_sz M 90 then k else rg_sz M 90) (1)) ?_
                              refine lv_istore (lv' := [(16, .int (nI ((if k ≤ rg_sz M 90 then k else rg_sz M 90) + 1))), (15, .int (nI zz)), (14, .int (nI wz)), (0, .ref b), (1, .ref (B + 0)), (2, .ref (B + 412)), (3, .ref (B + 413)), (4, .ref (B + 414)), (5, .ref (B + 415)), (6, .ref (B + 416)), (7, .ref (B + 417)), (8, .ref (B + 418)), (9, .ref (B + 419)), (10, .ref (B + 420)), (11, .ref (B + 421)), (12, .int (1)), (13, .int (nI i)), (17, .int (nI k))]) hx hb dL_holds_441 hl (by decide) rfl (fun ls hl => ?_)
                              refine lv_iinc (v := nI (k + 1)) (lv' := [(17, .int (nI (k + 1))), (16, .int (nI ((if k ≤ rg_sz M 90 then k else rg_sz M 90) + 1))), (15, .int (nI zz)), (14, .int (nI wz)), (0, .ref b), (1, .ref (B + 0)), (2, .ref (B + 412)), (3, .ref (B + 413)), (4, .ref (B + 414)), (5, .ref (B + 415)), (6, .ref (B + 416)), (7, .ref (B + 417)), (8, .ref (B + 418)), (9, .ref (B + 419)), (10, .ref (B + 420)), (11, .ref (B + 421)), (12, .int (1)), (13, .int (nI i))]) hx hb dL_holds_443 hl (k := 17) rfl (nI_1 _) (by decide) rfl (fun ls hl => ?_)
                              refine lv_goto (tgt := 418) hx hb dL_holds_446 (by decide) ?_
                              have ek : nI (if k + 1 ≤ rg_sz M 90 then k + 1 else rg_sz M 90) = nI ((if k ≤ rg_sz M 90 then k else rg_sz M 90) + 1) := by rw [show (if k + 1 ≤ rg_sz M 90 then k + 1 else rg_sz M 90) = (if k ≤ rg_sz M 90 then k else rg_sz M 90) + 1 from by split <;> split <;> omega]
                              replace hl : lv_has ls 18 [(17, .int (nI (k + 1))), (16, .int (nI (if k + 1 ≤ rg_sz M 90 then k + 1 else rg_sz M 90))), (15, .int (nI zz)), (14, .int (nI wz)), (0, .ref b), (1, .ref (B + 0)), (2, .ref (B + 412)), (3, .ref (B + 413)), (4, .ref (B + 414)), (5, .ref (B + 415)), (6, .ref (B + 416)), (7, .ref (B + 417)), (8, .ref (B + 418)), (9, .ref (B + 419)), (10, .ref (B + 420)), (11, .ref (B + 421)), (12, .int (1)), (13, .int (nI i))] := by rw [ek]; exact hl
                              exact ih2 (k + 1) (by omega) ls (lv_sub hl [2, 3, 4, 5, 6, 7, 8, 9, 10, 11, 12, 13, 14, 15, 16, 17, 1, 0] rfl)
                      have z0 : (0 : Int32) = nI (if 0 ≤ rg_sz M 90 then 0 else rg_sz M 90) := by rw [if_pos (Nat.zero_le _)]; rfl
                      replace hl : lv_has ls 18 [(17, .int (nI 0)), (16, .int (nI (if 0 ≤ rg_sz M 90 then 0 else rg_sz M 90))), (15, .int (nI zz)), (14, .int (nI wz)), (0, .ref b), (1, .ref (B + 0)), (2, .ref (B + 412)), (3, .ref (B + 413)), (4, .ref (B + 414)), (5, .ref (B + 415)), (6, .ref (B + 416)), (7, .ref (B + 417)), (8, .ref (B + 418)), (9, .ref (B + 419)), (10, .ref (B + 420)), (11, .ref (B + 421)), (12, .int (1)), (13, .int (nI i))] := by rw [if_pos (Nat.zero_le _)]; exact hl
                      exact cut_418 7 0 (by omega) ls (lv_sub hl [2, 3, 4, 5, 6, 7, 8, 9, 10, 11, 12, 13, 14, 15, 16, 17, 1, 0] rfl)
                  · refine lv_aload_n hx hb dL_holds_386 rfl (lv_at hl 3 rfl) ?_
                    refine lv_aload_n hx hb dL_holds_387 rfl (lv_at hl 4 rfl) ?_
                    refine lv_aload_n hx hb dL_holds_388 rfl (lv_at hl 5 rfl) ?_
                    refine lv_aload hx hb dL_holds_389 (lv_at hl 6 rfl) ?_
                    refine lv_aload hx hb dL_holds_391 (lv_at hl 7 rfl) ?_
                    refine lv_aload hx hb dL_holds_393 (lv_at hl 9 rfl) ?_
                    refine lv_iload hx hb dL_holds_395 (lv_at hl 0 rfl) ?_
                    refine rg_callSWb C0 hH (As := [.ref (B + 0), .ref (B + 412), .ref (B + 413), .ref (B + 414), .ref (B + 415), .ref (B + 417), .int (nI zz)]) (rest := []) (k_L_isMended l E B M zz hI hz_zz hst) (rg_cwS 7 C0.1.2.2.2.2 tw_m_L_166 tw_s_L_isMended tw_n_L tw_c_L_isMended rfl rfl hd_L_isMended ⟨Nat.le_of_ble_eq_true rfl, Nat.le_of_ble_eq_true rfl⟩) rfl hl.1 rfl (Nat.le_of_ble_eq_true rfl) dL_holds_397 ⟨by show _ ≤ (4342 : Nat); omega, by show _ ≤ (26940 : Nat); omega⟩ (fun r_397 M_397 H locs e_397 hH => ?_)
                    obtain ⟨rfl, hJ⟩ := e_397
                    refine lv_istore (lv' := [(12, .int (1)), (15, .int (nI zz)), (14, .int (nI wz)), (0, .ref b), (1, .ref (B + 0)), (2, .ref (B + 412)), (3, .ref (B + 413)), (4, .ref (B + 414)), (5, .ref (B + 415)), (6, .ref (B + 416)), (7, .ref (B + 417)), (8, .ref (B + 418)), (9, .ref (B + 419)), (10, .ref (B + 420)), (11, .ref (B + 421)), (13, .int (nI i))]) hx hb dL_holds_400 hl (by decide) rfl (fun ls hl => ?_)
                    refine lv_goto (tgt := 560) hx hb dL_holds_402 (by decide) ?_
                    refine W.widen (k := 502 + 64 * i + 12) (n := 3900 + 384 * i + 72) (by omega) (by omega) ?_
                    exact cut_560 M_397 H locs ls hJ hH (lv_sub hl [3, 4, 5, 6, 7, 8, 9, 10, 11, 12, 13, 14, 0, 15, 1] rfl)
                · refine lv_aload_n hx hb dL_holds_360 rfl (lv_at hl 3 rfl) ?_
                  refine lv_aload hx hb dL_holds_361 (lv_at hl 6 rfl) ?_
                  refine lv_aload hx hb dL_holds_363 (lv_at hl 7 rfl) ?_
                  refine lv_aload hx hb dL_holds_365 (lv_at hl 9 rfl) ?_
                  refine lv_aload hx hb dL_holds_367 (lv_at hl 11 rfl) ?_
                  refine lv_iload hx hb dL_holds_369 (lv_at hl 0 rfl) ?_
                  refine rg_callSWb C0 hH (As := [.ref (B + 0), .ref (B + 414), .ref (B + 415), .ref (B + 417), .ref (B + 419), .int (nI zz)]) (rest := []) (k_L_isChosen l E B M zz hI hz_zz hst) (rg_cwS 6 C0.1.2.2.2.2 tw_m_L_163 tw_s_L_isChosen tw_n_L tw_c_L_isChosen rfl rfl hd_L_isChosen ⟨Nat.le_of_ble_eq_true rfl, Nat.le_of_ble_eq_true rfl⟩) rfl hl.1 rfl (Nat.le_of_ble_eq_true rfl) dL_holds_371 ⟨by show _ ≤ (4342 : Nat); omega, by show _ ≤ (26940 : Nat); omega⟩ (fun r_371 M_371 H locs e_371 hH => ?_)
                  obtain ⟨rfl, hJ⟩ := e_371
                  refine lv_istore (lv' := [(12, .int (1)), (15, .int (nI zz)), (14, .int (nI wz)), (0, .ref b), (1, .ref (B + 0)), (2, .ref (B + 412)), (3, .ref (B + 413)), (4, .ref (B + 414)), (5, .ref (B + 415)), (6, .ref (B + 416)), (7, .ref (B + 417)), (8, .ref (B + 418)), (9, .ref (B + 419)), (10, .ref (B + 420)), (11, .ref (B + 421)), (13, .int (nI i))]) hx hb dL_holds_374 hl (by decide) rfl (fun ls hl => ?_)
                  refine lv_goto (tgt := 560) hx hb dL_holds_376 (by decide) ?_
                  refine W.widen (k := 502 + 64 * i + 12) (n := 3900 + 384 * i + 72) (by omega) (by omega) ?_
                  exact cut_560 M_371 H locs ls hJ hH (lv_sub hl [3, 4, 5, 6, 7, 8, 9, 10, 11, 12, 13, 14, 0, 15, 1] rfl)
              · refine lv_aload_n hx hb dL_holds_330 rfl (lv_at hl 3 rfl) ?_
                refine lv_aload_n hx hb dL_holds_331 rfl (lv_at hl 4 rfl) ?_
                refine lv_aload_n hx hb dL_holds_332 rfl (lv_at hl 5 rfl) ?_
                refine lv_aload hx hb dL_holds_333 (lv_at hl 6 rfl) ?_
                refine lv_aload hx hb dL_holds_335 (lv_at hl 7 rfl) ?_
                refine lv_aload hx hb dL_holds_337 (lv_at hl 9 rfl) ?_
                refine lv_aload hx hb dL_holds_339 (lv_at hl 10 rfl) ?_
                refine lv_aload hx hb dL_holds_341 (lv_at hl 11 rfl) ?_
                refine lv_iload hx hb dL_holds_343 (lv_at hl 0 rfl) ?_
                refine rg_callSWb C0 hH (As := [.ref (B + 0), .ref (B + 412), .ref (B + 413), .ref (B + 414), .ref (B + 415), .ref (B + 417), .ref (B + 418), .ref (B + 419), .int (nI zz)]) (rest := []) (k_L_isOffered l E B M zz hI hz_zz hst) (rg_cwS 9 C0.1.2.2.2.2 tw_m_L_159 tw_s_L_isOffered tw_n_L tw_c_L_isOffered rfl rfl hd_L_isOffered ⟨Nat.le_of_ble_eq_true rfl, Nat.le_of_ble_eq_true rfl⟩) rfl hl.1 rfl (Nat.le_of_ble_eq_true rfl) dL_holds_345 ⟨by show _ ≤ (4342 : Nat); omega, by show _ ≤ (26940 : Nat); omega⟩ (fun r_345 M_345 H locs e_345 hH => ?_)
                obtain ⟨rfl, hJ⟩ := e_345
                refine lv_istore (lv' := [(12, .int (1)), (15, .int (nI zz)), (14, .int (nI wz)), (0, .ref b), (1, .ref (B + 0)), (2, .ref (B + 412)), (3, .ref (B + 413)), (4, .ref (B + 414)), (5, .ref (B + 415)), (6, .ref (B + 416)), (7, .ref (B + 417)), (8, .ref (B + 418)), (9, .ref (B + 419)), (10, .ref (B + 420)), (11, .ref (B + 421)), (13, .int (nI i))]) hx hb dL_holds_348 hl (by decide) rfl (fun ls hl => ?_)
                refine lv_goto (tgt := 560) hx hb dL_holds_350 (by decide) ?_
                refine W.widen (k := 502 + 64 * i + 12) (n := 3900 + 384 * i + 72) (by omega) (by omega) ?_
                exact cut_560 M_345 H locs ls hJ hH (lv_sub hl [3, 4, 5, 6, 7, 8, 9, 10, 11, 12, 13, 14, 0, 15, 1] rfl)
            · refine lv_aload_n hx hb dL_holds_304 rfl (lv_at hl 3 rfl) ?_
              refine lv_aload hx hb dL_holds_305 (lv_at hl 6 rfl) ?_
              refine lv_aload hx hb dL_holds_307 (lv_at hl 7 rfl) ?_
              refine lv_aload hx hb dL_holds_309 (lv_at hl 8 rfl) ?_
              refine lv_aload hx hb dL_holds_311 (lv_at hl 9 rfl) ?_
              refine lv_iload hx hb dL_holds_313 (lv_at hl 0 rfl) ?_
              refine rg_callSWb C0 hH (As := [.ref (B + 0), .ref (B + 414), .ref (B + 415), .ref (B + 416), .ref (B + 417), .int (nI zz)]) (rest := []) (k_L_isBegun l E B M zz hI hz_zz hst) (rg_cwS 6 C0.1.2.2.2.2 tw_m_L_155 tw_s_L_isBegun tw_n_L tw_c_L_isBegun rfl rfl hd_L_isBegun ⟨Nat.le_of_ble_eq_true rfl, Nat.le_of_ble_eq_true rfl⟩) rfl hl.1 rfl (Nat.le_of_ble_eq_true rfl) dL_holds_315 ⟨by show _ ≤ (4342 : Nat); omega, by show _ ≤ (26940 : Nat); omega⟩ (fun r_315 M_315 H locs e_315 hH => ?_)
              obtain ⟨rfl, hJ⟩ := e_315
              refine lv_istore (lv' := [(12, .int (1)), (15, .int (nI zz)), (14, .int (nI wz)), (0, .ref b), (1, .ref (B + 0)), (2, .ref (B + 412)), (3, .ref (B + 413)), (4, .ref (B + 414)), (5, .ref (B + 415)), (6, .ref (B + 416)), (7, .ref (B + 417)), (8, .ref (B + 418)), (9, .ref (B + 419)), (10, .ref (B + 420)), (11, .ref (B + 421)), (13, .int (nI i))]) hx hb dL_holds_318 hl (by decide) rfl (fun ls hl => ?_)
              refine lv_goto (tgt := 560) hx hb dL_holds_320 (by decide) ?_
              refine W.widen (k := 502 + 64 * i + 12) (n := 3900 + 384 * i + 72) (by omega) (by omega) ?_
              exact cut_560 M_315 H locs ls hJ hH (lv_sub hl [3, 4, 5, 6, 7, 8, 9, 10, 11, 12, 13, 14, 0, 15, 1] rfl)
  have cut_78 : ∀ (fu i : Nat), i ≤ 16 ∧ 16 < i + fu → ∀ (M : rg_Mem) (H : Heap) (locs : List Loc) (ls : Array Slot), lw_S M i (if i < 3 then i else 3) → rg_H E B 422 rg_R0 M s H locs → lv_has ls 18 [(0, .ref b), (1, .ref (B + 0)), (2, .ref (B + 412)), (3, .ref (B + 413)), (4, .ref (B + 414)), (5, .ref (B + 415)), (6, .ref (B + 416)), (7, .ref (B + 417)), (8, .ref (B + 418)), (9, .ref (B + 419)), (10, .ref (B + 420)), (11, .ref (B + 421)), (12, .int (1)), (13, .int (nI i))] → W p l e ({ frames := 10, cells := 4342, slots := 26940, locals := 230 } : Room) s m args below meth c H locs (422 + 5 * i) (3420 + 30 * i) (MQ below (rg_Ri E B 0 rg_RN rg_MN (fun r => r = 1)) args s 4342 26940 (rg_A B)) (F0 m 78 ls []) := by
    intro fu
    induction fu with
    | zero =>
      intro i hm
      exact absurd hm (by omega)
    | succ fu ih =>
      intro i hm M H locs ls hS hH hl
      refine lv_iload hx hb dL_holds_78 (lv_at hl 13 rfl) ?_
      refine lv_bipush (v := 16) hx hb dL_holds_80 (by decide) ?_
      refine lv_icmp_ge (tgt := 253) hx hb dL_holds_82 (by decide) (fun c_82 => ?_) (fun c_82 => ?_)
      · have q16 : i = 16 := rg_lp_end (n := 16) hm.1 (by omega) c_82
        subst q16
        refine lv_iconst (v := 0) hx hb dL_holds_253 (by decide) ?_
        refine lv_istore (lv' := [(13, .int (0)), (0, .ref b), (1, .ref (B + 0)), (2, .ref (B + 412)), (3, .ref (B + 413)), (4, .ref (B + 414)), (5, .ref (B + 415)), (6, .ref (B + 416)), (7, .ref (B + 417)), (8, .ref (B + 418)), (9, .ref (B + 419)), (10, .ref (B + 420)), (11, .ref (B + 421)), (12, .int (1))]) hx hb dL_holds_254 hl (by decide) rfl (fun ls hl => ?_)
        refine W.widen (k := 502 + 64 * 0) (n := 3900 + 384 * 0) (by omega) (by omega) ?_
        exact cut_256 61 0 (by omega) M H locs ls (lw_S_Inv hS) hH (lv_sub hl [1, 2, 3, 4, 5, 6, 7, 8, 9, 10, 11, 12, 13, 0] rfl)
      · refine lv_iload hx hb dL_holds_85 (lv_at hl 12 rfl) ?_
        refine lv_if_eq (tgt := 253) hx hb dL_holds_87 (by decide) (fun c_87 => ?_) (fun c_87 => ?_)
        · exact absurd c_87 (by decide)
        · have h16 := rg_lp_lt (n := 16) hm.1 (by omega) c_82
          refine lv_aload_n hx hb dL_holds_90 rfl (lv_at hl 0 rfl) ?_
          refine lv_sipush (v := 300) hx hb dL_holds_91 (by decide) ?_
          refine lv_iload hx hb dL_holds_94 (lv_at hl 13 rfl) ?_
          refine lv_iadd hx hb dL_holds_96 ?_
          refine rg_topi (y := nI (300 + i)) (by exact nI_add (300) (i)) ?_
          refine lv_ldc (v := 1000000000) hx hb C0.1.2.2.2.1 (C0.1.2.2.2.2 _ tw_q_L_144) dL_holds_97 ?_
          refine rg_topi (y := nI 1000000000) (by rfl) ?_
          refine rg_callSX C0 hX hbl hbB hH (As := [.ref b, .int (nI (300 + i)), .int (nI 1000000000)]) (rest := []) (k_L_from l E B 422 rg_R0 M b L xs (300 + i) 1000000000 hL hbB (by omega) ⟨by omega, by omega⟩) (rg_cwS 3 C0.1.2.2.2.2 tw_m_L_145 tw_s_L_from tw_n_L tw_c_L_from rfl rfl hd_L_from ⟨Nat.le_of_ble_eq_true rfl, Nat.le_of_ble_eq_true rfl⟩) rfl hl.1 rfl (Nat.le_of_ble_eq_true rfl) dL_holds_99 ⟨by show _ ≤ (4342 : Nat); omega, by show _ ≤ (26940 : Nat); omega⟩ (fun r_99 H locs e_99 hH => ?_)
          obtain ⟨z, hz_z, rfl⟩ := e_99
          refine lv_istore (lv' := [(14, .int (nI z)), (0, .ref b), (1, .ref (B + 0)), (2, .ref (B + 412)), (3, .ref (B + 413)), (4, .ref (B + 414)), (5, .ref (B + 415)), (6, .ref (B + 416)), (7, .ref (B + 417)), (8, .ref (B + 418)), (9, .ref (B + 419)), (10, .ref (B + 420)), (11, .ref (B + 421)), (12, .int (1)), (13, .int (nI i))]) hx hb dL_holds_102 hl (by decide) rfl (fun ls hl => ?_)
          have cut_135 : ∀ (x : Int32) (ls : Array Slot), (x = -1 ∨ ∃ q, q < 4 ∧ x = nI q) → lv_has ls 18 [(14, .int (nI z)), (0, .ref b), (1, .ref (B + 0)), (2, .ref (B + 412)), (3, .ref (B + 413)), (4, .ref (B + 414)), (5, .ref (B + 415)), (6, .ref (B + 416)), (7, .ref (B + 417)), (8, .ref (B + 418)), (9, .ref (B + 419)), (10, .ref (B + 420)), (11, .ref (B + 421)), (12, .int (1)), (13, .int (nI i))] → W p l e ({ frames := 10, cells := 4342, slots := 26940, locals := 230 } : Room) s m args below meth c H locs (422 + 5 * i + 0) (3420 + 30 * i + 0) (MQ below (rg_Ri E B 0 rg_RN rg_MN (fun r => r = 1)) args s 4342 26940 (rg_A B)) (F0 m 135 ls [.int (x)]) := by
            intro x ls hx9 hl
            obtain ⟨t9, ht9⟩ := lw_se1 hx9
            refine lv_istore (lv' := [(15, .int (x)), (14, .int (nI z)), (0, .ref b), (1, .ref (B + 0)), (2, .ref (B + 412)), (3, .ref (B + 413)), (4, .ref (B + 414)), (5, .ref (B + 415)), (6, .ref (B + 416)), (7, .ref (B + 417)), (8, .ref (B + 418)), (9, .ref (B + 419)), (10, .ref (B + 420)), (11, .ref (B + 421)), (12, .int (1)), (13, .int (nI i))]) hx hb dL_holds_135 hl (by decide) rfl (fun ls hl => ?_)
            have cut_173 : ∀ (g : Int32) (ls : Array Slot), lw_sgp g → lv_has ls 18 [(15, .int (x)), (14, .int (nI z)), (0, .ref b), (1, .ref (B + 0)), (2, .ref (B + 412)), (3, .ref (B + 413)), (4, .ref (B + 414)), (5, .ref (B + 415)), (6, .ref (B + 416)), (7, .ref (B + 417)), (8, .ref (B + 418)), (9, .ref (B + 419)), (10, .ref (B + 420)), (11, .ref (B + 421)), (12, .int (1)), (13, .int (nI i))] → W p l e ({ frames := 10, cells := 4342, slots := 26940, locals := 230 } : Room) s m args below meth c H locs (422 + 5 * i + 0) (3420 + 30 * i + 0) (MQ below (rg_Ri E B 0 rg_RN rg_MN (fun r => r = 1)) args s 4342 26940 (rg_A B)) (F0 m 173 ls [.int (g)]) := by
              intro g ls hg9 hl
              refine lv_istore (lv' := [(16, .int (g)), (15, .int (x)), (14, .int (nI z)), (0, .ref b), (1, .ref (B + 0)), (2, .ref (B + 412)), (3, .ref (B + 413)), (4, .ref (B + 414)), (5, .ref (B + 415)), (6, .ref (B + 416)), (7, .ref (B + 417)), (8, .ref (B + 418)), (9, .ref (B + 419)), (10, .ref (B + 420)), (11, .ref (B + 421)), (12, .int (1)), (13, .int (nI i))]) hx hb dL_holds_173 hl (by decide) rfl (fun ls hl => ?_)
              refine lv_aload_n hx hb dL_holds_175 rfl (lv_at hl 5 rfl) ?_
              refine lv_iload hx hb dL_holds_176 (lv_at hl 16 rfl) ?_
              refine lv_iconst (v := 1) hx hb dL_holds_178 (by decide) ?_
              refine lv_iload hx hb dL_holds_179 (lv_at hl 2 rfl) ?_
              refine lv_sipush (v := 1680) hx hb dL_holds_181 (by decide) ?_
              refine lv_idiv hx hb dL_holds_184 (by decide) ?_
              refine rg_topi (y := nI (z / 1680)) (by exact pk_div (a := z) (d := 1680) (by omega) (by omega) (by omega)) ?_
              refine lv_iconst (v := 5) hx hb dL_holds_185 (by decide) ?_
              refine lv_irem hx hb dL_holds_186 (by decide) ?_
              refine rg_topi (y := nI ((z / 1680) % 5)) (by exact pk_rem (a := z / 1680) (d := 5) (by omega) (by omega) (by omega)) ?_
              refine lv_iadd hx hb dL_holds_187 ?_
              refine rg_topi (y := nI (1 + ((z / 1680) % 5))) (by exact nI_add (1) ((z / 1680) % 5)) ?_
              refine lv_iload hx hb dL_holds_188 (lv_at hl 1 rfl) ?_
              refine lv_iconst (v := 1) hx hb dL_holds_190 (by decide) ?_
              refine lv_iadd hx hb dL_holds_191 ?_
              refine lv_iconst (v := 4) hx hb dL_holds_192 (by decide) ?_
              refine lv_ishl hx hb dL_holds_193 ?_
              refine lv_ior hx hb dL_holds_194 ?_
              refine lv_iload hx hb dL_holds_195 (lv_at hl 0 rfl) ?_
              refine lv_bipush (v := 8) hx hb dL_holds_197 (by decide) ?_
              refine lv_ishl hx hb dL_holds_199 ?_
              refine lv_ior hx hb dL_holds_200 ?_
              refine rg_iastN C0 hH (o := 412) (j := i) (n0 := 16) (by decide) rfl rfl (by omega) dL_holds_201 (fun H locs hH => ?_)
              refine lv_aload_n hx hb dL_holds_202 rfl (lv_at hl 4 rfl) ?_
              refine lv_iconst (v := 1) hx hb dL_holds_203 (by decide) ?_
              refine lv_iload hx hb dL_holds_204 (lv_at hl 2 rfl) ?_
              refine lv_sipush (v := 1680) hx hb dL_holds_206 (by decide) ?_
              refine lv_idiv hx hb dL_holds_209 (by decide) ?_
              refine rg_topi (y := nI (z / 1680)) (by exact pk_div (a := z) (d := 1680) (by omega) (by omega) (by omega)) ?_
              refine lv_iconst (v := 5) hx hb dL_holds_210 (by decide) ?_
              refine lv_irem hx hb dL_holds_211 (by decide) ?_
              refine rg_topi (y := nI ((z / 1680) % 5)) (by exact pk_rem (a := z / 1680) (d := 5) (by omega) (by omega) (by omega)) ?_
              refine lv_iadd hx hb dL_holds_212 ?_
              refine rg_topi (y := nI (1 + ((z / 1680) % 5))) (by exact nI_add (1) ((z / 1680) % 5)) ?_
              refine lv_iload hx hb dL_holds_213 (lv_at hl 1 rfl) ?_
              refine lv_iload hx hb dL_holds_215 (lv_at hl 0 rfl) ?_
              have hCX : rg_CI (rg_I M 412 i (((nI (1 + ((z / 1680) % 5))) ||| ((x + 1) <<< (4 &&& 31))) ||| (g <<< (8 &&& 31)))) := rg_CI_c2 (lw_S_CI hS (by omega) (by split <;> omega)) (fun c hc => rg_I_cell (by omega)) (fun c hc => rfl)
              have hX1 : (rg_I M 412 i (((nI (1 + ((z / 1680) % 5))) ||| ((x + 1) <<< (4 &&& 31))) ||| (g <<< (8 &&& 31)))).1 1 4 = nI i := by rw [rg_I_cell (by omega)]; exact hS.1
              refine rg_callGi C0 hH (As := [.int (nI (1 + ((z / 1680) % 5))), .int (x), .int (g)]) (rest := []) (o := 0) (ci := 6) (a_word l E B (rg_I M 412 i (((nI (1 + ((z / 1680) % 5))) ||| ((x + 1) <<< (4 &&& 31))) ||| (g <<< (8 &&& 31)))) (1 + ((z / 1680) % 5)) i x g hCX ⟨by omega, by omega⟩ hx9 hg9 (by omega) hX1 hst) (rg_cw 3 C0.1.2.2.2.2 tw_m_L_149 tw_i_X6_word tw_v_X6_word tw_n_X6 tw_c_X6_word rfl rfl hd_X6_word ⟨Nat.le_of_ble_eq_true rfl, Nat.le_of_ble_eq_true rfl⟩) rfl (by decide) rfl (by decide) rfl hl.1 rfl (Nat.le_of_ble_eq_true rfl) dL_holds_217 ⟨by show _ ≤ (4342 : Nat); omega, by show _ ≤ (26940 : Nat); omega⟩ (fun H locs hH => ?_)
              have hS1 : lw_S (rg_I (rg_I (rg_I (rg_I (rg_I M 412 i (((nI (1 + ((z / 1680) % 5))) ||| ((x + 1) <<< (4 &&& 31))) ||| (g <<< (8 &&& 31)))) 2 i (nI (1 + ((z / 1680) % 5)))) 3 i x) 4 i g) 1 4 (nI (i + 1))) (i + 1) (if i < 3 then i else 3) := lw_S_w hS ⟨by omega, by omega⟩ hx9 ht9 hg9
              generalize rg_I (rg_I (rg_I (rg_I (rg_I M 412 i (((nI (1 + ((z / 1680) % 5))) ||| ((x + 1) <<< (4 &&& 31))) ||| (g <<< (8 &&& 31)))) 2 i (nI (1 + ((z / 1680) % 5)))) 3 i x) 4 i g) 1 4 (nI (i + 1)) = Y at hH hS1
              refine lv_iload hx hb dL_holds_220 (lv_at hl 16 rfl) ?_
              refine lv_icmp_ne (tgt := 244) hx hb dL_holds_222 (by decide) (fun c_222 => ?_) (fun c_222 => ?_)
              · exact absurd rfl c_222
              · refine lv_iload hx hb dL_holds_225 (lv_at hl 16 rfl) ?_
                refine lv_iconst (v := 2) hx hb dL_holds_227 (by decide) ?_
                refine lv_icmp_gt (tgt := 240) hx hb dL_holds_228 (by decide) (fun c_228 => ?_) (fun c_228 => ?_)
                · refine lv_iconst (v := 1) hx hb dL_holds_240 (by decide) ?_
                  refine lv_goto (tgt := 245) hx hb dL_holds_241 (by decide) ?_
                  refine lv_istore (lv' := [(12, .int (1)), (16, .int (g)), (15, .int (x)), (14, .int (nI z)), (0, .ref b), (1, .ref (B + 0)), (2, .ref (B + 412)), (3, .ref (B + 413)), (4, .ref (B + 414)), (5, .ref (B + 415)), (6, .ref (B + 416)), (7, .ref (B + 417)), (8, .ref (B + 418)), (9, .ref (B + 419)), (10, .ref (B + 420)), (11, .ref (B + 421)), (13, .int (nI i))]) hx hb dL_holds_245 hl (by decide) rfl (fun ls hl => ?_)
                  refine lv_iinc (v := nI (i + 1)) (lv' := [(13, .int (nI (i + 1))), (12, .int (1)), (16, .int (g)), (15, .int (x)), (14, .int (nI z)), (0, .ref b), (1, .ref (B + 0)), (2, .ref (B + 412)), (3, .ref (B + 413)), (4, .ref (B + 414)), (5, .ref (B + 415)), (6, .ref (B + 416)), (7, .ref (B + 417)), (8, .ref (B + 418)), (9, .ref (B + 419)), (10, .ref (B + 420)), (11, .ref (B + 421))]) hx hb dL_holds_247 hl (k := 16) rfl (nI_1 _) (by decide) rfl (fun ls hl => ?_)
                  refine lv_goto (tgt := 78) hx hb dL_holds_250 (by decide) ?_
                  refine W.widen (k := 422 + 5 * (i + 1)) (n := 3420 + 30 * (i + 1)) (by omega) (by omega) ?_
                  have hi3 : ¬ i < 3 := by have := (lw_nlt (a := 2) (b := i) (by omega) (by omega)).mp c_228; omega
                  exact ih (i + 1) (by omega) Y H locs ls (by rw [show (if i + 1 < 3 then i + 1 else 3) = (if i < 3 then i else 3) from by rw [if_neg (by omega), if_neg hi3]]; exact hS1) hH (lv_sub hl [5, 6, 7, 8, 9, 10, 11, 12, 13, 14, 15, 16, 1, 0] rfl)
                · refine lv_aload_n hx hb dL_holds_231 rfl (lv_at hl 4 rfl) ?_
                  have hi3 : i < 3 := by have := lw_no (lw_nlt (a := 2) (b := i) (by omega) (by omega)) c_228; omega
                  refine rg_callGi C0 hH (As := []) (rest := []) (o := 0) (ci := 6) (a_poet l E B Y i (lw_S_CI hS1 (by omega) (by split <;> omega)) hi3 (by rw [hS1.2.1, if_pos hi3]) hst) (rg_cw 0 C0.1.2.2.2.2 tw_m_L_152 tw_i_X6_poet tw_v_X6_poet tw_n_X6 tw_c_X6_poet rfl rfl hd_X6_poet ⟨Nat.le_of_ble_eq_true rfl, Nat.le_of_ble_eq_true rfl⟩) rfl (by decide) rfl (by decide) rfl hl.1 rfl (Nat.le_of_ble_eq_true rfl) dL_holds_232 ⟨by show _ ≤ (4342 : Nat); omega, by show _ ≤ (26940 : Nat); omega⟩ (fun H locs hH => ?_)
                  refine lv_iload hx hb dL_holds_235 (lv_at hl 16 rfl) ?_
                  refine lv_icmp_ne (tgt := 244) hx hb dL_holds_237 (by decide) (fun c_237 => ?_) (fun c_237 => ?_)
                  · exact absurd rfl c_237
                  · refine lv_iconst (v := 1) hx hb dL_holds_240 (by decide) ?_
                    refine lv_goto (tgt := 245) hx hb dL_holds_241 (by decide) ?_
                    refine lv_istore (lv' := [(12, .int (1)), (16, .int (g)), (15, .int (x)), (14, .int (nI z)), (0, .ref b), (1, .ref (B + 0)), (2, .ref (B + 412)), (3, .ref (B + 413)), (4, .ref (B + 414)), (5, .ref (B + 415)), (6, .ref (B + 416)), (7, .ref (B + 417)), (8, .ref (B + 418)), (9, .ref (B + 419)), (10, .ref (B + 420)), (11, .ref (B + 421)), (13, .int (nI i))]) hx hb dL_holds_245 hl (by decide) rfl (fun ls hl => ?_)
                    refine lv_iinc (v := nI (i + 1)) (lv' := [(13, .int (nI (i + 1))), (12, .int (1)), (16, .int (g)), (15, .int (x)), (14, .int (nI z)), (0, .ref b), (1, .ref (B + 0)), (2, .ref (B + 412)), (3, .ref (B + 413)), (4, .ref (B + 414)), (5, .ref (B + 415)), (6, .ref (B + 416)), (7, .ref (B + 417)), (8, .ref (B + 418)), (9, .ref (B + 419)), (10, .ref (B + 420)), (11, .ref (B + 421))]) hx hb dL_holds_247 hl (k := 16) rfl (nI_1 _) (by decide) rfl (fun ls hl => ?_)
                    refine lv_goto (tgt := 78) hx hb dL_holds_250 (by decide) ?_
                    refine W.widen (k := 422 + 5 * (i + 1)) (n := 3420 + 30 * (i + 1)) (by omega) (by omega) ?_
                    exact ih (i + 1) (by omega) (rg_I Y 0 9 (nI (i + 1))) H locs ls (by rw [show (if i + 1 < 3 then i + 1 else 3) = i + 1 from by split <;> omega]; exact lw_S_p hS1) hH (lv_sub hl [5, 6, 7, 8, 9, 10, 11, 12, 13, 14, 15, 16, 1, 0] rfl)
            refine lv_iconst (v := 1) hx hb dL_holds_137 (by decide) ?_
            refine lv_iload hx hb dL_holds_138 (lv_at hl 1 rfl) ?_
            refine lv_bipush (v := 7) hx hb dL_holds_140 (by decide) ?_
            refine lv_idiv hx hb dL_holds_142 (by decide) ?_
            refine rg_topi (y := nI (z / 7)) (by exact pk_div (a := z) (d := 7) (by omega) (by omega) (by omega)) ?_
            refine lv_bipush (v := 8) hx hb dL_holds_143 (by decide) ?_
            refine lv_irem hx hb dL_holds_145 (by decide) ?_
            refine rg_topi (y := nI ((z / 7) % 8)) (by exact pk_rem (a := z / 7) (d := 8) (by omega) (by omega) (by omega)) ?_
            refine lv_ishl hx hb dL_holds_146 ?_
            refine lv_iload hx hb dL_holds_147 (lv_at hl 1 rfl) ?_
            refine lv_bipush (v := 56) hx hb dL_holds_149 (by decide) ?_
            refine lv_idiv hx hb dL_holds_151 (by decide) ?_
            refine rg_topi (y := nI (z / 56)) (by exact pk_div (a := z) (d := 56) (by omega) (by omega) (by omega)) ?_
            refine lv_iconst (v := 3) hx hb dL_holds_152 (by decide) ?_
            refine lv_irem hx hb dL_holds_153 (by decide) ?_
            refine rg_topi (y := nI ((z / 56) % 3)) (by exact pk_rem (a := z / 56) (d := 3) (by omega) (by omega) (by omega)) ?_
            refine lv_if_ne (tgt := 171) hx hb dL_holds_154 (by decide) (fun c_154 => ?_) (fun c_154 => ?_)
            · refine lv_iconst (v := 0) hx hb dL_holds_171 (by decide) ?_
              refine lv_ior hx hb dL_holds_172 ?_
              exact cut_173 _ ls ⟨z / 7 % 8, 10, by omega, by omega, by unfold lw_sgv; rw [if_neg (by omega)]⟩ hl
            · refine lv_iconst (v := 1) hx hb dL_holds_157 (by decide) ?_
              refine lv_iload hx hb dL_holds_158 (lv_at hl 1 rfl) ?_
              refine lv_sipush (v := 168) hx hb dL_holds_160 (by decide) ?_
              refine lv_idiv hx hb dL_holds_163 (by decide) ?_
              refine rg_topi (y := nI (z / 168)) (by exact pk_div (a := z) (d := 168) (by omega) (by omega) (by omega)) ?_
              refine lv_bipush (v := 10) hx hb dL_holds_164 (by decide) ?_
              refine lv_irem hx hb dL_holds_166 (by decide) ?_
              refine rg_topi (y := nI ((z / 168) % 10)) (by exact pk_rem (a := z / 168) (d := 10) (by omega) (by omega) (by omega)) ?_
              refine lv_ishl hx hb dL_holds_167 ?_
              refine lv_goto (tgt := 172) hx hb dL_holds_168 (by decide) ?_
              refine lv_ior hx hb dL_holds_172 ?_
              exact cut_173 _ ls ⟨z / 7 % 8, z / 168 % 10, by omega, by omega, by unfold lw_sgv; rw [if_pos (by omega)]⟩ hl
          refine lv_iload hx hb dL_holds_104 (lv_at hl 0 rfl) ?_
          refine lv_bipush (v := 7) hx hb dL_holds_106 (by decide) ?_
          refine lv_irem hx hb dL_holds_108 (by decide) ?_
          refine rg_topi (y := nI (z % 7)) (by exact pk_rem (a := z) (d := 7) (by omega) (by omega) (by omega)) ?_
          refine lv_iconst (v := 4) hx hb dL_holds_109 (by decide) ?_
          refine lv_icmp_ge (tgt := 121) hx hb dL_holds_110 (by decide) (fun c_110 => ?_) (fun c_110 => ?_)
          · refine lv_iload hx hb dL_holds_121 (lv_at hl 0 rfl) ?_
            refine lv_bipush (v := 7) hx hb dL_holds_123 (by decide) ?_
            refine lv_irem hx hb dL_holds_125 (by decide) ?_
            refine rg_topi (y := nI (z % 7)) (by exact pk_rem (a := z) (d := 7) (by omega) (by omega) (by omega)) ?_
            refine lv_iconst (v := 4) hx hb dL_holds_126 (by decide) ?_
            refine lv_icmp_ne (tgt := 134) hx hb dL_holds_127 (by decide) (fun c_127 => ?_) (fun c_127 => ?_)
            · refine lv_iconst (v := (-1)) hx hb dL_holds_134 (by decide) ?_
              exact cut_135 _ ls (Or.inl rfl) hl
            · refine lv_iconst (v := 0) hx hb dL_holds_130 (by decide) ?_
              refine lv_goto (tgt := 135) hx hb dL_holds_131 (by decide) ?_
              exact cut_135 _ ls (Or.inr ⟨0, by omega, rfl⟩) hl
          · refine lv_iload hx hb dL_holds_113 (lv_at hl 0 rfl) ?_
            refine lv_bipush (v := 7) hx hb dL_holds_115 (by decide) ?_
            refine lv_irem hx hb dL_holds_117 (by decide) ?_
            refine rg_topi (y := nI (z % 7)) (by exact pk_rem (a := z) (d := 7) (by omega) (by omega) (by omega)) ?_
            refine lv_goto (tgt := 135) hx hb dL_holds_118 (by decide) ?_
            exact cut_135 _ ls (Or.inr ⟨z % 7, by have := lw_no (lw_nle (a := 4) (b := z % 7) (by omega) (by omega)) c_110; omega, rfl⟩) hl
  have hfr : rg_fr 0 rg_RN rg_MN := fun c _ => ⟨rfl, rfl, rfl⟩
  have hz := hz0
  generalize hH9 : s.heap = H at hH hz ⊢
  generalize hL9 : ([] : List Loc) = locs at hH ⊢
  clear hH9 hL9
  refine rg_newO C0 hH hz hfr (n := 0) (ci := 6) (N := 13) tyX6 tyX6_ok rfl inT_X6 (by decide) rfl (by decide) tw_k_L_55 tw_o_X6 tw_n_X6 dL_holds_0 (Nat.le_of_ble_eq_true rfl) (Nat.le_of_ble_eq_true rfl) (fun H hH => ?_)
  refine lv_dup hx hb dL_holds_3 rfl ?_
  refine rg_zs (n := 1) (rg_lo hH (by omega)) (by omega) (fun hz => ?_)
  refine rg_callI C0 hN hH hz (n := 1) (v := 0) (z := 412) (o := 0) (As := []) (rest := [.ref (B + 0)]) (k_X6_init l E B _ _ hfr) (cwI 0 C0.1.2.2.2.2 (rg_gw tw_c_X6_init) rfl rfl rfl (C0.1.2.2.2.2 _ tw_n_X6) (C0.1.2.2.2.2 _ tw_m_L_143) (C0.1.2.2.2.2 _ tw_i_X6_init) rfl hd_X6_init.2 ⟨Nat.le_of_ble_eq_true rfl, Nat.le_of_ble_eq_true rfl⟩) rfl hl.1 rfl (Nat.le_of_ble_eq_true rfl) dL_holds_4 ⟨Nat.le_of_ble_eq_true rfl, Nat.le_of_ble_eq_true rfl⟩ (fun R1 M1 H locs e1 hH => ?_)
  refine lv_astore_n (lv' := [(1, .ref (B + 0)), (0, .ref b)]) hx hb dL_holds_7 rfl hl (by decide) rfl (fun ls hl => ?_)
  refine lv_bipush (v := 16) hx hb dL_holds_8 (by decide) ?_
  refine rg_zs (n := 412) (rg_lo hH (by omega)) (by omega) (fun hz => ?_)
  refine rg_newI C0 hH hz (rg_fr_up e1.2.2 (by omega)) (n := 412) (N' := 16) rfl rfl (by decide) rfl (by omega) dL_holds_10 (Nat.le_of_ble_eq_true rfl) (Nat.le_of_ble_eq_true rfl) (fun H hH => ?_)
  refine lv_astore_n (lv' := [(2, .ref (B + 412)), (1, .ref (B + 0)), (0, .ref b)]) hx hb dL_holds_12 rfl hl (by decide) rfl (fun ls hl => ?_)
  refine lv_bipush (v := 16) hx hb dL_holds_13 (by decide) ?_
  refine rg_zs (n := 413) (rg_lo hH (by omega)) (by omega) (fun hz => ?_)
  refine rg_newI C0 hH hz (rg_fr_up e1.2.2 (by omega)) (n := 413) (N' := 16) rfl rfl (by decide) rfl (by omega) dL_holds_15 (Nat.le_of_ble_eq_true rfl) (Nat.le_of_ble_eq_true rfl) (fun H hH => ?_)
  refine lv_astore_n (lv' := [(3, .ref (B + 413)), (2, .ref (B + 412)), (1, .ref (B + 0)), (0, .ref b)]) hx hb dL_holds_17 rfl hl (by decide) rfl (fun ls hl => ?_)
  refine lv_bipush (v := 64) hx hb dL_holds_18 (by decide) ?_
  refine rg_zs (n := 414) (rg_lo hH (by omega)) (by omega) (fun hz => ?_)
  refine rg_newI C0 hH hz (rg_fr_up e1.2.2 (by omega)) (n := 414) (N' := 64) rfl rfl (by decide) rfl (by omega) dL_holds_20 (Nat.le_of_ble_eq_true rfl) (Nat.le_of_ble_eq_true rfl) (fun H hH => ?_)
  refine lv_astore (lv' := [(4, .ref (B + 414)), (3, .ref (B + 413)), (2, .ref (B + 412)), (1, .ref (B + 0)), (0, .ref b)]) hx hb dL_holds_22 hl (by decide) rfl (fun ls hl => ?_)
  refine lv_bipush (v := 44) hx hb dL_holds_24 (by decide) ?_
  refine rg_zs (n := 415) (rg_lo hH (by omega)) (by omega) (fun hz => ?_)
  refine rg_newI C0 hH hz (rg_fr_up e1.2.2 (by omega)) (n := 415) (N' := 44) rfl rfl (by decide) rfl (by omega) dL_holds_26 (Nat.le_of_ble_eq_true rfl) (Nat.le_of_ble_eq_true rfl) (fun H hH => ?_)
  refine lv_astore (lv' := [(5, .ref (B + 415)), (4, .ref (B + 414)), (3, .ref (B + 413)), (2, .ref (B + 412)), (1, .ref (B + 0)), (0, .ref b)]) hx hb dL_holds_28 hl (by decide) rfl (fun ls hl => ?_)
  refine lv_bipush (v := 40) hx hb dL_holds_30 (by decide) ?_
  refine rg_zs (n := 416) (rg_lo hH (by omega)) (by omega) (fun hz => ?_)
  refine rg_newI C0 hH hz (rg_fr_up e1.2.2 (by omega)) (n := 416) (N' := 40) rfl rfl (by decide) rfl (by omega) dL_holds_32 (Nat.le_of_ble_eq_true rfl) (Nat.le_of_ble_eq_true rfl) (fun H hH => ?_)
  refine lv_astore (lv' := [(6, .ref (B + 416)), (5, .ref (B + 415)), (4, .ref (B + 414)), (3, .ref (B + 413)), (2, .ref (B + 412)), (1, .ref (B + 0)), (0, .ref b)]) hx hb dL_holds_34 hl (by decide) rfl (fun ls hl => ?_)
  refine lv_bipush (v := 9) hx hb dL_holds_36 (by decide) ?_
  refine rg_zs (n := 417) (rg_lo hH (by omega)) (by omega) (fun hz => ?_)
  refine rg_newI C0 hH hz (rg_fr_up e1.2.2 (by omega)) (n := 417) (N' := 9) rfl rfl (by decide) rfl (by omega) dL_holds_38 (Nat.le_of_ble_eq_true rfl) (Nat.le_of_ble_eq_true rfl) (fun H hH => ?_)
  refine lv_astore (lv' := [(7, .ref (B + 417)), (6, .ref (B + 416)), (5, .ref (B + 415)), (4, .ref (B + 414)), (3, .ref (B + 413)), (2, .ref (B + 412)), (1, .ref (B + 0)), (0, .ref b)]) hx hb dL_holds_40 hl (by decide) rfl (fun ls hl => ?_)
  refine lv_bipush (v := 6) hx hb dL_holds_42 (by decide) ?_
  refine rg_zs (n := 418) (rg_lo hH (by omega)) (by omega) (fun hz => ?_)
  refine rg_newI C0 hH hz (rg_fr_up e1.2.2 (by omega)) (n := 418) (N' := 6) rfl rfl (by decide) rfl (by omega) dL_holds_44 (Nat.le_of_ble_eq_true rfl) (Nat.le_of_ble_eq_true rfl) (fun H hH => ?_)
  refine lv_astore (lv' := [(8, .ref (B + 418)), (7, .ref (B + 417)), (6, .ref (B + 416)), (5, .ref (B + 415)), (4, .ref (B + 414)), (3, .ref (B + 413)), (2, .ref (B + 412)), (1, .ref (B + 0)), (0, .ref b)]) hx hb dL_holds_46 hl (by decide) rfl (fun ls hl => ?_)
  refine lv_bipush (v := 28) hx hb dL_holds_48 (by decide) ?_
  refine rg_zs (n := 419) (rg_lo hH (by omega)) (by omega) (fun hz => ?_)
  refine rg_newI C0 hH hz (rg_fr_up e1.2.2 (by omega)) (n := 419) (N' := 28) rfl rfl (by decide) rfl (by omega) dL_holds_50 (Nat.le_of_ble_eq_true rfl) (Nat.le_of_ble_eq_true rfl) (fun H hH => ?_)
  refine lv_astore (lv' := [(9, .ref (B + 419)), (8, .ref (B + 418)), (7, .ref (B + 417)), (6, .ref (B + 416)), (5, .ref (B + 415)), (4, .ref (B + 414)), (3, .ref (B + 413)), (2, .ref (B + 412)), (1, .ref (B + 0)), (0, .ref b)]) hx hb dL_holds_52 hl (by decide) rfl (fun ls hl => ?_)
  refine lv_bipush (v := 60) hx hb dL_holds_54 (by decide) ?_
  refine rg_zs (n := 420) (rg_lo hH (by omega)) (by omega) (fun hz => ?_)
  refine rg_newI C0 hH hz (rg_fr_up e1.2.2 (by omega)) (n := 420) (N' := 60) rfl rfl (by decide) rfl (by omega) dL_holds_56 (Nat.le_of_ble_eq_true rfl) (Nat.le_of_ble_eq_true rfl) (fun H hH => ?_)
  refine lv_astore (lv' := [(10, .ref (B + 420)), (9, .ref (B + 419)), (8, .ref (B + 418)), (7, .ref (B + 417)), (6, .ref (B + 416)), (5, .ref (B + 415)), (4, .ref (B + 414)), (3, .ref (B + 413)), (2, .ref (B + 412)), (1, .ref (B + 0)), (0, .ref b)]) hx hb dL_holds_58 hl (by decide) rfl (fun ls hl => ?_)
  refine lv_bipush (v := 60) hx hb dL_holds_60 (by decide) ?_
  refine rg_zs (n := 421) (rg_lo hH (by omega)) (by omega) (fun hz => ?_)
  refine rg_newI C0 hH hz (rg_fr_up e1.2.2 (by omega)) (n := 421) (N' := 60) rfl rfl (by decide) rfl (by omega) dL_holds_62 (Nat.le_of_ble_eq_true rfl) (Nat.le_of_ble_eq_true rfl) (fun H hH => ?_)
  refine lv_astore (lv' := [(11, .ref (B + 421)), (10, .ref (B + 420)), (9, .ref (B + 419)), (8, .ref (B + 418)), (7, .ref (B + 417)), (6, .ref (B + 416)), (5, .ref (B + 415)), (4, .ref (B + 414)), (3, .ref (B + 413)), (2, .ref (B + 412)), (1, .ref (B + 0)), (0, .ref b)]) hx hb dL_holds_64 hl (by decide) rfl (fun ls hl => ?_)
  have hH : rg_H E B 422 rg_R0 rg_M0 s H locs := by
    refine ⟨?_, hH.2⟩
    have hw := rg_WS_c (cy := E.2) (B := B) (R := R1) (M := M1) (R' := rg_R0) (M' := rg_M0) (fun c hc => by
      by_cases q1 : c < 412
      · have g := e1.2.1 c (by omega) (by omega)
        exact ⟨g.1.symm, g.2.1.symm, g.2.2.symm⟩
      · have f := e1.2.2 c (by omega)
        have hk : rg_kd c = 8 := by unfold rg_kd; rw [if_neg (by omega), if_neg (by omega), if_neg (by omega), if_neg (by omega), if_neg (by omega), if_neg (by omega)]
        exact ⟨(f.1.trans (rg_R0_n (c := c) (by omega) (by omega)).symm).symm, (f.2.1.trans (rg_i0_n (c := c) (by omega)).symm).symm, f.2.2.symm⟩)
    rw [hw]
    exact hH.1
  refine lv_iconst (v := 1) hx hb dL_holds_66 (by decide) ?_
  refine lv_istore (lv' := [(12, .int (1)), (11, .ref (B + 421)), (10, .ref (B + 420)), (9, .ref (B + 419)), (8, .ref (B + 418)), (7, .ref (B + 417)), (6, .ref (B + 416)), (5, .ref (B + 415)), (4, .ref (B + 414)), (3, .ref (B + 413)), (2, .ref (B + 412)), (1, .ref (B + 0)), (0, .ref b)]) hx hb dL_holds_67 hl (by decide) rfl (fun ls hl => ?_)
  refine lv_aload hx hb dL_holds_69 (lv_at hl 5 rfl) ?_
  refine lv_bipush (v := 6) hx hb dL_holds_71 (by decide) ?_
  refine lv_iconst (v := (-1)) hx hb dL_holds_73 (by decide) ?_
  refine rg_iastN C0 hH (o := 417) (j := 6) (n0 := 9) (by decide) rfl rfl ⟨by omega, by omega⟩ dL_holds_74 (fun H locs hH => ?_)
  refine lv_iconst (v := 0) hx hb dL_holds_75 (by decide) ?_
  refine lv_istore (lv' := [(13, .int (0)), (12, .int (1)), (11, .ref (B + 421)), (10, .ref (B + 420)), (9, .ref (B + 419)), (8, .ref (B + 418)), (7, .ref (B + 417)), (6, .ref (B + 416)), (5, .ref (B + 415)), (4, .ref (B + 414)), (3, .ref (B + 413)), (2, .ref (B + 412)), (1, .ref (B + 0)), (0, .ref b)]) hx hb dL_holds_76 hl (by decide) rfl (fun ls hl => ?_)
  refine W.widen (k := 422 + 5 * 0) (n := 3420 + 30 * 0) (Nat.le_of_ble_eq_true rfl) (Nat.le_of_ble_eq_true rfl) ?_
  exact cut_78 17 0 (by omega) lw_M0 H locs ls lw_S_0 hH (lv_sub hl [13, 12, 11, 10, 9, 8, 7, 6, 5, 4, 3, 2, 1, 0] rfl)
