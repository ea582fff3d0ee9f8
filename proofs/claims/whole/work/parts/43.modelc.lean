set_option maxHeartbeats 4000000 in
set_option maxRecDepth 100000 in
/-- lowest -/
theorem k_X7_lowest (l : Launch) (E : rg_Env) (B : Nat) (M : rg_Mem) (x : Int32) (hx9 : ¬ rg_ff (rg_lw x) 8 0 = -1) : Met l yX7_lowest (rg_w yX7_lowest cX7_lowest 2 (some (FieldType.int))) ({ frames := 0, cells := 0, slots := 0, locals := 0 } : Room) (va_Pc [.int (x)] (rg_Pre E B 433 rg_R0 M)) (rg_Ri E B 433 rg_R0 (M) (fun r => r = rg_ff (rg_lw x) 8 0)) 0 0 (rg_A B) := by
  refine rg_ofW (by decide +kernel) rfl (Nat.le_of_ble_eq_true rfl) ?_
  intro p e s m args below meth c ls C0 hH hl hr hlocks hnm
  replace hl : lv_has ls 2 [(0, .int (x))] := hl
  have hx := C0.1.1
  have hb := C0.1.2.1
  generalize hH9 : s.heap = H at hH ⊢
  generalize hL9 : ([] : List Loc) = locs at hH ⊢
  clear hH9 hL9
  refine lv_iconst (v := 0) hx hb dX7_lowest_0 (by decide) ?_
  refine lv_istore_n (lv' := [(1, .int (0)), (0, .int (x))]) hx hb dX7_lowest_1 rfl hl (by decide) rfl (fun ls hl => ?_)
  have cut_2 : ∀ (fu i : Nat), i ≤ 8 ∧ 8 < i + fu → ∀  (H : Heap) (locs : List Loc) (ls : Array Slot), rg_H E B 433 rg_R0 M s H locs → lv_has ls 2 [(0, .int (x)), (1, .int (nI i))] → (rg_ff (rg_lw x) (8 - i) i = rg_ff (rg_lw x) 8 0) → W p l e ({ frames := 0, cells := 0, slots := 0, locals := 0 } : Room) s m args below meth c H locs 0 0 (MQ below (rg_Ri E B 433 rg_R0 (M) (fun r => r = rg_ff (rg_lw x) 8 0)) args s 0 0 (rg_A B)) (F0 m 2 ls []) := by
    intro fu
    induction fu with
    | zero =>
      intro i hm
      exact absurd hm (by omega)
    | succ fu ih =>
      intro i hm  H locs ls hH hl hz
      have hlt : i < 8 := by
        rcases Nat.lt_or_ge i 8 with z | z
        · exact z
        · have z8 : i = 8 := by omega
          rw [z8] at hz
          exact absurd (rg_ff_e hz).symm hx9
      refine lv_iload_n hx hb dX7_lowest_2 rfl (lv_at hl 0 rfl) ?_
      refine lv_iload_n hx hb dX7_lowest_3 rfl (lv_at hl 1 rfl) ?_
      refine lv_ishr hx hb dX7_lowest_4 ?_
      refine lv_iconst (v := 1) hx hb dX7_lowest_5 (by decide) ?_
      refine lv_iand hx hb dX7_lowest_6 ?_
      refine lv_if_ne (tgt := 16) hx hb dX7_lowest_7 (by decide) (fun c_7 => ?_) (fun c_7 => ?_)
      · refine lv_iload_n hx hb dX7_lowest_16 rfl (lv_at hl 1 rfl) ?_
        exact rg_retRi C0 hH hr hlocks rfl (by exact rg_ff_y hz hlt (decide_eq_true c_7)) dX7_lowest_17
      · refine lv_iinc (v := nI (i + 1)) (lv' := [(1, .int (nI (i + 1))), (0, .int (x))]) hx hb dX7_lowest_10 hl (k := 1) rfl (nI_1 _) (by decide) rfl (fun ls hl => ?_)
        refine lv_goto (tgt := 2) hx hb dX7_lowest_13 (by decide) ?_
        exact ih (i + 1) (by omega) _ _ _ hH (lv_sub hl [1, 0] rfl) (by exact rg_ff_n hz hlt (fun q => of_decide_eq_true q c_7))
  exact cut_2 9 0 (by omega) _ _ _ hH (lv_sub hl [1, 0] rfl) (by rfl)

set_option maxHeartbeats 4000000 in
set_option maxRecDepth 100000 in
/-- laysLink -/
theorem k_X7_laysLink (l : Launch) (E : rg_Env) (B : Nat) (M : rg_Mem) (v : Nat) (hI : rm_CI M) (hl9 : v < rm_nl M) : Met l yX7_laysLink (rg_w yX7_laysLink cX7_laysLink 3 none) ({ frames := 0, cells := 0, slots := 0, locals := 0 } : Room) (va_Pc [.ref (B + 412), .int (nI v)] (rg_Pre E B 433 rg_R0 M)) (rg_Rv E B 433 rg_R0 (rm_lay (rg_I M 412 31 (nI (rm_z M v))) (rm_w M v) (rm_z M v)) (True)) 0 0 (rg_A B) := by
  refine rg_ofW (by decide +kernel) rfl (Nat.le_of_ble_eq_true rfl) ?_
  intro p e s m args below meth c ls C0 hH hl hr hlocks hnm
  replace hl : lv_has ls 3 [(0, .ref (B + 412)), (1, .int (nI v))] := hl
  have hx := C0.1.1
  have hb := C0.1.2.1
  generalize hH9 : s.heap = H at hH ⊢
  generalize hL9 : ([] : List Loc) = locs at hH ⊢
  clear hH9 hL9
  have hl36 := (rm_CI_l hI).2
  have hz6 := (rm_CI_v hI v hl9).2.1
  refine lv_aload_n hx hb dX7_laysLink_0 rfl (lv_at hl 0 rfl) ?_
  refine lv_aload_n hx hb dX7_laysLink_1 rfl (lv_at hl 0 rfl) ?_
  refine rg_gR C0 hH (o2 := 418) (ci := 7) (k := 13) (o := 412) rfl rfl inT_X7 (by decide) tw_f_X7_26 (by decide) rfl (by decide) rfl dX7_laysLink_2 ?_
  refine lv_iload_n hx hb dX7_laysLink_5 rfl (lv_at hl 1 rfl) ?_
  refine rg_ialdN C0 hH (o := 418) (j := v) (n0 := 36) (by decide) rfl rfl (by omega) dX7_laysLink_6 ?_
  refine rg_topi (y := nI (rm_z M v)) (by exact (rm_CI_v hI v hl9).1) ?_
  refine rg_pI C0 hH (v := nI (rm_z M v)) tyX7 tyX7_ok nmX7 (ci := 7) (k := 31) (o := 412) rfl inT_X7 (by decide) tw_f_X7_133 (by decide) rfl (by decide) rfl rfl rfl rfl dX7_laysLink_7 (fun H locs hH => ?_)
  refine lv_iconst (v := 0) hx hb dX7_laysLink_10 (by decide) ?_
  refine lv_istore_n (lv' := [(2, .int (0)), (0, .ref (B + 412)), (1, .int (nI v))]) hx hb dX7_laysLink_11 rfl hl (by decide) rfl (fun ls hl => ?_)
  have cut_12 : ∀ (fu i : Nat), i ≤ rm_z M v ∧ rm_z M v < i + fu → ∀  (H : Heap) (locs : List Loc) (ls : Array Slot), rg_H E B 433 rg_R0 (rm_lay (rg_I M 412 31 (nI (rm_z M v))) (rm_w M v) i) s H locs → lv_has ls 3 [(0, .ref (B + 412)), (1, .int (nI v)), (2, .int (nI i))] → W p l e ({ frames := 0, cells := 0, slots := 0, locals := 0 } : Room) s m args below meth c H locs 0 0 (MQ below (rg_Rv E B 433 rg_R0 (rm_lay (rg_I M 412 31 (nI (rm_z M v))) (rm_w M v) (rm_z M v)) (True)) args s 0 0 (rg_A B)) (F0 m 12 ls []) := by
    intro fu
    induction fu with
    | zero =>
      intro i hm
      exact absurd hm (by omega)
    | succ fu ih =>
      intro i hm  H locs ls hH hl 
      refine lv_iload_n hx hb dX7_laysLink_12 rfl (lv_at hl 2 rfl) ?_
      refine lv_aload_n hx hb dX7_laysLink_13 rfl (lv_at hl 0 rfl) ?_
      refine rg_gI C0 hH (ci := 7) (k := 31) (o := 412) rfl inT_X7 (by decide) tw_f_X7_133 (by decide) rfl (by decide) rfl dX7_laysLink_14 ?_
      refine rg_topi (y := nI (rm_z M v)) (by simp [rm_lay, rg_I]) ?_
      refine lv_icmp_ge (tgt := 43) hx hb dX7_laysLink_17 (by decide) (fun c_17 => ?_) (fun c_17 => ?_)
      · exact rg_retRv C0 hH hr hlocks (by rw [rg_lp_end hm.1 (by omega) c_17]) (by trivial) dX7_laysLink_43
      · have hlt := rg_lp_lt hm.1 (by omega) c_17
        refine lv_aload_n hx hb dX7_laysLink_20 rfl (lv_at hl 0 rfl) ?_
        refine rg_gR C0 hH (o2 := 431) (ci := 7) (k := 30) (o := 412) rfl rfl inT_X7 (by decide) tw_f_X7_70 (by decide) rfl (by decide) rfl dX7_laysLink_21 ?_
        refine lv_iload_n hx hb dX7_laysLink_24 rfl (lv_at hl 2 rfl) ?_
        refine lv_aload_n hx hb dX7_laysLink_25 rfl (lv_at hl 0 rfl) ?_
        refine rg_gR C0 hH (o2 := 417) (ci := 7) (k := 12) (o := 412) rfl rfl inT_X7 (by decide) tw_f_X7_23 (by decide) rfl (by decide) rfl dX7_laysLink_26 ?_
        refine lv_bipush (v := 6) hx hb dX7_laysLink_29 (by decide) ?_
        refine lv_iload_n hx hb dX7_laysLink_31 rfl (lv_at hl 1 rfl) ?_
        refine lv_imul hx hb dX7_laysLink_32 ?_
        refine rg_topi (y := nI (6 * v)) (by exact rm_mul (6) (v)) ?_
        refine lv_iload_n hx hb dX7_laysLink_33 rfl (lv_at hl 2 rfl) ?_
        refine lv_iadd hx hb dX7_laysLink_34 ?_
        refine rg_topi (y := nI ((6 * v) + i)) (by exact nI_add (6 * v) (i)) ?_
        refine rg_ialdN C0 hH (o := 417) (j := ((6 * v) + i)) (n0 := 216) (by decide) rfl rfl (by omega) dX7_laysLink_35 ?_
        refine rg_topi (y := rm_w M v i) (by simp [rm_lay, rg_I]) ?_
        refine rg_iastN C0 hH (o := 431) (j := i) (n0 := 6) (by decide) rfl rfl (by omega) dX7_laysLink_36 (fun H locs hH => ?_)
        refine lv_iinc (v := nI (i + 1)) (lv' := [(2, .int (nI (i + 1))), (0, .ref (B + 412)), (1, .int (nI v))]) hx hb dX7_laysLink_37 hl (k := 2) rfl (nI_1 _) (by decide) rfl (fun ls hl => ?_)
        refine lv_goto (tgt := 12) hx hb dX7_laysLink_40 (by decide) ?_
        exact ih (i + 1) (by omega) _ _ _ (rg_H_eq (by exact rm_lay_s) hH) (lv_sub hl [1, 2, 0] rfl)
  exact cut_12 (rm_z M v + 1) 0 (by omega) _ _ _ (rg_H_eq (by exact rm_lay_0) hH) (lv_sub hl [1, 2, 0] rfl)

set_option maxHeartbeats 4000000 in
set_option maxRecDepth 100000 in
/-- comesAgain -/
theorem k_X7_comesAgain (l : Launch) (E : rg_Env) (B : Nat) (M : rg_Mem) (n : Nat) (v : Nat) (hI : rm_CI M) (hmy : M.1 412 31 = nI n) (hn6 : n ≤ 6) (hrw : ∀ k, k < n → rm_iw M (M.1 431 k)) (hv9 : v ≤ rm_nl M) : Met l yX7_comesAgain (rg_w yX7_comesAgain cX7_comesAgain 5 (some (FieldType.int))) ({ frames := 0, cells := 0, slots := 0, locals := 0 } : Room) (va_Pc [.ref (B + 412), .int (nI v)] (rg_Pre E B 433 rg_R0 M)) (rg_Ri E B 433 rg_R0 (M) (fun r => r = rg_ff (rm_dp M (M.1 431) v) n 0)) 0 0 (rg_A B) := by
  refine rg_ofW (by decide +kernel) rfl (Nat.le_of_ble_eq_true rfl) ?_
  intro p e s m args below meth c ls C0 hH hl hr hlocks hnm
  replace hl : lv_has ls 5 [(0, .ref (B + 412)), (1, .int (nI v))] := hl
  have hx := C0.1.1
  have hb := C0.1.2.1
  generalize hH9 : s.heap = H at hH ⊢
  generalize hL9 : ([] : List Loc) = locs at hH ⊢
  clear hH9 hL9
  have hl36 := (rm_CI_l hI).2
  have hsp9 := (rm_CI_s hI).2
  refine lv_iconst (v := 0) hx hb dX7_comesAgain_0 (by decide) ?_
  refine lv_istore_n (lv' := [(2, .int (0)), (0, .ref (B + 412)), (1, .int (nI v))]) hx hb dX7_comesAgain_1 rfl hl (by decide) rfl (fun ls hl => ?_)
  have cut_2 : ∀ (fu i : Nat), i ≤ n ∧ n < i + fu → ∀  (H : Heap) (locs : List Loc) (ls : Array Slot), rg_H E B 433 rg_R0 M s H locs → lv_has ls 5 [(0, .ref (B + 412)), (1, .int (nI v)), (2, .int (nI i))] → (rg_ff (rm_dp M (M.1 431) v) (n - i) i = rg_ff (rm_dp M (M.1 431) v) n 0) → W p l e ({ frames := 0, cells := 0, slots := 0, locals := 0 } : Room) s m args below meth c H locs 0 0 (MQ below (rg_Ri E B 433 rg_R0 (M) (fun r => r = rg_ff (rm_dp M (M.1 431) v) n 0)) args s 0 0 (rg_A B)) (F0 m 2 ls []) := by
    intro fu
    induction fu with
    | zero =>
      intro i hm
      exact absurd hm (by omega)
    | succ fu ih =>
      intro i hm  H locs ls hH hl hz
      refine lv_iload_n hx hb dX7_comesAgain_2 rfl (lv_at hl 2 rfl) ?_
      refine lv_aload_n hx hb dX7_comesAgain_3 rfl (lv_at hl 0 rfl) ?_
      refine rg_gI C0 hH (ci := 7) (k := 31) (o := 412) rfl inT_X7 (by decide) tw_f_X7_133 (by decide) rfl (by decide) rfl dX7_comesAgain_4 ?_
      refine rg_topi (y := nI n) (by exact hmy) ?_
      refine lv_icmp_ge (tgt := 113) hx hb dX7_comesAgain_7 (by decide) (fun c_7 => ?_) (fun c_7 => ?_)
      · refine lv_iconst (v := (-1)) hx hb dX7_comesAgain_113 (by decide) ?_
        exact rg_retRi C0 hH hr hlocks rfl (by rw [rg_lp_end hm.1 (by omega) c_7] at hz; exact rg_ff_e hz) dX7_comesAgain_114
      · have hlt := rg_lp_lt hm.1 (by omega) c_7
        have hwi := rm_iw_in hI (hrw i hlt)
        refine lv_iconst (v := 0) hx hb dX7_comesAgain_10 (by decide) ?_
        refine lv_istore_n (lv' := [(3, .int (0)), (0, .ref (B + 412)), (1, .int (nI v)), (2, .int (nI i))]) hx hb dX7_comesAgain_11 rfl hl (by decide) rfl (fun ls hl => ?_)
        have cut_12 : ∀ (fu2 j : Nat), j ≤ i ∧ i < j + fu2 → ∀  (H : Heap) (locs : List Loc) (ls : Array Slot), rg_H E B 433 rg_R0 M s H locs → lv_has ls 5 [(0, .ref (B + 412)), (1, .int (nI v)), (2, .int (nI i)), (3, .int (nI j))] → (rg_ex (rm_dA (M.1 431) i) (i - j) j = rg_ex (rm_dA (M.1 431) i) i 0) → W p l e ({ frames := 0, cells := 0, slots := 0, locals := 0 } : Room) s m args below meth c H locs 0 0 (MQ below (rg_Ri E B 433 rg_R0 (M) (fun r => r = rg_ff (rm_dp M (M.1 431) v) n 0)) args s 0 0 (rg_A B)) (F0 m 12 ls []) := by
          intro fu2
          induction fu2 with
          | zero =>
            intro j hm2
            exact absurd hm2 (by omega)
          | succ fu2 ih2 =>
            intro j hm2  H locs ls hH hl hA
            refine lv_iload_n hx hb dX7_comesAgain_12 rfl (lv_at hl 3 rfl) ?_
            refine lv_iload_n hx hb dX7_comesAgain_13 rfl (lv_at hl 2 rfl) ?_
            refine lv_icmp_ge (tgt := 40) hx hb dX7_comesAgain_14 (by decide) (fun c_14 => ?_) (fun c_14 => ?_)
            · have hA9 : rg_ex (rm_dA (M.1 431) i) i 0 = false := by rw [← hA, rg_lp_end hm2.1 (by omega) c_14, Nat.sub_self]; rfl
              refine lv_iload_n hx hb dX7_comesAgain_40 rfl (lv_at hl 1 rfl) ?_
              refine lv_iconst (v := 1) hx hb dX7_comesAgain_41 (by decide) ?_
              refine lv_isub hx hb dX7_comesAgain_42 ?_
              refine lv_istore_n (lv' := [(3, .int ((nI v) - 1)), (0, .ref (B + 412)), (1, .int (nI v)), (2, .int (nI i))]) hx hb dX7_comesAgain_43 rfl hl (by decide) rfl (fun ls hl => ?_)
              have cut_44 : ∀ (fu3 d : Nat), (1 ≤ d ∧ d ≤ rm_sp M + 1) ∧ rm_sp M + 1 < d + fu3 → ∀  (H : Heap) (locs : List Loc) (ls : Array Slot), rg_H E B 433 rg_R0 M s H locs → lv_has ls 5 [(0, .ref (B + 412)), (1, .int (nI v)), (2, .int (nI i)), (3, .int (nI v - nI d))] → (rg_ex (rm_dB M (M.1 431) v i) (rm_sp M + 1 - d) d = rg_ex (rm_dB M (M.1 431) v i) (rm_sp M) 1) → W p l e ({ frames := 0, cells := 0, slots := 0, locals := 0 } : Room) s m args below meth c H locs 0 0 (MQ below (rg_Ri E B 433 rg_R0 (M) (fun r => r = rg_ff (rm_dp M (M.1 431) v) n 0)) args s 0 0 (rg_A B)) (F0 m 44 ls []) := by
                intro fu3
                induction fu3 with
                | zero =>
                  intro d hm3
                  exact absurd hm3 (by omega)
                | succ fu3 ih3 =>
                  intro d hm3  H locs ls hH hl hB
                  refine lv_iload_n hx hb dX7_comesAgain_44 rfl (lv_at hl 3 rfl) ?_
                  refine lv_if_lt (tgt := 107) hx hb dX7_comesAgain_45 (by decide) (fun c_45 => ?_) (fun c_45 => ?_)
                  · have hdv2 := (rm_sub0 (by omega) (by omega)).mp c_45
                    have hB9 : rg_ex (rm_dB M (M.1 431) v i) (rm_sp M) 1 = false := by rw [← hB]; exact rg_ex_ff _ _ (fun q hq => by show (if q ≤ v then _ else false) = false; rw [if_neg (by omega)])
                    refine lv_iinc (v := nI (i + 1)) (lv' := [(2, .int (nI (i + 1))), (0, .ref (B + 412)), (1, .int (nI v)), (3, .int (nI v - nI d))]) hx hb dX7_comesAgain_107 hl (k := 2) rfl (nI_1 _) (by decide) rfl (fun ls hl => ?_)
                    refine lv_goto (tgt := 2) hx hb dX7_comesAgain_110 (by decide) ?_
                    exact ih (i + 1) (by omega) _ _ _ hH (lv_sub hl [1, 2, 0] rfl) (by exact rg_ff_n hz hlt (by rw [show (rm_dp M (M.1 431) v) i = (rg_ex (rm_dA (M.1 431) i) i 0 || rg_ex (rm_dB M (M.1 431) v i) (rm_sp M) 1) from rfl, hA9, hB9]; decide))
                  · refine lv_iload_n hx hb dX7_comesAgain_48 rfl (lv_at hl 3 rfl) ?_
                    refine lv_iload_n hx hb dX7_comesAgain_49 rfl (lv_at hl 1 rfl) ?_
                    refine lv_aload_n hx hb dX7_comesAgain_50 rfl (lv_at hl 0 rfl) ?_
                    refine rg_gI C0 hH (ci := 7) (k := 8) (o := 412) rfl inT_X7 (by decide) tw_f_X7_111 (by decide) rfl (by decide) rfl dX7_comesAgain_51 ?_
                    refine rg_topi (y := nI (rm_sp M)) (by exact (rm_CI_s hI).1) ?_
                    refine lv_isub hx hb dX7_comesAgain_54 ?_
                    refine lv_icmp_lt (tgt := 107) hx hb dX7_comesAgain_55 (by decide) (fun c_55 => ?_) (fun c_55 => ?_)
                    · have hds2 := (rm_sub2 (by omega) (by omega) (by omega)).mp c_55
                      have hB9 : rg_ex (rm_dB M (M.1 431) v i) (rm_sp M) 1 = false := by rw [← hB, show rm_sp M + 1 - d = 0 by omega]; rfl
                      refine lv_iinc (v := nI (i + 1)) (lv' := [(2, .int (nI (i + 1))), (0, .ref (B + 412)), (1, .int (nI v)), (3, .int (nI v - nI d))]) hx hb dX7_comesAgain_107 hl (k := 2) rfl (nI_1 _) (by decide) rfl (fun ls hl => ?_)
                      refine lv_goto (tgt := 2) hx hb dX7_comesAgain_110 (by decide) ?_
                      exact ih (i + 1) (by omega) _ _ _ hH (lv_sub hl [1, 2, 0] rfl) (by exact rg_ff_n hz hlt (by rw [show (rm_dp M (M.1 431) v) i = (rg_ex (rm_dA (M.1 431) i) i 0 || rg_ex (rm_dB M (M.1 431) v i) (rm_sp M) 1) from rfl, hA9, hB9]; decide))
                    · have hdv : d ≤ v := by
                        rcases Nat.lt_or_ge v d with z | z
                        · exact absurd ((rm_sub0 (by omega) (by omega)).mpr z) c_45
                        · exact z
                      have hdn : v - d < rm_nl M := by omega
                      have hz6 := (rm_CI_v hI (v - d) hdn).2.1
                      have hds : d ≤ rm_sp M := by
                        rcases Nat.lt_or_ge (rm_sp M) d with z | z
                        · exact absurd ((rm_sub2 (by omega) (by omega) (by omega)).mpr z) c_55
                        · exact z
                      replace hl : lv_has ls 5 [(0, .ref (B + 412)), (1, .int (nI v)), (2, .int (nI i)), (3, .int (nI (v - d)))] := by rw [← rm_sub hdv]; exact hl
                      refine lv_iconst (v := 0) hx hb dX7_comesAgain_58 (by decide) ?_
                      refine lv_istore (lv' := [(4, .int (0)), (0, .ref (B + 412)), (1, .int (nI v)), (2, .int (nI i)), (3, .int (nI (v - d)))]) hx hb dX7_comesAgain_59 hl (by decide) rfl (fun ls hl => ?_)
                      have cut_61 : ∀ (fu4 k : Nat), k ≤ rm_z M (v - d) ∧ rm_z M (v - d) < k + fu4 → ∀  (H : Heap) (locs : List Loc) (ls : Array Slot), rg_H E B 433 rg_R0 M s H locs → lv_has ls 5 [(0, .ref (B + 412)), (1, .int (nI v)), (2, .int (nI i)), (3, .int (nI (v - d))), (4, .int (nI k))] → (rg_ex (rm_dC M (M.1 431) i (v - d)) (rm_z M (v - d) - k) k = rg_ex (rm_dC M (M.1 431) i (v - d)) (rm_z M (v - d)) 0) → W p l e ({ frames := 0, cells := 0, slots := 0, locals := 0 } : Room) s m args below meth c H locs 0 0 (MQ below (rg_Ri E B 433 rg_R0 (M) (fun r => r = rg_ff (rm_dp M (M.1 431) v) n 0)) args s 0 0 (rg_A B)) (F0 m 61 ls []) := by
                        intro fu4
                        induction fu4 with
                        | zero =>
                          intro k hm4
                          exact absurd hm4 (by omega)
                        | succ fu4 ih4 =>
                          intro k hm4  H locs ls hH hl hC
                          refine lv_iload hx hb dX7_comesAgain_61 (lv_at hl 4 rfl) ?_
                          refine lv_aload_n hx hb dX7_comesAgain_63 rfl (lv_at hl 0 rfl) ?_
                          refine rg_gR C0 hH (o2 := 418) (ci := 7) (k := 13) (o := 412) rfl rfl inT_X7 (by decide) tw_f_X7_26 (by decide) rfl (by decide) rfl dX7_comesAgain_64 ?_
                          refine lv_iload_n hx hb dX7_comesAgain_67 rfl (lv_at hl 3 rfl) ?_
                          refine rg_ialdN C0 hH (o := 418) (j := (v - d)) (n0 := 36) (by decide) rfl rfl (by omega) dX7_comesAgain_68 ?_
                          refine rg_topi (y := nI (rm_z M (v - d))) (by exact (rm_CI_v hI (v - d) hdn).1) ?_
                          refine lv_icmp_ge (tgt := 101) hx hb dX7_comesAgain_69 (by decide) (fun c_69 => ?_) (fun c_69 => ?_)
                          · have hC9 : rg_ex (rm_dC M (M.1 431) i (v - d)) (rm_z M (v - d)) 0 = false := by rw [← hC, rg_lp_end hm4.1 (by omega) c_69, Nat.sub_self]; rfl
                            replace hl : lv_has ls 5 [(0, .ref (B + 412)), (1, .int (nI v)), (2, .int (nI i)), (3, .int (nI v - nI d)), (4, .int (nI k))] := by rw [rm_sub hdv]; exact hl
                            refine lv_iinc (v := nI v - nI (d + 1)) (lv' := [(3, .int (nI v - nI (d + 1))), (0, .ref (B + 412)), (1, .int (nI v)), (2, .int (nI i)), (4, .int (nI k))]) hx hb dX7_comesAgain_101 hl (k := 3) rfl ((rg_m1s _).trans rm_subS) (by decide) rfl (fun ls hl => ?_)
                            refine lv_goto (tgt := 44) hx hb dX7_comesAgain_104 (by decide) ?_
                            exact ih3 (d + 1) (by omega) _ _ _ hH (lv_sub hl [1, 2, 3, 0] rfl) (by rw [show rm_sp M + 1 - (d + 1) = (rm_sp M + 1) - (d + 1) from rfl]; exact rg_ex_n hB (by omega) (by rw [show (rm_dB M (M.1 431) v i) d = (if d ≤ v then rg_ex (rm_dC M (M.1 431) i (v - d)) (rm_z M (v - d)) 0 else false) from rfl, if_pos hdv, hC9]; decide))
                          · have hlt4 := rg_lp_lt hm4.1 (by omega) c_69
                            refine lv_aload_n hx hb dX7_comesAgain_72 rfl (lv_at hl 0 rfl) ?_
                            refine rg_gR C0 hH (o2 := 417) (ci := 7) (k := 12) (o := 412) rfl rfl inT_X7 (by decide) tw_f_X7_23 (by decide) rfl (by decide) rfl dX7_comesAgain_73 ?_
                            refine lv_bipush (v := 6) hx hb dX7_comesAgain_76 (by decide) ?_
                            refine lv_iload_n hx hb dX7_comesAgain_78 rfl (lv_at hl 3 rfl) ?_
                            refine lv_imul hx hb dX7_comesAgain_79 ?_
                            refine rg_topi (y := nI (6 * (v - d))) (by exact rm_mul (6) (v - d)) ?_
                            refine lv_iload hx hb dX7_comesAgain_80 (lv_at hl 4 rfl) ?_
                            refine lv_iadd hx hb dX7_comesAgain_82 ?_
                            refine rg_topi (y := nI ((6 * (v - d)) + k)) (by exact nI_add (6 * (v - d)) (k)) ?_
                            refine rg_ialdN C0 hH (o := 417) (j := ((6 * (v - d)) + k)) (n0 := 216) (by decide) rfl rfl (by omega) dX7_comesAgain_83 ?_
                            refine lv_aload_n hx hb dX7_comesAgain_84 rfl (lv_at hl 0 rfl) ?_
                            refine rg_gR C0 hH (o2 := 431) (ci := 7) (k := 30) (o := 412) rfl rfl inT_X7 (by decide) tw_f_X7_70 (by decide) rfl (by decide) rfl dX7_comesAgain_85 ?_
                            refine lv_iload_n hx hb dX7_comesAgain_88 rfl (lv_at hl 2 rfl) ?_
                            refine rg_ialdN C0 hH (o := 431) (j := i) (n0 := 6) (by decide) rfl rfl (by omega) dX7_comesAgain_89 ?_
                            refine lv_icmp_ne (tgt := 95) hx hb dX7_comesAgain_90 (by decide) (fun c_90 => ?_) (fun c_90 => ?_)
                            · refine lv_iinc (v := nI (k + 1)) (lv' := [(4, .int (nI (k + 1))), (0, .ref (B + 412)), (1, .int (nI v)), (2, .int (nI i)), (3, .int (nI (v - d)))]) hx hb dX7_comesAgain_95 hl (k := 4) rfl (nI_1 _) (by decide) rfl (fun ls hl => ?_)
                              refine lv_goto (tgt := 61) hx hb dX7_comesAgain_98 (by decide) ?_
                              exact ih4 (k + 1) (by omega) _ _ _ hH (lv_sub hl [1, 2, 3, 4, 0] rfl) (by exact rg_ex_n hC hlt4 (fun q => c_90 (of_decide_eq_true q)))
                            · refine lv_iload_n hx hb dX7_comesAgain_93 rfl (lv_at hl 2 rfl) ?_
                              exact rg_retRi C0 hH hr hlocks rfl (by exact rg_ff_y hz hlt (by rw [show (rm_dp M (M.1 431) v) i = (rg_ex (rm_dA (M.1 431) i) i 0 || rg_ex (rm_dB M (M.1 431) v i) (rm_sp M) 1) from rfl, rg_ex_y hB (by omega) (by rw [show (rm_dB M (M.1 431) v i) d = (if d ≤ v then rg_ex (rm_dC M (M.1 431) i (v - d)) (rm_z M (v - d)) 0 else false) from rfl, if_pos hdv]; exact (rg_ex_y hC hlt4 (decide_eq_true c_90)))]; simp)) dX7_comesAgain_94
                      exact cut_61 (rm_z M (v - d) + 1) 0 (by omega) _ _ _ hH (lv_sub hl [1, 2, 3, 4, 0] rfl) (by rfl)
              exact cut_44 (rm_sp M + 2) 1 (by omega) _ _ _ hH (lv_sub hl [1, 2, 3, 0] rfl) (by rfl)
            · have hlt2 := rg_lp_lt hm2.1 (by omega) c_14
              refine lv_aload_n hx hb dX7_comesAgain_17 rfl (lv_at hl 0 rfl) ?_
              refine rg_gR C0 hH (o2 := 431) (ci := 7) (k := 30) (o := 412) rfl rfl inT_X7 (by decide) tw_f_X7_70 (by decide) rfl (by decide) rfl dX7_comesAgain_18 ?_
              refine lv_iload_n hx hb dX7_comesAgain_21 rfl (lv_at hl 3 rfl) ?_
              refine rg_ialdN C0 hH (o := 431) (j := j) (n0 := 6) (by decide) rfl rfl (by omega) dX7_comesAgain_22 ?_
              refine lv_aload_n hx hb dX7_comesAgain_23 rfl (lv_at hl 0 rfl) ?_
              refine rg_gR C0 hH (o2 := 431) (ci := 7) (k := 30) (o := 412) rfl rfl inT_X7 (by decide) tw_f_X7_70 (by decide) rfl (by decide) rfl dX7_comesAgain_24 ?_
              refine lv_iload_n hx hb dX7_comesAgain_27 rfl (lv_at hl 2 rfl) ?_
              refine rg_ialdN C0 hH (o := 431) (j := i) (n0 := 6) (by decide) rfl rfl (by omega) dX7_comesAgain_28 ?_
              refine lv_icmp_ne (tgt := 34) hx hb dX7_comesAgain_29 (by decide) (fun c_29 => ?_) (fun c_29 => ?_)
              · refine lv_iinc (v := nI (j + 1)) (lv' := [(3, .int (nI (j + 1))), (0, .ref (B + 412)), (1, .int (nI v)), (2, .int (nI i))]) hx hb dX7_comesAgain_34 hl (k := 3) rfl (nI_1 _) (by decide) rfl (fun ls hl => ?_)
                refine lv_goto (tgt := 12) hx hb dX7_comesAgain_37 (by decide) ?_
                exact ih2 (j + 1) (by omega) _ _ _ hH (lv_sub hl [1, 2, 3, 0] rfl) (by exact rg_ex_n hA hlt2 (fun q => c_29 (of_decide_eq_true q)))
              · refine lv_iload_n hx hb dX7_comesAgain_32 rfl (lv_at hl 2 rfl) ?_
                exact rg_retRi C0 hH hr hlocks rfl (by exact rg_ff_y hz hlt (by rw [show (rm_dp M (M.1 431) v) i = (rg_ex (rm_dA (M.1 431) i) i 0 || rg_ex (rm_dB M (M.1 431) v i) (rm_sp M) 1) from rfl, rg_ex_y hA hlt2 (decide_eq_true c_29)]; rfl)) dX7_comesAgain_33
        exact cut_12 (i + 1) 0 (by omega) _ _ _ hH (lv_sub hl [1, 2, 3, 0] rfl) (by rfl)
  exact cut_2 (n + 1) 0 (by omega) _ _ _ hH (lv_sub hl [1, 2, 0] rfl) (by rfl)
