set_option maxHeartbeats 4000000 in
set_option maxRecDepth 100000 in
/-- runAt -/
theorem k_X7_runAt (l : Launch) (E : rg_Env) (B : Nat) (M : rg_Mem) (v : Nat) (hI : rm_CI M) (hl9 : v < rm_nl M) : Met l yX7_runAt (rg_w yX7_runAt cX7_runAt 5 (some (FieldType.int))) ({ frames := 1, cells := 0, slots := 0, locals := 22 } : Room) (va_Pc [.ref (B + 412), .int (nI v)] (rg_Pre E B 433 rg_R0 M)) (rg_Ri E B 433 rg_R0 (M) (fun r => r = rm_rn M v)) 0 0 (rg_A B) := by
  refine rg_ofW (by decide +kernel) rfl (Nat.le_of_ble_eq_true rfl) ?_
  intro p e s m args below meth c ls C0 hH hl hr hlocks hnm
  replace hl : lv_has ls 5 [(0, .ref (B + 412)), (1, .int (nI v))] := hl
  have hx := C0.1.1
  have hb := C0.1.2.1
  generalize hH9 : s.heap = H at hH ⊢
  generalize hL9 : ([] : List Loc) = locs at hH ⊢
  clear hH9 hL9
  have hl36 := (rm_CI_l hI).2
  have hz6 := (rm_CI_v hI v hl9).2.1
  refine lv_aload_n hx hb dX7_runAt_0 rfl (lv_at hl 0 rfl) ?_
  refine lv_iload_n hx hb dX7_runAt_1 rfl (lv_at hl 1 rfl) ?_
  refine rg_callGi C0 hH (As := [.int (nI v)]) (rest := []) (o := 412) (ci := 7) (k_X7_seasonOf l E B M v (by first | exact hI | omega) (by first | exact hI | omega)) (rg_cw 1 C0.1.2.2.2.2 tw_m_X7_129 tw_i_X7_seasonOf tw_v_X7_seasonOf tw_n_X7 tw_c_X7_seasonOf rfl rfl hd_X7_seasonOf ⟨Nat.le_of_ble_eq_true rfl, Nat.le_of_ble_eq_true rfl⟩) rfl (by decide) rfl (by decide) rfl hl.1 rfl (Nat.le_of_ble_eq_true rfl) dX7_runAt_2 ⟨Nat.le_of_ble_eq_true rfl, Nat.le_of_ble_eq_true rfl⟩ (fun H locs hH => ?_)
  refine lv_istore_n (lv' := [(2, .int (rm_son M v)), (0, .ref (B + 412)), (1, .int (nI v))]) hx hb dX7_runAt_5 rfl hl (by decide) rfl (fun ls hl => ?_)
  refine lv_iconst (v := 0) hx hb dX7_runAt_6 (by decide) ?_
  refine lv_istore_n (lv' := [(3, .int (0)), (2, .int (rm_son M v)), (0, .ref (B + 412)), (1, .int (nI v))]) hx hb dX7_runAt_7 rfl hl (by decide) rfl (fun ls hl => ?_)
  refine lv_iload_n hx hb dX7_runAt_8 rfl (lv_at hl 3 rfl) ?_
  refine lv_istore (lv' := [(4, .int (nI v)), (3, .int (0)), (2, .int (rm_son M v)), (0, .ref (B + 412)), (1, .int (nI v))]) hx hb dX7_runAt_9 hl (by decide) rfl (fun ls hl => ?_)
  have cut_11 : ∀ (fu i : Nat), i ≤ v + 1 ∧ i < fu → ∀ (r : Nat) (H : Heap) (locs : List Loc) (ls : Array Slot), rg_H E B 433 rg_R0 M s H locs → lv_has ls 5 [(0, .ref (B + 412)), (2, .int (rm_son M v)), (3, .int (nI r)), (4, .int (nI i - 1))] → (r + rg_rn (rm_son M) (rm_son M v) i = rg_rn (rm_son M) (rm_son M v) (v + 1)) → (rm_son M v = -1 → r = 0) → W p l e ({ frames := 1, cells := 0, slots := 0, locals := 22 } : Room) s m args below meth c H locs 0 0 (MQ below (rg_Ri E B 433 rg_R0 (M) (fun r => r = rm_rn M v)) args s 0 0 (rg_A B)) (F0 m 11 ls []) := by
    intro fu
    induction fu with
    | zero =>
      intro i hm
      exact absurd hm (by omega)
    | succ fu ih =>
      intro i hm r H locs ls hH hl hr9 hz9
      refine lv_iload hx hb dX7_runAt_11 (lv_at hl 3 rfl) ?_
      refine lv_if_lt (tgt := 40) hx hb dX7_runAt_13 (by decide) (fun c_13 => ?_) (fun c_13 => ?_)
      · refine lv_iload_n hx hb dX7_runAt_40 rfl (lv_at hl 2 rfl) ?_
        exact rg_retRi C0 hH hr hlocks rfl (by unfold rm_rn; by_cases z : rm_son M v = -1; rw [if_pos z, hz9 z]; rfl; rw [if_neg z]; congr 1; exact rg_rn_x0 hr9 c_13 (by omega)) dX7_runAt_41
      · obtain ⟨q, rfl⟩ : ∃ q, i = q + 1 := ⟨i - 1, by
          rcases Nat.eq_zero_or_pos i with q | q
          · subst q; exact absurd (show (nI 0 - 1 : Int32) < 0 from by decide) c_13
          · omega⟩
        rw [nI_pred] at hl
        refine lv_iload_n hx hb dX7_runAt_16 rfl (lv_at hl 1 rfl) ?_
        refine lv_iconst (v := (-1)) hx hb dX7_runAt_17 (by decide) ?_
        refine lv_icmp_eq (tgt := 40) hx hb dX7_runAt_18 (by decide) (fun c_18 => ?_) (fun c_18 => ?_)
        · refine lv_iload_n hx hb dX7_runAt_40 rfl (lv_at hl 2 rfl) ?_
          exact rg_retRi C0 hH hr hlocks rfl (by unfold rm_rn; rw [if_pos c_18, hz9 c_18]; rfl) dX7_runAt_41
        · refine lv_aload_n hx hb dX7_runAt_21 rfl (lv_at hl 0 rfl) ?_
          refine lv_iload hx hb dX7_runAt_22 (lv_at hl 3 rfl) ?_
          refine rg_callGi C0 hH (As := [.int (nI q)]) (rest := []) (o := 412) (ci := 7) (k_X7_seasonOf l E B M q (by first | exact hI | omega) (by first | exact hI | omega)) (rg_cw 1 C0.1.2.2.2.2 tw_m_X7_129 tw_i_X7_seasonOf tw_v_X7_seasonOf tw_n_X7 tw_c_X7_seasonOf rfl rfl hd_X7_seasonOf ⟨Nat.le_of_ble_eq_true rfl, Nat.le_of_ble_eq_true rfl⟩) rfl (by decide) rfl (by decide) rfl hl.1 rfl (Nat.le_of_ble_eq_true rfl) dX7_runAt_24 ⟨Nat.le_of_ble_eq_true rfl, Nat.le_of_ble_eq_true rfl⟩ (fun H locs hH => ?_)
          refine lv_iload_n hx hb dX7_runAt_27 rfl (lv_at hl 1 rfl) ?_
          refine lv_icmp_ne (tgt := 40) hx hb dX7_runAt_28 (by decide) (fun c_28 => ?_) (fun c_28 => ?_)
          · refine lv_iload_n hx hb dX7_runAt_40 rfl (lv_at hl 2 rfl) ?_
            exact rg_retRi C0 hH hr hlocks rfl (by unfold rm_rn; rw [if_neg c_18]; congr 1; exact rg_rn_x1 hr9 c_28) dX7_runAt_41
          · refine lv_iinc (v := nI (r + 1)) (lv' := [(3, .int (nI (r + 1))), (0, .ref (B + 412)), (2, .int (rm_son M v)), (4, .int (nI q))]) hx hb dX7_runAt_31 hl (k := 2) rfl (nI_1 _) (by decide) rfl (fun ls hl => ?_)
            refine lv_iinc (v := (nI q) - 1) (lv' := [(4, .int ((nI q) - 1)), (3, .int (nI (r + 1))), (0, .ref (B + 412)), (2, .int (rm_son M v))]) hx hb dX7_runAt_34 hl (k := 3) rfl (rg_m1s _) (by decide) rfl (fun ls hl => ?_)
            refine lv_goto (tgt := 11) hx hb dX7_runAt_37 (by decide) ?_
            exact ih q (by omega) (r + 1) _ _ _ hH (lv_sub hl [2, 3, 1, 0] rfl) (by rw [rg_rn_t c_28] at hr9; omega) (by intro z; exact absurd z c_18)
  rw [← nI_pred v] at hl
  exact cut_11 (v + 2) (v + 1) (by omega) 0 _ _ _ hH (lv_sub hl [3, 2, 1, 0] rfl) (by omega) (by intro; rfl)

set_option maxHeartbeats 4000000 in
set_option maxRecDepth 100000 in
/-- soundsOfRow -/
theorem k_X7_soundsOfRow (l : Launch) (E : rg_Env) (B : Nat) (M : rg_Mem) (n : Nat) (hI : rm_CI M) (hmy : M.1 412 31 = nI n) (hn6 : n ≤ 6) (hrw : ∀ k, k < n → rm_iw M (M.1 431 k)) : Met l yX7_soundsOfRow (rg_w yX7_soundsOfRow cX7_soundsOfRow 3 (some (FieldType.int))) ({ frames := 0, cells := 0, slots := 0, locals := 0 } : Room) (va_Pc [.ref (B + 412)] (rg_Pre E B 433 rg_R0 M)) (rg_Ri E B 433 rg_R0 (M) (fun r => r = rg_sm (M.1 413) (M.1 431) n)) 0 0 (rg_A B) := by
  refine rg_ofW (by decide +kernel) rfl (Nat.le_of_ble_eq_true rfl) ?_
  intro p e s m args below meth c ls C0 hH hl hr hlocks hnm
  replace hl : lv_has ls 3 [(0, .ref (B + 412))] := hl
  have hx := C0.1.1
  have hb := C0.1.2.1
  generalize hH9 : s.heap = H at hH ⊢
  generalize hL9 : ([] : List Loc) = locs at hH ⊢
  clear hH9 hL9
  refine lv_iconst (v := 0) hx hb dX7_soundsOfRow_0 (by decide) ?_
  refine lv_istore_n (lv' := [(1, .int (0)), (0, .ref (B + 412))]) hx hb dX7_soundsOfRow_1 rfl hl (by decide) rfl (fun ls hl => ?_)
  refine lv_iconst (v := 0) hx hb dX7_soundsOfRow_2 (by decide) ?_
  refine lv_istore_n (lv' := [(2, .int (0)), (1, .int (0)), (0, .ref (B + 412))]) hx hb dX7_soundsOfRow_3 rfl hl (by decide) rfl (fun ls hl => ?_)
  have cut_4 : ∀ (fu i : Nat), i ≤ n ∧ n < i + fu → ∀  (H : Heap) (locs : List Loc) (ls : Array Slot), rg_H E B 433 rg_R0 M s H locs → lv_has ls 3 [(0, .ref (B + 412)), (1, .int (rg_sm (M.1 413) (M.1 431) i)), (2, .int (nI i))] → W p l e ({ frames := 0, cells := 0, slots := 0, locals := 0 } : Room) s m args below meth c H locs 0 0 (MQ below (rg_Ri E B 433 rg_R0 (M) (fun r => r = rg_sm (M.1 413) (M.1 431) n)) args s 0 0 (rg_A B)) (F0 m 4 ls []) := by
    intro fu
    induction fu with
    | zero =>
      intro i hm
      exact absurd hm (by omega)
    | succ fu ih =>
      intro i hm  H locs ls hH hl 
      refine lv_iload_n hx hb dX7_soundsOfRow_4 rfl (lv_at hl 2 rfl) ?_
      refine lv_aload_n hx hb dX7_soundsOfRow_5 rfl (lv_at hl 0 rfl) ?_
      refine rg_gI C0 hH (ci := 7) (k := 31) (o := 412) rfl inT_X7 (by decide) tw_f_X7_133 (by decide) rfl (by decide) rfl dX7_soundsOfRow_6 ?_
      refine rg_topi (y := nI n) (by exact hmy) ?_
      refine lv_icmp_ge (tgt := 32) hx hb dX7_soundsOfRow_9 (by decide) (fun c_9 => ?_) (fun c_9 => ?_)
      · refine lv_iload_n hx hb dX7_soundsOfRow_32 rfl (lv_at hl 1 rfl) ?_
        exact rg_retRi C0 hH hr hlocks rfl (by rw [rg_lp_end hm.1 (by omega) c_9]) dX7_soundsOfRow_33
      · have hlt := rg_lp_lt hm.1 (by omega) c_9
        have hwi := rm_iw_in hI (hrw i hlt)
        refine lv_iload_n hx hb dX7_soundsOfRow_12 rfl (lv_at hl 1 rfl) ?_
        refine lv_aload_n hx hb dX7_soundsOfRow_13 rfl (lv_at hl 0 rfl) ?_
        refine rg_gR C0 hH (o2 := 413) (ci := 7) (k := 0) (o := 412) rfl rfl inT_X7 (by decide) tw_f_X7_7 (by decide) rfl (by decide) rfl dX7_soundsOfRow_14 ?_
        refine lv_aload_n hx hb dX7_soundsOfRow_17 rfl (lv_at hl 0 rfl) ?_
        refine rg_gR C0 hH (o2 := 431) (ci := 7) (k := 30) (o := 412) rfl rfl inT_X7 (by decide) tw_f_X7_70 (by decide) rfl (by decide) rfl dX7_soundsOfRow_18 ?_
        refine lv_iload_n hx hb dX7_soundsOfRow_21 rfl (lv_at hl 2 rfl) ?_
        refine rg_ialdN C0 hH (o := 431) (j := i) (n0 := 6) (by decide) rfl rfl (by omega) dX7_soundsOfRow_22 ?_
        refine rg_iald C0 hH (o := 413) (by decide) rfl (rg_vin rfl (by exact hwi)) dX7_soundsOfRow_23 ?_
        refine lv_iadd hx hb dX7_soundsOfRow_24 ?_
        refine lv_istore_n (lv' := [(1, .int ((rg_sm (M.1 413) (M.1 431) i) + (M.1 413 ((M.1 431 i).toNatClampNeg)))), (0, .ref (B + 412)), (2, .int (nI i))]) hx hb dX7_soundsOfRow_25 rfl hl (by decide) rfl (fun ls hl => ?_)
        refine lv_iinc (v := nI (i + 1)) (lv' := [(2, .int (nI (i + 1))), (1, .int ((rg_sm (M.1 413) (M.1 431) i) + (M.1 413 ((M.1 431 i).toNatClampNeg)))), (0, .ref (B + 412))]) hx hb dX7_soundsOfRow_26 hl (k := 2) rfl (nI_1 _) (by decide) rfl (fun ls hl => ?_)
        refine lv_goto (tgt := 4) hx hb dX7_soundsOfRow_29 (by decide) ?_
        exact ih (i + 1) (by omega) _ _ _ hH (lv_sub hl [2, 1, 0] rfl)
  exact cut_4 (n + 1) 0 (by omega) _ _ _ hH (lv_sub hl [2, 1, 0] rfl)

set_option maxHeartbeats 4000000 in
set_option maxRecDepth 100000 in
/-- signsOfRow -/
theorem k_X7_signsOfRow (l : Launch) (E : rg_Env) (B : Nat) (M : rg_Mem) (n : Nat) (hI : rm_CI M) (hmy : M.1 412 31 = nI n) (hn6 : n ≤ 6) (hrw : ∀ k, k < n → rm_iw M (M.1 431 k)) : Met l yX7_signsOfRow (rg_w yX7_signsOfRow cX7_signsOfRow 3 (some (FieldType.int))) ({ frames := 0, cells := 0, slots := 0, locals := 0 } : Room) (va_Pc [.ref (B + 412)] (rg_Pre E B 433 rg_R0 M)) (rg_Ri E B 433 rg_R0 (M) (fun r => r = rg_og (M.1 415) (M.1 431) n)) 0 0 (rg_A B) := by
  refine rg_ofW (by decide +kernel) rfl (Nat.le_of_ble_eq_true rfl) ?_
  intro p e s m args below meth c ls C0 hH hl hr hlocks hnm
  replace hl : lv_has ls 3 [(0, .ref (B + 412))] := hl
  have hx := C0.1.1
  have hb := C0.1.2.1
  generalize hH9 : s.heap = H at hH ⊢
  generalize hL9 : ([] : List Loc) = locs at hH ⊢
  clear hH9 hL9
  refine lv_iconst (v := 0) hx hb dX7_signsOfRow_0 (by decide) ?_
  refine lv_istore_n (lv' := [(1, .int (0)), (0, .ref (B + 412))]) hx hb dX7_signsOfRow_1 rfl hl (by decide) rfl (fun ls hl => ?_)
  refine lv_iconst (v := 0) hx hb dX7_signsOfRow_2 (by decide) ?_
  refine lv_istore_n (lv' := [(2, .int (0)), (1, .int (0)), (0, .ref (B + 412))]) hx hb dX7_signsOfRow_3 rfl hl (by decide) rfl (fun ls hl => ?_)
  have cut_4 : ∀ (fu i : Nat), i ≤ n ∧ n < i + fu → ∀  (H : Heap) (locs : List Loc) (ls : Array Slot), rg_H E B 433 rg_R0 M s H locs → lv_has ls 3 [(0, .ref (B + 412)), (1, .int (rg_og (M.1 415) (M.1 431) i)), (2, .int (nI i))] → W p l e ({ frames := 0, cells := 0, slots := 0, locals := 0 } : Room) s m args below meth c H locs 0 0 (MQ below (rg_Ri E B 433 rg_R0 (M) (fun r => r = rg_og (M.1 415) (M.1 431) n)) args s 0 0 (rg_A B)) (F0 m 4 ls []) := by
    intro fu
    induction fu with
    | zero =>
      intro i hm
      exact absurd hm (by omega)
    | succ fu ih =>
      intro i hm  H locs ls hH hl 
      refine lv_iload_n hx hb dX7_signsOfRow_4 rfl (lv_at hl 2 rfl) ?_
      refine lv_aload_n hx hb dX7_signsOfRow_5 rfl (lv_at hl 0 rfl) ?_
      refine rg_gI C0 hH (ci := 7) (k := 31) (o := 412) rfl inT_X7 (by decide) tw_f_X7_133 (by decide) rfl (by decide) rfl dX7_signsOfRow_6 ?_
      refine rg_topi (y := nI n) (by exact hmy) ?_
      refine lv_icmp_ge (tgt := 32) hx hb dX7_signsOfRow_9 (by decide) (fun c_9 => ?_) (fun c_9 => ?_)
      · refine lv_iload_n hx hb dX7_signsOfRow_32 rfl (lv_at hl 1 rfl) ?_
        exact rg_retRi C0 hH hr hlocks rfl (by rw [rg_lp_end hm.1 (by omega) c_9]) dX7_signsOfRow_33
      · have hlt := rg_lp_lt hm.1 (by omega) c_9
        have hwi := rm_iw_in hI (hrw i hlt)
        refine lv_iload_n hx hb dX7_signsOfRow_12 rfl (lv_at hl 1 rfl) ?_
        refine lv_aload_n hx hb dX7_signsOfRow_13 rfl (lv_at hl 0 rfl) ?_
        refine rg_gR C0 hH (o2 := 415) (ci := 7) (k := 2) (o := 412) rfl rfl inT_X7 (by decide) tw_f_X7_16 (by decide) rfl (by decide) rfl dX7_signsOfRow_14 ?_
        refine lv_aload_n hx hb dX7_signsOfRow_17 rfl (lv_at hl 0 rfl) ?_
        refine rg_gR C0 hH (o2 := 431) (ci := 7) (k := 30) (o := 412) rfl rfl inT_X7 (by decide) tw_f_X7_70 (by decide) rfl (by decide) rfl dX7_signsOfRow_18 ?_
        refine lv_iload_n hx hb dX7_signsOfRow_21 rfl (lv_at hl 2 rfl) ?_
        refine rg_ialdN C0 hH (o := 431) (j := i) (n0 := 6) (by decide) rfl rfl (by omega) dX7_signsOfRow_22 ?_
        refine rg_iald C0 hH (o := 415) (by decide) rfl (rg_vin rfl (by exact hwi)) dX7_signsOfRow_23 ?_
        refine lv_ior hx hb dX7_signsOfRow_24 ?_
        refine lv_istore_n (lv' := [(1, .int ((rg_og (M.1 415) (M.1 431) i) ||| (M.1 415 ((M.1 431 i).toNatClampNeg)))), (0, .ref (B + 412)), (2, .int (nI i))]) hx hb dX7_signsOfRow_25 rfl hl (by decide) rfl (fun ls hl => ?_)
        refine lv_iinc (v := nI (i + 1)) (lv' := [(2, .int (nI (i + 1))), (1, .int ((rg_og (M.1 415) (M.1 431) i) ||| (M.1 415 ((M.1 431 i).toNatClampNeg)))), (0, .ref (B + 412))]) hx hb dX7_signsOfRow_26 hl (k := 2) rfl (nI_1 _) (by decide) rfl (fun ls hl => ?_)
        refine lv_goto (tgt := 4) hx hb dX7_signsOfRow_29 (by decide) ?_
        exact ih (i + 1) (by omega) _ _ _ hH (lv_sub hl [2, 1, 0] rfl)
  exact cut_4 (n + 1) 0 (by omega) _ _ _ hH (lv_sub hl [2, 1, 0] rfl)

set_option maxHeartbeats 4000000 in
set_option maxRecDepth 100000 in
/-- seasonOfRow -/
theorem k_X7_seasonOfRow (l : Launch) (E : rg_Env) (B : Nat) (M : rg_Mem) (n : Nat) (hI : rm_CI M) (hmy : M.1 412 31 = nI n) (hn6 : n ≤ 6) (hrw : ∀ k, k < n → rm_iw M (M.1 431 k)) : Met l yX7_seasonOfRow (rg_w yX7_seasonOfRow cX7_seasonOfRow 3 (some (FieldType.int))) ({ frames := 0, cells := 0, slots := 0, locals := 0 } : Room) (va_Pc [.ref (B + 412)] (rg_Pre E B 433 rg_R0 M)) (rg_Ri E B 433 rg_R0 (M) (fun r => r = rg_fi (M.1 414) (M.1 431) n)) 0 0 (rg_A B) := by
  refine rg_ofW (by decide +kernel) rfl (Nat.le_of_ble_eq_true rfl) ?_
  intro p e s m args below meth c ls C0 hH hl hr hlocks hnm
  replace hl : lv_has ls 3 [(0, .ref (B + 412))] := hl
  have hx := C0.1.1
  have hb := C0.1.2.1
  generalize hH9 : s.heap = H at hH ⊢
  generalize hL9 : ([] : List Loc) = locs at hH ⊢
  clear hH9 hL9
  refine lv_iconst (v := (-1)) hx hb dX7_seasonOfRow_0 (by decide) ?_
  refine lv_istore_n (lv' := [(1, .int ((-1))), (0, .ref (B + 412))]) hx hb dX7_seasonOfRow_1 rfl hl (by decide) rfl (fun ls hl => ?_)
  refine lv_aload_n hx hb dX7_seasonOfRow_2 rfl (lv_at hl 1 rfl) ?_
  refine rg_gI C0 hH (ci := 7) (k := 31) (o := 412) rfl inT_X7 (by decide) tw_f_X7_133 (by decide) rfl (by decide) rfl dX7_seasonOfRow_3 ?_
  refine rg_topi (y := nI n) (by exact hmy) ?_
  refine lv_iconst (v := 1) hx hb dX7_seasonOfRow_6 (by decide) ?_
  refine lv_isub hx hb dX7_seasonOfRow_7 ?_
  refine lv_istore_n (lv' := [(2, .int ((nI n) - 1)), (1, .int ((-1))), (0, .ref (B + 412))]) hx hb dX7_seasonOfRow_8 rfl hl (by decide) rfl (fun ls hl => ?_)
  have cut_9 : ∀ (fu i : Nat), i ≤ n ∧ i < fu → ∀ (x : Int32) (H : Heap) (locs : List Loc) (ls : Array Slot), rg_H E B 433 rg_R0 M s H locs → lv_has ls 3 [(0, .ref (B + 412)), (1, .int (x)), (2, .int (nI i - 1))] → ((if rg_fi (M.1 414) (M.1 431) i = -1 then x else rg_fi (M.1 414) (M.1 431) i) = rg_fi (M.1 414) (M.1 431) n) → W p l e ({ frames := 0, cells := 0, slots := 0, locals := 0 } : Room) s m args below meth c H locs 0 0 (MQ below (rg_Ri E B 433 rg_R0 (M) (fun r => r = rg_fi (M.1 414) (M.1 431) n)) args s 0 0 (rg_A B)) (F0 m 9 ls []) := by
    intro fu
    induction fu with
    | zero =>
      intro i hm
      exact absurd hm (by omega)
    | succ fu ih =>
      intro i hm x H locs ls hH hl hx9
      refine lv_iload_n hx hb dX7_seasonOfRow_9 rfl (lv_at hl 2 rfl) ?_
      refine lv_if_lt (tgt := 50) hx hb dX7_seasonOfRow_10 (by decide) (fun c_10 => ?_) (fun c_10 => ?_)
      · refine lv_iload_n hx hb dX7_seasonOfRow_50 rfl (lv_at hl 1 rfl) ?_
        exact rg_retRi C0 hH hr hlocks rfl (by rw [rm_zero hm.1 hn6 c_10] at hx9; exact hx9) dX7_seasonOfRow_51
      · obtain ⟨q, rfl⟩ : ∃ q, i = q + 1 := ⟨i - 1, by
          rcases Nat.eq_zero_or_pos i with q | q
          · subst q; exact absurd (show (nI 0 - 1 : Int32) < 0 from by decide) c_10
          · omega⟩
        rw [nI_pred] at hl
        have hwi := rm_iw_in hI (hrw q (by omega))
        refine lv_aload_n hx hb dX7_seasonOfRow_13 rfl (lv_at hl 0 rfl) ?_
        refine rg_gR C0 hH (o2 := 414) (ci := 7) (k := 1) (o := 412) rfl rfl inT_X7 (by decide) tw_f_X7_13 (by decide) rfl (by decide) rfl dX7_seasonOfRow_14 ?_
        refine lv_aload_n hx hb dX7_seasonOfRow_17 rfl (lv_at hl 0 rfl) ?_
        refine rg_gR C0 hH (o2 := 431) (ci := 7) (k := 30) (o := 412) rfl rfl inT_X7 (by decide) tw_f_X7_70 (by decide) rfl (by decide) rfl dX7_seasonOfRow_18 ?_
        refine lv_iload_n hx hb dX7_seasonOfRow_21 rfl (lv_at hl 2 rfl) ?_
        refine rg_ialdN C0 hH (o := 431) (j := q) (n0 := 6) (by decide) rfl rfl (by omega) dX7_seasonOfRow_22 ?_
        refine rg_iald C0 hH (o := 414) (by decide) rfl (rg_vin rfl (by exact hwi)) dX7_seasonOfRow_23 ?_
        refine lv_iconst (v := (-1)) hx hb dX7_seasonOfRow_24 (by decide) ?_
        refine lv_icmp_ne (tgt := 32) hx hb dX7_seasonOfRow_25 (by decide) (fun c_25 => ?_) (fun c_25 => ?_)
        · refine lv_aload_n hx hb dX7_seasonOfRow_32 rfl (lv_at hl 0 rfl) ?_
          refine rg_gR C0 hH (o2 := 414) (ci := 7) (k := 1) (o := 412) rfl rfl inT_X7 (by decide) tw_f_X7_13 (by decide) rfl (by decide) rfl dX7_seasonOfRow_33 ?_
          refine lv_aload_n hx hb dX7_seasonOfRow_36 rfl (lv_at hl 0 rfl) ?_
          refine rg_gR C0 hH (o2 := 431) (ci := 7) (k := 30) (o := 412) rfl rfl inT_X7 (by decide) tw_f_X7_70 (by decide) rfl (by decide) rfl dX7_seasonOfRow_37 ?_
          refine lv_iload_n hx hb dX7_seasonOfRow_40 rfl (lv_at hl 2 rfl) ?_
          refine rg_ialdN C0 hH (o := 431) (j := q) (n0 := 6) (by decide) rfl rfl (by omega) dX7_seasonOfRow_41 ?_
          refine rg_iald C0 hH (o := 414) (by decide) rfl (rg_vin rfl (by exact hwi)) dX7_seasonOfRow_42 ?_
          refine lv_istore_n (lv' := [(1, .int (M.1 414 ((M.1 431 q).toNatClampNeg))), (0, .ref (B + 412)), (2, .int (nI q))]) hx hb dX7_seasonOfRow_43 rfl hl (by decide) rfl (fun ls hl => ?_)
          refine lv_iinc (v := (nI q) - 1) (lv' := [(2, .int ((nI q) - 1)), (1, .int (M.1 414 ((M.1 431 q).toNatClampNeg))), (0, .ref (B + 412))]) hx hb dX7_seasonOfRow_44 hl (k := 2) rfl (rg_m1s _) (by decide) rfl (fun ls hl => ?_)
          refine lv_goto (tgt := 9) hx hb dX7_seasonOfRow_47 (by decide) ?_
          exact ih q (by omega) (M.1 414 ((M.1 431 q).toNatClampNeg)) _ _ _ hH (lv_sub hl [2, 1, 0] rfl) (by exact rm_fi_d1 c_25 hx9)
        · refine lv_iload_n hx hb dX7_seasonOfRow_28 rfl (lv_at hl 1 rfl) ?_
          refine lv_goto (tgt := 43) hx hb dX7_seasonOfRow_29 (by decide) ?_
          refine lv_istore_n (lv' := [(1, .int (x)), (0, .ref (B + 412)), (2, .int (nI q))]) hx hb dX7_seasonOfRow_43 rfl hl (by decide) rfl (fun ls hl => ?_)
          refine lv_iinc (v := (nI q) - 1) (lv' := [(2, .int ((nI q) - 1)), (1, .int (x)), (0, .ref (B + 412))]) hx hb dX7_seasonOfRow_44 hl (k := 2) rfl (rg_m1s _) (by decide) rfl (fun ls hl => ?_)
          refine lv_goto (tgt := 9) hx hb dX7_seasonOfRow_47 (by decide) ?_
          exact ih q (by omega) x _ _ _ hH (lv_sub hl [2, 1, 0] rfl) (by exact rm_fi_d0 c_25 hx9)
  exact cut_9 (n + 1) n (by omega) ((-1)) _ _ _ hH (lv_sub hl [2, 1, 0] rfl) (by by_cases z : rg_fi (M.1 414) (M.1 431) n = -1; rw [if_pos z, z]; rw [if_neg z])

set_option maxHeartbeats 4000000 in
set_option maxRecDepth 100000 in
/-- mixes -/
theorem k_X7_mixes (l : Launch) (E : rg_Env) (B : Nat) (M : rg_Mem) (n : Nat) (hI : rm_CI M) (hmy : M.1 412 31 = nI n) (hn6 : n ≤ 6) (hrw : ∀ k, k < n → rm_iw M (M.1 431 k)) : Met l yX7_mixes (rg_w yX7_mixes cX7_mixes 3 (some (FieldType.int))) ({ frames := 1, cells := 0, slots := 0, locals := 22 } : Room) (va_Pc [.ref (B + 412)] (rg_Pre E B 433 rg_R0 M)) (rg_Ri E B 433 rg_R0 (M) (fun r => r = rg_ff (rm_dm M (M.1 431) n) n 0)) 0 0 (rg_A B) := by
  refine rg_ofW (by decide +kernel) rfl (Nat.le_of_ble_eq_true rfl) ?_
  intro p e s m args below meth c ls C0 hH hl hr hlocks hnm
  replace hl : lv_has ls 3 [(0, .ref (B + 412))] := hl
  have hx := C0.1.1
  have hb := C0.1.2.1
  generalize hH9 : s.heap = H at hH ⊢
  generalize hL9 : ([] : List Loc) = locs at hH ⊢
  clear hH9 hL9
  refine lv_aload_n hx hb dX7_mixes_0 rfl (lv_at hl 0 rfl) ?_
  refine rg_callGi C0 hH (As := []) (rest := []) (o := 412) (ci := 7) (k_X7_seasonOfRow l E B M n (by assumption) (by assumption) (by assumption) (by assumption)) (rg_cw 0 C0.1.2.2.2.2 tw_m_X7_136 tw_i_X7_seasonOfRow tw_v_X7_seasonOfRow tw_n_X7 tw_c_X7_seasonOfRow rfl rfl hd_X7_seasonOfRow ⟨Nat.le_of_ble_eq_true rfl, Nat.le_of_ble_eq_true rfl⟩) rfl (by decide) rfl (by decide) rfl hl.1 rfl (Nat.le_of_ble_eq_true rfl) dX7_mixes_1 ⟨Nat.le_of_ble_eq_true rfl, Nat.le_of_ble_eq_true rfl⟩ (fun H locs hH => ?_)
  refine lv_istore_n (lv' := [(1, .int (rg_fi (M.1 414) (M.1 431) n)), (0, .ref (B + 412))]) hx hb dX7_mixes_4 rfl hl (by decide) rfl (fun ls hl => ?_)
  refine lv_iconst (v := 0) hx hb dX7_mixes_5 (by decide) ?_
  refine lv_istore_n (lv' := [(2, .int (0)), (1, .int (rg_fi (M.1 414) (M.1 431) n)), (0, .ref (B + 412))]) hx hb dX7_mixes_6 rfl hl (by decide) rfl (fun ls hl => ?_)
  have cut_7 : ∀ (fu i : Nat), i ≤ n ∧ n < i + fu → ∀  (H : Heap) (locs : List Loc) (ls : Array Slot), rg_H E B 433 rg_R0 M s H locs → lv_has ls 3 [(0, .ref (B + 412)), (1, .int (rg_fi (M.1 414) (M.1 431) n)), (2, .int (nI i))] → (rg_ff (rm_dm M (M.1 431) n) (n - i) i = rg_ff (rm_dm M (M.1 431) n) n 0) → W p l e ({ frames := 1, cells := 0, slots := 0, locals := 22 } : Room) s m args below meth c H locs 0 0 (MQ below (rg_Ri E B 433 rg_R0 (M) (fun r => r = rg_ff (rm_dm M (M.1 431) n) n 0)) args s 0 0 (rg_A B)) (F0 m 7 ls []) := by
    intro fu
    induction fu with
    | zero =>
      intro i hm
      exact absurd hm (by omega)
    | succ fu ih =>
      intro i hm  H locs ls hH hl hz
      refine lv_iload_n hx hb dX7_mixes_7 rfl (lv_at hl 2 rfl) ?_
      refine lv_aload_n hx hb dX7_mixes_8 rfl (lv_at hl 0 rfl) ?_
      refine rg_gI C0 hH (ci := 7) (k := 31) (o := 412) rfl inT_X7 (by decide) tw_f_X7_133 (by decide) rfl (by decide) rfl dX7_mixes_9 ?_
      refine rg_topi (y := nI n) (by exact hmy) ?_
      refine lv_icmp_ge (tgt := 53) hx hb dX7_mixes_12 (by decide) (fun c_12 => ?_) (fun c_12 => ?_)
      · refine lv_iconst (v := (-1)) hx hb dX7_mixes_53 (by decide) ?_
        exact rg_retRi C0 hH hr hlocks rfl (by rw [rg_lp_end hm.1 (by omega) c_12] at hz; exact rg_ff_e hz) dX7_mixes_54
      · have hlt := rg_lp_lt hm.1 (by omega) c_12
        have hwi := rm_iw_in hI (hrw i hlt)
        refine lv_aload_n hx hb dX7_mixes_15 rfl (lv_at hl 0 rfl) ?_
        refine rg_gR C0 hH (o2 := 414) (ci := 7) (k := 1) (o := 412) rfl rfl inT_X7 (by decide) tw_f_X7_13 (by decide) rfl (by decide) rfl dX7_mixes_16 ?_
        refine lv_aload_n hx hb dX7_mixes_19 rfl (lv_at hl 0 rfl) ?_
        refine rg_gR C0 hH (o2 := 431) (ci := 7) (k := 30) (o := 412) rfl rfl inT_X7 (by decide) tw_f_X7_70 (by decide) rfl (by decide) rfl dX7_mixes_20 ?_
        refine lv_iload_n hx hb dX7_mixes_23 rfl (lv_at hl 2 rfl) ?_
        refine rg_ialdN C0 hH (o := 431) (j := i) (n0 := 6) (by decide) rfl rfl (by omega) dX7_mixes_24 ?_
        refine rg_iald C0 hH (o := 414) (by decide) rfl (rg_vin rfl (by exact hwi)) dX7_mixes_25 ?_
        refine lv_iconst (v := (-1)) hx hb dX7_mixes_26 (by decide) ?_
        refine lv_icmp_eq (tgt := 47) hx hb dX7_mixes_27 (by decide) (fun c_27 => ?_) (fun c_27 => ?_)
        · refine lv_iinc (v := nI (i + 1)) (lv' := [(2, .int (nI (i + 1))), (0, .ref (B + 412)), (1, .int (rg_fi (M.1 414) (M.1 431) n))]) hx hb dX7_mixes_47 hl (k := 2) rfl (nI_1 _) (by decide) rfl (fun ls hl => ?_)
          refine lv_goto (tgt := 7) hx hb dX7_mixes_50 (by decide) ?_
          exact ih (i + 1) (by omega) _ _ _ hH (lv_sub hl [1, 2, 0] rfl) (by exact rg_ff_n hz hlt (fun q => (of_decide_eq_true q).1 c_27))
        · refine lv_aload_n hx hb dX7_mixes_30 rfl (lv_at hl 0 rfl) ?_
          refine rg_gR C0 hH (o2 := 414) (ci := 7) (k := 1) (o := 412) rfl rfl inT_X7 (by decide) tw_f_X7_13 (by decide) rfl (by decide) rfl dX7_mixes_31 ?_
          refine lv_aload_n hx hb dX7_mixes_34 rfl (lv_at hl 0 rfl) ?_
          refine rg_gR C0 hH (o2 := 431) (ci := 7) (k := 30) (o := 412) rfl rfl inT_X7 (by decide) tw_f_X7_70 (by decide) rfl (by decide) rfl dX7_mixes_35 ?_
          refine lv_iload_n hx hb dX7_mixes_38 rfl (lv_at hl 2 rfl) ?_
          refine rg_ialdN C0 hH (o := 431) (j := i) (n0 := 6) (by decide) rfl rfl (by omega) dX7_mixes_39 ?_
          refine rg_iald C0 hH (o := 414) (by decide) rfl (rg_vin rfl (by exact hwi)) dX7_mixes_40 ?_
          refine lv_iload_n hx hb dX7_mixes_41 rfl (lv_at hl 1 rfl) ?_
          refine lv_icmp_eq (tgt := 47) hx hb dX7_mixes_42 (by decide) (fun c_42 => ?_) (fun c_42 => ?_)
          · refine lv_iinc (v := nI (i + 1)) (lv' := [(2, .int (nI (i + 1))), (0, .ref (B + 412)), (1, .int (rg_fi (M.1 414) (M.1 431) n))]) hx hb dX7_mixes_47 hl (k := 2) rfl (nI_1 _) (by decide) rfl (fun ls hl => ?_)
            refine lv_goto (tgt := 7) hx hb dX7_mixes_50 (by decide) ?_
            exact ih (i + 1) (by omega) _ _ _ hH (lv_sub hl [1, 2, 0] rfl) (by exact rg_ff_n hz hlt (fun q => (of_decide_eq_true q).2 c_42))
          · refine lv_iload_n hx hb dX7_mixes_45 rfl (lv_at hl 2 rfl) ?_
            exact rg_retRi C0 hH hr hlocks rfl (by exact rg_ff_y hz hlt (decide_eq_true ⟨c_27, c_42⟩)) dX7_mixes_46
  exact cut_7 (n + 1) 0 (by omega) _ _ _ hH (lv_sub hl [2, 1, 0] rfl) (by rfl)
