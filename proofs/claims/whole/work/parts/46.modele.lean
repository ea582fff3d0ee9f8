set_option maxHeartbeats 4000000 in
set_option maxRecDepth 100000 in
/-- faultOf -/
theorem k_X7_faultOf (l : Launch) (E : rg_Env) (B : Nat) (M : rg_Mem) (n : Nat) (v : Nat) (po : Int32) (hI : rm_CI M) (hmy : M.1 412 31 = nI n) (hn6 : n ≤ 6) (hrw : ∀ k, k < n → rm_iw M (M.1 431 k)) (hv9 : v ≤ rm_nl M) (hv36 : v < 36) : Met l yX7_faultOf (rg_w yX7_faultOf cX7_faultOf 5 (some (FieldType.int))) ({ frames := 3, cells := 0, slots := 0, locals := 71 } : Room) (va_Pc [.ref (B + 412), .int (nI v), .int (po)] (rg_Pre E B 433 rg_R0 M)) (rg_Ri E B 433 rg_R0 (rg_I M 412 32 (rm_fo M (M.1 431) n v po).2) (fun r => r = (rm_fo M (M.1 431) n v po).1)) 0 0 (rg_A B) := by
  refine rg_ofW (by decide +kernel) rfl (Nat.le_of_ble_eq_true rfl) ?_
  intro p e s m args below meth c ls C0 hH hl hr hlocks hnm
  replace hl : lv_has ls 5 [(0, .ref (B + 412)), (1, .int (nI v)), (2, .int (po))] := hl
  have hx := C0.1.1
  have hb := C0.1.2.1
  generalize hH9 : s.heap = H at hH ⊢
  generalize hL9 : ([] : List Loc) = locs at hH ⊢
  clear hH9 hL9
  have hl36 := (rm_CI_l hI).2
  have hE : ∀ x, rm_eq M (rg_I M 412 32 x) := fun x => rm_eq_f (by omega)
  have cut_17 : ∀  (H : Heap) (locs : List Loc) (ls : Array Slot), rg_H E B 433 rg_R0 M s H locs → lv_has ls 5 [(0, .ref (B + 412)), (1, .int (nI v)), (2, .int (po))] → W p l e ({ frames := 3, cells := 0, slots := 0, locals := 71 } : Room) s m args below meth c H locs 0 0 (MQ below (rg_Ri E B 433 rg_R0 (rg_I M 412 32 (rm_fo M (M.1 431) n v po).2) (fun r => r = (rm_fo M (M.1 431) n v po).1)) args s 0 0 (rg_A B)) (F0 m 17 ls [.int (rm_mu M v)]) := by
    intro  H locs ls hH hl 
    refine lv_istore_n (lv' := [(3, .int (rm_mu M v)), (0, .ref (B + 412)), (1, .int (nI v)), (2, .int (po))]) hx hb dX7_faultOf_17 rfl hl (by decide) rfl (fun ls hl => ?_)
    refine lv_aload_n hx hb dX7_faultOf_18 rfl (lv_at hl 1 rfl) ?_
    refine lv_aload_n hx hb dX7_faultOf_19 rfl (lv_at hl 1 rfl) ?_
    refine rg_callGi C0 hH (As := []) (rest := [.ref (B + 412)]) (o := 412) (ci := 7) (k_X7_soundsOfRow l E B M n hI hmy hn6 hrw) (rg_cw 0 C0.1.2.2.2.2 tw_m_X7_152 tw_i_X7_soundsOfRow tw_v_X7_soundsOfRow tw_n_X7 tw_c_X7_soundsOfRow rfl rfl hd_X7_soundsOfRow ⟨Nat.le_of_ble_eq_true rfl, Nat.le_of_ble_eq_true rfl⟩) rfl (by decide) rfl (by decide) rfl hl.1 rfl (Nat.le_of_ble_eq_true rfl) dX7_faultOf_20 ⟨Nat.le_of_ble_eq_true rfl, Nat.le_of_ble_eq_true rfl⟩ (fun H locs hH => ?_)
    refine rg_pI C0 hH (v := rg_sm (M.1 413) (M.1 431) n) tyX7 tyX7_ok nmX7 (ci := 7) (k := 32) (o := 412) rfl inT_X7 (by decide) tw_f_X7_155 (by decide) rfl (by decide) rfl rfl rfl rfl dX7_faultOf_23 (fun H locs hH => ?_)
    refine lv_aload_n hx hb dX7_faultOf_26 rfl (lv_at hl 1 rfl) ?_
    refine rg_gI C0 hH (ci := 7) (k := 32) (o := 412) rfl inT_X7 (by decide) tw_f_X7_155 (by decide) rfl (by decide) rfl dX7_faultOf_27 ?_
    refine rg_topi (y := rg_sm (M.1 413) (M.1 431) n) (by exact rm_get) ?_
    refine lv_iload_n hx hb dX7_faultOf_30 rfl (lv_at hl 0 rfl) ?_
    refine lv_icmp_eq (tgt := 36) hx hb dX7_faultOf_31 (by decide) (fun c_31 => ?_) (fun c_31 => ?_)
    · refine lv_aload_n hx hb dX7_faultOf_36 rfl (lv_at hl 1 rfl) ?_
      refine lv_aload_n hx hb dX7_faultOf_37 rfl (lv_at hl 1 rfl) ?_
      refine rg_callGi C0 hH (As := []) (rest := [.ref (B + 412)]) (o := 412) (ci := 7) (k_X7_mixes l E B (rg_I M 412 32 (rg_sm (M.1 413) (M.1 431) n)) n (rm_CI_eq hI (hE _)) ((rm_sl (by omega)).trans hmy) hn6 (by rw [rm_row, rm_iw_e (hE _)]; exact hrw)) (rg_cw 0 C0.1.2.2.2.2 tw_m_X7_158 tw_i_X7_mixes tw_v_X7_mixes tw_n_X7 tw_c_X7_mixes rfl rfl hd_X7_mixes ⟨Nat.le_of_ble_eq_true rfl, Nat.le_of_ble_eq_true rfl⟩) rfl (by decide) rfl (by decide) rfl hl.1 rfl (Nat.le_of_ble_eq_true rfl) dX7_faultOf_38 ⟨Nat.le_of_ble_eq_true rfl, Nat.le_of_ble_eq_true rfl⟩ (fun H locs hH => ?_)
      refine rg_topi (y := rg_ff (rm_dm M (M.1 431) n) n 0) (by rw [rm_row, rm_dm_e (hE _)]) ?_
      refine rg_pI C0 hH (v := rg_ff (rm_dm M (M.1 431) n) n 0) tyX7 tyX7_ok nmX7 (ci := 7) (k := 32) (o := 412) rfl inT_X7 (by decide) tw_f_X7_155 (by decide) rfl (by decide) rfl rfl rfl rfl dX7_faultOf_41 (fun H locs hH => ?_)
      replace hH := rg_H_eq rg_II hH
      refine lv_aload_n hx hb dX7_faultOf_44 rfl (lv_at hl 1 rfl) ?_
      refine rg_gI C0 hH (ci := 7) (k := 32) (o := 412) rfl inT_X7 (by decide) tw_f_X7_155 (by decide) rfl (by decide) rfl dX7_faultOf_45 ?_
      refine rg_topi (y := rg_ff (rm_dm M (M.1 431) n) n 0) (by exact rm_get) ?_
      refine lv_iconst (v := (-1)) hx hb dX7_faultOf_48 (by decide) ?_
      refine lv_icmp_eq (tgt := 54) hx hb dX7_faultOf_49 (by decide) (fun c_49 => ?_) (fun c_49 => ?_)
      · refine lv_aload_n hx hb dX7_faultOf_54 rfl (lv_at hl 1 rfl) ?_
        refine lv_aload_n hx hb dX7_faultOf_55 rfl (lv_at hl 1 rfl) ?_
        refine lv_iload_n hx hb dX7_faultOf_56 rfl (lv_at hl 2 rfl) ?_
        refine rg_callGi C0 hH (As := [.int (nI v)]) (rest := [.ref (B + 412)]) (o := 412) (ci := 7) (k_X7_comesAgain l E B (rg_I M 412 32 (rg_ff (rm_dm M (M.1 431) n) n 0)) n v (rm_CI_eq hI (hE _)) ((rm_sl (by omega)).trans hmy) hn6 (by rw [rm_row, rm_iw_e (hE _)]; exact hrw) (by rw [rm_nl_e (hE _)]; exact hv9)) (rg_cw 1 C0.1.2.2.2.2 tw_m_X7_161 tw_i_X7_comesAgain tw_v_X7_comesAgain tw_n_X7 tw_c_X7_comesAgain rfl rfl hd_X7_comesAgain ⟨Nat.le_of_ble_eq_true rfl, Nat.le_of_ble_eq_true rfl⟩) rfl (by decide) rfl (by decide) rfl hl.1 rfl (Nat.le_of_ble_eq_true rfl) dX7_faultOf_57 ⟨Nat.le_of_ble_eq_true rfl, Nat.le_of_ble_eq_true rfl⟩ (fun H locs hH => ?_)
        refine rg_topi (y := rg_ff (rm_dp M (M.1 431) v) n 0) (by rw [rm_row, rm_dp_e (hE _)]) ?_
        refine rg_pI C0 hH (v := rg_ff (rm_dp M (M.1 431) v) n 0) tyX7 tyX7_ok nmX7 (ci := 7) (k := 32) (o := 412) rfl inT_X7 (by decide) tw_f_X7_155 (by decide) rfl (by decide) rfl rfl rfl rfl dX7_faultOf_60 (fun H locs hH => ?_)
        replace hH := rg_H_eq rg_II hH
        refine lv_aload_n hx hb dX7_faultOf_63 rfl (lv_at hl 1 rfl) ?_
        refine rg_gI C0 hH (ci := 7) (k := 32) (o := 412) rfl inT_X7 (by decide) tw_f_X7_155 (by decide) rfl (by decide) rfl dX7_faultOf_64 ?_
        refine rg_topi (y := rg_ff (rm_dp M (M.1 431) v) n 0) (by exact rm_get) ?_
        refine lv_iconst (v := (-1)) hx hb dX7_faultOf_67 (by decide) ?_
        refine lv_icmp_eq (tgt := 73) hx hb dX7_faultOf_68 (by decide) (fun c_68 => ?_) (fun c_68 => ?_)
        · refine lv_aload_n hx hb dX7_faultOf_73 rfl (lv_at hl 1 rfl) ?_
          refine lv_iload_n hx hb dX7_faultOf_74 rfl (lv_at hl 3 rfl) ?_
          refine rg_pI C0 hH (v := po) tyX7 tyX7_ok nmX7 (ci := 7) (k := 32) (o := 412) rfl inT_X7 (by decide) tw_f_X7_155 (by decide) rfl (by decide) rfl rfl rfl rfl dX7_faultOf_75 (fun H locs hH => ?_)
          replace hH := rg_H_eq rg_II hH
          refine lv_iload_n hx hb dX7_faultOf_78 rfl (lv_at hl 2 rfl) ?_
          have cut_101 : ∀  (H : Heap) (locs : List Loc) (ls : Array Slot), rg_H E B 433 rg_R0 (rg_I M 412 32 po) s H locs → lv_has ls 5 [(3, .int (rm_mu M v)), (0, .ref (B + 412)), (1, .int (nI v)), (2, .int (po))] → (¬ (0 < v ∧ ¬ po = -1 ∧ M.1 419 (v - 1) = po)) → W p l e ({ frames := 3, cells := 0, slots := 0, locals := 71 } : Room) s m args below meth c H locs 0 0 (MQ below (rg_Ri E B 433 rg_R0 (rg_I M 412 32 (rm_fo M (M.1 431) n v po).2) (fun r => r = (rm_fo M (M.1 431) n v po).1)) args s 0 0 (rg_A B)) (F0 m 101 ls []) := by
            intro  H locs ls hH hl h4
            refine lv_aload_n hx hb dX7_faultOf_101 rfl (lv_at hl 1 rfl) ?_
            refine lv_iload_n hx hb dX7_faultOf_102 rfl (lv_at hl 2 rfl) ?_
            refine lv_iconst (v := 1) hx hb dX7_faultOf_103 (by decide) ?_
            refine lv_isub hx hb dX7_faultOf_104 ?_
            refine rg_pI C0 hH (v := (nI v) - 1) tyX7 tyX7_ok nmX7 (ci := 7) (k := 32) (o := 412) rfl inT_X7 (by decide) tw_f_X7_155 (by decide) rfl (by decide) rfl rfl rfl rfl dX7_faultOf_105 (fun H locs hH => ?_)
            replace hH := rg_H_eq rg_II hH
            refine lv_iload_n hx hb dX7_faultOf_108 rfl (lv_at hl 2 rfl) ?_
            have cut_122 : ∀  (H : Heap) (locs : List Loc) (ls : Array Slot), rg_H E B 433 rg_R0 (rg_I M 412 32 (nI v - 1)) s H locs → lv_has ls 5 [(3, .int (rm_mu M v)), (0, .ref (B + 412)), (1, .int (nI v)), (2, .int (po))] → (¬ (0 < v ∧ ¬ rm_jo M (M.1 431) n v = true)) → W p l e ({ frames := 3, cells := 0, slots := 0, locals := 71 } : Room) s m args below meth c H locs 0 0 (MQ below (rg_Ri E B 433 rg_R0 (rg_I M 412 32 (rm_fo M (M.1 431) n v po).2) (fun r => r = (rm_fo M (M.1 431) n v po).1)) args s 0 0 (rg_A B)) (F0 m 122 ls []) := by
              intro  H locs ls hH hl h5
              refine lv_iload_n hx hb dX7_faultOf_122 rfl (lv_at hl 2 rfl) ?_
              have cut_147 : ∀  (H : Heap) (locs : List Loc) (ls : Array Slot), rg_H E B 433 rg_R0 (rg_I M 412 32 (nI v - 1)) s H locs → lv_has ls 5 [(3, .int (rm_mu M v)), (0, .ref (B + 412)), (1, .int (nI v)), (2, .int (po))] → W p l e ({ frames := 3, cells := 0, slots := 0, locals := 71 } : Room) s m args below meth c H locs 0 0 (MQ below (rg_Ri E B 433 rg_R0 (rg_I M 412 32 (rm_fo M (M.1 431) n v po).2) (fun r => r = (rm_fo M (M.1 431) n v po).1)) args s 0 0 (rg_A B)) (F0 m 147 ls [.int (rm_cm M (M.1 431) n v)]) := by
                intro  H locs ls hH hl 
                refine lv_istore (lv' := [(4, .int (rm_cm M (M.1 431) n v)), (3, .int (rm_mu M v)), (0, .ref (B + 412)), (1, .int (nI v)), (2, .int (po))]) hx hb dX7_faultOf_147 hl (by decide) rfl (fun ls hl => ?_)
                refine lv_aload_n hx hb dX7_faultOf_149 rfl (lv_at hl 2 rfl) ?_
                refine lv_iload hx hb dX7_faultOf_150 (lv_at hl 0 rfl) ?_
                have cut_164 : ∀  (H : Heap) (locs : List Loc) (ls : Array Slot), rg_H E B 433 rg_R0 (rg_I M 412 32 (nI v - 1)) s H locs → lv_has ls 5 [(4, .int (rm_cm M (M.1 431) n v)), (3, .int (rm_mu M v)), (0, .ref (B + 412)), (1, .int (nI v)), (2, .int (po))] → W p l e ({ frames := 3, cells := 0, slots := 0, locals := 71 } : Room) s m args below meth c H locs 0 0 (MQ below (rg_Ri E B 433 rg_R0 (rg_I M 412 32 (rm_fo M (M.1 431) n v po).2) (fun r => r = (rm_fo M (M.1 431) n v po).1)) args s 0 0 (rg_A B)) (F0 m 164 ls [.int (if rm_cm M (M.1 431) n v = 0 then -1 else rg_ff (rg_lw (rm_cm M (M.1 431) n v)) 8 0), .ref (B + 412)]) := by
                  intro  H locs ls hH hl 
                  refine rg_pI C0 hH (v := if rm_cm M (M.1 431) n v = 0 then -1 else rg_ff (rg_lw (rm_cm M (M.1 431) n v)) 8 0) tyX7 tyX7_ok nmX7 (ci := 7) (k := 32) (o := 412) rfl inT_X7 (by decide) tw_f_X7_155 (by decide) rfl (by decide) rfl rfl rfl rfl dX7_faultOf_164 (fun H locs hH => ?_)
                  replace hH := rg_H_eq rg_II hH
                  refine lv_iload hx hb dX7_faultOf_167 (lv_at hl 0 rfl) ?_
                  refine lv_if_eq (tgt := 175) hx hb dX7_faultOf_169 (by decide) (fun c_169 => ?_) (fun c_169 => ?_)
                  · refine lv_aload_n hx hb dX7_faultOf_175 rfl (lv_at hl 2 rfl) ?_
                    refine lv_aload_n hx hb dX7_faultOf_176 rfl (lv_at hl 2 rfl) ?_
                    refine lv_iload_n hx hb dX7_faultOf_177 rfl (lv_at hl 3 rfl) ?_
                    refine rg_callGi C0 hH (As := [.int (nI v)]) (rest := [.ref (B + 412)]) (o := 412) (ci := 7) (k_X7_lengthFault l E B (rg_I M 412 32 (if rm_cm M (M.1 431) n v = 0 then -1 else rg_ff (rg_lw (rm_cm M (M.1 431) n v)) 8 0)) n v (rm_CI_eq hI (hE _)) ((rm_sl (by omega)).trans hmy) hn6 (by rw [rm_row, rm_iw_e (hE _)]; exact hrw) (by rw [rm_nl_e (hE _)]; exact hv9)) (rg_cw 1 C0.1.2.2.2.2 tw_m_X7_170 tw_i_X7_lengthFault tw_v_X7_lengthFault tw_n_X7 tw_c_X7_lengthFault rfl rfl hd_X7_lengthFault ⟨Nat.le_of_ble_eq_true rfl, Nat.le_of_ble_eq_true rfl⟩) rfl (by decide) rfl (by decide) rfl hl.1 rfl (Nat.le_of_ble_eq_true rfl) dX7_faultOf_178 ⟨Nat.le_of_ble_eq_true rfl, Nat.le_of_ble_eq_true rfl⟩ (fun H locs hH => ?_)
                    refine rg_topi (y := rm_lf M (M.1 431) n v) (by rw [rm_row, rm_lf_e (hE _)]) ?_
                    refine rg_pI C0 hH (v := rm_lf M (M.1 431) n v) tyX7 tyX7_ok nmX7 (ci := 7) (k := 32) (o := 412) rfl inT_X7 (by decide) tw_f_X7_155 (by decide) rfl (by decide) rfl rfl rfl rfl dX7_faultOf_181 (fun H locs hH => ?_)
                    replace hH := rg_H_eq rg_II hH
                    refine lv_aload_n hx hb dX7_faultOf_184 rfl (lv_at hl 2 rfl) ?_
                    refine rg_gI C0 hH (ci := 7) (k := 32) (o := 412) rfl inT_X7 (by decide) tw_f_X7_155 (by decide) rfl (by decide) rfl dX7_faultOf_185 ?_
                    refine rg_topi (y := rm_lf M (M.1 431) n v) (by exact rm_get) ?_
                    refine lv_iconst (v := (-1)) hx hb dX7_faultOf_188 (by decide) ?_
                    refine lv_icmp_eq (tgt := 195) hx hb dX7_faultOf_189 (by decide) (fun c_189 => ?_) (fun c_189 => ?_)
                    · refine lv_aload_n hx hb dX7_faultOf_195 rfl (lv_at hl 2 rfl) ?_
                      refine lv_aload_n hx hb dX7_faultOf_196 rfl (lv_at hl 2 rfl) ?_
                      refine lv_iload_n hx hb dX7_faultOf_197 rfl (lv_at hl 3 rfl) ?_
                      refine rg_callGi C0 hH (As := [.int (nI v)]) (rest := [.ref (B + 412)]) (o := 412) (ci := 7) (k_X7_seatFault l E B (rg_I M 412 32 (rm_lf M (M.1 431) n v)) n v (rm_CI_eq hI (hE _)) ((rm_sl (by omega)).trans hmy) hn6 (by rw [rm_row, rm_iw_e (hE _)]; exact hrw) hv36) (rg_cw 1 C0.1.2.2.2.2 tw_m_X7_173 tw_i_X7_seatFault tw_v_X7_seatFault tw_n_X7 tw_c_X7_seatFault rfl rfl hd_X7_seatFault ⟨Nat.le_of_ble_eq_true rfl, Nat.le_of_ble_eq_true rfl⟩) rfl (by decide) rfl (by decide) rfl hl.1 rfl (Nat.le_of_ble_eq_true rfl) dX7_faultOf_198 ⟨Nat.le_of_ble_eq_true rfl, Nat.le_of_ble_eq_true rfl⟩ (fun H locs hH => ?_)
                      refine rg_topi (y := rg_wst (rg_og (M.1 415) (M.1 431) n) (M.1 420 v)) (by rw [rm_row, rm_ea (c := 415) (hE _) (by omega) (by omega), rm_ea (c := 420) (hE _) (by omega) (by omega)]) ?_
                      refine rg_pI C0 hH (v := rg_wst (rg_og (M.1 415) (M.1 431) n) (M.1 420 v)) tyX7 tyX7_ok nmX7 (ci := 7) (k := 32) (o := 412) rfl inT_X7 (by decide) tw_f_X7_155 (by decide) rfl (by decide) rfl rfl rfl rfl dX7_faultOf_201 (fun H locs hH => ?_)
                      replace hH := rg_H_eq rg_II hH
                      refine lv_aload_n hx hb dX7_faultOf_204 rfl (lv_at hl 2 rfl) ?_
                      refine rg_gI C0 hH (ci := 7) (k := 32) (o := 412) rfl inT_X7 (by decide) tw_f_X7_155 (by decide) rfl (by decide) rfl dX7_faultOf_205 ?_
                      refine rg_topi (y := rg_wst (rg_og (M.1 415) (M.1 431) n) (M.1 420 v)) (by exact rm_get) ?_
                      refine lv_iconst (v := (-1)) hx hb dX7_faultOf_208 (by decide) ?_
                      refine lv_icmp_eq (tgt := 217) hx hb dX7_faultOf_209 (by decide) (fun c_209 => ?_) (fun c_209 => ?_)
                      · refine lv_iconst (v := 0) hx hb dX7_faultOf_217 (by decide) ?_
                        exact rg_retRi C0 hH hr hlocks (by have fo : rm_fo M (M.1 431) n v po = (0, rg_wst (rg_og (M.1 415) (M.1 431) n) (M.1 420 v)) := (by unfold rm_fo; rw [if_neg (show ¬ (¬ rg_sm (M.1 413) (M.1 431) n = rm_mu M v) from fun q => q c_31), if_neg (show ¬ (¬ rg_ff (rm_dm M (M.1 431) n) n 0 = -1) from fun q => q c_49), if_neg (show ¬ (¬ rg_ff (rm_dp M (M.1 431) v) n 0 = -1) from fun q => q c_68), if_neg (show ¬ (0 < v ∧ ¬ po = -1 ∧ M.1 419 (v - 1) = po) from h4), if_neg (show ¬ (0 < v ∧ ¬ rm_jo M (M.1 431) n v = true) from h5), if_neg (show ¬ (¬ rm_cm M (M.1 431) n v = 0) from fun q => q c_169), if_neg (show ¬ (¬ rm_lf M (M.1 431) n v = -1) from fun q => q c_189), if_neg (show ¬ (¬ rg_wst (rg_og (M.1 415) (M.1 431) n) (M.1 420 v) = -1) from fun q => q c_209)]); rw [fo]) (by have fo : rm_fo M (M.1 431) n v po = (0, rg_wst (rg_og (M.1 415) (M.1 431) n) (M.1 420 v)) := (by unfold rm_fo; rw [if_neg (show ¬ (¬ rg_sm (M.1 413) (M.1 431) n = rm_mu M v) from fun q => q c_31), if_neg (show ¬ (¬ rg_ff (rm_dm M (M.1 431) n) n 0 = -1) from fun q => q c_49), if_neg (show ¬ (¬ rg_ff (rm_dp M (M.1 431) v) n 0 = -1) from fun q => q c_68), if_neg (show ¬ (0 < v ∧ ¬ po = -1 ∧ M.1 419 (v - 1) = po) from h4), if_neg (show ¬ (0 < v ∧ ¬ rm_jo M (M.1 431) n v = true) from h5), if_neg (show ¬ (¬ rm_cm M (M.1 431) n v = 0) from fun q => q c_169), if_neg (show ¬ (¬ rm_lf M (M.1 431) n v = -1) from fun q => q c_189), if_neg (show ¬ (¬ rg_wst (rg_og (M.1 415) (M.1 431) n) (M.1 420 v) = -1) from fun q => q c_209)]); rw [fo]) dX7_faultOf_218
                      · refine lv_bipush (v := 8) hx hb dX7_faultOf_212 (by decide) ?_
                        refine lv_goto (tgt := 218) hx hb dX7_faultOf_214 (by decide) ?_
                        exact rg_retRi C0 hH hr hlocks (by have fo : rm_fo M (M.1 431) n v po = (8, rg_wst (rg_og (M.1 415) (M.1 431) n) (M.1 420 v)) := (by unfold rm_fo; rw [if_neg (show ¬ (¬ rg_sm (M.1 413) (M.1 431) n = rm_mu M v) from fun q => q c_31), if_neg (show ¬ (¬ rg_ff (rm_dm M (M.1 431) n) n 0 = -1) from fun q => q c_49), if_neg (show ¬ (¬ rg_ff (rm_dp M (M.1 431) v) n 0 = -1) from fun q => q c_68), if_neg (show ¬ (0 < v ∧ ¬ po = -1 ∧ M.1 419 (v - 1) = po) from h4), if_neg (show ¬ (0 < v ∧ ¬ rm_jo M (M.1 431) n v = true) from h5), if_neg (show ¬ (¬ rm_cm M (M.1 431) n v = 0) from fun q => q c_169), if_neg (show ¬ (¬ rm_lf M (M.1 431) n v = -1) from fun q => q c_189), if_pos (show ¬ rg_wst (rg_og (M.1 415) (M.1 431) n) (M.1 420 v) = -1 from c_209)]); rw [fo]) (by have fo : rm_fo M (M.1 431) n v po = (8, rg_wst (rg_og (M.1 415) (M.1 431) n) (M.1 420 v)) := (by unfold rm_fo; rw [if_neg (show ¬ (¬ rg_sm (M.1 413) (M.1 431) n = rm_mu M v) from fun q => q c_31), if_neg (show ¬ (¬ rg_ff (rm_dm M (M.1 431) n) n 0 = -1) from fun q => q c_49), if_neg (show ¬ (¬ rg_ff (rm_dp M (M.1 431) v) n 0 = -1) from fun q => q c_68), if_neg (show ¬ (0 < v ∧ ¬ po = -1 ∧ M.1 419 (v - 1) = po) from h4), if_neg (show ¬ (0 < v ∧ ¬ rm_jo M (M.1 431) n v = true) from h5), if_neg (show ¬ (¬ rm_cm M (M.1 431) n v = 0) from fun q => q c_169), if_neg (show ¬ (¬ rm_lf M (M.1 431) n v = -1) from fun q => q c_189), if_pos (show ¬ rg_wst (rg_og (M.1 415) (M.1 431) n) (M.1 420 v) = -1 from c_209)]); rw [fo]) dX7_faultOf_218
                    · refine lv_bipush (v := 7) hx hb dX7_faultOf_192 (by decide) ?_
                      exact rg_retRi C0 hH hr hlocks (by have fo : rm_fo M (M.1 431) n v po = (7, rm_lf M (M.1 431) n v) := (by unfold rm_fo; rw [if_neg (show ¬ (¬ rg_sm (M.1 413) (M.1 431) n = rm_mu M v) from fun q => q c_31), if_neg (show ¬ (¬ rg_ff (rm_dm M (M.1 431) n) n 0 = -1) from fun q => q c_49), if_neg (show ¬ (¬ rg_ff (rm_dp M (M.1 431) v) n 0 = -1) from fun q => q c_68), if_neg (show ¬ (0 < v ∧ ¬ po = -1 ∧ M.1 419 (v - 1) = po) from h4), if_neg (show ¬ (0 < v ∧ ¬ rm_jo M (M.1 431) n v = true) from h5), if_neg (show ¬ (¬ rm_cm M (M.1 431) n v = 0) from fun q => q c_169), if_pos (show ¬ rm_lf M (M.1 431) n v = -1 from c_189)]); rw [fo]) (by have fo : rm_fo M (M.1 431) n v po = (7, rm_lf M (M.1 431) n v) := (by unfold rm_fo; rw [if_neg (show ¬ (¬ rg_sm (M.1 413) (M.1 431) n = rm_mu M v) from fun q => q c_31), if_neg (show ¬ (¬ rg_ff (rm_dm M (M.1 431) n) n 0 = -1) from fun q => q c_49), if_neg (show ¬ (¬ rg_ff (rm_dp M (M.1 431) v) n 0 = -1) from fun q => q c_68), if_neg (show ¬ (0 < v ∧ ¬ po = -1 ∧ M.1 419 (v - 1) = po) from h4), if_neg (show ¬ (0 < v ∧ ¬ rm_jo M (M.1 431) n v = true) from h5), if_neg (show ¬ (¬ rm_cm M (M.1 431) n v = 0) from fun q => q c_169), if_pos (show ¬ rm_lf M (M.1 431) n v = -1 from c_189)]); rw [fo]) dX7_faultOf_194
                  · refine lv_bipush (v := 6) hx hb dX7_faultOf_172 (by decide) ?_
                    exact rg_retRi C0 hH hr hlocks (by have fo : rm_fo M (M.1 431) n v po = (6, rg_ff (rg_lw (rm_cm M (M.1 431) n v)) 8 0) := (by unfold rm_fo; rw [if_neg (show ¬ (¬ rg_sm (M.1 413) (M.1 431) n = rm_mu M v) from fun q => q c_31), if_neg (show ¬ (¬ rg_ff (rm_dm M (M.1 431) n) n 0 = -1) from fun q => q c_49), if_neg (show ¬ (¬ rg_ff (rm_dp M (M.1 431) v) n 0 = -1) from fun q => q c_68), if_neg (show ¬ (0 < v ∧ ¬ po = -1 ∧ M.1 419 (v - 1) = po) from h4), if_neg (show ¬ (0 < v ∧ ¬ rm_jo M (M.1 431) n v = true) from h5), if_pos (show ¬ rm_cm M (M.1 431) n v = 0 from c_169)]); rw [fo, if_neg c_169]) (by have fo : rm_fo M (M.1 431) n v po = (6, rg_ff (rg_lw (rm_cm M (M.1 431) n v)) 8 0) := (by unfold rm_fo; rw [if_neg (show ¬ (¬ rg_sm (M.1 413) (M.1 431) n = rm_mu M v) from fun q => q c_31), if_neg (show ¬ (¬ rg_ff (rm_dm M (M.1 431) n) n 0 = -1) from fun q => q c_49), if_neg (show ¬ (¬ rg_ff (rm_dp M (M.1 431) v) n 0 = -1) from fun q => q c_68), if_neg (show ¬ (0 < v ∧ ¬ po = -1 ∧ M.1 419 (v - 1) = po) from h4), if_neg (show ¬ (0 < v ∧ ¬ rm_jo M (M.1 431) n v = true) from h5), if_pos (show ¬ rm_cm M (M.1 431) n v = 0 from c_169)]); rw [fo]) dX7_faultOf_174
                refine lv_if_ne (tgt := 159) hx hb dX7_faultOf_152 (by decide) (fun c_152 => ?_) (fun c_152 => ?_)
                · refine lv_iload hx hb dX7_faultOf_159 (lv_at hl 0 rfl) ?_
                  refine rg_callSGi C0 hH (As := [.int (rm_cm M (M.1 431) n v)]) (rest := [.ref (B + 412)]) (k_X7_lowest l E B (rg_I M 412 32 (nI v - 1)) (rm_cm M (M.1 431) n v) (by exact rm_cml c_152)) (rg_cwS 1 C0.1.2.2.2.2 tw_m_X7_167 tw_s_X7_lowest tw_n_X7 tw_c_X7_lowest rfl rfl hd_X7_lowest ⟨Nat.le_of_ble_eq_true rfl, Nat.le_of_ble_eq_true rfl⟩) rfl hl.1 rfl (Nat.le_of_ble_eq_true rfl) dX7_faultOf_161 ⟨Nat.le_of_ble_eq_true rfl, Nat.le_of_ble_eq_true rfl⟩ (fun H locs hH => ?_)
                  refine rg_topi (y := if rm_cm M (M.1 431) n v = 0 then -1 else rg_ff (rg_lw (rm_cm M (M.1 431) n v)) 8 0) (by rw [if_neg c_152]) ?_
                  exact cut_164 _ _ _ hH (lv_sub hl [0, 1, 2, 3, 4] rfl)
                · refine lv_iconst (v := (-1)) hx hb dX7_faultOf_155 (by decide) ?_
                  refine lv_goto (tgt := 164) hx hb dX7_faultOf_156 (by decide) ?_
                  refine rg_topi (y := if rm_cm M (M.1 431) n v = 0 then -1 else rg_ff (rg_lw (rm_cm M (M.1 431) n v)) 8 0) (by rw [if_pos c_152]) ?_
                  exact cut_164 _ _ _ hH (lv_sub hl [0, 1, 2, 3, 4] rfl)
              refine lv_iconst (v := 1) hx hb dX7_faultOf_123 (by decide) ?_
              refine lv_icmp_le (tgt := 146) hx hb dX7_faultOf_124 (by decide) (fun c_124 => ?_) (fun c_124 => ?_)
              · refine lv_iconst (v := 0) hx hb dX7_faultOf_146 (by decide) ?_
                refine rg_topi (y := rm_cm M (M.1 431) n v) (by rw [rm_cm, if_neg (fun q => absurd ((rm_pos1 (by omega)).mp c_124) (by omega))]) ?_
                exact cut_147 _ _ _ hH (lv_sub hl [0, 1, 2, 3] rfl)
              · have hv2 : 2 ≤ v := by
                  rcases Nat.lt_or_ge v 2 with z | z
                  · exact absurd ((rm_pos1 (by omega)).mpr (by omega)) c_124
                  · exact z
                refine lv_aload_n hx hb dX7_faultOf_127 rfl (lv_at hl 1 rfl) ?_
                refine rg_callGi C0 hH (As := []) (rest := []) (o := 412) (ci := 7) (k_X7_signsOfRow l E B (rg_I M 412 32 (nI v - 1)) n (rm_CI_eq hI (hE _)) ((rm_sl (by omega)).trans hmy) hn6 (by rw [rm_row, rm_iw_e (hE _)]; exact hrw)) (rg_cw 0 C0.1.2.2.2.2 tw_m_X7_140 tw_i_X7_signsOfRow tw_v_X7_signsOfRow tw_n_X7 tw_c_X7_signsOfRow rfl rfl hd_X7_signsOfRow ⟨Nat.le_of_ble_eq_true rfl, Nat.le_of_ble_eq_true rfl⟩) rfl (by decide) rfl (by decide) rfl hl.1 rfl (Nat.le_of_ble_eq_true rfl) dX7_faultOf_128 ⟨Nat.le_of_ble_eq_true rfl, Nat.le_of_ble_eq_true rfl⟩ (fun H locs hH => ?_)
                refine rg_topi (y := rg_og (M.1 415) (M.1 431) n) (by rw [rm_row, rm_ea (hE _) (by omega) (by omega)]) ?_
                refine lv_aload_n hx hb dX7_faultOf_131 rfl (lv_at hl 1 rfl) ?_
                refine lv_iload_n hx hb dX7_faultOf_132 rfl (lv_at hl 2 rfl) ?_
                refine lv_iconst (v := 2) hx hb dX7_faultOf_133 (by decide) ?_
                refine lv_isub hx hb dX7_faultOf_134 ?_
                refine rg_topi (y := nI (v - 2)) (by exact rm_sub hv2) ?_
                refine rg_callGi C0 hH (As := [.int (nI (v - 2))]) (rest := [.int (rg_og (M.1 415) (M.1 431) n)]) (o := 412) (ci := 7) (k_X7_signsOf l E B ((rg_I M 412 32 (nI v - 1))) (v - 2) (rm_CI_eq hI (hE _)) (by rw [rm_nl_e (hE _)]; omega)) (rg_cw 1 C0.1.2.2.2.2 tw_m_X7_143 tw_i_X7_signsOf tw_v_X7_signsOf tw_n_X7 tw_c_X7_signsOf rfl rfl hd_X7_signsOf ⟨Nat.le_of_ble_eq_true rfl, Nat.le_of_ble_eq_true rfl⟩) rfl (by decide) rfl (by decide) rfl hl.1 rfl (Nat.le_of_ble_eq_true rfl) dX7_faultOf_135 ⟨Nat.le_of_ble_eq_true rfl, Nat.le_of_ble_eq_true rfl⟩ (fun H locs hH => ?_)
                refine rg_topi (y := rm_sgn M (v - 2)) (by rw [rm_sgn_e (hE _)]) ?_
                refine lv_iand hx hb dX7_faultOf_138 ?_
                refine lv_sipush (v := 255) hx hb dX7_faultOf_139 (by decide) ?_
                refine lv_iand hx hb dX7_faultOf_142 ?_
                refine lv_goto (tgt := 147) hx hb dX7_faultOf_143 (by decide) ?_
                refine rg_topi (y := rm_cm M (M.1 431) n v) (by rw [rm_cm, if_pos hv2]) ?_
                exact cut_147 _ _ _ hH (lv_sub hl [0, 1, 2, 3] rfl)
            refine lv_if_le (tgt := 122) hx hb dX7_faultOf_109 (by decide) (fun c_109 => ?_) (fun c_109 => ?_)
            · exact cut_122 _ _ _ hH (lv_sub hl [0, 1, 2, 3] rfl) (by exact fun q => absurd ((rm_pos0 (by omega)).mp c_109) (by omega))
            · have hv1 : 1 ≤ v := by
                rcases Nat.eq_zero_or_pos v with z | z
                · exact absurd ((rm_pos0 (by omega)).mpr z) c_109
                · exact z
              refine lv_aload_n hx hb dX7_faultOf_112 rfl (lv_at hl 1 rfl) ?_
              refine lv_iload_n hx hb dX7_faultOf_113 rfl (lv_at hl 2 rfl) ?_
              refine rg_callGi C0 hH (As := [.int (nI v)]) (rest := []) (o := 412) (ci := 7) (k_X7_joins l E B (rg_I M 412 32 (nI v - 1)) n v (rm_CI_eq hI (hE _)) ((rm_sl (by omega)).trans hmy) hn6 (by rw [rm_row, rm_iw_e (hE _)]; exact hrw) (by rw [rm_nl_e (hE _)]; exact hv9) hv1) (rg_cw 1 C0.1.2.2.2.2 tw_m_X7_164 tw_i_X7_joins tw_v_X7_joins tw_n_X7 tw_c_X7_joins rfl rfl hd_X7_joins ⟨Nat.le_of_ble_eq_true rfl, Nat.le_of_ble_eq_true rfl⟩) rfl (by decide) rfl (by decide) rfl hl.1 rfl (Nat.le_of_ble_eq_true rfl) dX7_faultOf_114 ⟨Nat.le_of_ble_eq_true rfl, Nat.le_of_ble_eq_true rfl⟩ (fun H locs hH => ?_)
              refine rg_topi (y := rg_b ((rm_jo M (M.1 431) n v) = true)) (by rw [rm_row, rm_jo_e (hE _)]) ?_
              refine lv_if_ne (tgt := 122) hx hb dX7_faultOf_117 (by decide) (fun c_117 => ?_) (fun c_117 => ?_)
              · exact cut_122 _ _ _ hH (lv_sub hl [0, 1, 2, 3] rfl) (by exact fun q => (rg_b_ne.mp c_117) |> q.2)
              · refine lv_iconst (v := 5) hx hb dX7_faultOf_120 (by decide) ?_
                exact rg_retRi C0 hH hr hlocks (by have fo : rm_fo M (M.1 431) n v po = (5, nI v - 1) := (by unfold rm_fo; rw [if_neg (show ¬ (¬ rg_sm (M.1 413) (M.1 431) n = rm_mu M v) from fun q => q c_31), if_neg (show ¬ (¬ rg_ff (rm_dm M (M.1 431) n) n 0 = -1) from fun q => q c_49), if_neg (show ¬ (¬ rg_ff (rm_dp M (M.1 431) v) n 0 = -1) from fun q => q c_68), if_neg (show ¬ (0 < v ∧ ¬ po = -1 ∧ M.1 419 (v - 1) = po) from h4), if_pos (show 0 < v ∧ ¬ rm_jo M (M.1 431) n v = true from ⟨hv1, fun q => (rg_b_eq.mp c_117) q⟩)]); rw [fo]) (by have fo : rm_fo M (M.1 431) n v po = (5, nI v - 1) := (by unfold rm_fo; rw [if_neg (show ¬ (¬ rg_sm (M.1 413) (M.1 431) n = rm_mu M v) from fun q => q c_31), if_neg (show ¬ (¬ rg_ff (rm_dm M (M.1 431) n) n 0 = -1) from fun q => q c_49), if_neg (show ¬ (¬ rg_ff (rm_dp M (M.1 431) v) n 0 = -1) from fun q => q c_68), if_neg (show ¬ (0 < v ∧ ¬ po = -1 ∧ M.1 419 (v - 1) = po) from h4), if_pos (show 0 < v ∧ ¬ rm_jo M (M.1 431) n v = true from ⟨hv1, fun q => (rg_b_eq.mp c_117) q⟩)]); rw [fo]) dX7_faultOf_121
          refine lv_if_le (tgt := 101) hx hb dX7_faultOf_79 (by decide) (fun c_79 => ?_) (fun c_79 => ?_)
          · exact cut_101 _ _ _ hH (lv_sub hl [0, 1, 2, 3] rfl) (by exact fun q => absurd ((rm_pos0 (by omega)).mp c_79) (by omega))
          · have hv1 : 1 ≤ v := by
              rcases Nat.eq_zero_or_pos v with z | z
              · exact absurd ((rm_pos0 (by omega)).mpr z) c_79
              · exact z
            refine lv_iload_n hx hb dX7_faultOf_82 rfl (lv_at hl 3 rfl) ?_
            refine lv_iconst (v := (-1)) hx hb dX7_faultOf_83 (by decide) ?_
            refine lv_icmp_eq (tgt := 101) hx hb dX7_faultOf_84 (by decide) (fun c_84 => ?_) (fun c_84 => ?_)
            · exact cut_101 _ _ _ hH (lv_sub hl [0, 1, 2, 3] rfl) (by exact fun q => q.2.1 c_84)
            · refine lv_aload_n hx hb dX7_faultOf_87 rfl (lv_at hl 1 rfl) ?_
              refine rg_gR C0 hH (o2 := 419) (ci := 7) (k := 14) (o := 412) rfl rfl inT_X7 (by decide) tw_f_X7_29 (by decide) rfl (by decide) rfl dX7_faultOf_88 ?_
              refine lv_iload_n hx hb dX7_faultOf_91 rfl (lv_at hl 2 rfl) ?_
              refine lv_iconst (v := 1) hx hb dX7_faultOf_92 (by decide) ?_
              refine lv_isub hx hb dX7_faultOf_93 ?_
              refine rg_topi (y := nI (v - 1)) (by exact rm_sub1 hv1) ?_
              refine rg_ialdN C0 hH (o := 419) (j := (v - 1)) (n0 := 36) (by decide) rfl rfl (by omega) dX7_faultOf_94 ?_
              refine rg_topi (y := M.1 419 (v - 1)) (by rw [rm_ea (hE _) (by omega) (by omega)]) ?_
              refine lv_iload_n hx hb dX7_faultOf_95 rfl (lv_at hl 3 rfl) ?_
              refine lv_icmp_ne (tgt := 101) hx hb dX7_faultOf_96 (by decide) (fun c_96 => ?_) (fun c_96 => ?_)
              · exact cut_101 _ _ _ hH (lv_sub hl [0, 1, 2, 3] rfl) (by exact fun q => c_96 q.2.2)
              · refine lv_iconst (v := 4) hx hb dX7_faultOf_99 (by decide) ?_
                exact rg_retRi C0 hH hr hlocks (by have fo : rm_fo M (M.1 431) n v po = (4, po) := (by unfold rm_fo; rw [if_neg (show ¬ (¬ rg_sm (M.1 413) (M.1 431) n = rm_mu M v) from fun q => q c_31), if_neg (show ¬ (¬ rg_ff (rm_dm M (M.1 431) n) n 0 = -1) from fun q => q c_49), if_neg (show ¬ (¬ rg_ff (rm_dp M (M.1 431) v) n 0 = -1) from fun q => q c_68), if_pos (show 0 < v ∧ ¬ po = -1 ∧ M.1 419 (v - 1) = po from ⟨hv1, c_84, c_96⟩)]); rw [fo]) (by have fo : rm_fo M (M.1 431) n v po = (4, po) := (by unfold rm_fo; rw [if_neg (show ¬ (¬ rg_sm (M.1 413) (M.1 431) n = rm_mu M v) from fun q => q c_31), if_neg (show ¬ (¬ rg_ff (rm_dm M (M.1 431) n) n 0 = -1) from fun q => q c_49), if_neg (show ¬ (¬ rg_ff (rm_dp M (M.1 431) v) n 0 = -1) from fun q => q c_68), if_pos (show 0 < v ∧ ¬ po = -1 ∧ M.1 419 (v - 1) = po from ⟨hv1, c_84, c_96⟩)]); rw [fo]) dX7_faultOf_100
        · refine lv_iconst (v := 3) hx hb dX7_faultOf_71 (by decide) ?_
          exact rg_retRi C0 hH hr hlocks (by have fo : rm_fo M (M.1 431) n v po = (3, rg_ff (rm_dp M (M.1 431) v) n 0) := (by unfold rm_fo; rw [if_neg (show ¬ (¬ rg_sm (M.1 413) (M.1 431) n = rm_mu M v) from fun q => q c_31), if_neg (show ¬ (¬ rg_ff (rm_dm M (M.1 431) n) n 0 = -1) from fun q => q c_49), if_pos (show ¬ rg_ff (rm_dp M (M.1 431) v) n 0 = -1 from c_68)]); rw [fo]) (by have fo : rm_fo M (M.1 431) n v po = (3, rg_ff (rm_dp M (M.1 431) v) n 0) := (by unfold rm_fo; rw [if_neg (show ¬ (¬ rg_sm (M.1 413) (M.1 431) n = rm_mu M v) from fun q => q c_31), if_neg (show ¬ (¬ rg_ff (rm_dm M (M.1 431) n) n 0 = -1) from fun q => q c_49), if_pos (show ¬ rg_ff (rm_dp M (M.1 431) v) n 0 = -1 from c_68)]); rw [fo]) dX7_faultOf_72
      · refine lv_iconst (v := 2) hx hb dX7_faultOf_52 (by decide) ?_
        exact rg_retRi C0 hH hr hlocks (by have fo : rm_fo M (M.1 431) n v po = (2, rg_ff (rm_dm M (M.1 431) n) n 0) := (by unfold rm_fo; rw [if_neg (show ¬ (¬ rg_sm (M.1 413) (M.1 431) n = rm_mu M v) from fun q => q c_31), if_pos (show ¬ rg_ff (rm_dm M (M.1 431) n) n 0 = -1 from c_49)]); rw [fo]) (by have fo : rm_fo M (M.1 431) n v po = (2, rg_ff (rm_dm M (M.1 431) n) n 0) := (by unfold rm_fo; rw [if_neg (show ¬ (¬ rg_sm (M.1 413) (M.1 431) n = rm_mu M v) from fun q => q c_31), if_pos (show ¬ rg_ff (rm_dm M (M.1 431) n) n 0 = -1 from c_49)]); rw [fo]) dX7_faultOf_53
    · refine lv_iconst (v := 1) hx hb dX7_faultOf_34 (by decide) ?_
      exact rg_retRi C0 hH hr hlocks (by have fo : rm_fo M (M.1 431) n v po = (1, rg_sm (M.1 413) (M.1 431) n) := (by unfold rm_fo; rw [if_pos (show ¬ rg_sm (M.1 413) (M.1 431) n = rm_mu M v from c_31)]); rw [fo]) (by have fo : rm_fo M (M.1 431) n v po = (1, rg_sm (M.1 413) (M.1 431) n) := (by unfold rm_fo; rw [if_pos (show ¬ rg_sm (M.1 413) (M.1 431) n = rm_mu M v from c_31)]); rw [fo]) dX7_faultOf_35
  refine lv_iload_n hx hb dX7_faultOf_0 rfl (lv_at hl 1 rfl) ?_
  refine lv_iconst (v := 2) hx hb dX7_faultOf_1 (by decide) ?_
  refine lv_irem hx hb dX7_faultOf_2 (by decide) ?_
  refine rg_topi (y := nI v &&& 1) (by exact rm_mod v (by omega)) ?_
  refine lv_if_ne (tgt := 13) hx hb dX7_faultOf_3 (by decide) (fun c_3 => ?_) (fun c_3 => ?_)
  · refine lv_aload_n hx hb dX7_faultOf_13 rfl (lv_at hl 0 rfl) ?_
    refine rg_gI C0 hH (ci := 7) (k := 10) (o := 412) rfl inT_X7 (by decide) tw_f_X7_117 (by decide) rfl (by decide) rfl dX7_faultOf_14 ?_
    refine rg_topi (y := rm_mu M v) (by rw [rm_mu, if_neg c_3]) ?_
    exact cut_17 _ _ _ hH (lv_sub hl [0, 1, 2] rfl)
  · refine lv_aload_n hx hb dX7_faultOf_6 rfl (lv_at hl 0 rfl) ?_
    refine rg_gI C0 hH (ci := 7) (k := 9) (o := 412) rfl inT_X7 (by decide) tw_f_X7_114 (by decide) rfl (by decide) rfl dX7_faultOf_7 ?_
    refine lv_goto (tgt := 17) hx hb dX7_faultOf_10 (by decide) ?_
    refine rg_topi (y := rm_mu M v) (by rw [rm_mu, if_pos c_3]) ?_
    exact cut_17 _ _ _ hH (lv_sub hl [0, 1, 2] rfl)
