set_option maxHeartbeats 4000000 in
set_option maxRecDepth 100000 in
/-- 100 times the fault of a link, and its cause; 0 without -/
theorem k_L_fault (l : Launch) (E : rg_Env) (B : Nat) (M : rg_Mem) (n : Nat) (j : Nat) (sp : Nat) (po : Int32) (hn : 422 ≤ n) (hT : lw_TI M) (hW : lw_WI M) (hj : j < 10) (hsp : M.1 417 0 = nI sp) (hs10 : sp ≤ 10) : Met l yL_fault (rg_w yL_fault cL_fault 11 (some (FieldType.int))) ({ frames := 3, cells := 0, slots := 0, locals := 75 } : Room) (va_Pc [.ref (B + 412), .ref (B + 413), .ref (B + 414), .ref (B + 415), .ref (B + 417), .int (nI j), .int (po)] (rg_Pre E B n rg_R0 M)) (rg_Ri E B n rg_R0 (M) (fun r => r = lw_fl (lw_cs M j sp po))) 0 0 (rg_A B) := by
  refine rg_ofW (by decide +kernel) rfl (Nat.le_of_ble_eq_true rfl) ?_
  intro p e s m args below meth c ls C0 hH hl hr hlocks hnm
  replace hl : lv_has ls 11 [(0, .ref (B + 412)), (1, .ref (B + 413)), (2, .ref (B + 414)), (3, .ref (B + 415)), (4, .ref (B + 417)), (5, .int (nI j)), (6, .int (po))] := hl
  have hx := C0.1.1
  have hb := C0.1.2.1
  generalize hH9 : s.heap = H at hH ⊢
  generalize hL9 : ([] : List Loc) = locs at hH ⊢
  clear hH9 hL9
  refine lv_iconst (v := 0) hx hb dL_fault_0 (by decide) ?_
  refine lv_istore (lv' := [(7, .int (0)), (0, .ref (B + 412)), (1, .ref (B + 413)), (2, .ref (B + 414)), (3, .ref (B + 415)), (4, .ref (B + 417)), (5, .int (nI j)), (6, .int (po))]) hx hb dL_fault_1 hl (by decide) rfl (fun ls hl => ?_)
  refine lv_iconst (v := 0) hx hb dL_fault_3 (by decide) ?_
  refine lv_istore (lv' := [(8, .int (0)), (7, .int (0)), (0, .ref (B + 412)), (1, .ref (B + 413)), (2, .ref (B + 414)), (3, .ref (B + 415)), (4, .ref (B + 417)), (5, .int (nI j)), (6, .int (po))]) hx hb dL_fault_4 hl (by decide) rfl (fun ls hl => ?_)
  have cut_6 : ∀ (fu i : Nat), i ≤ 6 ∧ 6 < i + fu → ∀  (H : Heap) (locs : List Loc) (ls : Array Slot), rg_H E B n rg_R0 M s H locs → lv_has ls 11 [(0, .ref (B + 412)), (1, .ref (B + 413)), (2, .ref (B + 414)), (3, .ref (B + 415)), (4, .ref (B + 417)), (5, .int (nI j)), (6, .int (po)), (7, .int (lw_sm (fun k => lw_nv M (6 * j + k)) i)), (8, .int (nI i))] → W p l e ({ frames := 3, cells := 0, slots := 0, locals := 75 } : Room) s m args below meth c H locs 0 0 (MQ below (rg_Ri E B n rg_R0 (M) (fun r => r = lw_fl (lw_cs M j sp po))) args s 0 0 (rg_A B)) (F0 m 6 ls []) := by
    intro fu
    induction fu with
    | zero =>
      intro i hm
      exact absurd hm (by omega)
    | succ fu ih =>
      intro i hm  H locs ls hH hl 
      refine lv_iload hx hb dL_fault_6 (lv_at hl 8 rfl) ?_
      refine lv_bipush (v := 6) hx hb dL_fault_8 (by decide) ?_
      refine lv_icmp_ge (tgt := 58) hx hb dL_fault_10 (by decide) (fun c_10 => ?_) (fun c_10 => ?_)
      · have q6 : i = 6 := rg_lp_end (n := 6) hm.1 (by omega) c_10
        subst q6
        replace hl : lv_has ls 11 [(0, .ref (B + 412)), (1, .ref (B + 413)), (2, .ref (B + 414)), (3, .ref (B + 415)), (4, .ref (B + 417)), (5, .int (nI j)), (6, .int (po)), (7, .int (lw_sum M j)), (8, .int (nI 6))] := by skip; exact hl
        refine lv_iload hx hb dL_fault_58 (lv_at hl 5 rfl) ?_
        have cut_89 : ∀  (H : Heap) (locs : List Loc) (ls : Array Slot), rg_H E B n rg_R0 M s H locs → lv_has ls 11 [(0, .ref (B + 412)), (1, .ref (B + 413)), (2, .ref (B + 414)), (3, .ref (B + 415)), (4, .ref (B + 417)), (5, .int (nI j)), (6, .int (po)), (7, .int (lw_sum M j)), (8, .int (nI 6))] → W p l e ({ frames := 3, cells := 0, slots := 0, locals := 75 } : Room) s m args below meth c H locs 0 0 (MQ below (rg_Ri E B n rg_R0 (M) (fun r => r = lw_fl (lw_cs M j sp po))) args s 0 0 (rg_A B)) (F0 m 89 ls [.int (lw_lv M j)]) := by
          intro  H locs ls hH hl 
          refine lv_istore (lv' := [(8, .int (lw_lv M j)), (0, .ref (B + 412)), (1, .ref (B + 413)), (2, .ref (B + 414)), (3, .ref (B + 415)), (4, .ref (B + 417)), (5, .int (nI j)), (6, .int (po)), (7, .int (lw_sum M j))]) hx hb dL_fault_89 hl (by decide) rfl (fun ls hl => ?_)
          refine lv_iconst (v := 0) hx hb dL_fault_91 (by decide) ?_
          refine lv_istore (lv' := [(9, .int (0)), (8, .int (lw_lv M j)), (0, .ref (B + 412)), (1, .ref (B + 413)), (2, .ref (B + 414)), (3, .ref (B + 415)), (4, .ref (B + 417)), (5, .int (nI j)), (6, .int (po)), (7, .int (lw_sum M j))]) hx hb dL_fault_92 hl (by decide) rfl (fun ls hl => ?_)
          refine lv_bipush (v := 7) hx hb dL_fault_94 (by decide) ?_
          refine lv_istore (lv' := [(10, .int (7)), (9, .int (0)), (8, .int (lw_lv M j)), (0, .ref (B + 412)), (1, .ref (B + 413)), (2, .ref (B + 414)), (3, .ref (B + 415)), (4, .ref (B + 417)), (5, .int (nI j)), (6, .int (po)), (7, .int (lw_sum M j))]) hx hb dL_fault_96 hl (by decide) rfl (fun ls hl => ?_)
          have cut_98 : ∀ (fu i : Nat), i ≤ 8 ∧ i < fu → ∀  (H : Heap) (locs : List Loc) (ls : Array Slot), rg_H E B n rg_R0 M s H locs → lv_has ls 11 [(0, .ref (B + 412)), (1, .ref (B + 413)), (2, .ref (B + 414)), (3, .ref (B + 415)), (4, .ref (B + 417)), (5, .int (nI j)), (6, .int (po)), (7, .int (lw_sum M j)), (8, .int (lw_lv M j)), (9, .int (lw_f0 (lw_bp (lw_lv M j)) (8 - (i)) (i))), (10, .int (nI i - 1))] → W p l e ({ frames := 3, cells := 0, slots := 0, locals := 75 } : Room) s m args below meth c H locs 0 0 (MQ below (rg_Ri E B n rg_R0 (M) (fun r => r = lw_fl (lw_cs M j sp po))) args s 0 0 (rg_A B)) (F0 m 98 ls []) := by
            intro fu
            induction fu with
            | zero =>
              intro i hm
              exact absurd hm (by omega)
            | succ fu ih =>
              intro i hm  H locs ls hH hl 
              refine lv_iload hx hb dL_fault_98 (lv_at hl 10 rfl) ?_
              refine lv_if_lt (tgt := 129) hx hb dL_fault_100 (by decide) (fun c_100 => ?_) (fun c_100 => ?_)
              · have q0 : i = 0 := (lw_lt0 (t := i) (by omega)).mp c_100; subst q0
                obtain ⟨sv, hs30, hsv⟩ := lw_sum_in hT hW hj
                refine lv_iload hx hb dL_fault_129 (lv_at hl 7 rfl) ?_
                refine lv_aload hx hb dL_fault_131 (lv_at hl 4 rfl) ?_
                refine lv_iconst (v := 1) hx hb dL_fault_133 (by decide) ?_
                refine lv_iload hx hb dL_fault_134 (lv_at hl 5 rfl) ?_
                refine lv_iconst (v := 2) hx hb dL_fault_136 (by decide) ?_
                refine lv_irem hx hb dL_fault_137 (by decide) ?_
                refine rg_topi (y := nI (j % 2)) (by exact pk_rem (a := j) (d := 2) (by omega) (by omega) (by omega)) ?_
                refine lv_iadd hx hb dL_fault_138 ?_
                refine rg_topi (y := nI (1 + (j % 2))) (by exact nI_add (1) (j % 2)) ?_
                refine rg_ialdN C0 hH (o := 417) (j := (1 + (j % 2))) (n0 := 9) (by omega) rfl rfl (by omega) dL_fault_139 ?_
                refine lv_icmp_eq (tgt := 149) hx hb dL_fault_140 (by decide) (fun c_140 => ?_) (fun c_140 => ?_)
                · have h1 : lw_cs M j sp po 1 = -1 := if_pos c_140
                  refine lv_aload_n hx hb dL_fault_149 rfl (lv_at hl 0 rfl) ?_
                  refine lv_aload_n hx hb dL_fault_150 rfl (lv_at hl 2 rfl) ?_
                  refine lv_iload hx hb dL_fault_151 (lv_at hl 5 rfl) ?_
                  refine rg_callSGi C0 hH (As := [.ref (B + 412), .ref (B + 414), .int (nI j)]) (rest := []) (k_L_mixed l E B M n j (by assumption) (by assumption) (by assumption) hj) (rg_cwS 3 C0.1.2.2.2.2 tw_m_L_25 tw_s_L_mixed tw_n_L tw_c_L_mixed rfl rfl hd_L_mixed ⟨Nat.le_of_ble_eq_true rfl, Nat.le_of_ble_eq_true rfl⟩) rfl hl.1 rfl (Nat.le_of_ble_eq_true rfl) dL_fault_153 ⟨Nat.le_of_ble_eq_true rfl, Nat.le_of_ble_eq_true rfl⟩ (fun H locs hH => ?_)
                  refine lv_if_lt (tgt := 171) hx hb dL_fault_156 (by decide) (fun c_156 => ?_) (fun c_156 => ?_)
                  · have h2 : lw_cs M j sp po 2 = -1 := (lw_ff_neg (by omega)).mp c_156
                    refine lv_aload_n hx hb dL_fault_171 rfl (lv_at hl 2 rfl) ?_
                    refine lv_aload hx hb dL_fault_172 (lv_at hl 4 rfl) ?_
                    refine lv_iload hx hb dL_fault_174 (lv_at hl 5 rfl) ?_
                    refine rg_callSGi C0 hH (As := [.ref (B + 414), .ref (B + 417), .int (nI j)]) (rest := []) (k_L_again l E B M n j sp (by assumption) (by assumption) hj (by assumption) (by assumption)) (rg_cwS 3 C0.1.2.2.2.2 tw_m_L_28 tw_s_L_again tw_n_L tw_c_L_again rfl rfl hd_L_again ⟨Nat.le_of_ble_eq_true rfl, Nat.le_of_ble_eq_true rfl⟩) rfl hl.1 rfl (Nat.le_of_ble_eq_true rfl) dL_fault_176 ⟨Nat.le_of_ble_eq_true rfl, Nat.le_of_ble_eq_true rfl⟩ (fun H locs hH => ?_)
                    refine lv_if_lt (tgt := 195) hx hb dL_fault_179 (by decide) (fun c_179 => ?_) (fun c_179 => ?_)
                    · have h3 : lw_cs M j sp po 3 = -1 := (lw_ff_neg (by omega)).mp c_179
                      refine lv_iload hx hb dL_fault_195 (lv_at hl 5 rfl) ?_
                      have cut_225 : ∀  (H : Heap) (locs : List Loc) (ls : Array Slot), rg_H E B n rg_R0 M s H locs → lv_has ls 11 [(0, .ref (B + 412)), (1, .ref (B + 413)), (2, .ref (B + 414)), (3, .ref (B + 415)), (4, .ref (B + 417)), (5, .int (nI j)), (6, .int (po)), (7, .int (lw_sum M j)), (8, .int (lw_lv M j)), (9, .int (lw_f0 (lw_bp (lw_lv M j)) (8 - (0)) (0))), (10, .int (nI 0 - 1))] → (lw_cs M j sp po 4 = -1) → W p l e ({ frames := 3, cells := 0, slots := 0, locals := 75 } : Room) s m args below meth c H locs 0 0 (MQ below (rg_Ri E B n rg_R0 (M) (fun r => r = lw_fl (lw_cs M j sp po))) args s 0 0 (rg_A B)) (F0 m 225 ls []) := by
                        intro  H locs ls hH hl h4
                        refine lv_iload hx hb dL_fault_225 (lv_at hl 5 rfl) ?_
                        have cut_250 : ∀  (H : Heap) (locs : List Loc) (ls : Array Slot), rg_H E B n rg_R0 M s H locs → lv_has ls 11 [(0, .ref (B + 412)), (1, .ref (B + 413)), (2, .ref (B + 414)), (3, .ref (B + 415)), (4, .ref (B + 417)), (5, .int (nI j)), (6, .int (po)), (7, .int (lw_sum M j)), (8, .int (lw_lv M j)), (9, .int (lw_f0 (lw_bp (lw_lv M j)) (8 - (0)) (0))), (10, .int (nI 0 - 1))] → (lw_cs M j sp po 5 = -1) → W p l e ({ frames := 3, cells := 0, slots := 0, locals := 75 } : Room) s m args below meth c H locs 0 0 (MQ below (rg_Ri E B n rg_R0 (M) (fun r => r = lw_fl (lw_cs M j sp po))) args s 0 0 (rg_A B)) (F0 m 250 ls []) := by
                          intro  H locs ls hH hl h5
                          refine lv_iload hx hb dL_fault_250 (lv_at hl 8 rfl) ?_
                          refine lv_if_le (tgt := 262) hx hb dL_fault_252 (by decide) (fun c_252 => ?_) (fun c_252 => ?_)
                          · have h6 : lw_cs M j sp po 6 = -1 := if_pos c_252
                            refine lv_aload_n hx hb dL_fault_262 rfl (lv_at hl 0 rfl) ?_
                            refine lv_aload_n hx hb dL_fault_263 rfl (lv_at hl 2 rfl) ?_
                            refine lv_iload hx hb dL_fault_264 (lv_at hl 5 rfl) ?_
                            refine rg_callSGi C0 hH (As := [.ref (B + 412), .ref (B + 414), .int (nI j)]) (rest := []) (k_L_lengthy l E B M n j (by assumption) (by assumption) (by assumption) hj) (rg_cwS 3 C0.1.2.2.2.2 tw_m_L_35 tw_s_L_lengthy tw_n_L tw_c_L_lengthy rfl rfl hd_L_lengthy ⟨Nat.le_of_ble_eq_true rfl, Nat.le_of_ble_eq_true rfl⟩) rfl hl.1 rfl (Nat.le_of_ble_eq_true rfl) dL_fault_266 ⟨Nat.le_of_ble_eq_true rfl, Nat.le_of_ble_eq_true rfl⟩ (fun H locs hH => ?_)
                            refine lv_istore (lv' := [(10, .int (lw_wr M j)), (0, .ref (B + 412)), (1, .ref (B + 413)), (2, .ref (B + 414)), (3, .ref (B + 415)), (4, .ref (B + 417)), (5, .int (nI j)), (6, .int (po)), (7, .int (lw_sum M j)), (8, .int (lw_lv M j)), (9, .int (lw_f0 (lw_bp (lw_lv M j)) (8 - (0)) (0)))]) hx hb dL_fault_269 hl (by decide) rfl (fun ls hl => ?_)
                            refine lv_iload hx hb dL_fault_271 (lv_at hl 0 rfl) ?_
                            refine lv_if_lt (tgt := 285) hx hb dL_fault_273 (by decide) (fun c_273 => ?_) (fun c_273 => ?_)
                            · have h7 : lw_cs M j sp po 7 = -1 := (lw_neg (lw_wr_in hT hW hj)).mp c_273
                              refine lv_aload_n hx hb dL_fault_285 rfl (lv_at hl 1 rfl) ?_
                              refine lv_aload_n hx hb dL_fault_286 rfl (lv_at hl 3 rfl) ?_
                              refine lv_aload_n hx hb dL_fault_287 rfl (lv_at hl 4 rfl) ?_
                              refine lv_iload hx hb dL_fault_288 (lv_at hl 6 rfl) ?_
                              refine rg_callSGi C0 hH (As := [.ref (B + 412), .ref (B + 414), .ref (B + 415), .int (nI j)]) (rest := []) (k_L_seat l E B M n j (by assumption) (by assumption) (by assumption) hj) (rg_cwS 4 C0.1.2.2.2.2 tw_m_L_38 tw_s_L_seat tw_n_L tw_c_L_seat rfl rfl hd_L_seat ⟨Nat.le_of_ble_eq_true rfl, Nat.le_of_ble_eq_true rfl⟩) rfl hl.1 rfl (Nat.le_of_ble_eq_true rfl) dL_fault_290 ⟨Nat.le_of_ble_eq_true rfl, Nat.le_of_ble_eq_true rfl⟩ (fun H locs hH => ?_)
                              refine lv_if_le (tgt := 311) hx hb dL_fault_293 (by decide) (fun c_293 => ?_) (fun c_293 => ?_)
                              · refine lv_iconst (v := 0) hx hb dL_fault_311 (by decide) ?_
                                exact rg_retRi C0 hH hr hlocks rfl (by have h8 : lw_cs M j sp po 8 = -1 := (lw_wst_in (x := lw_sgn M j) (y := M.1 415 (4 * j + 1))).resolve_right (fun q => by rcases q with q | q <;> rw [q] at c_293 <;> exact absurd c_293 (by decide)); rw [lw_fl, if_neg (fun q => q h1), if_neg (fun q => q h2), if_neg (fun q => q h3), if_neg (fun q => q h4), if_neg (fun q => q h5), if_neg (fun q => q h6), if_neg (fun q => q h7), if_neg (fun q => q h8)]) dL_fault_312
                              · refine lv_sipush (v := 800) hx hb dL_fault_296 (by decide) ?_
                                refine lv_aload_n hx hb dL_fault_299 rfl (lv_at hl 1 rfl) ?_
                                refine lv_aload_n hx hb dL_fault_300 rfl (lv_at hl 3 rfl) ?_
                                refine lv_aload_n hx hb dL_fault_301 rfl (lv_at hl 4 rfl) ?_
                                refine lv_iload hx hb dL_fault_302 (lv_at hl 6 rfl) ?_
                                refine rg_callSGi C0 hH (As := [.ref (B + 412), .ref (B + 414), .ref (B + 415), .int (nI j)]) (rest := [.int (800)]) (k_L_seat l E B M n j (by assumption) (by assumption) (by assumption) hj) (rg_cwS 4 C0.1.2.2.2.2 tw_m_L_38 tw_s_L_seat tw_n_L tw_c_L_seat rfl rfl hd_L_seat ⟨Nat.le_of_ble_eq_true rfl, Nat.le_of_ble_eq_true rfl⟩) rfl hl.1 rfl (Nat.le_of_ble_eq_true rfl) dL_fault_304 ⟨Nat.le_of_ble_eq_true rfl, Nat.le_of_ble_eq_true rfl⟩ (fun H locs hH => ?_)
                                refine lv_iadd hx hb dL_fault_307 ?_
                                refine lv_goto (tgt := 312) hx hb dL_fault_308 (by decide) ?_
                                exact rg_retRi C0 hH hr hlocks rfl (by rw [lw_fl, if_neg (fun q => q h1), if_neg (fun q => q h2), if_neg (fun q => q h3), if_neg (fun q => q h4), if_neg (fun q => q h5), if_neg (fun q => q h6), if_neg (fun q => q h7), if_pos (show ¬ lw_cs M j sp po 8 = -1 from fun q => by rw [show rg_wst (lw_sgn M j) (M.1 415 (4 * j + 1)) = -1 from q] at c_293; exact absurd (show (-1 : Int32) ≤ 0 by decide) c_293)]; exact rfl) dL_fault_312
                            · refine lv_sipush (v := 700) hx hb dL_fault_276 (by decide) ?_
                              refine lv_iload hx hb dL_fault_279 (lv_at hl 0 rfl) ?_
                              refine lv_iadd hx hb dL_fault_281 ?_
                              refine lv_goto (tgt := 312) hx hb dL_fault_282 (by decide) ?_
                              exact rg_retRi C0 hH hr hlocks rfl (by rw [lw_fl, if_neg (fun q => q h1), if_neg (fun q => q h2), if_neg (fun q => q h3), if_neg (fun q => q h4), if_neg (fun q => q h5), if_neg (fun q => q h6), if_pos (show ¬ lw_cs M j sp po 7 = -1 from fun q => c_273 ((lw_neg (lw_wr_in hT hW hj)).mpr q))]; exact rfl) dL_fault_312
                          · refine lv_sipush (v := 600) hx hb dL_fault_255 (by decide) ?_
                            refine lv_iload hx hb dL_fault_258 (lv_at hl 9 rfl) ?_
                            refine lv_iadd hx hb dL_fault_260 ?_
                            exact rg_retRi C0 hH hr hlocks rfl (by rw [lw_fl, if_neg (fun q => q h1), if_neg (fun q => q h2), if_neg (fun q => q h3), if_neg (fun q => q h4), if_neg (fun q => q h5), if_pos (show ¬ lw_cs M j sp po 6 = -1 from fun q => by rw [show lw_cs M j sp po 6 = lw_f0 (lw_bp (lw_lv M j)) 8 0 from if_neg c_252] at q; exact lw_f0_m q)]; exact congrArg _ (if_neg c_252).symm) dL_fault_261
                        refine lv_if_le (tgt := 250) hx hb dL_fault_227 (by decide) (fun c_227 => ?_) (fun c_227 => ?_)
                        · exact cut_250 _ _ _ hH (lv_sub hl [0, 1, 2, 3, 4, 5, 6, 7, 8, 9, 10] rfl) (by exact if_pos (Or.inl ((lw_le0 (t := j) (by omega)).mp c_227)))
                        · have hj1 : 1 ≤ j := by have := lw_no (lw_le0 (t := j) (by omega)) c_227; omega
                          refine lv_aload_n hx hb dL_fault_230 rfl (lv_at hl 0 rfl) ?_
                          refine lv_aload_n hx hb dL_fault_231 rfl (lv_at hl 1 rfl) ?_
                          refine lv_aload_n hx hb dL_fault_232 rfl (lv_at hl 2 rfl) ?_
                          refine lv_iload hx hb dL_fault_233 (lv_at hl 5 rfl) ?_
                          refine rg_callSGi C0 hH (As := [.ref (B + 412), .ref (B + 413), .ref (B + 414), .int (nI j)]) (rest := []) (k_L_calls l E B M n j (by assumption) (by assumption) (by assumption) hj hj1) (rg_cwS 4 C0.1.2.2.2.2 tw_m_L_31 tw_s_L_calls tw_n_L tw_c_L_calls rfl rfl hd_L_calls ⟨Nat.le_of_ble_eq_true rfl, Nat.le_of_ble_eq_true rfl⟩) rfl hl.1 rfl (Nat.le_of_ble_eq_true rfl) dL_fault_235 ⟨Nat.le_of_ble_eq_true rfl, Nat.le_of_ble_eq_true rfl⟩ (fun H locs hH => ?_)
                          refine lv_if_ne (tgt := 250) hx hb dL_fault_238 (by decide) (fun c_238 => ?_) (fun c_238 => ?_)
                          · exact cut_250 _ _ _ hH (lv_sub hl [0, 1, 2, 3, 4, 5, 6, 7, 8, 9, 10] rfl) (by exact if_pos (Or.inr (rg_b_ne.mp c_238)))
                          · refine lv_sipush (v := 500) hx hb dL_fault_241 (by decide) ?_
                            refine lv_iload hx hb dL_fault_244 (lv_at hl 5 rfl) ?_
                            refine lv_iadd hx hb dL_fault_246 ?_
                            refine rg_topi (y := nI (500 + j)) (by exact nI_add (500) (j)) ?_
                            refine lv_iconst (v := 1) hx hb dL_fault_247 (by decide) ?_
                            refine lv_isub hx hb dL_fault_248 ?_
                            refine rg_topi (y := nI ((500 + j) - 1)) (by exact lw_sub1 (by omega)) ?_
                            exact rg_retRi C0 hH hr hlocks rfl (by rw [lw_fl, if_neg (fun q => q h1), if_neg (fun q => q h2), if_neg (fun q => q h3), if_neg (fun q => q h4), if_pos (show ¬ lw_cs M j sp po 5 = -1 from fun q => by rw [show lw_cs M j sp po 5 = nI j - 1 from if_neg (fun z => z.elim (fun y => by omega) (rg_b_eq.mp c_238)), lw_sub1 hj1] at q; exact rg_nIm (by omega) q)]; exact (lw_500 hj1).trans (congrArg _ (if_neg (fun z => z.elim (fun y => by omega) (rg_b_eq.mp c_238))).symm)) dL_fault_249
                      refine lv_if_le (tgt := 225) hx hb dL_fault_197 (by decide) (fun c_197 => ?_) (fun c_197 => ?_)
                      · exact cut_225 _ _ _ hH (lv_sub hl [0, 1, 2, 3, 4, 5, 6, 7, 8, 9, 10] rfl) (by exact if_neg (fun q => by have := (lw_le0 (t := j) (by omega)).mp c_197; omega))
                      · have hj1 : 1 ≤ j := by have := lw_no (lw_le0 (t := j) (by omega)) c_197; omega
                        refine lv_iload hx hb dL_fault_200 (lv_at hl 6 rfl) ?_
                        refine lv_if_lt (tgt := 225) hx hb dL_fault_202 (by decide) (fun c_202 => ?_) (fun c_202 => ?_)
                        · exact cut_225 _ _ _ hH (lv_sub hl [0, 1, 2, 3, 4, 5, 6, 7, 8, 9, 10] rfl) (by exact if_neg (fun q => q.2.1 c_202))
                        · refine lv_aload_n hx hb dL_fault_205 rfl (lv_at hl 3 rfl) ?_
                          refine lv_iconst (v := 4) hx hb dL_fault_206 (by decide) ?_
                          refine lv_iload hx hb dL_fault_207 (lv_at hl 5 rfl) ?_
                          refine lv_imul hx hb dL_fault_209 ?_
                          refine rg_topi (y := nI (4 * j)) (by exact lw_mul (4) (j)) ?_
                          refine lv_iconst (v := 4) hx hb dL_fault_210 (by decide) ?_
                          refine lv_isub hx hb dL_fault_211 ?_
                          refine rg_topi (y := nI ((4 * j) - 4)) (by exact lw_sub (d := 4) (by omega)) ?_
                          refine rg_ialdN C0 hH (o := 415) (j := ((4 * j) - 4)) (n0 := 44) (by omega) rfl rfl (by omega) dL_fault_212 ?_
                          refine lv_iload hx hb dL_fault_213 (lv_at hl 6 rfl) ?_
                          refine lv_icmp_ne (tgt := 225) hx hb dL_fault_215 (by decide) (fun c_215 => ?_) (fun c_215 => ?_)
                          · exact cut_225 _ _ _ hH (lv_sub hl [0, 1, 2, 3, 4, 5, 6, 7, 8, 9, 10] rfl) (by exact if_neg (fun q => c_215 q.2.2))
                          · refine lv_sipush (v := 400) hx hb dL_fault_218 (by decide) ?_
                            refine lv_iload hx hb dL_fault_221 (lv_at hl 6 rfl) ?_
                            refine lv_iadd hx hb dL_fault_223 ?_
                            exact rg_retRi C0 hH hr hlocks rfl (by rw [lw_fl, if_neg (fun q => q h1), if_neg (fun q => q h2), if_neg (fun q => q h3), if_pos (show ¬ lw_cs M j sp po 4 = -1 from fun q => by rw [show lw_cs M j sp po 4 = po from if_pos ⟨hj1, c_202, c_215⟩] at q; rw [q] at c_202; exact c_202 (by decide))]; exact congrArg _ (if_pos ⟨hj1, c_202, c_215⟩).symm) dL_fault_224
                    · refine lv_sipush (v := 300) hx hb dL_fault_182 (by decide) ?_
                      refine lv_aload_n hx hb dL_fault_185 rfl (lv_at hl 2 rfl) ?_
                      refine lv_aload hx hb dL_fault_186 (lv_at hl 4 rfl) ?_
                      refine lv_iload hx hb dL_fault_188 (lv_at hl 5 rfl) ?_
                      refine rg_callSGi C0 hH (As := [.ref (B + 414), .ref (B + 417), .int (nI j)]) (rest := [.int (300)]) (k_L_again l E B M n j sp (by assumption) (by assumption) hj (by assumption) (by assumption)) (rg_cwS 3 C0.1.2.2.2.2 tw_m_L_28 tw_s_L_again tw_n_L tw_c_L_again rfl rfl hd_L_again ⟨Nat.le_of_ble_eq_true rfl, Nat.le_of_ble_eq_true rfl⟩) rfl hl.1 rfl (Nat.le_of_ble_eq_true rfl) dL_fault_190 ⟨Nat.le_of_ble_eq_true rfl, Nat.le_of_ble_eq_true rfl⟩ (fun H locs hH => ?_)
                      refine lv_iadd hx hb dL_fault_193 ?_
                      exact rg_retRi C0 hH hr hlocks rfl (by rw [lw_fl, if_neg (fun q => q h1), if_neg (fun q => q h2), if_pos (show ¬ lw_cs M j sp po 3 = -1 from fun q => c_179 ((lw_ff_neg (by omega)).mpr q))]; exact rfl) dL_fault_194
                  · refine lv_sipush (v := 200) hx hb dL_fault_159 (by decide) ?_
                    refine lv_aload_n hx hb dL_fault_162 rfl (lv_at hl 0 rfl) ?_
                    refine lv_aload_n hx hb dL_fault_163 rfl (lv_at hl 2 rfl) ?_
                    refine lv_iload hx hb dL_fault_164 (lv_at hl 5 rfl) ?_
                    refine rg_callSGi C0 hH (As := [.ref (B + 412), .ref (B + 414), .int (nI j)]) (rest := [.int (200)]) (k_L_mixed l E B M n j (by assumption) (by assumption) (by assumption) hj) (rg_cwS 3 C0.1.2.2.2.2 tw_m_L_25 tw_s_L_mixed tw_n_L tw_c_L_mixed rfl rfl hd_L_mixed ⟨Nat.le_of_ble_eq_true rfl, Nat.le_of_ble_eq_true rfl⟩) rfl hl.1 rfl (Nat.le_of_ble_eq_true rfl) dL_fault_166 ⟨Nat.le_of_ble_eq_true rfl, Nat.le_of_ble_eq_true rfl⟩ (fun H locs hH => ?_)
                    refine lv_iadd hx hb dL_fault_169 ?_
                    exact rg_retRi C0 hH hr hlocks rfl (by rw [lw_fl, if_neg (fun q => q h1), if_pos (show ¬ lw_cs M j sp po 2 = -1 from fun q => c_156 ((lw_ff_neg (by omega)).mpr q))]; exact rfl) dL_fault_170
                · refine lv_bipush (v := 100) hx hb dL_fault_143 (by decide) ?_
                  refine lv_iload hx hb dL_fault_145 (lv_at hl 7 rfl) ?_
                  refine lv_iadd hx hb dL_fault_147 ?_
                  exact rg_retRi C0 hH hr hlocks rfl (by rw [lw_fl, if_pos (show ¬ lw_cs M j sp po 1 = -1 from fun q => by rw [show lw_cs M j sp po 1 = lw_sum M j from if_neg c_140, hsv] at q; exact rg_nIm (by omega) q)]; exact congrArg _ (if_neg c_140).symm) dL_fault_148
              · obtain ⟨y, rfl⟩ : ∃ y, i = y + 1 := ⟨i - 1, by have := lw_no (lw_lt0 (t := i) (by omega)) c_100; omega⟩
                replace hl : lv_has ls 11 [(0, .ref (B + 412)), (1, .ref (B + 413)), (2, .ref (B + 414)), (3, .ref (B + 415)), (4, .ref (B + 417)), (5, .int (nI j)), (6, .int (po)), (7, .int (lw_sum M j)), (8, .int (lw_lv M j)), (9, .int (lw_f0 (lw_bp (lw_lv M j)) (8 - ((y + 1))) ((y + 1)))), (10, .int (nI y))] := by rw [nI_pred] at hl; exact hl
                refine lv_iload hx hb dL_fault_103 (lv_at hl 8 rfl) ?_
                refine lv_iload hx hb dL_fault_105 (lv_at hl 10 rfl) ?_
                refine lv_ishr hx hb dL_fault_107 ?_
                refine lv_iconst (v := 1) hx hb dL_fault_108 (by decide) ?_
                refine lv_iand hx hb dL_fault_109 ?_
                refine lv_iconst (v := 1) hx hb dL_fault_110 (by decide) ?_
                refine lv_icmp_ne (tgt := 119) hx hb dL_fault_111 (by decide) (fun c_111 => ?_) (fun c_111 => ?_)
                · refine lv_iload hx hb dL_fault_119 (lv_at hl 9 rfl) ?_
                  refine lv_istore (lv' := [(9, .int (lw_f0 (lw_bp (lw_lv M j)) (8 - ((y + 1))) ((y + 1)))), (0, .ref (B + 412)), (1, .ref (B + 413)), (2, .ref (B + 414)), (3, .ref (B + 415)), (4, .ref (B + 417)), (5, .int (nI j)), (6, .int (po)), (7, .int (lw_sum M j)), (8, .int (lw_lv M j)), (10, .int (nI y))]) hx hb dL_fault_121 hl (by decide) rfl (fun ls hl => ?_)
                  refine lv_iinc (v := (nI y) - 1) (lv' := [(10, .int ((nI y) - 1)), (9, .int (lw_f0 (lw_bp (lw_lv M j)) (8 - ((y + 1))) ((y + 1)))), (0, .ref (B + 412)), (1, .ref (B + 413)), (2, .ref (B + 414)), (3, .ref (B + 415)), (4, .ref (B + 417)), (5, .int (nI j)), (6, .int (po)), (7, .int (lw_sum M j)), (8, .int (lw_lv M j))]) hx hb dL_fault_123 hl (k := 10) rfl (rg_m1s _) (by decide) rfl (fun ls hl => ?_)
                  refine lv_goto (tgt := 98) hx hb dL_fault_126 (by decide) ?_
                  replace hl : lv_has ls 11 [(10, .int ((nI y) - 1)), (9, .int (lw_f0 (lw_bp (lw_lv M j)) (8 - (y)) (y))), (0, .ref (B + 412)), (1, .ref (B + 413)), (2, .ref (B + 414)), (3, .ref (B + 415)), (4, .ref (B + 417)), (5, .int (nI j)), (6, .int (po)), (7, .int (lw_sum M j)), (8, .int (lw_lv M j))] := by rw [lw_f0_at (show y < 8 by omega), if_neg (by rw [decide_eq_true_eq]; exact c_111)]; exact hl
                  replace hl : lv_has ls 11 [(10, .int (nI y - 1)), (9, .int (lw_f0 (lw_bp (lw_lv M j)) (8 - (y)) (y))), (0, .ref (B + 412)), (1, .ref (B + 413)), (2, .ref (B + 414)), (3, .ref (B + 415)), (4, .ref (B + 417)), (5, .int (nI j)), (6, .int (po)), (7, .int (lw_sum M j)), (8, .int (lw_lv M j))] := by skip; exact hl
                  exact ih y (by omega) _ _ _ hH (lv_sub hl [2, 3, 4, 5, 6, 7, 8, 9, 10, 1, 0] rfl)
                · refine lv_iload hx hb dL_fault_114 (lv_at hl 10 rfl) ?_
                  refine lv_goto (tgt := 121) hx hb dL_fault_116 (by decide) ?_
                  refine lv_istore (lv' := [(9, .int (nI y)), (0, .ref (B + 412)), (1, .ref (B + 413)), (2, .ref (B + 414)), (3, .ref (B + 415)), (4, .ref (B + 417)), (5, .int (nI j)), (6, .int (po)), (7, .int (lw_sum M j)), (8, .int (lw_lv M j)), (10, .int (nI y))]) hx hb dL_fault_121 hl (by decide) rfl (fun ls hl => ?_)
                  refine lv_iinc (v := (nI y) - 1) (lv' := [(10, .int ((nI y) - 1)), (9, .int (nI y)), (0, .ref (B + 412)), (1, .ref (B + 413)), (2, .ref (B + 414)), (3, .ref (B + 415)), (4, .ref (B + 417)), (5, .int (nI j)), (6, .int (po)), (7, .int (lw_sum M j)), (8, .int (lw_lv M j))]) hx hb dL_fault_123 hl (k := 10) rfl (rg_m1s _) (by decide) rfl (fun ls hl => ?_)
                  refine lv_goto (tgt := 98) hx hb dL_fault_126 (by decide) ?_
                  replace hl : lv_has ls 11 [(10, .int ((nI y) - 1)), (9, .int (lw_f0 (lw_bp (lw_lv M j)) (8 - (y)) (y))), (0, .ref (B + 412)), (1, .ref (B + 413)), (2, .ref (B + 414)), (3, .ref (B + 415)), (4, .ref (B + 417)), (5, .int (nI j)), (6, .int (po)), (7, .int (lw_sum M j)), (8, .int (lw_lv M j))] := by rw [lw_f0_at (show y < 8 by omega), if_pos (decide_eq_true c_111)]; exact hl
                  replace hl : lv_has ls 11 [(10, .int (nI y - 1)), (9, .int (lw_f0 (lw_bp (lw_lv M j)) (8 - (y)) (y))), (0, .ref (B + 412)), (1, .ref (B + 413)), (2, .ref (B + 414)), (3, .ref (B + 415)), (4, .ref (B + 417)), (5, .int (nI j)), (6, .int (po)), (7, .int (lw_sum M j)), (8, .int (lw_lv M j))] := by skip; exact hl
                  exact ih y (by omega) _ _ _ hH (lv_sub hl [2, 3, 4, 5, 6, 7, 8, 9, 10, 1, 0] rfl)
          replace hl : lv_has ls 11 [(10, .int (nI 8 - 1)), (9, .int (lw_f0 (lw_bp (lw_lv M j)) (8 - (8)) (8))), (8, .int (lw_lv M j)), (0, .ref (B + 412)), (1, .ref (B + 413)), (2, .ref (B + 414)), (3, .ref (B + 415)), (4, .ref (B + 417)), (5, .int (nI j)), (6, .int (po)), (7, .int (lw_sum M j))] := by rw [show lw_f0 (lw_bp (lw_lv M j)) (8 - (8)) (8) = 0 from rfl, show (nI 8 - 1 : Int32) = 7 from by decide]; exact hl
          exact cut_98 9 8 (by omega) _ _ _ hH (lv_sub hl [3, 4, 5, 6, 7, 8, 9, 10, 2, 1, 0] rfl)
        refine lv_iconst (v := 1) hx hb dL_fault_60 (by decide) ?_
        refine lv_icmp_le (tgt := 88) hx hb dL_fault_61 (by decide) (fun c_61 => ?_) (fun c_61 => ?_)
        · refine lv_iconst (v := 0) hx hb dL_fault_88 (by decide) ?_
          refine rg_topi (y := lw_lv M j) (by exact (if_pos ((lw_nle (a := j) (b := 1) (by omega) (by omega)).mp c_61)).symm) ?_
          exact cut_89 _ _ _ hH (lv_sub hl [0, 1, 2, 3, 4, 5, 6, 7, 8] rfl)
        · have hj1 : 1 < j := by have := lw_no (lw_nle (a := j) (b := 1) (by omega) (by omega)) c_61; omega
          refine lv_aload_n hx hb dL_fault_64 rfl (lv_at hl 0 rfl) ?_
          refine lv_aload_n hx hb dL_fault_65 rfl (lv_at hl 2 rfl) ?_
          refine lv_iload hx hb dL_fault_66 (lv_at hl 5 rfl) ?_
          refine rg_callSGi C0 hH (As := [.ref (B + 412), .ref (B + 414), .int (nI j)]) (rest := []) (k_L_signs l E B M n j (by assumption) (by assumption) (by assumption) hj) (rg_cwS 3 C0.1.2.2.2.2 tw_m_L_19 tw_s_L_signs tw_n_L tw_c_L_signs rfl rfl hd_L_signs ⟨Nat.le_of_ble_eq_true rfl, Nat.le_of_ble_eq_true rfl⟩) rfl hl.1 rfl (Nat.le_of_ble_eq_true rfl) dL_fault_68 ⟨Nat.le_of_ble_eq_true rfl, Nat.le_of_ble_eq_true rfl⟩ (fun H locs hH => ?_)
          refine lv_aload_n hx hb dL_fault_71 rfl (lv_at hl 0 rfl) ?_
          refine lv_aload_n hx hb dL_fault_72 rfl (lv_at hl 2 rfl) ?_
          refine lv_iload hx hb dL_fault_73 (lv_at hl 5 rfl) ?_
          refine lv_iconst (v := 2) hx hb dL_fault_75 (by decide) ?_
          refine lv_isub hx hb dL_fault_76 ?_
          refine rg_topi (y := nI (j - 2)) (by exact lw_sub (d := 2) (by omega)) ?_
          refine rg_callSGi C0 hH (As := [.ref (B + 412), .ref (B + 414), .int (nI (j - 2))]) (rest := [.int (lw_sgn M j)]) (k_L_signs l E B M n (j - 2) (by assumption) (by assumption) (by assumption) (by omega)) (rg_cwS 3 C0.1.2.2.2.2 tw_m_L_19 tw_s_L_signs tw_n_L tw_c_L_signs rfl rfl hd_L_signs ⟨Nat.le_of_ble_eq_true rfl, Nat.le_of_ble_eq_true rfl⟩) rfl hl.1 rfl (Nat.le_of_ble_eq_true rfl) dL_fault_77 ⟨Nat.le_of_ble_eq_true rfl, Nat.le_of_ble_eq_true rfl⟩ (fun H locs hH => ?_)
          refine lv_iand hx hb dL_fault_80 ?_
          refine lv_sipush (v := 255) hx hb dL_fault_81 (by decide) ?_
          refine lv_iand hx hb dL_fault_84 ?_
          refine lv_goto (tgt := 89) hx hb dL_fault_85 (by decide) ?_
          refine rg_topi (y := lw_lv M j) (by exact (if_neg (by omega)).symm) ?_
          exact cut_89 _ _ _ hH (lv_sub hl [0, 1, 2, 3, 4, 5, 6, 7, 8] rfl)
      · have h6 := rg_lp_lt (n := 6) hm.1 (by omega) c_10
        refine lv_iload hx hb dL_fault_13 (lv_at hl 7 rfl) ?_
        refine lv_aload_n hx hb dL_fault_15 rfl (lv_at hl 2 rfl) ?_
        refine lv_bipush (v := 6) hx hb dL_fault_16 (by decide) ?_
        refine lv_iload hx hb dL_fault_18 (lv_at hl 5 rfl) ?_
        refine lv_imul hx hb dL_fault_20 ?_
        refine rg_topi (y := nI (6 * j)) (by exact lw_mul (6) (j)) ?_
        refine lv_iload hx hb dL_fault_21 (lv_at hl 8 rfl) ?_
        refine lv_iadd hx hb dL_fault_23 ?_
        refine rg_topi (y := nI ((6 * j) + i)) (by exact nI_add (6 * j) (i)) ?_
        refine rg_ialdN C0 hH (o := 414) (j := ((6 * j) + i)) (n0 := 64) (by omega) rfl rfl (by omega) dL_fault_24 ?_
        refine rg_topi (y := nI (lw_t M (6 * j + i))) (by exact (hT _ (by omega)).1) ?_
        have ht16 := (hT (6 * j + i) (by omega)).2
        refine lv_if_le (tgt := 48) hx hb dL_fault_25 (by decide) (fun c_25 => ?_) (fun c_25 => ?_)
        · refine lv_iconst (v := 0) hx hb dL_fault_48 (by decide) ?_
          refine lv_iadd hx hb dL_fault_49 ?_
          refine lv_istore (lv' := [(7, .int ((lw_sm (fun k => lw_nv M (6 * j + k)) i) + 0)), (0, .ref (B + 412)), (1, .ref (B + 413)), (2, .ref (B + 414)), (3, .ref (B + 415)), (4, .ref (B + 417)), (5, .int (nI j)), (6, .int (po)), (8, .int (nI i))]) hx hb dL_fault_50 hl (by decide) rfl (fun ls hl => ?_)
          refine lv_iinc (v := nI (i + 1)) (lv' := [(8, .int (nI (i + 1))), (7, .int ((lw_sm (fun k => lw_nv M (6 * j + k)) i) + 0)), (0, .ref (B + 412)), (1, .ref (B + 413)), (2, .ref (B + 414)), (3, .ref (B + 415)), (4, .ref (B + 417)), (5, .int (nI j)), (6, .int (po))]) hx hb dL_fault_52 hl (k := 8) rfl (nI_1 _) (by decide) rfl (fun ls hl => ?_)
          refine lv_goto (tgt := 6) hx hb dL_fault_55 (by decide) ?_
          replace hl : lv_has ls 11 [(8, .int (nI (i + 1))), (7, .int (lw_sm (fun k => lw_nv M (6 * j + k)) (i + 1))), (0, .ref (B + 412)), (1, .ref (B + 413)), (2, .ref (B + 414)), (3, .ref (B + 415)), (4, .ref (B + 417)), (5, .int (nI j)), (6, .int (po))] := by rw [lw_sm_s, lw_nv_0 ((lw_le0 (by omega)).mp c_25)]; exact hl
          exact ih (i + 1) (by omega) _ _ _ hH (lv_sub hl [2, 3, 4, 5, 6, 7, 8, 1, 0] rfl)
        · have ht1 : 1 ≤ lw_t M (6 * j + i) := by have := lw_no (lw_le0 (t := lw_t M (6 * j + i)) (by omega)) c_25; omega
          refine lv_aload_n hx hb dL_fault_28 rfl (lv_at hl 0 rfl) ?_
          refine lv_aload_n hx hb dL_fault_29 rfl (lv_at hl 2 rfl) ?_
          refine lv_bipush (v := 6) hx hb dL_fault_30 (by decide) ?_
          refine lv_iload hx hb dL_fault_32 (lv_at hl 5 rfl) ?_
          refine lv_imul hx hb dL_fault_34 ?_
          refine rg_topi (y := nI (6 * j)) (by exact lw_mul (6) (j)) ?_
          refine lv_iload hx hb dL_fault_35 (lv_at hl 8 rfl) ?_
          refine lv_iadd hx hb dL_fault_37 ?_
          refine rg_topi (y := nI ((6 * j) + i)) (by exact nI_add (6 * j) (i)) ?_
          refine rg_ialdN C0 hH (o := 414) (j := ((6 * j) + i)) (n0 := 64) (by omega) rfl rfl (by omega) dL_fault_38 ?_
          refine rg_topi (y := nI (lw_t M (6 * j + i))) (by exact (hT _ (by omega)).1) ?_
          refine lv_iconst (v := 1) hx hb dL_fault_39 (by decide) ?_
          refine lv_isub hx hb dL_fault_40 ?_
          refine rg_topi (y := nI (lw_t M (6 * j + i) - 1)) (by exact lw_sub1 ht1) ?_
          refine rg_ialdN C0 hH (o := 412) (j := (lw_t M (6 * j + i) - 1)) (n0 := 16) (by omega) rfl rfl (by omega) dL_fault_41 ?_
          refine lv_bipush (v := 15) hx hb dL_fault_42 (by decide) ?_
          refine lv_iand hx hb dL_fault_44 ?_
          refine rg_topi (y := M.1 2 (lw_t M (6 * j + i) - 1)) (by exact (hW _ (by omega)).1) ?_
          refine lv_goto (tgt := 49) hx hb dL_fault_45 (by decide) ?_
          refine lv_iadd hx hb dL_fault_49 ?_
          refine lv_istore (lv' := [(7, .int ((lw_sm (fun k => lw_nv M (6 * j + k)) i) + (M.1 2 (lw_t M (6 * j + i) - 1)))), (0, .ref (B + 412)), (1, .ref (B + 413)), (2, .ref (B + 414)), (3, .ref (B + 415)), (4, .ref (B + 417)), (5, .int (nI j)), (6, .int (po)), (8, .int (nI i))]) hx hb dL_fault_50 hl (by decide) rfl (fun ls hl => ?_)
          refine lv_iinc (v := nI (i + 1)) (lv' := [(8, .int (nI (i + 1))), (7, .int ((lw_sm (fun k => lw_nv M (6 * j + k)) i) + (M.1 2 (lw_t M (6 * j + i) - 1)))), (0, .ref (B + 412)), (1, .ref (B + 413)), (2, .ref (B + 414)), (3, .ref (B + 415)), (4, .ref (B + 417)), (5, .int (nI j)), (6, .int (po))]) hx hb dL_fault_52 hl (k := 8) rfl (nI_1 _) (by decide) rfl (fun ls hl => ?_)
          refine lv_goto (tgt := 6) hx hb dL_fault_55 (by decide) ?_
          replace hl : lv_has ls 11 [(8, .int (nI (i + 1))), (7, .int (lw_sm (fun k => lw_nv M (6 * j + k)) (i + 1))), (0, .ref (B + 412)), (1, .ref (B + 413)), (2, .ref (B + 414)), (3, .ref (B + 415)), (4, .ref (B + 417)), (5, .int (nI j)), (6, .int (po))] := by rw [lw_sm_s, lw_nv_1 ht1]; exact hl
          exact ih (i + 1) (by omega) _ _ _ hH (lv_sub hl [2, 3, 4, 5, 6, 7, 8, 1, 0] rfl)
  replace hl : lv_has ls 11 [(8, .int (nI 0)), (7, .int (lw_sm (fun k => lw_nv M (6 * j + k)) 0)), (0, .ref (B + 412)), (1, .ref (B + 413)), (2, .ref (B + 414)), (3, .ref (B + 415)), (4, .ref (B + 417)), (5, .int (nI j)), (6, .int (po))] := by skip; exact hl
  exact cut_6 7 0 (by omega) _ _ _ hH (lv_sub hl [2, 3, 4, 5, 6, 7, 8, 1, 0] rfl)
