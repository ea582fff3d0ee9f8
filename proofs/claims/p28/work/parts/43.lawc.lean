set_option maxHeartbeats 4000000 in
set_option maxRecDepth 100000 in
/-- the first place whose word was there before -/
theorem k_L_again (l : Launch) (E : rg_Env) (B : Nat) (M : rg_Mem) (n : Nat) (j : Nat) (sp : Nat) (hn : 422 ≤ n) (hT : lw_TI M) (hj : j < 10) (hsp : M.1 417 0 = nI sp) (hs10 : sp ≤ 10) : Met l yL_again (rg_w yL_again cL_again 8 (some (FieldType.int))) ({ frames := 1, cells := 0, slots := 0, locals := 24 } : Room) (va_Pc [.ref (B + 414), .ref (B + 417), .int (nI j)] (rg_Pre E B n rg_R0 M)) (rg_Ri E B n rg_R0 (M) (fun r => r = rg_ff (lw_ap M j sp) 6 0)) 0 0 (rg_A B) := by
  refine rg_ofW (by decide +kernel) rfl (Nat.le_of_ble_eq_true rfl) ?_
  intro p e s m args below meth c ls C0 hH hl hr hlocks hnm
  replace hl : lv_has ls 8 [(0, .ref (B + 414)), (1, .ref (B + 417)), (2, .int (nI j))] := hl
  have hx := C0.1.1
  have hb := C0.1.2.1
  generalize hH9 : s.heap = H at hH ⊢
  generalize hL9 : ([] : List Loc) = locs at hH ⊢
  clear hH9 hL9
  refine lv_iconst (v := (-1)) hx hb dL_again_0 (by decide) ?_
  refine lv_istore_n (lv' := [(3, .int ((-1))), (0, .ref (B + 414)), (1, .ref (B + 417)), (2, .int (nI j))]) hx hb dL_again_1 rfl hl (by decide) rfl (fun ls hl => ?_)
  refine lv_iconst (v := 5) hx hb dL_again_2 (by decide) ?_
  refine lv_istore (lv' := [(4, .int (5)), (3, .int ((-1))), (0, .ref (B + 414)), (1, .ref (B + 417)), (2, .int (nI j))]) hx hb dL_again_3 hl (by decide) rfl (fun ls hl => ?_)
  have cut_5 : ∀ (fu i : Nat), i ≤ 6 ∧ i < fu → ∀  (H : Heap) (locs : List Loc) (ls : Array Slot), rg_H E B n rg_R0 M s H locs → lv_has ls 8 [(0, .ref (B + 414)), (1, .ref (B + 417)), (2, .int (nI j)), (3, .int (rg_ff (lw_ap M j sp) (6 - (i)) (i))), (4, .int (nI i - 1))] → W p l e ({ frames := 1, cells := 0, slots := 0, locals := 24 } : Room) s m args below meth c H locs 0 0 (MQ below (rg_Ri E B n rg_R0 (M) (fun r => r = rg_ff (lw_ap M j sp) 6 0)) args s 0 0 (rg_A B)) (F0 m 5 ls []) := by
    intro fu
    induction fu with
    | zero =>
      intro i hm
      exact absurd hm (by omega)
    | succ fu ih =>
      intro i hm  H locs ls hH hl 
      refine lv_iload hx hb dL_again_5 (lv_at hl 4 rfl) ?_
      refine lv_if_lt (tgt := 137) hx hb dL_again_7 (by decide) (fun c_7 => ?_) (fun c_7 => ?_)
      · refine lv_iload_n hx hb dL_again_137 rfl (lv_at hl 3 rfl) ?_
        exact rg_retRi C0 hH hr hlocks rfl (by have q := (lw_lt0 (t := i) (by omega)).mp c_7; subst q; rfl) dL_again_138
      · obtain ⟨y, rfl⟩ : ∃ y, i = y + 1 := ⟨i - 1, by have := lw_no (lw_lt0 (t := i) (by omega)) c_7; omega⟩
        replace hl : lv_has ls 8 [(0, .ref (B + 414)), (1, .ref (B + 417)), (2, .int (nI j)), (3, .int (rg_ff (lw_ap M j sp) (6 - ((y + 1))) ((y + 1)))), (4, .int (nI y))] := by rw [nI_pred] at hl; exact hl
        refine lv_aload_n hx hb dL_again_10 rfl (lv_at hl 0 rfl) ?_
        refine lv_bipush (v := 6) hx hb dL_again_11 (by decide) ?_
        refine lv_iload_n hx hb dL_again_13 rfl (lv_at hl 2 rfl) ?_
        refine lv_imul hx hb dL_again_14 ?_
        refine rg_topi (y := nI (6 * j)) (by exact lw_mul (6) (j)) ?_
        refine lv_iload hx hb dL_again_15 (lv_at hl 4 rfl) ?_
        refine lv_iadd hx hb dL_again_17 ?_
        refine rg_topi (y := nI ((6 * j) + y)) (by exact nI_add (6 * j) (y)) ?_
        refine rg_ialdN C0 hH (o := 414) (j := ((6 * j) + y)) (n0 := 64) (by omega) rfl rfl (by omega) dL_again_18 ?_
        refine lv_istore (lv' := [(5, .int (M.1 414 (((6 * j) + y)))), (0, .ref (B + 414)), (1, .ref (B + 417)), (2, .int (nI j)), (3, .int (rg_ff (lw_ap M j sp) (6 - ((y + 1))) ((y + 1)))), (4, .int (nI y))]) hx hb dL_again_19 hl (by decide) rfl (fun ls hl => ?_)
        refine lv_iconst (v := 0) hx hb dL_again_21 (by decide) ?_
        refine lv_istore (lv' := [(6, .int (0)), (5, .int (M.1 414 (((6 * j) + y)))), (0, .ref (B + 414)), (1, .ref (B + 417)), (2, .int (nI j)), (3, .int (rg_ff (lw_ap M j sp) (6 - ((y + 1))) ((y + 1)))), (4, .int (nI y))]) hx hb dL_again_22 hl (by decide) rfl (fun ls hl => ?_)
        refine lv_iconst (v := 0) hx hb dL_again_24 (by decide) ?_
        refine lv_istore (lv' := [(7, .int (0)), (6, .int (0)), (5, .int (M.1 414 (((6 * j) + y)))), (0, .ref (B + 414)), (1, .ref (B + 417)), (2, .int (nI j)), (3, .int (rg_ff (lw_ap M j sp) (6 - ((y + 1))) ((y + 1)))), (4, .int (nI y))]) hx hb dL_again_25 hl (by decide) rfl (fun ls hl => ?_)
        have cut_27 : ∀ (fu2 i2 : Nat), i2 ≤ y ∧ y < i2 + fu2 → ∀  (H : Heap) (locs : List Loc) (ls : Array Slot), rg_H E B n rg_R0 M s H locs → lv_has ls 8 [(0, .ref (B + 414)), (1, .ref (B + 417)), (2, .int (nI j)), (3, .int (rg_ff (lw_ap M j sp) (6 - (y + 1)) (y + 1))), (4, .int (nI y)), (5, .int (M.1 414 (6 * j + y))), (6, .int (rg_b (lw_an (lw_hp M j (M.1 414 (6 * j + y))) i2 = true))), (7, .int (nI i2))] → W p l e ({ frames := 1, cells := 0, slots := 0, locals := 24 } : Room) s m args below meth c H locs 0 0 (MQ below (rg_Ri E B n rg_R0 (M) (fun r => r = rg_ff (lw_ap M j sp) 6 0)) args s 0 0 (rg_A B)) (F0 m 27 ls []) := by
          intro fu2
          induction fu2 with
          | zero =>
            intro i2 hm2
            exact absurd hm2 (by omega)
          | succ fu2 ih2 =>
            intro i2 hm2  H locs ls hH hl 
            refine lv_iload hx hb dL_again_27 (lv_at hl 7 rfl) ?_
            refine lv_iload hx hb dL_again_29 (lv_at hl 4 rfl) ?_
            refine lv_icmp_ge (tgt := 66) hx hb dL_again_31 (by decide) (fun c_31 => ?_) (fun c_31 => ?_)
            · have q2 : y = i2 := (rg_lp_end (n := y) hm2.1 (by omega) c_31).symm
              subst q2
              refine lv_iconst (v := 1) hx hb dL_again_66 (by decide) ?_
              refine lv_istore (lv' := [(7, .int (1)), (0, .ref (B + 414)), (1, .ref (B + 417)), (2, .int (nI j)), (3, .int (rg_ff (lw_ap M j sp) (6 - (y + 1)) (y + 1))), (4, .int (nI y)), (5, .int (M.1 414 (6 * j + y))), (6, .int (rg_b (lw_an (lw_hp M j (M.1 414 (6 * j + y))) y = true)))]) hx hb dL_again_67 hl (by decide) rfl (fun ls hl => ?_)
              have cut_69 : ∀ (fu3 d : Nat), (d ≤ sp ∧ d ≤ j) ∧ sp < d + fu3 → ∀  (H : Heap) (locs : List Loc) (ls : Array Slot), rg_H E B n rg_R0 M s H locs → lv_has ls 8 [(0, .ref (B + 414)), (1, .ref (B + 417)), (2, .int (nI j)), (3, .int (rg_ff (lw_ap M j sp) (6 - (y + 1)) (y + 1))), (4, .int (nI y)), (5, .int (M.1 414 (6 * j + y))), (6, .int (rg_b ((lw_an (lw_hp M j (M.1 414 (6 * j + y))) y || lw_an (lw_hq M j (M.1 414 (6 * j + y))) d) = true))), (7, .int (nI (d + 1)))] → W p l e ({ frames := 1, cells := 0, slots := 0, locals := 24 } : Room) s m args below meth c H locs 0 0 (MQ below (rg_Ri E B n rg_R0 (M) (fun r => r = rg_ff (lw_ap M j sp) 6 0)) args s 0 0 (rg_A B)) (F0 m 69 ls []) := by
                intro fu3
                induction fu3 with
                | zero =>
                  intro d hm3
                  exact absurd hm3 (by omega)
                | succ fu3 ih3 =>
                  intro d hm3  H locs ls hH hl 
                  refine lv_iload hx hb dL_again_69 (lv_at hl 7 rfl) ?_
                  refine lv_aload_n hx hb dL_again_71 rfl (lv_at hl 1 rfl) ?_
                  refine lv_iconst (v := 0) hx hb dL_again_72 (by decide) ?_
                  refine rg_topi (y := nI 0) (by exact rfl) ?_
                  refine rg_ialdN C0 hH (o := 417) (j := 0) (n0 := 9) (by omega) rfl rfl (by omega) dL_again_73 ?_
                  refine rg_topi (y := nI sp) (by exact hsp) ?_
                  refine lv_icmp_gt (tgt := 114) hx hb dL_again_74 (by decide) (fun c_74 => ?_) (fun c_74 => ?_)
                  · have hd : min sp j = d := by have := (lw_nlt (by omega) (by omega)).mp c_74; omega
                    refine lv_iload hx hb dL_again_114 (lv_at hl 5 rfl) ?_
                    refine rg_topi (y := nI (lw_t M (6 * j + y))) (by exact (hT _ (by omega)).1) ?_
                    have ht16 := (hT (6 * j + y) (by omega)).2
                    refine lv_if_le (tgt := 129) hx hb dL_again_116 (by decide) (fun c_116 => ?_) (fun c_116 => ?_)
                    · refine lv_iload_n hx hb dL_again_129 rfl (lv_at hl 3 rfl) ?_
                      refine lv_istore_n (lv' := [(3, .int (rg_ff (lw_ap M j sp) (6 - (y + 1)) (y + 1))), (0, .ref (B + 414)), (1, .ref (B + 417)), (2, .int (nI j)), (4, .int (nI y)), (5, .int (M.1 414 (6 * j + y))), (6, .int (rg_b ((lw_an (lw_hp M j (M.1 414 (6 * j + y))) y || lw_an (lw_hq M j (M.1 414 (6 * j + y))) d) = true))), (7, .int (nI (d + 1)))]) hx hb dL_again_130 rfl hl (by decide) rfl (fun ls hl => ?_)
                      refine lv_iinc (v := (nI y) - 1) (lv' := [(4, .int ((nI y) - 1)), (3, .int (rg_ff (lw_ap M j sp) (6 - (y + 1)) (y + 1))), (0, .ref (B + 414)), (1, .ref (B + 417)), (2, .int (nI j)), (5, .int (M.1 414 (6 * j + y))), (6, .int (rg_b ((lw_an (lw_hp M j (M.1 414 (6 * j + y))) y || lw_an (lw_hq M j (M.1 414 (6 * j + y))) d) = true))), (7, .int (nI (d + 1)))]) hx hb dL_again_131 hl (k := 4) rfl (rg_m1s _) (by decide) rfl (fun ls hl => ?_)
                      refine lv_goto (tgt := 5) hx hb dL_again_134 (by decide) ?_
                      replace hl : lv_has ls 8 [(4, .int ((nI y) - 1)), (3, .int (rg_ff (lw_ap M j sp) (6 - (y)) (y))), (0, .ref (B + 414)), (1, .ref (B + 417)), (2, .int (nI j)), (5, .int (M.1 414 (6 * j + y))), (6, .int (rg_b ((lw_an (lw_hp M j (M.1 414 (6 * j + y))) y || lw_an (lw_hq M j (M.1 414 (6 * j + y))) d) = true))), (7, .int (nI (d + 1)))] := by rw [lw_ff_at (show y < 6 by omega), if_neg (by rw [show lw_ap M j sp y = (decide (¬ lw_t M (6 * j + y) = 0) && (lw_an (lw_hp M j (M.1 414 (6 * j + y))) y || lw_an (lw_hq M j (M.1 414 (6 * j + y))) (min sp j))) from rfl, (lw_le0 (by omega)).mp c_116]; simp)]; exact hl
                      replace hl : lv_has ls 8 [(4, .int (nI y - 1)), (3, .int (rg_ff (lw_ap M j sp) (6 - (y)) (y))), (0, .ref (B + 414)), (1, .ref (B + 417)), (2, .int (nI j)), (5, .int (M.1 414 (6 * j + y))), (6, .int (rg_b ((lw_an (lw_hp M j (M.1 414 (6 * j + y))) y || lw_an (lw_hq M j (M.1 414 (6 * j + y))) d) = true))), (7, .int (nI (d + 1)))] := by skip; exact hl
                      exact ih y (by omega) _ _ _ hH (lv_sub hl [2, 3, 4, 1, 0] rfl)
                    · refine lv_iload hx hb dL_again_119 (lv_at hl 6 rfl) ?_
                      refine lv_if_eq (tgt := 129) hx hb dL_again_121 (by decide) (fun c_121 => ?_) (fun c_121 => ?_)
                      · refine lv_iload_n hx hb dL_again_129 rfl (lv_at hl 3 rfl) ?_
                        refine lv_istore_n (lv' := [(3, .int (rg_ff (lw_ap M j sp) (6 - (y + 1)) (y + 1))), (0, .ref (B + 414)), (1, .ref (B + 417)), (2, .int (nI j)), (4, .int (nI y)), (5, .int (M.1 414 (6 * j + y))), (6, .int (rg_b ((lw_an (lw_hp M j (M.1 414 (6 * j + y))) y || lw_an (lw_hq M j (M.1 414 (6 * j + y))) d) = true))), (7, .int (nI (d + 1)))]) hx hb dL_again_130 rfl hl (by decide) rfl (fun ls hl => ?_)
                        refine lv_iinc (v := (nI y) - 1) (lv' := [(4, .int ((nI y) - 1)), (3, .int (rg_ff (lw_ap M j sp) (6 - (y + 1)) (y + 1))), (0, .ref (B + 414)), (1, .ref (B + 417)), (2, .int (nI j)), (5, .int (M.1 414 (6 * j + y))), (6, .int (rg_b ((lw_an (lw_hp M j (M.1 414 (6 * j + y))) y || lw_an (lw_hq M j (M.1 414 (6 * j + y))) d) = true))), (7, .int (nI (d + 1)))]) hx hb dL_again_131 hl (k := 4) rfl (rg_m1s _) (by decide) rfl (fun ls hl => ?_)
                        refine lv_goto (tgt := 5) hx hb dL_again_134 (by decide) ?_
                        replace hl : lv_has ls 8 [(4, .int ((nI y) - 1)), (3, .int (rg_ff (lw_ap M j sp) (6 - (y)) (y))), (0, .ref (B + 414)), (1, .ref (B + 417)), (2, .int (nI j)), (5, .int (M.1 414 (6 * j + y))), (6, .int (rg_b ((lw_an (lw_hp M j (M.1 414 (6 * j + y))) y || lw_an (lw_hq M j (M.1 414 (6 * j + y))) d) = true))), (7, .int (nI (d + 1)))] := by rw [lw_ff_at (show y < 6 by omega), if_neg (by rw [show lw_ap M j sp y = (decide (¬ lw_t M (6 * j + y) = 0) && (lw_an (lw_hp M j (M.1 414 (6 * j + y))) y || lw_an (lw_hq M j (M.1 414 (6 * j + y))) (min sp j))) from rfl, hd, Bool.eq_false_iff.mpr (rg_b_eq.mp c_121)]; simp)]; exact hl
                        replace hl : lv_has ls 8 [(4, .int (nI y - 1)), (3, .int (rg_ff (lw_ap M j sp) (6 - (y)) (y))), (0, .ref (B + 414)), (1, .ref (B + 417)), (2, .int (nI j)), (5, .int (M.1 414 (6 * j + y))), (6, .int (rg_b ((lw_an (lw_hp M j (M.1 414 (6 * j + y))) y || lw_an (lw_hq M j (M.1 414 (6 * j + y))) d) = true))), (7, .int (nI (d + 1)))] := by skip; exact hl
                        exact ih y (by omega) _ _ _ hH (lv_sub hl [2, 3, 4, 1, 0] rfl)
                      · refine lv_iload hx hb dL_again_124 (lv_at hl 4 rfl) ?_
                        refine lv_goto (tgt := 130) hx hb dL_again_126 (by decide) ?_
                        refine lv_istore_n (lv' := [(3, .int (nI y)), (0, .ref (B + 414)), (1, .ref (B + 417)), (2, .int (nI j)), (4, .int (nI y)), (5, .int (M.1 414 (6 * j + y))), (6, .int (rg_b ((lw_an (lw_hp M j (M.1 414 (6 * j + y))) y || lw_an (lw_hq M j (M.1 414 (6 * j + y))) d) = true))), (7, .int (nI (d + 1)))]) hx hb dL_again_130 rfl hl (by decide) rfl (fun ls hl => ?_)
                        refine lv_iinc (v := (nI y) - 1) (lv' := [(4, .int ((nI y) - 1)), (3, .int (nI y)), (0, .ref (B + 414)), (1, .ref (B + 417)), (2, .int (nI j)), (5, .int (M.1 414 (6 * j + y))), (6, .int (rg_b ((lw_an (lw_hp M j (M.1 414 (6 * j + y))) y || lw_an (lw_hq M j (M.1 414 (6 * j + y))) d) = true))), (7, .int (nI (d + 1)))]) hx hb dL_again_131 hl (k := 4) rfl (rg_m1s _) (by decide) rfl (fun ls hl => ?_)
                        refine lv_goto (tgt := 5) hx hb dL_again_134 (by decide) ?_
                        replace hl : lv_has ls 8 [(4, .int ((nI y) - 1)), (3, .int (rg_ff (lw_ap M j sp) (6 - (y)) (y))), (0, .ref (B + 414)), (1, .ref (B + 417)), (2, .int (nI j)), (5, .int (M.1 414 (6 * j + y))), (6, .int (rg_b ((lw_an (lw_hp M j (M.1 414 (6 * j + y))) y || lw_an (lw_hq M j (M.1 414 (6 * j + y))) d) = true))), (7, .int (nI (d + 1)))] := by rw [lw_ff_at (show y < 6 by omega), if_pos (by rw [show lw_ap M j sp y = (decide (¬ lw_t M (6 * j + y) = 0) && (lw_an (lw_hp M j (M.1 414 (6 * j + y))) y || lw_an (lw_hq M j (M.1 414 (6 * j + y))) (min sp j))) from rfl, hd, rg_b_ne.mp c_121, decide_eq_true (lw_no (lw_le0 (by omega)) c_116)]; rfl)]; exact hl
                        replace hl : lv_has ls 8 [(4, .int (nI y - 1)), (3, .int (rg_ff (lw_ap M j sp) (6 - (y)) (y))), (0, .ref (B + 414)), (1, .ref (B + 417)), (2, .int (nI j)), (5, .int (M.1 414 (6 * j + y))), (6, .int (rg_b ((lw_an (lw_hp M j (M.1 414 (6 * j + y))) y || lw_an (lw_hq M j (M.1 414 (6 * j + y))) d) = true))), (7, .int (nI (d + 1)))] := by skip; exact hl
                        exact ih y (by omega) _ _ _ hH (lv_sub hl [2, 3, 4, 1, 0] rfl)
                  · have hds : d < sp := by have := (lw_nle (a := d + 1) (b := sp) (by omega) (by omega)).mp (Int32.not_lt.mp c_74); omega
                    refine lv_iload hx hb dL_again_77 (lv_at hl 7 rfl) ?_
                    refine lv_iload_n hx hb dL_again_79 rfl (lv_at hl 2 rfl) ?_
                    refine lv_icmp_gt (tgt := 114) hx hb dL_again_80 (by decide) (fun c_80 => ?_) (fun c_80 => ?_)
                    · have hd : min sp j = d := by have := (lw_nlt (by omega) (by omega)).mp c_80; omega
                      refine lv_iload hx hb dL_again_114 (lv_at hl 5 rfl) ?_
                      refine rg_topi (y := nI (lw_t M (6 * j + y))) (by exact (hT _ (by omega)).1) ?_
                      have ht16 := (hT (6 * j + y) (by omega)).2
                      refine lv_if_le (tgt := 129) hx hb dL_again_116 (by decide) (fun c_116 => ?_) (fun c_116 => ?_)
                      · refine lv_iload_n hx hb dL_again_129 rfl (lv_at hl 3 rfl) ?_
                        refine lv_istore_n (lv' := [(3, .int (rg_ff (lw_ap M j sp) (6 - (y + 1)) (y + 1))), (0, .ref (B + 414)), (1, .ref (B + 417)), (2, .int (nI j)), (4, .int (nI y)), (5, .int (M.1 414 (6 * j + y))), (6, .int (rg_b ((lw_an (lw_hp M j (M.1 414 (6 * j + y))) y || lw_an (lw_hq M j (M.1 414 (6 * j + y))) d) = true))), (7, .int (nI (d + 1)))]) hx hb dL_again_130 rfl hl (by decide) rfl (fun ls hl => ?_)
                        refine lv_iinc (v := (nI y) - 1) (lv' := [(4, .int ((nI y) - 1)), (3, .int (rg_ff (lw_ap M j sp) (6 - (y + 1)) (y + 1))), (0, .ref (B + 414)), (1, .ref (B + 417)), (2, .int (nI j)), (5, .int (M.1 414 (6 * j + y))), (6, .int (rg_b ((lw_an (lw_hp M j (M.1 414 (6 * j + y))) y || lw_an (lw_hq M j (M.1 414 (6 * j + y))) d) = true))), (7, .int (nI (d + 1)))]) hx hb dL_again_131 hl (k := 4) rfl (rg_m1s _) (by decide) rfl (fun ls hl => ?_)
                        refine lv_goto (tgt := 5) hx hb dL_again_134 (by decide) ?_
                        replace hl : lv_has ls 8 [(4, .int ((nI y) - 1)), (3, .int (rg_ff (lw_ap M j sp) (6 - (y)) (y))), (0, .ref (B + 414)), (1, .ref (B + 417)), (2, .int (nI j)), (5, .int (M.1 414 (6 * j + y))), (6, .int (rg_b ((lw_an (lw_hp M j (M.1 414 (6 * j + y))) y || lw_an (lw_hq M j (M.1 414 (6 * j + y))) d) = true))), (7, .int (nI (d + 1)))] := by rw [lw_ff_at (show y < 6 by omega), if_neg (by rw [show lw_ap M j sp y = (decide (¬ lw_t M (6 * j + y) = 0) && (lw_an (lw_hp M j (M.1 414 (6 * j + y))) y || lw_an (lw_hq M j (M.1 414 (6 * j + y))) (min sp j))) from rfl, (lw_le0 (by omega)).mp c_116]; simp)]; exact hl
                        replace hl : lv_has ls 8 [(4, .int (nI y - 1)), (3, .int (rg_ff (lw_ap M j sp) (6 - (y)) (y))), (0, .ref (B + 414)), (1, .ref (B + 417)), (2, .int (nI j)), (5, .int (M.1 414 (6 * j + y))), (6, .int (rg_b ((lw_an (lw_hp M j (M.1 414 (6 * j + y))) y || lw_an (lw_hq M j (M.1 414 (6 * j + y))) d) = true))), (7, .int (nI (d + 1)))] := by skip; exact hl
                        exact ih y (by omega) _ _ _ hH (lv_sub hl [2, 3, 4, 1, 0] rfl)
                      · refine lv_iload hx hb dL_again_119 (lv_at hl 6 rfl) ?_
                        refine lv_if_eq (tgt := 129) hx hb dL_again_121 (by decide) (fun c_121 => ?_) (fun c_121 => ?_)
                        · refine lv_iload_n hx hb dL_again_129 rfl (lv_at hl 3 rfl) ?_
                          refine lv_istore_n (lv' := [(3, .int (rg_ff (lw_ap M j sp) (6 - (y + 1)) (y + 1))), (0, .ref (B + 414)), (1, .ref (B + 417)), (2, .int (nI j)), (4, .int (nI y)), (5, .int (M.1 414 (6 * j + y))), (6, .int (rg_b ((lw_an (lw_hp M j (M.1 414 (6 * j + y))) y || lw_an (lw_hq M j (M.1 414 (6 * j + y))) d) = true))), (7, .int (nI (d + 1)))]) hx hb dL_again_130 rfl hl (by decide) rfl (fun ls hl => ?_)
                          refine lv_iinc (v := (nI y) - 1) (lv' := [(4, .int ((nI y) - 1)), (3, .int (rg_ff (lw_ap M j sp) (6 - (y + 1)) (y + 1))), (0, .ref (B + 414)), (1, .ref (B + 417)), (2, .int (nI j)), (5, .int (M.1 414 (6 * j + y))), (6, .int (rg_b ((lw_an (lw_hp M j (M.1 414 (6 * j + y))) y || lw_an (lw_hq M j (M.1 414 (6 * j + y))) d) = true))), (7, .int (nI (d + 1)))]) hx hb dL_again_131 hl (k := 4) rfl (rg_m1s _) (by decide) rfl (fun ls hl => ?_)
                          refine lv_goto (tgt := 5) hx hb dL_again_134 (by decide) ?_
                          replace hl : lv_has ls 8 [(4, .int ((nI y) - 1)), (3, .int (rg_ff (lw_ap M j sp) (6 - (y)) (y))), (0, .ref (B + 414)), (1, .ref (B + 417)), (2, .int (nI j)), (5, .int (M.1 414 (6 * j + y))), (6, .int (rg_b ((lw_an (lw_hp M j (M.1 414 (6 * j + y))) y || lw_an (lw_hq M j (M.1 414 (6 * j + y))) d) = true))), (7, .int (nI (d + 1)))] := by rw [lw_ff_at (show y < 6 by omega), if_neg (by rw [show lw_ap M j sp y = (decide (¬ lw_t M (6 * j + y) = 0) && (lw_an (lw_hp M j (M.1 414 (6 * j + y))) y || lw_an (lw_hq M j (M.1 414 (6 * j + y))) (min sp j))) from rfl, hd, Bool.eq_false_iff.mpr (rg_b_eq.mp c_121)]; simp)]; exact hl
                          replace hl : lv_has ls 8 [(4, .int (nI y - 1)), (3, .int (rg_ff (lw_ap M j sp) (6 - (y)) (y))), (0, .ref (B + 414)), (1, .ref (B + 417)), (2, .int (nI j)), (5, .int (M.1 414 (6 * j + y))), (6, .int (rg_b ((lw_an (lw_hp M j (M.1 414 (6 * j + y))) y || lw_an (lw_hq M j (M.1 414 (6 * j + y))) d) = true))), (7, .int (nI (d + 1)))] := by skip; exact hl
                          exact ih y (by omega) _ _ _ hH (lv_sub hl [2, 3, 4, 1, 0] rfl)
                        · refine lv_iload hx hb dL_again_124 (lv_at hl 4 rfl) ?_
                          refine lv_goto (tgt := 130) hx hb dL_again_126 (by decide) ?_
                          refine lv_istore_n (lv' := [(3, .int (nI y)), (0, .ref (B + 414)), (1, .ref (B + 417)), (2, .int (nI j)), (4, .int (nI y)), (5, .int (M.1 414 (6 * j + y))), (6, .int (rg_b ((lw_an (lw_hp M j (M.1 414 (6 * j + y))) y || lw_an (lw_hq M j (M.1 414 (6 * j + y))) d) = true))), (7, .int (nI (d + 1)))]) hx hb dL_again_130 rfl hl (by decide) rfl (fun ls hl => ?_)
                          refine lv_iinc (v := (nI y) - 1) (lv' := [(4, .int ((nI y) - 1)), (3, .int (nI y)), (0, .ref (B + 414)), (1, .ref (B + 417)), (2, .int (nI j)), (5, .int (M.1 414 (6 * j + y))), (6, .int (rg_b ((lw_an (lw_hp M j (M.1 414 (6 * j + y))) y || lw_an (lw_hq M j (M.1 414 (6 * j + y))) d) = true))), (7, .int (nI (d + 1)))]) hx hb dL_again_131 hl (k := 4) rfl (rg_m1s _) (by decide) rfl (fun ls hl => ?_)
                          refine lv_goto (tgt := 5) hx hb dL_again_134 (by decide) ?_
                          replace hl : lv_has ls 8 [(4, .int ((nI y) - 1)), (3, .int (rg_ff (lw_ap M j sp) (6 - (y)) (y))), (0, .ref (B + 414)), (1, .ref (B + 417)), (2, .int (nI j)), (5, .int (M.1 414 (6 * j + y))), (6, .int (rg_b ((lw_an (lw_hp M j (M.1 414 (6 * j + y))) y || lw_an (lw_hq M j (M.1 414 (6 * j + y))) d) = true))), (7, .int (nI (d + 1)))] := by rw [lw_ff_at (show y < 6 by omega), if_pos (by rw [show lw_ap M j sp y = (decide (¬ lw_t M (6 * j + y) = 0) && (lw_an (lw_hp M j (M.1 414 (6 * j + y))) y || lw_an (lw_hq M j (M.1 414 (6 * j + y))) (min sp j))) from rfl, hd, rg_b_ne.mp c_121, decide_eq_true (lw_no (lw_le0 (by omega)) c_116)]; rfl)]; exact hl
                          replace hl : lv_has ls 8 [(4, .int (nI y - 1)), (3, .int (rg_ff (lw_ap M j sp) (6 - (y)) (y))), (0, .ref (B + 414)), (1, .ref (B + 417)), (2, .int (nI j)), (5, .int (M.1 414 (6 * j + y))), (6, .int (rg_b ((lw_an (lw_hp M j (M.1 414 (6 * j + y))) y || lw_an (lw_hq M j (M.1 414 (6 * j + y))) d) = true))), (7, .int (nI (d + 1)))] := by skip; exact hl
                          exact ih y (by omega) _ _ _ hH (lv_sub hl [2, 3, 4, 1, 0] rfl)
                    · have hdj : d + 1 ≤ j := (lw_nle (a := d + 1) (b := j) (by omega) (by omega)).mp (Int32.not_lt.mp c_80)
                      refine lv_iload hx hb dL_again_83 (lv_at hl 6 rfl) ?_
                      refine lv_if_ne (tgt := 101) hx hb dL_again_85 (by decide) (fun c_85 => ?_) (fun c_85 => ?_)
                      · refine lv_iconst (v := 1) hx hb dL_again_101 (by decide) ?_
                        refine lv_goto (tgt := 106) hx hb dL_again_102 (by decide) ?_
                        refine lv_istore (lv' := [(6, .int (1)), (0, .ref (B + 414)), (1, .ref (B + 417)), (2, .int (nI j)), (3, .int (rg_ff (lw_ap M j sp) (6 - (y + 1)) (y + 1))), (4, .int (nI y)), (5, .int (M.1 414 (6 * j + y))), (7, .int (nI (d + 1)))]) hx hb dL_again_106 hl (by decide) rfl (fun ls hl => ?_)
                        refine lv_iinc (v := nI ((d + 1) + 1)) (lv' := [(7, .int (nI ((d + 1) + 1))), (6, .int (1)), (0, .ref (B + 414)), (1, .ref (B + 417)), (2, .int (nI j)), (3, .int (rg_ff (lw_ap M j sp) (6 - (y + 1)) (y + 1))), (4, .int (nI y)), (5, .int (M.1 414 (6 * j + y)))]) hx hb dL_again_108 hl (k := 7) rfl (nI_1 _) (by decide) rfl (fun ls hl => ?_)
                        refine lv_goto (tgt := 69) hx hb dL_again_111 (by decide) ?_
                        replace hl : lv_has ls 8 [(7, .int (nI ((d + 1) + 1))), (6, .int (rg_b ((lw_an (lw_hp M j (M.1 414 (6 * j + y))) y || lw_an (lw_hq M j (M.1 414 (6 * j + y))) (d + 1)) = true))), (0, .ref (B + 414)), (1, .ref (B + 417)), (2, .int (nI j)), (3, .int (rg_ff (lw_ap M j sp) (6 - (y + 1)) (y + 1))), (4, .int (nI y)), (5, .int (M.1 414 (6 * j + y)))] := by rw [← lw_o_a c_85]; exact hl
                        exact ih3 (d + 1) (by omega) _ _ _ hH (lv_sub hl [2, 3, 4, 5, 6, 7, 1, 0] rfl)
                      · refine lv_aload_n hx hb dL_again_88 rfl (lv_at hl 0 rfl) ?_
                        refine lv_iload_n hx hb dL_again_89 rfl (lv_at hl 2 rfl) ?_
                        refine lv_iload hx hb dL_again_90 (lv_at hl 7 rfl) ?_
                        refine lv_isub hx hb dL_again_92 ?_
                        refine rg_topi (y := nI (j - (d + 1))) (by exact lw_sub (d := d + 1) (by omega)) ?_
                        refine lv_iload hx hb dL_again_93 (lv_at hl 5 rfl) ?_
                        refine rg_callSGi C0 hH (As := [.ref (B + 414), .int (nI (j - (d + 1))), .int (M.1 414 (6 * j + y))]) (rest := []) (k_L_has l E B M n (j - (d + 1)) (M.1 414 (6 * j + y)) (by assumption) (by omega)) (rg_cwS 3 C0.1.2.2.2.2 tw_m_L_15 tw_s_L_has tw_n_L tw_c_L_has rfl rfl hd_L_has ⟨Nat.le_of_ble_eq_true rfl, Nat.le_of_ble_eq_true rfl⟩) rfl hl.1 rfl (Nat.le_of_ble_eq_true rfl) dL_again_95 ⟨Nat.le_of_ble_eq_true rfl, Nat.le_of_ble_eq_true rfl⟩ (fun H locs hH => ?_)
                        refine lv_if_eq (tgt := 105) hx hb dL_again_98 (by decide) (fun c_98 => ?_) (fun c_98 => ?_)
                        · refine lv_iconst (v := 0) hx hb dL_again_105 (by decide) ?_
                          refine lv_istore (lv' := [(6, .int (0)), (0, .ref (B + 414)), (1, .ref (B + 417)), (2, .int (nI j)), (3, .int (rg_ff (lw_ap M j sp) (6 - (y + 1)) (y + 1))), (4, .int (nI y)), (5, .int (M.1 414 (6 * j + y))), (7, .int (nI (d + 1)))]) hx hb dL_again_106 hl (by decide) rfl (fun ls hl => ?_)
                          refine lv_iinc (v := nI ((d + 1) + 1)) (lv' := [(7, .int (nI ((d + 1) + 1))), (6, .int (0)), (0, .ref (B + 414)), (1, .ref (B + 417)), (2, .int (nI j)), (3, .int (rg_ff (lw_ap M j sp) (6 - (y + 1)) (y + 1))), (4, .int (nI y)), (5, .int (M.1 414 (6 * j + y)))]) hx hb dL_again_108 hl (k := 7) rfl (nI_1 _) (by decide) rfl (fun ls hl => ?_)
                          refine lv_goto (tgt := 69) hx hb dL_again_111 (by decide) ?_
                          replace hl : lv_has ls 8 [(7, .int (nI ((d + 1) + 1))), (6, .int (rg_b ((lw_an (lw_hp M j (M.1 414 (6 * j + y))) y || lw_an (lw_hq M j (M.1 414 (6 * j + y))) (d + 1)) = true))), (0, .ref (B + 414)), (1, .ref (B + 417)), (2, .int (nI j)), (3, .int (rg_ff (lw_ap M j sp) (6 - (y + 1)) (y + 1))), (4, .int (nI y)), (5, .int (M.1 414 (6 * j + y)))] := by rw [← lw_o_c c_85 (rg_b_eq.mp c_98)]; exact hl
                          exact ih3 (d + 1) (by omega) _ _ _ hH (lv_sub hl [2, 3, 4, 5, 6, 7, 1, 0] rfl)
                        · refine lv_iconst (v := 1) hx hb dL_again_101 (by decide) ?_
                          refine lv_goto (tgt := 106) hx hb dL_again_102 (by decide) ?_
                          refine lv_istore (lv' := [(6, .int (1)), (0, .ref (B + 414)), (1, .ref (B + 417)), (2, .int (nI j)), (3, .int (rg_ff (lw_ap M j sp) (6 - (y + 1)) (y + 1))), (4, .int (nI y)), (5, .int (M.1 414 (6 * j + y))), (7, .int (nI (d + 1)))]) hx hb dL_again_106 hl (by decide) rfl (fun ls hl => ?_)
                          refine lv_iinc (v := nI ((d + 1) + 1)) (lv' := [(7, .int (nI ((d + 1) + 1))), (6, .int (1)), (0, .ref (B + 414)), (1, .ref (B + 417)), (2, .int (nI j)), (3, .int (rg_ff (lw_ap M j sp) (6 - (y + 1)) (y + 1))), (4, .int (nI y)), (5, .int (M.1 414 (6 * j + y)))]) hx hb dL_again_108 hl (k := 7) rfl (nI_1 _) (by decide) rfl (fun ls hl => ?_)
                          refine lv_goto (tgt := 69) hx hb dL_again_111 (by decide) ?_
                          replace hl : lv_has ls 8 [(7, .int (nI ((d + 1) + 1))), (6, .int (rg_b ((lw_an (lw_hp M j (M.1 414 (6 * j + y))) y || lw_an (lw_hq M j (M.1 414 (6 * j + y))) (d + 1)) = true))), (0, .ref (B + 414)), (1, .ref (B + 417)), (2, .int (nI j)), (3, .int (rg_ff (lw_ap M j sp) (6 - (y + 1)) (y + 1))), (4, .int (nI y)), (5, .int (M.1 414 (6 * j + y)))] := by rw [← lw_o_b (p := (lw_hq M j (M.1 414 (6 * j + y)))) (k := d) (rg_b_ne.mp c_98)]; exact hl
                          exact ih3 (d + 1) (by omega) _ _ _ hH (lv_sub hl [2, 3, 4, 5, 6, 7, 1, 0] rfl)
              replace hl : lv_has ls 8 [(7, .int (nI (0 + 1))), (0, .ref (B + 414)), (1, .ref (B + 417)), (2, .int (nI j)), (3, .int (rg_ff (lw_ap M j sp) (6 - (y + 1)) (y + 1))), (4, .int (nI y)), (5, .int (M.1 414 (6 * j + y))), (6, .int (rg_b ((lw_an (lw_hp M j (M.1 414 (6 * j + y))) y || lw_an (lw_hq M j (M.1 414 (6 * j + y))) 0) = true)))] := by rw [← lw_o_00 (p := (lw_hp M j (M.1 414 (6 * j + y)))) (q := (lw_hq M j (M.1 414 (6 * j + y)))) (k := y), show nI (0 + 1) = 1 from rfl]; exact hl
              exact cut_69 (sp + 1) 0 (by omega) _ _ _ hH (lv_sub hl [1, 2, 3, 4, 5, 6, 7, 0] rfl)
            · have hlt2 : i2 < y := rg_lp_lt (n := y) hm2.1 (by omega) c_31
              refine lv_iload hx hb dL_again_34 (lv_at hl 6 rfl) ?_
              refine lv_if_ne (tgt := 53) hx hb dL_again_36 (by decide) (fun c_36 => ?_) (fun c_36 => ?_)
              · refine lv_iconst (v := 1) hx hb dL_again_53 (by decide) ?_
                refine lv_goto (tgt := 58) hx hb dL_again_54 (by decide) ?_
                refine lv_istore (lv' := [(6, .int (1)), (0, .ref (B + 414)), (1, .ref (B + 417)), (2, .int (nI j)), (3, .int (rg_ff (lw_ap M j sp) (6 - (y + 1)) (y + 1))), (4, .int (nI y)), (5, .int (M.1 414 (6 * j + y))), (7, .int (nI i2))]) hx hb dL_again_58 hl (by decide) rfl (fun ls hl => ?_)
                refine lv_iinc (v := nI (i2 + 1)) (lv' := [(7, .int (nI (i2 + 1))), (6, .int (1)), (0, .ref (B + 414)), (1, .ref (B + 417)), (2, .int (nI j)), (3, .int (rg_ff (lw_ap M j sp) (6 - (y + 1)) (y + 1))), (4, .int (nI y)), (5, .int (M.1 414 (6 * j + y)))]) hx hb dL_again_60 hl (k := 7) rfl (nI_1 _) (by decide) rfl (fun ls hl => ?_)
                refine lv_goto (tgt := 27) hx hb dL_again_63 (by decide) ?_
                replace hl : lv_has ls 8 [(7, .int (nI (i2 + 1))), (6, .int (rg_b (lw_an (lw_hp M j (M.1 414 (6 * j + y))) (i2 + 1) = true))), (0, .ref (B + 414)), (1, .ref (B + 417)), (2, .int (nI j)), (3, .int (rg_ff (lw_ap M j sp) (6 - (y + 1)) (y + 1))), (4, .int (nI y)), (5, .int (M.1 414 (6 * j + y)))] := by rw [← lw_an_a c_36]; exact hl
                exact ih2 (i2 + 1) (by omega) _ _ _ hH (lv_sub hl [2, 3, 4, 5, 6, 7, 1, 0] rfl)
              · refine lv_aload_n hx hb dL_again_39 rfl (lv_at hl 0 rfl) ?_
                refine lv_bipush (v := 6) hx hb dL_again_40 (by decide) ?_
                refine lv_iload_n hx hb dL_again_42 rfl (lv_at hl 2 rfl) ?_
                refine lv_imul hx hb dL_again_43 ?_
                refine rg_topi (y := nI (6 * j)) (by exact lw_mul (6) (j)) ?_
                refine lv_iload hx hb dL_again_44 (lv_at hl 7 rfl) ?_
                refine lv_iadd hx hb dL_again_46 ?_
                refine rg_topi (y := nI ((6 * j) + i2)) (by exact nI_add (6 * j) (i2)) ?_
                refine rg_ialdN C0 hH (o := 414) (j := ((6 * j) + i2)) (n0 := 64) (by omega) rfl rfl (by omega) dL_again_47 ?_
                refine lv_iload hx hb dL_again_48 (lv_at hl 5 rfl) ?_
                refine lv_icmp_ne (tgt := 57) hx hb dL_again_50 (by decide) (fun c_50 => ?_) (fun c_50 => ?_)
                · refine lv_iconst (v := 0) hx hb dL_again_57 (by decide) ?_
                  refine lv_istore (lv' := [(6, .int (0)), (0, .ref (B + 414)), (1, .ref (B + 417)), (2, .int (nI j)), (3, .int (rg_ff (lw_ap M j sp) (6 - (y + 1)) (y + 1))), (4, .int (nI y)), (5, .int (M.1 414 (6 * j + y))), (7, .int (nI i2))]) hx hb dL_again_58 hl (by decide) rfl (fun ls hl => ?_)
                  refine lv_iinc (v := nI (i2 + 1)) (lv' := [(7, .int (nI (i2 + 1))), (6, .int (0)), (0, .ref (B + 414)), (1, .ref (B + 417)), (2, .int (nI j)), (3, .int (rg_ff (lw_ap M j sp) (6 - (y + 1)) (y + 1))), (4, .int (nI y)), (5, .int (M.1 414 (6 * j + y)))]) hx hb dL_again_60 hl (k := 7) rfl (nI_1 _) (by decide) rfl (fun ls hl => ?_)
                  refine lv_goto (tgt := 27) hx hb dL_again_63 (by decide) ?_
                  replace hl : lv_has ls 8 [(7, .int (nI (i2 + 1))), (6, .int (rg_b (lw_an (lw_hp M j (M.1 414 (6 * j + y))) (i2 + 1) = true))), (0, .ref (B + 414)), (1, .ref (B + 417)), (2, .int (nI j)), (3, .int (rg_ff (lw_ap M j sp) (6 - (y + 1)) (y + 1))), (4, .int (nI y)), (5, .int (M.1 414 (6 * j + y)))] := by rw [← lw_an_c c_36 (by simpa using c_50)]; exact hl
                  exact ih2 (i2 + 1) (by omega) _ _ _ hH (lv_sub hl [2, 3, 4, 5, 6, 7, 1, 0] rfl)
                · refine lv_iconst (v := 1) hx hb dL_again_53 (by decide) ?_
                  refine lv_goto (tgt := 58) hx hb dL_again_54 (by decide) ?_
                  refine lv_istore (lv' := [(6, .int (1)), (0, .ref (B + 414)), (1, .ref (B + 417)), (2, .int (nI j)), (3, .int (rg_ff (lw_ap M j sp) (6 - (y + 1)) (y + 1))), (4, .int (nI y)), (5, .int (M.1 414 (6 * j + y))), (7, .int (nI i2))]) hx hb dL_again_58 hl (by decide) rfl (fun ls hl => ?_)
                  refine lv_iinc (v := nI (i2 + 1)) (lv' := [(7, .int (nI (i2 + 1))), (6, .int (1)), (0, .ref (B + 414)), (1, .ref (B + 417)), (2, .int (nI j)), (3, .int (rg_ff (lw_ap M j sp) (6 - (y + 1)) (y + 1))), (4, .int (nI y)), (5, .int (M.1 414 (6 * j + y)))]) hx hb dL_again_60 hl (k := 7) rfl (nI_1 _) (by decide) rfl (fun ls hl => ?_)
                  refine lv_goto (tgt := 27) hx hb dL_again_63 (by decide) ?_
                  replace hl : lv_has ls 8 [(7, .int (nI (i2 + 1))), (6, .int (rg_b (lw_an (lw_hp M j (M.1 414 (6 * j + y))) (i2 + 1) = true))), (0, .ref (B + 414)), (1, .ref (B + 417)), (2, .int (nI j)), (3, .int (rg_ff (lw_ap M j sp) (6 - (y + 1)) (y + 1))), (4, .int (nI y)), (5, .int (M.1 414 (6 * j + y)))] := by rw [← lw_an_b (p := (lw_hp M j (M.1 414 (6 * j + y)))) (k := i2) (by simpa using c_50)]; exact hl
                  exact ih2 (i2 + 1) (by omega) _ _ _ hH (lv_sub hl [2, 3, 4, 5, 6, 7, 1, 0] rfl)
        replace hl : lv_has ls 8 [(7, .int (nI 0)), (6, .int (rg_b (lw_an (lw_hp M j (M.1 414 (6 * j + y))) 0 = true))), (5, .int (M.1 414 (((6 * j) + y)))), (0, .ref (B + 414)), (1, .ref (B + 417)), (2, .int (nI j)), (3, .int (rg_ff (lw_ap M j sp) (6 - ((y + 1))) ((y + 1)))), (4, .int (nI y))] := by rw [show rg_b (lw_an (lw_hp M j (M.1 414 (6 * j + y))) 0 = true) = 0 from rfl, show nI 0 = 0 from rfl]; exact hl
        exact cut_27 (y + 1) 0 (by omega) _ _ _ hH (lv_sub hl [3, 4, 5, 6, 7, 2, 1, 0] rfl)
  replace hl : lv_has ls 8 [(4, .int (5)), (3, .int (rg_ff (lw_ap M j sp) (6 - (6)) (6))), (0, .ref (B + 414)), (1, .ref (B + 417)), (2, .int (nI j))] := by rw [show rg_ff (lw_ap M j sp) (6 - (6)) (6) = -1 from rfl]; exact hl
  replace hl : lv_has ls 8 [(4, .int (nI 6 - 1)), (3, .int (rg_ff (lw_ap M j sp) (6 - (6)) (6))), (0, .ref (B + 414)), (1, .ref (B + 417)), (2, .int (nI j))] := by rw [show (nI 6 - 1 : Int32) = 5 from by decide]; exact hl
  exact cut_5 7 6 (by omega) _ _ _ hH (lv_sub hl [2, 3, 4, 1, 0] rfl)

set_option maxHeartbeats 4000000 in
set_option maxRecDepth 100000 in
/-- whether a link joins the one ahead -/
theorem k_L_calls (l : Launch) (E : rg_Env) (B : Nat) (M : rg_Mem) (n : Nat) (j : Nat) (hn : 422 ≤ n) (hT : lw_TI M) (hW : lw_WI M) (hj : j < 10) (h1 : 1 ≤ j) : Met l yL_calls (rg_w yL_calls cL_calls 8 (some (FieldType.boolean))) ({ frames := 1, cells := 0, slots := 0, locals := 24 } : Room) (va_Pc [.ref (B + 412), .ref (B + 413), .ref (B + 414), .int (nI j)] (rg_Pre E B n rg_R0 M)) (rg_Ri E B n rg_R0 (M) (fun r => r = rg_b ((decide (¬ (lw_sgn M j &&& lw_sgn M (j - 1)) &&& 255 ≤ 0) || lw_an (lw_cp M j) 36) = true))) 0 0 (rg_A B) := by
  refine rg_ofW (by decide +kernel) rfl (Nat.le_of_ble_eq_true rfl) ?_
  intro p e s m args below meth c ls C0 hH hl hr hlocks hnm
  replace hl : lv_has ls 8 [(0, .ref (B + 412)), (1, .ref (B + 413)), (2, .ref (B + 414)), (3, .int (nI j))] := hl
  have hx := C0.1.1
  have hb := C0.1.2.1
  generalize hH9 : s.heap = H at hH ⊢
  generalize hL9 : ([] : List Loc) = locs at hH ⊢
  clear hH9 hL9
  refine lv_aload_n hx hb dL_calls_0 rfl (lv_at hl 0 rfl) ?_
  refine lv_aload_n hx hb dL_calls_1 rfl (lv_at hl 2 rfl) ?_
  refine lv_iload_n hx hb dL_calls_2 rfl (lv_at hl 3 rfl) ?_
  refine rg_callSGi C0 hH (As := [.ref (B + 412), .ref (B + 414), .int (nI j)]) (rest := []) (k_L_signs l E B M n j (by assumption) (by assumption) (by assumption) hj) (rg_cwS 3 C0.1.2.2.2.2 tw_m_L_19 tw_s_L_signs tw_n_L tw_c_L_signs rfl rfl hd_L_signs ⟨Nat.le_of_ble_eq_true rfl, Nat.le_of_ble_eq_true rfl⟩) rfl hl.1 rfl (Nat.le_of_ble_eq_true rfl) dL_calls_3 ⟨Nat.le_of_ble_eq_true rfl, Nat.le_of_ble_eq_true rfl⟩ (fun H locs hH => ?_)
  refine lv_aload_n hx hb dL_calls_6 rfl (lv_at hl 0 rfl) ?_
  refine lv_aload_n hx hb dL_calls_7 rfl (lv_at hl 2 rfl) ?_
  refine lv_iload_n hx hb dL_calls_8 rfl (lv_at hl 3 rfl) ?_
  refine lv_iconst (v := 1) hx hb dL_calls_9 (by decide) ?_
  refine lv_isub hx hb dL_calls_10 ?_
  refine rg_topi (y := nI (j - 1)) (by exact lw_sub1 (by omega)) ?_
  refine rg_callSGi C0 hH (As := [.ref (B + 412), .ref (B + 414), .int (nI (j - 1))]) (rest := [.int (lw_sgn M j)]) (k_L_signs l E B M n (j - 1) (by assumption) (by assumption) (by assumption) (by omega)) (rg_cwS 3 C0.1.2.2.2.2 tw_m_L_19 tw_s_L_signs tw_n_L tw_c_L_signs rfl rfl hd_L_signs ⟨Nat.le_of_ble_eq_true rfl, Nat.le_of_ble_eq_true rfl⟩) rfl hl.1 rfl (Nat.le_of_ble_eq_true rfl) dL_calls_11 ⟨Nat.le_of_ble_eq_true rfl, Nat.le_of_ble_eq_true rfl⟩ (fun H locs hH => ?_)
  refine lv_iand hx hb dL_calls_14 ?_
  refine lv_sipush (v := 255) hx hb dL_calls_15 (by decide) ?_
  refine lv_iand hx hb dL_calls_18 ?_
  refine lv_if_le (tgt := 26) hx hb dL_calls_19 (by decide) (fun c_19 => ?_) (fun c_19 => ?_)
  · refine lv_iconst (v := 0) hx hb dL_calls_26 (by decide) ?_
    refine lv_istore (lv' := [(4, .int (0)), (0, .ref (B + 412)), (1, .ref (B + 413)), (2, .ref (B + 414)), (3, .int (nI j))]) hx hb dL_calls_27 hl (by decide) rfl (fun ls hl => ?_)
    refine lv_iconst (v := 0) hx hb dL_calls_29 (by decide) ?_
    refine lv_istore (lv' := [(5, .int (0)), (4, .int (0)), (0, .ref (B + 412)), (1, .ref (B + 413)), (2, .ref (B + 414)), (3, .int (nI j))]) hx hb dL_calls_30 hl (by decide) rfl (fun ls hl => ?_)
    have cut_32 : ∀ (fu i : Nat), i ≤ 36 ∧ 36 < i + fu → ∀  (H : Heap) (locs : List Loc) (ls : Array Slot), rg_H E B n rg_R0 M s H locs → lv_has ls 8 [(0, .ref (B + 412)), (1, .ref (B + 413)), (2, .ref (B + 414)), (3, .int (nI j)), (4, .int (rg_b ((decide (¬ (lw_sgn M j &&& lw_sgn M (j - 1)) &&& 255 ≤ 0) || lw_an (lw_cp M j) i) = true))), (5, .int (nI i))] → W p l e ({ frames := 1, cells := 0, slots := 0, locals := 24 } : Room) s m args below meth c H locs 0 0 (MQ below (rg_Ri E B n rg_R0 (M) (fun r => r = rg_b ((decide (¬ (lw_sgn M j &&& lw_sgn M (j - 1)) &&& 255 ≤ 0) || lw_an (lw_cp M j) 36) = true))) args s 0 0 (rg_A B)) (F0 m 32 ls []) := by
      intro fu
      induction fu with
      | zero =>
        intro i hm
        exact absurd hm (by omega)
      | succ fu ih =>
        intro i hm  H locs ls hH hl 
        refine lv_iload hx hb dL_calls_32 (lv_at hl 5 rfl) ?_
        refine lv_bipush (v := 36) hx hb dL_calls_34 (by decide) ?_
        refine lv_icmp_ge (tgt := 115) hx hb dL_calls_36 (by decide) (fun c_36 => ?_) (fun c_36 => ?_)
        · refine lv_iload hx hb dL_calls_115 (lv_at hl 4 rfl) ?_
          exact rg_retRz C0 hH hr hlocks (by exact rg_b_01) rfl (by rw [rg_lp_end (n := 36) hm.1 (by omega) c_36]) dL_calls_117
        · have h36 := rg_lp_lt (n := 36) hm.1 (by omega) c_36
          refine lv_aload_n hx hb dL_calls_39 rfl (lv_at hl 2 rfl) ?_
          refine lv_bipush (v := 6) hx hb dL_calls_40 (by decide) ?_
          refine lv_iload_n hx hb dL_calls_42 rfl (lv_at hl 3 rfl) ?_
          refine lv_imul hx hb dL_calls_43 ?_
          refine rg_topi (y := nI (6 * j)) (by exact lw_mul (6) (j)) ?_
          refine lv_iload hx hb dL_calls_44 (lv_at hl 5 rfl) ?_
          refine lv_bipush (v := 6) hx hb dL_calls_46 (by decide) ?_
          refine lv_idiv hx hb dL_calls_48 (by decide) ?_
          refine rg_topi (y := nI (i / 6)) (by exact pk_div (a := i) (d := 6) (by omega) (by omega) (by omega)) ?_
          refine lv_iadd hx hb dL_calls_49 ?_
          refine rg_topi (y := nI ((6 * j) + (i / 6))) (by exact nI_add (6 * j) (i / 6)) ?_
          refine rg_ialdN C0 hH (o := 414) (j := ((6 * j) + (i / 6))) (n0 := 64) (by omega) rfl rfl (by omega) dL_calls_50 ?_
          refine rg_topi (y := nI (lw_t M (6 * j + i / 6))) (by exact (hT _ (by omega)).1) ?_
          have hA16 := (hT (6 * j + i / 6) (by omega)).2
          refine lv_iconst (v := 1) hx hb dL_calls_51 (by decide) ?_
          refine lv_isub hx hb dL_calls_52 ?_
          refine lv_istore (lv' := [(6, .int ((nI (lw_t M (6 * j + i / 6))) - 1)), (0, .ref (B + 412)), (1, .ref (B + 413)), (2, .ref (B + 414)), (3, .int (nI j)), (4, .int (rg_b ((decide (¬ (lw_sgn M j &&& lw_sgn M (j - 1)) &&& 255 ≤ 0) || lw_an (lw_cp M j) i) = true))), (5, .int (nI i))]) hx hb dL_calls_53 hl (by decide) rfl (fun ls hl => ?_)
          refine lv_aload_n hx hb dL_calls_55 rfl (lv_at hl 3 rfl) ?_
          refine lv_bipush (v := 6) hx hb dL_calls_56 (by decide) ?_
          refine lv_iload_n hx hb dL_calls_58 rfl (lv_at hl 4 rfl) ?_
          refine lv_imul hx hb dL_calls_59 ?_
          refine rg_topi (y := nI (6 * j)) (by exact lw_mul (6) (j)) ?_
          refine lv_bipush (v := 6) hx hb dL_calls_60 (by decide) ?_
          refine lv_isub hx hb dL_calls_62 ?_
          refine rg_topi (y := nI ((6 * j) - 6)) (by exact lw_sub (d := 6) (by omega)) ?_
          refine lv_iload hx hb dL_calls_63 (lv_at hl 6 rfl) ?_
          refine lv_bipush (v := 6) hx hb dL_calls_65 (by decide) ?_
          refine lv_irem hx hb dL_calls_67 (by decide) ?_
          refine rg_topi (y := nI (i % 6)) (by exact pk_rem (a := i) (d := 6) (by omega) (by omega) (by omega)) ?_
          refine lv_iadd hx hb dL_calls_68 ?_
          refine rg_topi (y := nI (((6 * j) - 6) + (i % 6))) (by exact nI_add ((6 * j) - 6) (i % 6)) ?_
          refine rg_ialdN C0 hH (o := 414) (j := (((6 * j) - 6) + (i % 6))) (n0 := 64) (by omega) rfl rfl (by omega) dL_calls_69 ?_
          refine rg_topi (y := nI (lw_t M (6 * j - 6 + i % 6))) (by exact (hT _ (by omega)).1) ?_
          have hB16 := (hT (6 * j - 6 + i % 6) (by omega)).2
          refine lv_iconst (v := 1) hx hb dL_calls_70 (by decide) ?_
          refine lv_isub hx hb dL_calls_71 ?_
          refine lv_istore (lv' := [(7, .int ((nI (lw_t M (6 * j - 6 + i % 6))) - 1)), (6, .int ((nI (lw_t M (6 * j + i / 6))) - 1)), (0, .ref (B + 412)), (1, .ref (B + 413)), (2, .ref (B + 414)), (3, .int (nI j)), (4, .int (rg_b ((decide (¬ (lw_sgn M j &&& lw_sgn M (j - 1)) &&& 255 ≤ 0) || lw_an (lw_cp M j) i) = true))), (5, .int (nI i))]) hx hb dL_calls_72 hl (by decide) rfl (fun ls hl => ?_)
          refine lv_iload hx hb dL_calls_74 (lv_at hl 6 rfl) ?_
          refine lv_if_ne (tgt := 102) hx hb dL_calls_76 (by decide) (fun c_76 => ?_) (fun c_76 => ?_)
          · refine lv_iconst (v := 1) hx hb dL_calls_102 (by decide) ?_
            refine lv_goto (tgt := 107) hx hb dL_calls_103 (by decide) ?_
            refine lv_istore (lv' := [(4, .int (1)), (7, .int ((nI (lw_t M (6 * j - 6 + i % 6))) - 1)), (6, .int ((nI (lw_t M (6 * j + i / 6))) - 1)), (0, .ref (B + 412)), (1, .ref (B + 413)), (2, .ref (B + 414)), (3, .int (nI j)), (5, .int (nI i))]) hx hb dL_calls_107 hl (by decide) rfl (fun ls hl => ?_)
            refine lv_iinc (v := nI (i + 1)) (lv' := [(5, .int (nI (i + 1))), (4, .int (1)), (7, .int ((nI (lw_t M (6 * j - 6 + i % 6))) - 1)), (6, .int ((nI (lw_t M (6 * j + i / 6))) - 1)), (0, .ref (B + 412)), (1, .ref (B + 413)), (2, .ref (B + 414)), (3, .int (nI j))]) hx hb dL_calls_109 hl (k := 7) rfl (nI_1 _) (by decide) rfl (fun ls hl => ?_)
            refine lv_goto (tgt := 32) hx hb dL_calls_112 (by decide) ?_
            replace hl : lv_has ls 8 [(5, .int (nI (i + 1))), (4, .int (rg_b ((decide (¬ (lw_sgn M j &&& lw_sgn M (j - 1)) &&& 255 ≤ 0) || lw_an (lw_cp M j) (i + 1)) = true))), (7, .int ((nI (lw_t M (6 * j - 6 + i % 6))) - 1)), (6, .int ((nI (lw_t M (6 * j + i / 6))) - 1)), (0, .ref (B + 412)), (1, .ref (B + 413)), (2, .ref (B + 414)), (3, .int (nI j))] := by rw [← lw_o_a c_76]; exact hl
            exact ih (i + 1) (by omega) _ _ _ hH (lv_sub hl [4, 5, 6, 7, 1, 0] rfl)
          · refine lv_iload hx hb dL_calls_79 (lv_at hl 1 rfl) ?_
            refine lv_if_lt (tgt := 106) hx hb dL_calls_81 (by decide) (fun c_81 => ?_) (fun c_81 => ?_)
            · refine lv_iconst (v := 0) hx hb dL_calls_106 (by decide) ?_
              refine lv_istore (lv' := [(4, .int (0)), (7, .int ((nI (lw_t M (6 * j - 6 + i % 6))) - 1)), (6, .int ((nI (lw_t M (6 * j + i / 6))) - 1)), (0, .ref (B + 412)), (1, .ref (B + 413)), (2, .ref (B + 414)), (3, .int (nI j)), (5, .int (nI i))]) hx hb dL_calls_107 hl (by decide) rfl (fun ls hl => ?_)
              refine lv_iinc (v := nI (i + 1)) (lv' := [(5, .int (nI (i + 1))), (4, .int (0)), (7, .int ((nI (lw_t M (6 * j - 6 + i % 6))) - 1)), (6, .int ((nI (lw_t M (6 * j + i / 6))) - 1)), (0, .ref (B + 412)), (1, .ref (B + 413)), (2, .ref (B + 414)), (3, .int (nI j))]) hx hb dL_calls_109 hl (k := 7) rfl (nI_1 _) (by decide) rfl (fun ls hl => ?_)
              refine lv_goto (tgt := 32) hx hb dL_calls_112 (by decide) ?_
              replace hl : lv_has ls 8 [(5, .int (nI (i + 1))), (4, .int (rg_b ((decide (¬ (lw_sgn M j &&& lw_sgn M (j - 1)) &&& 255 ≤ 0) || lw_an (lw_cp M j) (i + 1)) = true))), (7, .int ((nI (lw_t M (6 * j - 6 + i % 6))) - 1)), (6, .int ((nI (lw_t M (6 * j + i / 6))) - 1)), (0, .ref (B + 412)), (1, .ref (B + 413)), (2, .ref (B + 414)), (3, .int (nI j))] := by rw [← lw_o_c c_76 (by rw [show lw_cp M j i = (decide (¬ lw_t M (6 * j + i / 6) = 0) && _) from rfl, (lw_lt0 (by omega)).mp c_81]; simp)]; exact hl
              exact ih (i + 1) (by omega) _ _ _ hH (lv_sub hl [4, 5, 6, 7, 1, 0] rfl)
            · refine lv_iload hx hb dL_calls_84 (lv_at hl 0 rfl) ?_
              refine lv_if_lt (tgt := 106) hx hb dL_calls_86 (by decide) (fun c_86 => ?_) (fun c_86 => ?_)
              · refine lv_iconst (v := 0) hx hb dL_calls_106 (by decide) ?_
                refine lv_istore (lv' := [(4, .int (0)), (7, .int ((nI (lw_t M (6 * j - 6 + i % 6))) - 1)), (6, .int ((nI (lw_t M (6 * j + i / 6))) - 1)), (0, .ref (B + 412)), (1, .ref (B + 413)), (2, .ref (B + 414)), (3, .int (nI j)), (5, .int (nI i))]) hx hb dL_calls_107 hl (by decide) rfl (fun ls hl => ?_)
                refine lv_iinc (v := nI (i + 1)) (lv' := [(5, .int (nI (i + 1))), (4, .int (0)), (7, .int ((nI (lw_t M (6 * j - 6 + i % 6))) - 1)), (6, .int ((nI (lw_t M (6 * j + i / 6))) - 1)), (0, .ref (B + 412)), (1, .ref (B + 413)), (2, .ref (B + 414)), (3, .int (nI j))]) hx hb dL_calls_109 hl (k := 7) rfl (nI_1 _) (by decide) rfl (fun ls hl => ?_)
                refine lv_goto (tgt := 32) hx hb dL_calls_112 (by decide) ?_
                replace hl : lv_has ls 8 [(5, .int (nI (i + 1))), (4, .int (rg_b ((decide (¬ (lw_sgn M j &&& lw_sgn M (j - 1)) &&& 255 ≤ 0) || lw_an (lw_cp M j) (i + 1)) = true))), (7, .int ((nI (lw_t M (6 * j - 6 + i % 6))) - 1)), (6, .int ((nI (lw_t M (6 * j + i / 6))) - 1)), (0, .ref (B + 412)), (1, .ref (B + 413)), (2, .ref (B + 414)), (3, .int (nI j))] := by rw [← lw_o_c c_76 (by rw [show lw_cp M j i = (_ && (decide (¬ lw_t M (6 * j - 6 + i % 6) = 0) && _)) from rfl, (lw_lt0 (by omega)).mp c_86]; simp)]; exact hl
                exact ih (i + 1) (by omega) _ _ _ hH (lv_sub hl [4, 5, 6, 7, 1, 0] rfl)
              · have hA1 : 1 ≤ lw_t M (6 * j + i / 6) := by have := lw_no (lw_lt0 (t := lw_t M (6 * j + i / 6)) (by omega)) c_81; omega
                have hB1 : 1 ≤ lw_t M (6 * j - 6 + i % 6) := by have := lw_no (lw_lt0 (t := lw_t M (6 * j - 6 + i % 6)) (by omega)) c_86; omega
                replace hl : lv_has ls 8 [(7, .int ((nI (lw_t M (6 * j - 6 + i % 6))) - 1)), (6, .int (nI (lw_t M (6 * j + i / 6) - 1))), (0, .ref (B + 412)), (1, .ref (B + 413)), (2, .ref (B + 414)), (3, .int (nI j)), (4, .int (rg_b ((decide (¬ (lw_sgn M j &&& lw_sgn M (j - 1)) &&& 255 ≤ 0) || lw_an (lw_cp M j) i) = true))), (5, .int (nI i))] := by rw [lw_sub1 hA1] at hl; exact hl
                replace hl : lv_has ls 8 [(7, .int (nI (lw_t M (6 * j - 6 + i % 6) - 1))), (6, .int (nI (lw_t M (6 * j + i / 6) - 1))), (0, .ref (B + 412)), (1, .ref (B + 413)), (2, .ref (B + 414)), (3, .int (nI j)), (4, .int (rg_b ((decide (¬ (lw_sgn M j &&& lw_sgn M (j - 1)) &&& 255 ≤ 0) || lw_an (lw_cp M j) i) = true))), (5, .int (nI i))] := by rw [lw_sub1 hB1] at hl; exact hl
                refine lv_aload_n hx hb dL_calls_89 rfl (lv_at hl 3 rfl) ?_
                refine lv_iload hx hb dL_calls_90 (lv_at hl 1 rfl) ?_
                refine rg_ialdN C0 hH (o := 413) (j := (lw_t M (6 * j + i / 6) - 1)) (n0 := 16) (by omega) rfl rfl (by omega) dL_calls_92 ?_
                refine lv_iload hx hb dL_calls_93 (lv_at hl 0 rfl) ?_
                refine lv_ishr hx hb dL_calls_95 ?_
                refine lv_iconst (v := 1) hx hb dL_calls_96 (by decide) ?_
                refine lv_iand hx hb dL_calls_97 ?_
                refine lv_iconst (v := 1) hx hb dL_calls_98 (by decide) ?_
                refine lv_icmp_ne (tgt := 106) hx hb dL_calls_99 (by decide) (fun c_99 => ?_) (fun c_99 => ?_)
                · refine lv_iconst (v := 0) hx hb dL_calls_106 (by decide) ?_
                  refine lv_istore (lv' := [(4, .int (0)), (7, .int (nI (lw_t M (6 * j - 6 + i % 6) - 1))), (6, .int (nI (lw_t M (6 * j + i / 6) - 1))), (0, .ref (B + 412)), (1, .ref (B + 413)), (2, .ref (B + 414)), (3, .int (nI j)), (5, .int (nI i))]) hx hb dL_calls_107 hl (by decide) rfl (fun ls hl => ?_)
                  refine lv_iinc (v := nI (i + 1)) (lv' := [(5, .int (nI (i + 1))), (4, .int (0)), (7, .int (nI (lw_t M (6 * j - 6 + i % 6) - 1))), (6, .int (nI (lw_t M (6 * j + i / 6) - 1))), (0, .ref (B + 412)), (1, .ref (B + 413)), (2, .ref (B + 414)), (3, .int (nI j))]) hx hb dL_calls_109 hl (k := 7) rfl (nI_1 _) (by decide) rfl (fun ls hl => ?_)
                  refine lv_goto (tgt := 32) hx hb dL_calls_112 (by decide) ?_
                  replace hl : lv_has ls 8 [(5, .int (nI (i + 1))), (4, .int (rg_b ((decide (¬ (lw_sgn M j &&& lw_sgn M (j - 1)) &&& 255 ≤ 0) || lw_an (lw_cp M j) (i + 1)) = true))), (7, .int (nI (lw_t M (6 * j - 6 + i % 6) - 1))), (6, .int (nI (lw_t M (6 * j + i / 6) - 1))), (0, .ref (B + 412)), (1, .ref (B + 413)), (2, .ref (B + 414)), (3, .int (nI j))] := by rw [← lw_o_c c_76 (by rw [show lw_cp M j i = (decide (¬ lw_t M (6 * j + i / 6) = 0) && (decide (¬ lw_t M (6 * j - 6 + i % 6) = 0) && decide ((M.1 413 (lw_t M (6 * j + i / 6) - 1) >>> (nI (lw_t M (6 * j - 6 + i % 6) - 1) &&& 31)) &&& 1 = 1))) from rfl, decide_eq_false c_99]; simp)]; exact hl
                  exact ih (i + 1) (by omega) _ _ _ hH (lv_sub hl [4, 5, 6, 7, 1, 0] rfl)
                · refine lv_iconst (v := 1) hx hb dL_calls_102 (by decide) ?_
                  refine lv_goto (tgt := 107) hx hb dL_calls_103 (by decide) ?_
                  refine lv_istore (lv' := [(4, .int (1)), (7, .int (nI (lw_t M (6 * j - 6 + i % 6) - 1))), (6, .int (nI (lw_t M (6 * j + i / 6) - 1))), (0, .ref (B + 412)), (1, .ref (B + 413)), (2, .ref (B + 414)), (3, .int (nI j)), (5, .int (nI i))]) hx hb dL_calls_107 hl (by decide) rfl (fun ls hl => ?_)
                  refine lv_iinc (v := nI (i + 1)) (lv' := [(5, .int (nI (i + 1))), (4, .int (1)), (7, .int (nI (lw_t M (6 * j - 6 + i % 6) - 1))), (6, .int (nI (lw_t M (6 * j + i / 6) - 1))), (0, .ref (B + 412)), (1, .ref (B + 413)), (2, .ref (B + 414)), (3, .int (nI j))]) hx hb dL_calls_109 hl (k := 7) rfl (nI_1 _) (by decide) rfl (fun ls hl => ?_)
                  refine lv_goto (tgt := 32) hx hb dL_calls_112 (by decide) ?_
                  replace hl : lv_has ls 8 [(5, .int (nI (i + 1))), (4, .int (rg_b ((decide (¬ (lw_sgn M j &&& lw_sgn M (j - 1)) &&& 255 ≤ 0) || lw_an (lw_cp M j) (i + 1)) = true))), (7, .int (nI (lw_t M (6 * j - 6 + i % 6) - 1))), (6, .int (nI (lw_t M (6 * j + i / 6) - 1))), (0, .ref (B + 412)), (1, .ref (B + 413)), (2, .ref (B + 414)), (3, .int (nI j))] := by rw [← lw_o_b (p := lw_cp M j) (k := i) (by rw [show lw_cp M j i = (decide (¬ lw_t M (6 * j + i / 6) = 0) && (decide (¬ lw_t M (6 * j - 6 + i % 6) = 0) && decide ((M.1 413 (lw_t M (6 * j + i / 6) - 1) >>> (nI (lw_t M (6 * j - 6 + i % 6) - 1) &&& 31)) &&& 1 = 1))) from rfl, decide_eq_true c_99, decide_eq_true (show ¬ lw_t M (6 * j + i / 6) = 0 by omega), decide_eq_true (show ¬ lw_t M (6 * j - 6 + i % 6) = 0 by omega)]; rfl)]; exact hl
                  exact ih (i + 1) (by omega) _ _ _ hH (lv_sub hl [4, 5, 6, 7, 1, 0] rfl)
    replace hl : lv_has ls 8 [(5, .int (nI 0)), (4, .int (rg_b ((decide (¬ (lw_sgn M j &&& lw_sgn M (j - 1)) &&& 255 ≤ 0) || lw_an (lw_cp M j) 0) = true))), (0, .ref (B + 412)), (1, .ref (B + 413)), (2, .ref (B + 414)), (3, .int (nI j))] := by rw [lw_o_0, ← rg_b_f (p := decide (¬ (lw_sgn M j &&& lw_sgn M (j - 1)) &&& 255 ≤ 0) = true) (by simpa using c_19), show nI 0 = 0 from rfl]; exact hl
    exact cut_32 37 0 (by omega) _ _ _ hH (lv_sub hl [2, 3, 4, 5, 1, 0] rfl)
  · refine lv_iconst (v := 1) hx hb dL_calls_22 (by decide) ?_
    refine lv_goto (tgt := 27) hx hb dL_calls_23 (by decide) ?_
    refine lv_istore (lv' := [(4, .int (1)), (0, .ref (B + 412)), (1, .ref (B + 413)), (2, .ref (B + 414)), (3, .int (nI j))]) hx hb dL_calls_27 hl (by decide) rfl (fun ls hl => ?_)
    refine lv_iconst (v := 0) hx hb dL_calls_29 (by decide) ?_
    refine lv_istore (lv' := [(5, .int (0)), (4, .int (1)), (0, .ref (B + 412)), (1, .ref (B + 413)), (2, .ref (B + 414)), (3, .int (nI j))]) hx hb dL_calls_30 hl (by decide) rfl (fun ls hl => ?_)
    have cut_32 : ∀ (fu i : Nat), i ≤ 36 ∧ 36 < i + fu → ∀  (H : Heap) (locs : List Loc) (ls : Array Slot), rg_H E B n rg_R0 M s H locs → lv_has ls 8 [(0, .ref (B + 412)), (1, .ref (B + 413)), (2, .ref (B + 414)), (3, .int (nI j)), (4, .int (rg_b ((decide (¬ (lw_sgn M j &&& lw_sgn M (j - 1)) &&& 255 ≤ 0) || lw_an (lw_cp M j) i) = true))), (5, .int (nI i))] → W p l e ({ frames := 1, cells := 0, slots := 0, locals := 24 } : Room) s m args below meth c H locs 0 0 (MQ below (rg_Ri E B n rg_R0 (M) (fun r => r = rg_b ((decide (¬ (lw_sgn M j &&& lw_sgn M (j - 1)) &&& 255 ≤ 0) || lw_an (lw_cp M j) 36) = true))) args s 0 0 (rg_A B)) (F0 m 32 ls []) := by
      intro fu
      induction fu with
      | zero =>
        intro i hm
        exact absurd hm (by omega)
      | succ fu ih =>
        intro i hm  H locs ls hH hl 
        refine lv_iload hx hb dL_calls_32 (lv_at hl 5 rfl) ?_
        refine lv_bipush (v := 36) hx hb dL_calls_34 (by decide) ?_
        refine lv_icmp_ge (tgt := 115) hx hb dL_calls_36 (by decide) (fun c_36 => ?_) (fun c_36 => ?_)
        · refine lv_iload hx hb dL_calls_115 (lv_at hl 4 rfl) ?_
          exact rg_retRz C0 hH hr hlocks (by exact rg_b_01) rfl (by rw [rg_lp_end (n := 36) hm.1 (by omega) c_36]) dL_calls_117
        · have h36 := rg_lp_lt (n := 36) hm.1 (by omega) c_36
          refine lv_aload_n hx hb dL_calls_39 rfl (lv_at hl 2 rfl) ?_
          refine lv_bipush (v := 6) hx hb dL_calls_40 (by decide) ?_
          refine lv_iload_n hx hb dL_calls_42 rfl (lv_at hl 3 rfl) ?_
          refine lv_imul hx hb dL_calls_43 ?_
          refine rg_topi (y := nI (6 * j)) (by exact lw_mul (6) (j)) ?_
          refine lv_iload hx hb dL_calls_44 (lv_at hl 5 rfl) ?_
          refine lv_bipush (v := 6) hx hb dL_calls_46 (by decide) ?_
          refine lv_idiv hx hb dL_calls_48 (by decide) ?_
          refine rg_topi (y := nI (i / 6)) (by exact pk_div (a := i) (d := 6) (by omega) (by omega) (by omega)) ?_
          refine lv_iadd hx hb dL_calls_49 ?_
          refine rg_topi (y := nI ((6 * j) + (i / 6))) (by exact nI_add (6 * j) (i / 6)) ?_
          refine rg_ialdN C0 hH (o := 414) (j := ((6 * j) + (i / 6))) (n0 := 64) (by omega) rfl rfl (by omega) dL_calls_50 ?_
          refine rg_topi (y := nI (lw_t M (6 * j + i / 6))) (by exact (hT _ (by omega)).1) ?_
          have hA16 := (hT (6 * j + i / 6) (by omega)).2
          refine lv_iconst (v := 1) hx hb dL_calls_51 (by decide) ?_
          refine lv_isub hx hb dL_calls_52 ?_
          refine lv_istore (lv' := [(6, .int ((nI (lw_t M (6 * j + i / 6))) - 1)), (0, .ref (B + 412)), (1, .ref (B + 413)), (2, .ref (B + 414)), (3, .int (nI j)), (4, .int (rg_b ((decide (¬ (lw_sgn M j &&& lw_sgn M (j - 1)) &&& 255 ≤ 0) || lw_an (lw_cp M j) i) = true))), (5, .int (nI i))]) hx hb dL_calls_53 hl (by decide) rfl (fun ls hl => ?_)
          refine lv_aload_n hx hb dL_calls_55 rfl (lv_at hl 3 rfl) ?_
          refine lv_bipush (v := 6) hx hb dL_calls_56 (by decide) ?_
          refine lv_iload_n hx hb dL_calls_58 rfl (lv_at hl 4 rfl) ?_
          refine lv_imul hx hb dL_calls_59 ?_
          refine rg_topi (y := nI (6 * j)) (by exact lw_mul (6) (j)) ?_
          refine lv_bipush (v := 6) hx hb dL_calls_60 (by decide) ?_
          refine lv_isub hx hb dL_calls_62 ?_
          refine rg_topi (y := nI ((6 * j) - 6)) (by exact lw_sub (d := 6) (by omega)) ?_
          refine lv_iload hx hb dL_calls_63 (lv_at hl 6 rfl) ?_
          refine lv_bipush (v := 6) hx hb dL_calls_65 (by decide) ?_
          refine lv_irem hx hb dL_calls_67 (by decide) ?_
          refine rg_topi (y := nI (i % 6)) (by exact pk_rem (a := i) (d := 6) (by omega) (by omega) (by omega)) ?_
          refine lv_iadd hx hb dL_calls_68 ?_
          refine rg_topi (y := nI (((6 * j) - 6) + (i % 6))) (by exact nI_add ((6 * j) - 6) (i % 6)) ?_
          refine rg_ialdN C0 hH (o := 414) (j := (((6 * j) - 6) + (i % 6))) (n0 := 64) (by omega) rfl rfl (by omega) dL_calls_69 ?_
          refine rg_topi (y := nI (lw_t M (6 * j - 6 + i % 6))) (by exact (hT _ (by omega)).1) ?_
          have hB16 := (hT (6 * j - 6 + i % 6) (by omega)).2
          refine lv_iconst (v := 1) hx hb dL_calls_70 (by decide) ?_
          refine lv_isub hx hb dL_calls_71 ?_
          refine lv_istore (lv' := [(7, .int ((nI (lw_t M (6 * j - 6 + i % 6))) - 1)), (6, .int ((nI (lw_t M (6 * j + i / 6))) - 1)), (0, .ref (B + 412)), (1, .ref (B + 413)), (2, .ref (B + 414)), (3, .int (nI j)), (4, .int (rg_b ((decide (¬ (lw_sgn M j &&& lw_sgn M (j - 1)) &&& 255 ≤ 0) || lw_an (lw_cp M j) i) = true))), (5, .int (nI i))]) hx hb dL_calls_72 hl (by decide) rfl (fun ls hl => ?_)
          refine lv_iload hx hb dL_calls_74 (lv_at hl 6 rfl) ?_
          refine lv_if_ne (tgt := 102) hx hb dL_calls_76 (by decide) (fun c_76 => ?_) (fun c_76 => ?_)
          · refine lv_iconst (v := 1) hx hb dL_calls_102 (by decide) ?_
            refine lv_goto (tgt := 107) hx hb dL_calls_103 (by decide) ?_
            refine lv_istore (lv' := [(4, .int (1)), (7, .int ((nI (lw_t M (6 * j - 6 + i % 6))) - 1)), (6, .int ((nI (lw_t M (6 * j + i / 6))) - 1)), (0, .ref (B + 412)), (1, .ref (B + 413)), (2, .ref (B + 414)), (3, .int (nI j)), (5, .int (nI i))]) hx hb dL_calls_107 hl (by decide) rfl (fun ls hl => ?_)
            refine lv_iinc (v := nI (i + 1)) (lv' := [(5, .int (nI (i + 1))), (4, .int (1)), (7, .int ((nI (lw_t M (6 * j - 6 + i % 6))) - 1)), (6, .int ((nI (lw_t M (6 * j + i / 6))) - 1)), (0, .ref (B + 412)), (1, .ref (B + 413)), (2, .ref (B + 414)), (3, .int (nI j))]) hx hb dL_calls_109 hl (k := 7) rfl (nI_1 _) (by decide) rfl (fun ls hl => ?_)
            refine lv_goto (tgt := 32) hx hb dL_calls_112 (by decide) ?_
            replace hl : lv_has ls 8 [(5, .int (nI (i + 1))), (4, .int (rg_b ((decide (¬ (lw_sgn M j &&& lw_sgn M (j - 1)) &&& 255 ≤ 0) || lw_an (lw_cp M j) (i + 1)) = true))), (7, .int ((nI (lw_t M (6 * j - 6 + i % 6))) - 1)), (6, .int ((nI (lw_t M (6 * j + i / 6))) - 1)), (0, .ref (B + 412)), (1, .ref (B + 413)), (2, .ref (B + 414)), (3, .int (nI j))] := by rw [← lw_o_a c_76]; exact hl
            exact ih (i + 1) (by omega) _ _ _ hH (lv_sub hl [4, 5, 6, 7, 1, 0] rfl)
          · refine lv_iload hx hb dL_calls_79 (lv_at hl 1 rfl) ?_
            refine lv_if_lt (tgt := 106) hx hb dL_calls_81 (by decide) (fun c_81 => ?_) (fun c_81 => ?_)
            · refine lv_iconst (v := 0) hx hb dL_calls_106 (by decide) ?_
              refine lv_istore (lv' := [(4, .int (0)), (7, .int ((nI (lw_t M (6 * j - 6 + i % 6))) - 1)), (6, .int ((nI (lw_t M (6 * j + i / 6))) - 1)), (0, .ref (B + 412)), (1, .ref (B + 413)), (2, .ref (B + 414)), (3, .int (nI j)), (5, .int (nI i))]) hx hb dL_calls_107 hl (by decide) rfl (fun ls hl => ?_)
              refine lv_iinc (v := nI (i + 1)) (lv' := [(5, .int (nI (i + 1))), (4, .int (0)), (7, .int ((nI (lw_t M (6 * j - 6 + i % 6))) - 1)), (6, .int ((nI (lw_t M (6 * j + i / 6))) - 1)), (0, .ref (B + 412)), (1, .ref (B + 413)), (2, .ref (B + 414)), (3, .int (nI j))]) hx hb dL_calls_109 hl (k := 7) rfl (nI_1 _) (by decide) rfl (fun ls hl => ?_)
              refine lv_goto (tgt := 32) hx hb dL_calls_112 (by decide) ?_
              replace hl : lv_has ls 8 [(5, .int (nI (i + 1))), (4, .int (rg_b ((decide (¬ (lw_sgn M j &&& lw_sgn M (j - 1)) &&& 255 ≤ 0) || lw_an (lw_cp M j) (i + 1)) = true))), (7, .int ((nI (lw_t M (6 * j - 6 + i % 6))) - 1)), (6, .int ((nI (lw_t M (6 * j + i / 6))) - 1)), (0, .ref (B + 412)), (1, .ref (B + 413)), (2, .ref (B + 414)), (3, .int (nI j))] := by rw [← lw_o_c c_76 (by rw [show lw_cp M j i = (decide (¬ lw_t M (6 * j + i / 6) = 0) && _) from rfl, (lw_lt0 (by omega)).mp c_81]; simp)]; exact hl
              exact ih (i + 1) (by omega) _ _ _ hH (lv_sub hl [4, 5, 6, 7, 1, 0] rfl)
            · refine lv_iload hx hb dL_calls_84 (lv_at hl 0 rfl) ?_
              refine lv_if_lt (tgt := 106) hx hb dL_calls_86 (by decide) (fun c_86 => ?_) (fun c_86 => ?_)
              · refine lv_iconst (v := 0) hx hb dL_calls_106 (by decide) ?_
                refine lv_istore (lv' := [(4, .int (0)), (7, .int ((nI (lw_t M (6 * j - 6 + i % 6))) - 1)), (6, .int ((nI (lw_t M (6 * j + i / 6))) - 1)), (0, .ref (B + 412)), (1, .ref (B + 413)), (2, .ref (B + 414)), (3, .int (nI j)), (5, .int (nI i))]) hx hb dL_calls_107 hl (by decide) rfl (fun ls hl => ?_)
                refine lv_iinc (v := nI (i + 1)) (lv' := [(5, .int (nI (i + 1))), (4, .int (0)), (7, .int ((nI (lw_t M (6 * j - 6 + i % 6))) - 1)), (6, .int ((nI (lw_t M (6 * j + i / 6))) - 1)), (0, .ref (B + 412)), (1, .ref (B + 413)), (2, .ref (B + 414)), (3, .int (nI j))]) hx hb dL_calls_109 hl (k := 7) rfl (nI_1 _) (by decide) rfl (fun ls hl => ?_)
                refine lv_goto (tgt := 32) hx hb dL_calls_112 (by decide) ?_
                replace hl : lv_has ls 8 [(5, .int (nI (i + 1))), (4, .int (rg_b ((decide (¬ (lw_sgn M j &&& lw_sgn M (j - 1)) &&& 255 ≤ 0) || lw_an (lw_cp M j) (i + 1)) = true))), (7, .int ((nI (lw_t M (6 * j - 6 + i % 6))) - 1)), (6, .int ((nI (lw_t M (6 * j + i / 6))) - 1)), (0, .ref (B + 412)), (1, .ref (B + 413)), (2, .ref (B + 414)), (3, .int (nI j))] := by rw [← lw_o_c c_76 (by rw [show lw_cp M j i = (_ && (decide (¬ lw_t M (6 * j - 6 + i % 6) = 0) && _)) from rfl, (lw_lt0 (by omega)).mp c_86]; simp)]; exact hl
                exact ih (i + 1) (by omega) _ _ _ hH (lv_sub hl [4, 5, 6, 7, 1, 0] rfl)
              · have hA1 : 1 ≤ lw_t M (6 * j + i / 6) := by have := lw_no (lw_lt0 (t := lw_t M (6 * j + i / 6)) (by omega)) c_81; omega
                have hB1 : 1 ≤ lw_t M (6 * j - 6 + i % 6) := by have := lw_no (lw_lt0 (t := lw_t M (6 * j - 6 + i % 6)) (by omega)) c_86; omega
                replace hl : lv_has ls 8 [(7, .int ((nI (lw_t M (6 * j - 6 + i % 6))) - 1)), (6, .int (nI (lw_t M (6 * j + i / 6) - 1))), (0, .ref (B + 412)), (1, .ref (B + 413)), (2, .ref (B + 414)), (3, .int (nI j)), (4, .int (rg_b ((decide (¬ (lw_sgn M j &&& lw_sgn M (j - 1)) &&& 255 ≤ 0) || lw_an (lw_cp M j) i) = true))), (5, .int (nI i))] := by rw [lw_sub1 hA1] at hl; exact hl
                replace hl : lv_has ls 8 [(7, .int (nI (lw_t M (6 * j - 6 + i % 6) - 1))), (6, .int (nI (lw_t M (6 * j + i / 6) - 1))), (0, .ref (B + 412)), (1, .ref (B + 413)), (2, .ref (B + 414)), (3, .int (nI j)), (4, .int (rg_b ((decide (¬ (lw_sgn M j &&& lw_sgn M (j - 1)) &&& 255 ≤ 0) || lw_an (lw_cp M j) i) = true))), (5, .int (nI i))] := by rw [lw_sub1 hB1] at hl; exact hl
                refine lv_aload_n hx hb dL_calls_89 rfl (lv_at hl 3 rfl) ?_
                refine lv_iload hx hb dL_calls_90 (lv_at hl 1 rfl) ?_
                refine rg_ialdN C0 hH (o := 413) (j := (lw_t M (6 * j + i / 6) - 1)) (n0 := 16) (by omega) rfl rfl (by omega) dL_calls_92 ?_
                refine lv_iload hx hb dL_calls_93 (lv_at hl 0 rfl) ?_
                refine lv_ishr hx hb dL_calls_95 ?_
                refine lv_iconst (v := 1) hx hb dL_calls_96 (by decide) ?_
                refine lv_iand hx hb dL_calls_97 ?_
                refine lv_iconst (v := 1) hx hb dL_calls_98 (by decide) ?_
                refine lv_icmp_ne (tgt := 106) hx hb dL_calls_99 (by decide) (fun c_99 => ?_) (fun c_99 => ?_)
                · refine lv_iconst (v := 0) hx hb dL_calls_106 (by decide) ?_
                  refine lv_istore (lv' := [(4, .int (0)), (7, .int (nI (lw_t M (6 * j - 6 + i % 6) - 1))), (6, .int (nI (lw_t M (6 * j + i / 6) - 1))), (0, .ref (B + 412)), (1, .ref (B + 413)), (2, .ref (B + 414)), (3, .int (nI j)), (5, .int (nI i))]) hx hb dL_calls_107 hl (by decide) rfl (fun ls hl => ?_)
                  refine lv_iinc (v := nI (i + 1)) (lv' := [(5, .int (nI (i + 1))), (4, .int (0)), (7, .int (nI (lw_t M (6 * j - 6 + i % 6) - 1))), (6, .int (nI (lw_t M (6 * j + i / 6) - 1))), (0, .ref (B + 412)), (1, .ref (B + 413)), (2, .ref (B + 414)), (3, .int (nI j))]) hx hb dL_calls_109 hl (k := 7) rfl (nI_1 _) (by decide) rfl (fun ls hl => ?_)
                  refine lv_goto (tgt := 32) hx hb dL_calls_112 (by decide) ?_
                  replace hl : lv_has ls 8 [(5, .int (nI (i + 1))), (4, .int (rg_b ((decide (¬ (lw_sgn M j &&& lw_sgn M (j - 1)) &&& 255 ≤ 0) || lw_an (lw_cp M j) (i + 1)) = true))), (7, .int (nI (lw_t M (6 * j - 6 + i % 6) - 1))), (6, .int (nI (lw_t M (6 * j + i / 6) - 1))), (0, .ref (B + 412)), (1, .ref (B + 413)), (2, .ref (B + 414)), (3, .int (nI j))] := by rw [← lw_o_c c_76 (by rw [show lw_cp M j i = (decide (¬ lw_t M (6 * j + i / 6) = 0) && (decide (¬ lw_t M (6 * j - 6 + i % 6) = 0) && decide ((M.1 413 (lw_t M (6 * j + i / 6) - 1) >>> (nI (lw_t M (6 * j - 6 + i % 6) - 1) &&& 31)) &&& 1 = 1))) from rfl, decide_eq_false c_99]; simp)]; exact hl
                  exact ih (i + 1) (by omega) _ _ _ hH (lv_sub hl [4, 5, 6, 7, 1, 0] rfl)
                · refine lv_iconst (v := 1) hx hb dL_calls_102 (by decide) ?_
                  refine lv_goto (tgt := 107) hx hb dL_calls_103 (by decide) ?_
                  refine lv_istore (lv' := [(4, .int (1)), (7, .int (nI (lw_t M (6 * j - 6 + i % 6) - 1))), (6, .int (nI (lw_t M (6 * j + i / 6) - 1))), (0, .ref (B + 412)), (1, .ref (B + 413)), (2, .ref (B + 414)), (3, .int (nI j)), (5, .int (nI i))]) hx hb dL_calls_107 hl (by decide) rfl (fun ls hl => ?_)
                  refine lv_iinc (v := nI (i + 1)) (lv' := [(5, .int (nI (i + 1))), (4, .int (1)), (7, .int (nI (lw_t M (6 * j - 6 + i % 6) - 1))), (6, .int (nI (lw_t M (6 * j + i / 6) - 1))), (0, .ref (B + 412)), (1, .ref (B + 413)), (2, .ref (B + 414)), (3, .int (nI j))]) hx hb dL_calls_109 hl (k := 7) rfl (nI_1 _) (by decide) rfl (fun ls hl => ?_)
                  refine lv_goto (tgt := 32) hx hb dL_calls_112 (by decide) ?_
                  replace hl : lv_has ls 8 [(5, .int (nI (i + 1))), (4, .int (rg_b ((decide (¬ (lw_sgn M j &&& lw_sgn M (j - 1)) &&& 255 ≤ 0) || lw_an (lw_cp M j) (i + 1)) = true))), (7, .int (nI (lw_t M (6 * j - 6 + i % 6) - 1))), (6, .int (nI (lw_t M (6 * j + i / 6) - 1))), (0, .ref (B + 412)), (1, .ref (B + 413)), (2, .ref (B + 414)), (3, .int (nI j))] := by rw [← lw_o_b (p := lw_cp M j) (k := i) (by rw [show lw_cp M j i = (decide (¬ lw_t M (6 * j + i / 6) = 0) && (decide (¬ lw_t M (6 * j - 6 + i % 6) = 0) && decide ((M.1 413 (lw_t M (6 * j + i / 6) - 1) >>> (nI (lw_t M (6 * j - 6 + i % 6) - 1) &&& 31)) &&& 1 = 1))) from rfl, decide_eq_true c_99, decide_eq_true (show ¬ lw_t M (6 * j + i / 6) = 0 by omega), decide_eq_true (show ¬ lw_t M (6 * j - 6 + i % 6) = 0 by omega)]; rfl)]; exact hl
                  exact ih (i + 1) (by omega) _ _ _ hH (lv_sub hl [4, 5, 6, 7, 1, 0] rfl)
    replace hl : lv_has ls 8 [(5, .int (nI 0)), (4, .int (rg_b ((decide (¬ (lw_sgn M j &&& lw_sgn M (j - 1)) &&& 255 ≤ 0) || lw_an (lw_cp M j) 0) = true))), (0, .ref (B + 412)), (1, .ref (B + 413)), (2, .ref (B + 414)), (3, .int (nI j))] := by rw [lw_o_0, ← rg_b_t (p := decide (¬ (lw_sgn M j &&& lw_sgn M (j - 1)) &&& 255 ≤ 0) = true) (by simpa using c_19), show nI 0 = 0 from rfl]; exact hl
    exact cut_32 37 0 (by omega) _ _ _ hH (lv_sub hl [2, 3, 4, 5, 1, 0] rfl)
