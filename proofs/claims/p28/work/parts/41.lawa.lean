set_option maxHeartbeats 4000000 in
set_option maxRecDepth 100000 in
/-- the first season of a link, or -1 -/
theorem k_L_season (l : Launch) (E : rg_Env) (B : Nat) (M : rg_Mem) (n : Nat) (j : Nat) (hn : 422 ≤ n) (hT : lw_TI M) (hW : lw_WI M) (hj : j < 10) : Met l yL_season (rg_w yL_season cL_season 6 (some (FieldType.int))) ({ frames := 0, cells := 0, slots := 0, locals := 0 } : Room) (va_Pc [.ref (B + 412), .ref (B + 414), .int (nI j)] (rg_Pre E B n rg_R0 M)) (rg_Ri E B n rg_R0 (M) (fun r => r = lw_sea M j)) 0 0 (rg_A B) := by
  refine rg_ofW (by decide +kernel) rfl (Nat.le_of_ble_eq_true rfl) ?_
  intro p e s m args below meth c ls C0 hH hl hr hlocks hnm
  replace hl : lv_has ls 6 [(0, .ref (B + 412)), (1, .ref (B + 414)), (2, .int (nI j))] := hl
  have hx := C0.1.1
  have hb := C0.1.2.1
  generalize hH9 : s.heap = H at hH ⊢
  generalize hL9 : ([] : List Loc) = locs at hH ⊢
  clear hH9 hL9
  refine lv_iconst (v := (-1)) hx hb dL_season_0 (by decide) ?_
  refine lv_istore_n (lv' := [(3, .int ((-1))), (0, .ref (B + 412)), (1, .ref (B + 414)), (2, .int (nI j))]) hx hb dL_season_1 rfl hl (by decide) rfl (fun ls hl => ?_)
  refine lv_iconst (v := 5) hx hb dL_season_2 (by decide) ?_
  refine lv_istore (lv' := [(4, .int (5)), (3, .int ((-1))), (0, .ref (B + 412)), (1, .ref (B + 414)), (2, .int (nI j))]) hx hb dL_season_3 hl (by decide) rfl (fun ls hl => ?_)
  have cut_5 : ∀ (fu i : Nat), i ≤ 6 ∧ i < fu → ∀  (H : Heap) (locs : List Loc) (ls : Array Slot), rg_H E B n rg_R0 M s H locs → lv_has ls 6 [(0, .ref (B + 412)), (1, .ref (B + 414)), (2, .int (nI j)), (3, .int (lw_fs (fun k => lw_sv M (6 * j + k)) (6 - (i)) (i))), (4, .int (nI i - 1))] → W p l e ({ frames := 0, cells := 0, slots := 0, locals := 0 } : Room) s m args below meth c H locs 0 0 (MQ below (rg_Ri E B n rg_R0 (M) (fun r => r = lw_sea M j)) args s 0 0 (rg_A B)) (F0 m 5 ls []) := by
    intro fu
    induction fu with
    | zero =>
      intro i hm
      exact absurd hm (by omega)
    | succ fu ih =>
      intro i hm  H locs ls hH hl 
      refine lv_iload hx hb dL_season_5 (lv_at hl 4 rfl) ?_
      refine lv_if_lt (tgt := 62) hx hb dL_season_7 (by decide) (fun c_7 => ?_) (fun c_7 => ?_)
      · refine lv_iload_n hx hb dL_season_62 rfl (lv_at hl 3 rfl) ?_
        exact rg_retRi C0 hH hr hlocks rfl (by have q := (lw_lt0 (t := i) (by omega)).mp c_7; subst q; rfl) dL_season_63
      · obtain ⟨y, rfl⟩ : ∃ y, i = y + 1 := ⟨i - 1, by have := lw_no (lw_lt0 (t := i) (by omega)) c_7; omega⟩
        replace hl : lv_has ls 6 [(0, .ref (B + 412)), (1, .ref (B + 414)), (2, .int (nI j)), (3, .int (lw_fs (fun k => lw_sv M (6 * j + k)) (6 - ((y + 1))) ((y + 1)))), (4, .int (nI y))] := by rw [nI_pred] at hl; exact hl
        refine lv_aload_n hx hb dL_season_10 rfl (lv_at hl 1 rfl) ?_
        refine lv_bipush (v := 6) hx hb dL_season_11 (by decide) ?_
        refine lv_iload_n hx hb dL_season_13 rfl (lv_at hl 2 rfl) ?_
        refine lv_imul hx hb dL_season_14 ?_
        refine rg_topi (y := nI (6 * j)) (by exact lw_mul (6) (j)) ?_
        refine lv_iload hx hb dL_season_15 (lv_at hl 4 rfl) ?_
        refine lv_iadd hx hb dL_season_17 ?_
        refine rg_topi (y := nI ((6 * j) + y)) (by exact nI_add (6 * j) (y)) ?_
        refine rg_ialdN C0 hH (o := 414) (j := ((6 * j) + y)) (n0 := 64) (by omega) rfl rfl (by omega) dL_season_18 ?_
        refine rg_topi (y := nI (lw_t M (6 * j + y))) (by exact (hT _ (by omega)).1) ?_
        have ht16 := (hT (6 * j + y) (by omega)).2
        refine lv_iconst (v := 1) hx hb dL_season_19 (by decide) ?_
        refine lv_isub hx hb dL_season_20 ?_
        refine lv_istore (lv' := [(5, .int ((nI (lw_t M (6 * j + y))) - 1)), (0, .ref (B + 412)), (1, .ref (B + 414)), (2, .int (nI j)), (3, .int (lw_fs (fun k => lw_sv M (6 * j + k)) (6 - ((y + 1))) ((y + 1)))), (4, .int (nI y))]) hx hb dL_season_21 hl (by decide) rfl (fun ls hl => ?_)
        refine lv_iload hx hb dL_season_23 (lv_at hl 0 rfl) ?_
        refine lv_if_lt (tgt := 54) hx hb dL_season_25 (by decide) (fun c_25 => ?_) (fun c_25 => ?_)
        · refine lv_iload_n hx hb dL_season_54 rfl (lv_at hl 4 rfl) ?_
          refine lv_istore_n (lv' := [(3, .int (lw_fs (fun k => lw_sv M (6 * j + k)) (6 - ((y + 1))) ((y + 1)))), (5, .int ((nI (lw_t M (6 * j + y))) - 1)), (0, .ref (B + 412)), (1, .ref (B + 414)), (2, .int (nI j)), (4, .int (nI y))]) hx hb dL_season_55 rfl hl (by decide) rfl (fun ls hl => ?_)
          refine lv_iinc (v := (nI y) - 1) (lv' := [(4, .int ((nI y) - 1)), (3, .int (lw_fs (fun k => lw_sv M (6 * j + k)) (6 - ((y + 1))) ((y + 1)))), (5, .int ((nI (lw_t M (6 * j + y))) - 1)), (0, .ref (B + 412)), (1, .ref (B + 414)), (2, .int (nI j))]) hx hb dL_season_56 hl (k := 5) rfl (rg_m1s _) (by decide) rfl (fun ls hl => ?_)
          refine lv_goto (tgt := 5) hx hb dL_season_59 (by decide) ?_
          replace hl : lv_has ls 6 [(4, .int ((nI y) - 1)), (3, .int (lw_fs (fun k => lw_sv M (6 * j + k)) (6 - (y)) (y))), (5, .int ((nI (lw_t M (6 * j + y))) - 1)), (0, .ref (B + 412)), (1, .ref (B + 414)), (2, .int (nI j))] := by rw [lw_fs_at (show y < 6 by omega), if_pos (lw_sv_0 ((lw_lt0 (by have := (hT (6 * j + y) (by omega)).2; omega)).mp c_25))]; exact hl
          replace hl : lv_has ls 6 [(4, .int (nI y - 1)), (3, .int (lw_fs (fun k => lw_sv M (6 * j + k)) (6 - (y)) (y))), (5, .int ((nI (lw_t M (6 * j + y))) - 1)), (0, .ref (B + 412)), (1, .ref (B + 414)), (2, .int (nI j))] := by skip; exact hl
          exact ih y (by omega) _ _ _ hH (lv_sub hl [3, 4, 5, 1, 0] rfl)
        · have ht1 : 1 ≤ lw_t M (6 * j + y) := by have := lw_no (lw_lt0 (t := lw_t M (6 * j + y)) (by omega)) c_25; omega
          replace hl : lv_has ls 6 [(5, .int (nI (lw_t M (6 * j + y) - 1))), (0, .ref (B + 412)), (1, .ref (B + 414)), (2, .int (nI j)), (3, .int (lw_fs (fun k => lw_sv M (6 * j + k)) (6 - ((y + 1))) ((y + 1)))), (4, .int (nI y))] := by rw [lw_sub1 ht1] at hl; exact hl
          refine lv_aload_n hx hb dL_season_28 rfl (lv_at hl 1 rfl) ?_
          refine lv_iload hx hb dL_season_29 (lv_at hl 0 rfl) ?_
          refine rg_ialdN C0 hH (o := 412) (j := (lw_t M (6 * j + y) - 1)) (n0 := 16) (by omega) rfl rfl (by omega) dL_season_31 ?_
          refine lv_iconst (v := 4) hx hb dL_season_32 (by decide) ?_
          refine lv_ishr hx hb dL_season_33 ?_
          refine lv_bipush (v := 7) hx hb dL_season_34 (by decide) ?_
          refine lv_iand hx hb dL_season_36 ?_
          refine rg_topi (y := M.1 3 (lw_t M (6 * j + y) - 1) + 1) (by exact (hW _ (by omega)).2.1) ?_
          refine lv_if_le (tgt := 54) hx hb dL_season_37 (by decide) (fun c_37 => ?_) (fun c_37 => ?_)
          · refine lv_iload_n hx hb dL_season_54 rfl (lv_at hl 4 rfl) ?_
            refine lv_istore_n (lv' := [(3, .int (lw_fs (fun k => lw_sv M (6 * j + k)) (6 - ((y + 1))) ((y + 1)))), (5, .int (nI (lw_t M (6 * j + y) - 1))), (0, .ref (B + 412)), (1, .ref (B + 414)), (2, .int (nI j)), (4, .int (nI y))]) hx hb dL_season_55 rfl hl (by decide) rfl (fun ls hl => ?_)
            refine lv_iinc (v := (nI y) - 1) (lv' := [(4, .int ((nI y) - 1)), (3, .int (lw_fs (fun k => lw_sv M (6 * j + k)) (6 - ((y + 1))) ((y + 1)))), (5, .int (nI (lw_t M (6 * j + y) - 1))), (0, .ref (B + 412)), (1, .ref (B + 414)), (2, .int (nI j))]) hx hb dL_season_56 hl (k := 5) rfl (rg_m1s _) (by decide) rfl (fun ls hl => ?_)
            refine lv_goto (tgt := 5) hx hb dL_season_59 (by decide) ?_
            replace hl : lv_has ls 6 [(4, .int ((nI y) - 1)), (3, .int (lw_fs (fun k => lw_sv M (6 * j + k)) (6 - (y)) (y))), (5, .int (nI (lw_t M (6 * j + y) - 1))), (0, .ref (B + 412)), (1, .ref (B + 414)), (2, .int (nI j))] := by rw [lw_fs_at (show y < 6 by omega), if_pos ((lw_sv_1 ht1).trans ((lw_s1 (hW _ (by omega)).2.2.2.1).mp c_37))]; exact hl
            replace hl : lv_has ls 6 [(4, .int (nI y - 1)), (3, .int (lw_fs (fun k => lw_sv M (6 * j + k)) (6 - (y)) (y))), (5, .int (nI (lw_t M (6 * j + y) - 1))), (0, .ref (B + 412)), (1, .ref (B + 414)), (2, .int (nI j))] := by skip; exact hl
            exact ih y (by omega) _ _ _ hH (lv_sub hl [3, 4, 5, 1, 0] rfl)
          · refine lv_aload_n hx hb dL_season_40 rfl (lv_at hl 1 rfl) ?_
            refine lv_iload hx hb dL_season_41 (lv_at hl 0 rfl) ?_
            refine rg_ialdN C0 hH (o := 412) (j := (lw_t M (6 * j + y) - 1)) (n0 := 16) (by omega) rfl rfl (by omega) dL_season_43 ?_
            refine lv_iconst (v := 4) hx hb dL_season_44 (by decide) ?_
            refine lv_ishr hx hb dL_season_45 ?_
            refine lv_bipush (v := 7) hx hb dL_season_46 (by decide) ?_
            refine lv_iand hx hb dL_season_48 ?_
            refine rg_topi (y := M.1 3 (lw_t M (6 * j + y) - 1) + 1) (by exact (hW _ (by omega)).2.1) ?_
            refine lv_iconst (v := 1) hx hb dL_season_49 (by decide) ?_
            refine lv_isub hx hb dL_season_50 ?_
            refine rg_topi (y := M.1 3 (lw_t M (6 * j + y) - 1)) (by exact lw_s2) ?_
            refine lv_goto (tgt := 55) hx hb dL_season_51 (by decide) ?_
            refine lv_istore_n (lv' := [(3, .int (M.1 3 (lw_t M (6 * j + y) - 1))), (5, .int (nI (lw_t M (6 * j + y) - 1))), (0, .ref (B + 412)), (1, .ref (B + 414)), (2, .int (nI j)), (4, .int (nI y))]) hx hb dL_season_55 rfl hl (by decide) rfl (fun ls hl => ?_)
            refine lv_iinc (v := (nI y) - 1) (lv' := [(4, .int ((nI y) - 1)), (3, .int (M.1 3 (lw_t M (6 * j + y) - 1))), (5, .int (nI (lw_t M (6 * j + y) - 1))), (0, .ref (B + 412)), (1, .ref (B + 414)), (2, .int (nI j))]) hx hb dL_season_56 hl (k := 5) rfl (rg_m1s _) (by decide) rfl (fun ls hl => ?_)
            refine lv_goto (tgt := 5) hx hb dL_season_59 (by decide) ?_
            replace hl : lv_has ls 6 [(4, .int ((nI y) - 1)), (3, .int (lw_fs (fun k => lw_sv M (6 * j + k)) (6 - (y)) (y))), (5, .int (nI (lw_t M (6 * j + y) - 1))), (0, .ref (B + 412)), (1, .ref (B + 414)), (2, .int (nI j))] := by rw [lw_fs_at (show y < 6 by omega), if_neg (fun q => c_37 ((lw_s1 (hW _ (by omega)).2.2.2.1).mpr ((lw_sv_1 ht1).symm.trans q))), lw_sv_1 ht1]; exact hl
            replace hl : lv_has ls 6 [(4, .int (nI y - 1)), (3, .int (lw_fs (fun k => lw_sv M (6 * j + k)) (6 - (y)) (y))), (5, .int (nI (lw_t M (6 * j + y) - 1))), (0, .ref (B + 412)), (1, .ref (B + 414)), (2, .int (nI j))] := by skip; exact hl
            exact ih y (by omega) _ _ _ hH (lv_sub hl [3, 4, 5, 1, 0] rfl)
  replace hl : lv_has ls 6 [(4, .int (5)), (3, .int (lw_fs (fun k => lw_sv M (6 * j + k)) (6 - (6)) (6))), (0, .ref (B + 412)), (1, .ref (B + 414)), (2, .int (nI j))] := by rw [show lw_fs (fun k => lw_sv M (6 * j + k)) (6 - (6)) (6) = -1 from rfl]; exact hl
  replace hl : lv_has ls 6 [(4, .int (nI 6 - 1)), (3, .int (lw_fs (fun k => lw_sv M (6 * j + k)) (6 - (6)) (6))), (0, .ref (B + 412)), (1, .ref (B + 414)), (2, .int (nI j))] := by rw [show (nI 6 - 1 : Int32) = 5 from by decide]; exact hl
  exact cut_5 7 6 (by omega) _ _ _ hH (lv_sub hl [2, 3, 4, 1, 0] rfl)

set_option maxHeartbeats 4000000 in
set_option maxRecDepth 100000 in
/-- the signs of a link -/
theorem k_L_signs (l : Launch) (E : rg_Env) (B : Nat) (M : rg_Mem) (n : Nat) (j : Nat) (hn : 422 ≤ n) (hT : lw_TI M) (hW : lw_WI M) (hj : j < 10) : Met l yL_signs (rg_w yL_signs cL_signs 5 (some (FieldType.int))) ({ frames := 0, cells := 0, slots := 0, locals := 0 } : Room) (va_Pc [.ref (B + 412), .ref (B + 414), .int (nI j)] (rg_Pre E B n rg_R0 M)) (rg_Ri E B n rg_R0 (M) (fun r => r = lw_sgn M j)) 0 0 (rg_A B) := by
  refine rg_ofW (by decide +kernel) rfl (Nat.le_of_ble_eq_true rfl) ?_
  intro p e s m args below meth c ls C0 hH hl hr hlocks hnm
  replace hl : lv_has ls 5 [(0, .ref (B + 412)), (1, .ref (B + 414)), (2, .int (nI j))] := hl
  have hx := C0.1.1
  have hb := C0.1.2.1
  generalize hH9 : s.heap = H at hH ⊢
  generalize hL9 : ([] : List Loc) = locs at hH ⊢
  clear hH9 hL9
  refine lv_iconst (v := 0) hx hb dL_signs_0 (by decide) ?_
  refine lv_istore_n (lv' := [(3, .int (0)), (0, .ref (B + 412)), (1, .ref (B + 414)), (2, .int (nI j))]) hx hb dL_signs_1 rfl hl (by decide) rfl (fun ls hl => ?_)
  refine lv_iconst (v := 0) hx hb dL_signs_2 (by decide) ?_
  refine lv_istore (lv' := [(4, .int (0)), (3, .int (0)), (0, .ref (B + 412)), (1, .ref (B + 414)), (2, .int (nI j))]) hx hb dL_signs_3 hl (by decide) rfl (fun ls hl => ?_)
  have cut_5 : ∀ (fu i : Nat), i ≤ 6 ∧ 6 < i + fu → ∀  (H : Heap) (locs : List Loc) (ls : Array Slot), rg_H E B n rg_R0 M s H locs → lv_has ls 5 [(0, .ref (B + 412)), (1, .ref (B + 414)), (2, .int (nI j)), (3, .int (lw_or (fun k => lw_gv M (6 * j + k)) i)), (4, .int (nI i))] → W p l e ({ frames := 0, cells := 0, slots := 0, locals := 0 } : Room) s m args below meth c H locs 0 0 (MQ below (rg_Ri E B n rg_R0 (M) (fun r => r = lw_sgn M j)) args s 0 0 (rg_A B)) (F0 m 5 ls []) := by
    intro fu
    induction fu with
    | zero =>
      intro i hm
      exact absurd hm (by omega)
    | succ fu ih =>
      intro i hm  H locs ls hH hl 
      refine lv_iload hx hb dL_signs_5 (lv_at hl 4 rfl) ?_
      refine lv_bipush (v := 6) hx hb dL_signs_7 (by decide) ?_
      refine lv_icmp_ge (tgt := 53) hx hb dL_signs_9 (by decide) (fun c_9 => ?_) (fun c_9 => ?_)
      · refine lv_iload_n hx hb dL_signs_53 rfl (lv_at hl 3 rfl) ?_
        exact rg_retRi C0 hH hr hlocks rfl (by rw [rg_lp_end (n := 6) hm.1 (by omega) c_9]; rfl) dL_signs_54
      · have h6 := rg_lp_lt (n := 6) hm.1 (by omega) c_9
        refine lv_iload_n hx hb dL_signs_12 rfl (lv_at hl 3 rfl) ?_
        refine lv_aload_n hx hb dL_signs_13 rfl (lv_at hl 1 rfl) ?_
        refine lv_bipush (v := 6) hx hb dL_signs_14 (by decide) ?_
        refine lv_iload_n hx hb dL_signs_16 rfl (lv_at hl 2 rfl) ?_
        refine lv_imul hx hb dL_signs_17 ?_
        refine rg_topi (y := nI (6 * j)) (by exact lw_mul (6) (j)) ?_
        refine lv_iload hx hb dL_signs_18 (lv_at hl 4 rfl) ?_
        refine lv_iadd hx hb dL_signs_20 ?_
        refine rg_topi (y := nI ((6 * j) + i)) (by exact nI_add (6 * j) (i)) ?_
        refine rg_ialdN C0 hH (o := 414) (j := ((6 * j) + i)) (n0 := 64) (by omega) rfl rfl (by omega) dL_signs_21 ?_
        refine rg_topi (y := nI (lw_t M (6 * j + i))) (by exact (hT _ (by omega)).1) ?_
        have ht16 := (hT (6 * j + i) (by omega)).2
        refine lv_if_le (tgt := 44) hx hb dL_signs_22 (by decide) (fun c_22 => ?_) (fun c_22 => ?_)
        · refine lv_iconst (v := 0) hx hb dL_signs_44 (by decide) ?_
          refine lv_ior hx hb dL_signs_45 ?_
          refine lv_istore_n (lv' := [(3, .int ((lw_or (fun k => lw_gv M (6 * j + k)) i) ||| 0)), (0, .ref (B + 412)), (1, .ref (B + 414)), (2, .int (nI j)), (4, .int (nI i))]) hx hb dL_signs_46 rfl hl (by decide) rfl (fun ls hl => ?_)
          refine lv_iinc (v := nI (i + 1)) (lv' := [(4, .int (nI (i + 1))), (3, .int ((lw_or (fun k => lw_gv M (6 * j + k)) i) ||| 0)), (0, .ref (B + 412)), (1, .ref (B + 414)), (2, .int (nI j))]) hx hb dL_signs_47 hl (k := 4) rfl (nI_1 _) (by decide) rfl (fun ls hl => ?_)
          refine lv_goto (tgt := 5) hx hb dL_signs_50 (by decide) ?_
          replace hl : lv_has ls 5 [(4, .int (nI (i + 1))), (3, .int (lw_or (fun k => lw_gv M (6 * j + k)) (i + 1))), (0, .ref (B + 412)), (1, .ref (B + 414)), (2, .int (nI j))] := by rw [lw_or, lw_gv_0 ((lw_le0 (by omega)).mp c_22)]; exact hl
          exact ih (i + 1) (by omega) _ _ _ hH (lv_sub hl [2, 3, 4, 1, 0] rfl)
        · have ht1 : 1 ≤ lw_t M (6 * j + i) := by have := lw_no (lw_le0 (t := lw_t M (6 * j + i)) (by omega)) c_22; omega
          refine lv_aload_n hx hb dL_signs_25 rfl (lv_at hl 0 rfl) ?_
          refine lv_aload_n hx hb dL_signs_26 rfl (lv_at hl 1 rfl) ?_
          refine lv_bipush (v := 6) hx hb dL_signs_27 (by decide) ?_
          refine lv_iload_n hx hb dL_signs_29 rfl (lv_at hl 2 rfl) ?_
          refine lv_imul hx hb dL_signs_30 ?_
          refine rg_topi (y := nI (6 * j)) (by exact lw_mul (6) (j)) ?_
          refine lv_iload hx hb dL_signs_31 (lv_at hl 4 rfl) ?_
          refine lv_iadd hx hb dL_signs_33 ?_
          refine rg_topi (y := nI ((6 * j) + i)) (by exact nI_add (6 * j) (i)) ?_
          refine rg_ialdN C0 hH (o := 414) (j := ((6 * j) + i)) (n0 := 64) (by omega) rfl rfl (by omega) dL_signs_34 ?_
          refine rg_topi (y := nI (lw_t M (6 * j + i))) (by exact (hT _ (by omega)).1) ?_
          refine lv_iconst (v := 1) hx hb dL_signs_35 (by decide) ?_
          refine lv_isub hx hb dL_signs_36 ?_
          refine rg_topi (y := nI (lw_t M (6 * j + i) - 1)) (by exact lw_sub1 ht1) ?_
          refine rg_ialdN C0 hH (o := 412) (j := (lw_t M (6 * j + i) - 1)) (n0 := 16) (by omega) rfl rfl (by omega) dL_signs_37 ?_
          refine lv_bipush (v := 8) hx hb dL_signs_38 (by decide) ?_
          refine lv_ishr hx hb dL_signs_40 ?_
          refine rg_topi (y := M.1 4 (lw_t M (6 * j + i) - 1)) (by exact (hW _ (by omega)).2.2.1) ?_
          refine lv_goto (tgt := 45) hx hb dL_signs_41 (by decide) ?_
          refine lv_ior hx hb dL_signs_45 ?_
          refine lv_istore_n (lv' := [(3, .int ((lw_or (fun k => lw_gv M (6 * j + k)) i) ||| (M.1 4 (lw_t M (6 * j + i) - 1)))), (0, .ref (B + 412)), (1, .ref (B + 414)), (2, .int (nI j)), (4, .int (nI i))]) hx hb dL_signs_46 rfl hl (by decide) rfl (fun ls hl => ?_)
          refine lv_iinc (v := nI (i + 1)) (lv' := [(4, .int (nI (i + 1))), (3, .int ((lw_or (fun k => lw_gv M (6 * j + k)) i) ||| (M.1 4 (lw_t M (6 * j + i) - 1)))), (0, .ref (B + 412)), (1, .ref (B + 414)), (2, .int (nI j))]) hx hb dL_signs_47 hl (k := 4) rfl (nI_1 _) (by decide) rfl (fun ls hl => ?_)
          refine lv_goto (tgt := 5) hx hb dL_signs_50 (by decide) ?_
          replace hl : lv_has ls 5 [(4, .int (nI (i + 1))), (3, .int (lw_or (fun k => lw_gv M (6 * j + k)) (i + 1))), (0, .ref (B + 412)), (1, .ref (B + 414)), (2, .int (nI j))] := by rw [lw_or, lw_gv_1 ht1]; exact hl
          exact ih (i + 1) (by omega) _ _ _ hH (lv_sub hl [2, 3, 4, 1, 0] rfl)
  replace hl : lv_has ls 5 [(4, .int (nI 0)), (3, .int (lw_or (fun k => lw_gv M (6 * j + k)) 0)), (0, .ref (B + 412)), (1, .ref (B + 414)), (2, .int (nI j))] := by skip; exact hl
  exact cut_5 7 0 (by omega) _ _ _ hH (lv_sub hl [2, 3, 4, 1, 0] rfl)

set_option maxHeartbeats 4000000 in
set_option maxRecDepth 100000 in
/-- whether a link has a number -/
theorem k_L_has (l : Launch) (E : rg_Env) (B : Nat) (M : rg_Mem) (n : Nat) (j : Nat) (x : Int32) (hn : 422 ≤ n) (hj : j < 10) : Met l yL_has (rg_w yL_has cL_has 5 (some (FieldType.boolean))) ({ frames := 0, cells := 0, slots := 0, locals := 0 } : Room) (va_Pc [.ref (B + 414), .int (nI j), .int (x)] (rg_Pre E B n rg_R0 M)) (rg_Ri E B n rg_R0 (M) (fun r => r = rg_b (lw_an (lw_hp M j x) 6 = true))) 0 0 (rg_A B) := by
  refine rg_ofW (by decide +kernel) rfl (Nat.le_of_ble_eq_true rfl) ?_
  intro p e s m args below meth c ls C0 hH hl hr hlocks hnm
  replace hl : lv_has ls 5 [(0, .ref (B + 414)), (1, .int (nI j)), (2, .int (x))] := hl
  have hx := C0.1.1
  have hb := C0.1.2.1
  generalize hH9 : s.heap = H at hH ⊢
  generalize hL9 : ([] : List Loc) = locs at hH ⊢
  clear hH9 hL9
  refine lv_iconst (v := 0) hx hb dL_has_0 (by decide) ?_
  refine lv_istore_n (lv' := [(3, .int (0)), (0, .ref (B + 414)), (1, .int (nI j)), (2, .int (x))]) hx hb dL_has_1 rfl hl (by decide) rfl (fun ls hl => ?_)
  refine lv_iconst (v := 0) hx hb dL_has_2 (by decide) ?_
  refine lv_istore (lv' := [(4, .int (0)), (3, .int (0)), (0, .ref (B + 414)), (1, .int (nI j)), (2, .int (x))]) hx hb dL_has_3 hl (by decide) rfl (fun ls hl => ?_)
  have cut_5 : ∀ (fu i : Nat), i ≤ 6 ∧ 6 < i + fu → ∀  (H : Heap) (locs : List Loc) (ls : Array Slot), rg_H E B n rg_R0 M s H locs → lv_has ls 5 [(0, .ref (B + 414)), (1, .int (nI j)), (2, .int (x)), (3, .int (rg_b (lw_an (lw_hp M j x) i = true))), (4, .int (nI i))] → W p l e ({ frames := 0, cells := 0, slots := 0, locals := 0 } : Room) s m args below meth c H locs 0 0 (MQ below (rg_Ri E B n rg_R0 (M) (fun r => r = rg_b (lw_an (lw_hp M j x) 6 = true))) args s 0 0 (rg_A B)) (F0 m 5 ls []) := by
    intro fu
    induction fu with
    | zero =>
      intro i hm
      exact absurd hm (by omega)
    | succ fu ih =>
      intro i hm  H locs ls hH hl 
      refine lv_iload hx hb dL_has_5 (lv_at hl 4 rfl) ?_
      refine lv_bipush (v := 6) hx hb dL_has_7 (by decide) ?_
      refine lv_icmp_ge (tgt := 41) hx hb dL_has_9 (by decide) (fun c_9 => ?_) (fun c_9 => ?_)
      · refine lv_iload_n hx hb dL_has_41 rfl (lv_at hl 3 rfl) ?_
        exact rg_retRz C0 hH hr hlocks (by exact rg_b_01) rfl (by rw [rg_lp_end (n := 6) hm.1 (by omega) c_9]) dL_has_42
      · have h6 := rg_lp_lt (n := 6) hm.1 (by omega) c_9
        refine lv_iload_n hx hb dL_has_12 rfl (lv_at hl 3 rfl) ?_
        refine lv_if_ne (tgt := 29) hx hb dL_has_13 (by decide) (fun c_13 => ?_) (fun c_13 => ?_)
        · refine lv_iconst (v := 1) hx hb dL_has_29 (by decide) ?_
          refine lv_goto (tgt := 34) hx hb dL_has_30 (by decide) ?_
          refine lv_istore_n (lv' := [(3, .int (1)), (0, .ref (B + 414)), (1, .int (nI j)), (2, .int (x)), (4, .int (nI i))]) hx hb dL_has_34 rfl hl (by decide) rfl (fun ls hl => ?_)
          refine lv_iinc (v := nI (i + 1)) (lv' := [(4, .int (nI (i + 1))), (3, .int (1)), (0, .ref (B + 414)), (1, .int (nI j)), (2, .int (x))]) hx hb dL_has_35 hl (k := 4) rfl (nI_1 _) (by decide) rfl (fun ls hl => ?_)
          refine lv_goto (tgt := 5) hx hb dL_has_38 (by decide) ?_
          replace hl : lv_has ls 5 [(4, .int (nI (i + 1))), (3, .int (rg_b (lw_an (lw_hp M j x) (i + 1) = true))), (0, .ref (B + 414)), (1, .int (nI j)), (2, .int (x))] := by rw [← lw_an_a c_13]; exact hl
          exact ih (i + 1) (by omega) _ _ _ hH (lv_sub hl [2, 3, 4, 1, 0] rfl)
        · refine lv_aload_n hx hb dL_has_16 rfl (lv_at hl 0 rfl) ?_
          refine lv_bipush (v := 6) hx hb dL_has_17 (by decide) ?_
          refine lv_iload_n hx hb dL_has_19 rfl (lv_at hl 1 rfl) ?_
          refine lv_imul hx hb dL_has_20 ?_
          refine rg_topi (y := nI (6 * j)) (by exact lw_mul (6) (j)) ?_
          refine lv_iload hx hb dL_has_21 (lv_at hl 4 rfl) ?_
          refine lv_iadd hx hb dL_has_23 ?_
          refine rg_topi (y := nI ((6 * j) + i)) (by exact nI_add (6 * j) (i)) ?_
          refine rg_ialdN C0 hH (o := 414) (j := ((6 * j) + i)) (n0 := 64) (by omega) rfl rfl (by omega) dL_has_24 ?_
          refine lv_iload_n hx hb dL_has_25 rfl (lv_at hl 2 rfl) ?_
          refine lv_icmp_ne (tgt := 33) hx hb dL_has_26 (by decide) (fun c_26 => ?_) (fun c_26 => ?_)
          · refine lv_iconst (v := 0) hx hb dL_has_33 (by decide) ?_
            refine lv_istore_n (lv' := [(3, .int (0)), (0, .ref (B + 414)), (1, .int (nI j)), (2, .int (x)), (4, .int (nI i))]) hx hb dL_has_34 rfl hl (by decide) rfl (fun ls hl => ?_)
            refine lv_iinc (v := nI (i + 1)) (lv' := [(4, .int (nI (i + 1))), (3, .int (0)), (0, .ref (B + 414)), (1, .int (nI j)), (2, .int (x))]) hx hb dL_has_35 hl (k := 4) rfl (nI_1 _) (by decide) rfl (fun ls hl => ?_)
            refine lv_goto (tgt := 5) hx hb dL_has_38 (by decide) ?_
            replace hl : lv_has ls 5 [(4, .int (nI (i + 1))), (3, .int (rg_b (lw_an (lw_hp M j x) (i + 1) = true))), (0, .ref (B + 414)), (1, .int (nI j)), (2, .int (x))] := by rw [← lw_an_c c_13 (by simpa using c_26)]; exact hl
            exact ih (i + 1) (by omega) _ _ _ hH (lv_sub hl [2, 3, 4, 1, 0] rfl)
          · refine lv_iconst (v := 1) hx hb dL_has_29 (by decide) ?_
            refine lv_goto (tgt := 34) hx hb dL_has_30 (by decide) ?_
            refine lv_istore_n (lv' := [(3, .int (1)), (0, .ref (B + 414)), (1, .int (nI j)), (2, .int (x)), (4, .int (nI i))]) hx hb dL_has_34 rfl hl (by decide) rfl (fun ls hl => ?_)
            refine lv_iinc (v := nI (i + 1)) (lv' := [(4, .int (nI (i + 1))), (3, .int (1)), (0, .ref (B + 414)), (1, .int (nI j)), (2, .int (x))]) hx hb dL_has_35 hl (k := 4) rfl (nI_1 _) (by decide) rfl (fun ls hl => ?_)
            refine lv_goto (tgt := 5) hx hb dL_has_38 (by decide) ?_
            replace hl : lv_has ls 5 [(4, .int (nI (i + 1))), (3, .int (rg_b (lw_an (lw_hp M j x) (i + 1) = true))), (0, .ref (B + 414)), (1, .int (nI j)), (2, .int (x))] := by rw [← lw_an_b (p := lw_hp M j x) (k := i) (by simpa using c_26)]; exact hl
            exact ih (i + 1) (by omega) _ _ _ hH (lv_sub hl [2, 3, 4, 1, 0] rfl)
  replace hl : lv_has ls 5 [(4, .int (nI 0)), (3, .int (rg_b (lw_an (lw_hp M j x) 0 = true))), (0, .ref (B + 414)), (1, .int (nI j)), (2, .int (x))] := by rw [show rg_b (lw_an (lw_hp M j x) 0 = true) = 0 from rfl, show nI 0 = 0 from rfl]; exact hl
  exact cut_5 7 0 (by omega) _ _ _ hH (lv_sub hl [2, 3, 4, 1, 0] rfl)
