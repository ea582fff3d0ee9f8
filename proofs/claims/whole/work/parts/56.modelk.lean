set_option maxHeartbeats 4000000 in
set_option maxRecDepth 100000 in
/-- prize -/
theorem k_X7_prize (l : Launch) (E : rg_Env) (B : Nat) (M : rg_Mem) (hI : rm_CI M) : Met l yX7_prize (rg_w yX7_prize cX7_prize 9 (some (FieldType.int))) ({ frames := 0, cells := 0, slots := 0, locals := 0 } : Room) (va_Pc [.ref (B + 412)] (rg_Pre E B 433 rg_R0 M)) (rg_Ri E B 433 rg_R0 (rg_I M 412 33 0) (fun r => r = (rm_best (rm_ps M) (rm_pc M) (rm_np M)).1)) 0 0 (rg_A B) := by
  refine rg_ofW (by decide +kernel) rfl (Nat.le_of_ble_eq_true rfl) ?_
  intro p e s m args below meth c ls C0 hH hl hr hlocks hnm
  replace hl : lv_has ls 9 [(0, .ref (B + 412))] := hl
  have hx := C0.1.1
  have hb := C0.1.2.1
  generalize hH9 : s.heap = H at hH ⊢
  generalize hL9 : ([] : List Loc) = locs at hH ⊢
  clear hH9 hL9
  have hp6 := (rm_CI_p hI).2
  refine lv_aload_n hx hb dX7_prize_0 rfl (lv_at hl 0 rfl) ?_
  refine lv_iconst (v := 0) hx hb dX7_prize_1 (by decide) ?_
  refine rg_pI C0 hH (v := 0) tyX7 tyX7_ok nmX7 (ci := 7) (k := 33) (o := 412) rfl inT_X7 (by decide) tw_f_X7_73 (by decide) rfl (by decide) rfl rfl rfl rfl dX7_prize_2 (fun H locs hH => ?_)
  refine lv_iconst (v := (-1)) hx hb dX7_prize_5 (by decide) ?_
  refine lv_istore_n (lv' := [(1, .int ((-1))), (0, .ref (B + 412))]) hx hb dX7_prize_6 rfl hl (by decide) rfl (fun ls hl => ?_)
  refine lv_iconst (v := 0) hx hb dX7_prize_7 (by decide) ?_
  refine lv_istore_n (lv' := [(2, .int (0)), (1, .int ((-1))), (0, .ref (B + 412))]) hx hb dX7_prize_8 rfl hl (by decide) rfl (fun ls hl => ?_)
  refine lv_iconst (v := 1) hx hb dX7_prize_9 (by decide) ?_
  refine lv_istore_n (lv' := [(3, .int (1)), (2, .int (0)), (1, .int ((-1))), (0, .ref (B + 412))]) hx hb dX7_prize_10 rfl hl (by decide) rfl (fun ls hl => ?_)
  refine lv_iconst (v := 0) hx hb dX7_prize_11 (by decide) ?_
  refine lv_istore (lv' := [(4, .int (0)), (3, .int (1)), (2, .int (0)), (1, .int ((-1))), (0, .ref (B + 412))]) hx hb dX7_prize_12 hl (by decide) rfl (fun ls hl => ?_)
  have cut_14 : ∀ (fu i : Nat), i ≤ rm_np M ∧ rm_np M < i + fu → ∀  (H : Heap) (locs : List Loc) (ls : Array Slot), rg_H E B 433 rg_R0 (rg_I M 412 33 0) s H locs → lv_has ls 9 [(0, .ref (B + 412)), (1, .int ((rm_best (rm_ps M) (rm_pc M) i).1)), (2, .int ((rm_best (rm_ps M) (rm_pc M) i).2.1)), (3, .int ((rm_best (rm_ps M) (rm_pc M) i).2.2)), (4, .int (nI i))] → W p l e ({ frames := 0, cells := 0, slots := 0, locals := 0 } : Room) s m args below meth c H locs 0 0 (MQ below (rg_Ri E B 433 rg_R0 (rg_I M 412 33 0) (fun r => r = (rm_best (rm_ps M) (rm_pc M) (rm_np M)).1)) args s 0 0 (rg_A B)) (F0 m 14 ls []) := by
    intro fu
    induction fu with
    | zero =>
      intro i hm
      exact absurd hm (by omega)
    | succ fu ih =>
      intro i hm  H locs ls hH hl 
      refine lv_iload hx hb dX7_prize_14 (lv_at hl 4 rfl) ?_
      refine lv_aload_n hx hb dX7_prize_16 rfl (lv_at hl 0 rfl) ?_
      refine rg_gI C0 hH (ci := 7) (k := 5) (o := 412) rfl inT_X7 (by decide) tw_f_X7_83 (by decide) rfl (by decide) rfl dX7_prize_17 ?_
      refine rg_topi (y := nI (rm_np M)) (by exact (rm_CI_p hI).1) ?_
      refine lv_icmp_ge (tgt := 152) hx hb dX7_prize_20 (by decide) (fun c_20 => ?_) (fun c_20 => ?_)
      · refine lv_iload_n hx hb dX7_prize_152 rfl (lv_at hl 1 rfl) ?_
        exact rg_retRi C0 hH hr hlocks rfl (by rw [rg_lp_end hm.1 (by omega) c_20]) dX7_prize_153
      · have hlt := rg_lp_lt hm.1 (by omega) c_20
        refine lv_iconst (v := 0) hx hb dX7_prize_23 (by decide) ?_
        refine lv_istore (lv' := [(5, .int (0)), (0, .ref (B + 412)), (1, .int ((rm_best (rm_ps M) (rm_pc M) i).1)), (2, .int ((rm_best (rm_ps M) (rm_pc M) i).2.1)), (3, .int ((rm_best (rm_ps M) (rm_pc M) i).2.2)), (4, .int (nI i))]) hx hb dX7_prize_24 hl (by decide) rfl (fun ls hl => ?_)
        refine lv_iconst (v := 0) hx hb dX7_prize_26 (by decide) ?_
        refine lv_istore (lv' := [(6, .int (0)), (5, .int (0)), (0, .ref (B + 412)), (1, .int ((rm_best (rm_ps M) (rm_pc M) i).1)), (2, .int ((rm_best (rm_ps M) (rm_pc M) i).2.1)), (3, .int ((rm_best (rm_ps M) (rm_pc M) i).2.2)), (4, .int (nI i))]) hx hb dX7_prize_27 hl (by decide) rfl (fun ls hl => ?_)
        refine lv_iconst (v := 0) hx hb dX7_prize_29 (by decide) ?_
        refine lv_istore (lv' := [(7, .int (0)), (6, .int (0)), (5, .int (0)), (0, .ref (B + 412)), (1, .int ((rm_best (rm_ps M) (rm_pc M) i).1)), (2, .int ((rm_best (rm_ps M) (rm_pc M) i).2.1)), (3, .int ((rm_best (rm_ps M) (rm_pc M) i).2.2)), (4, .int (nI i))]) hx hb dX7_prize_30 hl (by decide) rfl (fun ls hl => ?_)
        have cut_32 : ∀ (fu2 j : Nat), j ≤ 144 ∧ 144 < j + fu2 → ∀  (H : Heap) (locs : List Loc) (ls : Array Slot), rg_H E B 433 rg_R0 (rg_I M 412 33 0) s H locs → lv_has ls 9 [(0, .ref (B + 412)), (1, .int ((rm_best (rm_ps M) (rm_pc M) i).1)), (2, .int ((rm_best (rm_ps M) (rm_pc M) i).2.1)), (3, .int ((rm_best (rm_ps M) (rm_pc M) i).2.2)), (4, .int (nI i)), (5, .int (rm_pk (rm_pb M i) (fun k => M.1 423 k - 1) j)), (6, .int (rm_pk (rm_pb M i) (fun _ => 1) j)), (7, .int (nI j))] → W p l e ({ frames := 0, cells := 0, slots := 0, locals := 0 } : Room) s m args below meth c H locs 0 0 (MQ below (rg_Ri E B 433 rg_R0 (rg_I M 412 33 0) (fun r => r = (rm_best (rm_ps M) (rm_pc M) (rm_np M)).1)) args s 0 0 (rg_A B)) (F0 m 32 ls []) := by
          intro fu2
          induction fu2 with
          | zero =>
            intro j hm2
            exact absurd hm2 (by omega)
          | succ fu2 ih2 =>
            intro j hm2  H locs ls hH hl 
            refine lv_iload hx hb dX7_prize_32 (lv_at hl 7 rfl) ?_
            refine lv_sipush (v := 144) hx hb dX7_prize_34 (by decide) ?_
            refine lv_icmp_ge (tgt := 116) hx hb dX7_prize_37 (by decide) (fun c_37 => ?_) (fun c_37 => ?_)
            · replace hl : lv_has ls 9 [(0, .ref (B + 412)), (1, .int ((rm_best (rm_ps M) (rm_pc M) i).1)), (2, .int ((rm_best (rm_ps M) (rm_pc M) i).2.1)), (3, .int ((rm_best (rm_ps M) (rm_pc M) i).2.2)), (4, .int (nI i)), (5, .int (rm_ps M i)), (6, .int (rm_pc M i)), (7, .int (nI 144))] := by rw [show j = 144 from rg_lp_end (n := 144) hm2.1 (by omega) c_37] at hl; exact hl
              refine lv_iload hx hb dX7_prize_116 (lv_at hl 6 rfl) ?_
              refine lv_if_le (tgt := 146) hx hb dX7_prize_118 (by decide) (fun c_118 => ?_) (fun c_118 => ?_)
              · refine lv_iinc (v := nI (i + 1)) (lv' := [(4, .int (nI (i + 1))), (0, .ref (B + 412)), (1, .int ((rm_best (rm_ps M) (rm_pc M) i).1)), (2, .int ((rm_best (rm_ps M) (rm_pc M) i).2.1)), (3, .int ((rm_best (rm_ps M) (rm_pc M) i).2.2)), (5, .int (rm_ps M i)), (6, .int (rm_pc M i)), (7, .int (nI 144))]) hx hb dX7_prize_146 hl (k := 4) rfl (nI_1 _) (by decide) rfl (fun ls hl => ?_)
                refine lv_goto (tgt := 14) hx hb dX7_prize_149 (by decide) ?_
                replace hl : lv_has ls 9 [(4, .int (nI (i + 1))), (0, .ref (B + 412)), (1, .int ((rm_best (rm_ps M) (rm_pc M) (i + 1)).1)), (2, .int ((rm_best (rm_ps M) (rm_pc M) (i + 1)).2.1)), (3, .int ((rm_best (rm_ps M) (rm_pc M) (i + 1)).2.2)), (5, .int (rm_ps M i)), (6, .int (rm_pc M i)), (7, .int (nI 144))] := by rw [rm_best_f (fun q => q.1 c_118)]; exact hl
                exact ih (i + 1) (by omega) _ _ _ hH (lv_sub hl [1, 2, 3, 4, 0] rfl)
              · refine lv_iload_n hx hb dX7_prize_121 rfl (lv_at hl 1 rfl) ?_
                refine lv_iconst (v := (-1)) hx hb dX7_prize_122 (by decide) ?_
                refine lv_icmp_eq (tgt := 137) hx hb dX7_prize_123 (by decide) (fun c_123 => ?_) (fun c_123 => ?_)
                · refine lv_iload hx hb dX7_prize_137 (lv_at hl 4 rfl) ?_
                  refine lv_istore_n (lv' := [(1, .int (nI i)), (0, .ref (B + 412)), (2, .int ((rm_best (rm_ps M) (rm_pc M) i).2.1)), (3, .int ((rm_best (rm_ps M) (rm_pc M) i).2.2)), (4, .int (nI i)), (5, .int (rm_ps M i)), (6, .int (rm_pc M i)), (7, .int (nI 144))]) hx hb dX7_prize_139 rfl hl (by decide) rfl (fun ls hl => ?_)
                  refine lv_iload hx hb dX7_prize_140 (lv_at hl 5 rfl) ?_
                  refine lv_istore_n (lv' := [(2, .int (rm_ps M i)), (1, .int (nI i)), (0, .ref (B + 412)), (3, .int ((rm_best (rm_ps M) (rm_pc M) i).2.2)), (4, .int (nI i)), (5, .int (rm_ps M i)), (6, .int (rm_pc M i)), (7, .int (nI 144))]) hx hb dX7_prize_142 rfl hl (by decide) rfl (fun ls hl => ?_)
                  refine lv_iload hx hb dX7_prize_143 (lv_at hl 6 rfl) ?_
                  refine lv_istore_n (lv' := [(3, .int (rm_pc M i)), (2, .int (rm_ps M i)), (1, .int (nI i)), (0, .ref (B + 412)), (4, .int (nI i)), (5, .int (rm_ps M i)), (6, .int (rm_pc M i)), (7, .int (nI 144))]) hx hb dX7_prize_145 rfl hl (by decide) rfl (fun ls hl => ?_)
                  refine lv_iinc (v := nI (i + 1)) (lv' := [(4, .int (nI (i + 1))), (3, .int (rm_pc M i)), (2, .int (rm_ps M i)), (1, .int (nI i)), (0, .ref (B + 412)), (5, .int (rm_ps M i)), (6, .int (rm_pc M i)), (7, .int (nI 144))]) hx hb dX7_prize_146 hl (k := 4) rfl (nI_1 _) (by decide) rfl (fun ls hl => ?_)
                  refine lv_goto (tgt := 14) hx hb dX7_prize_149 (by decide) ?_
                  replace hl : lv_has ls 9 [(4, .int (nI (i + 1))), (3, .int ((rm_best (rm_ps M) (rm_pc M) (i + 1)).2.2)), (2, .int ((rm_best (rm_ps M) (rm_pc M) (i + 1)).2.1)), (1, .int ((rm_best (rm_ps M) (rm_pc M) (i + 1)).1)), (0, .ref (B + 412)), (5, .int (rm_ps M i)), (6, .int (rm_pc M i)), (7, .int (nI 144))] := by rw [rm_best_t ⟨c_118, Or.inl c_123⟩]; exact hl
                  exact ih (i + 1) (by omega) _ _ _ hH (lv_sub hl [4, 3, 2, 1, 0] rfl)
                · refine lv_iload hx hb dX7_prize_126 (lv_at hl 5 rfl) ?_
                  refine lv_iload_n hx hb dX7_prize_128 rfl (lv_at hl 3 rfl) ?_
                  refine lv_imul hx hb dX7_prize_129 ?_
                  refine lv_iload_n hx hb dX7_prize_130 rfl (lv_at hl 2 rfl) ?_
                  refine lv_iload hx hb dX7_prize_131 (lv_at hl 6 rfl) ?_
                  refine lv_imul hx hb dX7_prize_133 ?_
                  refine lv_icmp_le (tgt := 146) hx hb dX7_prize_134 (by decide) (fun c_134 => ?_) (fun c_134 => ?_)
                  · refine lv_iinc (v := nI (i + 1)) (lv' := [(4, .int (nI (i + 1))), (0, .ref (B + 412)), (1, .int ((rm_best (rm_ps M) (rm_pc M) i).1)), (2, .int ((rm_best (rm_ps M) (rm_pc M) i).2.1)), (3, .int ((rm_best (rm_ps M) (rm_pc M) i).2.2)), (5, .int (rm_ps M i)), (6, .int (rm_pc M i)), (7, .int (nI 144))]) hx hb dX7_prize_146 hl (k := 4) rfl (nI_1 _) (by decide) rfl (fun ls hl => ?_)
                    refine lv_goto (tgt := 14) hx hb dX7_prize_149 (by decide) ?_
                    replace hl : lv_has ls 9 [(4, .int (nI (i + 1))), (0, .ref (B + 412)), (1, .int ((rm_best (rm_ps M) (rm_pc M) (i + 1)).1)), (2, .int ((rm_best (rm_ps M) (rm_pc M) (i + 1)).2.1)), (3, .int ((rm_best (rm_ps M) (rm_pc M) (i + 1)).2.2)), (5, .int (rm_ps M i)), (6, .int (rm_pc M i)), (7, .int (nI 144))] := by rw [rm_best_f (fun q => q.2.elim c_123 (rg_nlt_of c_134))]; exact hl
                    exact ih (i + 1) (by omega) _ _ _ hH (lv_sub hl [1, 2, 3, 4, 0] rfl)
                  · refine lv_iload hx hb dX7_prize_137 (lv_at hl 4 rfl) ?_
                    refine lv_istore_n (lv' := [(1, .int (nI i)), (0, .ref (B + 412)), (2, .int ((rm_best (rm_ps M) (rm_pc M) i).2.1)), (3, .int ((rm_best (rm_ps M) (rm_pc M) i).2.2)), (4, .int (nI i)), (5, .int (rm_ps M i)), (6, .int (rm_pc M i)), (7, .int (nI 144))]) hx hb dX7_prize_139 rfl hl (by decide) rfl (fun ls hl => ?_)
                    refine lv_iload hx hb dX7_prize_140 (lv_at hl 5 rfl) ?_
                    refine lv_istore_n (lv' := [(2, .int (rm_ps M i)), (1, .int (nI i)), (0, .ref (B + 412)), (3, .int ((rm_best (rm_ps M) (rm_pc M) i).2.2)), (4, .int (nI i)), (5, .int (rm_ps M i)), (6, .int (rm_pc M i)), (7, .int (nI 144))]) hx hb dX7_prize_142 rfl hl (by decide) rfl (fun ls hl => ?_)
                    refine lv_iload hx hb dX7_prize_143 (lv_at hl 6 rfl) ?_
                    refine lv_istore_n (lv' := [(3, .int (rm_pc M i)), (2, .int (rm_ps M i)), (1, .int (nI i)), (0, .ref (B + 412)), (4, .int (nI i)), (5, .int (rm_ps M i)), (6, .int (rm_pc M i)), (7, .int (nI 144))]) hx hb dX7_prize_145 rfl hl (by decide) rfl (fun ls hl => ?_)
                    refine lv_iinc (v := nI (i + 1)) (lv' := [(4, .int (nI (i + 1))), (3, .int (rm_pc M i)), (2, .int (rm_ps M i)), (1, .int (nI i)), (0, .ref (B + 412)), (5, .int (rm_ps M i)), (6, .int (rm_pc M i)), (7, .int (nI 144))]) hx hb dX7_prize_146 hl (k := 4) rfl (nI_1 _) (by decide) rfl (fun ls hl => ?_)
                    refine lv_goto (tgt := 14) hx hb dX7_prize_149 (by decide) ?_
                    replace hl : lv_has ls 9 [(4, .int (nI (i + 1))), (3, .int ((rm_best (rm_ps M) (rm_pc M) (i + 1)).2.2)), (2, .int ((rm_best (rm_ps M) (rm_pc M) (i + 1)).2.1)), (1, .int ((rm_best (rm_ps M) (rm_pc M) (i + 1)).1)), (0, .ref (B + 412)), (5, .int (rm_ps M i)), (6, .int (rm_pc M i)), (7, .int (nI 144))] := by rw [rm_best_t ⟨c_118, Or.inr (rg_lt_of c_134)⟩]; exact hl
                    exact ih (i + 1) (by omega) _ _ _ hH (lv_sub hl [4, 3, 2, 1, 0] rfl)
            · have hlt2 := rg_lp_lt (n := 144) hm2.1 (by omega) c_37
              refine lv_aload_n hx hb dX7_prize_40 rfl (lv_at hl 0 rfl) ?_
              have cut_70 : ∀  (H : Heap) (locs : List Loc) (ls : Array Slot), rg_H E B 433 rg_R0 (rg_I M 412 33 0) s H locs → lv_has ls 9 [(0, .ref (B + 412)), (1, .int ((rm_best (rm_ps M) (rm_pc M) i).1)), (2, .int ((rm_best (rm_ps M) (rm_pc M) i).2.1)), (3, .int ((rm_best (rm_ps M) (rm_pc M) i).2.2)), (4, .int (nI i)), (5, .int (rm_pk (rm_pb M i) (fun k => M.1 423 k - 1) j)), (6, .int (rm_pk (rm_pb M i) (fun _ => 1) j)), (7, .int (nI j))] → W p l e ({ frames := 0, cells := 0, slots := 0, locals := 0 } : Room) s m args below meth c H locs 0 0 (MQ below (rg_Ri E B 433 rg_R0 (rg_I M 412 33 0) (fun r => r = (rm_best (rm_ps M) (rm_pc M) (rm_np M)).1)) args s 0 0 (rg_A B)) (F0 m 70 ls [.int (rg_b ((rm_pb M i) j = true))]) := by
                intro  H locs ls hH hl 
                refine lv_istore (lv' := [(8, .int (rg_b ((rm_pb M i) j = true))), (0, .ref (B + 412)), (1, .int ((rm_best (rm_ps M) (rm_pc M) i).1)), (2, .int ((rm_best (rm_ps M) (rm_pc M) i).2.1)), (3, .int ((rm_best (rm_ps M) (rm_pc M) i).2.2)), (4, .int (nI i)), (5, .int (rm_pk (rm_pb M i) (fun k => M.1 423 k - 1) j)), (6, .int (rm_pk (rm_pb M i) (fun _ => 1) j)), (7, .int (nI j))]) hx hb dX7_prize_70 hl (by decide) rfl (fun ls hl => ?_)
                refine lv_iload hx hb dX7_prize_72 (lv_at hl 6 rfl) ?_
                refine lv_iload hx hb dX7_prize_74 (lv_at hl 0 rfl) ?_
                have cut_92 : ∀  (H : Heap) (locs : List Loc) (ls : Array Slot), rg_H E B 433 rg_R0 (rg_I M 412 33 0) s H locs → lv_has ls 9 [(8, .int (rg_b ((rm_pb M i) j = true))), (0, .ref (B + 412)), (1, .int ((rm_best (rm_ps M) (rm_pc M) i).1)), (2, .int ((rm_best (rm_ps M) (rm_pc M) i).2.1)), (3, .int ((rm_best (rm_ps M) (rm_pc M) i).2.2)), (4, .int (nI i)), (5, .int (rm_pk (rm_pb M i) (fun k => M.1 423 k - 1) j)), (6, .int (rm_pk (rm_pb M i) (fun _ => 1) j)), (7, .int (nI j))] → W p l e ({ frames := 0, cells := 0, slots := 0, locals := 0 } : Room) s m args below meth c H locs 0 0 (MQ below (rg_Ri E B 433 rg_R0 (rg_I M 412 33 0) (fun r => r = (rm_best (rm_ps M) (rm_pc M) (rm_np M)).1)) args s 0 0 (rg_A B)) (F0 m 92 ls [.int ((if (rm_pb M i) j = true then M.1 423 j - 1 else 0)), .int (rm_pk (rm_pb M i) (fun k => M.1 423 k - 1) j)]) := by
                  intro  H locs ls hH hl 
                  refine lv_iadd hx hb dX7_prize_92 ?_
                  refine rg_topi (y := rm_pk (rm_pb M i) (fun k => M.1 423 k - 1) (j + 1)) (by exact rfl) ?_
                  refine lv_istore (lv' := [(5, .int (rm_pk (rm_pb M i) (fun k => M.1 423 k - 1) (j + 1))), (8, .int (rg_b ((rm_pb M i) j = true))), (0, .ref (B + 412)), (1, .int ((rm_best (rm_ps M) (rm_pc M) i).1)), (2, .int ((rm_best (rm_ps M) (rm_pc M) i).2.1)), (3, .int ((rm_best (rm_ps M) (rm_pc M) i).2.2)), (4, .int (nI i)), (6, .int (rm_pk (rm_pb M i) (fun _ => 1) j)), (7, .int (nI j))]) hx hb dX7_prize_93 hl (by decide) rfl (fun ls hl => ?_)
                  refine lv_iload hx hb dX7_prize_95 (lv_at hl 7 rfl) ?_
                  refine lv_iload hx hb dX7_prize_97 (lv_at hl 1 rfl) ?_
                  have cut_107 : ∀  (H : Heap) (locs : List Loc) (ls : Array Slot), rg_H E B 433 rg_R0 (rg_I M 412 33 0) s H locs → lv_has ls 9 [(5, .int (rm_pk (rm_pb M i) (fun k => M.1 423 k - 1) (j + 1))), (8, .int (rg_b ((rm_pb M i) j = true))), (0, .ref (B + 412)), (1, .int ((rm_best (rm_ps M) (rm_pc M) i).1)), (2, .int ((rm_best (rm_ps M) (rm_pc M) i).2.1)), (3, .int ((rm_best (rm_ps M) (rm_pc M) i).2.2)), (4, .int (nI i)), (6, .int (rm_pk (rm_pb M i) (fun _ => 1) j)), (7, .int (nI j))] → W p l e ({ frames := 0, cells := 0, slots := 0, locals := 0 } : Room) s m args below meth c H locs 0 0 (MQ below (rg_Ri E B 433 rg_R0 (rg_I M 412 33 0) (fun r => r = (rm_best (rm_ps M) (rm_pc M) (rm_np M)).1)) args s 0 0 (rg_A B)) (F0 m 107 ls [.int ((if (rm_pb M i) j = true then (1 : Int32) else 0)), .int (rm_pk (rm_pb M i) (fun _ => 1) j)]) := by
                    intro  H locs ls hH hl 
                    refine lv_iadd hx hb dX7_prize_107 ?_
                    refine rg_topi (y := rm_pk (rm_pb M i) (fun _ => 1) (j + 1)) (by exact rfl) ?_
                    refine lv_istore (lv' := [(6, .int (rm_pk (rm_pb M i) (fun _ => 1) (j + 1))), (5, .int (rm_pk (rm_pb M i) (fun k => M.1 423 k - 1) (j + 1))), (8, .int (rg_b ((rm_pb M i) j = true))), (0, .ref (B + 412)), (1, .int ((rm_best (rm_ps M) (rm_pc M) i).1)), (2, .int ((rm_best (rm_ps M) (rm_pc M) i).2.1)), (3, .int ((rm_best (rm_ps M) (rm_pc M) i).2.2)), (4, .int (nI i)), (7, .int (nI j))]) hx hb dX7_prize_108 hl (by decide) rfl (fun ls hl => ?_)
                    refine lv_iinc (v := nI (j + 1)) (lv' := [(7, .int (nI (j + 1))), (6, .int (rm_pk (rm_pb M i) (fun _ => 1) (j + 1))), (5, .int (rm_pk (rm_pb M i) (fun k => M.1 423 k - 1) (j + 1))), (8, .int (rg_b ((rm_pb M i) j = true))), (0, .ref (B + 412)), (1, .int ((rm_best (rm_ps M) (rm_pc M) i).1)), (2, .int ((rm_best (rm_ps M) (rm_pc M) i).2.1)), (3, .int ((rm_best (rm_ps M) (rm_pc M) i).2.2)), (4, .int (nI i))]) hx hb dX7_prize_110 hl (k := 8) rfl (nI_1 _) (by decide) rfl (fun ls hl => ?_)
                    refine lv_goto (tgt := 32) hx hb dX7_prize_113 (by decide) ?_
                    exact ih2 (j + 1) (by omega) _ _ _ hH (lv_sub hl [4, 5, 6, 7, 8, 2, 1, 0] rfl)
                  refine lv_if_eq (tgt := 106) hx hb dX7_prize_99 (by decide) (fun c_99 => ?_) (fun c_99 => ?_)
                  · refine lv_iconst (v := 0) hx hb dX7_prize_106 (by decide) ?_
                    refine rg_topi (y := (if (rm_pb M i) j = true then (1 : Int32) else 0)) (by rw [if_neg (rg_b_eq.mp c_99)]) ?_
                    exact cut_107 _ _ _ hH (lv_sub hl [0, 1, 2, 3, 4, 5, 6, 7, 8] rfl)
                  · refine lv_iconst (v := 1) hx hb dX7_prize_102 (by decide) ?_
                    refine lv_goto (tgt := 107) hx hb dX7_prize_103 (by decide) ?_
                    refine rg_topi (y := (if (rm_pb M i) j = true then (1 : Int32) else 0)) (by rw [if_pos (rg_b_ne.mp c_99)]) ?_
                    exact cut_107 _ _ _ hH (lv_sub hl [0, 1, 2, 3, 4, 5, 6, 7, 8] rfl)
                refine lv_if_eq (tgt := 91) hx hb dX7_prize_76 (by decide) (fun c_76 => ?_) (fun c_76 => ?_)
                · refine lv_iconst (v := 0) hx hb dX7_prize_91 (by decide) ?_
                  refine rg_topi (y := (if (rm_pb M i) j = true then M.1 423 j - 1 else 0)) (by rw [if_neg (rg_b_eq.mp c_76)]) ?_
                  exact cut_92 _ _ _ hH (lv_sub hl [0, 1, 2, 3, 4, 5, 6, 7, 8] rfl)
                · refine lv_aload_n hx hb dX7_prize_79 rfl (lv_at hl 1 rfl) ?_
                  refine rg_gR C0 hH (o2 := 423) (ci := 7) (k := 18) (o := 412) rfl rfl inT_X7 (by decide) tw_f_X7_42 (by decide) rfl (by decide) rfl dX7_prize_80 ?_
                  refine lv_iload hx hb dX7_prize_83 (lv_at hl 8 rfl) ?_
                  refine rg_ialdN C0 hH (o := 423) (j := j) (n0 := 144) (by decide) rfl rfl (by omega) dX7_prize_85 ?_
                  refine rg_topi (y := M.1 423 j) (by exact rfl) ?_
                  refine lv_iconst (v := 1) hx hb dX7_prize_86 (by decide) ?_
                  refine lv_isub hx hb dX7_prize_87 ?_
                  refine lv_goto (tgt := 92) hx hb dX7_prize_88 (by decide) ?_
                  refine rg_topi (y := (if (rm_pb M i) j = true then M.1 423 j - 1 else 0)) (by rw [if_pos (rg_b_ne.mp c_76)]) ?_
                  exact cut_92 _ _ _ hH (lv_sub hl [0, 1, 2, 3, 4, 5, 6, 7, 8] rfl)
              refine rg_gR C0 hH (o2 := 423) (ci := 7) (k := 18) (o := 412) rfl rfl inT_X7 (by decide) tw_f_X7_42 (by decide) rfl (by decide) rfl dX7_prize_41 ?_
              refine lv_iload hx hb dX7_prize_44 (lv_at hl 7 rfl) ?_
              refine rg_ialdN C0 hH (o := 423) (j := j) (n0 := 144) (by decide) rfl rfl (by omega) dX7_prize_46 ?_
              refine rg_topi (y := M.1 423 j) (by exact rfl) ?_
              refine lv_if_le (tgt := 69) hx hb dX7_prize_47 (by decide) (fun c_47 => ?_) (fun c_47 => ?_)
              · refine lv_iconst (v := 0) hx hb dX7_prize_69 (by decide) ?_
                refine rg_topi (y := rg_b ((rm_pb M i) j = true)) (by first | exact rg_b_f (fun q => (of_decide_eq_true q).1 c_47) | exact rg_b_f (fun q => c_62 (of_decide_eq_true q).2)) ?_
                exact cut_70 _ _ _ hH (lv_sub hl [0, 1, 2, 3, 4, 5, 6, 7] rfl)
              · refine lv_aload_n hx hb dX7_prize_50 rfl (lv_at hl 0 rfl) ?_
                refine rg_gR C0 hH (o2 := 419) (ci := 7) (k := 14) (o := 412) rfl rfl inT_X7 (by decide) tw_f_X7_29 (by decide) rfl (by decide) rfl dX7_prize_51 ?_
                refine lv_iload hx hb dX7_prize_54 (lv_at hl 7 rfl) ?_
                refine lv_bipush (v := 36) hx hb dX7_prize_56 (by decide) ?_
                refine lv_irem hx hb dX7_prize_58 (by decide) ?_
                refine rg_topi (y := nI (j % 36)) (by exact rm_mod36 j (by omega)) ?_
                refine rg_ialdN C0 hH (o := 419) (j := (j % 36)) (n0 := 36) (by decide) rfl rfl (by omega) dX7_prize_59 ?_
                refine rg_topi (y := M.1 419 (j % 36)) (by exact rfl) ?_
                refine lv_iload hx hb dX7_prize_60 (lv_at hl 4 rfl) ?_
                refine lv_icmp_ne (tgt := 69) hx hb dX7_prize_62 (by decide) (fun c_62 => ?_) (fun c_62 => ?_)
                · refine lv_iconst (v := 0) hx hb dX7_prize_69 (by decide) ?_
                  refine rg_topi (y := rg_b ((rm_pb M i) j = true)) (by first | exact rg_b_f (fun q => (of_decide_eq_true q).1 c_47) | exact rg_b_f (fun q => c_62 (of_decide_eq_true q).2)) ?_
                  exact cut_70 _ _ _ hH (lv_sub hl [0, 1, 2, 3, 4, 5, 6, 7] rfl)
                · refine lv_iconst (v := 1) hx hb dX7_prize_65 (by decide) ?_
                  refine lv_goto (tgt := 70) hx hb dX7_prize_66 (by decide) ?_
                  refine rg_topi (y := rg_b ((rm_pb M i) j = true)) (by exact rg_b_t (decide_eq_true ⟨c_47, c_62⟩)) ?_
                  exact cut_70 _ _ _ hH (lv_sub hl [0, 1, 2, 3, 4, 5, 6, 7] rfl)
        exact cut_32 145 0 (by omega) _ _ _ hH (lv_sub hl [3, 4, 5, 6, 7, 2, 1, 0] rfl)
  exact cut_14 (rm_np M + 1) 0 (by omega) _ _ _ hH (lv_sub hl [4, 3, 2, 1, 0] rfl)

set_option maxHeartbeats 4000000 in
set_option maxRecDepth 100000 in
/-- hand -/
theorem k_X7_hand (l : Launch) (E : rg_Env) (B : Nat) (M : rg_Mem) (x : Int32) (hI : rm_CI M) : Met l yX7_hand (rg_w yX7_hand cX7_hand 10 (some (FieldType.int))) ({ frames := 2, cells := 0, slots := 0, locals := 49 } : Room) (va_Pc [.ref (B + 412), .int (x)] (rg_Pre E B 433 rg_R0 M)) (rg_Wi E B 433 rg_R0 (fun r M1 => (¬ rm_go (rg_b (rm_il M x)) 1 1 = 0 ∧ r = 0 ∧ M1 = rg_I M 412 33 (rm_go (rg_b (rm_il M x)) 1 1)) ∨ (rm_go (rg_b (rm_il M x)) 1 1 = 0 ∧ r = (rm_best (rm_lS M x.toNatClampNeg) (rm_lC M x.toNatClampNeg) (rm_np M)).1 ∧ M1 = (rg_I M 412 33 (rm_go (rg_b (rm_il M x)) 1 1))))) 0 0 (rg_A B) := by
  refine rg_ofW (by decide +kernel) rfl (Nat.le_of_ble_eq_true rfl) ?_
  intro p e s m args below meth c ls C0 hH hl hr hlocks hnm
  replace hl : lv_has ls 10 [(0, .ref (B + 412)), (1, .int (x))] := hl
  have hx := C0.1.1
  have hb := C0.1.2.1
  generalize hH9 : s.heap = H at hH ⊢
  generalize hL9 : ([] : List Loc) = locs at hH ⊢
  clear hH9 hL9
  refine lv_aload_n hx hb dX7_hand_0 rfl (lv_at hl 0 rfl) ?_
  refine lv_aload_n hx hb dX7_hand_1 rfl (lv_at hl 0 rfl) ?_
  refine lv_iload_n hx hb dX7_hand_2 rfl (lv_at hl 1 rfl) ?_
  refine rg_callGi C0 hH (As := [.int (x)]) (rest := [.ref (B + 412)]) (o := 412) (ci := 7) (k_X7_isLink l E B M x (by exact hI)) (rg_cw 1 C0.1.2.2.2.2 tw_m_X7_187 tw_i_X7_isLink tw_v_X7_isLink tw_n_X7 tw_c_X7_isLink rfl rfl hd_X7_isLink ⟨Nat.le_of_ble_eq_true rfl, Nat.le_of_ble_eq_true rfl⟩) rfl (by decide) rfl (by decide) rfl hl.1 rfl (Nat.le_of_ble_eq_true rfl) dX7_hand_3 ⟨Nat.le_of_ble_eq_true rfl, Nat.le_of_ble_eq_true rfl⟩ (fun H locs hH => ?_)
  refine lv_iconst (v := 1) hx hb dX7_hand_6 (by decide) ?_
  refine lv_iconst (v := 1) hx hb dX7_hand_7 (by decide) ?_
  refine rg_callGi C0 hH (As := [.int (rg_b (rm_il M x)), .int (1), .int (1)]) (rest := []) (o := 412) (ci := 7) (k_X7_goes l E B M (rg_b (rm_il M x)) 1 1) (rg_cw 3 C0.1.2.2.2.2 tw_m_X7_92 tw_i_X7_goes tw_v_X7_goes tw_n_X7 tw_c_X7_goes rfl rfl hd_X7_goes ⟨Nat.le_of_ble_eq_true rfl, Nat.le_of_ble_eq_true rfl⟩) rfl (by decide) rfl (by decide) rfl hl.1 rfl (Nat.le_of_ble_eq_true rfl) dX7_hand_8 ⟨Nat.le_of_ble_eq_true rfl, Nat.le_of_ble_eq_true rfl⟩ (fun H locs hH => ?_)
  refine lv_if_ne (tgt := 16) hx hb dX7_hand_11 (by decide) (fun c_11 => ?_) (fun c_11 => ?_)
  · have hg := rm_go_inv (rg_b_ne.mp c_11)
    have hP := rg_b_ne.mp hg.1
    obtain ⟨a, ha, ha36, hax⟩ := rm_il_in hI hP
    have hxn : x.toNatClampNeg = a := by rw [hax, nI_clamp (by omega)]
    have hza := rm_CI_v hI a ha
    have hl36 := (rm_CI_l hI).2
    have hp6 := (rm_CI_p hI).2
    replace hl : lv_has ls 10 [(0, .ref (B + 412)), (1, .int (nI a))] := by rw [← hax]; exact hl
    refine lv_iconst (v := (-1)) hx hb dX7_hand_16 (by decide) ?_
    refine lv_istore_n (lv' := [(2, .int ((-1))), (0, .ref (B + 412)), (1, .int (nI a))]) hx hb dX7_hand_17 rfl hl (by decide) rfl (fun ls hl => ?_)
    refine lv_iconst (v := 0) hx hb dX7_hand_18 (by decide) ?_
    refine lv_istore_n (lv' := [(3, .int (0)), (2, .int ((-1))), (0, .ref (B + 412)), (1, .int (nI a))]) hx hb dX7_hand_19 rfl hl (by decide) rfl (fun ls hl => ?_)
    refine lv_iconst (v := 1) hx hb dX7_hand_20 (by decide) ?_
    refine lv_istore (lv' := [(4, .int (1)), (3, .int (0)), (2, .int ((-1))), (0, .ref (B + 412)), (1, .int (nI a))]) hx hb dX7_hand_21 hl (by decide) rfl (fun ls hl => ?_)
    refine lv_iconst (v := 0) hx hb dX7_hand_23 (by decide) ?_
    refine lv_istore (lv' := [(5, .int (0)), (4, .int (1)), (3, .int (0)), (2, .int ((-1))), (0, .ref (B + 412)), (1, .int (nI a))]) hx hb dX7_hand_24 hl (by decide) rfl (fun ls hl => ?_)
    have cut_26 : ∀ (fu i : Nat), i ≤ rm_np M ∧ rm_np M < i + fu → ∀  (H : Heap) (locs : List Loc) (ls : Array Slot), rg_H E B 433 rg_R0 (rg_I M 412 33 (rm_go (rg_b (rm_il M x)) 1 1)) s H locs → lv_has ls 10 [(0, .ref (B + 412)), (1, .int (nI a)), (2, .int ((rm_best (rm_lS M a) (rm_lC M a) i).1)), (3, .int ((rm_best (rm_lS M a) (rm_lC M a) i).2.1)), (4, .int ((rm_best (rm_lS M a) (rm_lC M a) i).2.2)), (5, .int (nI i))] → W p l e ({ frames := 2, cells := 0, slots := 0, locals := 49 } : Room) s m args below meth c H locs 0 0 (MQ below (rg_Wi E B 433 rg_R0 (fun r M1 => (¬ rm_go (rg_b (rm_il M x)) 1 1 = 0 ∧ r = 0 ∧ M1 = rg_I M 412 33 (rm_go (rg_b (rm_il M x)) 1 1)) ∨ (rm_go (rg_b (rm_il M x)) 1 1 = 0 ∧ r = (rm_best (rm_lS M x.toNatClampNeg) (rm_lC M x.toNatClampNeg) (rm_np M)).1 ∧ M1 = (rg_I M 412 33 (rm_go (rg_b (rm_il M x)) 1 1))))) args s 0 0 (rg_A B)) (F0 m 26 ls []) := by
      intro fu
      induction fu with
      | zero =>
        intro i hm
        exact absurd hm (by omega)
      | succ fu ih =>
        intro i hm  H locs ls hH hl 
        refine lv_iload hx hb dX7_hand_26 (lv_at hl 5 rfl) ?_
        refine lv_aload_n hx hb dX7_hand_28 rfl (lv_at hl 0 rfl) ?_
        refine rg_gI C0 hH (ci := 7) (k := 5) (o := 412) rfl inT_X7 (by decide) tw_f_X7_83 (by decide) rfl (by decide) rfl dX7_hand_29 ?_
        refine rg_topi (y := nI (rm_np M)) (by exact (rm_CI_p hI).1) ?_
        refine lv_icmp_ge (tgt := 168) hx hb dX7_hand_32 (by decide) (fun c_32 => ?_) (fun c_32 => ?_)
        · refine lv_iload_n hx hb dX7_hand_168 rfl (lv_at hl 2 rfl) ?_
          exact rg_retWi C0 hH hr hlocks (by exact Or.inr ⟨rg_b_ne.mp c_11, by rw [hxn, rg_lp_end hm.1 (by omega) c_32], rfl⟩) dX7_hand_169
        · have hlt := rg_lp_lt hm.1 (by omega) c_32
          refine lv_iconst (v := 0) hx hb dX7_hand_35 (by decide) ?_
          refine lv_istore (lv' := [(6, .int (0)), (0, .ref (B + 412)), (1, .int (nI a)), (2, .int ((rm_best (rm_lS M a) (rm_lC M a) i).1)), (3, .int ((rm_best (rm_lS M a) (rm_lC M a) i).2.1)), (4, .int ((rm_best (rm_lS M a) (rm_lC M a) i).2.2)), (5, .int (nI i))]) hx hb dX7_hand_36 hl (by decide) rfl (fun ls hl => ?_)
          refine lv_iconst (v := 0) hx hb dX7_hand_38 (by decide) ?_
          refine lv_istore (lv' := [(7, .int (0)), (6, .int (0)), (0, .ref (B + 412)), (1, .int (nI a)), (2, .int ((rm_best (rm_lS M a) (rm_lC M a) i).1)), (3, .int ((rm_best (rm_lS M a) (rm_lC M a) i).2.1)), (4, .int ((rm_best (rm_lS M a) (rm_lC M a) i).2.2)), (5, .int (nI i))]) hx hb dX7_hand_39 hl (by decide) rfl (fun ls hl => ?_)
          refine lv_iconst (v := 0) hx hb dX7_hand_41 (by decide) ?_
          refine lv_istore (lv' := [(8, .int (0)), (7, .int (0)), (6, .int (0)), (0, .ref (B + 412)), (1, .int (nI a)), (2, .int ((rm_best (rm_lS M a) (rm_lC M a) i).1)), (3, .int ((rm_best (rm_lS M a) (rm_lC M a) i).2.1)), (4, .int ((rm_best (rm_lS M a) (rm_lC M a) i).2.2)), (5, .int (nI i))]) hx hb dX7_hand_42 hl (by decide) rfl (fun ls hl => ?_)
          have cut_44 : ∀ (fu2 j : Nat), j ≤ rm_nl M ∧ rm_nl M < j + fu2 → ∀  (H : Heap) (locs : List Loc) (ls : Array Slot), rg_H E B 433 rg_R0 (rg_I M 412 33 (rm_go (rg_b (rm_il M x)) 1 1)) s H locs → lv_has ls 10 [(0, .ref (B + 412)), (1, .int (nI a)), (2, .int ((rm_best (rm_lS M a) (rm_lC M a) i).1)), (3, .int ((rm_best (rm_lS M a) (rm_lC M a) i).2.1)), (4, .int ((rm_best (rm_lS M a) (rm_lC M a) i).2.2)), (5, .int (nI i)), (6, .int (rm_pk (rm_lb M a i) (fun k => rm_lk M a k) j)), (7, .int (rm_pk (rm_lb M a i) (fun _ => 1) j)), (8, .int (nI j))] → W p l e ({ frames := 2, cells := 0, slots := 0, locals := 49 } : Room) s m args below meth c H locs 0 0 (MQ below (rg_Wi E B 433 rg_R0 (fun r M1 => (¬ rm_go (rg_b (rm_il M x)) 1 1 = 0 ∧ r = 0 ∧ M1 = rg_I M 412 33 (rm_go (rg_b (rm_il M x)) 1 1)) ∨ (rm_go (rg_b (rm_il M x)) 1 1 = 0 ∧ r = (rm_best (rm_lS M x.toNatClampNeg) (rm_lC M x.toNatClampNeg) (rm_np M)).1 ∧ M1 = (rg_I M 412 33 (rm_go (rg_b (rm_il M x)) 1 1))))) args s 0 0 (rg_A B)) (F0 m 44 ls []) := by
            intro fu2
            induction fu2 with
            | zero =>
              intro j hm2
              exact absurd hm2 (by omega)
            | succ fu2 ih2 =>
              intro j hm2  H locs ls hH hl 
              refine lv_iload hx hb dX7_hand_44 (lv_at hl 8 rfl) ?_
              refine lv_aload_n hx hb dX7_hand_46 rfl (lv_at hl 0 rfl) ?_
              refine rg_gI C0 hH (ci := 7) (k := 11) (o := 412) rfl inT_X7 (by decide) tw_f_X7_86 (by decide) rfl (by decide) rfl dX7_hand_47 ?_
              refine rg_topi (y := nI (rm_nl M)) (by exact (rm_CI_l hI).1) ?_
              refine lv_icmp_ge (tgt := 130) hx hb dX7_hand_50 (by decide) (fun c_50 => ?_) (fun c_50 => ?_)
              · replace hl : lv_has ls 10 [(0, .ref (B + 412)), (1, .int (nI a)), (2, .int ((rm_best (rm_lS M a) (rm_lC M a) i).1)), (3, .int ((rm_best (rm_lS M a) (rm_lC M a) i).2.1)), (4, .int ((rm_best (rm_lS M a) (rm_lC M a) i).2.2)), (5, .int (nI i)), (6, .int (rm_lS M a i)), (7, .int (rm_lC M a i)), (8, .int (nI (rm_nl M)))] := by rw [rg_lp_end hm2.1 (by omega) c_50] at hl; exact hl
                refine lv_iload hx hb dX7_hand_130 (lv_at hl 7 rfl) ?_
                refine lv_if_le (tgt := 162) hx hb dX7_hand_132 (by decide) (fun c_132 => ?_) (fun c_132 => ?_)
                · refine lv_iinc (v := nI (i + 1)) (lv' := [(5, .int (nI (i + 1))), (0, .ref (B + 412)), (1, .int (nI a)), (2, .int ((rm_best (rm_lS M a) (rm_lC M a) i).1)), (3, .int ((rm_best (rm_lS M a) (rm_lC M a) i).2.1)), (4, .int ((rm_best (rm_lS M a) (rm_lC M a) i).2.2)), (6, .int (rm_lS M a i)), (7, .int (rm_lC M a i)), (8, .int (nI (rm_nl M)))]) hx hb dX7_hand_162 hl (k := 5) rfl (nI_1 _) (by decide) rfl (fun ls hl => ?_)
                  refine lv_goto (tgt := 26) hx hb dX7_hand_165 (by decide) ?_
                  replace hl : lv_has ls 10 [(5, .int (nI (i + 1))), (0, .ref (B + 412)), (1, .int (nI a)), (2, .int ((rm_best (rm_lS M a) (rm_lC M a) (i + 1)).1)), (3, .int ((rm_best (rm_lS M a) (rm_lC M a) (i + 1)).2.1)), (4, .int ((rm_best (rm_lS M a) (rm_lC M a) (i + 1)).2.2)), (6, .int (rm_lS M a i)), (7, .int (rm_lC M a i)), (8, .int (nI (rm_nl M)))] := by rw [rm_best_f (fun q => q.1 c_132)]; exact hl
                  exact ih (i + 1) (by omega) _ _ _ hH (lv_sub hl [1, 2, 3, 4, 5, 0] rfl)
                · refine lv_iload_n hx hb dX7_hand_135 rfl (lv_at hl 2 rfl) ?_
                  refine lv_iconst (v := (-1)) hx hb dX7_hand_136 (by decide) ?_
                  refine lv_icmp_eq (tgt := 152) hx hb dX7_hand_137 (by decide) (fun c_137 => ?_) (fun c_137 => ?_)
                  · refine lv_iload hx hb dX7_hand_152 (lv_at hl 5 rfl) ?_
                    refine lv_istore_n (lv' := [(2, .int (nI i)), (0, .ref (B + 412)), (1, .int (nI a)), (3, .int ((rm_best (rm_lS M a) (rm_lC M a) i).2.1)), (4, .int ((rm_best (rm_lS M a) (rm_lC M a) i).2.2)), (5, .int (nI i)), (6, .int (rm_lS M a i)), (7, .int (rm_lC M a i)), (8, .int (nI (rm_nl M)))]) hx hb dX7_hand_154 rfl hl (by decide) rfl (fun ls hl => ?_)
                    refine lv_iload hx hb dX7_hand_155 (lv_at hl 6 rfl) ?_
                    refine lv_istore_n (lv' := [(3, .int (rm_lS M a i)), (2, .int (nI i)), (0, .ref (B + 412)), (1, .int (nI a)), (4, .int ((rm_best (rm_lS M a) (rm_lC M a) i).2.2)), (5, .int (nI i)), (6, .int (rm_lS M a i)), (7, .int (rm_lC M a i)), (8, .int (nI (rm_nl M)))]) hx hb dX7_hand_157 rfl hl (by decide) rfl (fun ls hl => ?_)
                    refine lv_iload hx hb dX7_hand_158 (lv_at hl 7 rfl) ?_
                    refine lv_istore (lv' := [(4, .int (rm_lC M a i)), (3, .int (rm_lS M a i)), (2, .int (nI i)), (0, .ref (B + 412)), (1, .int (nI a)), (5, .int (nI i)), (6, .int (rm_lS M a i)), (7, .int (rm_lC M a i)), (8, .int (nI (rm_nl M)))]) hx hb dX7_hand_160 hl (by decide) rfl (fun ls hl => ?_)
                    refine lv_iinc (v := nI (i + 1)) (lv' := [(5, .int (nI (i + 1))), (4, .int (rm_lC M a i)), (3, .int (rm_lS M a i)), (2, .int (nI i)), (0, .ref (B + 412)), (1, .int (nI a)), (6, .int (rm_lS M a i)), (7, .int (rm_lC M a i)), (8, .int (nI (rm_nl M)))]) hx hb dX7_hand_162 hl (k := 5) rfl (nI_1 _) (by decide) rfl (fun ls hl => ?_)
                    refine lv_goto (tgt := 26) hx hb dX7_hand_165 (by decide) ?_
                    replace hl : lv_has ls 10 [(5, .int (nI (i + 1))), (4, .int ((rm_best (rm_lS M a) (rm_lC M a) (i + 1)).2.2)), (3, .int ((rm_best (rm_lS M a) (rm_lC M a) (i + 1)).2.1)), (2, .int ((rm_best (rm_lS M a) (rm_lC M a) (i + 1)).1)), (0, .ref (B + 412)), (1, .int (nI a)), (6, .int (rm_lS M a i)), (7, .int (rm_lC M a i)), (8, .int (nI (rm_nl M)))] := by rw [rm_best_t ⟨c_132, Or.inl c_137⟩]; exact hl
                    exact ih (i + 1) (by omega) _ _ _ hH (lv_sub hl [4, 5, 3, 2, 1, 0] rfl)
                  · refine lv_iload hx hb dX7_hand_140 (lv_at hl 6 rfl) ?_
                    refine lv_iload hx hb dX7_hand_142 (lv_at hl 4 rfl) ?_
                    refine lv_imul hx hb dX7_hand_144 ?_
                    refine lv_iload_n hx hb dX7_hand_145 rfl (lv_at hl 3 rfl) ?_
                    refine lv_iload hx hb dX7_hand_146 (lv_at hl 7 rfl) ?_
                    refine lv_imul hx hb dX7_hand_148 ?_
                    refine lv_icmp_le (tgt := 162) hx hb dX7_hand_149 (by decide) (fun c_149 => ?_) (fun c_149 => ?_)
                    · refine lv_iinc (v := nI (i + 1)) (lv' := [(5, .int (nI (i + 1))), (0, .ref (B + 412)), (1, .int (nI a)), (2, .int ((rm_best (rm_lS M a) (rm_lC M a) i).1)), (3, .int ((rm_best (rm_lS M a) (rm_lC M a) i).2.1)), (4, .int ((rm_best (rm_lS M a) (rm_lC M a) i).2.2)), (6, .int (rm_lS M a i)), (7, .int (rm_lC M a i)), (8, .int (nI (rm_nl M)))]) hx hb dX7_hand_162 hl (k := 5) rfl (nI_1 _) (by decide) rfl (fun ls hl => ?_)
                      refine lv_goto (tgt := 26) hx hb dX7_hand_165 (by decide) ?_
                      replace hl : lv_has ls 10 [(5, .int (nI (i + 1))), (0, .ref (B + 412)), (1, .int (nI a)), (2, .int ((rm_best (rm_lS M a) (rm_lC M a) (i + 1)).1)), (3, .int ((rm_best (rm_lS M a) (rm_lC M a) (i + 1)).2.1)), (4, .int ((rm_best (rm_lS M a) (rm_lC M a) (i + 1)).2.2)), (6, .int (rm_lS M a i)), (7, .int (rm_lC M a i)), (8, .int (nI (rm_nl M)))] := by rw [rm_best_f (fun q => q.2.elim c_137 (rg_nlt_of c_149))]; exact hl
                      exact ih (i + 1) (by omega) _ _ _ hH (lv_sub hl [1, 2, 3, 4, 5, 0] rfl)
                    · refine lv_iload hx hb dX7_hand_152 (lv_at hl 5 rfl) ?_
                      refine lv_istore_n (lv' := [(2, .int (nI i)), (0, .ref (B + 412)), (1, .int (nI a)), (3, .int ((rm_best (rm_lS M a) (rm_lC M a) i).2.1)), (4, .int ((rm_best (rm_lS M a) (rm_lC M a) i).2.2)), (5, .int (nI i)), (6, .int (rm_lS M a i)), (7, .int (rm_lC M a i)), (8, .int (nI (rm_nl M)))]) hx hb dX7_hand_154 rfl hl (by decide) rfl (fun ls hl => ?_)
                      refine lv_iload hx hb dX7_hand_155 (lv_at hl 6 rfl) ?_
                      refine lv_istore_n (lv' := [(3, .int (rm_lS M a i)), (2, .int (nI i)), (0, .ref (B + 412)), (1, .int (nI a)), (4, .int ((rm_best (rm_lS M a) (rm_lC M a) i).2.2)), (5, .int (nI i)), (6, .int (rm_lS M a i)), (7, .int (rm_lC M a i)), (8, .int (nI (rm_nl M)))]) hx hb dX7_hand_157 rfl hl (by decide) rfl (fun ls hl => ?_)
                      refine lv_iload hx hb dX7_hand_158 (lv_at hl 7 rfl) ?_
                      refine lv_istore (lv' := [(4, .int (rm_lC M a i)), (3, .int (rm_lS M a i)), (2, .int (nI i)), (0, .ref (B + 412)), (1, .int (nI a)), (5, .int (nI i)), (6, .int (rm_lS M a i)), (7, .int (rm_lC M a i)), (8, .int (nI (rm_nl M)))]) hx hb dX7_hand_160 hl (by decide) rfl (fun ls hl => ?_)
                      refine lv_iinc (v := nI (i + 1)) (lv' := [(5, .int (nI (i + 1))), (4, .int (rm_lC M a i)), (3, .int (rm_lS M a i)), (2, .int (nI i)), (0, .ref (B + 412)), (1, .int (nI a)), (6, .int (rm_lS M a i)), (7, .int (rm_lC M a i)), (8, .int (nI (rm_nl M)))]) hx hb dX7_hand_162 hl (k := 5) rfl (nI_1 _) (by decide) rfl (fun ls hl => ?_)
                      refine lv_goto (tgt := 26) hx hb dX7_hand_165 (by decide) ?_
                      replace hl : lv_has ls 10 [(5, .int (nI (i + 1))), (4, .int ((rm_best (rm_lS M a) (rm_lC M a) (i + 1)).2.2)), (3, .int ((rm_best (rm_lS M a) (rm_lC M a) (i + 1)).2.1)), (2, .int ((rm_best (rm_lS M a) (rm_lC M a) (i + 1)).1)), (0, .ref (B + 412)), (1, .int (nI a)), (6, .int (rm_lS M a i)), (7, .int (rm_lC M a i)), (8, .int (nI (rm_nl M)))] := by rw [rm_best_t ⟨c_132, Or.inr (rg_lt_of c_149)⟩]; exact hl
                      exact ih (i + 1) (by omega) _ _ _ hH (lv_sub hl [4, 5, 3, 2, 1, 0] rfl)
              · have hlt2 := rg_lp_lt hm2.1 (by omega) c_50
                refine lv_iload hx hb dX7_hand_53 (lv_at hl 8 rfl) ?_
                have cut_86 : ∀  (H : Heap) (locs : List Loc) (ls : Array Slot), rg_H E B 433 rg_R0 (rg_I M 412 33 (rm_go (rg_b (rm_il M x)) 1 1)) s H locs → lv_has ls 10 [(0, .ref (B + 412)), (1, .int (nI a)), (2, .int ((rm_best (rm_lS M a) (rm_lC M a) i).1)), (3, .int ((rm_best (rm_lS M a) (rm_lC M a) i).2.1)), (4, .int ((rm_best (rm_lS M a) (rm_lC M a) i).2.2)), (5, .int (nI i)), (6, .int (rm_pk (rm_lb M a i) (fun k => rm_lk M a k) j)), (7, .int (rm_pk (rm_lb M a i) (fun _ => 1) j)), (8, .int (nI j))] → W p l e ({ frames := 2, cells := 0, slots := 0, locals := 49 } : Room) s m args below meth c H locs 0 0 (MQ below (rg_Wi E B 433 rg_R0 (fun r M1 => (¬ rm_go (rg_b (rm_il M x)) 1 1 = 0 ∧ r = 0 ∧ M1 = rg_I M 412 33 (rm_go (rg_b (rm_il M x)) 1 1)) ∨ (rm_go (rg_b (rm_il M x)) 1 1 = 0 ∧ r = (rm_best (rm_lS M x.toNatClampNeg) (rm_lC M x.toNatClampNeg) (rm_np M)).1 ∧ M1 = (rg_I M 412 33 (rm_go (rg_b (rm_il M x)) 1 1))))) args s 0 0 (rg_A B)) (F0 m 86 ls [.int (rg_b ((rm_lb M a i) j = true))]) := by
                  intro  H locs ls hH hl 
                  refine lv_istore (lv' := [(9, .int (rg_b ((rm_lb M a i) j = true))), (0, .ref (B + 412)), (1, .int (nI a)), (2, .int ((rm_best (rm_lS M a) (rm_lC M a) i).1)), (3, .int ((rm_best (rm_lS M a) (rm_lC M a) i).2.1)), (4, .int ((rm_best (rm_lS M a) (rm_lC M a) i).2.2)), (5, .int (nI i)), (6, .int (rm_pk (rm_lb M a i) (fun k => rm_lk M a k) j)), (7, .int (rm_pk (rm_lb M a i) (fun _ => 1) j)), (8, .int (nI j))]) hx hb dX7_hand_86 hl (by decide) rfl (fun ls hl => ?_)
                  refine lv_iload hx hb dX7_hand_88 (lv_at hl 7 rfl) ?_
                  refine lv_iload hx hb dX7_hand_90 (lv_at hl 0 rfl) ?_
                  have cut_106 : ∀  (H : Heap) (locs : List Loc) (ls : Array Slot), rg_H E B 433 rg_R0 (rg_I M 412 33 (rm_go (rg_b (rm_il M x)) 1 1)) s H locs → lv_has ls 10 [(9, .int (rg_b ((rm_lb M a i) j = true))), (0, .ref (B + 412)), (1, .int (nI a)), (2, .int ((rm_best (rm_lS M a) (rm_lC M a) i).1)), (3, .int ((rm_best (rm_lS M a) (rm_lC M a) i).2.1)), (4, .int ((rm_best (rm_lS M a) (rm_lC M a) i).2.2)), (5, .int (nI i)), (6, .int (rm_pk (rm_lb M a i) (fun k => rm_lk M a k) j)), (7, .int (rm_pk (rm_lb M a i) (fun _ => 1) j)), (8, .int (nI j))] → W p l e ({ frames := 2, cells := 0, slots := 0, locals := 49 } : Room) s m args below meth c H locs 0 0 (MQ below (rg_Wi E B 433 rg_R0 (fun r M1 => (¬ rm_go (rg_b (rm_il M x)) 1 1 = 0 ∧ r = 0 ∧ M1 = rg_I M 412 33 (rm_go (rg_b (rm_il M x)) 1 1)) ∨ (rm_go (rg_b (rm_il M x)) 1 1 = 0 ∧ r = (rm_best (rm_lS M x.toNatClampNeg) (rm_lC M x.toNatClampNeg) (rm_np M)).1 ∧ M1 = (rg_I M 412 33 (rm_go (rg_b (rm_il M x)) 1 1))))) args s 0 0 (rg_A B)) (F0 m 106 ls [.int ((if (rm_lb M a i) j = true then rm_lk M a j else 0)), .int (rm_pk (rm_lb M a i) (fun k => rm_lk M a k) j)]) := by
                    intro  H locs ls hH hl 
                    refine lv_iadd hx hb dX7_hand_106 ?_
                    refine rg_topi (y := rm_pk (rm_lb M a i) (fun k => rm_lk M a k) (j + 1)) (by exact rfl) ?_
                    refine lv_istore (lv' := [(6, .int (rm_pk (rm_lb M a i) (fun k => rm_lk M a k) (j + 1))), (9, .int (rg_b ((rm_lb M a i) j = true))), (0, .ref (B + 412)), (1, .int (nI a)), (2, .int ((rm_best (rm_lS M a) (rm_lC M a) i).1)), (3, .int ((rm_best (rm_lS M a) (rm_lC M a) i).2.1)), (4, .int ((rm_best (rm_lS M a) (rm_lC M a) i).2.2)), (5, .int (nI i)), (7, .int (rm_pk (rm_lb M a i) (fun _ => 1) j)), (8, .int (nI j))]) hx hb dX7_hand_107 hl (by decide) rfl (fun ls hl => ?_)
                    refine lv_iload hx hb dX7_hand_109 (lv_at hl 8 rfl) ?_
                    refine lv_iload hx hb dX7_hand_111 (lv_at hl 1 rfl) ?_
                    have cut_121 : ∀  (H : Heap) (locs : List Loc) (ls : Array Slot), rg_H E B 433 rg_R0 (rg_I M 412 33 (rm_go (rg_b (rm_il M x)) 1 1)) s H locs → lv_has ls 10 [(6, .int (rm_pk (rm_lb M a i) (fun k => rm_lk M a k) (j + 1))), (9, .int (rg_b ((rm_lb M a i) j = true))), (0, .ref (B + 412)), (1, .int (nI a)), (2, .int ((rm_best (rm_lS M a) (rm_lC M a) i).1)), (3, .int ((rm_best (rm_lS M a) (rm_lC M a) i).2.1)), (4, .int ((rm_best (rm_lS M a) (rm_lC M a) i).2.2)), (5, .int (nI i)), (7, .int (rm_pk (rm_lb M a i) (fun _ => 1) j)), (8, .int (nI j))] → W p l e ({ frames := 2, cells := 0, slots := 0, locals := 49 } : Room) s m args below meth c H locs 0 0 (MQ below (rg_Wi E B 433 rg_R0 (fun r M1 => (¬ rm_go (rg_b (rm_il M x)) 1 1 = 0 ∧ r = 0 ∧ M1 = rg_I M 412 33 (rm_go (rg_b (rm_il M x)) 1 1)) ∨ (rm_go (rg_b (rm_il M x)) 1 1 = 0 ∧ r = (rm_best (rm_lS M x.toNatClampNeg) (rm_lC M x.toNatClampNeg) (rm_np M)).1 ∧ M1 = (rg_I M 412 33 (rm_go (rg_b (rm_il M x)) 1 1))))) args s 0 0 (rg_A B)) (F0 m 121 ls [.int ((if (rm_lb M a i) j = true then (1 : Int32) else 0)), .int (rm_pk (rm_lb M a i) (fun _ => 1) j)]) := by
                      intro  H locs ls hH hl 
                      refine lv_iadd hx hb dX7_hand_121 ?_
                      refine rg_topi (y := rm_pk (rm_lb M a i) (fun _ => 1) (j + 1)) (by exact rfl) ?_
                      refine lv_istore (lv' := [(7, .int (rm_pk (rm_lb M a i) (fun _ => 1) (j + 1))), (6, .int (rm_pk (rm_lb M a i) (fun k => rm_lk M a k) (j + 1))), (9, .int (rg_b ((rm_lb M a i) j = true))), (0, .ref (B + 412)), (1, .int (nI a)), (2, .int ((rm_best (rm_lS M a) (rm_lC M a) i).1)), (3, .int ((rm_best (rm_lS M a) (rm_lC M a) i).2.1)), (4, .int ((rm_best (rm_lS M a) (rm_lC M a) i).2.2)), (5, .int (nI i)), (8, .int (nI j))]) hx hb dX7_hand_122 hl (by decide) rfl (fun ls hl => ?_)
                      refine lv_iinc (v := nI (j + 1)) (lv' := [(8, .int (nI (j + 1))), (7, .int (rm_pk (rm_lb M a i) (fun _ => 1) (j + 1))), (6, .int (rm_pk (rm_lb M a i) (fun k => rm_lk M a k) (j + 1))), (9, .int (rg_b ((rm_lb M a i) j = true))), (0, .ref (B + 412)), (1, .int (nI a)), (2, .int ((rm_best (rm_lS M a) (rm_lC M a) i).1)), (3, .int ((rm_best (rm_lS M a) (rm_lC M a) i).2.1)), (4, .int ((rm_best (rm_lS M a) (rm_lC M a) i).2.2)), (5, .int (nI i))]) hx hb dX7_hand_124 hl (k := 9) rfl (nI_1 _) (by decide) rfl (fun ls hl => ?_)
                      refine lv_goto (tgt := 44) hx hb dX7_hand_127 (by decide) ?_
                      exact ih2 (j + 1) (by omega) _ _ _ hH (lv_sub hl [4, 5, 6, 7, 8, 9, 2, 1, 0] rfl)
                    refine lv_if_eq (tgt := 120) hx hb dX7_hand_113 (by decide) (fun c_113 => ?_) (fun c_113 => ?_)
                    · refine lv_iconst (v := 0) hx hb dX7_hand_120 (by decide) ?_
                      refine rg_topi (y := (if (rm_lb M a i) j = true then (1 : Int32) else 0)) (by rw [if_neg (rg_b_eq.mp c_113)]) ?_
                      exact cut_121 _ _ _ hH (lv_sub hl [0, 1, 2, 3, 4, 5, 6, 7, 8, 9] rfl)
                    · refine lv_iconst (v := 1) hx hb dX7_hand_116 (by decide) ?_
                      refine lv_goto (tgt := 121) hx hb dX7_hand_117 (by decide) ?_
                      refine rg_topi (y := (if (rm_lb M a i) j = true then (1 : Int32) else 0)) (by rw [if_pos (rg_b_ne.mp c_113)]) ?_
                      exact cut_121 _ _ _ hH (lv_sub hl [0, 1, 2, 3, 4, 5, 6, 7, 8, 9] rfl)
                  refine lv_if_eq (tgt := 105) hx hb dX7_hand_92 (by decide) (fun c_92 => ?_) (fun c_92 => ?_)
                  · refine lv_iconst (v := 0) hx hb dX7_hand_105 (by decide) ?_
                    refine rg_topi (y := (if (rm_lb M a i) j = true then rm_lk M a j else 0)) (by rw [if_neg (rg_b_eq.mp c_92)]) ?_
                    exact cut_106 _ _ _ hH (lv_sub hl [0, 1, 2, 3, 4, 5, 6, 7, 8, 9] rfl)
                  · refine lv_aload_n hx hb dX7_hand_95 rfl (lv_at hl 1 rfl) ?_
                    refine lv_iload_n hx hb dX7_hand_96 rfl (lv_at hl 2 rfl) ?_
                    refine lv_iload hx hb dX7_hand_97 (lv_at hl 9 rfl) ?_
                    refine rg_callGi C0 hH (As := [.int (nI a), .int (nI j)]) (rest := [.int (rm_pk (rm_lb M a i) (fun k => rm_lk M a k) j)]) (o := 412) (ci := 7) (k_X7_likeness l E B (rg_I M 412 33 (rm_go (rg_b (rm_il M x)) 1 1)) a j (rm_CI_eq hI (rm_eq_f (by omega))) (by rw [rm_nl_e (rm_eq_f (by omega))]; exact ha) (by rw [rm_nl_e (rm_eq_f (by omega))]; exact hlt2)) (rg_cw 2 C0.1.2.2.2.2 tw_m_X7_206 tw_i_X7_likeness tw_v_X7_likeness tw_n_X7 tw_c_X7_likeness rfl rfl hd_X7_likeness ⟨Nat.le_of_ble_eq_true rfl, Nat.le_of_ble_eq_true rfl⟩) rfl (by decide) rfl (by decide) rfl hl.1 rfl (Nat.le_of_ble_eq_true rfl) dX7_hand_99 ⟨Nat.le_of_ble_eq_true rfl, Nat.le_of_ble_eq_true rfl⟩ (fun H locs hH => ?_)
                    refine rg_topi (y := rm_lk M a j) (by rw [rm_lk_e (rm_eq_f (by omega))]) ?_
                    refine lv_goto (tgt := 106) hx hb dX7_hand_102 (by decide) ?_
                    refine rg_topi (y := (if (rm_lb M a i) j = true then rm_lk M a j else 0)) (by rw [if_pos (rg_b_ne.mp c_92)]) ?_
                    exact cut_106 _ _ _ hH (lv_sub hl [0, 1, 2, 3, 4, 5, 6, 7, 8, 9] rfl)
                refine lv_iload_n hx hb dX7_hand_55 rfl (lv_at hl 1 rfl) ?_
                refine lv_icmp_eq (tgt := 85) hx hb dX7_hand_56 (by decide) (fun c_56 => ?_) (fun c_56 => ?_)
                · refine lv_iconst (v := 0) hx hb dX7_hand_85 (by decide) ?_
                  refine rg_topi (y := rg_b ((rm_lb M a i) j = true)) (by first | exact rg_b_f (fun q => (of_decide_eq_true q).1 ((nI_eq (by omega) (by omega)).mp c_56)) | exact rg_b_f (fun q => c_66 (of_decide_eq_true q).2.1) | exact rg_b_f (fun q => c_78 (of_decide_eq_true q).2.2)) ?_
                  exact cut_86 _ _ _ hH (lv_sub hl [0, 1, 2, 3, 4, 5, 6, 7, 8] rfl)
                · refine lv_aload_n hx hb dX7_hand_59 rfl (lv_at hl 0 rfl) ?_
                  refine rg_gR C0 hH (o2 := 421) (ci := 7) (k := 16) (o := 412) rfl rfl inT_X7 (by decide) tw_f_X7_35 (by decide) rfl (by decide) rfl dX7_hand_60 ?_
                  refine lv_iload hx hb dX7_hand_63 (lv_at hl 8 rfl) ?_
                  refine rg_zaldN C0 hH (o := 421) (j := j) (n0 := 36) (by decide) rfl rfl (by omega) dX7_hand_65 ?_
                  refine rg_topi (y := M.1 421 j) (by exact rfl) ?_
                  refine lv_if_ne (tgt := 85) hx hb dX7_hand_66 (by decide) (fun c_66 => ?_) (fun c_66 => ?_)
                  · refine lv_iconst (v := 0) hx hb dX7_hand_85 (by decide) ?_
                    refine rg_topi (y := rg_b ((rm_lb M a i) j = true)) (by first | exact rg_b_f (fun q => (of_decide_eq_true q).1 ((nI_eq (by omega) (by omega)).mp c_56)) | exact rg_b_f (fun q => c_66 (of_decide_eq_true q).2.1) | exact rg_b_f (fun q => c_78 (of_decide_eq_true q).2.2)) ?_
                    exact cut_86 _ _ _ hH (lv_sub hl [0, 1, 2, 3, 4, 5, 6, 7, 8] rfl)
                  · refine lv_aload_n hx hb dX7_hand_69 rfl (lv_at hl 0 rfl) ?_
                    refine rg_gR C0 hH (o2 := 419) (ci := 7) (k := 14) (o := 412) rfl rfl inT_X7 (by decide) tw_f_X7_29 (by decide) rfl (by decide) rfl dX7_hand_70 ?_
                    refine lv_iload hx hb dX7_hand_73 (lv_at hl 8 rfl) ?_
                    refine rg_ialdN C0 hH (o := 419) (j := j) (n0 := 36) (by decide) rfl rfl (by omega) dX7_hand_75 ?_
                    refine rg_topi (y := M.1 419 j) (by exact rfl) ?_
                    refine lv_iload hx hb dX7_hand_76 (lv_at hl 5 rfl) ?_
                    refine lv_icmp_ne (tgt := 85) hx hb dX7_hand_78 (by decide) (fun c_78 => ?_) (fun c_78 => ?_)
                    · refine lv_iconst (v := 0) hx hb dX7_hand_85 (by decide) ?_
                      refine rg_topi (y := rg_b ((rm_lb M a i) j = true)) (by first | exact rg_b_f (fun q => (of_decide_eq_true q).1 ((nI_eq (by omega) (by omega)).mp c_56)) | exact rg_b_f (fun q => c_66 (of_decide_eq_true q).2.1) | exact rg_b_f (fun q => c_78 (of_decide_eq_true q).2.2)) ?_
                      exact cut_86 _ _ _ hH (lv_sub hl [0, 1, 2, 3, 4, 5, 6, 7, 8] rfl)
                    · refine lv_iconst (v := 1) hx hb dX7_hand_81 (by decide) ?_
                      refine lv_goto (tgt := 86) hx hb dX7_hand_82 (by decide) ?_
                      refine rg_topi (y := rg_b ((rm_lb M a i) j = true)) (by exact rg_b_t (decide_eq_true ⟨fun q => c_56 (by rw [q]), c_66, c_78⟩)) ?_
                      exact cut_86 _ _ _ hH (lv_sub hl [0, 1, 2, 3, 4, 5, 6, 7, 8] rfl)
          exact cut_44 (rm_nl M + 1) 0 (by omega) _ _ _ hH (lv_sub hl [3, 4, 5, 6, 7, 8, 2, 1, 0] rfl)
    exact cut_26 (rm_np M + 1) 0 (by omega) _ _ _ hH (lv_sub hl [4, 5, 3, 2, 1, 0] rfl)
  · refine lv_iconst (v := 0) hx hb dX7_hand_14 (by decide) ?_
    exact rg_retWi C0 hH hr hlocks (by exact Or.inl ⟨rg_b_eq.mp c_11, rfl, rfl⟩) dX7_hand_15
