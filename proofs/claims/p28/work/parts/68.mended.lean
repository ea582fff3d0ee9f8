/-- what mend makes of the class's state X, told by the state Mo that has the same words -/
def rp_MX (Mo X : rg_Mem) (j pl wd : Nat) (r : Int32) (M1 : rg_Mem) : Prop := ∃ M2, rg_off X M2 92 ∧ ((∃ k, 1 ≤ k ∧ k ≤ 8 ∧ rg_f8 (rg_cq Mo (rp_mw Mo j pl wd) (rg_sz Mo (17 + 2 * j)) j (rg_sp Mo) (-1)) 8 1 = nI k ∧ r = -nI k ∧ M1 = rg_I M2 0 12 (rg_cq Mo (rp_mw Mo j pl wd) (rg_sz Mo (17 + 2 * j)) j (rg_sp Mo) (-1) k)) ∨ (rg_f8 (rg_cq Mo (rp_mw Mo j pl wd) (rg_sz Mo (17 + 2 * j)) j (rg_sp Mo) (-1)) 8 1 = 0 ∧ r = 0 ∧ ∃ M3, (rg_VS M3 (17 + 2 * j) (rg_sz Mo (17 + 2 * j)) ∧ (∀ k, k < rg_sz Mo (17 + 2 * j) → M3.1 (17 + 2 * j + 1) k = rp_mw Mo j pl wd k) ∧ rg_off M2 M3 (17 + 2 * j)) ∧ M1 = rg_I M3 11 j 1))
theorem rp_MX_f {Mo X M1 : rg_Mem} {j pl wd t : Nat} {r : Int32} (h : rp_MX Mo X j pl wd r M1) (ht : 1 ≤ t ∧ t ≤ 8) (hf : rg_f8 (rg_cq Mo (rp_mw Mo j pl wd) (rg_sz Mo (17 + 2 * j)) j (rg_sp Mo) (-1)) 8 1 = nI t) : r = -nI t ∧ ∃ M2, rg_off X M2 92 ∧ M1 = rg_I M2 0 12 (rg_cq Mo (rp_mw Mo j pl wd) (rg_sz Mo (17 + 2 * j)) j (rg_sp Mo) (-1) t) := by
  obtain ⟨M2, g, ⟨k, h1, h2, h3, h4, h5⟩ | ⟨h1, _⟩⟩ := h
  · rw [hf] at h3
    have e : t = k := (nI_eq (by omega) (by omega)).mp h3
    subst e
    exact ⟨h4, M2, g, h5⟩
  · rw [hf] at h1
    exact absurd h1 (nI_ne0 (by omega) (by omega))
theorem rp_MX_0 {Mo X M1 : rg_Mem} {j pl wd : Nat} {r : Int32} (h : rp_MX Mo X j pl wd r M1) (hf : rg_f8 (rg_cq Mo (rp_mw Mo j pl wd) (rg_sz Mo (17 + 2 * j)) j (rg_sp Mo) (-1)) 8 1 = 0) : r = 0 ∧ ∃ M2, rg_off X M2 92 ∧ ∃ M3, (rg_VS M3 (17 + 2 * j) (rg_sz Mo (17 + 2 * j)) ∧ (∀ k, k < rg_sz Mo (17 + 2 * j) → M3.1 (17 + 2 * j + 1) k = rp_mw Mo j pl wd k) ∧ rg_off M2 M3 (17 + 2 * j)) ∧ M1 = rg_I M3 11 j 1 := by
  obtain ⟨M2, g, ⟨k, h1, h2, h3, h4, h5⟩ | ⟨_, h2, h3⟩⟩ := h
  · rw [hf] at h3
    exact absurd h3.symm (nI_ne0 (by omega) (by omega))
  · exact ⟨h2, M2, g, h3⟩
theorem a_mend (l : Launch) (E : rg_Env) (B : Nat) (M : rg_Mem) (Mo : rg_Mem) (j : Nat) (pl : Nat) (wd : Nat) (hI : rp_Inv Mo) (hx : ∀ c, c < 412 → M.1 c = Mo.1 c) (hx2 : M.2 = Mo.2) (hj : rg_nl Mo = j + 1) (hp : pl < 6) (hpn : pl < rg_sz Mo (17 + 2 * j)) (hwd : wd < 16) (hno : rg_no Mo = 0) (hst : l.stackTraces = false) : Met l yX6_mend (rg_w yX6_mend cX6_mend 5 (some (FieldType.int))) ({ frames := 7, cells := 4, slots := 24, locals := 138 } : Room) (va_Pc [.ref (B + 0), .int (nI pl), .int (nI wd)] (rg_Pre E B 422 rg_R0 M)) (rg_Wi E B 422 rg_R0 (fun r M1 => rp_MX Mo M j pl wd r M1)) 4 24 (rg_A B) := by
  have hC : rg_CI M := rg_CI_c2 (rp_ci hI) (fun c hc => hx c (by omega)) (fun c hc => by rw [hx2])
  have hl2 := rp_nl hI
  have e1 : rg_nl M = j + 1 := by unfold rg_nl; rw [hx 6 (by omega)]; exact hj
  have e2 : rg_sz M (17 + 2 * j) = rg_sz Mo (17 + 2 * j) := by unfold rg_sz; rw [hx _ (by omega)]
  have e3 : rg_sp M = rg_sp Mo := by unfold rg_sp; rw [hx 6 (by omega)]
  have hv := rp_vs hI (j := j) (by omega)
  have hl := rg_CI_l hC
  have hhl : rg_hl M (nI (rg_nl M) - 1) := by
    rw [e1, nI_pred]
    exact rg_hl_k hl.1 hl.2 (by omega)
  have hwp : ¬ rg_wp M (nI (rg_nl M) - 1) (nI pl) = -1 := by
    unfold rg_wp
    rw [if_pos hhl, e1, nI_pred, nI_clamp (by omega)]
    have hv1 : M.1 (17 + 2 * j) 1 = nI (rg_sz Mo (17 + 2 * j)) := by rw [hx _ (by omega)]; exact hv.1
    rw [rg_wn_k hv1 hv.2.1 hpn, hx _ (by omega)]
    obtain ⟨a, ha, ea⟩ := rp_VSw hI hv pl hpn
    rw [ea]
    exact rg_nIm (by omega)
  have hhas : rg_has M (nI wd) := rg_has_k hC (by
    unfold rg_nw
    rw [hx 1 (by omega), (rp_n hI).1.1, nI_clamp (by omega)]
    exact hwd)
  have hof : M.1 0 10 ≤ 0 := by
    rw [hx 0 (by omega), (rg_CI_o (rp_ci hI)).1, hno]
    decide
  refine rg_WW (rg_noX (k_X6_mend l hst E B M (nI pl) (nI wd) hC) (fun X q => ?_)) (fun r M1 q => ?_)
  · rcases q with q | q
    · exact q.1 ⟨⟨hhl, hwp⟩, hhas⟩
    · exact q.2.1 hof
  · obtain ⟨_, M2, ⟨v1, v2, v3⟩, q⟩ := q
    rw [e1, Nat.add_sub_cancel, e2] at v1 v2
    rw [e1, Nat.add_sub_cancel, e2, e3] at q
    have hw : ∀ k, k < rg_sz Mo (17 + 2 * j) → M2.1 (92 + 1) k = rp_mw Mo j pl wd k := fun k hk => by
      have := hv.2.1
      rw [v2 k hk, hx _ (by omega)]
      unfold rp_mw
      have z1 : nI k = nI pl ↔ k = pl := nI_eq (by omega) (by omega)
      by_cases c : k = pl
      · rw [if_pos c, if_pos (z1.mpr c)]
      · rw [if_neg c, if_neg (fun z => c (z1.mp z))]
    have ecq : rg_co M2 92 (rg_sz Mo (17 + 2 * j)) j (rg_sp Mo) (-1) = rg_cq Mo (rp_mw Mo j pl wd) (rg_sz Mo (17 + 2 * j)) j (rg_sp Mo) (-1) := by
      rw [rg_co_cq v1]
      exact rg_cq_c (fun c hc => ⟨(v3 c (by omega) (by omega)).1.trans (hx c (by omega)), by rw [(v3 c (by omega) (by omega)).2, hx2]⟩) (by omega) hw
    rw [ecq] at q
    refine ⟨M2, v3, ?_⟩
    rcases q with q | ⟨q1, q2, M3, ⟨u1, u2, u3⟩, q4⟩
    · exact Or.inl q
    · exact Or.inr ⟨q1, q2, M3, ⟨u1, fun k hk => (u2 k hk).trans (hw k hk), u3⟩, q4⟩

set_option maxHeartbeats 4000000 in
set_option maxRecDepth 100000 in
/-- the latest link is mended -/
theorem k_L_isMended (l : Launch) (E : rg_Env) (B : Nat) (M : rg_Mem) (zz : Nat) (hI : rp_Inv M) (hz : zz < 1000000000) (hst : l.stackTraces = false) : Met l yL_isMended (rg_w yL_isMended cL_isMended 11 (some (FieldType.boolean))) ({ frames := 8, cells := 4, slots := 24, locals := 162 } : Room) (va_Pc [.ref (B + 0), .ref (B + 412), .ref (B + 413), .ref (B + 414), .ref (B + 415), .ref (B + 417), .int (nI zz)] (rg_Pre E B 422 rg_R0 M)) (rg_Wi E B 422 rg_R0 (fun r M1 => r = 1 ∧ rp_Inv M1)) 4 24 (rg_A B) := by
  refine rg_ofW (by decide +kernel) rfl (Nat.le_of_ble_eq_true rfl) ?_
  intro p e s m args below meth c ls C0 hH hl hr hlocks hnm
  replace hl : lv_has ls 11 [(0, .ref (B + 0)), (1, .ref (B + 412)), (2, .ref (B + 413)), (3, .ref (B + 414)), (4, .ref (B + 415)), (5, .ref (B + 417)), (6, .int (nI zz))] := hl
  have hx := C0.1.1
  have hb := C0.1.2.1
  generalize hH9 : s.heap = H at hH ⊢
  generalize hL9 : ([] : List Loc) = locs at hH ⊢
  clear hH9 hL9
  have hlt9 := rp_nl hI
  have hno9 := (rg_CI_o (rp_ci hI)).2
  refine lv_aload hx hb dL_isMended_0 (lv_at hl 5 rfl) ?_
  refine lv_iconst (v := 3) hx hb dL_isMended_2 (by decide) ?_
  refine rg_topi (y := nI 3) (by exact rfl) ?_
  refine rg_ialdN C0 hH (o := 417) (j := 3) (n0 := 9) (by decide) rfl rfl (by omega) dL_isMended_3 ?_
  refine rg_topi (y := nI (rg_nl M)) (by exact (rp_m hI).2.2.2.1.trans (rg_CI_l (rp_ci hI)).1) ?_
  refine lv_iconst (v := 1) hx hb dL_isMended_4 (by decide) ?_
  refine lv_isub hx hb dL_isMended_5 ?_
  refine lv_istore (lv' := [(7, .int ((nI (rg_nl M)) - 1)), (0, .ref (B + 0)), (1, .ref (B + 412)), (2, .ref (B + 413)), (3, .ref (B + 414)), (4, .ref (B + 415)), (5, .ref (B + 417)), (6, .int (nI zz))]) hx hb dL_isMended_6 hl (by decide) rfl (fun ls hl => ?_)
  refine lv_iload hx hb dL_isMended_8 (lv_at hl 7 rfl) ?_
  refine lv_iconst (v := 2) hx hb dL_isMended_10 (by decide) ?_
  refine lv_irem hx hb dL_isMended_11 (by decide) ?_
  refine rg_topi (y := nI (zz % 2)) (by exact pk_rem (a := zz) (d := 2) (by omega) (by omega) (by omega)) ?_
  refine lv_istore (lv' := [(8, .int (nI (zz % 2))), (7, .int ((nI (rg_nl M)) - 1)), (0, .ref (B + 0)), (1, .ref (B + 412)), (2, .ref (B + 413)), (3, .ref (B + 414)), (4, .ref (B + 415)), (5, .ref (B + 417)), (6, .int (nI zz))]) hx hb dL_isMended_12 hl (by decide) rfl (fun ls hl => ?_)
  obtain ⟨pl, hd_pl⟩ : ∃ pl, pl = zz % 2 := ⟨_, rfl⟩
  have hpl2 : pl < 2 := by omega
  replace hl : lv_has ls 11 [(8, .int (nI pl)), (7, .int ((nI (rg_nl M)) - 1)), (0, .ref (B + 0)), (1, .ref (B + 412)), (2, .ref (B + 413)), (3, .ref (B + 414)), (4, .ref (B + 415)), (5, .ref (B + 417)), (6, .int (nI zz))] := by rw [hd_pl]; exact hl
  refine lv_aload hx hb dL_isMended_14 (lv_at hl 7 rfl) ?_
  refine lv_iconst (v := 5) hx hb dL_isMended_16 (by decide) ?_
  refine rg_topi (y := nI 5) (by exact rfl) ?_
  refine rg_ialdN C0 hH (o := 417) (j := 5) (n0 := 9) (by decide) rfl rfl (by omega) dL_isMended_17 ?_
  refine rg_topi (y := nI (rg_no M)) (by exact (rp_m hI).2.2.2.2.2.1.trans (rg_CI_o (rp_ci hI)).1) ?_
  refine lv_if_gt (tgt := 39) hx hb dL_isMended_18 (by decide) (fun c_18 => ?_) (fun c_18 => ?_)
  · refine lv_iconst (v := 1) hx hb dL_isMended_39 (by decide) ?_
    refine W.widen (k := 4) (n := 24) (Nat.le_of_ble_eq_true rfl) (Nat.le_of_ble_eq_true rfl) ?_
    exact rg_retWz C0 hH hr hlocks (Or.inr rfl) (by exact ⟨rfl, hI⟩) dL_isMended_40
  · refine lv_iload hx hb dL_isMended_21 (lv_at hl 1 rfl) ?_
    refine lv_if_lt (tgt := 39) hx hb dL_isMended_23 (by decide) (fun c_23 => ?_) (fun c_23 => ?_)
    · refine lv_iconst (v := 1) hx hb dL_isMended_39 (by decide) ?_
      refine W.widen (k := 4) (n := 24) (Nat.le_of_ble_eq_true rfl) (Nat.le_of_ble_eq_true rfl) ?_
      exact rg_retWz C0 hH hr hlocks (Or.inr rfl) (by exact ⟨rfl, hI⟩) dL_isMended_40
    · have hnl1 : 1 ≤ rg_nl M := by have := lw_no (lw_lt0 (t := rg_nl M) (by omega)) c_23; omega
      replace hl : lv_has ls 11 [(8, .int (nI pl)), (7, .int (nI (rg_nl M - 1))), (0, .ref (B + 0)), (1, .ref (B + 412)), (2, .ref (B + 413)), (3, .ref (B + 414)), (4, .ref (B + 415)), (5, .ref (B + 417)), (6, .int (nI zz))] := by rw [lw_sub1 hnl1] at hl; exact hl
      obtain ⟨j, hd_j⟩ : ∃ j, j = rg_nl M - 1 := ⟨_, rfl⟩
      have hjl : j < rg_nl M := by omega
      have hj10 : j < 10 := by omega
      have hno0 : rg_no M = 0 := by
        rcases Nat.eq_zero_or_pos (rg_no M) with q | q
        · exact q
        · exact absurd ((lw_nlt (a := 0) (by omega) (by omega)).mpr q) c_18
      replace hl : lv_has ls 11 [(8, .int (nI pl)), (7, .int (nI j)), (0, .ref (B + 0)), (1, .ref (B + 412)), (2, .ref (B + 413)), (3, .ref (B + 414)), (4, .ref (B + 415)), (5, .ref (B + 417)), (6, .int (nI zz))] := by rw [hd_j]; exact hl
      refine lv_aload_n hx hb dL_isMended_26 rfl (lv_at hl 5 rfl) ?_
      refine lv_bipush (v := 6) hx hb dL_isMended_27 (by decide) ?_
      refine lv_iload hx hb dL_isMended_29 (lv_at hl 1 rfl) ?_
      refine lv_imul hx hb dL_isMended_31 ?_
      refine rg_topi (y := nI (6 * j)) (by exact lw_mul (6) (j)) ?_
      refine lv_iload hx hb dL_isMended_32 (lv_at hl 0 rfl) ?_
      refine lv_iadd hx hb dL_isMended_34 ?_
      refine rg_topi (y := nI ((6 * j) + pl)) (by exact nI_add (6 * j) (pl)) ?_
      refine rg_ialdN C0 hH (o := 414) (j := ((6 * j) + pl)) (n0 := 64) (by decide) rfl rfl (by omega) dL_isMended_35 ?_
      refine lv_if_ne (tgt := 41) hx hb dL_isMended_36 (by decide) (fun c_36 => ?_) (fun c_36 => ?_)
      · refine lv_aload_n hx hb dL_isMended_41 rfl (lv_at hl 5 rfl) ?_
        refine lv_bipush (v := 6) hx hb dL_isMended_42 (by decide) ?_
        refine lv_iload hx hb dL_isMended_44 (lv_at hl 1 rfl) ?_
        refine lv_imul hx hb dL_isMended_46 ?_
        refine rg_topi (y := nI (6 * j)) (by exact lw_mul (6) (j)) ?_
        refine lv_iload hx hb dL_isMended_47 (lv_at hl 0 rfl) ?_
        refine lv_iadd hx hb dL_isMended_49 ?_
        refine rg_topi (y := nI ((6 * j) + pl)) (by exact nI_add (6 * j) (pl)) ?_
        refine rg_ialdN C0 hH (o := 414) (j := ((6 * j) + pl)) (n0 := 64) (by decide) rfl rfl (by omega) dL_isMended_50 ?_
        refine lv_istore (lv' := [(9, .int (M.1 414 (((6 * j) + pl)))), (8, .int (nI pl)), (7, .int (nI j)), (0, .ref (B + 0)), (1, .ref (B + 412)), (2, .ref (B + 413)), (3, .ref (B + 414)), (4, .ref (B + 415)), (5, .ref (B + 417)), (6, .int (nI zz))]) hx hb dL_isMended_51 hl (by decide) rfl (fun ls hl => ?_)
        refine lv_aload_n hx hb dL_isMended_53 rfl (lv_at hl 6 rfl) ?_
        refine lv_bipush (v := 6) hx hb dL_isMended_54 (by decide) ?_
        refine lv_iload hx hb dL_isMended_56 (lv_at hl 2 rfl) ?_
        refine lv_imul hx hb dL_isMended_58 ?_
        refine rg_topi (y := nI (6 * j)) (by exact lw_mul (6) (j)) ?_
        refine lv_iload hx hb dL_isMended_59 (lv_at hl 1 rfl) ?_
        refine lv_iadd hx hb dL_isMended_61 ?_
        refine rg_topi (y := nI ((6 * j) + pl)) (by exact nI_add (6 * j) (pl)) ?_
        refine lv_iconst (v := 1) hx hb dL_isMended_62 (by decide) ?_
        refine lv_iload hx hb dL_isMended_63 (lv_at hl 9 rfl) ?_
        refine lv_iconst (v := 2) hx hb dL_isMended_65 (by decide) ?_
        refine lv_idiv hx hb dL_isMended_66 (by decide) ?_
        refine rg_topi (y := nI (zz / 2)) (by exact pk_div (a := zz) (d := 2) (by omega) (by omega) (by omega)) ?_
        refine lv_bipush (v := 16) hx hb dL_isMended_67 (by decide) ?_
        refine lv_irem hx hb dL_isMended_69 (by decide) ?_
        refine rg_topi (y := nI ((zz / 2) % 16)) (by exact pk_rem (a := zz / 2) (d := 16) (by omega) (by omega) (by omega)) ?_
        refine lv_iadd hx hb dL_isMended_70 ?_
        refine rg_topi (y := nI (1 + ((zz / 2) % 16))) (by exact nI_add (1) ((zz / 2) % 16)) ?_
        obtain ⟨wd, hd_wd⟩ : ∃ wd, wd = zz / 2 % 16 := ⟨_, rfl⟩
        have hwd : wd < 16 := by omega
        refine rg_topi (y := nI (wd + 1)) (by rw [hd_wd, Nat.add_comm]) ?_
        refine rg_iastN C0 hH (o := 414) (j := ((6 * j) + pl)) (n0 := 64) (by decide) rfl rfl (by omega) dL_isMended_71 (fun H locs hH => ?_)
        replace hH := rg_H_eq (rp_mrow.resolve_right (by omega)) hH
        refine lv_aload_n hx hb dL_isMended_72 rfl (lv_at hl 4 rfl) ?_
        refine lv_aload_n hx hb dL_isMended_73 rfl (lv_at hl 5 rfl) ?_
        refine lv_aload_n hx hb dL_isMended_74 rfl (lv_at hl 6 rfl) ?_
        refine lv_aload hx hb dL_isMended_75 (lv_at hl 7 rfl) ?_
        refine lv_aload hx hb dL_isMended_77 (lv_at hl 8 rfl) ?_
        refine lv_iload hx hb dL_isMended_79 (lv_at hl 2 rfl) ?_
        refine lv_iconst (v := (-1)) hx hb dL_isMended_81 (by decide) ?_
        refine rg_callSGi C0 hH (As := [.ref (B + 412), .ref (B + 413), .ref (B + 414), .ref (B + 415), .ref (B + 417), .int (nI j), .int ((-1))]) (rest := []) (k_L_fault l E B (lw_row M j (rp_mr M j pl wd)) 422 j (rg_sp M) ((-1)) (by omega) (lw_TI_row (rp_TI hI) (rp_rin (rp_mrr hI hjl (by omega) c_36) (rp_mww hI hjl hwd))) (lw_WI_row (rp_wi hI)) hj10 (by rw [lw_row_c (by omega)]; exact (rp_m hI).1.trans (rg_CI_s (rp_ci hI)).1) (rg_CI_s (rp_ci hI)).2) (rg_cwS 7 C0.1.2.2.2.2 tw_m_L_42 tw_s_L_fault tw_n_L tw_c_L_fault rfl rfl hd_L_fault ⟨Nat.le_of_ble_eq_true rfl, Nat.le_of_ble_eq_true rfl⟩) rfl hl.1 rfl (Nat.le_of_ble_eq_true rfl) dL_isMended_82 ⟨Nat.le_of_ble_eq_true rfl, Nat.le_of_ble_eq_true rfl⟩ (fun H locs hH => ?_)
        refine lv_istore (lv' := [(10, .int (lw_fl (lw_cs (lw_row M j (rp_mr M j pl wd)) j (rg_sp M) ((-1))))), (9, .int (M.1 414 (((6 * j) + pl)))), (8, .int (nI pl)), (7, .int (nI j)), (0, .ref (B + 0)), (1, .ref (B + 412)), (2, .ref (B + 413)), (3, .ref (B + 414)), (4, .ref (B + 415)), (5, .ref (B + 417)), (6, .int (nI zz))]) hx hb dL_isMended_85 hl (by decide) rfl (fun ls hl => ?_)
        have hFL := rp_flA (po := -1) hI (by omega : j ≤ rg_nl M) hj10 (rp_mrr hI hjl (by omega) c_36) (rp_vs hI hjl).2.1 (rp_mww hI hjl hwd) (Or.inl rfl)
        refine lv_iload hx hb dL_isMended_87 (lv_at hl 0 rfl) ?_
        refine lv_if_le (tgt := 142) hx hb dL_isMended_89 (by decide) (fun c_89 => ?_) (fun c_89 => ?_)
        · have hf0 := (rp_FL0 hFL).mp (by
            rcases hFL with q | ⟨t9, v9, ht1, ht8, hv9, hf8, hcq, hFX⟩
            · exact q.2
            · rw [hFX] at c_89
              have := (lw_le0 (t := 100 * t9 + v9) (by omega)).mp c_89
              omega)
          refine lv_aload hx hb dL_isMended_142 (lv_at hl 8 rfl) ?_
          refine lv_iconst (v := 4) hx hb dL_isMended_144 (by decide) ?_
          refine lv_iload hx hb dL_isMended_145 (lv_at hl 3 rfl) ?_
          refine lv_imul hx hb dL_isMended_147 ?_
          refine rg_topi (y := nI (4 * j)) (by exact lw_mul (4) (j)) ?_
          refine lv_iconst (v := 3) hx hb dL_isMended_148 (by decide) ?_
          refine lv_iadd hx hb dL_isMended_149 ?_
          refine rg_topi (y := nI ((4 * j) + 3)) (by exact nI_add (4 * j) (3)) ?_
          refine lv_iconst (v := 1) hx hb dL_isMended_150 (by decide) ?_
          refine rg_iastN C0 hH (o := 415) (j := ((4 * j) + 3)) (n0 := 44) (by decide) rfl rfl (by omega) dL_isMended_151 (fun H locs hH => ?_)
          generalize eX : rg_I ((lw_row M j (rp_mr M j pl wd))) 415 (((4 * j) + 3)) 1 = X at hH
          have x0 : ∀ c, c ≠ 414 → c ≠ 415 → X.1 c = M.1 c := fun c h1 h2 => by subst eX; rw [rg_I_cell h2, lw_row_c h1]
          have x2 : X.2 = M.2 := by subst eX; rfl
          have x4 : X.1 414 = (lw_row M j (rp_mr M j pl wd)).1 414 := by subst eX; rw [rg_I_cell (by omega)]
          have x5 : ∀ k, X.1 415 k = if k = 4 * j + 3 then 1 else M.1 415 k := fun k => by subst eX; rw [rg_I_at, lw_row_c (by omega)]
          refine lv_aload_n hx hb dL_isMended_152 rfl (lv_at hl 4 rfl) ?_
          refine lv_iload hx hb dL_isMended_153 (lv_at hl 2 rfl) ?_
          refine lv_iload hx hb dL_isMended_155 (lv_at hl 10 rfl) ?_
          refine lv_iconst (v := 2) hx hb dL_isMended_157 (by decide) ?_
          refine lv_idiv hx hb dL_isMended_158 (by decide) ?_
          refine rg_topi (y := nI (zz / 2)) (by exact pk_div (a := zz) (d := 2) (by omega) (by omega) (by omega)) ?_
          refine lv_bipush (v := 16) hx hb dL_isMended_159 (by decide) ?_
          refine lv_irem hx hb dL_isMended_161 (by decide) ?_
          refine rg_topi (y := nI ((zz / 2) % 16)) (by exact pk_rem (a := zz / 2) (d := 16) (by omega) (by omega) (by omega)) ?_
          refine rg_topi (y := nI wd) (by rw [hd_wd]) ?_
          refine rg_callWi C0 hH (As := [.int (nI pl), .int (nI wd)]) (rest := []) (o := 0) (ci := 6) (a_mend l E B X M j pl wd hI (fun c hc => x0 c (by omega) (by omega)) x2 (by omega) (by omega) (rp_mpl hI hjl (by omega) c_36) hwd hno0 hst) (rg_cw 2 C0.1.2.2.2.2 tw_m_L_115 tw_i_X6_mend tw_v_X6_mend tw_n_X6 tw_c_X6_mend rfl rfl hd_X6_mend ⟨Nat.le_of_ble_eq_true rfl, Nat.le_of_ble_eq_true rfl⟩) rfl (by decide) rfl (by decide) rfl hl.1 rfl (Nat.le_of_ble_eq_true rfl) dL_isMended_162 ⟨Nat.le_of_ble_eq_true rfl, Nat.le_of_ble_eq_true rfl⟩ (fun r_162 M_162 H locs e_162 hH => ?_)
          have hm0 := rp_MX_0 e_162 hf0
          have hF9 : rp_Inv M_162 := rp_mend hI hjl (by omega) hwd c_36 x0 x2 x4 x5 (rp_ds_of (rp_vs hI hjl).2.1 (rp_mww hI hjl hwd) hf0) hm0.2
          refine lv_if_ne (tgt := 172) hx hb dL_isMended_165 (by decide) (fun c_165 => ?_) (fun c_165 => ?_)
          · exact absurd hm0.1 c_165
          · refine lv_iconst (v := 1) hx hb dL_isMended_168 (by decide) ?_
            refine lv_goto (tgt := 173) hx hb dL_isMended_169 (by decide) ?_
            exact rg_retWz C0 hH hr hlocks (Or.inr rfl) (by exact ⟨rfl, hF9⟩) dL_isMended_173
        · obtain ⟨t9, v9, ht1, ht8, hv9, hf8, hcq, hFX⟩ := hFL.resolve_left (fun q => c_89 (by rw [q.2]; decide))
          refine lv_aload_n hx hb dL_isMended_92 rfl (lv_at hl 7 rfl) ?_
          refine lv_bipush (v := 6) hx hb dL_isMended_93 (by decide) ?_
          refine lv_iload hx hb dL_isMended_95 (lv_at hl 3 rfl) ?_
          refine lv_imul hx hb dL_isMended_97 ?_
          refine rg_topi (y := nI (6 * j)) (by exact lw_mul (6) (j)) ?_
          refine lv_iload hx hb dL_isMended_98 (lv_at hl 2 rfl) ?_
          refine lv_iadd hx hb dL_isMended_100 ?_
          refine rg_topi (y := nI ((6 * j) + pl)) (by exact nI_add (6 * j) (pl)) ?_
          refine lv_iload hx hb dL_isMended_101 (lv_at hl 1 rfl) ?_
          refine rg_iastN C0 hH (o := 414) (j := ((6 * j) + pl)) (n0 := 64) (by decide) rfl rfl (by omega) dL_isMended_103 (fun H locs hH => ?_)
          replace hH := rg_H_eq (rp_mback (by omega)) hH
          refine lv_aload hx hb dL_isMended_104 (lv_at hl 9 rfl) ?_
          refine lv_bipush (v := 6) hx hb dL_isMended_106 (by decide) ?_
          refine rg_topi (y := nI 6) (by exact rfl) ?_
          refine lv_iload hx hb dL_isMended_108 (lv_at hl 0 rfl) ?_
          refine lv_bipush (v := 100) hx hb dL_isMended_110 (by decide) ?_
          refine lv_irem hx hb dL_isMended_112 (by decide) ?_
          refine rg_topi (y := nI v9) (by rw [hFX]; exact rp_rem ht8 hv9) ?_
          refine rg_iastN C0 hH (o := 417) (j := 6) (n0 := 9) (by decide) rfl rfl (by omega) dL_isMended_113 (fun H locs hH => ?_)
          refine lv_aload_n hx hb dL_isMended_114 rfl (lv_at hl 4 rfl) ?_
          refine lv_iload hx hb dL_isMended_115 (lv_at hl 2 rfl) ?_
          refine lv_iload hx hb dL_isMended_117 (lv_at hl 10 rfl) ?_
          refine lv_iconst (v := 2) hx hb dL_isMended_119 (by decide) ?_
          refine lv_idiv hx hb dL_isMended_120 (by decide) ?_
          refine rg_topi (y := nI (zz / 2)) (by exact pk_div (a := zz) (d := 2) (by omega) (by omega) (by omega)) ?_
          refine lv_bipush (v := 16) hx hb dL_isMended_121 (by decide) ?_
          refine lv_irem hx hb dL_isMended_123 (by decide) ?_
          refine rg_topi (y := nI ((zz / 2) % 16)) (by exact pk_rem (a := zz / 2) (d := 16) (by omega) (by omega) (by omega)) ?_
          refine rg_topi (y := nI wd) (by rw [hd_wd]) ?_
          refine rg_callWi C0 hH (As := [.int (nI pl), .int (nI wd)]) (rest := []) (o := 0) (ci := 6) (a_mend l E B (rg_I M 417 6 (nI v9)) M j pl wd hI (fun c hc => rg_I_cell (by omega)) rfl (by omega) (by omega) (rp_mpl hI hjl (by omega) c_36) hwd hno0 hst) (rg_cw 2 C0.1.2.2.2.2 tw_m_L_115 tw_i_X6_mend tw_v_X6_mend tw_n_X6 tw_c_X6_mend rfl rfl hd_X6_mend ⟨Nat.le_of_ble_eq_true rfl, Nat.le_of_ble_eq_true rfl⟩) rfl (by decide) rfl (by decide) rfl hl.1 rfl (Nat.le_of_ble_eq_true rfl) dL_isMended_124 ⟨Nat.le_of_ble_eq_true rfl, Nat.le_of_ble_eq_true rfl⟩ (fun r_124 M_124 H locs e_124 hH => ?_)
          obtain ⟨hr9, M2, hoff, hM1⟩ := rp_MX_f e_124 ⟨ht1, ht8⟩ hf8
          rw [hcq] at hM1
          have hF9 : rp_Inv M_124 := rp_why (x := nI v9) hI (fun c h1 h2 h3 => by rw [hM1, rg_I_cell h2, (hoff c (by omega) (by omega)).1, rg_I_cell h3]) (fun c h1 => by rw [hM1]; exact (hoff c (by omega) (by omega)).2) (fun k => by rw [hM1, rg_I_at, (hoff 0 (by omega) (by omega)).1, rg_I_cell (by omega)]) (fun k => by rw [hM1, rg_I_cell (by omega), (hoff 417 (by omega) (by omega)).1, rg_I_at])
          refine lv_iload hx hb dL_isMended_127 (lv_at hl 0 rfl) ?_
          refine lv_ineg hx hb dL_isMended_129 ?_
          refine lv_bipush (v := 100) hx hb dL_isMended_130 (by decide) ?_
          refine lv_idiv hx hb dL_isMended_132 (by decide) ?_
          refine lv_icmp_ne (tgt := 140) hx hb dL_isMended_133 (by decide) (fun c_133 => ?_) (fun c_133 => ?_)
          · exact absurd (by rw [hr9, hFX]; exact (rp_neg t9 (by omega) v9 hv9).symm) c_133
          · refine lv_iconst (v := 1) hx hb dL_isMended_136 (by decide) ?_
            refine lv_goto (tgt := 141) hx hb dL_isMended_137 (by decide) ?_
            exact rg_retWz C0 hH hr hlocks (Or.inr rfl) (by exact ⟨rfl, hF9⟩) dL_isMended_141
      · refine lv_iconst (v := 1) hx hb dL_isMended_39 (by decide) ?_
        refine W.widen (k := 4) (n := 24) (Nat.le_of_ble_eq_true rfl) (Nat.le_of_ble_eq_true rfl) ?_
        exact rg_retWz C0 hH hr hlocks (Or.inr rfl) (by exact ⟨rfl, hI⟩) dL_isMended_40
