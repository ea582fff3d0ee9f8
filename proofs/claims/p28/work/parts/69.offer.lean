/-! the draft, an offer -/
theorem rp_draft {M F : rg_Mem} {n : Nat} (h : rp_Inv M) (f0 : ∀ c, c ≠ 90 → c ≠ 91 → c ≠ 418 → F.1 c = M.1 c) (f2 : ∀ c, c ≠ 90 → c ≠ 91 → F.2 c = M.2 c) (v : rg_VS F 90 n) (hd : ∀ k, k < 6 → F.1 418 k = if k < n then F.1 91 k + 1 else 0) : rp_Inv F := by
  have hI := rp_ci h
  have hl := rp_nl h
  have hN := rp_n h
  have hno := (rg_CI_o hI).2
  have esz : rg_sz F 90 = n := by
    have := v.2.1
    exact rp_cl v.1 (by omega)
  have eno : rg_no F = rg_no M := by unfold rg_no; rw [f0 0 (by omega) (by omega) (by omega)]
  have enc : rg_nc F = rg_nc M := by unfold rg_nc; rw [f0 0 (by omega) (by omega) (by omega)]
  refine ⟨rg_CI_mk (nw := 16) (np := 3) (nl := rg_nl M) (nt := rg_nt M) (no := rg_no M) (nc := rg_nc M) (sp := rg_sp M) ?_ (by omega) ?_ (by omega) ?_ (by omega) ?_ (by omega) ?_ hno ?_ (rg_CI_c hI).2 ?_ (rg_CI_s hI).2 (by rw [esz]; exact v) (fun k hk => rg_VS_z (rg_CI_v hI k hk) (fun c hc => f0 c (by omega) (by omega) (by omega)) (f2 _ (by omega) (by omega))) (fun k hk => rg_VS_z (rg_CI_vo hI k hk) (fun c hc => f0 c (by omega) (by omega) (by omega)) (f2 _ (by omega) (by omega))) ?_ ?_ ?_, rp_N_c hN (fun c hc => f0 c (by omega) (by omega) (by omega)), lw_WI_c (rp_wi h) (fun c hc => f0 c (by omega) (by omega) (by omega)), rp_C_c (rp_c h) (f0 _ (by omega) (by omega) (by omega)) (f2 _ (by omega) (by omega)), rp_M_c (rp_m h) (fun c hc => f0 c (by omega) (by omega) (by omega)), rp_T_c (rp_t h) (by omega) (fun c hc => f0 c (by omega) (by omega) (by omega)), rp_L_c (rp_l h) (fun c hc => f0 c (by omega) (by omega) (by omega)), rp_Q_c (rp_q h) (fun c hc => f0 c (by omega) (by omega) (by omega)), fun k hk => by rw [esz]; exact hd k hk, rp_F_c2 (rp_f h) hno eno (fun c hc => f0 c (by omega) (by omega) (by omega)), rp_X_c2 (rp_x h) hN.2.2.1 enc (fun c hc => f0 c (by omega) (by omega) (by omega))⟩
  · rw [f0 1 (by omega) (by omega) (by omega)]; exact hN.1.1
  · rw [f0 0 (by omega) (by omega) (by omega)]; exact hN.1.2
  · rw [f0 6 (by omega) (by omega) (by omega)]; exact (rg_CI_l hI).1
  · rw [f0 6 (by omega) (by omega) (by omega)]; exact (rg_CI_t hI).1
  · rw [f0 0 (by omega) (by omega) (by omega)]; exact (rg_CI_o hI).1
  · rw [f0 0 (by omega) (by omega) (by omega)]; exact (rg_CI_c hI).1
  · rw [f0 6 (by omega) (by omega) (by omega)]; exact (rg_CI_s hI).1
  · intro k hk
    rw [f0 9 (by omega) (by omega) (by omega)]
    exact rp_mk h hk
  · intro k hk
    rw [f0 97 (by omega) (by omega) (by omega)]
    obtain ⟨q, h1, h2⟩ := rg_CI_mo hI k hk
    exact ⟨q, by rw [rp_np h] at h1; exact h1, h2⟩
  · rw [f0 10 (by omega) (by omega) (by omega), f0 11 (by omega) (by omega) (by omega)]; exact rg_CI_h hI
theorem rp_din {M : rg_Mem} (h : rp_Inv M) : ∀ k, k < 6 → ∃ a, a ≤ 16 ∧ M.1 418 k = nI a := fun k hk => by
  rw [rp_d h k hk]
  by_cases c : k < rg_sz M 90
  · rw [if_pos c]
    obtain ⟨a, h1, h2⟩ := rp_VSw h (rg_CI_d (rp_ci h)) k c
    exact ⟨a + 1, by omega, by rw [h2, nI_succ]⟩
  · rw [if_neg c]; exact ⟨0, by omega, rfl⟩
def rp_OF (M : rg_Mem) (pt : Nat) (F : rg_Mem) : Prop := ∃ M2, (rg_VS M2 (99 + 2 * rg_no M) (rg_sz M 90) ∧ (∀ k, k < rg_sz M 90 → M2.1 (99 + 2 * rg_no M + 1) k = M.1 (90 + 1) k) ∧ rg_off M M2 (99 + 2 * rg_no M)) ∧ F = rg_emp (rg_I (rg_I M2 97 (rg_no M) (nI pt)) 0 10 (nI (rg_no M + 1)))
theorem rg_emp_c {M : rg_Mem} {c : Nat} (h : c ≠ 90) : (rg_emp M).1 c = M.1 c ∧ (rg_emp M).2 c = M.2 c := by
  unfold rg_emp
  refine ⟨?_, rg_J_cell h⟩
  show (rg_I _ _ _ _).1 c = _
  rw [rg_I_cell h, rg_I_cell h, rg_I_cell h, rg_I_cell h]
theorem rp_offer {M X F : rg_Mem} {pt : Nat} (h : rp_Inv M) (hno : rg_no M < 4) (hlt : rg_nl M < rg_nt M) (hpt : pt < 3) (x0 : ∀ c, c ≠ 417 → c ≠ 418 → c ≠ 419 → X.1 c = M.1 c) (x2 : X.2 = M.2) (x7 : ∀ k, X.1 417 k = if k = 5 then nI (rg_no M + 1) else M.1 417 k) (x8 : ∀ k, k < 6 → X.1 418 k = 0) (x9 : ∀ k, k < 28 → X.1 419 k = if 7 * rg_no M + 1 ≤ k ∧ k < 7 * rg_no M + 7 then M.1 418 (k - (7 * rg_no M + 1)) else if k = 7 * rg_no M then nI pt else M.1 419 k) (hds : rp_ds (M.1 91) (rg_sz M 90)) (hF : rp_OF X pt F) : rp_Inv F := by
  have hI := rp_ci h
  have hl := rp_nl h
  have hN := rp_n h
  have hm := rp_m h
  obtain ⟨M2, ⟨v1, v2, v3⟩, hF⟩ := hF
  have eno : rg_no X = rg_no M := by unfold rg_no; rw [x0 0 (by omega) (by omega) (by omega)]
  have esz : rg_sz X 90 = rg_sz M 90 := by unfold rg_sz; rw [x0 90 (by omega) (by omega) (by omega)]
  rw [eno, esz] at v1 v2
  rw [eno] at v3 hF
  rw [x0 (90 + 1) (by omega) (by omega) (by omega)] at v2
  have fz : ∀ c, c ≠ 0 → c ≠ 90 → c ≠ 97 → F.1 c = M2.1 c := fun c a1 a2 a3 => by
    subst hF
    rw [(rg_emp_c a2).1, rg_I_cell a1, rg_I_cell a3]
  have fz2 : ∀ c, c ≠ 90 → F.2 c = M2.2 c := fun c a2 => by
    subst hF
    exact (rg_emp_c a2).2
  have fm : ∀ c, c ≠ 0 → c ≠ 90 → c ≠ 97 → c ≠ 417 → c ≠ 418 → c ≠ 419 → c ≠ 99 + 2 * rg_no M → c ≠ 99 + 2 * rg_no M + 1 → F.1 c = M.1 c := fun c a1 a2 a3 a4 a5 a6 b1 b2 => (fz c a1 a2 a3).trans ((v3 c b1 b2).1.trans (x0 c a4 a5 a6))
  have fm2 : ∀ c, c ≠ 90 → c ≠ 99 + 2 * rg_no M → c ≠ 99 + 2 * rg_no M + 1 → F.2 c = M.2 c := fun c a2 b1 b2 => by rw [fz2 c a2, (v3 c b1 b2).2, x2]
  have g0 : ∀ k, F.1 0 k = if k = 10 then nI (rg_no M + 1) else M.1 0 k := fun k => by
    subst hF
    rw [(rg_emp_c (by omega)).1, rg_I_at, rg_I_cell (by omega), (v3 0 (by omega) (by omega)).1, x0 0 (by omega) (by omega) (by omega)]
  have g97 : ∀ k, F.1 97 k = if k = rg_no M then nI pt else M.1 97 k := fun k => by
    subst hF
    rw [(rg_emp_c (by omega)).1, rg_I_cell (by omega), rg_I_at, (v3 97 (by omega) (by omega)).1, x0 97 (by omega) (by omega) (by omega)]
  have v4 : rg_VS F (99 + 2 * rg_no M) (rg_sz M 90) := rg_VS_e v1 (fun c hc => fz c (by omega) (by omega) (by omega)) (fz2 _ (by omega))
  have esv : rg_sz F (99 + 2 * rg_no M) = rg_sz M 90 := by
    have := v1.2.1
    exact rp_cl v4.1 (by omega)
  have ew : ∀ k, k < rg_sz M 90 → F.1 (99 + 2 * rg_no M + 1) k = M.1 91 k := fun k hk => by
    rw [fz _ (by omega) (by omega) (by omega)]
    exact v2 k hk
  have vd : rg_VS F 90 0 := by subst hF; exact rg_VS_0
  have esd : rg_sz F 90 = 0 := rp_cl vd.1 (by omega)
  have e3 : rg_nl F = rg_nl M := by unfold rg_nl; rw [fm 6 (by omega) (by omega) (by omega) (by omega) (by omega) (by omega) (by omega) (by omega)]
  have e4 : rg_nt F = rg_nt M := by unfold rg_nt; rw [fm 6 (by omega) (by omega) (by omega) (by omega) (by omega) (by omega) (by omega) (by omega)]
  have e5 : rg_no F = rg_no M + 1 := rp_cl (by rw [g0]; rfl) (by omega)
  have e6 : rg_nc F = rg_nc M := by unfold rg_nc; rw [g0]; rfl
  refine ⟨rg_CI_mk (nw := 16) (np := 3) (nl := rg_nl M) (nt := rg_nt M) (no := rg_no M + 1) (nc := rg_nc M) (sp := rg_sp M) ?_ (by omega) ?_ (by omega) ?_ (by omega) ?_ (by omega) ?_ (by omega) ?_ (rg_CI_c hI).2 ?_ (rg_CI_s hI).2 (by rw [esd]; exact vd) (fun k hk => rg_VS_z (rg_CI_v hI k hk) (fun c hc => fm c (by omega) (by omega) (by omega) (by omega) (by omega) (by omega) (by omega) (by omega)) (fm2 _ (by omega) (by omega) (by omega))) (fun k hk => ?_) ?_ (fun k hk => ?_) ?_, ?_, lw_WI_c (rp_wi h) (fun c hc => fm c (by omega) (by omega) (by omega) (by omega) (by omega) (by omega) (by omega) (by omega)), rp_C_c (rp_c h) (fm _ (by omega) (by omega) (by omega) (by omega) (by omega) (by omega) (by omega) (by omega)) (fm2 _ (by omega) (by omega) (by omega)), ?_, rp_T_c (rp_t h) (by omega) (fun c hc => fm c (by omega) (by omega) (by omega) (by omega) (by omega) (by omega) (by omega) (by omega)), rp_L_c (rp_l h) (fun c hc => fm c (by omega) (by omega) (by omega) (by omega) (by omega) (by omega) (by omega) (by omega)), rp_Q_c (rp_q h) (fun c hc => fm c (by omega) (by omega) (by omega) (by omega) (by omega) (by omega) (by omega) (by omega)), ?_, ?_, rp_X_c2 (rp_x h) hN.2.2.1 e6 (fun c hc => fm c (by omega) (by omega) (by omega) (by omega) (by omega) (by omega) (by omega) (by omega))⟩
  · rw [fm 1 (by omega) (by omega) (by omega) (by omega) (by omega) (by omega) (by omega) (by omega)]; exact hN.1.1
  · rw [g0]; exact hN.1.2
  · rw [fm 6 (by omega) (by omega) (by omega) (by omega) (by omega) (by omega) (by omega) (by omega)]; exact (rg_CI_l hI).1
  · rw [fm 6 (by omega) (by omega) (by omega) (by omega) (by omega) (by omega) (by omega) (by omega)]; exact (rg_CI_t hI).1
  · rw [g0]; rfl
  · rw [g0]; exact (rg_CI_c hI).1
  · rw [fm 6 (by omega) (by omega) (by omega) (by omega) (by omega) (by omega) (by omega) (by omega)]; exact (rg_CI_s hI).1
  · by_cases c : k = rg_no M
    · subst c; rw [esv]; exact v4
    · exact rg_VS_z (rg_CI_vo hI k (by omega)) (fun c hc => fm c (by omega) (by omega) (by omega) (by omega) (by omega) (by omega) (by omega) (by omega)) (fm2 _ (by omega) (by omega) (by omega))
  · intro k hk
    rw [fm 9 (by omega) (by omega) (by omega) (by omega) (by omega) (by omega) (by omega) (by omega)]
    exact rp_mk h hk
  · rw [g97]
    by_cases c : k = rg_no M
    · rw [if_pos c]; exact ⟨pt, hpt, rfl⟩
    · rw [if_neg c]
      obtain ⟨q, h1, h2⟩ := rg_CI_mo hI k (by omega)
      exact ⟨q, by rw [rp_np h] at h1; exact h1, h2⟩
  · rw [fm 10 (by omega) (by omega) (by omega) (by omega) (by omega) (by omega) (by omega) (by omega), fm 11 (by omega) (by omega) (by omega) (by omega) (by omega) (by omega) (by omega) (by omega)]; exact rg_CI_h hI
  · unfold rp_N
    rw [e3, e4, e5, e6, fm 1 (by omega) (by omega) (by omega) (by omega) (by omega) (by omega) (by omega) (by omega), g0]
    exact ⟨hN.1, hN.2.1, hN.2.2.1, fun _ => hlt, hN.2.2.2.2⟩
  · unfold rp_M
    rw [e4, fz 417 (by omega) (by omega) (by omega), (v3 417 (by omega) (by omega)).1, x7, x7, x7, x7, x7, x7, x7, x7, x7, fm 6 (by omega) (by omega) (by omega) (by omega) (by omega) (by omega) (by omega) (by omega), g0, g0, g0]
    exact ⟨hm.1, hm.2.1, hm.2.2.1, hm.2.2.2.1, hm.2.2.2.2.1, rfl, hm.2.2.2.2.2.2.1, hm.2.2.2.2.2.2.2.1, hm.2.2.2.2.2.2.2.2⟩
  · intro k hk
    rw [esd, if_neg (by omega), fz 418 (by omega) (by omega) (by omega), (v3 418 (by omega) (by omega)).1, x8 k hk]
  · intro o ho
    rw [e5] at ho
    have e9 : ∀ k, k < 28 → F.1 419 k = if 7 * rg_no M + 1 ≤ k ∧ k < 7 * rg_no M + 7 then M.1 418 (k - (7 * rg_no M + 1)) else if k = 7 * rg_no M then nI pt else M.1 419 k := fun k hk => by rw [fz 419 (by omega) (by omega) (by omega), (v3 419 (by omega) (by omega)).1, x9 k hk]
    by_cases c : o = rg_no M
    · subst c
      rw [esv, e9 _ (by omega), if_neg (by omega), if_pos rfl, g97, if_pos rfl]
      refine ⟨rfl, fun k hk => ?_, rp_ds_c hds ew⟩
      rw [e9 _ (by omega), if_pos (by omega), show 7 * rg_no M + 1 + k - (7 * rg_no M + 1) = k by omega, rp_d h k hk]
      by_cases d : k < rg_sz M 90
      · rw [if_pos d, if_pos d, ew k d]
      · rw [if_neg d, if_neg d]
    · have hf := rp_f h o (by omega)
      unfold rg_sz at hf ⊢
      rw [e9 _ (by omega), if_neg (by omega), if_neg (by omega), g97, if_neg c, fm (99 + 2 * o) (by omega) (by omega) (by omega) (by omega) (by omega) (by omega) (by omega) (by omega), fm (99 + 2 * o + 1) (by omega) (by omega) (by omega) (by omega) (by omega) (by omega) (by omega) (by omega)]
      refine ⟨hf.1, fun k hk => ?_, hf.2.2⟩
      rw [e9 _ (by omega), if_neg (by omega), if_neg (by omega)]
      exact hf.2.1 k hk
