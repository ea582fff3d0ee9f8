/-! choose -/
theorem rg_I_at {M : rg_Mem} {o k j : Nat} {v : Int32} : (rg_I M o k v).1 o j = if j = k then v else M.1 o j := by
  show (if o = o ∧ j = k then v else M.1 o j) = _
  by_cases c : j = k
  · rw [if_pos ⟨rfl, c⟩, if_pos c]
  · rw [if_neg (fun q => c q.2), if_neg c]
theorem rg_zp_c {M : rg_Mem} {j i c : Nat} (h : ¬ (13 ≤ c ∧ c < 13 + i)) : (rg_zp M j i).1 c = M.1 c := by
  funext k
  show (if _ then _ else _) = _
  rw [if_neg (fun q => h ⟨q.1, q.2.1⟩)]
theorem rp_X_c2 {M M1 : rg_Mem} (h : rp_X M) (hl : rg_nc M ≤ 2) (el : rg_nc M1 = rg_nc M) (e : ∀ c, c = 420 ∨ c = 421 ∨ (110 ≤ c ∧ c < 184) → M1.1 c = M.1 c) : rp_X M1 := by
  intro c hc r hr k hk
  rw [el] at hc
  rw [e (420 + c) (by omega), e (110 + 38 * c + r) (by omega)]
  exact h c hc r hr k hk
theorem rp_F_c2 {M M1 : rg_Mem} (h : rp_F M) (hl : rg_no M ≤ 4) (el : rg_no M1 = rg_no M) (e : ∀ c, c = 419 ∨ c = 97 ∨ (99 ≤ c ∧ c < 107) → M1.1 c = M.1 c) : rp_F M1 := by
  intro o ho
  rw [el] at ho
  have h1 := h o ho
  unfold rg_sz at h1 ⊢
  rw [e 419 (by omega), e 97 (by omega), e (99 + 2 * o) (by omega), e (99 + 2 * o + 1) (by omega)]
  exact h1
def rp_CH (M : rg_Mem) (ov : Nat) (M1 : rg_Mem) : Prop := ∃ M2, (rg_VS M2 (17 + 2 * rg_nl M) (rg_sz M (99 + 2 * ov)) ∧ (∀ k, k < rg_sz M (99 + 2 * ov) → M2.1 (17 + 2 * rg_nl M + 1) k = M.1 (99 + 2 * ov + 1) k) ∧ rg_off M M2 (17 + 2 * rg_nl M)) ∧ M1 = rg_I (rg_I (rg_zp (rg_I (rg_I (rg_I M2 9 (rg_nl M) (M.1 97 ov)) 10 (rg_nl M) 0) 11 (rg_nl M) 0) (rg_nl M) 4) 6 4 (nI (rg_nl M + 1))) 0 10 0
theorem rp_ds_c {w w' : Nat → Int32} {n : Nat} (h : rp_ds w n) (e : ∀ k, k < n → w' k = w k) : rp_ds w' n := fun a b h1 h2 q => h a b h1 h2 (by rw [e a (by omega), e b h2] at q; exact q)
theorem rp_choose {M X F : rg_Mem} {ov : Nat} (h : rp_Inv M) (ho : ov < rg_no M) (x0 : ∀ c, c ≠ 414 → c ≠ 415 → c ≠ 417 → X.1 c = M.1 c) (x2 : X.2 = M.2) (x4 : X.1 414 = (lw_row M (rg_nl M) (fun k => M.1 419 (7 * ov + 1 + k))).1 414) (x5 : ∀ k, X.1 415 k = if k = 4 * rg_nl M then M.1 419 (7 * ov) else M.1 415 k) (x7 : ∀ k, X.1 417 k = if k = 3 then nI (rg_nl M + 1) else if k = 5 then 0 else M.1 417 k) (hF : rp_CH X ov F) : rp_Inv F := by
  have hI := rp_ci h
  have hl := rp_nl h
  have hno := (rg_CI_o hI).2
  have hN := rp_n h
  have hlt := hN.2.2.2.1 (by omega)
  have hm := rp_m h
  obtain ⟨M2, ⟨v1, v2, v3⟩, rfl⟩ := hF
  have enl : rg_nl X = rg_nl M := by unfold rg_nl; rw [x0 6 (by omega) (by omega) (by omega)]
  have esz : rg_sz X (99 + 2 * ov) = rg_sz M (99 + 2 * ov) := by unfold rg_sz; rw [x0 _ (by omega) (by omega) (by omega)]
  rw [enl, esz] at v1 v2
  rw [enl] at v3 ⊢
  rw [x0 (99 + 2 * ov + 1) (by omega) (by omega) (by omega)] at v2
  rw [x0 97 (by omega) (by omega) (by omega)]
  generalize hF : rg_I (rg_I (rg_zp (rg_I (rg_I (rg_I M2 9 (rg_nl M) (M.1 97 ov)) 10 (rg_nl M) 0) 11 (rg_nl M) 0) (rg_nl M) 4) 6 4 (nI (rg_nl M + 1))) 0 10 0 = F
  have m0 : ∀ c, c ≠ 17 + 2 * rg_nl M → c ≠ 17 + 2 * rg_nl M + 1 → M2.1 c = X.1 c ∧ M2.2 c = X.2 c := v3
  have fz : ∀ c, c ≠ 0 → c ≠ 6 → c ≠ 9 → c ≠ 10 → c ≠ 11 → ¬ (13 ≤ c ∧ c < 17) → F.1 c = M2.1 c := fun c a1 a2 a3 a4 a5 a6 => by
    subst hF
    rw [rg_I_cell a1, rg_I_cell a2]
    funext k
    show (if 13 ≤ c ∧ c < 13 + 4 ∧ k = rg_nl M then (-1 : Int32) else _) = _
    rw [if_neg (by omega), rg_I_cell a5, rg_I_cell a4, rg_I_cell a3]
  have f2 : F.2 = M2.2 := by subst hF; rfl
  have fm : ∀ c, c ≠ 0 → c ≠ 6 → c ≠ 9 → c ≠ 10 → c ≠ 11 → ¬ (13 ≤ c ∧ c < 17) → c ≠ 414 → c ≠ 415 → c ≠ 417 → c ≠ 17 + 2 * rg_nl M → c ≠ 17 + 2 * rg_nl M + 1 → F.1 c = M.1 c := fun c a1 a2 a3 a4 a5 a6 a7 a8 a9 b1 b2 => (fz c a1 a2 a3 a4 a5 a6).trans ((m0 c b1 b2).1.trans (x0 c a7 a8 a9))
  have fm2 : ∀ c, c ≠ 17 + 2 * rg_nl M → c ≠ 17 + 2 * rg_nl M + 1 → F.2 c = M.2 c := fun c b1 b2 => by rw [f2, (m0 c b1 b2).2, x2]
  have sl : ∀ c, c ≠ 414 → c ≠ 415 → c ≠ 417 → c ≠ 17 + 2 * rg_nl M → c ≠ 17 + 2 * rg_nl M + 1 → M2.1 c = M.1 c := fun c a7 a8 a9 b1 b2 => (m0 c b1 b2).1.trans (x0 c a7 a8 a9)
  have g0 : ∀ k, F.1 0 k = if k = 10 then 0 else M.1 0 k := fun k => by
    rw [← sl 0 (by omega) (by omega) (by omega) (by omega) (by omega)]
    subst hF
    rw [rg_I_at, rg_I_cell (by omega), rg_zp_c (by omega), rg_I_cell (by omega), rg_I_cell (by omega), rg_I_cell (by omega)]
  have g6 : ∀ k, F.1 6 k = if k = 4 then nI (rg_nl M + 1) else M.1 6 k := fun k => by
    rw [← sl 6 (by omega) (by omega) (by omega) (by omega) (by omega)]
    subst hF
    rw [rg_I_cell (by omega), rg_I_at, rg_zp_c (by omega), rg_I_cell (by omega), rg_I_cell (by omega), rg_I_cell (by omega)]
  have g9 : ∀ k, F.1 9 k = if k = rg_nl M then M.1 97 ov else M.1 9 k := fun k => by
    rw [← sl 9 (by omega) (by omega) (by omega) (by omega) (by omega)]
    subst hF
    rw [rg_I_cell (by omega), rg_I_cell (by omega), rg_zp_c (by omega), rg_I_cell (by omega), rg_I_cell (by omega), rg_I_at]
  have g10 : ∀ k, F.1 10 k = if k = rg_nl M then 0 else M.1 10 k := fun k => by
    rw [← sl 10 (by omega) (by omega) (by omega) (by omega) (by omega)]
    subst hF
    rw [rg_I_cell (by omega), rg_I_cell (by omega), rg_zp_c (by omega), rg_I_cell (by omega), rg_I_at, rg_I_cell (by omega)]
  have g11 : ∀ k, F.1 11 k = if k = rg_nl M then 0 else M.1 11 k := fun k => by
    rw [← sl 11 (by omega) (by omega) (by omega) (by omega) (by omega)]
    subst hF
    rw [rg_I_cell (by omega), rg_I_cell (by omega), rg_zp_c (by omega), rg_I_at, rg_I_cell (by omega), rg_I_cell (by omega)]
  have g13 : ∀ g, g < 4 → ∀ k, F.1 (13 + g) k = if k = rg_nl M then -1 else M.1 (13 + g) k := fun g hg k => by
    rw [← sl (13 + g) (by omega) (by omega) (by omega) (by omega) (by omega)]
    subst hF
    rw [rg_I_cell (by omega), rg_I_cell (by omega)]
    show (if 13 ≤ 13 + g ∧ 13 + g < 13 + 4 ∧ k = rg_nl M then (-1 : Int32) else _) = _
    by_cases c : k = rg_nl M
    · rw [if_pos (by omega), if_pos c]
    · rw [if_neg (by omega), if_neg c, rg_I_cell (by omega), rg_I_cell (by omega), rg_I_cell (by omega)]
  have v4 : rg_VS F (17 + 2 * rg_nl M) (rg_sz M (99 + 2 * ov)) := rg_VS_e v1 (fun c hc => fz c (by omega) (by omega) (by omega) (by omega) (by omega) (by omega)) (by rw [f2])
  have esv : rg_sz F (17 + 2 * rg_nl M) = rg_sz M (99 + 2 * ov) := by
    have := v1.2.1
    exact rp_cl v4.1 (by omega)
  have ew : ∀ k, k < rg_sz M (99 + 2 * ov) → F.1 (17 + 2 * rg_nl M + 1) k = M.1 (99 + 2 * ov + 1) k := fun k hk => by
    rw [fz _ (by omega) (by omega) (by omega) (by omega) (by omega) (by omega)]
    exact v2 k hk
  have e3 : rg_nl F = rg_nl M + 1 := rp_cl (by rw [g6]; rfl) (by omega)
  have e4 : rg_nt F = rg_nt M := by unfold rg_nt; rw [g6]; rfl
  have e5 : rg_no F = 0 := by unfold rg_no; rw [g0]; rfl
  have e6 : rg_nc F = rg_nc M := by unfold rg_nc; rw [g0]; rfl
  have hfo := rp_f h ov ho
  refine ⟨rg_CI_mk (nw := 16) (np := 3) (nl := rg_nl M + 1) (nt := rg_nt M) (no := 0) (nc := rg_nc M) (sp := rg_sp M) ?_ (by omega) ?_ (by omega) ?_ (by omega) ?_ (by omega) ?_ (by omega) ?_ (rg_CI_c hI).2 ?_ (rg_CI_s hI).2 (rg_VS_z (rg_CI_d hI) (fun c hc => fm c (by omega) (by omega) (by omega) (by omega) (by omega) (by omega) (by omega) (by omega) (by omega) (by omega) (by omega)) (fm2 _ (by omega) (by omega))) (fun k hk => ?_) (fun k hk => absurd hk (by omega)) (fun k hk => ?_) (fun k hk => absurd hk (by omega)) (fun k hk => ?_), ?_, lw_WI_c (rp_wi h) (fun c hc => fm c (by omega) (by omega) (by omega) (by omega) (by omega) (by omega) (by omega) (by omega) (by omega) (by omega) (by omega)), rp_C_c (rp_c h) (fm _ (by omega) (by omega) (by omega) (by omega) (by omega) (by omega) (by omega) (by omega) (by omega) (by omega) (by omega)) (fm2 _ (by omega) (by omega)), ?_, ?_, ?_, ?_, rp_D_c (rp_d h) (fun c hc => fm c (by omega) (by omega) (by omega) (by omega) (by omega) (by omega) (by omega) (by omega) (by omega) (by omega) (by omega)), fun o ho => absurd ho (by omega), ?_⟩
  · rw [fm 1 (by omega) (by omega) (by omega) (by omega) (by omega) (by omega) (by omega) (by omega) (by omega) (by omega) (by omega)]; exact hN.1.1
  · rw [g0]; exact hN.1.2
  · rw [g6]; rfl
  · rw [g6]; exact (rg_CI_t hI).1
  · rw [g0]; rfl
  · rw [g0]; exact (rg_CI_c hI).1
  · rw [g6]; exact (rg_CI_s hI).1
  · by_cases c : k = rg_nl M
    · subst c; rw [esv]; exact v4
    · exact rg_VS_z (rg_CI_v hI k (by omega)) (fun c hc => fm c (by omega) (by omega) (by omega) (by omega) (by omega) (by omega) (by omega) (by omega) (by omega) (by omega) (by omega)) (fm2 _ (by omega) (by omega))
  · rw [g9]
    by_cases c : k = rg_nl M
    · rw [if_pos c]
      obtain ⟨q, h1, h2⟩ := rg_CI_mo hI ov ho
      exact ⟨q, by rw [rp_np h] at h1; exact h1, h2⟩
    · rw [if_neg c]; exact rp_mk h (by omega)
  · rw [g10, g11]
    by_cases c : k = rg_nl M
    · rw [if_pos c, if_pos c]; exact ⟨Or.inl rfl, Or.inl rfl⟩
    · rw [if_neg c, if_neg c]; exact rg_CI_h hI k (by omega)
  · unfold rp_N
    rw [e3, e4, e5, e6, fm 1 (by omega) (by omega) (by omega) (by omega) (by omega) (by omega) (by omega) (by omega) (by omega) (by omega) (by omega), g0]
    exact ⟨hN.1, hN.2.1, hN.2.2.1, fun q => by omega, fun q => by omega⟩
  · unfold rp_M
    rw [e4, fz 417 (by omega) (by omega) (by omega) (by omega) (by omega) (by omega), (m0 417 (by omega) (by omega)).1, x7, x7, x7, x7, x7, x7, x7, x7, x7, g6, g6, g6, g6, g6, g0, g0, g0]
    exact ⟨hm.1, hm.2.1, hm.2.2.1, rfl, hm.2.2.2.2.1, rfl, hm.2.2.2.2.2.2.1, hm.2.2.2.2.2.2.2.1, hm.2.2.2.2.2.2.2.2⟩
  · have e414 : F.1 414 = (lw_row M (rg_nl M) (fun k => M.1 419 (7 * ov + 1 + k))).1 414 := by rw [fz 414 (by omega) (by omega) (by omega) (by omega) (by omega) (by omega), (m0 414 (by omega) (by omega)).1, x4]
    unfold rp_T rp_row
    rw [e3, e414]
    refine ⟨fun j hj => ?_, fun i h1 h2 => ?_⟩
    · by_cases c : j = rg_nl M
      · subst c
        rw [esv]
        refine ⟨fun k hk => ?_, rp_ds_c hfo.2.2 ew⟩
        show (if 414 = 414 ∧ 6 * rg_nl M ≤ 6 * rg_nl M + k ∧ 6 * rg_nl M + k < 6 * rg_nl M + 6 then M.1 419 (7 * ov + 1 + (6 * rg_nl M + k - 6 * rg_nl M)) else _) = _
        rw [if_pos (by omega), show 6 * rg_nl M + k - 6 * rg_nl M = k by omega, hfo.2.1 k hk]
        by_cases d : k < rg_sz M (99 + 2 * ov)
        · rw [if_pos d, if_pos d, ew k d]
        · rw [if_neg d, if_neg d]
      · have hr := (rp_t h).1 j (by omega)
        unfold rg_sz at hr ⊢
        rw [fm (17 + 2 * j) (by omega) (by omega) (by omega) (by omega) (by omega) (by omega) (by omega) (by omega) (by omega) (by omega) (by omega), fm (17 + 2 * j + 1) (by omega) (by omega) (by omega) (by omega) (by omega) (by omega) (by omega) (by omega) (by omega) (by omega) (by omega)]
        exact ⟨rp_rowB c hr.1, hr.2⟩
    · show (if 414 = 414 ∧ 6 * rg_nl M ≤ i ∧ i < 6 * rg_nl M + 6 then _ else M.1 414 i) = 0
      rw [if_neg (by omega)]
      exact (rp_t h).2 i (by omega) h2
  · unfold rp_L
    rw [e3]
    intro j hj
    have e5' : ∀ k, F.1 415 k = if k = 4 * rg_nl M then M.1 419 (7 * ov) else M.1 415 k := fun k => by rw [fz 415 (by omega) (by omega) (by omega) (by omega) (by omega) (by omega), (m0 415 (by omega) (by omega)).1, x5]
    have hL := rp_l h j hj
    rw [e5', e5', e5', e5', g9, g10, g11, fm 7 (by omega) (by omega) (by omega) (by omega) (by omega) (by omega) (by omega) (by omega) (by omega) (by omega) (by omega), if_neg (by omega : ¬ 4 * j + 1 = 4 * rg_nl M), if_neg (by omega : ¬ 4 * j + 2 = 4 * rg_nl M), if_neg (by omega : ¬ 4 * j + 3 = 4 * rg_nl M)]
    refine ⟨hL.1, fun q => ?_, fun q => hL.2.2 (by omega)⟩
    by_cases c : j = rg_nl M
    · have hz := hL.2.2 (by omega)
      rw [if_pos (by omega), if_pos c, if_pos c, if_pos c]
      exact ⟨hfo.1, hz.1, hz.2⟩
    · rw [if_neg (by omega), if_neg c, if_neg c, if_neg c]
      exact hL.2.1 (by omega)
  · unfold rp_Q
    rw [e3]
    intro g hg j hj
    have hQ := rp_q h g hg j hj
    rw [fm 416 (by omega) (by omega) (by omega) (by omega) (by omega) (by omega) (by omega) (by omega) (by omega) (by omega) (by omega), g13 g hg]
    refine ⟨fun q => ?_, fun q => hQ.2 (by omega)⟩
    by_cases c : j = rg_nl M
    · rw [if_pos c, hQ.2 (by omega)]
      exact ⟨0, by omega, rfl, by decide⟩
    · rw [if_neg c]
      exact hQ.1 (by omega)
  · exact rp_X_c2 (rp_x h) hN.2.2.1 e6 (fun c hc => fm c (by omega) (by omega) (by omega) (by omega) (by omega) (by omega) (by omega) (by omega) (by omega) (by omega) (by omega))
