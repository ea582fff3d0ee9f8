/-! what each part of the state's invariant is read of -/
theorem lw_cs_e {M M1 : rg_Mem} {j sp : Nat} {po : Int32} (h : ∀ c, ¬ (92 ≤ c ∧ c ≤ 96) → M1.1 c = M.1 c) : lw_cs M1 j sp po = lw_cs M j sp po := by
  have e : lw_cs (fun c k => if 92 ≤ c ∧ c ≤ 96 then 0 else M1.1 c k, M1.2) j sp po = lw_cs (fun c k => if 92 ≤ c ∧ c ≤ 96 then 0 else M.1 c k, M.2) j sp po := lw_cs_c (fun c _ => by
    funext k
    show (if _ then _ else _) = if _ then _ else _
    by_cases q : 92 ≤ c ∧ c ≤ 96
    · rw [if_pos q, if_pos q]
    · rw [if_neg q, if_neg q, h c q])
  exact e
section CONG
variable {M M1 : rg_Mem}
theorem rp_N_c (h : rp_N M) (e : ∀ c, c = 0 ∨ c = 1 ∨ c = 6 → M1.1 c = M.1 c) : rp_N M1 := by
  unfold rp_N rg_nt rg_nc rg_no rg_nl
  rw [e 0 (by omega), e 1 (by omega), e 6 (by omega)]
  exact h
theorem lw_WI_c (h : lw_WI M) (e : ∀ c, c = 412 ∨ c = 2 ∨ c = 3 ∨ c = 4 → M1.1 c = M.1 c) : lw_WI M1 := by
  unfold lw_WI
  rw [e 412 (by omega), e 2 (by omega), e 3 (by omega), e 4 (by omega)]
  exact h
theorem rp_C_c (h : rp_C M) (e : M1.1 413 = M.1 413) (e2 : M1.2 5 = M.2 5) : rp_C M1 := by
  unfold rp_C
  rw [e, e2]
  exact h
theorem rp_M_c (h : rp_M M) (e : ∀ c, c = 0 ∨ c = 6 ∨ c = 417 → M1.1 c = M.1 c) : rp_M M1 := by
  unfold rp_M rg_nt
  rw [e 0 (by omega), e 6 (by omega), e 417 (by omega)]
  exact h
theorem rp_T_c (h : rp_T M) (hl : rg_nl M ≤ 36) (e : ∀ c, c = 6 ∨ c = 414 ∨ (17 ≤ c ∧ c < 89) → M1.1 c = M.1 c) : rp_T M1 := by
  have el : rg_nl M1 = rg_nl M := by unfold rg_nl; rw [e 6 (by omega)]
  unfold rp_T rp_row
  rw [el, e 414 (by omega)]
  refine ⟨fun j hj => ?_, h.2⟩
  unfold rg_sz
  rw [e (17 + 2 * j) (by omega), e (17 + 2 * j + 1) (by omega)]
  exact h.1 j hj
theorem rp_L_c (h : rp_L M) (e : ∀ c, c = 6 ∨ c = 415 ∨ c = 7 ∨ c = 9 ∨ c = 10 ∨ c = 11 → M1.1 c = M.1 c) : rp_L M1 := by
  unfold rp_L rg_nl
  rw [e 6 (by omega), e 415 (by omega), e 7 (by omega), e 9 (by omega), e 10 (by omega), e 11 (by omega)]
  exact h
theorem rp_Q_c (h : rp_Q M) (e : ∀ c, c = 6 ∨ c = 416 ∨ (13 ≤ c ∧ c < 17) → M1.1 c = M.1 c) : rp_Q M1 := by
  have el : rg_nl M1 = rg_nl M := by unfold rg_nl; rw [e 6 (by omega)]
  intro g hg j hj
  rw [el, e 416 (by omega), e (13 + g) (by omega)]
  exact h g hg j hj
theorem rp_D_c (h : rp_D M) (e : ∀ c, c = 418 ∨ c = 90 ∨ c = 91 → M1.1 c = M.1 c) : rp_D M1 := by
  unfold rp_D rg_sz
  rw [e 418 (by omega), e 90 (by omega), e 91 (by omega)]
  exact h
theorem rp_F_c (h : rp_F M) (hl : rg_no M ≤ 4) (e : ∀ c, c = 0 ∨ c = 419 ∨ c = 97 ∨ (99 ≤ c ∧ c < 107) → M1.1 c = M.1 c) : rp_F M1 := by
  have el : rg_no M1 = rg_no M := by unfold rg_no; rw [e 0 (by omega)]
  intro o ho
  rw [el] at ho
  have h1 := h o ho
  unfold rg_sz at h1 ⊢
  rw [e 419 (by omega), e 97 (by omega), e (99 + 2 * o) (by omega), e (99 + 2 * o + 1) (by omega)]
  exact h1
theorem rp_X_c (h : rp_X M) (hl : rg_nc M ≤ 2) (e : ∀ c, c = 0 ∨ c = 420 ∨ c = 421 ∨ (110 ≤ c ∧ c < 184) → M1.1 c = M.1 c) : rp_X M1 := by
  have el : rg_nc M1 = rg_nc M := by unfold rg_nc; rw [e 0 (by omega)]
  intro c hc r hr k hk
  rw [el] at hc
  rw [e (420 + c) (by omega), e (110 + 38 * c + r) (by omega)]
  exact h c hc r hr k hk
def rp_eqv (M M1 : rg_Mem) : Prop := ∀ c, ¬ (92 ≤ c ∧ c ≤ 96) → M1.1 c = M.1 c ∧ M1.2 c = M.2 c
theorem rp_Inv_eqv (h : rp_Inv M) (hc : rg_CI M1) (g : rp_eqv M M1) : rp_Inv M1 :=
  ⟨hc, rp_N_c (rp_n h) (fun c hc => (g c (by omega)).1), lw_WI_c (rp_wi h) (fun c hc => (g c (by omega)).1), rp_C_c (rp_c h) (g 413 (by omega)).1 (g 5 (by omega)).2, rp_M_c (rp_m h) (fun c hc => (g c (by omega)).1), rp_T_c (rp_t h) (by have := rp_nl h; omega) (fun c hc => (g c (by omega)).1), rp_L_c (rp_l h) (fun c hc => (g c (by omega)).1), rp_Q_c (rp_q h) (fun c hc => (g c (by omega)).1), rp_D_c (rp_d h) (fun c hc => (g c (by omega)).1), rp_F_c (rp_f h) (rg_CI_o (rp_ci h)).2 (fun c hc => (g c (by omega)).1), rp_X_c (rp_x h) (rp_n h).2.2.1 (fun c hc => (g c (by omega)).1)⟩
theorem rp_eqv_off (g : rg_off M M1 92) : rp_eqv M M1 := fun c hc => g c (by omega) (by omega)
theorem rp_eqv_mean (g : ∀ c, c ≠ 95 → c ≠ 96 → M1.1 c = M.1 c ∧ M1.2 = M.2) : rp_eqv M M1 := fun c hc => ⟨(g c (by omega) (by omega)).1, by rw [(g c (by omega) (by omega)).2]⟩
theorem rp_eqv_rf : rp_eqv M M := fun _ _ => ⟨rfl, rfl⟩
theorem rp_eqv_tr {M2 : rg_Mem} (h : rp_eqv M M1) (g : rp_eqv M1 M2) : rp_eqv M M2 := fun c hc => ⟨(g c hc).1.trans (h c hc).1, (g c hc).2.trans (h c hc).2⟩
theorem rp_eqv_nl (g : rp_eqv M M1) : rg_nl M1 = rg_nl M := by unfold rg_nl; rw [(g 6 (by omega)).1]
theorem lw_pz_c (e5 : M1.1 415 = M.1 415) (e6 : M1.1 416 = M.1 416) : lw_pz M1 = lw_pz M := by
  unfold lw_pz lw_ps lw_pc
  rw [e5, e6]
theorem lw_t_c (e : M1.1 414 = M.1 414) : lw_t M1 = lw_t M := by funext i; unfold lw_t; rw [e]
theorem lw_hz_c (g : rp_eqv M M1) {j nl : Nat} : lw_hz M1 j nl = lw_hz M j nl := by
  have t := lw_t_c (g 414 (by omega)).1
  have gv : lw_gv M1 = lw_gv M := by funext i; unfold lw_gv; rw [t, (g 4 (by omega)).1]
  have sgn : lw_sgn M1 = lw_sgn M := by funext i; unfold lw_sgn; rw [gv]
  have al : lw_al M1 = lw_al M := by
    funext a b
    unfold lw_al lw_ab lw_aw lw_hp
    rw [sgn, t, (g 414 (by omega)).1]
  unfold lw_hz lw_hs lw_hb
  rw [al, (g 415 (by omega)).1]
theorem lw_ok_c (g : rp_eqv M M1) {j sp : Nat} {po : Int32} : lw_ok M1 j sp po = lw_ok M j sp po := by
  funext k
  unfold lw_ok
  have e : lw_cs (lw_row M1 j (lw_rw2 k)) j sp po = lw_cs (lw_row M j (lw_rw2 k)) j sp po := by
    have t : lw_row M1 j (lw_rw2 k) = lw_row M1 j (lw_rw2 k) := rfl
    have q : ∀ c, ¬ (92 ≤ c ∧ c ≤ 96) → (lw_row M1 j (lw_rw2 k)).1 c = (lw_row M j (lw_rw2 k)).1 c := fun c hc => lw_row_r (g c hc).1 (fun _ _ => rfl)
    exact lw_cs_e q
  rw [e]
end CONG
