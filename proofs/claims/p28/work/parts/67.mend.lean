/-! a refused row's cause; rows without a fault; mend -/
theorem rp_f8_0 {g : Nat → Int32} : ∀ (m t : Nat), 1 ≤ t → t + m < 1000 → rg_f8 g m t = 0 → ∀ i, t ≤ i → i < t + m → g i = -1
  | 0, _, _, _, _, i, h1, h2 => absurd h2 (by omega)
  | m + 1, t, ht, hm, h, i, h1, h2 => by
    rw [rg_f8] at h
    by_cases c : g t = -1
    · rw [if_pos c] at h
      by_cases d : i = t
      · rw [d]; exact c
      · exact rp_f8_0 m (t + 1) (by omega) (by omega) h i (by omega) (by omega)
    · rw [if_neg c] at h
      exact absurd h (nI_ne0 (by omega) (by omega))
theorem rp_ds_of {M : rg_Mem} {w : Nat → Int32} {n j sp : Nat} {po : Int32} (hn : n ≤ 6) (hw : rp_w w n) (h : rg_f8 (rg_cq M w n j sp po) 8 1 = 0) : rp_ds w n := by
  have h3 : rg_ff (rg_ag (rg_ra (rg_cwd M j) sp) w) n 0 = -1 := rp_f8_0 8 1 (by omega) (by omega) h 3 (by omega) (by omega)
  intro a k hak hk q
  have hp := rg_ff_none n 0 (by omega) h3 k (by omega) (by omega)
  obtain ⟨b, hb, eb⟩ := hw k hk
  have hp := of_decide_eq_false hp
  rw [Classical.not_not, eb, rg_and_bit (by omega), rg_B8_or, rg_ws_bit (by omega) k (fun i hi => by
    obtain ⟨x, h1, h2⟩ := hw i (by omega)
    exact ⟨x, by omega, h2⟩)] at hp
  exact hp (Or.inr ⟨a, hak, by rw [q, eb]⟩)
theorem rp_neg : ∀ t, t < 9 → ∀ v, v < 100 → (-(nI (100 * t + v))) / 100 = -(nI t) := by decide +kernel
theorem rp_rem {t v : Nat} (ht : t ≤ 8) (hv : v < 100) : nI (100 * t + v) - nI (100 * t + v) / 100 * 100 = nI v := by
  rw [show (100 : Int32) = nI 100 from rfl, pk_rem (by omega) (by omega) (by omega), show (100 * t + v) % 100 = v by omega]
/-- the latest cause is another -/
theorem rp_why {M F : rg_Mem} {x : Int32} (h : rp_Inv M) (f0 : ∀ c, ¬ (92 ≤ c ∧ c ≤ 96) → c ≠ 0 → c ≠ 417 → F.1 c = M.1 c) (f2 : ∀ c, ¬ (92 ≤ c ∧ c ≤ 96) → F.2 c = M.2 c) (g0 : ∀ k, F.1 0 k = if k = 12 then x else M.1 0 k) (g7 : ∀ k, F.1 417 k = if k = 6 then x else M.1 417 k) : rp_Inv F := by
  have hI := rp_ci h
  have hl := rp_nl h
  have hN := rp_n h
  have hm := rp_m h
  have e5 : rg_no F = rg_no M := by unfold rg_no; rw [g0]; rfl
  have e6 : rg_nc F = rg_nc M := by unfold rg_nc; rw [g0]; rfl
  have e3 : rg_nl F = rg_nl M := by unfold rg_nl; rw [f0 6 (by omega) (by omega) (by omega)]
  have e4 : rg_nt F = rg_nt M := by unfold rg_nt; rw [f0 6 (by omega) (by omega) (by omega)]
  have hno := (rg_CI_o hI).2
  refine ⟨rg_CI_mk (nw := 16) (np := 3) (nl := rg_nl M) (nt := rg_nt M) (no := rg_no M) (nc := rg_nc M) (sp := rg_sp M) ?_ (by omega) ?_ (by omega) ?_ (by omega) ?_ (by omega) ?_ hno ?_ (rg_CI_c hI).2 ?_ (rg_CI_s hI).2 (rg_VS_z (rg_CI_d hI) (fun c hc => f0 c (by omega) (by omega) (by omega)) (f2 _ (by omega))) (fun k hk => rg_VS_z (rg_CI_v hI k hk) (fun c hc => f0 c (by omega) (by omega) (by omega)) (f2 _ (by omega))) (fun k hk => rg_VS_z (rg_CI_vo hI k hk) (fun c hc => f0 c (by omega) (by omega) (by omega)) (f2 _ (by omega))) ?_ ?_ ?_, ?_, lw_WI_c (rp_wi h) (fun c hc => f0 c (by omega) (by omega) (by omega)), rp_C_c (rp_c h) (f0 _ (by omega) (by omega) (by omega)) (f2 _ (by omega)), ?_, rp_T_c (rp_t h) (by omega) (fun c hc => f0 c (by omega) (by omega) (by omega)), rp_L_c (rp_l h) (fun c hc => f0 c (by omega) (by omega) (by omega)), rp_Q_c (rp_q h) (fun c hc => f0 c (by omega) (by omega) (by omega)), rp_D_c (rp_d h) (fun c hc => f0 c (by omega) (by omega) (by omega)), rp_F_c2 (rp_f h) hno e5 (fun c hc => f0 c (by omega) (by omega) (by omega)), rp_X_c2 (rp_x h) hN.2.2.1 e6 (fun c hc => f0 c (by omega) (by omega) (by omega))⟩
  · rw [f0 1 (by omega) (by omega) (by omega)]; exact hN.1.1
  · rw [g0]; exact hN.1.2
  · rw [f0 6 (by omega) (by omega) (by omega)]; exact (rg_CI_l hI).1
  · rw [f0 6 (by omega) (by omega) (by omega)]; exact (rg_CI_t hI).1
  · rw [g0]; exact (rg_CI_o hI).1
  · rw [g0]; exact (rg_CI_c hI).1
  · rw [f0 6 (by omega) (by omega) (by omega)]; exact (rg_CI_s hI).1
  · intro k hk
    rw [f0 9 (by omega) (by omega) (by omega)]
    exact rp_mk h hk
  · intro k hk
    rw [f0 97 (by omega) (by omega) (by omega)]
    obtain ⟨q, h1, h2⟩ := rg_CI_mo hI k hk
    exact ⟨q, by rw [rp_np h] at h1; exact h1, h2⟩
  · rw [f0 10 (by omega) (by omega) (by omega), f0 11 (by omega) (by omega) (by omega)]; exact rg_CI_h hI
  · unfold rp_N
    rw [e3, e4, e5, e6, f0 1 (by omega) (by omega) (by omega), g0]
    exact hN
  · unfold rp_M
    rw [e4, f0 6 (by omega) (by omega) (by omega), g7, g7, g7, g7, g7, g7, g7, g7, g7, g0, g0, g0]
    exact ⟨hm.1, hm.2.1, hm.2.2.1, hm.2.2.2.1, hm.2.2.2.2.1, hm.2.2.2.2.2.1, rfl, hm.2.2.2.2.2.2.2.1, hm.2.2.2.2.2.2.2.2⟩
/-- the latest link's row, mended -/
abbrev rp_mr (M : rg_Mem) (j pl wd : Nat) : Nat → Int32 := fun k => if k = pl then nI (wd + 1) else M.1 414 (6 * j + k)
abbrev rp_mw (M : rg_Mem) (j pl wd : Nat) : Nat → Int32 := fun k => if k = pl then nI wd else M.1 (17 + 2 * j + 1) k
theorem rp_mrow {M : rg_Mem} {j pl wd : Nat} : rg_I M 414 (6 * j + pl) (nI (wd + 1)) = lw_row M j (rp_mr M j pl wd) ∨ 6 ≤ pl := by
  rcases Nat.lt_or_ge pl 6 with hp | hp
  · left
    refine Prod.ext ?_ rfl
    funext c k
    show (if c = 414 ∧ k = 6 * j + pl then nI (wd + 1) else M.1 c k) = if c = 414 ∧ 6 * j ≤ k ∧ k < 6 * j + 6 then (if k - 6 * j = pl then nI (wd + 1) else M.1 414 (6 * j + (k - 6 * j))) else M.1 c k
    by_cases q : c = 414 ∧ k = 6 * j + pl
    · rw [if_pos q, if_pos (by omega), if_pos (by omega)]
    · rw [if_neg q]
      by_cases q2 : c = 414 ∧ 6 * j ≤ k ∧ k < 6 * j + 6
      · rw [if_pos q2, if_neg (by omega), q2.1, show 6 * j + (k - 6 * j) = k by omega]
      · rw [if_neg q2]
  · exact Or.inr hp
theorem rp_mback {M : rg_Mem} {j pl wd : Nat} (hp : pl < 6) : rg_I (lw_row M j (rp_mr M j pl wd)) 414 (6 * j + pl) (M.1 414 (6 * j + pl)) = M := by
  refine Prod.ext ?_ rfl
  funext c k
  show (if c = 414 ∧ k = 6 * j + pl then M.1 414 (6 * j + pl) else if c = 414 ∧ 6 * j ≤ k ∧ k < 6 * j + 6 then (if k - 6 * j = pl then nI (wd + 1) else M.1 414 (6 * j + (k - 6 * j))) else M.1 c k) = M.1 c k
  by_cases q : c = 414 ∧ k = 6 * j + pl
  · rw [if_pos q, q.1, q.2]
  · rw [if_neg q]
    by_cases q2 : c = 414 ∧ 6 * j ≤ k ∧ k < 6 * j + 6
    · rw [if_pos q2, if_neg (by omega), q2.1, show 6 * j + (k - 6 * j) = k by omega]
    · rw [if_neg q2]
section MEND
variable {M : rg_Mem} {j pl wd : Nat}
theorem rp_mpl (h : rp_Inv M) (hj : j < rg_nl M) (hp : pl < 6) (ht : ¬ M.1 414 (6 * j + pl) = 0) : pl < rg_sz M (17 + 2 * j) := by
  rcases Nat.lt_or_ge pl (rg_sz M (17 + 2 * j)) with q | q
  · exact q
  · have := ((rp_t h).1 j hj).1 pl hp
    rw [if_neg (by omega)] at this
    exact absurd this ht
theorem rp_mrr (h : rp_Inv M) (hj : j < rg_nl M) (hp : pl < 6) (ht : ¬ M.1 414 (6 * j + pl) = 0) : ∀ k, k < 6 → rp_mr M j pl wd k = if k < rg_sz M (17 + 2 * j) then rp_mw M j pl wd k + 1 else 0 := by
  intro k hk
  have hpn := rp_mpl h hj hp ht
  unfold rp_mr rp_mw
  by_cases c : k = pl
  · subst c
    rw [if_pos rfl, if_pos hpn, if_pos rfl, nI_succ]
  · rw [if_neg c, if_neg c]
    exact ((rp_t h).1 j hj).1 k hk
theorem rp_mww (h : rp_Inv M) (hj : j < rg_nl M) (hwd : wd < 16) : rp_w (rp_mw M j pl wd) (rg_sz M (17 + 2 * j)) := fun k hk => by
  unfold rp_mw
  by_cases c : k = pl
  · rw [if_pos c]; exact ⟨wd, hwd, rfl⟩
  · rw [if_neg c]; exact rp_VSw h (rp_vs h hj) k hk
/-- what mend makes of the class's state -/
def rp_MN (M : rg_Mem) (j pl wd : Nat) (r : Int32) (M1 : rg_Mem) : Prop := ∃ M2, (rg_VS M2 92 (rg_sz M (17 + 2 * j)) ∧ (∀ k, k < rg_sz M (17 + 2 * j) → M2.1 93 k = rp_mw M j pl wd k) ∧ rg_off M M2 92) ∧ ((∃ k, 1 ≤ k ∧ k ≤ 8 ∧ rg_f8 (rg_cq M (rp_mw M j pl wd) (rg_sz M (17 + 2 * j)) j (rg_sp M) (-1)) 8 1 = nI k ∧ r = -nI k ∧ M1 = rg_I M2 0 12 (rg_cq M (rp_mw M j pl wd) (rg_sz M (17 + 2 * j)) j (rg_sp M) (-1) k)) ∨ (rg_f8 (rg_cq M (rp_mw M j pl wd) (rg_sz M (17 + 2 * j)) j (rg_sp M) (-1)) 8 1 = 0 ∧ r = 0 ∧ ∃ M3, (rg_VS M3 (17 + 2 * j) (rg_sz M (17 + 2 * j)) ∧ (∀ k, k < rg_sz M (17 + 2 * j) → M3.1 (17 + 2 * j + 1) k = rp_mw M j pl wd k) ∧ rg_off M2 M3 (17 + 2 * j)) ∧ M1 = rg_I M3 11 j 1))
theorem rp_mend {X F : rg_Mem} (h : rp_Inv M) (hj : j < rg_nl M) (hp : pl < 6) (hwd : wd < 16) (ht : ¬ M.1 414 (6 * j + pl) = 0) (x0 : ∀ c, c ≠ 414 → c ≠ 415 → X.1 c = M.1 c) (x2 : X.2 = M.2) (x4 : X.1 414 = (lw_row M j (rp_mr M j pl wd)).1 414) (x5 : ∀ k, X.1 415 k = if k = 4 * j + 3 then 1 else M.1 415 k) (hds : rp_ds (rp_mw M j pl wd) (rg_sz M (17 + 2 * j)))
    (hF : ∃ M2, rg_off X M2 92 ∧ ∃ M3, (rg_VS M3 (17 + 2 * j) (rg_sz M (17 + 2 * j)) ∧ (∀ k, k < rg_sz M (17 + 2 * j) → M3.1 (17 + 2 * j + 1) k = rp_mw M j pl wd k) ∧ rg_off M2 M3 (17 + 2 * j)) ∧ F = rg_I M3 11 j 1) : rp_Inv F := by
  have hI := rp_ci h
  have hl := rp_nl h
  have hN := rp_n h
  have hno := (rg_CI_o hI).2
  obtain ⟨M2, g1, M3, ⟨v1, v2, v3⟩, hF⟩ := hF
  have f1 : ∀ c, c ≠ 11 → F.1 c = M3.1 c := fun c hc => by subst hF; exact rg_I_cell hc
  have f2 : F.2 = M3.2 := by subst hF; rfl
  have fm : ∀ c, c ≠ 11 → c ≠ 92 → c ≠ 93 → c ≠ 414 → c ≠ 415 → c ≠ 17 + 2 * j → c ≠ 17 + 2 * j + 1 → F.1 c = M.1 c := fun c a1 a2 a3 a4 a5 a6 a7 => by
    rw [f1 c a1, (v3 c a6 a7).1, (g1 c a2 a3).1, x0 c a4 a5]
  have fm2 : ∀ c, c ≠ 92 → c ≠ 93 → c ≠ 17 + 2 * j → c ≠ 17 + 2 * j + 1 → F.2 c = M.2 c := fun c a2 a3 a6 a7 => by
    rw [f2, (v3 c a6 a7).2, (g1 c a2 a3).2, x2]
  have g11 : ∀ k, F.1 11 k = if k = j then 1 else M.1 11 k := fun k => by
    subst hF
    rw [rg_I_at, (v3 11 (by omega) (by omega)).1, (g1 11 (by omega) (by omega)).1, x0 11 (by omega) (by omega)]
  have e4 : F.1 414 = (lw_row M j (rp_mr M j pl wd)).1 414 := by rw [f1 414 (by omega), (v3 414 (by omega) (by omega)).1, (g1 414 (by omega) (by omega)).1, x4]
  have e5 : ∀ k, F.1 415 k = if k = 4 * j + 3 then 1 else M.1 415 k := fun k => by rw [f1 415 (by omega), (v3 415 (by omega) (by omega)).1, (g1 415 (by omega) (by omega)).1, x5]
  have v4 : rg_VS F (17 + 2 * j) (rg_sz M (17 + 2 * j)) := rg_VS_e v1 (fun c hc => f1 c (by omega)) (by rw [f2])
  have esv : rg_sz F (17 + 2 * j) = rg_sz M (17 + 2 * j) := by
    have := v1.2.1
    exact rp_cl v4.1 (by omega)
  have ew : ∀ k, k < rg_sz M (17 + 2 * j) → F.1 (17 + 2 * j + 1) k = rp_mw M j pl wd k := fun k hk => by
    rw [f1 _ (by omega)]
    exact v2 k hk
  have en : rg_nl F = rg_nl M := by unfold rg_nl; rw [fm 6 (by omega) (by omega) (by omega) (by omega) (by omega) (by omega) (by omega)]
  have eno : rg_no F = rg_no M := by unfold rg_no; rw [fm 0 (by omega) (by omega) (by omega) (by omega) (by omega) (by omega) (by omega)]
  have enc : rg_nc F = rg_nc M := by unfold rg_nc; rw [fm 0 (by omega) (by omega) (by omega) (by omega) (by omega) (by omega) (by omega)]
  refine ⟨rg_CI_mk (nw := 16) (np := 3) (nl := rg_nl M) (nt := rg_nt M) (no := rg_no M) (nc := rg_nc M) (sp := rg_sp M) ?_ (by omega) ?_ (by omega) ?_ (by omega) ?_ (by omega) ?_ hno ?_ (rg_CI_c hI).2 ?_ (rg_CI_s hI).2 (rg_VS_z (rg_CI_d hI) (fun c hc => fm c (by omega) (by omega) (by omega) (by omega) (by omega) (by omega) (by omega)) (fm2 _ (by omega) (by omega) (by omega) (by omega))) (fun k hk => ?_) (fun k hk => rg_VS_z (rg_CI_vo hI k hk) (fun c hc => fm c (by omega) (by omega) (by omega) (by omega) (by omega) (by omega) (by omega)) (fm2 _ (by omega) (by omega) (by omega) (by omega))) ?_ ?_ (fun k hk => ?_), rp_N_c hN (fun c hc => fm c (by omega) (by omega) (by omega) (by omega) (by omega) (by omega) (by omega)), lw_WI_c (rp_wi h) (fun c hc => fm c (by omega) (by omega) (by omega) (by omega) (by omega) (by omega) (by omega)), rp_C_c (rp_c h) (fm _ (by omega) (by omega) (by omega) (by omega) (by omega) (by omega) (by omega)) (fm2 _ (by omega) (by omega) (by omega) (by omega)), rp_M_c (rp_m h) (fun c hc => fm c (by omega) (by omega) (by omega) (by omega) (by omega) (by omega) (by omega)), ?_, ?_, rp_Q_c (rp_q h) (fun c hc => fm c (by omega) (by omega) (by omega) (by omega) (by omega) (by omega) (by omega)), rp_D_c (rp_d h) (fun c hc => fm c (by omega) (by omega) (by omega) (by omega) (by omega) (by omega) (by omega)), rp_F_c2 (rp_f h) hno eno (fun c hc => fm c (by omega) (by omega) (by omega) (by omega) (by omega) (by omega) (by omega)), rp_X_c2 (rp_x h) hN.2.2.1 enc (fun c hc => fm c (by omega) (by omega) (by omega) (by omega) (by omega) (by omega) (by omega))⟩
  · rw [fm 1 (by omega) (by omega) (by omega) (by omega) (by omega) (by omega) (by omega)]; exact hN.1.1
  · rw [fm 0 (by omega) (by omega) (by omega) (by omega) (by omega) (by omega) (by omega)]; exact hN.1.2
  · rw [fm 6 (by omega) (by omega) (by omega) (by omega) (by omega) (by omega) (by omega)]; exact (rg_CI_l hI).1
  · rw [fm 6 (by omega) (by omega) (by omega) (by omega) (by omega) (by omega) (by omega)]; exact (rg_CI_t hI).1
  · rw [fm 0 (by omega) (by omega) (by omega) (by omega) (by omega) (by omega) (by omega)]; exact (rg_CI_o hI).1
  · rw [fm 0 (by omega) (by omega) (by omega) (by omega) (by omega) (by omega) (by omega)]; exact (rg_CI_c hI).1
  · rw [fm 6 (by omega) (by omega) (by omega) (by omega) (by omega) (by omega) (by omega)]; exact (rg_CI_s hI).1
  · by_cases c : k = j
    · subst c; rw [esv]; exact v4
    · exact rg_VS_z (rg_CI_v hI k hk) (fun c hc => fm c (by omega) (by omega) (by omega) (by omega) (by omega) (by omega) (by omega)) (fm2 _ (by omega) (by omega) (by omega) (by omega))
  · intro k hk
    rw [fm 9 (by omega) (by omega) (by omega) (by omega) (by omega) (by omega) (by omega)]
    exact rp_mk h hk
  · intro k hk
    rw [fm 97 (by omega) (by omega) (by omega) (by omega) (by omega) (by omega) (by omega)]
    obtain ⟨q, h1, h2⟩ := rg_CI_mo hI k hk
    exact ⟨q, by rw [rp_np h] at h1; exact h1, h2⟩
  · rw [fm 10 (by omega) (by omega) (by omega) (by omega) (by omega) (by omega) (by omega), g11]
    by_cases c : k = j
    · rw [if_pos c]; exact ⟨(rg_CI_h hI k hk).1, Or.inr rfl⟩
    · rw [if_neg c]; exact rg_CI_h hI k hk
  · unfold rp_T rp_row
    rw [en, e4]
    refine ⟨fun i hi => ?_, fun i h1 h2 => ?_⟩
    · by_cases c : i = j
      · subst c
        rw [esv]
        refine ⟨fun k hk => ?_, rp_ds_c hds ew⟩
        rw [rp_rowA (rp_mrr (wd := wd) h hj hp ht) k hk]
        by_cases d : k < rg_sz M (17 + 2 * i)
        · rw [if_pos d, if_pos d, ew k d]
        · rw [if_neg d, if_neg d]
      · have hr := (rp_t h).1 i hi
        unfold rg_sz at hr ⊢
        rw [fm (17 + 2 * i) (by omega) (by omega) (by omega) (by omega) (by omega) (by omega) (by omega), fm (17 + 2 * i + 1) (by omega) (by omega) (by omega) (by omega) (by omega) (by omega) (by omega)]
        exact ⟨rp_rowB c hr.1, hr.2⟩
    · show (if 414 = 414 ∧ 6 * j ≤ i ∧ i < 6 * j + 6 then _ else M.1 414 i) = 0
      rw [if_neg (by omega)]
      exact (rp_t h).2 i h1 h2
  · unfold rp_L
    rw [en]
    intro i hi
    have hL := rp_l h i hi
    rw [e5, e5, e5, e5, g11, fm 7 (by omega) (by omega) (by omega) (by omega) (by omega) (by omega) (by omega), fm 9 (by omega) (by omega) (by omega) (by omega) (by omega) (by omega) (by omega), fm 10 (by omega) (by omega) (by omega) (by omega) (by omega) (by omega) (by omega), if_neg (by omega : ¬ 4 * i + 1 = 4 * j + 3), if_neg (by omega : ¬ 4 * i = 4 * j + 3), if_neg (by omega : ¬ 4 * i + 2 = 4 * j + 3)]
    refine ⟨hL.1, fun q => ?_, fun q => ?_⟩
    · have hq := hL.2.1 q
      by_cases c : i = j
      · rw [if_pos (by omega), if_pos c]; exact ⟨hq.1, hq.2.1, rfl⟩
      · rw [if_neg (by omega), if_neg c]; exact hq
    · rw [if_neg (by omega)]; exact hL.2.2 q
end MEND
