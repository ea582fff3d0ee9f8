theorem rg_f8_in {g : Nat → Int32} : ∀ (m t : Nat), rg_f8 g m t = 0 ∨ ∃ k, t ≤ k ∧ k < t + m ∧ rg_f8 g m t = nI k ∧ ¬ g k = -1
  | 0, _ => Or.inl rfl
  | m + 1, t => by
    by_cases h : g t = -1
    · rw [rg_f8, if_pos h]
      rcases rg_f8_in (g := g) m (t + 1) with q | ⟨k, h1, h2, h3, h4⟩
      · exact Or.inl q
      · exact Or.inr ⟨k, by omega, by omega, h3, h4⟩
    · rw [rg_f8, if_neg h]
      exact Or.inr ⟨t, by omega, by omega, rfl, h⟩
theorem rg_ff_c {p q : Nat → Bool} : ∀ (n k : Nat), (∀ i, k ≤ i → i < k + n → p i = q i) → rg_ff p n k = rg_ff q n k
  | 0, _, _ => rfl
  | n + 1, k, h => by rw [rg_ff, rg_ff, h k (by omega) (by omega), rg_ff_c n (k + 1) (fun i h1 h2 => h i (by omega) (by omega))]
theorem rg_ex_c {p q : Nat → Bool} : ∀ (n k : Nat), (∀ i, k ≤ i → i < k + n → p i = q i) → rg_ex p n k = rg_ex q n k
  | 0, _, _ => rfl
  | n + 1, k, h => by rw [rg_ex, rg_ex, h k (by omega) (by omega), rg_ex_c n (k + 1) (fun i h1 h2 => h i (by omega) (by omega))]
theorem rg_ra_c {f g : Nat → Int64} : ∀ (n : Nat), (∀ i, i ≤ n → f i = g i) → rg_ra f n = rg_ra g n
  | 0, _ => rfl
  | n + 1, h => by rw [rg_ra, rg_ra, h (n + 1) (by omega), rg_ra_c n (fun i hi => h i (by omega))]
theorem rg_lt4_c {f g : Nat → Bool} : ∀ (n : Nat), (∀ i, i ≤ n → f i = g i) → rg_lt4 f n = rg_lt4 g n
  | 0, _ => rfl
  | n + 1, h => by rw [rg_lt4, rg_lt4, h (n + 1) (by omega), rg_lt4_c n (fun i hi => h i (by omega))]
theorem rg_rn_c {f g : Nat → Int32} {c : Int32} : ∀ (n : Nat), (∀ i, i < n → f i = g i) → rg_rn f c n = rg_rn g c n
  | 0, _ => rfl
  | n + 1, h => by rw [rg_rn, rg_rn, h n (by omega), rg_rn_c n (fun i hi => h i (by omega))]
theorem rg_wrs_c {M M1 : rg_Mem} {c : Int32} {j : Nat} (e : ∀ c, c < 90 → M1.1 c = M.1 c) (hj : j ≤ 36) : rg_wrs M1 c j = rg_wrs M c j := by
  have h1 : ∀ k, k ≤ 36 → rg_cs M1 k = rg_cs M k := fun k hk => by unfold rg_cs; rw [e _ (by omega)]
  have h2 : rg_ca M1 j = rg_ca M j := by unfold rg_ca; rw [h1 _ (by omega)]
  have h3 : rg_run M1 j = rg_run M j := by
    unfold rg_run
    rw [h1 _ (by omega), rg_rn_c j (fun i hi => h1 i (by omega))]
  have h4 : rg_lt4 (rg_la M1 j c) 4 = rg_lt4 (rg_la M j c) 4 := rg_lt4_c 4 (fun i _ => by unfold rg_la; rw [h1 _ (by omega)])
  unfold rg_wrs
  rw [h2, h3, h4]
theorem rg_cq_c {M M1 : rg_Mem} {w w1 : Nat → Int32} {n j sp : Nat} {po : Int32} (e : ∀ c, c < 90 → M1.1 c = M.1 c ∧ M1.2 c = M.2 c) (hj : j ≤ 36) (hw : ∀ k, k < n → w1 k = w k) : rg_cq M1 w1 n j sp po = rg_cq M w n j sp po := by
  have f : ∀ c, c < 90 → M1.1 c = M.1 c := fun c hc => (e c hc).1
  have f2 : ∀ c, c < 90 → M1.2 c = M.2 c := fun c hc => (e c hc).2
  have h1 : rg_sm (M1.1 2) w1 n = rg_sm (M.1 2) w n := by rw [f 2 (by omega)]; exact rg_sm_c hw
  have h2 : rg_fi (M1.1 3) w1 n = rg_fi (M.1 3) w n := by rw [f 3 (by omega)]; exact rg_fi_c hw
  have h3 : rg_og (M1.1 4) w1 n = rg_og (M.1 4) w n := by rw [f 4 (by omega)]; exact rg_og_c hw
  have h4 : rg_ra (rg_cwd M1 j) sp = rg_ra (rg_cwd M j) sp := rg_ra_c sp (fun i _ => by unfold rg_cwd; rw [f2 _ (by omega)])
  have h5 : rg_ff (rg_ag (rg_ra (rg_cwd M j) sp) w1) n 0 = rg_ff (rg_ag (rg_ra (rg_cwd M j) sp) w) n 0 := rg_ff_c n 0 (fun i _ hi => by unfold rg_ag; rw [hw i (by omega), rg_ws_c (fun k hk => hw k (by omega))])
  funext t
  unfold rg_cq
  rw [h1, h2, h3, h4, h5, f 6 (by omega), f 9 (by omega), f 7 (by omega), f 3 (by omega), f (17 + 2 * (j - 1)) (by omega), f (17 + 2 * (j - 2)) (by omega), f2 5 (by omega), f2 (17 + 2 * (j - 1)) (by omega), rg_wrs_c f hj,
    rg_ff_c (p := fun k => decide (¬ M.1 3 (w1 k).toNatClampNeg = -1 ∧ ¬ M.1 3 (w1 k).toNatClampNeg = rg_fi (M.1 3) w n)) (q := fun k => decide (¬ M.1 3 (w k).toNatClampNeg = -1 ∧ ¬ M.1 3 (w k).toNatClampNeg = rg_fi (M.1 3) w n)) n 0 (fun i _ hi => by rw [hw i (by omega)]),
    rg_ex_c (p := fun k => decide (¬ M.2 5 (w1 k).toNatClampNeg &&& M.2 (17 + 2 * (j - 1)) 5 = 0)) (q := fun k => decide (¬ M.2 5 (w k).toNatClampNeg &&& M.2 (17 + 2 * (j - 1)) 5 = 0)) n 0 (fun i _ hi => by rw [hw i (by omega)])]
theorem rg_CI_off {M M' : rg_Mem} (h : rg_CI M) (g : rg_off M M' 92) : rg_CI M' := by
  have f : ∀ c, c ≠ 92 → c ≠ 93 → M'.1 c = M.1 c := fun c h1 h2 => (g c h1 h2).1
  have f2 : ∀ c, c ≠ 92 → c ≠ 93 → M'.2 c = M.2 c := fun c h1 h2 => (g c h1 h2).2
  have vs : ∀ v, v ≠ 92 → v ≠ 93 → v + 1 ≠ 92 → v + 1 ≠ 93 → rg_VS M v (rg_sz M v) → rg_VS M' v (rg_sz M' v) := by
    intro v a1 a2 a3 a4 g
    unfold rg_VS rg_sz rg_has
    rw [f v a1 a2, f (v + 1) a3 a4, f2 v a1 a2, f 1 (by omega) (by omega), f 2 (by omega) (by omega), f 3 (by omega) (by omega), f 4 (by omega) (by omega)]
    exact g
  have k1 : rg_nl M' = rg_nl M := by unfold rg_nl; rw [f 6 (by omega) (by omega)]
  have k2 : rg_no M' = rg_no M := by unfold rg_no; rw [f 0 (by omega) (by omega)]
  have k3 : rg_np M' = rg_np M := by unfold rg_np; rw [f 0 (by omega) (by omega)]
  have k4 : rg_nw M' = rg_nw M := by unfold rg_nw; rw [f 1 (by omega) (by omega)]
  have k5 : rg_nt M' = rg_nt M := by unfold rg_nt; rw [f 6 (by omega) (by omega)]
  have k6 : rg_nc M' = rg_nc M := by unfold rg_nc; rw [f 0 (by omega) (by omega)]
  have k7 : rg_sp M' = rg_sp M := by unfold rg_sp; rw [f 6 (by omega) (by omega)]
  have hl := (rg_CI_l h).2
  have ho := (rg_CI_o h).2
  unfold rg_CI
  rw [k1, k2, k3, k4, k5, k6, k7, f 0 (by omega) (by omega), f 1 (by omega) (by omega), f 6 (by omega) (by omega), f 9 (by omega) (by omega), f 97 (by omega) (by omega), f 10 (by omega) (by omega), f 11 (by omega) (by omega)]
  exact ⟨h.1, h.2.1, h.2.2.1, h.2.2.2.1, h.2.2.2.2.1, h.2.2.2.2.2.1, h.2.2.2.2.2.2.1, vs 90 (by omega) (by omega) (by omega) (by omega) (rg_CI_d h), fun k hk => vs _ (by omega) (by omega) (by omega) (by omega) (rg_CI_v h k hk), fun k hk => vs _ (by omega) (by omega) (by omega) (by omega) (rg_CI_vo h k hk), rg_CI_m h, rg_CI_mo h, rg_CI_h h⟩
theorem rg_off_lo {M M' : rg_Mem} (g : rg_off M M' 92) : ∀ c, c < 90 → M'.1 c = M.1 c ∧ M'.2 c = M.2 c := fun c hc => g c (by omega) (by omega)
abbrev rg_emp (X : rg_Mem) : rg_Mem := rg_J (rg_I (rg_I (rg_I (rg_I X 90 1 0) 90 2 0) 90 3 (-1)) 90 4 0) 90 5 0
/-- whether a row of words could be offered now -/
def rg_cc (M : rg_Mem) (z : Int32) (w : Nat → Int32) (n : Nat) : Int32 := rg_b (rg_f8 (rg_cq M w n (rg_nl M) (rg_sp M) z) 8 1 = 0)
theorem rg_cc_off {M M' : rg_Mem} {z : Int32} {w w' : Nat → Int32} {n : Nat} (h : rg_CI M) (g : rg_off M M' 92) (hw : ∀ k, k < n → w' k = w k) : rg_cc M' z w' n = rg_cc M z w n := by
  unfold rg_cc
  have k1 : rg_nl M' = rg_nl M := by unfold rg_nl; rw [(g 6 (by omega) (by omega)).1]
  have k7 : rg_sp M' = rg_sp M := by unfold rg_sp; rw [(g 6 (by omega) (by omega)).1]
  rw [k1, k7, rg_cq_c (rg_off_lo g) (rg_CI_l h).2 hw]
def rg_c2 (M : rg_Mem) (z : Int32) (a : Nat) (q : Int32) : Nat → Int32
  | 0 => q
  | b + 1 => rg_c2 M z a q b + rg_cc M z (fun k => if k = 0 then nI a else nI b) 2
def rg_c1 (M : rg_Mem) (z : Int32) : Nat → Int32
  | 0 => 0
  | a + 1 => rg_c2 M z a (rg_c1 M z a + rg_cc M z (fun k => if k = 0 then nI a else -1) 1) (rg_nw M)
theorem rg_has_k {M : rg_Mem} {a : Nat} (h : rg_CI M) (ha : a < rg_nw M) : rg_has M (nI a) := ⟨nI_pos (by have := (rg_CI_w h).2; omega), by rw [(rg_CI_w h).1]; exact nI_ge ha (by have := (rg_CI_w h).2; omega)⟩
theorem rg_VS_0 {M : rg_Mem} {v : Nat} : rg_VS (rg_J (rg_I (rg_I (rg_I (rg_I M v 1 0) v 2 0) v 3 (-1)) v 4 0) v 5 0) v 0 := ⟨by simp [rg_I, rg_J]; rfl, by omega, fun k hk => absurd hk (by omega), by simp [rg_I, rg_J]; rfl, by simp [rg_I, rg_J]; rfl, by simp [rg_I, rg_J]; rfl, by simp [rg_I, rg_J]; rfl⟩
theorem rg_off_0 {M : rg_Mem} {v : Nat} : rg_off M (rg_J (rg_I (rg_I (rg_I (rg_I M v 1 0) v 2 0) v 3 (-1)) v 4 0) v 5 0) v := fun c h1 h2 => ⟨by funext j; simp [rg_I, rg_J, h1], by funext j; simp [rg_I, rg_J, h1]⟩
