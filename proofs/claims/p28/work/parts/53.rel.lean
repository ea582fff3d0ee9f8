/-! the law's faults of a row that is laid at a link, and the class's -/
theorem rp_rowA {M : rg_Mem} {j n : Nat} {w r : Nat → Int32} (hr : ∀ k, k < 6 → r k = if k < n then w k + 1 else 0) : rp_row (lw_row M j r) j n w := by
  intro k hk
  show (if 414 = 414 ∧ 6 * j ≤ 6 * j + k ∧ 6 * j + k < 6 * j + 6 then r (6 * j + k - 6 * j) else _) = _
  rw [if_pos (by omega), show 6 * j + k - 6 * j = k by omega, hr k hk]
theorem rp_rowB {M : rg_Mem} {i j n : Nat} {w r : Nat → Int32} (hij : i ≠ j) (h : rp_row M i n w) : rp_row (lw_row M j r) i n w := by
  intro k hk
  show (if 414 = 414 ∧ 6 * j ≤ 6 * i + k ∧ 6 * i + k < 6 * j + 6 then _ else M.1 414 (6 * i + k)) = _
  rw [if_neg (by omega)]
  exact h k hk
section REL
variable {M : rg_Mem} {j n : Nat} {w r : Nat → Int32}
theorem rp_seaA (hr : ∀ k, k < 6 → r k = if k < n then w k + 1 else 0) (hn : n ≤ 6) (hw : rp_w w n) : lw_sea (lw_row M j r) j = rg_fi (M.1 3) w n := by
  rw [rp_sea (rp_rowA hr) hw hn, lw_row_c (by omega)]
theorem rp_sgnA (hr : ∀ k, k < 6 → r k = if k < n then w k + 1 else 0) (hn : n ≤ 6) (hw : rp_w w n) : lw_sgn (lw_row M j r) j = rg_og (M.1 4) w n := by
  rw [rp_sgn (rp_rowA hr) hw hn, lw_row_c (by omega)]
theorem rp_sz6 (h : rp_Inv M) {i : Nat} (hi : i < rg_nl M) : rg_sz M (17 + 2 * i) ≤ 6 := (rp_vs h hi).2.1
theorem rp_seaB (h : rp_Inv M) {i : Nat} (hi : i < rg_nl M) (hij : i ≠ j) : lw_sea (lw_row M j r) i = rg_cs M i := by
  have hv := rp_vs h hi
  rw [rp_sea (rp_rowB hij ((rp_t h).1 i hi).1) (rp_VSw h hv) hv.2.1, lw_row_c (by omega)]
  exact hv.2.2.2.2.1.symm
theorem rp_sgnB (h : rp_Inv M) {i : Nat} (hi : i < rg_nl M) (hij : i ≠ j) : lw_sgn (lw_row M j r) i = M.1 (17 + 2 * i) 4 := by
  have hv := rp_vs h hi
  rw [rp_sgn (rp_rowB hij ((rp_t h).1 i hi).1) (rp_VSw h hv) hv.2.1, lw_row_c (by omega)]
  exact hv.2.2.2.2.2.1.symm
theorem rp_caA (h : rp_Inv M) (hj : j ≤ rg_nl M) : lw_ca (lw_row M j r) j = rg_ca M j := by
  unfold lw_ca rg_ca
  by_cases c : 1 ≤ j
  · rw [if_pos c, if_pos c, rp_seaB h (by omega) (by omega)]
  · rw [if_neg c, if_neg c]
theorem rp_csn (h : rp_Inv M) {i : Nat} (hi : i < rg_nl M) : rg_cs M i = -1 ∨ ∃ s, s < 4 ∧ rg_cs M i = nI s := by
  have hl := rp_nl h
  have := lw_sea_in (M := lw_row M 10 (fun _ => 0)) (j := i) (lw_TI_row (rp_TI h) (fun k _ => ⟨0, by omega, rfl⟩)) (lw_WI_row (rp_wi h)) (by omega)
  rw [rp_seaB h hi (by omega)] at this
  exact this
theorem rp_caN (h : rp_Inv M) (hj : j ≤ rg_nl M) : rg_ca M j = -1 ∨ ∃ s, s < 4 ∧ rg_ca M j = nI s := by
  unfold rg_ca
  by_cases c : 1 ≤ j
  · rw [if_pos c]; exact rp_csn h (by omega)
  · rw [if_neg c]; exact Or.inl rfl
theorem rp_ruA (h : rp_Inv M) (hj : j ≤ rg_nl M) : lw_ru (lw_row M j r) j = rg_run M j := by
  unfold lw_ru
  rw [rp_caA h hj]
  unfold rg_run lw_run rg_ca
  by_cases c : 1 ≤ j
  · rw [if_pos c, if_pos c, rp_seaB h (by omega) (by omega)]
    by_cases q : rg_cs M (j - 1) = -1
    · rw [q, if_pos (show (-1 : Int32) < 0 by decide), if_pos rfl]
    · rw [if_neg q, if_neg q, if_neg (fun z => q ((lw_neg (rp_csn h (by omega))).mp z)), show j - 1 + 1 = j by omega, rg_rn_c j (fun i hi => rp_seaB h (by omega) (by omega))]
  · rw [if_neg c, if_neg c, if_pos (by decide)]
theorem rp_run1 (h : rp_Inv M) (hj : j ≤ rg_nl M) (hc : ¬ rg_ca M j = -1) : (1 : Int32) ≤ rg_run M j := by
  have hl := rp_nl h
  unfold rg_ca at hc
  unfold rg_run
  by_cases c : 1 ≤ j
  · rw [if_pos c] at hc ⊢
    rw [if_neg hc]
    have h1 := rg_rn_pos (s := rg_cs M) (k := j - 1)
    rw [show j - 1 + 1 = j by omega] at h1
    have h2 := rg_rn_le (s := rg_cs M) (c := rg_cs M (j - 1)) j
    exact (lw_nle (a := 1) (by omega) (by omega)).mpr h1
  · rw [if_neg c] at hc
    exact absurd rfl hc
theorem rp_lt4 {p : Nat → Bool} : rg_lt4 p 4 = true ↔ ∃ d, 1 ≤ d ∧ d ≤ 4 ∧ p d = true := by
  have e : rg_lt4 p 4 = (p 4 || (p 3 || (p 2 || (p 1 || false)))) := rfl
  rw [e]
  simp only [Bool.or_eq_true, Bool.or_false]
  constructor
  · rintro (q | q | q | q)
    · exact ⟨4, by omega, by omega, q⟩
    · exact ⟨3, by omega, by omega, q⟩
    · exact ⟨2, by omega, by omega, q⟩
    · exact ⟨1, by omega, by omega, q⟩
  · rintro ⟨d, h1, h2, q⟩
    rcases (show d = 1 ∨ d = 2 ∨ d = 3 ∨ d = 4 by omega) with e | e | e | e <;> subst e
    · exact Or.inr (Or.inr (Or.inr q))
    · exact Or.inr (Or.inr (Or.inl q))
    · exact Or.inr (Or.inl q)
    · exact Or.inl q
theorem rp_len1 {c A R : Int32} {x : Bool} {y : Prop} [Decidable y] (hA : A = -1 ∨ ∃ s, s < 4 ∧ A = nI s) (hc : c = -1 ∨ ∃ s, s < 4 ∧ c = nI s) (hR : ¬ A = -1 → (1 : Int32) ≤ R) (hx : y ↔ ¬ c < 0 ∧ ¬ c = A ∧ x = true) :
    (if ¬ A < 0 ∧ A - A / 2 * 2 = 0 ∧ ¬ 3 ≤ R ∧ ¬ c = A then A else if ¬ c < 0 ∧ c = A ∧ ¬ R < 5 - 2 * (c - c / 2 * 2) then c else if y then c else -1) = (if ¬ A = -1 ∧ ¬ c = A ∧ ¬ (if rg_lg A then 3 else 1) ≤ R then A else if ¬ A = -1 ∧ c = A ∧ ¬ R < (if rg_lg A then 5 else 3) then A else if ¬ c = -1 ∧ ¬ c = A ∧ x = true then c else -1) := by
  have e1 := lw_neg hA
  have e2 := lw_neg hc
  simp only [e1, e2] at hx ⊢
  have hA2 : A = -1 ∨ A = 0 ∨ A = 1 ∨ A = 2 ∨ A = 3 := by
    rcases hA with q | ⟨s, h1, q⟩
    · exact Or.inl q
    · rcases (show s = 0 ∨ s = 1 ∨ s = 2 ∨ s = 3 by omega) with z | z | z | z <;> subst z <;> rw [q] <;> decide
  have e3 : (if y then c else -1) = (if ¬ c = -1 ∧ ¬ c = A ∧ x = true then c else -1) := by
    by_cases q : y
    · rw [if_pos q, if_pos (hx.mp q)]
    · rw [if_neg q, if_neg (fun z => q (hx.mpr z))]
  rw [e3]
  have g0 : rg_lg 0 := Or.inl rfl
  have g1 : ¬ rg_lg 1 := by decide
  have g2 : rg_lg 2 := Or.inr rfl
  have g3 : ¬ rg_lg 3 := by decide
  have k0 : (0 : Int32) - 0 / 2 * 2 = 0 := by decide
  have k1 : (1 : Int32) - 1 / 2 * 2 = 1 := by decide
  have k2 : (2 : Int32) - 2 / 2 * 2 = 0 := by decide
  have k3 : (3 : Int32) - 3 / 2 * 2 = 1 := by decide
  by_cases hcA : c = A
  · subst hcA
    rcases hA2 with q | q | q | q | q <;> subst q
    · simp
    · simp [k0, g0]
    · simp [k1, g1]
    · simp [k2, g2]
    · simp [k3, g3]
  · rcases hA2 with q | q | q | q | q <;> subst q
    · simp [hcA]
    · simp [hcA, k0, g0]
    · have := hR (by decide)
      simp [hcA, k1, g1, this]
    · simp [hcA, k2, g2]
    · have := hR (by decide)
      simp [hcA, k3, g3, this]
theorem rp_seaN (h : rp_Inv M) (hj10 : j < 10) (hr : ∀ k, k < 6 → r k = if k < n then w k + 1 else 0) (hn : n ≤ 6) (hw : rp_w w n) : rg_fi (M.1 3) w n = -1 ∨ ∃ s, s < 4 ∧ rg_fi (M.1 3) w n = nI s := by
  have := lw_sea_in (M := lw_row M j r) (j := j) (lw_TI_row (rp_TI h) (fun k hk => by
    rw [hr k hk]
    by_cases c : k < n
    · rw [if_pos c]
      obtain ⟨a, h1, h2⟩ := hw k c
      exact ⟨a + 1, by omega, by rw [h2, nI_succ]⟩
    · rw [if_neg c]; exact ⟨0, by omega, rfl⟩)) (lw_WI_row (rp_wi h)) hj10
  rw [rp_seaA hr hn hw] at this
  exact this
/-- LENGTH -/
theorem rp_wrA (h : rp_Inv M) (hj : j ≤ rg_nl M) (hj10 : j < 10) (hr : ∀ k, k < 6 → r k = if k < n then w k + 1 else 0) (hn : n ≤ 6) (hw : rp_w w n) : lw_wr (lw_row M j r) j = rg_wrs M (rg_fi (M.1 3) w n) j := by
  have hc := rp_seaN h hj10 hr hn hw
  unfold lw_wr rg_wrs
  rw [rp_caA h hj, rp_ruA h hj, rp_seaA hr hn hw]
  refine rp_len1 (rp_caN h hj) hc (rp_run1 h hj) ?_
  rw [lw_an_iff, rp_lt4, lw_neg hc]
  constructor
  · rintro ⟨d, h1, h2⟩
    have h3 := of_decide_eq_true h2
    rw [rp_seaA hr hn hw, rp_caA h hj, rp_seaB h (by omega) (by omega), lw_neg hc] at h3
    refine ⟨h3.1, h3.2.1, d + 1, by omega, by omega, decide_eq_true ?_⟩
    rw [if_pos (by omega)]
    exact h3.2.2
  · rintro ⟨h1, h2, d, h3, h4, h5⟩
    have h6 := of_decide_eq_true h5
    by_cases q : d ≤ j
    · rw [if_pos q] at h6
      refine ⟨d - 1, by omega, decide_eq_true ?_⟩
      rw [rp_seaA hr hn hw, rp_caA h hj, show j - (d - 1 + 1) = j - d by omega, rp_seaB h (by omega) (by omega), lw_neg hc]
      exact ⟨h1, h2, h6⟩
    · rw [if_neg q] at h6
      exact absurd h6.symm h1
/-- MIXED -/
theorem rp_mpA (hr : ∀ k, k < 6 → r k = if k < n then w k + 1 else 0) (hn : n ≤ 6) (hw : rp_w w n) : rg_ff (lw_mp (lw_row M j r) j) 6 0 = rg_ff (fun k => decide (¬ M.1 3 (w k).toNatClampNeg = -1 ∧ ¬ M.1 3 (w k).toNatClampNeg = rg_fi (M.1 3) w n)) n 0 := by
  have e := rp_ff_ext (p := lw_mp (lw_row M j r) j) (n := n) (6 - n) (fun i h1 h2 => decide_eq_false (fun q => q.1 (by rw [lw_sv, rp_t0 (rp_rowA hr) (by omega) (by omega), if_pos rfl])))
  rw [show n + (6 - n) = 6 by omega] at e
  rw [e]
  refine rg_ff_c n 0 (fun i _ hi => ?_)
  unfold lw_mp
  rw [rp_sv1 (rp_rowA hr) hw (by omega) (by omega), rp_seaA hr hn hw, lw_row_c (by omega)]
/-- LEAVE -/
theorem rp_low : ∀ v, v < 256 → (if nI v ≤ 0 then (-1 : Int32) else lw_f0 (lw_bp (nI v)) 8 0) = rg_ff (rg_lw (nI v)) 8 0 := by decide +kernel
theorem rp_lvA (h : rp_Inv M) (hj : j ≤ rg_nl M) (hr : ∀ k, k < 6 → r k = if k < n then w k + 1 else 0) (hn : n ≤ 6) (hw : rp_w w n) : (if lw_lv (lw_row M j r) j ≤ 0 then (-1 : Int32) else lw_f0 (lw_bp (lw_lv (lw_row M j r) j)) 8 0) = rg_ff (rg_lw (rg_og (M.1 4) w n &&& (if 2 ≤ j then M.1 (17 + 2 * (j - 2)) 4 else 0))) 8 0 := by
  rw [rg_lw_255]
  have e : lw_lv (lw_row M j r) j = (rg_og (M.1 4) w n &&& (if 2 ≤ j then M.1 (17 + 2 * (j - 2)) 4 else 0)) &&& 255 := by
    unfold lw_lv
    by_cases c : j ≤ 1
    · rw [if_pos c, if_neg (by omega), Int32.and_zero, Int32.zero_and]
    · rw [if_neg c, if_pos (by omega), rp_sgnA hr hn hw, rp_sgnB h (by omega) (by omega)]
  rw [e, pk_and _ (m := 255) 8 rfl]
  exact rp_low _ (by omega)
end REL
