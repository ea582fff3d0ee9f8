/-! the first fault and its cause, in one number; how many rows could be offered -/
theorem rp_fl0 {g : Nat → Int32} (hg : ∀ t, 1 ≤ t → t ≤ 8 → g t = -1 ∨ ∃ v, v < 100 ∧ g t = nI v) : (rg_f8 g 8 1 = 0 ∧ lw_fl g = 0) ∨ ∃ t v, 1 ≤ t ∧ t ≤ 8 ∧ v < 100 ∧ rg_f8 g 8 1 = nI t ∧ g t = nI v ∧ lw_fl g = nI (100 * t + v) := by
  have key : ∀ t, 1 ≤ t → t ≤ 8 → ¬ g t = -1 → rg_f8 g 8 1 = nI t → lw_fl g = nI (100 * t) + g t → ∃ t v, 1 ≤ t ∧ t ≤ 8 ∧ v < 100 ∧ rg_f8 g 8 1 = nI t ∧ g t = nI v ∧ lw_fl g = nI (100 * t + v) := by
    intro t h1 h2 h3 h4 h5
    obtain ⟨v, h6, h7⟩ := (hg t h1 h2).resolve_left h3
    exact ⟨t, v, h1, h2, h6, h4, h7, by rw [h5, h7, nI_add]⟩
  unfold lw_fl at key ⊢
  by_cases c1 : g 1 = -1
  · by_cases c2 : g 2 = -1
    · by_cases c3 : g 3 = -1
      · by_cases c4 : g 4 = -1
        · by_cases c5 : g 5 = -1
          · by_cases c6 : g 6 = -1
            · by_cases c7 : g 7 = -1
              · by_cases c8 : g 8 = -1
                · left
                  simp [rg_f8, c1, c2, c3, c4, c5, c6, c7, c8]
                · exact Or.inr (key 8 (by omega) (by omega) c8 (by simp [rg_f8, c1, c2, c3, c4, c5, c6, c7, c8]) (by simp [c1, c2, c3, c4, c5, c6, c7, c8]; rfl))
              · exact Or.inr (key 7 (by omega) (by omega) c7 (by simp [rg_f8, c1, c2, c3, c4, c5, c6, c7]) (by simp [c1, c2, c3, c4, c5, c6, c7]; rfl))
            · exact Or.inr (key 6 (by omega) (by omega) c6 (by simp [rg_f8, c1, c2, c3, c4, c5, c6]) (by simp [c1, c2, c3, c4, c5, c6]; rfl))
          · exact Or.inr (key 5 (by omega) (by omega) c5 (by simp [rg_f8, c1, c2, c3, c4, c5]) (by simp [c1, c2, c3, c4, c5]; rfl))
        · exact Or.inr (key 4 (by omega) (by omega) c4 (by simp [rg_f8, c1, c2, c3, c4]) (by simp [c1, c2, c3, c4]; rfl))
      · exact Or.inr (key 3 (by omega) (by omega) c3 (by simp [rg_f8, c1, c2, c3]) (by simp [c1, c2, c3]; rfl))
    · exact Or.inr (key 2 (by omega) (by omega) c2 (by simp [rg_f8, c1, c2]) (by simp [c1, c2]; rfl))
  · exact Or.inr (key 1 (by omega) (by omega) c1 (by simp [rg_f8, c1]) (by simp [c1]; rfl))
theorem rp_f8_c {g g2 : Nat → Int32} : ∀ m t, (∀ i, t ≤ i → i < t + m → g i = g2 i) → rg_f8 g m t = rg_f8 g2 m t
  | 0, _, _ => rfl
  | m + 1, t, h => by rw [rg_f8, rg_f8, h t (by omega) (by omega), rp_f8_c m (t + 1) (fun i h1 h2 => h i (by omega) (by omega))]
theorem rp_ite {p : Prop} [Decidable p] {a b : Int32} (h1 : p → a = -1 ∨ ∃ v, v < 100 ∧ a = nI v) (h2 : ¬ p → b = -1 ∨ ∃ v, v < 100 ∧ b = nI v) : (if p then a else b) = -1 ∨ ∃ v, v < 100 ∧ (if p then a else b) = nI v := by
  by_cases c : p
  · rw [if_pos c]; exact h1 c
  · rw [if_neg c]; exact h2 c
theorem rp_cs_in {M : rg_Mem} {j sp : Nat} {po : Int32} (hT : lw_TI M) (hW : lw_WI M) (hj : j < 10) (hpo : po = -1 ∨ ∃ p, p < 100 ∧ po = nI p) : ∀ t, 1 ≤ t → t ≤ 8 → lw_cs M j sp po t = -1 ∨ ∃ v, v < 100 ∧ lw_cs M j sp po t = nI v := by
  intro t h1 h8
  rcases (show t = 1 ∨ t = 2 ∨ t = 3 ∨ t = 4 ∨ t = 5 ∨ t = 6 ∨ t = 7 ∨ t = 8 by omega) with e | e | e | e | e | e | e | e <;> subst e
  · obtain ⟨v, hv, e⟩ := lw_sum_in hT hW hj
    exact rp_ite (fun _ => Or.inl rfl) (fun _ => Or.inr ⟨v, by omega, e⟩)
  · rcases lw_ff_in (p := lw_mp M j) 6 0 with q | ⟨i, _, hi, _, q⟩
    · exact Or.inl q
    · exact Or.inr ⟨i, by omega, q⟩
  · rcases lw_ff_in (p := lw_ap M j sp) 6 0 with q | ⟨i, _, hi, _, q⟩
    · exact Or.inl q
    · exact Or.inr ⟨i, by omega, q⟩
  · exact rp_ite (fun _ => hpo) (fun _ => Or.inl rfl)
  · exact rp_ite (fun _ => Or.inl rfl) (fun q => Or.inr ⟨j - 1, by omega, lw_sub1 (by
      rcases Nat.eq_zero_or_pos j with z | z
      · exact absurd (Or.inl z) q
      · exact z)⟩)
  · obtain ⟨i, h1, h2⟩ := lw_f0_in (p := lw_bp (lw_lv M j)) 8 0
    exact rp_ite (fun _ => Or.inl rfl) (fun _ => Or.inr ⟨i, by omega, h2⟩)
  · rcases lw_wr_in hT hW hj with q | ⟨s, hs, q⟩
    · exact Or.inl q
    · exact Or.inr ⟨s, by omega, q⟩
  · rcases lw_wst_in (x := lw_sgn M j) (y := M.1 415 (4 * j + 1)) with q | q | q
    · exact Or.inl q
    · exact Or.inr ⟨1, by omega, q⟩
    · exact Or.inr ⟨2, by omega, q⟩
theorem rp_rin {n : Nat} {w r : Nat → Int32} (hr : ∀ k, k < 6 → r k = if k < n then w k + 1 else 0) (hw : rp_w w n) : ∀ k, k < 6 → ∃ a, a ≤ 16 ∧ r k = nI a := fun k hk => by
  rw [hr k hk]
  by_cases c : k < n
  · rw [if_pos c]
    obtain ⟨a, h1, h2⟩ := hw k c
    exact ⟨a + 1, by omega, by rw [h2, nI_succ]⟩
  · rw [if_neg c]; exact ⟨0, by omega, rfl⟩
/-- the class's first fault of a row as a link and its cause, or 0, are what the law's number says -/
def rp_FL (M : rg_Mem) (w : Nat → Int32) (n j : Nat) (po F : Int32) : Prop := (rg_f8 (rg_cq M w n j (rg_sp M) po) 8 1 = 0 ∧ F = 0) ∨ ∃ t v, 1 ≤ t ∧ t ≤ 8 ∧ v < 100 ∧ rg_f8 (rg_cq M w n j (rg_sp M) po) 8 1 = nI t ∧ rg_cq M w n j (rg_sp M) po t = nI v ∧ F = nI (100 * t + v)
theorem rp_flA {M : rg_Mem} {j n : Nat} {w r : Nat → Int32} {po : Int32} (h : rp_Inv M) (hj : j ≤ rg_nl M) (hj10 : j < 10) (hr : ∀ k, k < 6 → r k = if k < n then w k + 1 else 0) (hn : n ≤ 6) (hw : rp_w w n) (hpo : po = -1 ∨ ∃ p, p < 100 ∧ po = nI p) : rp_FL M w n j po (lw_fl (lw_cs (lw_row M j r) j (rg_sp M) po)) := by
  have hpo2 : po = -1 ∨ ¬ po < 0 := hpo.imp_right (fun ⟨p, h1, h2⟩ => by rw [h2]; exact nI_pos (by omega))
  have e := rp_csA h hj hj10 hr hn hw hpo2
  have e2 : rg_f8 (rg_cq M w n j (rg_sp M) po) 8 1 = rg_f8 (lw_cs (lw_row M j r) j (rg_sp M) po) 8 1 := rp_f8_c 8 1 (fun i h1 h2 => (e i h1 (by omega)).symm)
  rcases rp_fl0 (rp_cs_in (sp := rg_sp M) (lw_TI_row (rp_TI h) (rp_rin hr hw)) (lw_WI_row (rp_wi h)) hj10 hpo) with q | ⟨t, v, h1, h2, h3, h4, h5, h6⟩
  · exact Or.inl ⟨e2.trans q.1, q.2⟩
  · exact Or.inr ⟨t, v, h1, h2, h3, e2.trans h4, (e t h1 h2).symm.trans h5, h6⟩
theorem rp_FL0 {M : rg_Mem} {w : Nat → Int32} {n j : Nat} {po F : Int32} (h : rp_FL M w n j po F) : F = 0 ↔ rg_f8 (rg_cq M w n j (rg_sp M) po) 8 1 = 0 := by
  rcases h with ⟨h1, h2⟩ | ⟨t, v, h1, h2, h3, h4, _, h6⟩
  · rw [h1, h2]
  · rw [h4, h6]
    exact ⟨fun q => absurd q (nI_ne0 (by omega) (by omega)), fun q => absurd q (nI_ne0 (by omega) (by omega))⟩
theorem rp_row_self {M : rg_Mem} {j : Nat} : lw_row M j (fun k => M.1 414 (6 * j + k)) = M := by
  refine Prod.ext ?_ rfl
  funext c k
  show (if _ then _ else _) = _
  by_cases q : c = 414 ∧ 6 * j ≤ k ∧ k < 6 * j + 6
  · rw [if_pos q, q.1, show 6 * j + (k - 6 * j) = k by omega]
  · rw [if_neg q]
/-- chances -/
theorem rp_rw2 (k : Nat) : ∀ q, q < 6 → lw_rw2 k q = if q < (if k % 17 = 0 then 1 else 2) then (fun i => if i = 0 then nI (k / 17) else nI (k % 17 - 1)) q + 1 else 0 := by
  intro q hq
  unfold lw_rw2
  by_cases q0 : q = 0
  · subst q0
    rw [if_pos rfl, if_pos (by split <;> omega)]
    show _ = nI (k / 17) + 1
    rw [nI_succ]
  · rw [if_neg q0]
    by_cases q1 : q = 1
    · subst q1
      rw [if_pos rfl]
      by_cases c : k % 17 = 0
      · rw [if_pos c, if_neg (by omega), c]; rfl
      · rw [if_neg c, if_pos (by omega)]
        show _ = nI (k % 17 - 1) + 1
        rw [← nI_succ, show k % 17 - 1 + 1 = k % 17 by omega]
    · rw [if_neg q1, if_neg (by split <;> omega)]
theorem rp_w2 {k : Nat} (hk : k < 272) : rp_w (fun i => if i = 0 then nI (k / 17) else nI (k % 17 - 1)) (if k % 17 = 0 then 1 else 2) := fun i hi => by
  by_cases c : i = 0
  · exact ⟨k / 17, by omega, by simp [c]⟩
  · exact ⟨k % 17 - 1, by omega, by simp [c]⟩
theorem rp_ok {M : rg_Mem} {po : Int32} (h : rp_Inv M) (hl : rg_nl M < 10) (hpo : po = -1 ∨ ∃ p, p < 100 ∧ po = nI p) {k : Nat} (hk : k < 272) : lw_ok M (rg_nl M) (rg_sp M) po k = decide (rg_f8 (rg_cq M (fun i => if i = 0 then nI (k / 17) else nI (k % 17 - 1)) (if k % 17 = 0 then 1 else 2) (rg_nl M) (rg_sp M) po) 8 1 = 0) := by
  unfold lw_ok
  exact decide_eq_decide.mpr (rp_FL0 (rp_flA h (Nat.le_refl _) hl (rp_rw2 k) (by split <;> omega) (rp_w2 hk) hpo))
theorem rp_ch0 {P : Nat → Bool} : ∀ (f i : Nat), i + f ≤ 272 → lw_ch P (-1) f i (lw_ct P i) = nI (lw_ct P (i + f))
  | 0, _, _ => rfl
  | f + 1, i, h => by
    have h2 := lw_ct_le (p := P) i
    have ih := rp_ch0 (P := P) f (i + 1) (by omega)
    rw [show i + (f + 1) = i + 1 + f by omega, ← ih]
    rw [lw_ch]
    by_cases c : P i = true
    · rw [if_pos c, if_neg (rg_nIm (by omega)), lw_ct, if_pos c]
    · rw [if_neg c, show lw_ct P (i + 1) = lw_ct P i by rw [lw_ct, if_neg c, Nat.add_zero]]
theorem rp_ch1 {P : Nat → Bool} {m : Nat} : ∀ (f i : Nat), i + f ≤ 272 → lw_ct P i ≤ m → m < lw_ct P (i + f) → ∃ x, x < 272 ∧ P x = true ∧ lw_ch P (nI m) f i (lw_ct P i) = nI (20 * (x / 17) + x % 17)
  | 0, i, _, h1, h2 => by rw [Nat.add_zero] at h2; omega
  | f + 1, i, h, h1, h2 => by
    have hm := lw_ct_le (p := P) (i + (f + 1))
    have h3 := lw_ct_le (p := P) i
    rw [lw_ch]
    by_cases c : P i = true
    · rw [if_pos c]
      by_cases d : lw_ct P i = m
      · rw [if_pos (by rw [d])]
        exact ⟨i, by omega, c, rfl⟩
      · rw [if_neg (fun q => d ((nI_eq (by omega) (by omega)).mp q))]
        have e : lw_ct P (i + 1) = lw_ct P i + 1 := by rw [lw_ct, if_pos c]
        rw [← e]
        exact rp_ch1 f (i + 1) (by omega) (by omega) (by rw [show i + 1 + f = i + (f + 1) by omega]; exact h2)
    · rw [if_neg c]
      have e : lw_ct P (i + 1) = lw_ct P i := by rw [lw_ct, if_neg c, Nat.add_zero]
      rw [← e]
      exact rp_ch1 f (i + 1) (by omega) (by omega) (by rw [show i + 1 + f = i + (f + 1) by omega]; exact h2)
theorem rp_cc {M : rg_Mem} {po : Int32} (h : rp_Inv M) (hl : rg_nl M < 10) (hpo : po = -1 ∨ ∃ p, p < 100 ∧ po = nI p) {k n : Nat} {w : Nat → Int32} (hk : k < 272) (hn : n = if k % 17 = 0 then 1 else 2) (hw : ∀ i, i < n → w i = if i = 0 then nI (k / 17) else nI (k % 17 - 1)) : rg_cc M po w n = nI (if lw_ok M (rg_nl M) (rg_sp M) po k then 1 else 0) := by
  unfold rg_cc
  have hl2 := rp_nl h
  rw [rp_ok h hl hpo hk, ← hn, rg_cq_c (M := M) (M1 := M) (w1 := w) (w := fun i => if i = 0 then nI (k / 17) else nI (k % 17 - 1)) (fun c _ => ⟨rfl, rfl⟩) (by omega) hw]
  by_cases c : rg_f8 (rg_cq M (fun i => if i = 0 then nI (k / 17) else nI (k % 17 - 1)) n (rg_nl M) (rg_sp M) po) 8 1 = 0
  · rw [rg_b, if_pos c, if_pos (decide_eq_true c)]; rfl
  · rw [rg_b, if_neg c, if_neg (by rw [decide_eq_true_eq]; exact c)]; rfl
theorem rp_c1 {M : rg_Mem} {po : Int32} (h : rp_Inv M) (hl : rg_nl M < 10) (hpo : po = -1 ∨ ∃ p, p < 100 ∧ po = nI p) : ∀ a, a ≤ 16 → rg_c1 M po a = nI (lw_ct (lw_ok M (rg_nl M) (rg_sp M) po) (17 * a))
  | 0, _ => rfl
  | a + 1, ha => by
    have ih := rp_c1 h hl hpo a (by omega)
    have e1 : rg_c1 M po a + rg_cc M po (fun k => if k = 0 then nI a else -1) 1 = nI (lw_ct (lw_ok M (rg_nl M) (rg_sp M) po) (17 * a + 1)) := by
      rw [ih, rp_cc h hl hpo (k := 17 * a) (by omega) (by rw [if_pos (by omega)]) (fun i hi => by rw [if_pos (by omega), if_pos (by omega), show 17 * a / 17 = a by omega]), nI_add]
      rfl
    have e2 : ∀ b, b ≤ 16 → rg_c2 M po a (rg_c1 M po a + rg_cc M po (fun k => if k = 0 then nI a else -1) 1) b = nI (lw_ct (lw_ok M (rg_nl M) (rg_sp M) po) (17 * a + 1 + b)) := by
      intro b
      induction b with
      | zero => intro _; exact e1
      | succ b ihb =>
        intro hb
        rw [rg_c2, ihb (by omega), rp_cc h hl hpo (k := 17 * a + 1 + b) (by omega) (by rw [if_neg (by omega)]) (fun i hi => by rw [show (17 * a + 1 + b) / 17 = a by omega, show (17 * a + 1 + b) % 17 - 1 = b by omega]), nI_add]
        rfl
    rw [rg_c1, rp_nw h, e2 16 (by omega)]
    rfl
