/-! numbers -/
def rg_b (p : Prop) [Decidable p] : Int32 := if p then 1 else 0
theorem rg_b_ne {p : Prop} [Decidable p] : ¬ rg_b p = 0 ↔ p := by
  unfold rg_b
  by_cases h : p
  · simp [h]
  · simp [h]
theorem rg_b_eq {p : Prop} [Decidable p] : rg_b p = 0 ↔ ¬ p := by
  unfold rg_b
  by_cases h : p
  · simp [h]
  · simp [h]
theorem rg_b_t {p : Prop} [Decidable p] (h : p) : (1 : Int32) = rg_b p := by simp [rg_b, h]
theorem rg_b_f {p : Prop} [Decidable p] (h : ¬ p) : (0 : Int32) = rg_b p := by simp [rg_b, h]
theorem rg_b_01 {p : Prop} [Decidable p] : rg_b p = 0 ∨ rg_b p = 1 := by
  unfold rg_b
  by_cases h : p
  · simp [h]
  · simp [h]
theorem rg_lt (a b : Int32) : a < b ↔ a.toInt < b.toInt := Int32.lt_iff_toInt_lt
theorem rg_le (a b : Int32) : a ≤ b ↔ a.toInt ≤ b.toInt := Int32.le_iff_toInt_le
theorem rg_eq (a b : Int32) : a = b ↔ a.toInt = b.toInt := ⟨fun h => by rw [h], fun h => Int32.toInt_inj.mp h⟩
/-! the words of the class's stock -/
abbrev rg_has (M : rg_Mem) (w : Int32) : Prop := ¬ w < 0 ∧ ¬ M.1 1 4 ≤ w
abbrev rg_cn (M : rg_Mem) : Prop := M.1 1 4 ≤ 40
theorem rg_has_in {M : rg_Mem} {w : Int32} (hn : rg_cn M) (h : rg_has M w) : vp_in w 40 := by
  have h1 := (rg_le _ _).mp hn
  have h2 : ¬ w.toInt < (0 : Int32).toInt := fun q => h.1 ((rg_lt _ _).mpr q)
  have h3 : ¬ (M.1 1 4).toInt ≤ w.toInt := fun q => h.2 ((rg_le _ _).mpr q)
  rw [show (0 : Int32).toInt = 0 from rfl] at h2
  rw [show (40 : Int32).toInt = 40 from rfl] at h1
  exact vp_in_iff.mpr ⟨by omega, by omega⟩
