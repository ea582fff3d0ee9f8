theorem rg_at36 {α : Type} {j : Nat} (hj : j ≤ 1000) (X : Nat → α) (y : α) : (if ¬ nI j < 0 ∧ ¬ 36 ≤ nI j then X (nI j).toNatClampNeg else y) = if j < 36 then X j else y := by
  by_cases c : j < 36
  · rw [if_pos c, if_pos ⟨nI_pos (by omega), nI_ge (b := 36) c (by omega)⟩, nI_clamp (by omega)]
  · rw [if_neg c, if_neg (fun q => q.2 (nI_le (a := 36) (by omega) (by omega)))]
theorem rg_nI0 {j : Nat} (hj : j ≤ 1000) (h : nI j = 0) : j = 0 := (nI_eq (b := 0) (by omega) (by omega)).mp h
theorem rg_ru_run {M : rg_Mem} {nl j : Nat} (h : M.1 6 4 = nI nl) (hn : nl ≤ 36) (hj : j ≤ nl) : rg_ru M (nI j - 1) = rg_run M j := by
  unfold rg_ru rg_run
  by_cases c : 1 ≤ j
  · rw [show nI j - 1 = nI (j - 1) from pk_sub (a := j) (b := 1) c, if_pos (rg_hl_k h hn (by omega)), if_pos c, nI_clamp (by omega), show j - 1 + 1 = j by omega]
  · rw [if_neg c, if_neg (fun q => q.1 (by rw [show j = 0 by omega]; decide))]
