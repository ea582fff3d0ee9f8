theorem rm_go_inv {a b c : Int32} (h : rm_go a b c = 0) : ¬ a = 0 ∧ ¬ b = 0 ∧ ¬ c = 0 := by
  unfold rm_go at h
  by_cases h1 : a = 0
  · rw [if_pos h1] at h; exact absurd h (by decide)
  · by_cases h2 : b = 0
    · rw [if_neg h1, if_pos h2] at h; exact absurd h (by decide)
    · by_cases h3 : c = 0
      · rw [if_neg h1, if_neg h2, if_pos h3] at h; exact absurd h (by decide)
      · exact ⟨h1, h2, h3⟩
theorem rm_lt40 {a : Int32} {n m : Nat} {x : Int32} (ha : a = nI n) (hn : n ≤ 1000) (hx : x.toInt = m) (h : ¬ x ≤ a) : n < m := by
  rw [rg_le, ha, nI_toInt (by omega), hx] at h
  omega
theorem rm_seat_in {M : rg_Mem} {x : Int32} (hI : rm_CI M) (h : rm_in x (M.1 412 11) (M.1 412 7 - 1)) : vp_in x 36 := by
  have h1 := rm_CI_l hI
  have h2 := rm_CI_t hI
  have h3 := (rm_pred h2.1 (by omega) x).mp h.2
  have h4 : ¬ x < 0 := rg_nneg h1.1 (by omega) h.1
  exact rg_in_le (rg_lt_in h2.1 (by omega) h4 h3) h2.2
def rm_bz (M : rg_Mem) (i : Nat) : rg_Mem := (fun c k => if (c = 420 ∨ c = 421 ∨ c = 422) ∧ k < i then 0 else M.1 c k, M.2)
theorem rm_bz_0 {M : rg_Mem} : M = rm_bz M 0 := by simp [rm_bz]
theorem rm_bz_s {M : rg_Mem} {i : Nat} : rg_I (rg_I (rg_I (rm_bz M i) 420 i 0) 421 i 0) 422 i 0 = rm_bz M (i + 1) := by
  unfold rm_bz rg_I
  refine Prod.ext ?_ rfl
  funext c k
  by_cases h0 : c = 420 <;> by_cases h1 : c = 421 <;> by_cases h2 : c = 422 <;> by_cases h3 : k = i <;> by_cases h4 : k < i <;> simp [h0, h1, h2, h3, h4] <;> omega
def rm_pz (M : rg_Mem) (i : Nat) : rg_Mem := (fun c k => if c = 423 ∧ k < i then 0 else M.1 c k, M.2)
theorem rm_pz_0 {M : rg_Mem} : M = rm_pz M 0 := by simp [rm_pz]
theorem rm_pz_s {M : rg_Mem} {i : Nat} : rg_I (rm_pz M i) 423 i 0 = rm_pz M (i + 1) := by
  unfold rm_pz rg_I
  refine Prod.ext ?_ rfl
  funext c k
  by_cases h0 : c = 423 <;> by_cases h3 : k = i <;> by_cases h4 : k < i <;> simp [h0, h3, h4] <;> omega
abbrev rm_fin (M : rg_Mem) : Prop := M.1 412 11 = M.1 412 7
theorem rm_j4 {x : Int32} (h : rm_in x 0 3) : ∃ a, a < 4 ∧ x = nI a := by
  obtain ⟨j, hj, rfl⟩ := nI_of2 (M := 3) (n := 3) rfl h.1 ((rg_le _ _).mpr (by have h2 : ¬ (3 : Int32).toInt < x.toInt := fun q => h.2 ((rg_lt _ _).mpr q); omega))
  exact ⟨j, by omega, rfl⟩
theorem rm_ilv {M : rg_Mem} {x : Int32} (hI : rm_CI M) (h : rm_il M x) : vp_in x 36 := rg_in_of (a := M.1 412 11) (m := 36) rfl (by rw [(rm_CI_l hI).1, rg_le, nI_toInt (by have := (rm_CI_l hI).2; omega)]; have := (rm_CI_l hI).2; show _ ≤ (36 : Int); omega) h.1 h.2
