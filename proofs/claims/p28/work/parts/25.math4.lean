theorem rg_m1s (x : Int32) : x + Int32.ofInt (-1) = x - 1 := by
  rw [Int32.sub_eq_add_neg]
  rfl
theorem rg_cmp0 {x y : Int64} : lg_cmp x y = 0 ↔ x = y := by
  unfold lg_cmp
  by_cases h1 : x > y
  · rw [if_pos h1]
    constructor
    · intro q
      exact absurd q (by decide)
    · intro q
      subst q
      exact absurd h1 (Int64.lt_irrefl)
  · rw [if_neg h1]
    by_cases h2 : x = y
    · simp [h2]
    · rw [if_neg h2]
      constructor
      · intro q
        exact absurd q (by decide)
      · intro q
        exact absurd q h2
/-- the means' rows emptied up to i -/
def rg_mz (M : rg_Mem) (i : Nat) : rg_Mem := (fun c k => if (c = 95 ∨ c = 96) ∧ k < i then 0 else M.1 c k, M.2)
theorem rg_mz_0 {M : rg_Mem} : M = rg_mz M 0 := by simp [rg_mz]
theorem rg_mz_s {M : rg_Mem} {i : Nat} : rg_I (rg_I (rg_mz M i) 95 i 0) 96 i 0 = rg_mz M (i + 1) := by
  unfold rg_mz rg_I
  refine Prod.ext ?_ rfl
  funext c k
  by_cases h1 : c = 95 <;> by_cases h2 : c = 96 <;> by_cases h3 : k = i <;> by_cases h4 : k < i <;> simp [h1, h2, h3, h4] <;> omega
def rg_z7 (M : rg_Mem) (i : Nat) : rg_Mem := (fun c k => if c = 7 ∧ k < i then 0 else M.1 c k, M.2)
theorem rg_z7_0 {M : rg_Mem} : M = rg_z7 M 0 := by simp [rg_z7]
theorem rg_z7_s {M : rg_Mem} {i : Nat} : rg_I (rg_z7 M i) 7 i 0 = rg_z7 M (i + 1) := by
  unfold rg_z7 rg_I
  refine Prod.ext ?_ rfl
  funext c k
  by_cases h1 : c = 7 <;> by_cases h3 : k = i <;> by_cases h4 : k < i <;> simp [h1, h3, h4] <;> omega
def rg_zp (M : rg_Mem) (j i : Nat) : rg_Mem := (fun c k => if 13 ≤ c ∧ c < 13 + i ∧ k = j then -1 else M.1 c k, M.2)
theorem rg_zp_0 {M : rg_Mem} {j : Nat} : M = rg_zp M j 0 := by
  unfold rg_zp
  refine Prod.ext ?_ rfl
  funext c k
  show _ = if _ then _ else _
  rw [if_neg (by omega)]
theorem rg_zp_s {M : rg_Mem} {j i : Nat} : rg_I (rg_zp M j i) (13 + i) j (-1) = rg_zp M j (i + 1) := by
  unfold rg_zp rg_I
  refine Prod.ext ?_ rfl
  funext c k
  show (if c = 13 + i ∧ k = j then (-1 : Int32) else if 13 ≤ c ∧ c < 13 + i ∧ k = j then -1 else M.1 c k) = if 13 ≤ c ∧ c < 13 + (i + 1) ∧ k = j then -1 else M.1 c k
  by_cases h1 : c = 13 + i ∧ k = j
  · rw [if_pos h1, if_pos (by omega)]
  · rw [if_neg h1]
    by_cases h2 : 13 ≤ c ∧ c < 13 + i ∧ k = j
    · rw [if_pos h2, if_pos (by omega)]
    · rw [if_neg h2, if_neg (by omega)]
/-- the lowest of k places with the greatest s / c; -1 without -/
def rg_gr (s c : Nat → Int32) : Nat → Int32
  | 0 => -1
  | k + 1 => if ¬ c k ≤ 0 ∧ (rg_gr s c k = -1 ∨ ¬ s k * c (rg_gr s c k).toNatClampNeg ≤ s (rg_gr s c k).toNatClampNeg * c k) then nI k else rg_gr s c k
theorem rg_gr_in {s c : Nat → Int32} : ∀ k, rg_gr s c k = -1 ∨ ∃ j, j < k ∧ rg_gr s c k = nI j
  | 0 => Or.inl rfl
  | k + 1 => by
    unfold rg_gr
    split
    · exact Or.inr ⟨k, by omega, rfl⟩
    · rcases rg_gr_in (s := s) (c := c) k with h | ⟨j, h1, h2⟩
      · exact Or.inl h
      · exact Or.inr ⟨j, by omega, h2⟩
theorem rg_gr_v {s c : Nat → Int32} {k n : Nat} (hk : k ≤ n) (hn : n ≤ 100000) (h : ¬ rg_gr s c k = -1) : vp_in (rg_gr s c k) n := by
  rcases rg_gr_in (s := s) (c := c) k with h1 | ⟨j, h1, h2⟩
  · exact absurd h1 h
  · rw [h2]
    exact vp_in_nI (by omega) (by omega)
abbrev rg_os (x y : Int32) : Prop := ¬ x < 0 ∧ ¬ 36 ≤ x ∧ ¬ y < 0 ∧ ¬ 6 ≤ y
/-- the season of a link, by the class's own record; the run at it -/
abbrev rg_cs (M : rg_Mem) : Nat → Int32 := fun k => M.1 (17 + 2 * k) 3
def rg_ru (M : rg_Mem) (x : Int32) : Int32 := if rg_hl M x then (if rg_cs M x.toNatClampNeg = -1 then 0 else nI (rg_rn (rg_cs M) (rg_cs M x.toNatClampNeg) (x.toNatClampNeg + 1))) else 0
theorem rg_rn_n {s : Nat → Int32} {c : Int32} {k : Nat} (h : ¬ s k = c) : rg_rn s c (k + 1) = 0 := by simp [rg_rn, h]
theorem rg_rn_t {s : Nat → Int32} {c : Int32} {k : Nat} (h : s k = c) : rg_rn s c (k + 1) = rg_rn s c k + 1 := by simp [rg_rn, h]
theorem rg_rn_x0 {s : Nat → Int32} {c : Int32} {r i j : Nat} (h : r + rg_rn s c i = rg_rn s c j) (q : nI i - 1 < 0) (hi : i < 1000) : r = rg_rn s c j := by
  rcases Nat.eq_zero_or_pos i with z | z
  · subst z
    exact h
  · obtain ⟨y, rfl⟩ : ∃ y, i = y + 1 := ⟨i - 1, by omega⟩
    rw [nI_pred] at q
    exact absurd q (nI_pos (by omega))
theorem rg_rn_x1 {s : Nat → Int32} {c : Int32} {r i j : Nat} (h : r + rg_rn s c (i + 1) = rg_rn s c j) (q : ¬ s i = c) : r = rg_rn s c j := by
  rw [rg_rn_n q] at h
  exact h
