theorem rm_in_le {a x : Int32} {n : Nat} (ha : a = nI n) (hn : n ≤ 1000) (h : rm_in x 0 (a - 1)) : ∃ k, k < n ∧ x = nI k := by
  have h2 := (rm_in1 ha (by omega)).mp h
  have h3 := rg_lt_in ha (by omega) h2.1 h2.2
  obtain ⟨k, hk, rfl⟩ := vp_in_of h3 (by omega)
  exact ⟨k, hk, rfl⟩
theorem rm_ilk {M : rg_Mem} {l : Nat} (hI : rm_CI M) (hl : l < rm_nl M) : rm_il M (nI l) := ⟨nI_pos (by have := (rm_CI_l hI).2; omega), by rw [(rm_CI_l hI).1]; exact nI_ge hl (by have := (rm_CI_l hI).2; omega)⟩
/-- likeness: of signs, then of words -/
def rm_ls (x : Int32) : Nat → Int32
  | 0 => 0
  | k + 1 => rm_ls x k + ((x >>> (nI k &&& 31)) &&& 1)
def rm_l2 (M : rg_Mem) (a b k : Nat) (q : Int32) : Nat → Int32
  | 0 => q
  | w + 1 => rm_l2 M a b k q w + (if M.1 417 (6 * a + k) = M.1 417 (6 * b + w) then 3 else 0)
def rm_l1 (M : rg_Mem) (a b : Nat) (q : Int32) : Nat → Int32
  | 0 => q
  | k + 1 => rm_l2 M a b k (rm_l1 M a b q k) (rm_z M b)
abbrev rm_bs (M : rg_Mem) (a b : Nat) : Int32 := rm_sgn M a &&& rm_sgn M b
def rm_lk (M : rg_Mem) (a b : Nat) : Int32 := rm_l1 M a b (rm_ls (rm_bs M a b) 10) (rm_z M a)
def rm_sr (g : Int32 → Int32) (x : Int32) : Nat → Int32
  | 0 => -1
  | k + 1 => if ¬ nI k = x ∧ g (nI k) < g (rm_sr g x k) then nI k else rm_sr g x k
theorem rm_sr_t {g : Int32 → Int32} {x : Int32} {k : Nat} (h : ¬ nI k = x ∧ g (nI k) < g (rm_sr g x k)) : rm_sr g x (k + 1) = nI k := by rw [rm_sr, if_pos h]
theorem rm_sr_f {g : Int32 → Int32} {x : Int32} {k : Nat} (h : ¬ (¬ nI k = x ∧ g (nI k) < g (rm_sr g x k))) : rm_sr g x (k + 1) = rm_sr g x k := by rw [rm_sr, if_neg h]
theorem rm_sr_in {g : Int32 → Int32} {x : Int32} : ∀ k, rm_sr g x k = -1 ∨ ∃ j, j < k ∧ rm_sr g x k = nI j
  | 0 => Or.inl rfl
  | k + 1 => by
    unfold rm_sr
    split
    · exact Or.inr ⟨k, by omega, rfl⟩
    · rcases rm_sr_in (g := g) (x := x) k with q | ⟨j, hj, e⟩
      · exact Or.inl q
      · exact Or.inr ⟨j, by omega, e⟩
theorem rm_ic_k {M : rg_Mem} {k : Nat} (hI : rm_CI M) (hk : k < rm_nc M) : rm_ic M (nI k) := ⟨nI_pos (by have := (rm_CI_c hI).2; omega), by rw [(rm_CI_c hI).1]; exact nI_lt hk (by have := (rm_CI_c hI).2; omega)⟩
theorem rm_sr_tx {M : rg_Mem} {g : Int32 → Int32} {x : Int32} {k : Nat} (hI : rm_CI M) (hk : k ≤ rm_nc M) : rm_tx M (rm_sr g x k) := by
  rcases rm_sr_in (g := g) (x := x) k with q | ⟨j, hj, e⟩
  · exact Or.inl q
  · rw [e]; exact Or.inr (rm_ic_k hI (by omega))
theorem rm_fa_e {M M' : rg_Mem} (g : rm_eq M M') : rm_fa M' = rm_fa M := by
  have h1 : rm_lo M' = rm_lo M := by funext t; unfold rm_lo; rw [g.2 11 (by omega), rm_ea g (by omega) (by omega)]
  have h2 : rm_so M' = rm_so M := by funext t l; unfold rm_so; rw [h1, rm_ea g (c := 418) (by omega) (by omega), rm_ea g (c := 429) (by omega) (by omega)]
  have h3 : rm_wo M' = rm_wo M := by funext t l w; unfold rm_wo; rw [rm_ea g (c := 417) (by omega) (by omega), rm_ea g (c := 428) (by omega) (by omega)]
  funext t u
  unfold rm_fa rm_fp rm_fh
  rw [h2, h3]
/-- the sums and counts of a poet, and the greatest mean -/
def rm_pk (b : Nat → Bool) (f : Nat → Int32) : Nat → Int32
  | 0 => 0
  | k + 1 => rm_pk b f k + (if b k then f k else 0)
def rm_best (s c : Nat → Int32) : Nat → Int32 × Int32 × Int32
  | 0 => (-1, 0, 1)
  | p + 1 => if ¬ c p ≤ 0 ∧ ((rm_best s c p).1 = -1 ∨ (rm_best s c p).2.1 * c p < s p * (rm_best s c p).2.2) then (nI p, s p, c p) else rm_best s c p
theorem rm_pk_t {b : Nat → Bool} {f : Nat → Int32} {k : Nat} (h : b k = true) : rm_pk b f (k + 1) = rm_pk b f k + f k := by rw [rm_pk, if_pos h]
theorem rm_pk_f {b : Nat → Bool} {f : Nat → Int32} {k : Nat} (h : ¬ b k = true) : rm_pk b f (k + 1) = rm_pk b f k + 0 := by rw [rm_pk, if_neg h]
theorem rm_best_t {s c : Nat → Int32} {p : Nat} (h : ¬ c p ≤ 0 ∧ ((rm_best s c p).1 = -1 ∨ (rm_best s c p).2.1 * c p < s p * (rm_best s c p).2.2)) : rm_best s c (p + 1) = (nI p, s p, c p) := by rw [rm_best, if_pos h]
theorem rm_best_f {s c : Nat → Int32} {p : Nat} (h : ¬ (¬ c p ≤ 0 ∧ ((rm_best s c p).1 = -1 ∨ (rm_best s c p).2.1 * c p < s p * (rm_best s c p).2.2))) : rm_best s c (p + 1) = rm_best s c p := by rw [rm_best, if_neg h]
theorem rm_mod36 : ∀ k, k < 144 → nI k - nI k / 36 * 36 = nI (k % 36) := by decide +kernel
theorem rm_j5 {x : Int32} (h : rm_in x 0 5) : ∃ a, a ≤ 5 ∧ x = nI a := by
  obtain ⟨j, hj, rfl⟩ := nI_of2 (M := 5) (n := 5) rfl h.1 ((rg_le _ _).mpr (by have h2 : ¬ (5 : Int32).toInt < x.toInt := fun q => h.2 ((rg_lt _ _).mpr q); omega))
  exact ⟨j, hj, rfl⟩
theorem rm_of51 {a b : Int32} (h : ¬ b ≤ a) : a < b := rg_lt_of h
theorem rm_nof51 {a b : Int32} (h : b ≤ a) : ¬ a < b := rg_nlt_of h
