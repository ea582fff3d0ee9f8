def rm_lo (M : rg_Mem) (t : Int32) : Int32 := if t = -1 then M.1 412 11 else M.1 430 t.toNatClampNeg
def rm_so (M : rg_Mem) (t : Int32) (l : Nat) : Int32 := if nI l < rm_lo M t then (if t = -1 then M.1 418 l else M.1 429 (36 * t.toNatClampNeg + l)) else 0
def rm_wo (M : rg_Mem) (t : Int32) (l w : Nat) : Int32 := if t = -1 then M.1 417 (6 * l + w) else M.1 428 (216 * t.toNatClampNeg + 6 * l + w)
abbrev rm_tx (M : rg_Mem) (t : Int32) : Prop := t = -1 ∨ rm_ic M t
theorem rm_ic_in {M : rg_Mem} {t : Int32} (hI : rm_CI M) (h : rm_ic M t) : vp_in t 8 := rg_in_le (rg_lt_in (rm_CI_c hI).1 (by have := (rm_CI_c hI).2; omega) h.1 h.2) (rm_CI_c hI).2
theorem rm_tx_in {M : rg_Mem} {t : Int32} (hI : rm_CI M) (h : rm_tx M t) (g : ¬ t = -1) : vp_in t 8 := rm_ic_in hI (h.resolve_left g)
theorem rm_ixt {t : Int32} {n : Nat} (h : vp_in t n) (hn : n ≤ 1000) (c : Nat) : nI c * t = nI (c * t.toNatClampNeg) := by
  obtain ⟨a, ha, rfl⟩ := vp_in_of h (by omega)
  rw [nI_clamp (by omega)]
  exact rm_mul c a
theorem rm_cn {t : Int32} {n : Nat} (h : vp_in t n) : t.toNatClampNeg < n := rg_in_lt h
def rm_fx (p : Nat → Nat → Bool) (x : Nat) : Nat → Nat
  | 0 => 0
  | y + 1 => rm_fx p x y + (if p x y then 1 else 0)
def rm_fc (p : Nat → Nat → Bool) : Nat → Nat
  | 0 => 0
  | x + 1 => rm_fc p x + rm_fx p x 6
abbrev rm_fh (M : rg_Mem) (t : Int32) (x y : Nat) : Prop := ¬ rm_so M t x ≤ nI y
abbrev rm_fp (M : rg_Mem) (t u : Int32) : Nat → Nat → Bool := fun x y => decide (¬ rg_b (rm_fh M t x y) = rg_b (rm_fh M u x y) ∨ (rm_fh M t x y ∧ ¬ rm_wo M t x y = rm_wo M u x y))
def rm_fa (M : rg_Mem) (t u : Int32) : Int32 := nI (rm_fc (rm_fp M t u) 36)
theorem rm_fx1 {p : Nat → Nat → Bool} {x y : Nat} (h : p x y = true) : rm_fx p x (y + 1) = rm_fx p x y + 1 := by rw [rm_fx, if_pos h]
theorem rm_fx0 {p : Nat → Nat → Bool} {x y : Nat} (h : ¬ p x y = true) : rm_fx p x (y + 1) = rm_fx p x y := by rw [rm_fx, if_neg h]; rfl
def rm_ol (M : rg_Mem) (k : Nat) (x : Int32) : Int32 := if x = 0 then (if M.1 421 k = 0 then M.1 419 k else -1) else if x = 1 then rm_son M k else if x = 2 then rm_sgn M k else if x = 3 then M.1 418 k else if x = 4 then rm_rn M k else if M.1 422 k = 0 then 0 else 1
