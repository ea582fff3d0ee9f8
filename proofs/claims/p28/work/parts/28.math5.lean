theorem rg_mn_of {M : rg_Mem} {nl : Nat} (h : M.1 6 4 = nI nl) (hn : nl ≤ 36) : rg_mn M := by
  unfold rg_mn
  rw [h]
  exact nI_le (b := 36) hn (by omega)
theorem rg_hl_k {M : rg_Mem} {nl k : Nat} (h : M.1 6 4 = nI nl) (hn : nl ≤ 36) (hk : k < nl) : rg_hl M (nI k) := ⟨nI_pos (by omega), by rw [h]; exact nI_ge hk (by omega)⟩
theorem rg_atk {α : Type} {M : rg_Mem} {nl k : Nat} (h : M.1 6 4 = nI nl) (hn : nl ≤ 36) (hk : k < nl) (X : Nat → α) (y : α) : (if rg_hl M (nI k) then X (nI k).toNatClampNeg else y) = X k := by rw [if_pos (rg_hl_k h hn hk), nI_clamp (by omega)]
theorem rg_atd {α : Type} {M : rg_Mem} {nl j d : Nat} (h : M.1 6 4 = nI nl) (hn : nl ≤ 36) (hj : j ≤ nl) (hd : 1 ≤ d) (hd2 : d ≤ 1000) (X : Nat → α) (y : α) : (if rg_hl M (nI j - nI d) then X (nI j - nI d).toNatClampNeg else y) = if d ≤ j then X (j - d) else y := by
  by_cases c : d ≤ j
  · rw [pk_sub c, if_pos c]
    exact rg_atk h hn (by omega) X y
  · rw [if_neg c, if_neg (fun q => q.1 (pk_sneg (by omega) (by omega)))]
def rg_ex (p : Nat → Bool) : Nat → Nat → Bool
  | 0, _ => false
  | n + 1, k => p k || rg_ex p n (k + 1)
/-- the bitwise sum of f d .. f 1 -/
def rg_ra (f : Nat → Int64) : Nat → Int64
  | 0 => 0
  | d + 1 => f (d + 1) ||| rg_ra f d
/-- one of the d links ahead has it -/
def rg_lt4 (p : Nat → Bool) : Nat → Bool
  | 0 => false
  | d + 1 => p (d + 1) || rg_lt4 p d
def rg_f8 (g : Nat → Int32) : Nat → Nat → Int32
  | 0, _ => 0
  | m + 1, t => if g t = -1 then rg_f8 g m (t + 1) else nI t
abbrev rg_mx (M : rg_Mem) (v : Nat) : Nat → Bool := fun k => decide (¬ M.1 3 (M.1 (v + 1) k).toNatClampNeg = -1 ∧ ¬ M.1 3 (M.1 (v + 1) k).toNatClampNeg = M.1 v 3)
abbrev rg_cwd (M : rg_Mem) (j : Nat) : Nat → Int64 := fun d => if d ≤ j then M.2 (17 + 2 * (j - d)) 5 else 0
abbrev rg_bit (x : Int32) : Int64 := (1 : Int64) <<< (x.toInt64 &&& 63)
abbrev rg_ag (A : Int64) (w : Nat → Int32) : Nat → Bool := fun k => decide (¬ (A ||| rg_ws w k) &&& rg_bit (w k) = 0)
abbrev rg_lw (x : Int32) : Nat → Bool := fun k => decide (¬ (x >>> (nI k &&& 31)) &&& 1 = 0)
abbrev rg_jc (M : rg_Mem) (v a : Nat) : Nat → Bool := fun k => decide (¬ M.2 5 (M.1 (v + 1) k).toNatClampNeg &&& M.2 (17 + 2 * a) 5 = 0)
abbrev rg_jn (M : rg_Mem) (v n a : Nat) : Prop := ¬ (M.1 v 4 &&& M.1 (17 + 2 * a) 4) &&& 255 = 0 ∨ rg_ex (rg_jc M v a) n 0 = true
abbrev rg_la (M : rg_Mem) (j : Nat) (c : Int32) : Nat → Bool := fun d => decide ((if d ≤ j then rg_cs M (j - d) else -1) = c)
abbrev rg_lg (c : Int32) : Prop := c = 0 ∨ c = 2
def rg_run (M : rg_Mem) (j : Nat) : Int32 := if 1 ≤ j then (if rg_cs M (j - 1) = -1 then 0 else nI (rg_rn (rg_cs M) (rg_cs M (j - 1)) j)) else 0
def rg_ca (M : rg_Mem) (j : Nat) : Int32 := if 1 ≤ j then rg_cs M (j - 1) else -1
def rg_wrs (M : rg_Mem) (c : Int32) (j : Nat) : Int32 :=
  if ¬ rg_ca M j = -1 ∧ ¬ c = rg_ca M j ∧ ¬ (if rg_lg (rg_ca M j) then 3 else 1) ≤ rg_run M j then rg_ca M j
  else if ¬ rg_ca M j = -1 ∧ c = rg_ca M j ∧ ¬ rg_run M j < (if rg_lg (rg_ca M j) then 5 else 3) then rg_ca M j
  else if ¬ c = -1 ∧ ¬ c = rg_ca M j ∧ rg_lt4 (rg_la M j c) 4 = true then c else -1
def rg_wst (x y : Int32) : Int32 := if ¬ ((¬ (x >>> (8 &&& 31)) &&& 1 = 0) ↔ y = 1) then 1 else if ¬ ((¬ (x >>> (9 &&& 31)) &&& 1 = 0) ↔ y = 2) then 2 else -1
def rg_co (M : rg_Mem) (v n j sp : Nat) (po : Int32) : Nat → Int32
  | 1 => if M.1 v 2 = (if nI j &&& 1 = 0 then M.1 6 2 else M.1 6 3) then -1 else M.1 v 2
  | 2 => rg_ff (rg_mx M v) n 0
  | 3 => rg_ff (rg_ag (rg_ra (rg_cwd M j) sp) (M.1 (v + 1))) n 0
  | 4 => if po = (if 1 ≤ j then M.1 9 (j - 1) else -1) then po else -1
  | 5 => if j = 0 ∨ rg_jn M v n (j - 1) then -1 else nI j - 1
  | 6 => rg_ff (rg_lw (M.1 v 4 &&& (if 2 ≤ j then M.1 (17 + 2 * (j - 2)) 4 else 0))) 8 0
  | 7 => rg_wrs M (M.1 v 3) j
  | _ => rg_wst (M.1 v 4) (if j < 36 then M.1 7 j else 0)
theorem rg_ff_y {p : Nat → Bool} {n i : Nat} {z : Int32} (h : rg_ff p (n - i) i = z) (hi : i < n) (hp : p i = true) : nI i = z := by
  obtain ⟨m, hm⟩ : ∃ m, n - i = m + 1 := ⟨n - i - 1, by omega⟩
  rw [hm, rg_ff, if_pos hp] at h
  exact h
theorem rg_ff_n {p : Nat → Bool} {n i : Nat} {z : Int32} (h : rg_ff p (n - i) i = z) (hi : i < n) (hp : ¬ p i = true) : rg_ff p (n - (i + 1)) (i + 1) = z := by
  obtain ⟨m, hm⟩ : ∃ m, n - i = m + 1 := ⟨n - i - 1, by omega⟩
  rw [hm, rg_ff, if_neg hp] at h
  rw [show n - (i + 1) = m by omega]
  exact h
theorem rg_ff_e {p : Nat → Bool} {n : Nat} {z : Int32} (h : rg_ff p (n - n) n = z) : -1 = z := by
  rw [Nat.sub_self] at h
  exact h
theorem rg_ex_n {p : Nat → Bool} {n i : Nat} {z : Bool} (h : rg_ex p (n - i) i = z) (hi : i < n) (hp : ¬ p i = true) : rg_ex p (n - (i + 1)) (i + 1) = z := by
  obtain ⟨m, hm⟩ : ∃ m, n - i = m + 1 := ⟨n - i - 1, by omega⟩
  rw [hm, rg_ex, Bool.eq_false_iff.mpr hp, Bool.false_or] at h
  rw [show n - (i + 1) = m by omega]
  exact h
theorem rg_ex_y {p : Nat → Bool} {n i : Nat} {z : Bool} (h : rg_ex p (n - i) i = z) (hi : i < n) (hp : p i = true) : z = true := by
  obtain ⟨m, hm⟩ : ∃ m, n - i = m + 1 := ⟨n - i - 1, by omega⟩
  rw [hm, rg_ex, hp, Bool.true_or] at h
  exact h.symm
theorem rg_f8_y {g : Nat → Int32} {m t : Nat} {z : Int32} (h : rg_f8 g (m + 1) t = z) (hp : ¬ g t = -1) : nI t = z := by
  rw [rg_f8, if_neg hp] at h
  exact h
theorem rg_f8_n {g : Nat → Int32} {m t : Nat} {z : Int32} (h : rg_f8 g (m + 1) t = z) (hp : g t = -1) : rg_f8 g m (t + 1) = z := by
  rw [rg_f8, if_pos hp] at h
  exact h
theorem rg_subd {j d : Nat} : nI j - nI (d + 1) + 1 = nI j - nI d := by
  rw [nI_succ]
  grind
theorem rg_subd0 {j d : Nat} (hd : 1 ≤ d) (hd2 : d ≤ 1000) (hj : j ≤ 1000) : ¬ nI j ≤ nI j - nI d := by
  intro q
  have h1 := (rg_le _ _).mp q
  rw [pk_sub_toInt (by omega) (by omega), nI_toInt (by omega)] at h1
  omega
theorem rg_subz {j : Nat} : nI j - nI 0 = nI j := by
  show nI j - 0 = nI j
  exact Int32.sub_zero _
