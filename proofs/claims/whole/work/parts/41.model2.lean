def rm_rn (M : rg_Mem) (v : Nat) : Int32 := if rm_son M v = -1 then 0 else nI (rg_rn (rm_son M) (rm_son M v) (v + 1))
theorem rm_fi_d1 {f w : Nat → Int32} {q : Nat} {x z : Int32} (g : ¬ f (w q).toNatClampNeg = -1) (h : (if rg_fi f w (q + 1) = -1 then x else rg_fi f w (q + 1)) = z) : (if rg_fi f w q = -1 then f (w q).toNatClampNeg else rg_fi f w q) = z := by
  rw [rg_fi] at h
  by_cases a : rg_fi f w q = -1
  · rw [if_pos a] at h ⊢; rw [if_neg g] at h; exact h
  · rw [if_neg a] at h ⊢; rw [if_neg a] at h; exact h
theorem rm_fi_d0 {f w : Nat → Int32} {q : Nat} {x z : Int32} (g : f (w q).toNatClampNeg = -1) (h : (if rg_fi f w (q + 1) = -1 then x else rg_fi f w (q + 1)) = z) : (if rg_fi f w q = -1 then x else rg_fi f w q) = z := by
  rw [rg_fi] at h
  by_cases a : rg_fi f w q = -1
  · rw [if_pos a] at h ⊢; rw [if_pos g] at h; exact h
  · rw [if_neg a] at h ⊢; rw [if_neg a] at h; exact h
abbrev rm_dm (M : rg_Mem) (w : Nat → Int32) (n : Nat) : Nat → Bool := fun k => decide (¬ M.1 414 (w k).toNatClampNeg = -1 ∧ ¬ M.1 414 (w k).toNatClampNeg = rg_fi (M.1 414) w n)
abbrev rm_dA (w : Nat → Int32) (k : Nat) : Nat → Bool := fun j => decide (w j = w k)
abbrev rm_dC (M : rg_Mem) (w : Nat → Int32) (k l : Nat) : Nat → Bool := fun i => decide (M.1 417 (6 * l + i) = w k)
abbrev rm_dB (M : rg_Mem) (w : Nat → Int32) (v k : Nat) : Nat → Bool := fun d => if d ≤ v then rg_ex (rm_dC M w k (v - d)) (rm_z M (v - d)) 0 else false
abbrev rm_dp (M : rg_Mem) (w : Nat → Int32) (v : Nat) : Nat → Bool := fun k => rg_ex (rm_dA w k) k 0 || rg_ex (rm_dB M w v k) (rm_sp M) 1
theorem rg_ex_ff {p : Nat → Bool} : ∀ (m t : Nat), (∀ j, t ≤ j → p j = false) → rg_ex p m t = false
  | 0, _, _ => rfl
  | m + 1, t, h => by rw [rg_ex, h t (Nat.le_refl _), rg_ex_ff m (t + 1) (fun j hj => h j (by omega))]; rfl
theorem rm_sub {v d : Nat} (h : d ≤ v) : nI v - nI d = nI (v - d) := by
  obtain ⟨k, rfl⟩ : ∃ k, v = d + k := ⟨v - d, by omega⟩
  rw [show d + k - d = k by omega, ← nI_add, Int32.sub_eq_add_neg, Int32.add_comm (nI d), Int32.add_assoc, ← Int32.sub_eq_add_neg, Int32.sub_self, Int32.add_zero]
theorem rm_sub1 {v : Nat} (h : 1 ≤ v) : nI v - 1 = nI (v - 1) := rm_sub h
theorem rm_sI {v d : Nat} (hv : v ≤ 1000) (hd : d ≤ 1000) : (nI v - nI d).toInt = (v : Int) - d := by
  rw [Int32.toInt_sub, nI_toInt (by omega), nI_toInt (by omega)]
  exact Int.bmod_eq_of_le (by omega) (by omega)
theorem rm_sub0 {v d : Nat} (hv : v ≤ 1000) (hd : d ≤ 1000) : nI v - nI d < 0 ↔ v < d := by
  rw [rg_lt, rm_sI hv hd, show (0 : Int32).toInt = 0 from rfl]
  omega
theorem rm_sub2 {v d e : Nat} (hv : v ≤ 1000) (hd : d ≤ 1000) (he : e ≤ 1000) : nI v - nI d < nI v - nI e ↔ e < d := by
  rw [rg_lt, rm_sI hv hd, rm_sI hv he]
  omega
theorem rm_subS {v d : Nat} : nI v - nI d - 1 = nI v - nI (d + 1) := by
  rw [← nI_1, Int32.sub_eq_add_neg, Int32.sub_eq_add_neg, Int32.sub_eq_add_neg, Int32.neg_add, Int32.add_assoc, ← Int32.sub_eq_add_neg (-nI d)]
def rm_an (p : Nat → Bool) : Nat → Bool
  | 0 => false
  | n + 1 => rm_an p n || p n
theorem rm_or1 {x y z : Bool} (h : ¬ rg_b ((x || y) = true) = 0) : (1 : Int32) = rg_b ((x || (y || z)) = true) := rg_b_t (by
  have := rg_b_ne.mp h
  revert this
  cases x <;> cases y <;> cases z <;> decide)
theorem rm_or2 {x y z : Bool} (h : z = true) : (1 : Int32) = rg_b ((x || (y || z)) = true) := rg_b_t (by
  subst h
  cases x <;> cases y <;> rfl)
theorem rm_or0 {x y z : Bool} (h : rg_b ((x || y) = true) = 0) (g : ¬ z = true) : (0 : Int32) = rg_b ((x || (y || z)) = true) := rg_b_f (by
  have := rg_b_eq.mp h
  revert this g
  cases x <;> cases y <;> cases z <;> decide)
theorem rm_or3 {x y : Bool} : rg_b (((x || y) || false) = true) = rg_b ((x || y) = true) := by cases x <;> cases y <;> rfl
abbrev rm_jQ (M : rg_Mem) (w : Nat → Int32) (v k : Nat) : Nat → Bool := fun i => decide ((M.2 416 (w k).toNatClampNeg >>> ((M.1 417 (6 * (v - 1) + i)).toInt64 &&& 63)) &&& 1 = 1)
abbrev rm_jP (M : rg_Mem) (w : Nat → Int32) (v : Nat) : Nat → Bool := fun k => rm_an (rm_jQ M w v k) (rm_z M (v - 1))
abbrev rm_jG (M : rg_Mem) (w : Nat → Int32) (n v : Nat) : Bool := decide (¬ (rg_og (M.1 415) w n &&& rm_sgn M (v - 1)) &&& 255 = 0)
abbrev rm_jo (M : rg_Mem) (w : Nat → Int32) (n v : Nat) : Bool := rm_jG M w n v || rm_an (rm_jP M w v) n
abbrev rm_dL (M : rg_Mem) (v : Nat) (x : Int32) : Nat → Bool := fun d => decide (d ≤ v ∧ rm_son M (v - d) = x)
/-- the season that is left too early, goes on too long or comes back too soon -/
def rm_lf (M : rg_Mem) (w : Nat → Int32) (n v : Nat) : Int32 :=
  if v = 0 then -1 else
  if ¬ rm_son M (v - 1) = -1 ∧ rg_lg (rm_son M (v - 1)) ∧ ¬ 3 ≤ rm_rn M (v - 1) ∧ ¬ rg_fi (M.1 414) w n = rm_son M (v - 1) then rm_son M (v - 1) else
  if rg_fi (M.1 414) w n = -1 then -1 else
  if rg_fi (M.1 414) w n = rm_son M (v - 1) then (if rm_rn M (v - 1) < (if rg_lg (rg_fi (M.1 414) w n) then 5 else 3) then -1 else rg_fi (M.1 414) w n) else
  if rg_ex (rm_dL M v (rg_fi (M.1 414) w n)) 4 1 = true then rg_fi (M.1 414) w n else -1
theorem rg_b_ee {p q : Prop} [Decidable p] [Decidable q] : rg_b p = rg_b q ↔ (p ↔ q) := by
  unfold rg_b
  by_cases hp : p <;> by_cases hq : q <;> simp [hp, hq]
theorem rm_b1 {x : Int32} : x &&& 1 = 1 ↔ ¬ x &&& 1 = 0 := by
  have h : ∀ y : BitVec 32, y &&& 1#32 = 1#32 ↔ ¬ y &&& 1#32 = 0#32 := by
    intro y
    rw [BitVec.and_one_eq_setWidth_ofBool_getLsbD]
    cases y.getLsbD 0 <;> decide
  rw [← Int32.toBitVec_inj, ← Int32.toBitVec_inj]
  exact h x.toBitVec
theorem rm_wst1 {x y : Int32} (h : ¬ rg_b ((x >>> (8 &&& 31)) &&& 1 = 1) = rg_b (y = 1)) : (1 : Int32) = rg_wst x y := by
  rw [rg_b_ee, rm_b1] at h
  rw [rg_wst, if_pos h]
theorem rm_wst2 {x y : Int32} (h : rg_b ((x >>> (8 &&& 31)) &&& 1 = 1) = rg_b (y = 1)) (g : ¬ rg_b ((x >>> (9 &&& 31)) &&& 1 = 1) = rg_b (y = 2)) : (2 : Int32) = rg_wst x y := by
  rw [rg_b_ee, rm_b1] at h g
  rw [rg_wst, if_neg (fun q => q h), if_pos g]
theorem rm_wst3 {x y : Int32} (h : rg_b ((x >>> (8 &&& 31)) &&& 1 = 1) = rg_b (y = 1)) (g : rg_b ((x >>> (9 &&& 31)) &&& 1 = 1) = rg_b (y = 2)) : (-1 : Int32) = rg_wst x y := by
  rw [rg_b_ee, rm_b1] at h g
  rw [rg_wst, if_neg (fun q => q h), if_neg (fun q => q g)]
def rm_lay (M : rg_Mem) (f : Nat → Int32) (i : Nat) : rg_Mem := (fun c k => if c = 431 ∧ k < i then f k else M.1 c k, M.2)
theorem rm_lay_0 {M : rg_Mem} {f : Nat → Int32} : M = rm_lay M f 0 := by simp [rm_lay]
theorem rm_lay_s {M : rg_Mem} {f : Nat → Int32} {i : Nat} : rg_I (rm_lay M f i) 431 i (f i) = rm_lay M f (i + 1) := by
  unfold rm_lay rg_I
  refine Prod.ext ?_ rfl
  funext c k
  by_cases h1 : c = 431 <;> by_cases h3 : k = i <;> by_cases h4 : k < i <;> simp [h1, h3, h4] <;> omega
theorem rm_zero {i n : Nat} (hi : i ≤ n) (hn : n ≤ 6) (c : nI i - 1 < 0) : i = 0 := by
  rcases Nat.eq_zero_or_pos i with z | z
  · exact z
  · obtain ⟨y, rfl⟩ : ∃ y, i = y + 1 := ⟨i - 1, by omega⟩
    rw [nI_pred] at c
    exact absurd c (nI_pos (by omega))
