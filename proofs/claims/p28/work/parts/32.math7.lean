/-! the class's state: numbers, and what always holds -/
abbrev rg_nw (M : rg_Mem) : Nat := (M.1 1 4).toNatClampNeg
abbrev rg_np (M : rg_Mem) : Nat := (M.1 0 9).toNatClampNeg
abbrev rg_nl (M : rg_Mem) : Nat := (M.1 6 4).toNatClampNeg
abbrev rg_nt (M : rg_Mem) : Nat := (M.1 6 0).toNatClampNeg
abbrev rg_no (M : rg_Mem) : Nat := (M.1 0 10).toNatClampNeg
abbrev rg_nc (M : rg_Mem) : Nat := (M.1 0 11).toNatClampNeg
abbrev rg_sp (M : rg_Mem) : Nat := (M.1 6 1).toNatClampNeg
abbrev rg_sz (M : rg_Mem) (v : Nat) : Nat := (M.1 v 1).toNatClampNeg
/-- what always holds of the class's state -/
def rg_CI (M : rg_Mem) : Prop := (M.1 1 4 = nI (rg_nw M) ∧ rg_nw M ≤ 40) ∧ (M.1 0 9 = nI (rg_np M) ∧ rg_np M ≤ 6) ∧ (M.1 6 4 = nI (rg_nl M) ∧ rg_nl M ≤ rg_nt M) ∧ (M.1 6 0 = nI (rg_nt M) ∧ rg_nt M ≤ 36) ∧ (M.1 0 10 = nI (rg_no M) ∧ rg_no M ≤ 4) ∧ (M.1 0 11 = nI (rg_nc M) ∧ rg_nc M ≤ 8) ∧ (M.1 6 1 = nI (rg_sp M) ∧ rg_sp M ≤ 10) ∧ rg_VS M 90 (rg_sz M 90) ∧ (∀ k, k < rg_nl M → rg_VS M (17 + 2 * k) (rg_sz M (17 + 2 * k))) ∧ (∀ k, k < rg_no M → rg_VS M (99 + 2 * k) (rg_sz M (99 + 2 * k))) ∧ (∀ k, k < rg_nl M → ∃ q, q < rg_np M ∧ M.1 9 k = nI q) ∧ (∀ k, k < rg_no M → ∃ q, q < rg_np M ∧ M.1 97 k = nI q) ∧ ∀ k, k < rg_nl M → (M.1 10 k = 0 ∨ M.1 10 k = 1) ∧ (M.1 11 k = 0 ∨ M.1 11 k = 1)
theorem rg_CI_w {M : rg_Mem} (h : rg_CI M) : M.1 1 4 = nI (rg_nw M) ∧ rg_nw M ≤ 40 := h.1
theorem rg_CI_p {M : rg_Mem} (h : rg_CI M) : M.1 0 9 = nI (rg_np M) ∧ rg_np M ≤ 6 := h.2.1
theorem rg_CI_l {M : rg_Mem} (h : rg_CI M) : M.1 6 4 = nI (rg_nl M) ∧ rg_nl M ≤ 36 := ⟨h.2.2.1.1, Nat.le_trans h.2.2.1.2 h.2.2.2.1.2⟩
theorem rg_CI_t {M : rg_Mem} (h : rg_CI M) : M.1 6 0 = nI (rg_nt M) ∧ rg_nt M ≤ 36 := h.2.2.2.1
theorem rg_CI_o {M : rg_Mem} (h : rg_CI M) : M.1 0 10 = nI (rg_no M) ∧ rg_no M ≤ 4 := h.2.2.2.2.1
theorem rg_CI_c {M : rg_Mem} (h : rg_CI M) : M.1 0 11 = nI (rg_nc M) ∧ rg_nc M ≤ 8 := h.2.2.2.2.2.1
theorem rg_CI_s {M : rg_Mem} (h : rg_CI M) : M.1 6 1 = nI (rg_sp M) ∧ rg_sp M ≤ 10 := h.2.2.2.2.2.2.1
theorem rg_CI_d {M : rg_Mem} (h : rg_CI M) : rg_VS M 90 (rg_sz M 90) := h.2.2.2.2.2.2.2.1
theorem rg_CI_v {M : rg_Mem} (h : rg_CI M) : ∀ k, k < rg_nl M → rg_VS M (17 + 2 * k) (rg_sz M (17 + 2 * k)) := h.2.2.2.2.2.2.2.2.1
theorem rg_CI_vo {M : rg_Mem} (h : rg_CI M) : ∀ k, k < rg_no M → rg_VS M (99 + 2 * k) (rg_sz M (99 + 2 * k)) := h.2.2.2.2.2.2.2.2.2.1
theorem rg_CI_m {M : rg_Mem} (h : rg_CI M) : ∀ k, k < rg_nl M → ∃ q, q < rg_np M ∧ M.1 9 k = nI q := h.2.2.2.2.2.2.2.2.2.2.1
theorem rg_CI_mo {M : rg_Mem} (h : rg_CI M) : ∀ k, k < rg_no M → ∃ q, q < rg_np M ∧ M.1 97 k = nI q := h.2.2.2.2.2.2.2.2.2.2.2.1
theorem rg_CI_h {M : rg_Mem} (h : rg_CI M) : ∀ k, k < rg_nl M → (M.1 10 k = 0 ∨ M.1 10 k = 1) ∧ (M.1 11 k = 0 ∨ M.1 11 k = 1) := h.2.2.2.2.2.2.2.2.2.2.2.2
theorem rg_CI_cn {M : rg_Mem} (h : rg_CI M) : rg_cn M := by
  unfold rg_cn
  rw [(rg_CI_w h).1]
  exact nI_le (b := 40) (rg_CI_w h).2 (by omega)
theorem rg_CI_mn {M : rg_Mem} (h : rg_CI M) : rg_mn M := rg_mn_of (rg_CI_l h).1 (rg_CI_l h).2
abbrev rg_in (x lo hi : Int32) : Prop := ¬ x < lo ∧ x ≤ hi
abbrev rg_pt (M : rg_Mem) (x : Int32) : Prop := ¬ x < 0 ∧ x < M.1 0 9
abbrev rg_cp (M : rg_Mem) (x : Int32) : Prop := ¬ x < 0 ∧ x < M.1 0 11
abbrev rg_tx (M : rg_Mem) (x : Int32) : Prop := x = -1 ∨ rg_cp M x
def rg_wp (M : rg_Mem) (x y : Int32) : Int32 := if rg_hl M x then rg_wn M (17 + 2 * x.toNatClampNeg) y else -1
/-- the word at a place of a text -/
def rg_tw (M : rg_Mem) (t x y : Int32) : Int32 := if t = -1 then rg_wp M x y else if rg_cp M t then (if rg_os x y then M.1 (110 + 38 * t.toNatClampNeg + x.toNatClampNeg) y.toNatClampNeg else -1) else -1
theorem rg_lt_in {a x : Int32} {n : Nat} (ha : a = nI n) (hn : n ≤ 100000) (h1 : ¬ x < 0) (h2 : x < a) : vp_in x n := by
  have h3 := (rg_lt _ _).mp h2
  have h4 : ¬ x.toInt < (0 : Int32).toInt := fun q => h1 ((rg_lt _ _).mpr q)
  rw [show (0 : Int32).toInt = 0 from rfl] at h4
  rw [ha, nI_toInt (by omega)] at h3
  exact vp_in_iff.mpr ⟨by omega, by omega⟩
theorem rg_in_le {x : Int32} {n m : Nat} (h : vp_in x n) (hm : n ≤ m) : vp_in x m := by
  rw [vp_in_iff] at h ⊢
  omega
theorem rg_cp_in {M : rg_Mem} {x : Int32} (h : rg_CI M) (hc : rg_cp M x) : vp_in x 8 := rg_in_le (rg_lt_in (rg_CI_c h).1 (by have := (rg_CI_c h).2; omega) hc.1 hc.2) (rg_CI_c h).2
theorem rg_kdS2 : ∀ k, k < 8 → rg_hv 422 (108 + 38 * k) := by omega
/-- how many of the first n rows of six places differ -/
def rg_df (a b : Nat → Nat → Int32) (x : Nat) : Nat → Nat
  | 0 => 0
  | y + 1 => rg_df a b x y + (if a x y = b x y then 0 else 1)
def rg_dd (a b : Nat → Nat → Int32) : Nat → Nat
  | 0 => 0
  | x + 1 => rg_dd a b x + rg_df a b x 6
abbrev rg_tk (M : rg_Mem) (t : Int32) : Nat → Nat → Int32 := fun x y => rg_tw M t (nI x) (nI y)
theorem rg_df_le {a b : Nat → Nat → Int32} {x : Nat} : ∀ y, rg_df a b x y ≤ y
  | 0 => Nat.le_refl 0
  | y + 1 => by
    have := rg_df_le (a := a) (b := b) (x := x) y
    unfold rg_df
    split <;> omega
theorem rg_dd_le {a b : Nat → Nat → Int32} : ∀ x, rg_dd a b x ≤ 6 * x
  | 0 => Nat.le_refl 0
  | x + 1 => by
    have := rg_dd_le (a := a) (b := b) x
    have h2 := rg_df_le (a := a) (b := b) (x := x) 6
    unfold rg_dd
    omega
theorem rg_nw_lt {M : rg_Mem} (h : rg_CI M) (q : ¬ 40 ≤ M.1 1 4) : rg_nw M < 40 := by
  rw [(rg_CI_w h).1] at q
  rcases Nat.lt_or_ge (rg_nw M) 40 with z | z
  · exact z
  · exact absurd (nI_le (a := 40) z (by have := (rg_CI_w h).2; omega)) q
theorem rg_nneg {a x : Int32} {n : Nat} (ha : a = nI n) (hn : n ≤ 100000) (h : ¬ x < a) : ¬ x < 0 := by
  intro q
  apply h
  rw [rg_lt] at q ⊢
  rw [show (0 : Int32).toInt = 0 from rfl] at q
  rw [ha, nI_toInt (by omega)]
  omega
theorem rg_in_nle {x m : Int32} {n : Nat} (hm : m.toInt = n) (h : vp_in x n) : ¬ m ≤ x := by
  rw [vp_in_iff] at h
  rw [rg_le]
  omega
theorem rg_hl_lt {M : rg_Mem} {x : Int32} (h : rg_CI M) (q : rg_hl M x) : x.toNatClampNeg < rg_nl M := rg_in_lt (rg_in_of (a := nI (rg_nl M)) (m := nI (rg_nl M)) (by rw [nI_toInt (by have := (rg_CI_l h).2; omega)]) (Int32.le_refl _) q.1 (by rw [← (rg_CI_l h).1]; exact q.2))
theorem rg_in_k {x hi : Int32} {n : Nat} (hh : hi.toInt = n) (h : rg_in x 0 hi) : ∃ t, t ≤ n ∧ x = nI t := by
  obtain ⟨j, hj, hx⟩ := nI_of2 hh h.1 h.2
  exact ⟨j, hj, hx⟩
/-- what is told of the link k -/
def rg_ol (M : rg_Mem) (k : Nat) : Nat → Int32
  | 0 => if M.1 10 k = 0 then M.1 9 k else -1
  | 1 => M.1 (17 + 2 * k) 3
  | 2 => M.1 (17 + 2 * k) 4
  | 3 => M.1 (17 + 2 * k) 1
  | 4 => if rg_cs M k = -1 then 0 else nI (rg_rn (rg_cs M) (rg_cs M k) (k + 1))
  | _ => if M.1 11 k = 0 then 0 else 1
theorem rg_ru_ol {M : rg_Mem} {x : Int32} (h : rg_hl M x) : rg_ru M x = rg_ol M x.toNatClampNeg 4 := by
  unfold rg_ru
  rw [if_pos h]
  rfl
theorem rg_lt_of {a b : Int32} (h : ¬ a ≤ b) : b < a := by
  rw [rg_le] at h
  rw [rg_lt]
  omega
theorem rg_nlt_of {a b : Int32} (h : a ≤ b) : ¬ b < a := by
  rw [rg_le] at h
  rw [rg_lt]
  omega
