/-! The model's own memory: counts, invariant, rows. -/
abbrev rm_nw (M : rg_Mem) : Nat := (M.1 412 4).toNatClampNeg
abbrev rm_np (M : rg_Mem) : Nat := (M.1 412 5).toNatClampNeg
abbrev rm_nt (M : rg_Mem) : Nat := (M.1 412 7).toNatClampNeg
abbrev rm_sp (M : rg_Mem) : Nat := (M.1 412 8).toNatClampNeg
abbrev rm_nl (M : rg_Mem) : Nat := (M.1 412 11).toNatClampNeg
abbrev rm_nd (M : rg_Mem) : Nat := (M.1 412 20).toNatClampNeg
abbrev rm_no (M : rg_Mem) : Nat := (M.1 412 24).toNatClampNeg
abbrev rm_nc (M : rg_Mem) : Nat := (M.1 412 29).toNatClampNeg
abbrev rm_z (M : rg_Mem) (k : Nat) : Nat := (M.1 418 k).toNatClampNeg
abbrev rm_oz (M : rg_Mem) (k : Nat) : Nat := (M.1 426 k).toNatClampNeg
abbrev rm_cl (M : rg_Mem) (c : Nat) : Nat := (M.1 430 c).toNatClampNeg
abbrev rm_cz (M : rg_Mem) (c l : Nat) : Nat := (M.1 429 (36 * c + l)).toNatClampNeg
abbrev rm_iw (M : rg_Mem) (x : Int32) : Prop := ¬ x < 0 ∧ ¬ M.1 412 4 ≤ x
abbrev rm_il (M : rg_Mem) (x : Int32) : Prop := ¬ x < 0 ∧ ¬ M.1 412 11 ≤ x
abbrev rm_ip (M : rg_Mem) (x : Int32) : Prop := ¬ x < 0 ∧ x < M.1 412 5
abbrev rm_io (M : rg_Mem) (x : Int32) : Prop := ¬ x < 0 ∧ x < M.1 412 24
abbrev rm_ic (M : rg_Mem) (x : Int32) : Prop := ¬ x < 0 ∧ x < M.1 412 29
/-- the words of a link -/
abbrev rm_w (M : rg_Mem) (l : Nat) : Nat → Int32 := fun k => M.1 417 (6 * l + k)
def rm_CI (M : rg_Mem) : Prop := (M.1 412 4 = nI (rm_nw M) ∧ rm_nw M ≤ 40) ∧ (M.1 412 5 = nI (rm_np M) ∧ rm_np M ≤ 6) ∧ (M.1 412 7 = nI (rm_nt M) ∧ rm_nt M ≤ 36) ∧ (M.1 412 8 = nI (rm_sp M) ∧ rm_sp M ≤ 10) ∧ (M.1 412 11 = nI (rm_nl M) ∧ rm_nl M ≤ rm_nt M) ∧ (M.1 412 20 = nI (rm_nd M) ∧ rm_nd M ≤ 6 ∧ ∀ k, k < rm_nd M → rm_iw M (M.1 424 k)) ∧ (M.1 412 24 = nI (rm_no M) ∧ rm_no M ≤ 4 ∧ (0 < rm_no M → rm_nl M < rm_nt M)) ∧ (M.1 412 29 = nI (rm_nc M) ∧ rm_nc M ≤ 8) ∧ (∀ k, k < rm_nl M → M.1 418 k = nI (rm_z M k) ∧ rm_z M k ≤ 6 ∧ ∀ i, i < rm_z M k → rm_iw M (M.1 417 (6 * k + i))) ∧ (∀ o, o < rm_no M → M.1 426 o = nI (rm_oz M o) ∧ rm_oz M o ≤ 6 ∧ ∀ i, i < rm_oz M o → rm_iw M (M.1 425 (6 * o + i))) ∧ (∀ c, c < rm_nc M → M.1 430 c = nI (rm_cl M c) ∧ rm_cl M c ≤ 36 ∧ ∀ l, l < rm_cl M c → M.1 429 (36 * c + l) = nI (rm_cz M c l) ∧ rm_cz M c l ≤ 6) ∧ (M.1 412 6 = 0 ∨ M.1 412 6 = 1) ∧ (∀ k, k < 36 → M.1 421 k = 0 ∨ M.1 421 k = 1) ∧ (∀ k, k < 36 → M.1 422 k = 0 ∨ M.1 422 k = 1)
theorem rm_CI_w {M : rg_Mem} (h : rm_CI M) : M.1 412 4 = nI (rm_nw M) ∧ rm_nw M ≤ 40 := h.1
theorem rm_CI_p {M : rg_Mem} (h : rm_CI M) : M.1 412 5 = nI (rm_np M) ∧ rm_np M ≤ 6 := h.2.1
theorem rm_CI_t {M : rg_Mem} (h : rm_CI M) : M.1 412 7 = nI (rm_nt M) ∧ rm_nt M ≤ 36 := h.2.2.1
theorem rm_CI_s {M : rg_Mem} (h : rm_CI M) : M.1 412 8 = nI (rm_sp M) ∧ rm_sp M ≤ 10 := h.2.2.2.1
theorem rm_CI_l {M : rg_Mem} (h : rm_CI M) : M.1 412 11 = nI (rm_nl M) ∧ rm_nl M ≤ 36 := ⟨h.2.2.2.2.1.1, Nat.le_trans h.2.2.2.2.1.2 h.2.2.1.2⟩
theorem rm_CI_lt {M : rg_Mem} (h : rm_CI M) : rm_nl M ≤ rm_nt M := h.2.2.2.2.1.2
theorem rm_CI_d {M : rg_Mem} (h : rm_CI M) : M.1 412 20 = nI (rm_nd M) ∧ rm_nd M ≤ 6 ∧ ∀ k, k < rm_nd M → rm_iw M (M.1 424 k) := h.2.2.2.2.2.1
theorem rm_CI_o {M : rg_Mem} (h : rm_CI M) : M.1 412 24 = nI (rm_no M) ∧ rm_no M ≤ 4 ∧ (0 < rm_no M → rm_nl M < rm_nt M) := h.2.2.2.2.2.2.1
theorem rm_CI_c {M : rg_Mem} (h : rm_CI M) : M.1 412 29 = nI (rm_nc M) ∧ rm_nc M ≤ 8 := h.2.2.2.2.2.2.2.1
theorem rm_CI_v {M : rg_Mem} (h : rm_CI M) : ∀ k, k < rm_nl M → M.1 418 k = nI (rm_z M k) ∧ rm_z M k ≤ 6 ∧ ∀ i, i < rm_z M k → rm_iw M (M.1 417 (6 * k + i)) := h.2.2.2.2.2.2.2.2.1
theorem rm_CI_vo {M : rg_Mem} (h : rm_CI M) : ∀ o, o < rm_no M → M.1 426 o = nI (rm_oz M o) ∧ rm_oz M o ≤ 6 ∧ ∀ i, i < rm_oz M o → rm_iw M (M.1 425 (6 * o + i)) := h.2.2.2.2.2.2.2.2.2.1
theorem rm_CI_vc {M : rg_Mem} (h : rm_CI M) : ∀ c, c < rm_nc M → M.1 430 c = nI (rm_cl M c) ∧ rm_cl M c ≤ 36 ∧ ∀ l, l < rm_cl M c → M.1 429 (36 * c + l) = nI (rm_cz M c l) ∧ rm_cz M c l ≤ 6 := h.2.2.2.2.2.2.2.2.2.2.1
theorem rm_CI_b {M : rg_Mem} (h : rm_CI M) : M.1 412 6 = 0 ∨ M.1 412 6 = 1 := h.2.2.2.2.2.2.2.2.2.2.2.1
theorem rm_CI_h {M : rg_Mem} (h : rm_CI M) : ∀ k, k < 36 → M.1 421 k = 0 ∨ M.1 421 k = 1 := h.2.2.2.2.2.2.2.2.2.2.2.2.1
theorem rm_CI_e {M : rg_Mem} (h : rm_CI M) : ∀ k, k < 36 → M.1 422 k = 0 ∨ M.1 422 k = 1 := h.2.2.2.2.2.2.2.2.2.2.2.2.2
/-- memories that are alike to the model, but for its rows of work -/
def rm_eq (M M' : rg_Mem) : Prop := (∀ c, 412 < c → c ≠ 431 → M'.1 c = M.1 c ∧ M'.2 c = M.2 c) ∧ ∀ k, k < 31 → M'.1 412 k = M.1 412 k
theorem rm_eq_rf {M : rg_Mem} : rm_eq M M := ⟨fun _ _ _ => ⟨rfl, rfl⟩, fun _ _ => rfl⟩
theorem rm_eq_tr {M M1 M2 : rg_Mem} (h : rm_eq M M1) (g : rm_eq M1 M2) : rm_eq M M2 := ⟨fun c h1 h2 => ⟨(g.1 c h1 h2).1.trans (h.1 c h1 h2).1, (g.1 c h1 h2).2.trans (h.1 c h1 h2).2⟩, fun k hk => (g.2 k hk).trans (h.2 k hk)⟩
theorem rm_eq_f {M : rg_Mem} {k : Nat} {x : Int32} (hk : 31 ≤ k) : rm_eq M (rg_I M 412 k x) := ⟨fun c h1 h2 => ⟨by funext j; simp [rg_I, show c ≠ 412 by omega], rfl⟩, fun j hj => by simp [rg_I, show j ≠ k by omega]⟩
theorem rm_eq_r {M : rg_Mem} {k : Nat} {x : Int32} : rm_eq M (rg_I M 431 k x) := ⟨fun c h1 h2 => ⟨by funext j; simp [rg_I, h2], rfl⟩, fun j hj => by simp [rg_I]⟩
theorem rm_CI_eq {M M' : rg_Mem} (h : rm_CI M) (g : rm_eq M M') : rm_CI M' := by
  have f : ∀ c, 412 < c → c ≠ 431 → M'.1 c = M.1 c := fun c h1 h2 => (g.1 c h1 h2).1
  have z := g.2
  have n1 : rm_nw M' = rm_nw M := by unfold rm_nw; rw [z 4 (by omega)]
  have n2 : rm_np M' = rm_np M := by unfold rm_np; rw [z 5 (by omega)]
  have n3 : rm_nt M' = rm_nt M := by unfold rm_nt; rw [z 7 (by omega)]
  have n4 : rm_sp M' = rm_sp M := by unfold rm_sp; rw [z 8 (by omega)]
  have n5 : rm_nl M' = rm_nl M := by unfold rm_nl; rw [z 11 (by omega)]
  have n6 : rm_nd M' = rm_nd M := by unfold rm_nd; rw [z 20 (by omega)]
  have n7 : rm_no M' = rm_no M := by unfold rm_no; rw [z 24 (by omega)]
  have n8 : rm_nc M' = rm_nc M := by unfold rm_nc; rw [z 29 (by omega)]
  have a1 : rm_z M' = rm_z M := by funext k; unfold rm_z; rw [f 418 (by omega) (by omega)]
  have a2 : rm_oz M' = rm_oz M := by funext k; unfold rm_oz; rw [f 426 (by omega) (by omega)]
  have a3 : rm_cl M' = rm_cl M := by funext k; unfold rm_cl; rw [f 430 (by omega) (by omega)]
  have a4 : rm_cz M' = rm_cz M := by funext k l; unfold rm_cz; rw [f 429 (by omega) (by omega)]
  have a5 : rm_iw M' = rm_iw M := by funext x; unfold rm_iw; rw [z 4 (by omega)]
  unfold rm_CI at h ⊢
  rw [n1, n2, n3, n4, n5, n6, n7, n8, a1, a2, a3, a4, a5, z 4 (by omega), z 5 (by omega), z 6 (by omega), z 7 (by omega), z 8 (by omega), z 11 (by omega), z 20 (by omega), z 24 (by omega), z 29 (by omega), f 417 (by omega) (by omega), f 418 (by omega) (by omega), f 421 (by omega) (by omega), f 422 (by omega) (by omega), f 424 (by omega) (by omega), f 425 (by omega) (by omega), f 426 (by omega) (by omega), f 429 (by omega) (by omega), f 430 (by omega) (by omega)]
  exact h
abbrev rm_in (x a b : Int32) : Prop := ¬ x < a ∧ ¬ b < x
theorem rg_b_cg {p q : Prop} [Decidable p] [Decidable q] (h : p ↔ q) : rg_b p = rg_b q := by
  unfold rg_b
  by_cases hp : p
  · rw [if_pos hp, if_pos (h.mp hp)]
  · rw [if_neg hp, if_neg (fun z => hp (h.mpr z))]
theorem rm_pred {a : Int32} {n : Nat} (ha : a = nI n) (hn : n ≤ 100000) (x : Int32) : ¬ a - 1 < x ↔ x < a := by
  subst ha
  rw [rg_lt, rg_lt, nI_toInt (by omega)]
  rcases Nat.eq_zero_or_pos n with q | q
  · subst q
    rw [show (nI 0 - 1 : Int32).toInt = -1 from by decide]
    omega
  · obtain ⟨m, rfl⟩ : ∃ m, n = m + 1 := ⟨n - 1, by omega⟩
    rw [nI_pred, nI_toInt (by omega)]
    omega
theorem rm_in1 {a x : Int32} {n : Nat} (ha : a = nI n) (hn : n ≤ 100000) : rm_in x 0 (a - 1) ↔ (¬ x < 0 ∧ x < a) := by
  unfold rm_in
  rw [rm_pred ha hn]
theorem rm_in2 {a x : Int32} {n : Nat} (ha : a = nI n) (hn : n ≤ 100000) : rm_in x 0 (a - 1) ↔ (¬ x < 0 ∧ ¬ a ≤ x) := by
  rw [rm_in1 ha hn]
  exact and_congr Iff.rfl (by rw [rg_lt, rg_le]; omega)
def rm_go (a b c : Int32) : Int32 := if a = 0 then 1 else if b = 0 then 2 else if c = 0 then 3 else 0
theorem rm_iw_in {M : rg_Mem} {x : Int32} (h : rm_CI M) (q : rm_iw M x) : vp_in x 40 := rg_in_of (a := M.1 412 4) (m := 40) rfl (by rw [(rm_CI_w h).1, rg_le, nI_toInt (by have := (rm_CI_w h).2; omega)]; have := (rm_CI_w h).2; show _ ≤ (40 : Int); omega) q.1 q.2
theorem rm_il_in {M : rg_Mem} {x : Int32} (h : rm_CI M) (q : rm_il M x) : ∃ l, l < rm_nl M ∧ l < 36 ∧ x = nI l := by
  have h2 := rm_CI_l h
  have h3 : vp_in x (rm_nl M) := rg_in_of (a := M.1 412 11) (m := nI (rm_nl M)) (by rw [nI_toInt (by omega)]) (by rw [h2.1]; exact Int32.le_refl _) q.1 q.2
  obtain ⟨l, hl, rfl⟩ := vp_in_of h3 (by omega)
  exact ⟨l, hl, by omega, rfl⟩
theorem rm_mul (a b : Nat) : nI a * nI b = nI (a * b) := (Int32.ofNat_mul a b).symm
theorem rg_II {M : rg_Mem} {o k : Nat} {a b : Int32} : rg_I (rg_I M o k a) o k b = rg_I M o k b := by
  unfold rg_I
  refine Prod.ext ?_ rfl
  funext c j
  by_cases h : c = o ∧ j = k <;> simp [h]
theorem rm_fi_y {f w : Nat → Int32} {k : Nat} (h : rg_fi f w k = -1) (g : ¬ f (w k).toNatClampNeg = -1) : ∀ n, k < n → rg_fi f w n = f (w k).toNatClampNeg
  | 0, hn => absurd hn (by omega)
  | n + 1, hn => by
    rcases Nat.lt_or_ge k n with q | q
    · rw [rg_fi, rm_fi_y h g n q, if_neg g]
    · rw [show n = k by omega, rg_fi, if_pos h]
theorem rm_fi_n {f w : Nat → Int32} {k : Nat} (h : rg_fi f w k = -1) (g : f (w k).toNatClampNeg = -1) : rg_fi f w (k + 1) = -1 := by rw [rg_fi, if_pos h, g]
theorem rm_lt_end {i n : Nat} {x : Int32} (hx : x = nI n) (hi : i ≤ n) (hn : n ≤ 100000) (c : x ≤ nI i) : i = n := rg_lp_end hi hn (by rw [← hx]; exact c)
theorem rm_lt_lt {i n : Nat} {x : Int32} (hx : x = nI n) (hi : i ≤ n) (hn : n ≤ 100000) (c : ¬ x ≤ nI i) : i < n := rg_lp_lt hi hn (by rw [← hx]; exact c)
abbrev rm_son (M : rg_Mem) (l : Nat) : Int32 := rg_fi (M.1 414) (rm_w M l) (rm_z M l)
abbrev rm_sgn (M : rg_Mem) (l : Nat) : Int32 := rg_og (M.1 415) (rm_w M l) (rm_z M l)
