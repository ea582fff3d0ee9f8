/-! where things lie -/
def rg_isV (v : Nat) : Prop := v < 412 ∧ rg_kd v = 5
theorem rg_isV_all : ∀ v, v < 412 → rg_kd v = 5 → 17 ≤ v ∧ v + 1 < 412 ∧ rg_kd (v + 1) = 8 ∧ rg_ln (v + 1) = 6 ∧ rg_R0 v 0 = some (v + 1) ∧ (v < 89 ∨ v = 90 ∨ v = 92 ∨ 99 ≤ v) ∧ v + 1 < 107 := by decide +kernel
theorem rg_isV_lt {v : Nat} (h : rg_isV v) : rg_hv 422 v := by have := h.1; omega
theorem rg_isV_ge {v : Nat} (h : rg_isV v) : 17 ≤ v := (rg_isV_all v h.1 h.2).1
theorem rg_isV_w {v : Nat} (h : rg_isV v) : rg_hv 422 (v + 1) ∧ rg_kd (v + 1) = 8 ∧ rg_ln (v + 1) = 6 ∧ rg_R0 v 0 = some (v + 1) := by
  obtain ⟨_, h2, h3, h4, h5, _⟩ := rg_isV_all v h.1 h.2
  exact ⟨by omega, h3, h4, h5⟩
theorem rg_isV_n {v o : Nat} (h : rg_isV v) (g : rg_isV o) : v + 1 ≠ o ∧ o + 1 ≠ v := by
  have h1 := (rg_isV_w h).2.1
  have g1 := (rg_isV_w g).2.1
  have h2 := h.2
  have g2 := g.2
  exact ⟨fun e => by rw [e, g2] at h1; omega, fun e => by rw [e, h2] at g1; omega⟩
theorem rg_kdV_all : ∀ k, k < 36 → rg_kd (17 + 2 * k) = 5 := by decide +kernel
theorem rg_isV_p {k : Nat} (h : k < 36) : rg_isV (17 + 2 * k) := ⟨by omega, rg_kdV_all k h⟩
theorem rg_isV_d : rg_isV 90 := ⟨by omega, rfl⟩
theorem rg_isV_t : rg_isV 92 := ⟨by omega, rfl⟩
theorem rg_kdO_all : ∀ k, k < 4 → rg_kd (99 + 2 * k) = 5 := by decide +kernel
theorem rg_isV_o {k : Nat} (h : k < 4) : rg_isV (99 + 2 * k) := ⟨by omega, rg_kdO_all k h⟩
theorem rg_R0_8 : ∀ k, k < 36 → rg_R0 8 k = some (17 + 2 * k) := by decide +kernel
theorem rg_R0_12 : ∀ k, k < 4 → rg_R0 12 k = some (13 + k) := by decide +kernel
theorem rg_R0_98 : ∀ k, k < 4 → rg_R0 98 k = some (99 + 2 * k) := by decide +kernel
theorem rg_R0_107 : ∀ k, k < 8 → rg_R0 107 k = some (108 + 38 * k) := by decide +kernel
theorem rg_kdP : ∀ k, k < 4 → rg_kd (13 + k) = 8 ∧ rg_ln (13 + k) = 36 := by decide +kernel
theorem rg_kdS : ∀ k, k < 8 → rg_kd (108 + 38 * k) = 3 ∧ rg_kd (109 + 38 * k) = 13 ∧ rg_ln (109 + 38 * k) = 36 ∧ rg_R0 (108 + 38 * k) 0 = some (109 + 38 * k) := by decide +kernel
theorem rg_kdR : ∀ k, k < 8 → ∀ r, r < 36 → rg_kd (110 + 38 * k + r) = 8 ∧ rg_ln (110 + 38 * k + r) = 6 ∧ rg_R0 (109 + 38 * k) r = some (110 + 38 * k + r) := by decide +kernel
/-! rows of words -/
def rg_sm (f w : Nat → Int32) : Nat → Int32
  | 0 => 0
  | n + 1 => rg_sm f w n + f (w n).toNatClampNeg
def rg_fi (f w : Nat → Int32) : Nat → Int32
  | 0 => -1
  | n + 1 => if rg_fi f w n = -1 then f (w n).toNatClampNeg else rg_fi f w n
def rg_og (f w : Nat → Int32) : Nat → Int32
  | 0 => 0
  | n + 1 => rg_og f w n ||| f (w n).toNatClampNeg
def rg_ws (w : Nat → Int32) : Nat → Int64
  | 0 => 0
  | n + 1 => rg_ws w n ||| (1 : Int64) <<< ((w n).toInt64 &&& 63)
theorem rg_sm_c {f w w' : Nat → Int32} : ∀ {n : Nat}, (∀ k, k < n → w' k = w k) → rg_sm f w' n = rg_sm f w n
  | 0, _ => rfl
  | n + 1, h => by rw [rg_sm, rg_sm, rg_sm_c (fun k hk => h k (by omega)), h n (by omega)]
theorem rg_fi_c {f w w' : Nat → Int32} : ∀ {n : Nat}, (∀ k, k < n → w' k = w k) → rg_fi f w' n = rg_fi f w n
  | 0, _ => rfl
  | n + 1, h => by rw [rg_fi, rg_fi, rg_fi_c (fun k hk => h k (by omega)), h n (by omega)]
theorem rg_og_c {f w w' : Nat → Int32} : ∀ {n : Nat}, (∀ k, k < n → w' k = w k) → rg_og f w' n = rg_og f w n
  | 0, _ => rfl
  | n + 1, h => by rw [rg_og, rg_og, rg_og_c (fun k hk => h k (by omega)), h n (by omega)]
theorem rg_ws_c {w w' : Nat → Int32} : ∀ {n : Nat}, (∀ k, k < n → w' k = w k) → rg_ws w' n = rg_ws w n
  | 0, _ => rfl
  | n + 1, h => by rw [rg_ws, rg_ws, rg_ws_c (fun k hk => h k (by omega)), h n (by omega)]
/-- a verse cell holds n words, and what follows from them -/
def rg_VS (M : rg_Mem) (v n : Nat) : Prop := M.1 v 1 = nI n ∧ n ≤ 6 ∧ (∀ k, k < n → rg_has M (M.1 (v + 1) k)) ∧ M.1 v 2 = rg_sm (M.1 2) (M.1 (v + 1)) n ∧ M.1 v 3 = rg_fi (M.1 3) (M.1 (v + 1)) n ∧ M.1 v 4 = rg_og (M.1 4) (M.1 (v + 1)) n ∧ M.2 v 5 = rg_ws (M.1 (v + 1)) n
/-- all but the verse at v is as before -/
def rg_off (M M1 : rg_Mem) (v : Nat) : Prop := ∀ c, c ≠ v → c ≠ v + 1 → M1.1 c = M.1 c ∧ M1.2 c = M.2 c
theorem rg_off_rf {M : rg_Mem} {v : Nat} : rg_off M M v := fun _ _ _ => ⟨rfl, rfl⟩
theorem rg_off_tr {M M1 M2 : rg_Mem} {v : Nat} (h : rg_off M M1 v) (g : rg_off M1 M2 v) : rg_off M M2 v := fun c h1 h2 => ⟨(g c h1 h2).1.trans (h c h1 h2).1, (g c h1 h2).2.trans (h c h1 h2).2⟩
theorem rg_VS_off {M M1 : rg_Mem} {v o n : Nat} (h : rg_VS M o n) (hv : rg_isV v) (ho : rg_isV o) (hn : v ≠ o) (g : rg_off M M1 v) : rg_VS M1 o n := by
  have h1 := rg_isV_n hv ho
  have hv17 := rg_isV_ge hv
  have e1 := g o (Ne.symm hn) (fun e => h1.1 e.symm)
  have e2 := g (o + 1) h1.2 (fun e => hn (by omega))
  have e3 := g 1 (by omega) (by omega)
  have e4 := g 2 (by omega) (by omega)
  have e5 := g 3 (by omega) (by omega)
  have e6 := g 4 (by omega) (by omega)
  unfold rg_VS rg_has
  rw [e1.1, e2.1, e1.2, e3.1, e4.1, e5.1, e6.1]
  exact h
/-! what is read of the class's state -/
abbrev rg_hl (M : rg_Mem) (x : Int32) : Prop := ¬ x < 0 ∧ ¬ M.1 6 4 ≤ x
abbrev rg_mn (M : rg_Mem) : Prop := M.1 6 4 ≤ 36
theorem rg_in_of {a x : Int32} {n : Nat} {m : Int32} (hm : m.toInt = n) (ha : a ≤ m) (h1 : ¬ x < 0) (h2 : ¬ a ≤ x) : vp_in x n := by
  have h3 := (rg_le _ _).mp ha
  have h4 : ¬ x.toInt < (0 : Int32).toInt := fun q => h1 ((rg_lt _ _).mpr q)
  have h5 : ¬ a.toInt ≤ x.toInt := fun q => h2 ((rg_le _ _).mpr q)
  rw [show (0 : Int32).toInt = 0 from rfl] at h4
  rw [hm] at h3
  exact vp_in_iff.mpr ⟨by omega, by omega⟩
theorem rg_in_lt {x : Int32} {n : Nat} (h : vp_in x n) : x.toNatClampNeg < n := Nat.not_le.mp fun q => h (Or.inr q)
theorem rg_hl_in {M : rg_Mem} {x : Int32} (hm : rg_mn M) (h : rg_hl M x) : vp_in x 36 := rg_in_of (m := 36) rfl hm h.1 h.2
theorem rg_lit_in {x : Int32} {n : Nat} {m : Int32} (hm : m.toInt = n) (h1 : ¬ x < 0) (h2 : ¬ m ≤ x) : vp_in x n := rg_in_of (a := m) hm ((rg_le _ _).mpr (by omega)) h1 h2
def rg_wn (M : rg_Mem) (v : Nat) (x : Int32) : Int32 := if ¬ x < 0 ∧ ¬ M.1 v 1 ≤ x ∧ ¬ 6 ≤ x then M.1 (v + 1) x.toNatClampNeg else -1
theorem rg_wn_k {M : rg_Mem} {v n k : Nat} (h1 : M.1 v 1 = nI n) (h6 : n ≤ 6) (hk : k < n) : rg_wn M v (nI k) = M.1 (v + 1) k := by
  unfold rg_wn
  rw [h1, if_pos ⟨nI_pos (by omega), nI_ge hk (by omega), nI_ge (a := k) (b := 6) (by omega) (by omega)⟩, nI_clamp (by omega)]
/-- how many from k - 1 down, one behind the other, have c -/
def rg_rn (s : Nat → Int32) (c : Int32) : Nat → Nat
  | 0 => 0
  | k + 1 => if s k = c then rg_rn s c k + 1 else 0
theorem rg_rn_le {s : Nat → Int32} {c : Int32} : ∀ k, rg_rn s c k ≤ k
  | 0 => Nat.le_refl 0
  | k + 1 => by
    have := rg_rn_le (s := s) (c := c) k
    unfold rg_rn
    split <;> omega
/-- the first of n places from k on where p holds; -1 without -/
def rg_ff (p : Nat → Bool) : Nat → Nat → Int32
  | 0, _ => -1
  | n + 1, k => if p k then nI k else rg_ff p n (k + 1)
