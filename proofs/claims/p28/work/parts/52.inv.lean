/-! what holds between the law's rows and the class's state -/
def rp_row (M : rg_Mem) (j n : Nat) (w : Nat → Int32) : Prop := ∀ k, k < 6 → M.1 414 (6 * j + k) = if k < n then w k + 1 else 0
def rp_ds (w : Nat → Int32) (n : Nat) : Prop := ∀ a b, a < b → b < n → ¬ w a = w b
abbrev rp_w (w : Nat → Int32) (n : Nat) : Prop := ∀ k, k < n → ∃ a, a < 16 ∧ w k = nI a
def rp_C (M : rg_Mem) : Prop := ∀ a, a < 16 → ∃ v, v < 65536 ∧ M.1 413 a = nI v ∧ M.2 5 a = (nI v).toInt64
def rp_M (M : rg_Mem) : Prop := M.1 417 0 = M.1 6 1 ∧ M.1 417 1 = M.1 6 2 ∧ M.1 417 2 = M.1 6 3 ∧ M.1 417 3 = M.1 6 4 ∧ M.1 417 4 = M.1 6 0 ∧ M.1 417 5 = M.1 0 10 ∧ M.1 417 6 = M.1 0 12 ∧ M.1 417 7 = M.1 0 11 ∧ M.1 417 8 = rg_b (0 < rg_nt M)
def rp_N (M : rg_Mem) : Prop := (M.1 1 4 = nI 16 ∧ M.1 0 9 = nI 3) ∧ rg_nt M ≤ 10 ∧ rg_nc M ≤ 2 ∧ (0 < rg_no M → rg_nl M < rg_nt M) ∧ (0 < rg_nc M → 0 < rg_nl M)
def rp_T (M : rg_Mem) : Prop := (∀ j, j < rg_nl M → rp_row M j (rg_sz M (17 + 2 * j)) (M.1 (17 + 2 * j + 1)) ∧ rp_ds (M.1 (17 + 2 * j + 1)) (rg_sz M (17 + 2 * j))) ∧ ∀ i, 6 * rg_nl M ≤ i → i < 64 → M.1 414 i = 0
def rp_L (M : rg_Mem) : Prop := ∀ j, j < 10 → M.1 415 (4 * j + 1) = M.1 7 j ∧ (j < rg_nl M → M.1 415 (4 * j) = M.1 9 j ∧ M.1 415 (4 * j + 2) = M.1 10 j ∧ M.1 415 (4 * j + 3) = M.1 11 j) ∧ (rg_nl M ≤ j → M.1 415 (4 * j + 2) = 0 ∧ M.1 415 (4 * j + 3) = 0)
def rp_Q (M : rg_Mem) : Prop := ∀ g, g < 4 → ∀ j, j < 10 → (j < rg_nl M → ∃ v, v ≤ 11 ∧ M.1 416 (10 * g + j) = nI v ∧ M.1 (13 + g) j = nI v - 1) ∧ (rg_nl M ≤ j → M.1 416 (10 * g + j) = 0)
def rp_D (M : rg_Mem) : Prop := ∀ k, k < 6 → M.1 418 k = if k < rg_sz M 90 then M.1 91 k + 1 else 0
def rp_F (M : rg_Mem) : Prop := ∀ o, o < rg_no M → M.1 419 (7 * o) = M.1 97 o ∧ (∀ k, k < 6 → M.1 419 (7 * o + 1 + k) = if k < rg_sz M (99 + 2 * o) then M.1 (99 + 2 * o + 1) k + 1 else 0) ∧ rp_ds (M.1 (99 + 2 * o + 1)) (rg_sz M (99 + 2 * o))
def rp_X (M : rg_Mem) : Prop := ∀ c, c < rg_nc M → ∀ r, r < 36 → ∀ k, k < 6 → (r < 10 → M.1 (420 + c) (6 * r + k) = M.1 (110 + 38 * c + r) k + 1 ∧ (M.1 (110 + 38 * c + r) k = -1 ∨ ∃ a, a < 16 ∧ M.1 (110 + 38 * c + r) k = nI a)) ∧ (10 ≤ r → M.1 (110 + 38 * c + r) k = -1)
def rp_Inv (M : rg_Mem) : Prop := rg_CI M ∧ rp_N M ∧ lw_WI M ∧ rp_C M ∧ rp_M M ∧ rp_T M ∧ rp_L M ∧ rp_Q M ∧ rp_D M ∧ rp_F M ∧ rp_X M
theorem rp_ci {M : rg_Mem} (h : rp_Inv M) : rg_CI M := h.1
theorem rp_n {M : rg_Mem} (h : rp_Inv M) : rp_N M := h.2.1
theorem rp_wi {M : rg_Mem} (h : rp_Inv M) : lw_WI M := h.2.2.1
theorem rp_c {M : rg_Mem} (h : rp_Inv M) : rp_C M := h.2.2.2.1
theorem rp_m {M : rg_Mem} (h : rp_Inv M) : rp_M M := h.2.2.2.2.1
theorem rp_t {M : rg_Mem} (h : rp_Inv M) : rp_T M := h.2.2.2.2.2.1
theorem rp_l {M : rg_Mem} (h : rp_Inv M) : rp_L M := h.2.2.2.2.2.2.1
theorem rp_q {M : rg_Mem} (h : rp_Inv M) : rp_Q M := h.2.2.2.2.2.2.2.1
theorem rp_d {M : rg_Mem} (h : rp_Inv M) : rp_D M := h.2.2.2.2.2.2.2.2.1
theorem rp_f {M : rg_Mem} (h : rp_Inv M) : rp_F M := h.2.2.2.2.2.2.2.2.2.1
theorem rp_x {M : rg_Mem} (h : rp_Inv M) : rp_X M := h.2.2.2.2.2.2.2.2.2.2
theorem rp_has {M : rg_Mem} (h : rp_Inv M) {x : Int32} (hx : rg_has M x) : ∃ a, a < 16 ∧ x = nI a := by
  obtain ⟨a, h1, _, h2⟩ := rg_hasN (rp_ci h) hx
  have h3 : rg_nw M = 16 := by
    unfold rg_nw
    rw [(rp_n h).1.1, nI_clamp (by omega)]
  exact ⟨a, by omega, h2⟩
theorem rp_nw {M : rg_Mem} (h : rp_Inv M) : rg_nw M = 16 := by
  unfold rg_nw
  rw [(rp_n h).1.1, nI_clamp (by omega)]
theorem rp_has2 {M : rg_Mem} (h : rp_Inv M) {a : Nat} (ha : a < 16) : rg_has M (nI a) := rg_has_k (rp_ci h) (by rw [rp_nw h]; exact ha)
theorem rp_nl {M : rg_Mem} (h : rp_Inv M) : rg_nl M ≤ rg_nt M ∧ rg_nt M ≤ 10 := ⟨(rp_ci h).2.2.1.2, (rp_n h).2.1⟩
theorem rp_vs {M : rg_Mem} (h : rp_Inv M) {j : Nat} (hj : j < rg_nl M) : rg_VS M (17 + 2 * j) (rg_sz M (17 + 2 * j)) := rg_CI_v (rp_ci h) j hj
theorem rp_VSw {M : rg_Mem} (h : rp_Inv M) {v n : Nat} (hv : rg_VS M v n) : rp_w (M.1 (v + 1)) n := fun k hk => rp_has h (hv.2.2.1 k hk)
theorem rp_TI {M : rg_Mem} (h : rp_Inv M) : lw_TI M := by
  intro i hi
  by_cases c : i < 6 * rg_nl M
  · have hr := ((rp_t h).1 (i / 6) (by omega)).1 (i % 6) (by omega)
    rw [show 6 * (i / 6) + i % 6 = i by omega] at hr
    unfold lw_t
    rw [hr]
    by_cases q : i % 6 < rg_sz M (17 + 2 * (i / 6))
    · rw [if_pos q]
      obtain ⟨a, h1, h2⟩ := rp_VSw h (rp_vs h (j := i / 6) (by omega)) (i % 6) q
      rw [h2, ← nI_succ, nI_clamp (by omega)]
      exact ⟨rfl, by omega⟩
    · rw [if_neg q]
      exact ⟨rfl, by decide⟩
  · unfold lw_t
    rw [(rp_t h).2 i (by omega) hi]
    exact ⟨rfl, by decide⟩
/-! rows -/
theorem rp_t1 {M : rg_Mem} {j n k : Nat} {w : Nat → Int32} (hr : rp_row M j n w) (hw : rp_w w n) (hk : k < 6) (h : k < n) : lw_t M (6 * j + k) = (w k).toNatClampNeg + 1 := by
  obtain ⟨a, h1, h2⟩ := hw k h
  unfold lw_t
  rw [hr k hk, if_pos h, h2, ← nI_succ, nI_clamp (by omega), nI_clamp (by omega)]
theorem rp_t0 {M : rg_Mem} {j n k : Nat} {w : Nat → Int32} (hr : rp_row M j n w) (hk : k < 6) (h : ¬ k < n) : lw_t M (6 * j + k) = 0 := by
  unfold lw_t
  rw [hr k hk, if_neg h]
  rfl
theorem lw_fs_snoc {s : Nat → Int32} : ∀ (n k : Nat), lw_fs s (n + 1) k = if lw_fs s n k = -1 then s (k + n) else lw_fs s n k
  | 0, k => by
    rw [lw_fs, lw_fs, lw_fs, if_pos rfl]
    by_cases c : s k = -1
    · rw [if_pos c]; exact c.symm
    · rw [if_neg c]; rfl
  | n + 1, k => by
    rw [lw_fs, lw_fs_snoc n (k + 1), lw_fs]
    by_cases c : s k = -1
    · rw [if_pos c, if_pos c, show k + 1 + n = k + (n + 1) by omega]
    · rw [if_neg c, if_neg c, if_neg c]
theorem rp_fi {s f w : Nat → Int32} : ∀ n, (∀ k, k < n → s k = f (w k).toNatClampNeg) → lw_fs s n 0 = rg_fi f w n
  | 0, _ => rfl
  | n + 1, h => by rw [lw_fs_snoc, rg_fi, rp_fi n (fun k hk => h k (by omega)), Nat.zero_add, h n (by omega)]
theorem rp_fs_ext {s : Nat → Int32} {n : Nat} : ∀ m, (∀ i, n ≤ i → i < n + m → s i = -1) → lw_fs s (n + m) 0 = lw_fs s n 0
  | 0, _ => rfl
  | m + 1, h => by
    rw [← Nat.add_assoc, lw_fs_snoc, rp_fs_ext m (fun i h1 h2 => h i h1 (by omega)), Nat.zero_add, h (n + m) (by omega) (by omega)]
    split
    · rename_i q; exact q.symm
    · rfl
theorem rp_og {g f w : Nat → Int32} : ∀ n, (∀ k, k < n → g k = f (w k).toNatClampNeg) → lw_or g n = rg_og f w n
  | 0, _ => rfl
  | n + 1, h => by rw [lw_or, rg_og, rp_og n (fun k hk => h k (by omega)), h n (by omega)]
theorem rp_or_ext {g : Nat → Int32} {n : Nat} : ∀ m, (∀ i, n ≤ i → i < n + m → g i = 0) → lw_or g (n + m) = lw_or g n
  | 0, _ => rfl
  | m + 1, h => by rw [← Nat.add_assoc, lw_or, rp_or_ext m (fun i h1 h2 => h i h1 (by omega)), h (n + m) (by omega) (by omega), Int32.or_zero]
theorem rp_sm {g f w : Nat → Int32} : ∀ n, (∀ k, k < n → g k = f (w k).toNatClampNeg) → lw_sm g n = rg_sm f w n
  | 0, _ => rfl
  | n + 1, h => by rw [lw_sm, rg_sm, rp_sm n (fun k hk => h k (by omega)), h n (by omega)]
theorem rp_sm_ext {g : Nat → Int32} {n : Nat} : ∀ m, (∀ i, n ≤ i → i < n + m → g i = 0) → lw_sm g (n + m) = lw_sm g n
  | 0, _ => rfl
  | m + 1, h => by rw [← Nat.add_assoc, lw_sm, rp_sm_ext m (fun i h1 h2 => h i h1 (by omega)), h (n + m) (by omega) (by omega), Int32.add_zero]
theorem rp_ff_snoc {p : Nat → Bool} : ∀ (n k : Nat), p (k + n) = false → rg_ff p (n + 1) k = rg_ff p n k
  | 0, k, h => by
    rw [rg_ff, rg_ff, rg_ff, if_neg (by rw [show p k = false from h]; decide)]
  | n + 1, k, h => by
    rw [rg_ff, rp_ff_snoc n (k + 1) (by rw [show k + 1 + n = k + (n + 1) by omega]; exact h), rg_ff]
theorem rp_ff_ext {p : Nat → Bool} {n : Nat} : ∀ m, (∀ i, n ≤ i → i < n + m → p i = false) → rg_ff p (n + m) 0 = rg_ff p n 0
  | 0, _ => rfl
  | m + 1, h => by
    rw [← Nat.add_assoc, rp_ff_snoc (n + m) 0 (by rw [Nat.zero_add]; exact h (n + m) (by omega) (by omega))]
    exact rp_ff_ext m (fun i h1 h2 => h i h1 (by omega))
theorem rp_sv1 {M : rg_Mem} {j n k : Nat} {w : Nat → Int32} (hr : rp_row M j n w) (hw : rp_w w n) (hk : k < 6) (h : k < n) : lw_sv M (6 * j + k) = M.1 3 (w k).toNatClampNeg := by
  rw [lw_sv, rp_t1 hr hw hk h, if_neg (by omega), Nat.add_sub_cancel]
theorem rp_sea {M : rg_Mem} {j n : Nat} {w : Nat → Int32} (hr : rp_row M j n w) (hw : rp_w w n) (hn : n ≤ 6) : lw_sea M j = rg_fi (M.1 3) w n := by
  unfold lw_sea
  have e := rp_fs_ext (s := fun k => lw_sv M (6 * j + k)) (n := n) (6 - n) (fun i h1 h2 => by
    show lw_sv M (6 * j + i) = -1
    rw [lw_sv, rp_t0 hr (by omega) (by omega), if_pos rfl])
  rw [show n + (6 - n) = 6 by omega] at e
  rw [e]
  exact rp_fi n (fun k hk => rp_sv1 hr hw (by omega) hk)
theorem rp_sgn {M : rg_Mem} {j n : Nat} {w : Nat → Int32} (hr : rp_row M j n w) (hw : rp_w w n) (hn : n ≤ 6) : lw_sgn M j = rg_og (M.1 4) w n := by
  unfold lw_sgn
  have e := rp_or_ext (g := fun k => lw_gv M (6 * j + k)) (n := n) (6 - n) (fun i h1 h2 => by
    show lw_gv M (6 * j + i) = 0
    rw [lw_gv, rp_t0 hr (by omega) (by omega), if_pos rfl])
  rw [show n + (6 - n) = 6 by omega] at e
  rw [e]
  exact rp_og n (fun k hk => by
    show lw_gv M (6 * j + k) = _
    rw [lw_gv, rp_t1 hr hw (by omega) hk, if_neg (by omega), Nat.add_sub_cancel])
theorem rp_sum {M : rg_Mem} {j n : Nat} {w : Nat → Int32} (hr : rp_row M j n w) (hw : rp_w w n) (hn : n ≤ 6) : lw_sum M j = rg_sm (M.1 2) w n := by
  unfold lw_sum
  have e := rp_sm_ext (g := fun k => lw_nv M (6 * j + k)) (n := n) (6 - n) (fun i h1 h2 => by
    show lw_nv M (6 * j + i) = 0
    rw [lw_nv, rp_t0 hr (by omega) (by omega), if_pos rfl])
  rw [show n + (6 - n) = 6 by omega] at e
  rw [e]
  exact rp_sm n (fun k hk => by
    show lw_nv M (6 * j + k) = _
    rw [lw_nv, rp_t1 hr hw (by omega) hk, if_neg (by omega), Nat.add_sub_cancel])
