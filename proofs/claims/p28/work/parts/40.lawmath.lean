/-! the law's own words of its rows: w 412, c 413, t 414, l 415, q 416, m 417, d 418, f 419, x 420, y 421 -/
theorem lw_mul (a b : Nat) : nI a * nI b = nI (a * b) := (Int32.ofNat_mul a b).symm
theorem lw_sub {v d : Nat} (h : d ≤ v) : nI v - nI d = nI (v - d) := pk_sub h
theorem lw_lt0 {t : Nat} (ht : t ≤ 1000) : nI t - 1 < 0 ↔ t = 0 := by
  rw [rg_lt, show nI t - 1 = nI t - nI 1 from rfl, pk_sub_toInt (by omega) (by omega)]
  rw [show (0 : Int32).toInt = 0 from rfl]
  omega
theorem lw_le0 {t : Nat} (ht : t ≤ 1000) : nI t ≤ 0 ↔ t = 0 := by
  rw [rg_le, nI_toInt (by omega), show (0 : Int32).toInt = 0 from rfl]
  omega
theorem lw_nlt0 {t : Nat} (ht : t ≤ 1000) : ¬ nI t < 0 := nI_pos (by omega)
theorem lw_sub1 {v : Nat} (h : 1 ≤ v) : nI v - 1 = nI (v - 1) := pk_sub h
theorem lw_no {a b : Prop} (h : a ↔ b) (q : ¬ a) : ¬ b := fun r => q (h.mpr r)
abbrev lw_t (M : rg_Mem) (i : Nat) : Nat := (M.1 414 i).toNatClampNeg
/-- the law's table holds words, by their numbers and 1 -/
def lw_TI (M : rg_Mem) : Prop := ∀ i, i < 64 → M.1 414 i = nI (lw_t M i) ∧ lw_t M i ≤ 16
/-- the law's words are the class's -/
def lw_WI (M : rg_Mem) : Prop := ∀ a, a < 16 → (M.1 412 a &&& 15 = M.1 2 a) ∧ ((M.1 412 a >>> (4 &&& 31)) &&& 7 = M.1 3 a + 1) ∧ M.1 412 a >>> (8 &&& 31) = M.1 4 a ∧ (M.1 3 a = -1 ∨ ∃ s, s < 4 ∧ M.1 3 a = nI s) ∧ (∃ g, g < 1024 ∧ M.1 4 a = nI g) ∧ ∃ v, v ≤ 5 ∧ M.1 2 a = nI v
def lw_sv (M : rg_Mem) (i : Nat) : Int32 := if lw_t M i = 0 then -1 else M.1 3 (lw_t M i - 1)
def lw_gv (M : rg_Mem) (i : Nat) : Int32 := if lw_t M i = 0 then 0 else M.1 4 (lw_t M i - 1)
def lw_nv (M : rg_Mem) (i : Nat) : Int32 := if lw_t M i = 0 then 0 else M.1 2 (lw_t M i - 1)
/-- the first of n numbers from k on that is not -1 -/
def lw_fs (s : Nat → Int32) : Nat → Nat → Int32
  | 0, _ => -1
  | n + 1, k => if s k = -1 then lw_fs s n (k + 1) else s k
theorem lw_fs_at {s : Nat → Int32} {m y : Nat} (h : y < m) : lw_fs s (m - y) y = if s y = -1 then lw_fs s (m - (y + 1)) (y + 1) else s y := by
  obtain ⟨z, hz⟩ : ∃ z, m - y = z + 1 := ⟨m - y - 1, by omega⟩
  rw [hz, lw_fs, show m - (y + 1) = z by omega]
theorem lw_ff_at {p : Nat → Bool} {m y : Nat} (h : y < m) : rg_ff p (m - y) y = if p y then nI y else rg_ff p (m - (y + 1)) (y + 1) := by
  obtain ⟨z, hz⟩ : ∃ z, m - y = z + 1 := ⟨m - y - 1, by omega⟩
  rw [hz, rg_ff, show m - (y + 1) = z by omega]
theorem lw_fs_in {s : Nat → Int32} {P : Int32 → Prop} : ∀ (n k : Nat), (∀ i, k ≤ i → i < k + n → ¬ s i = -1 → P (s i)) → lw_fs s n k = -1 ∨ P (lw_fs s n k)
  | 0, _, _ => Or.inl rfl
  | n + 1, k, h => by
    rw [lw_fs]
    by_cases c : s k = -1
    · rw [if_pos c]
      exact lw_fs_in n (k + 1) (fun i h1 h2 h3 => h i (by omega) (by omega) h3)
    · rw [if_neg c]
      exact Or.inr (h k (by omega) (by omega) c)
def lw_or (f : Nat → Int32) : Nat → Int32
  | 0 => 0
  | k + 1 => lw_or f k ||| f k
def lw_sm (f : Nat → Int32) : Nat → Int32
  | 0 => 0
  | k + 1 => lw_sm f k + f k
/-- one of the first k places has it -/
def lw_an (p : Nat → Bool) : Nat → Bool
  | 0 => false
  | k + 1 => lw_an p k || p k
theorem lw_an_a {p : Nat → Bool} {k : Nat} (h : ¬ rg_b (lw_an p k = true) = 0) : (1 : Int32) = rg_b (lw_an p (k + 1) = true) := rg_b_t (by rw [lw_an, rg_b_ne.mp h, Bool.true_or])
theorem lw_an_b {p : Nat → Bool} {k : Nat} (h : p k = true) : (1 : Int32) = rg_b (lw_an p (k + 1) = true) := rg_b_t (by rw [lw_an, h, Bool.or_true])
theorem lw_an_c {p : Nat → Bool} {k : Nat} (h : rg_b (lw_an p k = true) = 0) (h2 : ¬ p k = true) : (0 : Int32) = rg_b (lw_an p (k + 1) = true) := rg_b_f (by
  have h1 := rg_b_eq.mp h
  rw [lw_an]
  cases ha : lw_an p k <;> cases hb : p k <;> simp_all)
theorem lw_an_iff {p : Nat → Bool} : ∀ {k : Nat}, lw_an p k = true ↔ ∃ i, i < k ∧ p i = true
  | 0 => ⟨(fun h => by cases h), (fun ⟨_, h, _⟩ => by omega)⟩
  | k + 1 => by
    rw [lw_an, Bool.or_eq_true, lw_an_iff (k := k)]
    constructor
    · rintro (⟨i, h1, h2⟩ | h)
      · exact ⟨i, by omega, h2⟩
      · exact ⟨k, by omega, h⟩
    · rintro ⟨i, h1, h2⟩
      by_cases c : i = k
      · subst c; exact Or.inr h2
      · exact Or.inl ⟨i, by omega, h2⟩
def lw_sea (M : rg_Mem) (j : Nat) : Int32 := lw_fs (fun k => lw_sv M (6 * j + k)) 6 0
def lw_sgn (M : rg_Mem) (j : Nat) : Int32 := lw_or (fun k => lw_gv M (6 * j + k)) 6
theorem lw_sv_in {M : rg_Mem} {i : Nat} (hT : lw_TI M) (hW : lw_WI M) (hi : i < 64) : lw_sv M i = -1 ∨ ∃ s, s < 4 ∧ lw_sv M i = nI s := by
  unfold lw_sv
  by_cases c : lw_t M i = 0
  · rw [if_pos c]; exact Or.inl rfl
  · rw [if_neg c]; exact (hW _ (by have := (hT i hi).2; omega)).2.2.2.1
theorem lw_sea_in {M : rg_Mem} {j : Nat} (hT : lw_TI M) (hW : lw_WI M) (hj : j < 10) : lw_sea M j = -1 ∨ ∃ s, s < 4 ∧ lw_sea M j = nI s := by
  unfold lw_sea
  exact lw_fs_in (P := fun x => ∃ s, s < 4 ∧ x = nI s) 6 0 (fun i _ hi h => (lw_sv_in hT hW (by omega)).resolve_left h)
theorem lw_neg {x : Int32} (h : x = -1 ∨ ∃ s, s < 4 ∧ x = nI s) : x < 0 ↔ x = -1 := by
  rcases h with h | ⟨s, h1, h2⟩
  · subst h; decide
  · subst h2
    exact ⟨fun q => absurd q (nI_pos (by omega)), fun q => absurd q (rg_nIm (by omega))⟩
theorem lw_s1 {x : Int32} (h : x = -1 ∨ ∃ s, s < 4 ∧ x = nI s) : x + 1 ≤ 0 ↔ x = -1 := by
  rcases h with h | ⟨s, h1, h2⟩
  · subst h; decide
  · subst h2
    rw [← nI_succ, lw_le0 (by omega)]
    exact ⟨fun q => by omega, fun q => absurd q (rg_nIm (by omega))⟩
theorem lw_s2 {x : Int32} : x + 1 - 1 = x := by grind
theorem lw_sv_0 {M : rg_Mem} {i : Nat} (h : lw_t M i = 0) : lw_sv M i = -1 := by rw [lw_sv, if_pos h]
theorem lw_sv_1 {M : rg_Mem} {i : Nat} (h : 1 ≤ lw_t M i) : lw_sv M i = M.1 3 (lw_t M i - 1) := by rw [lw_sv, if_neg (by omega)]
theorem lw_gv_0 {M : rg_Mem} {i : Nat} (h : lw_t M i = 0) : lw_gv M i = 0 := by rw [lw_gv, if_pos h]
theorem lw_gv_1 {M : rg_Mem} {i : Nat} (h : 1 ≤ lw_t M i) : lw_gv M i = M.1 4 (lw_t M i - 1) := by rw [lw_gv, if_neg (by omega)]
theorem lw_nv_0 {M : rg_Mem} {i : Nat} (h : lw_t M i = 0) : lw_nv M i = 0 := by rw [lw_nv, if_pos h]
theorem lw_nv_1 {M : rg_Mem} {i : Nat} (h : 1 ≤ lw_t M i) : lw_nv M i = M.1 2 (lw_t M i - 1) := by rw [lw_nv, if_neg (by omega)]
def lw_run (M : rg_Mem) (j : Nat) : Int32 := if lw_sea M j = -1 then 0 else nI (rg_rn (lw_sea M) (lw_sea M j) (j + 1))
abbrev lw_hp (M : rg_Mem) (j : Nat) (x : Int32) : Nat → Bool := fun k => decide (M.1 414 (6 * j + k) = x)
abbrev lw_hq (M : rg_Mem) (j : Nat) (x : Int32) : Nat → Bool := fun d => lw_an (lw_hp M (j - (d + 1)) x) 6
abbrev lw_mp (M : rg_Mem) (j : Nat) : Nat → Bool := fun k => decide (¬ lw_sv M (6 * j + k) = -1 ∧ ¬ lw_sv M (6 * j + k) = lw_sea M j)
abbrev lw_ap (M : rg_Mem) (j sp : Nat) : Nat → Bool := fun k => decide (¬ lw_t M (6 * j + k) = 0) && (lw_an (lw_hp M j (M.1 414 (6 * j + k))) k || lw_an (lw_hq M j (M.1 414 (6 * j + k))) (min sp j))
abbrev lw_cp (M : rg_Mem) (j : Nat) : Nat → Bool := fun k => decide (¬ lw_t M (6 * j + k / 6) = 0) && (decide (¬ lw_t M (6 * j - 6 + k % 6) = 0) && decide ((M.1 413 (lw_t M (6 * j + k / 6) - 1) >>> (nI (lw_t M (6 * j - 6 + k % 6) - 1) &&& 31)) &&& 1 = 1))
def lw_ca (M : rg_Mem) (j : Nat) : Int32 := if 1 ≤ j then lw_sea M (j - 1) else -1
def lw_ru (M : rg_Mem) (j : Nat) : Int32 := if lw_ca M j < 0 then 0 else lw_run M (j - 1)
abbrev lw_lp (M : rg_Mem) (j : Nat) : Nat → Bool := fun d => decide (¬ lw_sea M j < 0 ∧ ¬ lw_sea M j = lw_ca M j ∧ lw_sea M (j - (d + 1)) = lw_sea M j)
def lw_wr (M : rg_Mem) (j : Nat) : Int32 :=
  if ¬ lw_ca M j < 0 ∧ lw_ca M j - lw_ca M j / 2 * 2 = 0 ∧ ¬ 3 ≤ lw_ru M j ∧ ¬ lw_sea M j = lw_ca M j then lw_ca M j
  else if ¬ lw_sea M j < 0 ∧ lw_sea M j = lw_ca M j ∧ ¬ lw_ru M j < 5 - 2 * (lw_sea M j - lw_sea M j / 2 * 2) then lw_sea M j
  else if lw_an (lw_lp M j) (min 4 j) = true then lw_sea M j else -1
theorem lw_rn_go {s : Nat → Int32} {c : Int32} {i j : Nat} (hi : i ≤ j) (h : s (j - i) = c) (h2 : i + rg_rn s c (j + 1 - i) = rg_rn s c (j + 1)) : i + 1 + rg_rn s c (j + 1 - (i + 1)) = rg_rn s c (j + 1) := by
  rw [show j + 1 - i = (j - i) + 1 by omega, rg_rn_t h] at h2
  rw [show j + 1 - (i + 1) = j - i by omega]
  omega
theorem lw_rn_end {s : Nat → Int32} {c : Int32} {i j : Nat} (hi : i ≤ j + 1) (h : ¬ (i ≤ j ∧ s (j - i) = c)) (h2 : i + rg_rn s c (j + 1 - i) = rg_rn s c (j + 1)) : rg_rn s c (j + 1) = i := by
  by_cases q : i ≤ j
  · rw [show j + 1 - i = (j - i) + 1 by omega, rg_rn_n (fun z => h ⟨q, z⟩)] at h2
    omega
  · rw [show j + 1 - i = 0 by omega] at h2
    rw [← h2]
    rfl
abbrev lw_go (M : rg_Mem) (j i : Nat) : Prop := ¬ lw_sea M j = -1 ∧ (i = 0 ∨ (i ≤ j ∧ lw_sea M (j - i) = lw_sea M j))
theorem lw_run_end {M : rg_Mem} {i j : Nat} (hi : i ≤ j + 1) (h0 : i = 0 ∨ ¬ lw_sea M j = -1) (h : ¬ lw_go M j i) (h2 : i + rg_rn (lw_sea M) (lw_sea M j) (j + 1 - i) = rg_rn (lw_sea M) (lw_sea M j) (j + 1)) : nI i = lw_run M j := by
  unfold lw_run
  by_cases c : lw_sea M j = -1
  · rw [if_pos c, show i = 0 from h0.resolve_right (fun q => q c)]
    rfl
  · rw [if_neg c, lw_rn_end hi (fun q => h ⟨c, Or.inr q⟩) h2]
theorem lw_go_le {M : rg_Mem} {i j : Nat} (h : lw_go M j i) : i ≤ j ∧ lw_sea M (j - i) = lw_sea M j := by
  rcases h.2 with q | q
  · subst q; exact ⟨by omega, rfl⟩
  · exact q
theorem lw_nle {a b : Nat} (ha : a ≤ 1000) (hb : b ≤ 1000) : nI a ≤ nI b ↔ a ≤ b := by
  rw [rg_le, nI_toInt (by omega), nI_toInt (by omega)]
  omega
theorem lw_nlt {a b : Nat} (ha : a ≤ 1000) (hb : b ≤ 1000) : nI a < nI b ↔ a < b := by
  rw [rg_lt, nI_toInt (by omega), nI_toInt (by omega)]
  omega
theorem lw_o_a {a : Bool} {p : Nat → Bool} {k : Nat} (h : ¬ rg_b ((a || lw_an p k) = true) = 0) : (1 : Int32) = rg_b ((a || lw_an p (k + 1)) = true) := rg_b_t (by
  have := rg_b_ne.mp h
  rw [lw_an, ← Bool.or_assoc, this, Bool.true_or])
theorem lw_o_b {a : Bool} {p : Nat → Bool} {k : Nat} (h : p k = true) : (1 : Int32) = rg_b ((a || lw_an p (k + 1)) = true) := rg_b_t (by rw [lw_an, h, Bool.or_true, Bool.or_true])
theorem lw_o_c {a : Bool} {p : Nat → Bool} {k : Nat} (h : rg_b ((a || lw_an p k) = true) = 0) (h2 : ¬ p k = true) : (0 : Int32) = rg_b ((a || lw_an p (k + 1)) = true) := rg_b_f (by
  have h1 := rg_b_eq.mp h
  rw [lw_an, ← Bool.or_assoc]
  cases ha : (a || lw_an p k) <;> cases hb : p k <;> simp_all)
theorem lw_o_0 {a : Bool} {p : Nat → Bool} : rg_b ((a || lw_an p 0) = true) = rg_b (a = true) := by rw [show lw_an p 0 = false from rfl, Bool.or_false]
theorem lw_o_00 {p q : Nat → Bool} {k : Nat} : rg_b (lw_an p k = true) = rg_b ((lw_an p k || lw_an q 0) = true) := by rw [show lw_an q 0 = false from rfl, Bool.or_false]
theorem lw_b1 {x : Int32} : x &&& 1 = 1 ↔ ¬ x &&& 1 = 0 := by
  have h : x &&& 1 = 0 ∨ x &&& 1 = 1 := by
    have := pk_and x (m := 1) 1 rfl
    rw [this]
    have h2 : x.toBitVec.toNat % 2 ^ 1 = 0 ∨ x.toBitVec.toNat % 2 ^ 1 = 1 := by omega
    rcases h2 with h2 | h2 <;> rw [h2]
    · exact Or.inl rfl
    · exact Or.inr rfl
  rcases h with h | h <;> rw [h] <;> decide
theorem lw_ff_in {p : Nat → Bool} : ∀ (n k : Nat), rg_ff p n k = -1 ∨ ∃ i, k ≤ i ∧ i < k + n ∧ p i = true ∧ rg_ff p n k = nI i
  | 0, _ => Or.inl rfl
  | n + 1, k => by
    rw [rg_ff]
    by_cases h : p k = true
    · rw [if_pos h]
      exact Or.inr ⟨k, by omega, by omega, h, rfl⟩
    · rw [if_neg h]
      rcases lw_ff_in (p := p) n (k + 1) with q | ⟨i, h1, h2, h3, h4⟩
      · exact Or.inl q
      · exact Or.inr ⟨i, by omega, by omega, h3, h4⟩
theorem lw_ff_neg {p : Nat → Bool} {n k : Nat} (h : k + n ≤ 1000) : rg_ff p n k < 0 ↔ rg_ff p n k = -1 := by
  rcases lw_ff_in (p := p) n k with q | ⟨i, _, h2, _, h4⟩
  · rw [q]; decide
  · rw [h4]
    exact ⟨fun z => absurd z (nI_pos (by omega)), fun z => absurd z (rg_nIm (by omega))⟩
/-- the first of n places from k on where p holds; 0 without -/
def lw_f0 (p : Nat → Bool) : Nat → Nat → Int32
  | 0, _ => 0
  | n + 1, k => if p k then nI k else lw_f0 p n (k + 1)
theorem lw_f0_at {p : Nat → Bool} {m y : Nat} (h : y < m) : lw_f0 p (m - y) y = if p y then nI y else lw_f0 p (m - (y + 1)) (y + 1) := by
  obtain ⟨z, hz⟩ : ∃ z, m - y = z + 1 := ⟨m - y - 1, by omega⟩
  rw [hz, lw_f0, show m - (y + 1) = z by omega]
def lw_lv (M : rg_Mem) (j : Nat) : Int32 := if j ≤ 1 then 0 else (lw_sgn M j &&& lw_sgn M (j - 2)) &&& 255
abbrev lw_bp (x : Int32) : Nat → Bool := fun k => decide ((x >>> (nI k &&& 31)) &&& 1 = 1)
def lw_sum (M : rg_Mem) (j : Nat) : Int32 := lw_sm (fun k => lw_nv M (6 * j + k)) 6
abbrev lw_j5 (M : rg_Mem) (j : Nat) : Prop := (decide (¬ (lw_sgn M j &&& lw_sgn M (j - 1)) &&& 255 ≤ 0) || lw_an (lw_cp M j) 36) = true
/-- the law's faults of a link: their causes, or -1 -/
def lw_cs (M : rg_Mem) (j sp : Nat) (po : Int32) : Nat → Int32
  | 1 => if lw_sum M j = M.1 417 (1 + j % 2) then -1 else lw_sum M j
  | 2 => rg_ff (lw_mp M j) 6 0
  | 3 => rg_ff (lw_ap M j sp) 6 0
  | 4 => if 1 ≤ j ∧ ¬ po < 0 ∧ M.1 415 (4 * j - 4) = po then po else -1
  | 5 => if j = 0 ∨ lw_j5 M j then -1 else nI j - 1
  | 6 => if lw_lv M j ≤ 0 then -1 else lw_f0 (lw_bp (lw_lv M j)) 8 0
  | 7 => lw_wr M j
  | _ => rg_wst (lw_sgn M j) (M.1 415 (4 * j + 1))
def lw_fl (g : Nat → Int32) : Int32 :=
  if ¬ g 1 = -1 then 100 + g 1 else if ¬ g 2 = -1 then 200 + g 2 else if ¬ g 3 = -1 then 300 + g 3 else if ¬ g 4 = -1 then 400 + g 4 else if ¬ g 5 = -1 then 500 + g 5 else if ¬ g 6 = -1 then 600 + g 6 else if ¬ g 7 = -1 then 700 + g 7 else if ¬ g 8 = -1 then 800 + g 8 else 0
theorem lw_sm_in {f : Nat → Int32} : ∀ n, (∀ k, k < n → ∃ v, v ≤ 5 ∧ f k = nI v) → ∃ v, v ≤ 5 * n ∧ lw_sm f n = nI v
  | 0, _ => ⟨0, by omega, rfl⟩
  | n + 1, h => by
    obtain ⟨a, h1, h2⟩ := lw_sm_in (f := f) n (fun k hk => h k (by omega))
    obtain ⟨b, h3, h4⟩ := h n (by omega)
    exact ⟨a + b, by omega, by rw [lw_sm, h2, h4, nI_add]⟩
theorem lw_sum_in {M : rg_Mem} {j : Nat} (hT : lw_TI M) (hW : lw_WI M) (hj : j < 10) : ∃ v, v ≤ 30 ∧ lw_sum M j = nI v := lw_sm_in 6 (fun k hk => by
  show ∃ v, v ≤ 5 ∧ lw_nv M (6 * j + k) = nI v
  unfold lw_nv
  by_cases c : lw_t M (6 * j + k) = 0
  · rw [if_pos c]; exact ⟨0, by omega, rfl⟩
  · rw [if_neg c]; exact (hW _ (by have := (hT (6 * j + k) (by omega)).2; omega)).2.2.2.2.2)
theorem lw_wr_in {M : rg_Mem} {j : Nat} (hT : lw_TI M) (hW : lw_WI M) (hj : j < 10) : lw_wr M j = -1 ∨ ∃ s, s < 4 ∧ lw_wr M j = nI s := by
  have h1 := lw_sea_in hT hW hj
  have h2 : lw_ca M j = -1 ∨ ∃ s, s < 4 ∧ lw_ca M j = nI s := by
    unfold lw_ca
    by_cases c : 1 ≤ j
    · rw [if_pos c]; exact lw_sea_in hT hW (by omega)
    · rw [if_neg c]; exact Or.inl rfl
  unfold lw_wr
  split
  · exact h2
  · split
    · exact h1
    · split
      · exact h1
      · exact Or.inl rfl
theorem lw_wst_in {x y : Int32} : rg_wst x y = -1 ∨ rg_wst x y = 1 ∨ rg_wst x y = 2 := by
  unfold rg_wst
  split
  · exact Or.inr (Or.inl rfl)
  · split
    · exact Or.inr (Or.inr rfl)
    · exact Or.inl rfl
theorem lw_sm_s {f : Nat → Int32} {k : Nat} : lw_sm f (k + 1) = lw_sm f k + f k := rfl
theorem lw_500 {j : Nat} (h : 1 ≤ j) : nI (500 + j - 1) = 500 + (nI j - 1) := by
  rw [lw_sub1 h, show (500 : Int32) = nI 500 from rfl, nI_add, show 500 + (j - 1) = 500 + j - 1 by omega]
/-- the table with a row laid at a link -/
def lw_row (M : rg_Mem) (j : Nat) (r : Nat → Int32) : rg_Mem := (fun c k => if c = 414 ∧ 6 * j ≤ k ∧ k < 6 * j + 6 then r (k - 6 * j) else M.1 c k, M.2)
def lw_pt (M : rg_Mem) (j : Nat) (r : Nat → Int32) (i : Nat) : rg_Mem := (fun c k => if c = 414 ∧ 6 * j ≤ k ∧ k < 6 * j + i then r (k - 6 * j) else M.1 c k, M.2)
def lw_zr (M : rg_Mem) (j i : Nat) : rg_Mem := (fun c k => if c = 414 ∧ 6 * j ≤ k ∧ k < 6 * j + i then 0 else M.1 c k, M.2)
theorem lw_pt_0 {M : rg_Mem} {j : Nat} {r : Nat → Int32} : M = lw_pt M j r 0 := by
  refine Prod.ext ?_ rfl
  funext c k
  show _ = if _ then _ else _
  rw [if_neg (by omega)]
theorem lw_pt_s {M : rg_Mem} {j i : Nat} {r : Nat → Int32} {x : Int32} (h : x = r i) : rg_I (lw_pt M j r i) 414 (6 * j + i) x = lw_pt M j r (i + 1) := by
  subst h
  refine Prod.ext ?_ rfl
  funext c k
  show (if c = 414 ∧ k = 6 * j + i then r i else if c = 414 ∧ 6 * j ≤ k ∧ k < 6 * j + i then r (k - 6 * j) else M.1 c k) = if c = 414 ∧ 6 * j ≤ k ∧ k < 6 * j + (i + 1) then r (k - 6 * j) else M.1 c k
  by_cases h1 : c = 414 ∧ k = 6 * j + i
  · rw [if_pos h1, if_pos (by omega), show k - 6 * j = i by omega]
  · rw [if_neg h1]
    by_cases h2 : c = 414 ∧ 6 * j ≤ k ∧ k < 6 * j + i
    · rw [if_pos h2, if_pos (by omega)]
    · rw [if_neg h2, if_neg (by omega)]
theorem lw_pt_c {M : rg_Mem} {j i c k : Nat} {r : Nat → Int32} (h : c ≠ 414) : (lw_pt M j r i).1 c k = M.1 c k := by
  show (if _ then _ else _) = _
  rw [if_neg (fun q => h q.1)]
theorem lw_row_c {M : rg_Mem} {j c : Nat} {r : Nat → Int32} (h : c ≠ 414) : (lw_row M j r).1 c = M.1 c := by
  funext k
  show (if _ then _ else _) = _
  rw [if_neg (fun q => h q.1)]
theorem lw_zr_0 {M : rg_Mem} {j : Nat} : M = lw_zr M j 0 := by
  refine Prod.ext ?_ rfl
  funext c k
  show _ = if _ then _ else _
  rw [if_neg (by omega)]
theorem lw_zr_s {M : rg_Mem} {j i : Nat} : rg_I (lw_zr M j i) 414 (6 * j + i) 0 = lw_zr M j (i + 1) := by
  refine Prod.ext ?_ rfl
  funext c k
  show (if c = 414 ∧ k = 6 * j + i then (0 : Int32) else if c = 414 ∧ 6 * j ≤ k ∧ k < 6 * j + i then 0 else M.1 c k) = if c = 414 ∧ 6 * j ≤ k ∧ k < 6 * j + (i + 1) then 0 else M.1 c k
  by_cases h1 : c = 414 ∧ k = 6 * j + i
  · rw [if_pos h1, if_pos (by omega)]
  · rw [if_neg h1]
    by_cases h2 : c = 414 ∧ 6 * j ≤ k ∧ k < 6 * j + i
    · rw [if_pos h2, if_pos (by omega)]
    · rw [if_neg h2, if_neg (by omega)]
theorem lw_zr_c {M : rg_Mem} {j i c k : Nat} (h : c ≠ 414) : (lw_zr M j i).1 c k = M.1 c k := by
  show (if _ then _ else _) = _
  rw [if_neg (fun q => h q.1)]
theorem lw_zr_e {M : rg_Mem} {j : Nat} {r : Nat → Int32} (h : ∀ k, k < 6 → M.1 414 (6 * j + k) = 0) : lw_zr (lw_row M j r) j 6 = M := by
  refine Prod.ext ?_ rfl
  funext c k
  show (if c = 414 ∧ 6 * j ≤ k ∧ k < 6 * j + 6 then (0 : Int32) else if c = 414 ∧ 6 * j ≤ k ∧ k < 6 * j + 6 then r (k - 6 * j) else M.1 c k) = M.1 c k
  by_cases h2 : c = 414 ∧ 6 * j ≤ k ∧ k < 6 * j + 6
  · rw [if_pos h2, h2.1]
    have := h (k - 6 * j) (by omega)
    rw [show 6 * j + (k - 6 * j) = k by omega] at this
    exact this.symm
  · rw [if_neg h2, if_neg h2]
theorem lw_TI_row {M : rg_Mem} {j : Nat} {r : Nat → Int32} (hT : lw_TI M) (hr : ∀ k, k < 6 → ∃ a, a ≤ 16 ∧ r k = nI a) : lw_TI (lw_row M j r) := by
  intro i hi
  unfold lw_t
  show (if _ then _ else _) = nI (Int32.toNatClampNeg (if _ then _ else _)) ∧ Int32.toNatClampNeg (if _ then _ else _) ≤ 16
  by_cases h2 : 414 = 414 ∧ 6 * j ≤ i ∧ i < 6 * j + 6
  · rw [if_pos h2]
    obtain ⟨a, h3, h4⟩ := hr (i - 6 * j) (by omega)
    rw [h4, nI_clamp (by omega)]
    exact ⟨rfl, h3⟩
  · rw [if_neg h2]
    exact hT i hi
theorem lw_WI_row {M : rg_Mem} {j : Nat} {r : Nat → Int32} (hW : lw_WI M) : lw_WI (lw_row M j r) := by
  unfold lw_WI
  rw [lw_row_c (by omega), lw_row_c (by omega), lw_row_c (by omega), lw_row_c (by omega)]
  exact hW
theorem lw_f0_in {p : Nat → Bool} : ∀ (n k : Nat), ∃ i, i < k + n + 1 ∧ lw_f0 p n k = nI i
  | 0, _ => ⟨0, by omega, rfl⟩
  | n + 1, k => by
    rw [lw_f0]
    by_cases h : p k = true
    · rw [if_pos h]
      exact ⟨k, by omega, rfl⟩
    · rw [if_neg h]
      obtain ⟨i, h1, h2⟩ := lw_f0_in (p := p) n (k + 1)
      exact ⟨i, by omega, h2⟩
theorem lw_f0_m {p : Nat → Bool} (h : lw_f0 p 8 0 = -1) : False := by
  obtain ⟨i, h1, h2⟩ := lw_f0_in (p := p) 8 0
  rw [h2] at h
  exact rg_nIm (by omega) h
/-- how many of the first n places differ -/
def lw_cd (p q : Nat → Int32) : Nat → Nat
  | 0 => 0
  | k + 1 => lw_cd p q k + (if p k = q k then 0 else 1)
def lw_ct (p : Nat → Bool) : Nat → Nat
  | 0 => 0
  | k + 1 => lw_ct p k + (if p k then 1 else 0)
theorem lw_ct_le {p : Nat → Bool} : ∀ k, lw_ct p k ≤ k
  | 0 => Nat.le_refl 0
  | k + 1 => by
    have := lw_ct_le (p := p) k
    rw [lw_ct]
    split <;> omega
/-- from the highest place down: the lowest with the greatest s / c, its s and its c -/
def lw_bs (s c : Nat → Int32) (b : Int32 × Int32 × Int32) (y : Nat) : Int32 × Int32 × Int32 := if ¬ c y ≤ 0 ∧ (b.1 < 0 ∨ ¬ s y * b.2.2 < b.2.1 * c y) then (nI y, s y, c y) else b
def lw_bz (s c : Nat → Int32) : Nat → Nat → Int32 × Int32 × Int32
  | 0, _ => (-1, 0, 1)
  | f + 1, i => lw_bs s c (lw_bz s c f (i + 1)) i
theorem lw_bz_at {s c : Nat → Int32} {m y : Nat} (h : y < m) : lw_bz s c (m - y) y = lw_bs s c (lw_bz s c (m - (y + 1)) (y + 1)) y := by
  obtain ⟨z, hz⟩ : ∃ z, m - y = z + 1 := ⟨m - y - 1, by omega⟩
  rw [hz, lw_bz, show m - (y + 1) = z by omega]
abbrev lw_bq (s c : Nat → Int32) (b : Int32 × Int32 × Int32) (y : Nat) : Prop := ¬ c y ≤ 0 ∧ (b.1 < 0 ∨ ¬ s y * b.2.2 < b.2.1 * c y)
theorem lw_bs_y {s c : Nat → Int32} {b : Int32 × Int32 × Int32} {y : Nat} (h : lw_bq s c b y) : lw_bs s c b y = (nI y, s y, c y) := if_pos h
theorem lw_bs_n {s c : Nat → Int32} {b : Int32 × Int32 × Int32} {y : Nat} (h : ¬ lw_bq s c b y) : lw_bs s c b y = b := if_neg h
/-- the judges' numbers of the poet p: their sum, and how many -/
abbrev lw_ps (M : rg_Mem) (p : Nat) : Nat → Int32 := fun k => if ¬ M.1 416 k ≤ 0 ∧ M.1 415 (4 * (k % 10)) = nI p then M.1 416 k - 1 else 0
abbrev lw_pc (M : rg_Mem) (p : Nat) : Nat → Int32 := fun k => if ¬ M.1 416 k ≤ 0 ∧ M.1 415 (4 * (k % 10)) = nI p then 1 else 0
abbrev lw_pz (M : rg_Mem) : Nat → Nat → Int32 × Int32 × Int32 := lw_bz (fun p => lw_sm (lw_ps M p) 40) (fun p => lw_sm (lw_pc M p) 40)
abbrev lw_ab (M : rg_Mem) (a b : Nat) : Nat → Int32 := fun k => ((lw_sgn M a >>> (nI k &&& 31)) &&& (lw_sgn M b >>> (nI k &&& 31))) &&& 1
abbrev lw_aw (M : rg_Mem) (a b : Nat) : Nat → Int32 := fun k => if ¬ lw_t M (6 * a + k) = 0 ∧ lw_an (lw_hp M b (M.1 414 (6 * a + k))) 6 = true then 3 else 0
def lw_al (M : rg_Mem) (a b : Nat) : Int32 := lw_sm (lw_ab M a b) 10 + lw_sm (lw_aw M a b) 6
abbrev lw_hb (M : rg_Mem) (j p : Nat) : Nat → Bool := fun k => decide (¬ k = j ∧ M.1 415 (4 * k) = nI p ∧ M.1 415 (4 * k + 2) = 0)
abbrev lw_hs (M : rg_Mem) (j p : Nat) : Nat → Int32 := fun k => if lw_hb M j p k then lw_al M j k else 0
abbrev lw_hz (M : rg_Mem) (j nl : Nat) : Nat → Nat → Int32 × Int32 × Int32 := lw_bz (fun p => lw_sm (lw_hs M j p) nl) (fun p => nI (lw_ct (lw_hb M j p) nl))
/-- the row of the words that are tried, by its number -/
abbrev lw_rw2 (k : Nat) : Nat → Int32 := fun q => if q = 0 then nI (k / 17 + 1) else if q = 1 then nI (k % 17) else 0
/-- counts the rows that could be offered, up to the one with a number -/
def lw_ch (P : Nat → Bool) (num : Int32) : Nat → Nat → Nat → Int32
  | 0, _, c => nI c
  | f + 1, i, c => if P i then (if nI c = num then nI (20 * (i / 17) + i % 17) else lw_ch P num f (i + 1) (c + 1)) else lw_ch P num f (i + 1) c
theorem lw_ch_at {P : Nat → Bool} {num : Int32} {m y c : Nat} (h : y < m) : lw_ch P num (m - y) y c = if P y then (if nI c = num then nI (20 * (y / 17) + y % 17) else lw_ch P num (m - (y + 1)) (y + 1) (c + 1)) else lw_ch P num (m - (y + 1)) (y + 1) c := by
  obtain ⟨z, hz⟩ : ∃ z, m - y = z + 1 := ⟨m - y - 1, by omega⟩
  rw [hz, lw_ch, show m - (y + 1) = z by omega]
