theorem rg_df_t {a b : Nat → Nat → Int32} {x y : Nat} (h : a x y = b x y) : rg_df a b x (y + 1) = rg_df a b x y := by simp [rg_df, h]
theorem rg_df_f {a b : Nat → Nat → Int32} {x y : Nat} (h : ¬ a x y = b x y) : rg_df a b x (y + 1) = rg_df a b x y + 1 := by simp [rg_df, h]
abbrev rg_fa (M : rg_Mem) (t u : Int32) : Int32 := nI (rg_dd (rg_tk M t) (rg_tk M u) 36)
/-- of the first k texts the source, and how far it is -/
def rg_so (g : Nat → Int32) (g0 x : Int32) : Nat → Int32 × Int32
  | 0 => (-1, g0)
  | k + 1 => if ¬ nI k = x ∧ ¬ (rg_so g g0 x k).2 ≤ g k then (nI k, g k) else rg_so g g0 x k
theorem rg_so_t {g : Nat → Int32} {g0 x : Int32} {k : Nat} (h : ¬ nI k = x ∧ ¬ (rg_so g g0 x k).2 ≤ g k) : rg_so g g0 x (k + 1) = (nI k, g k) := by rw [rg_so, if_pos h]
theorem rg_so_f {g : Nat → Int32} {g0 x : Int32} {k : Nat} (h : ¬ (¬ nI k = x ∧ ¬ (rg_so g g0 x k).2 ≤ g k)) : rg_so g g0 x (k + 1) = rg_so g g0 x k := by rw [rg_so, if_neg h]
/-- the sheet q with its first i rows, and k places of the next, written out of the text t -/
def rg_fil (M : rg_Mem) (q : Nat) (t : Int32) (i k : Nat) : rg_Mem := (fun c z => if (110 + 38 * q ≤ c ∧ c < 146 + 38 * q) ∧ z < 6 ∧ (c - (110 + 38 * q) < i ∨ (c - (110 + 38 * q) = i ∧ z < k)) then rg_tw M t (nI (c - (110 + 38 * q))) (nI z) else M.1 c z, M.2)
theorem rg_fil_0 {M : rg_Mem} {q : Nat} {t : Int32} : M = rg_fil M q t 0 0 := by
  refine Prod.ext ?_ rfl
  funext c z
  show _ = if _ then _ else _
  rw [if_neg (by omega)]
theorem rg_fil_s {M : rg_Mem} {q : Nat} {t : Int32} {i k : Nat} (hi : i < 36) (hk : k < 6) : rg_I (rg_fil M q t i k) (110 + 38 * q + i) k (rg_tw M t (nI i) (nI k)) = rg_fil M q t i (k + 1) := by
  refine Prod.ext ?_ rfl
  funext c z
  show (if c = 110 + 38 * q + i ∧ z = k then rg_tw M t (nI i) (nI k) else if _ then _ else _) = if _ then _ else _
  by_cases h1 : c = 110 + 38 * q + i ∧ z = k
  · rw [if_pos h1, if_pos (by omega), h1.2, show c - (110 + 38 * q) = i by omega]
  · rw [if_neg h1]
    by_cases h2 : (110 + 38 * q ≤ c ∧ c < 146 + 38 * q) ∧ z < 6 ∧ (c - (110 + 38 * q) < i ∨ (c - (110 + 38 * q) = i ∧ z < k))
    · rw [if_pos h2, if_pos (by omega)]
    · rw [if_neg h2, if_neg (by omega)]
theorem rg_fil_r {M : rg_Mem} {q : Nat} {t : Int32} {i : Nat} : rg_fil M q t i 6 = rg_fil M q t (i + 1) 0 := by
  refine Prod.ext ?_ rfl
  funext c z
  show (if _ then _ else _) = if _ then _ else _
  by_cases h2 : (110 + 38 * q ≤ c ∧ c < 146 + 38 * q) ∧ z < 6 ∧ (c - (110 + 38 * q) < i ∨ (c - (110 + 38 * q) = i ∧ z < 6))
  · rw [if_pos h2, if_pos (by omega)]
  · rw [if_neg h2, if_neg (by omega)]
theorem rg_CI_cong {M M' : rg_Mem} (h : rg_CI M) (e : ∀ c, c < 108 → M'.1 c = M.1 c ∧ M'.2 c = M.2 c) : rg_CI M' := by
  have f : ∀ c, c < 108 → M'.1 c = M.1 c := fun c hc => (e c hc).1
  have f2 : ∀ c, c < 108 → M'.2 c = M.2 c := fun c hc => (e c hc).2
  have vs : ∀ v, v + 1 < 108 → rg_VS M v (rg_sz M v) → rg_VS M' v (rg_sz M' v) := by
    intro v hv g
    unfold rg_VS rg_sz rg_has
    rw [f v (by omega), f (v + 1) hv, f2 v (by omega), f 1 (by omega), f 2 (by omega), f 3 (by omega), f 4 (by omega)]
    exact g
  have k1 : rg_nl M' = rg_nl M := by unfold rg_nl; rw [f 6 (by omega)]
  have k2 : rg_no M' = rg_no M := by unfold rg_no; rw [f 0 (by omega)]
  have k3 : rg_np M' = rg_np M := by unfold rg_np; rw [f 0 (by omega)]
  have k4 : rg_nw M' = rg_nw M := by unfold rg_nw; rw [f 1 (by omega)]
  have k5 : rg_nt M' = rg_nt M := by unfold rg_nt; rw [f 6 (by omega)]
  have k6 : rg_nc M' = rg_nc M := by unfold rg_nc; rw [f 0 (by omega)]
  have k7 : rg_sp M' = rg_sp M := by unfold rg_sp; rw [f 6 (by omega)]
  have hl := (rg_CI_l h).2
  have ho := (rg_CI_o h).2
  unfold rg_CI
  rw [k1, k2, k3, k4, k5, k6, k7, f 0 (by omega), f 1 (by omega), f 6 (by omega), f 9 (by omega), f 97 (by omega), f 10 (by omega), f 11 (by omega)]
  exact ⟨h.1, h.2.1, h.2.2.1, h.2.2.2.1, h.2.2.2.2.1, h.2.2.2.2.2.1, h.2.2.2.2.2.2.1, vs 90 (by omega) (rg_CI_d h), fun k hk => vs _ (by omega) (rg_CI_v h k hk), fun k hk => vs _ (by omega) (rg_CI_vo h k hk), rg_CI_m h, rg_CI_mo h, rg_CI_h h⟩
/-- a text is the same in two memories that have it the same -/
theorem rg_tw_cong {M M' : rg_Mem} (h : rg_CI M) {t x y : Int32} (e : ∀ c, c < 108 → M'.1 c = M.1 c) (e2 : ¬ t = -1 → rg_cp M t → ∀ r, r < 36 → M'.1 (110 + 38 * t.toNatClampNeg + r) = M.1 (110 + 38 * t.toNatClampNeg + r)) : rg_tw M' t x y = rg_tw M t x y := by
  have k1 : rg_wp M' x y = rg_wp M x y := by
    unfold rg_wp rg_wn rg_hl
    rw [e 6 (by omega)]
    by_cases c : ¬ x < 0 ∧ ¬ M.1 6 4 ≤ x
    · have hx := rg_in_lt (rg_hl_in (rg_CI_mn h) (show rg_hl M x from c))
      rw [if_pos c, if_pos c, e (17 + 2 * x.toNatClampNeg) (by omega), e (17 + 2 * x.toNatClampNeg + 1) (by omega)]
    · rw [if_neg c, if_neg c]
  unfold rg_tw rg_cp
  rw [k1, e 0 (by omega)]
  by_cases c1 : t = -1
  · rw [if_pos c1, if_pos c1]
  · rw [if_neg c1, if_neg c1]
    by_cases c2 : ¬ t < 0 ∧ t < M.1 0 11
    · rw [if_pos c2, if_pos c2]
      by_cases c3 : rg_os x y
      · rw [if_pos c3, if_pos c3, e2 c1 c2 _ (rg_in_lt (rg_lit_in (m := 36) rfl c3.1 c3.2.1))]
      · rw [if_neg c3, if_neg c3]
    · rw [if_neg c2, if_neg c2]
theorem rg_tw_os {M : rg_Mem} {t x y : Int32} (hc : rg_cp M t) (h : ¬ rg_tw M t x y = -1) : rg_os x y := by
  apply Decidable.byContradiction
  intro q
  apply h
  unfold rg_tw
  rw [if_neg (fun z => hc.1 (by rw [z]; decide)), if_pos hc, if_neg q]
/-- the faults of a row of words as the link j by the poet po: their causes -/
def rg_cq (M : rg_Mem) (w : Nat → Int32) (n j sp : Nat) (po : Int32) : Nat → Int32
  | 1 => if rg_sm (M.1 2) w n = (if nI j &&& 1 = 0 then M.1 6 2 else M.1 6 3) then -1 else rg_sm (M.1 2) w n
  | 2 => rg_ff (fun k => decide (¬ M.1 3 (w k).toNatClampNeg = -1 ∧ ¬ M.1 3 (w k).toNatClampNeg = rg_fi (M.1 3) w n)) n 0
  | 3 => rg_ff (rg_ag (rg_ra (rg_cwd M j) sp) w) n 0
  | 4 => if po = (if 1 ≤ j then M.1 9 (j - 1) else -1) then po else -1
  | 5 => if j = 0 ∨ (¬ (rg_og (M.1 4) w n &&& M.1 (17 + 2 * (j - 1)) 4) &&& 255 = 0 ∨ rg_ex (fun k => decide (¬ M.2 5 (w k).toNatClampNeg &&& M.2 (17 + 2 * (j - 1)) 5 = 0)) n 0 = true) then -1 else nI j - 1
  | 6 => rg_ff (rg_lw (rg_og (M.1 4) w n &&& (if 2 ≤ j then M.1 (17 + 2 * (j - 2)) 4 else 0))) 8 0
  | 7 => rg_wrs M (rg_fi (M.1 3) w n) j
  | _ => rg_wst (rg_og (M.1 4) w n) (if j < 36 then M.1 7 j else 0)
theorem rg_co_cq {M : rg_Mem} {v n j sp : Nat} {po : Int32} (h : rg_VS M v n) : rg_co M v n j sp po = rg_cq M (M.1 (v + 1)) n j sp po := by
  obtain ⟨_, _, _, h4, h5, h7, _⟩ := h
  funext t
  unfold rg_co rg_cq rg_mx rg_jn rg_jc
  first
  | (rw [h4, h5, h7]; done)
  | (rw [h4, h5, h7]; rfl)
/-- enters a number for the poet j -/
def rg_en (M : rg_Mem) (j : Nat) (x : Int32) : rg_Mem := rg_I (rg_I M 95 j (M.1 95 j + x)) 96 j (M.1 96 j + 1)
theorem rg_en_off {M : rg_Mem} {j : Nat} {x : Int32} {c : Nat} (h1 : c ≠ 95) (h2 : c ≠ 96) : (rg_en M j x).1 c = M.1 c := by
  unfold rg_en
  rw [rg_I_cell h2, rg_I_cell h1]
def rg_pj (M : rg_Mem) (i : Nat) : Nat → rg_Mem → rg_Mem
  | 0, X => X
  | k + 1, X => if M.1 (13 + k) i = -1 then rg_pj M i k X else rg_en (rg_pj M i k X) (M.1 9 i).toNatClampNeg (M.1 (13 + k) i)
def rg_pl (M : rg_Mem) : Nat → rg_Mem
  | 0 => rg_mz M 6
  | i + 1 => rg_pj M i 4 (rg_pl M i)
theorem rg_pj_off {M X : rg_Mem} {i : Nat} : ∀ (k : Nat) {c : Nat}, c ≠ 95 → c ≠ 96 → (rg_pj M i k X).1 c = X.1 c ∧ (rg_pj M i k X).2 = X.2
  | 0, _, _, _ => ⟨rfl, rfl⟩
  | k + 1, c, h1, h2 => by
    have ih := rg_pj_off (M := M) (X := X) (i := i) k h1 h2
    unfold rg_pj
    split
    · exact ih
    · exact ⟨(rg_en_off h1 h2).trans ih.1, ih.2⟩
theorem rg_mz_off {M : rg_Mem} {i c : Nat} (h1 : c ≠ 95) (h2 : c ≠ 96) : (rg_mz M i).1 c = M.1 c := by
  funext k
  simp [rg_mz, h1, h2]
theorem rg_pl_off {M : rg_Mem} : ∀ (i : Nat) {c : Nat}, c ≠ 95 → c ≠ 96 → (rg_pl M i).1 c = M.1 c ∧ (rg_pl M i).2 = M.2
  | 0, _, h1, h2 => ⟨rg_mz_off h1 h2, rfl⟩
  | i + 1, c, h1, h2 => by
    have ih := rg_pl_off (M := M) i h1 h2
    have h3 := rg_pj_off (M := M) (X := rg_pl M i) (i := i) 4 h1 h2
    exact ⟨h3.1.trans ih.1, h3.2.trans ih.2⟩
/-- how many bits: the sums that the library makes -/
def rg_bc64 (x : Int64) : Int32 :=
  let x1 := x - ((x.toUInt64 >>> ((1 : Int32).toInt64.toUInt64 &&& Int64.toUInt64 63)).toInt64 &&& 6148914691236517205)
  let x2 := (x1 &&& 3689348814741910323) + ((x1.toUInt64 >>> ((2 : Int32).toInt64.toUInt64 &&& Int64.toUInt64 63)).toInt64 &&& 3689348814741910323)
  let x3 := (x2 + (x2.toUInt64 >>> ((4 : Int32).toInt64.toUInt64 &&& Int64.toUInt64 63)).toInt64) &&& 1085102592571150095
  let x4 := x3 + (x3.toUInt64 >>> ((8 : Int32).toInt64.toUInt64 &&& Int64.toUInt64 63)).toInt64
  let x5 := x4 + (x4.toUInt64 >>> ((16 : Int32).toInt64.toUInt64 &&& Int64.toUInt64 63)).toInt64
  let x6 := x5 + (x5.toUInt64 >>> ((32 : Int32).toInt64.toUInt64 &&& Int64.toUInt64 63)).toInt64
  x6.toInt32 &&& 127
def rg_bc32 (x : Int32) : Int32 :=
  let x1 := x - ((x.toUInt32 >>> ((1 : Int32).toUInt32 &&& Int32.toUInt32 31)).toInt32 &&& 1431655765)
  let x2 := (x1 &&& 858993459) + ((x1.toUInt32 >>> ((2 : Int32).toUInt32 &&& Int32.toUInt32 31)).toInt32 &&& 858993459)
  let x3 := (x2 + (x2.toUInt32 >>> ((4 : Int32).toUInt32 &&& Int32.toUInt32 31)).toInt32) &&& 252645135
  let x4 := x3 + (x3.toUInt32 >>> ((8 : Int32).toUInt32 &&& Int32.toUInt32 31)).toInt32
  let x5 := x4 + (x4.toUInt32 >>> ((16 : Int32).toUInt32 &&& Int32.toUInt32 31)).toInt32
  x5 &&& 63
/-- how like two links are -/
def rg_lk (M : rg_Mem) (a b : Nat) : Int32 := 3 * rg_bc64 (M.2 (17 + 2 * a) 5 &&& M.2 (17 + 2 * b) 5) + rg_bc32 (M.1 (17 + 2 * a) 4 &&& M.1 (17 + 2 * b) 4)
def rg_hd (M : rg_Mem) (a : Nat) : Nat → rg_Mem
  | 0 => rg_mz M 6
  | i + 1 => if i = a ∨ ¬ M.1 10 i = 0 then rg_hd M a i else rg_en (rg_hd M a i) (M.1 9 i).toNatClampNeg (rg_lk M a i)
theorem rg_hd_off {M : rg_Mem} {a : Nat} : ∀ (i : Nat) {c : Nat}, c ≠ 95 → c ≠ 96 → (rg_hd M a i).1 c = M.1 c ∧ (rg_hd M a i).2 = M.2
  | 0, _, h1, h2 => ⟨rg_mz_off h1 h2, rfl⟩
  | i + 1, c, h1, h2 => by
    have ih := rg_hd_off (M := M) (a := a) i h1 h2
    unfold rg_hd
    split
    · exact ih
    · exact ⟨(rg_en_off h1 h2).trans ih.1, ih.2⟩
theorem rg_CI_mean {M M' : rg_Mem} (h : rg_CI M) (e : ∀ c, c ≠ 95 → c ≠ 96 → M'.1 c = M.1 c ∧ M'.2 = M.2) : rg_CI M' := by
  have f : ∀ c, c ≠ 95 → c ≠ 96 → M'.1 c = M.1 c := fun c h1 h2 => (e c h1 h2).1
  have f2 : M'.2 = M.2 := (e 0 (by omega) (by omega)).2
  have vs : ∀ v, v ≠ 95 → v ≠ 96 → v + 1 ≠ 95 → v + 1 ≠ 96 → rg_VS M v (rg_sz M v) → rg_VS M' v (rg_sz M' v) := by
    intro v a1 a2 a3 a4 g
    unfold rg_VS rg_sz rg_has
    rw [f v a1 a2, f (v + 1) a3 a4, f2, f 1 (by omega) (by omega), f 2 (by omega) (by omega), f 3 (by omega) (by omega), f 4 (by omega) (by omega)]
    exact g
  have k1 : rg_nl M' = rg_nl M := by unfold rg_nl; rw [f 6 (by omega) (by omega)]
  have k2 : rg_no M' = rg_no M := by unfold rg_no; rw [f 0 (by omega) (by omega)]
  have k3 : rg_np M' = rg_np M := by unfold rg_np; rw [f 0 (by omega) (by omega)]
  have k4 : rg_nw M' = rg_nw M := by unfold rg_nw; rw [f 1 (by omega) (by omega)]
  have k5 : rg_nt M' = rg_nt M := by unfold rg_nt; rw [f 6 (by omega) (by omega)]
  have k6 : rg_nc M' = rg_nc M := by unfold rg_nc; rw [f 0 (by omega) (by omega)]
  have k7 : rg_sp M' = rg_sp M := by unfold rg_sp; rw [f 6 (by omega) (by omega)]
  have hl := (rg_CI_l h).2
  have ho := (rg_CI_o h).2
  unfold rg_CI
  rw [k1, k2, k3, k4, k5, k6, k7, f 0 (by omega) (by omega), f 1 (by omega) (by omega), f 6 (by omega) (by omega), f 9 (by omega) (by omega), f 97 (by omega) (by omega), f 10 (by omega) (by omega), f 11 (by omega) (by omega)]
  exact ⟨h.1, h.2.1, h.2.2.1, h.2.2.2.1, h.2.2.2.2.1, h.2.2.2.2.2.1, h.2.2.2.2.2.2.1, vs 90 (by omega) (by omega) (by omega) (by omega) (rg_CI_d h), fun k hk => vs _ (by omega) (by omega) (by omega) (by omega) (rg_CI_v h k hk), fun k hk => vs _ (by omega) (by omega) (by omega) (by omega) (rg_CI_vo h k hk), rg_CI_m h, rg_CI_mo h, rg_CI_h h⟩
