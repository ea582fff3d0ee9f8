/-! sums -/
def rg_sg (f : Nat → Int32) : Nat → Int32
  | 0 => 0
  | k + 1 => rg_sg f k + f k
theorem rg_sg_c {f g : Nat → Int32} : ∀ n, (∀ i, i < n → f i = g i) → rg_sg f n = rg_sg g n
  | 0, _ => rfl
  | n + 1, h => by rw [rg_sg, rg_sg, rg_sg_c n (fun i hi => h i (by omega)), h n (by omega)]
theorem rg_sg_0 {f : Nat → Int32} : ∀ n, (∀ i, i < n → f i = 0) → rg_sg f n = 0
  | 0, _ => rfl
  | n + 1, h => by rw [rg_sg, rg_sg_0 n (fun i hi => h i (by omega)), h n (by omega), Int32.zero_add]
theorem rg_sg_ap {f : Nat → Int32} {a : Nat} : ∀ b, rg_sg f (a + b) = rg_sg f a + rg_sg (fun i => f (a + i)) b
  | 0 => by rw [Nat.add_zero, rg_sg, Int32.add_zero]
  | b + 1 => by rw [← Nat.add_assoc, rg_sg, rg_sg, rg_sg_ap b, Int32.add_assoc]
theorem rg_sg_z {f : Nat → Int32} {n m : Nat} (hn : n ≤ m) (h : ∀ i, n ≤ i → i < m → f i = 0) : rg_sg f m = rg_sg f n := by
  obtain ⟨k, rfl⟩ : ∃ k, m = n + k := ⟨m - n, by omega⟩
  rw [rg_sg_ap, rg_sg_0 k (fun i hi => h (n + i) (by omega) (by omega)), Int32.add_zero]
theorem rg_sg_add {f g : Nat → Int32} : ∀ n, rg_sg (fun i => f i + g i) n = rg_sg f n + rg_sg g n
  | 0 => rfl
  | n + 1 => by
    rw [rg_sg, rg_sg, rg_sg, rg_sg_add n]
    rw [Int32.add_assoc, Int32.add_assoc, ← Int32.add_assoc (rg_sg g n), ← Int32.add_assoc (f n), Int32.add_comm (rg_sg g n) (f n)]
theorem rg_sg_40 {f : Nat → Int32} : rg_sg f 40 = rg_sg (fun i => rg_sg (fun j => f (10 * j + i)) 4) 10 := by
  have e1 : rg_sg f 40 = rg_sg f 10 + rg_sg (fun i => f (10 + i)) 10 + rg_sg (fun i => f (20 + i)) 10 + rg_sg (fun i => f (30 + i)) 10 := by
    rw [show 40 = 30 + 10 from rfl, rg_sg_ap, show 30 = 20 + 10 from rfl, rg_sg_ap, show 20 = 10 + 10 from rfl, rg_sg_ap]
  rw [e1, ← rg_sg_add, ← rg_sg_add, ← rg_sg_add]
  refine rg_sg_c 10 (fun i _ => ?_)
  show f i + f (10 + i) + f (20 + i) + f (30 + i) = 0 + f (10 * 0 + i) + f (10 * 1 + i) + f (10 * 2 + i) + f (10 * 3 + i)
  rw [Int32.zero_add, show 10 * 0 + i = i by omega]
theorem rg_en_95 {X : rg_Mem} {j p : Nat} {x : Int32} : (rg_en X j x).1 95 p = X.1 95 p + (if j = p then x else 0) := by
  unfold rg_en
  rw [rg_I_cell (by omega)]
  show (if 95 = 95 ∧ p = j then X.1 95 j + x else X.1 95 p) = _
  by_cases h : j = p
  · rw [if_pos ⟨rfl, h.symm⟩, if_pos h, h]
  · rw [if_neg (fun q => h q.2.symm), if_neg h, Int32.add_zero]
theorem rg_en_96 {X : rg_Mem} {j p : Nat} {x : Int32} : (rg_en X j x).1 96 p = X.1 96 p + (if j = p then 1 else 0) := by
  unfold rg_en
  have e : (rg_I X 95 j (X.1 95 j + x)).1 96 = X.1 96 := rg_I_cell (by omega)
  show (if 96 = 96 ∧ p = j then X.1 96 j + 1 else (rg_I X 95 j (X.1 95 j + x)).1 96 p) = _
  rw [e]
  by_cases h : j = p
  · rw [if_pos ⟨rfl, h.symm⟩, if_pos h, h]
  · rw [if_neg (fun q => h q.2.symm), if_neg h, Int32.add_zero]
def rg_g5 (M : rg_Mem) (p i : Nat) : Nat → Int32 := fun j => if M.1 (13 + j) i = -1 then 0 else if (M.1 9 i).toNatClampNeg = p then M.1 (13 + j) i else 0
def rg_g6 (M : rg_Mem) (p i : Nat) : Nat → Int32 := fun j => if M.1 (13 + j) i = -1 then 0 else if (M.1 9 i).toNatClampNeg = p then 1 else 0
theorem rg_pj_s {M X : rg_Mem} {i p : Nat} : ∀ k, (rg_pj M i k X).1 95 p = X.1 95 p + rg_sg (rg_g5 M p i) k ∧ (rg_pj M i k X).1 96 p = X.1 96 p + rg_sg (rg_g6 M p i) k
  | 0 => ⟨(Int32.add_zero _).symm, (Int32.add_zero _).symm⟩
  | k + 1 => by
    have ih := rg_pj_s (M := M) (X := X) (i := i) (p := p) k
    unfold rg_pj
    rw [rg_sg, rg_sg, ← Int32.add_assoc, ← Int32.add_assoc, ← ih.1, ← ih.2]
    unfold rg_g5 rg_g6
    by_cases c : M.1 (13 + k) i = -1
    · simp only [if_pos c, Int32.add_zero, and_self]
    · simp only [if_neg c]
      exact ⟨rg_en_95, rg_en_96⟩
theorem rg_pl_s {M : rg_Mem} {p : Nat} (hp : p < 6) : ∀ i, (rg_pl M i).1 95 p = rg_sg (fun i => rg_sg (rg_g5 M p i) 4) i ∧ (rg_pl M i).1 96 p = rg_sg (fun i => rg_sg (rg_g6 M p i) 4) i
  | 0 => by
    show (if (95 = 95 ∨ 95 = 96) ∧ p < 6 then (0 : Int32) else _) = 0 ∧ (if (96 = 95 ∨ 96 = 96) ∧ p < 6 then (0 : Int32) else _) = 0
    rw [if_pos ⟨Or.inl rfl, hp⟩, if_pos ⟨Or.inr rfl, hp⟩]
    exact ⟨rfl, rfl⟩
  | i + 1 => by
    have ih := rg_pl_s (M := M) hp i
    unfold rg_pl
    rw [rg_sg, rg_sg, (rg_pj_s 4).1, (rg_pj_s 4).2, ih.1, ih.2]
    exact ⟨rfl, rfl⟩
theorem rg_gr_c {s c s' c' : Nat → Int32} : ∀ n, n ≤ 100 → (∀ p, p < n → s' p = s p ∧ c' p = c p) → rg_gr s' c' n = rg_gr s c n
  | 0, _, _ => rfl
  | n + 1, hn, h => by
    have ih := rg_gr_c n (by omega) (fun p hp => h p (by omega))
    have e := h n (by omega)
    rw [rg_gr, rg_gr, ih, e.1, e.2]
    rcases rg_gr_in (s := s) (c := c) n with q | ⟨j, hj, q⟩
    · simp only [q, true_or]
    · have ej := h j (by omega)
      rw [q, nI_clamp (by omega), ej.1, ej.2]
theorem rg_gr_z {s c : Nat → Int32} {n : Nat} : ∀ m, (∀ p, n ≤ p → p < n + m → c p ≤ 0) → rg_gr s c (n + m) = rg_gr s c n
  | 0, _ => rfl
  | m + 1, h => by
    rw [← Nat.add_assoc, rg_gr, if_neg (fun q => q.1 (h (n + m) (by omega) (by omega))), rg_gr_z m (fun p h1 h2 => h p h1 (by omega))]
theorem lw_sm_sg {f : Nat → Int32} : ∀ n, lw_sm f n = rg_sg f n
  | 0 => rfl
  | n + 1 => by rw [lw_sm, rg_sg, lw_sm_sg n]
theorem rp_sg_in {f : Nat → Int32} {K : Nat} : ∀ n, (∀ i, i < n → ∃ v, v ≤ K ∧ f i = nI v) → ∃ v, v ≤ K * n ∧ rg_sg f n = nI v
  | 0, _ => ⟨0, by omega, rfl⟩
  | n + 1, h => by
    obtain ⟨a, h1, h2⟩ := rp_sg_in (f := f) (K := K) n (fun i hi => h i (by omega))
    obtain ⟨b, h3, h4⟩ := h n (by omega)
    exact ⟨a + b, by rw [Nat.mul_succ]; omega, by rw [rg_sg, h2, h4, nI_add]⟩
/-! the best of the means, from below and from above -/
def rp_bst (s c : Nat → Nat) (lo hi p : Nat) : Prop := lo ≤ p ∧ p < hi ∧ 0 < c p ∧ ∀ q, lo ≤ q → q < hi → 0 < c q → s q * c p ≤ s p * c q ∧ (q < p → s q * c p < s p * c q)
theorem rp_ar1 {sq cq sp cp sk ck : Nat} (h1 : sq * cp ≤ sp * cq) (h2 : sp * ck < sk * cp) (hp : 0 < cp) (hq : 0 < cq) : sq * ck < sk * cq := by
  apply Nat.lt_of_mul_lt_mul_right (a := cp)
  calc sq * ck * cp = sq * cp * ck := Nat.mul_right_comm _ _ _
    _ ≤ sp * cq * ck := Nat.mul_le_mul_right _ h1
    _ = sp * ck * cq := Nat.mul_right_comm _ _ _
    _ < sk * cp * cq := Nat.mul_lt_mul_of_pos_right h2 hq
    _ = sk * cq * cp := Nat.mul_right_comm _ _ _
theorem rp_ar2 {sq cq sp cp sk ck : Nat} (h1 : sq * cp ≤ sp * cq) (h2 : sp * ck ≤ sk * cp) (hp : 0 < cp) : sq * ck ≤ sk * cq := by
  refine Nat.le_of_mul_le_mul_right (c := cp) ?_ hp
  calc sq * ck * cp = sq * cp * ck := Nat.mul_right_comm _ _ _
    _ ≤ sp * cq * ck := Nat.mul_le_mul_right _ h1
    _ = sp * ck * cq := Nat.mul_right_comm _ _ _
    _ ≤ sk * cp * cq := Nat.mul_le_mul_right _ h2
    _ = sk * cq * cp := Nat.mul_right_comm _ _ _
theorem rp_bst_u {s c : Nat → Nat} {lo hi p q : Nat} (hp : rp_bst s c lo hi p) (hq : rp_bst s c lo hi q) : p = q := by
  rcases Nat.lt_trichotomy p q with w | w | w
  · have h1 := (hq.2.2.2 p hp.1 hp.2.1 hp.2.2.1).2 w
    have h2 := (hp.2.2.2 q hq.1 hq.2.1 hq.2.2.1).1
    omega
  · exact w
  · have h1 := (hp.2.2.2 q hq.1 hq.2.1 hq.2.2.1).2 w
    have h2 := (hq.2.2.2 p hp.1 hp.2.1 hp.2.2.1).1
    omega
theorem lw_nltB {a b : Nat} (ha : a < 2 ^ 31) (hb : b < 2 ^ 31) : nI a < nI b ↔ a < b := by
  rw [rg_lt, nI_toInt ha, nI_toInt hb]
  omega
theorem lw_nleB {a b : Nat} (ha : a < 2 ^ 31) (hb : b < 2 ^ 31) : nI a ≤ nI b ↔ a ≤ b := by
  rw [rg_le, nI_toInt ha, nI_toInt hb]
  omega
section BST
variable {s c : Nat → Nat} {S C : Nat → Int32} {N : Nat}
theorem rp_mlt {a b : Nat} (ha : a ≤ 2000) (hb : b ≤ 100) : a * b < 2 ^ 31 := by
  have : a * b ≤ 2000 * 100 := Nat.mul_le_mul ha hb
  omega
theorem rp_gr_b (h : ∀ p, p < N → S p = nI (s p) ∧ C p = nI (c p) ∧ s p ≤ 2000 ∧ c p ≤ 100) (hN : N ≤ 100) : ∀ k, k ≤ N → (rg_gr S C k = -1 ∧ ∀ q, q < k → c q = 0) ∨ ∃ p, rg_gr S C k = nI p ∧ rp_bst s c 0 k p
  | 0, _ => Or.inl ⟨rfl, fun q hq => absurd hq (by omega)⟩
  | k + 1, hk => by
    obtain ⟨e1, e2, e3, e4⟩ := h k (by omega)
    have z0 : nI (c k) ≤ 0 ↔ c k = 0 := lw_le0 (by omega)
    rw [rg_gr, e1, e2]
    simp only [z0]
    rcases rp_gr_b h hN k (by omega) with ⟨i1, i2⟩ | ⟨p, i1, i2⟩
    · by_cases d : c k = 0
      · rw [if_neg (fun q => q.1 (by omega))]
        exact Or.inl ⟨i1, fun q hq => by
          by_cases z : q = k
          · rw [z]; exact d
          · exact i2 q (by omega)⟩
      · rw [if_pos ⟨by omega, Or.inl i1⟩]
        refine Or.inr ⟨k, rfl, by omega, by omega, by omega, fun q _ hq h0 => ?_⟩
        by_cases z : q = k
        · subst z; exact ⟨Nat.le_refl _, fun y => by omega⟩
        · have := i2 q (by omega); omega
    · have hp := i2.2.1
      obtain ⟨f1, f2, f3, f4⟩ := h p (by omega)
      have z1 := lw_nleB (rp_mlt e3 f4) (rp_mlt f3 e4)
      rw [i1, nI_clamp (by omega), f1, f2, lw_mul, lw_mul]
      simp only [z1]
      by_cases d : 0 < c k ∧ s p * c k < s k * c p
      · rw [if_pos ⟨by omega, Or.inr (by omega)⟩]
        refine Or.inr ⟨k, rfl, by omega, by omega, d.1, fun q _ hq h0 => ?_⟩
        by_cases z : q = k
        · subst z; exact ⟨Nat.le_refl _, fun y => by omega⟩
        · have := rp_ar1 (i2.2.2.2 q (by omega) (by omega) h0).1 d.2 i2.2.2.1 h0
          exact ⟨by omega, fun _ => this⟩
      · rw [if_neg (fun q => d ⟨by omega, by
          rcases q.2 with z | z
          · exact absurd z (rg_nIm (by omega))
          · omega⟩)]
        refine Or.inr ⟨p, rfl, by omega, by omega, i2.2.2.1, fun q _ hq h0 => ?_⟩
        by_cases z : q = k
        · subst z
          exact ⟨by
            rcases Nat.lt_or_ge (s p * c q) (s q * c p) with y | y
            · exact absurd ⟨h0, y⟩ d
            · exact y, fun y => by omega⟩
        · exact i2.2.2.2 q (by omega) (by omega) h0
theorem rp_bz_b (h : ∀ p, p < N → S p = nI (s p) ∧ C p = nI (c p) ∧ s p ≤ 2000 ∧ c p ≤ 100) (hN : N ≤ 100) : ∀ f i, i + f = N → (lw_bz S C f i = (-1, 0, 1) ∧ ∀ q, i ≤ q → q < N → c q = 0) ∨ ∃ p, lw_bz S C f i = (nI p, S p, C p) ∧ rp_bst s c i N p
  | 0, i, hi => Or.inl ⟨rfl, fun q h1 h2 => by omega⟩
  | f + 1, i, hi => by
    obtain ⟨e1, e2, e3, e4⟩ := h i (by omega)
    rw [lw_bz]
    rcases rp_bz_b h hN f (i + 1) (by omega) with ⟨i1, i2⟩ | ⟨p, i1, i2⟩
    · rw [i1]
      unfold lw_bs
      have z0 : nI (c i) ≤ 0 ↔ c i = 0 := lw_le0 (by omega)
      rw [e1, e2]
      simp only [z0]
      by_cases d : c i = 0
      · rw [if_neg (fun q => q.1 (by omega))]
        exact Or.inl ⟨rfl, fun q h1 h2 => by
          by_cases z : q = i
          · rw [z]; exact d
          · exact i2 q (by omega) h2⟩
      · rw [if_pos ⟨by omega, Or.inl (by decide)⟩]
        refine Or.inr ⟨i, by rw [e1, e2], by omega, by omega, by omega, fun q h1 hq h0 => ?_⟩
        by_cases z : q = i
        · subst z; exact ⟨Nat.le_refl _, fun y => by omega⟩
        · have := i2 q (by omega) hq; omega
    · have hp := i2.2.1
      obtain ⟨f1, f2, f3, f4⟩ := h p (by omega)
      rw [i1]
      unfold lw_bs
      dsimp only
      have z0 : nI (c i) ≤ 0 ↔ c i = 0 := lw_le0 (by omega)
      have z1 := lw_nltB (rp_mlt e3 f4) (rp_mlt f3 e4)
      rw [e1, e2, f1, f2, lw_mul, lw_mul]
      simp only [z0, z1]
      by_cases d : 0 < c i ∧ s p * c i ≤ s i * c p
      · rw [if_pos ⟨by omega, Or.inr (by omega)⟩]
        refine Or.inr ⟨i, by rw [e1, e2], by omega, by omega, d.1, fun q h1 hq h0 => ?_⟩
        by_cases z : q = i
        · subst z; exact ⟨Nat.le_refl _, fun y => by omega⟩
        · exact ⟨rp_ar2 (i2.2.2.2 q (by omega) hq h0).1 d.2 i2.2.2.1, fun y => by omega⟩
      · rw [if_neg (fun q => d ⟨by omega, by
          rcases q.2 with z | z
          · exact absurd z (nI_pos (by omega))
          · omega⟩)]
        refine Or.inr ⟨p, by rw [f1, f2], by have := i2.1; omega, hp, i2.2.2.1, fun q h1 hq h0 => ?_⟩
        by_cases z : q = i
        · subst z
          have y : s q * c p < s p * c q := by
            rcases Nat.lt_or_ge (s q * c p) (s p * c q) with y | y
            · exact y
            · exact absurd ⟨h0, y⟩ d
          exact ⟨by omega, fun _ => y⟩
        · exact i2.2.2.2 q (by omega) hq h0
theorem rp_best (h : ∀ p, p < N → S p = nI (s p) ∧ C p = nI (c p) ∧ s p ≤ 2000 ∧ c p ≤ 100) (hN : N ≤ 100) : (lw_bz S C N 0).1 = rg_gr S C N := by
  rcases rp_gr_b h hN N (Nat.le_refl _) with ⟨i1, i2⟩ | ⟨p, i1, i2⟩
  · rcases rp_bz_b h hN N 0 (by omega) with ⟨j1, _⟩ | ⟨q, _, j2⟩
    · rw [i1, j1]
    · have := i2 q j2.2.1
      have := j2.2.2.1
      omega
  · rcases rp_bz_b h hN N 0 (by omega) with ⟨_, j2⟩ | ⟨q, j1, j2⟩
    · have := j2 p (by omega) i2.2.1
      have := i2.2.2.1
      omega
    · rw [i1, j1, rp_bst_u i2 j2]
end BST
/-- prize -/
theorem rp_ps {M : rg_Mem} (h : rp_Inv M) {p : Nat} (hp : p < 6) : (rg_pl M (rg_nl M)).1 95 p = lw_sm (lw_ps M p) 40 ∧ (rg_pl M (rg_nl M)).1 96 p = lw_sm (lw_pc M p) 40 := by
  have hl := rp_nl h
  rw [lw_sm_sg, lw_sm_sg, rg_sg_40, rg_sg_40, (rg_pl_s hp _).1, (rg_pl_s hp _).2]
  rw [rg_sg_z (n := rg_nl M) (m := 10) (by omega) (fun i h1 h2 => rg_sg_0 4 (fun g hg => by
    show lw_ps M p (10 * g + i) = 0
    refine if_neg (fun q => q.1 ?_)
    rw [(rp_q h g hg i h2).2 h1]
    decide)), rg_sg_z (n := rg_nl M) (m := 10) (by omega) (fun i h1 h2 => rg_sg_0 4 (fun g hg => by
    show lw_pc M p (10 * g + i) = 0
    refine if_neg (fun q => q.1 ?_)
    rw [(rp_q h g hg i h2).2 h1]
    decide))]
  have key : ∀ i, i < rg_nl M → ∀ g, g < 4 → rg_g5 M p i g = lw_ps M p (10 * g + i) ∧ rg_g6 M p i g = lw_pc M p (10 * g + i) := by
    intro i hi g hg
    obtain ⟨v, hv, e1, e2⟩ := (rp_q h g hg i (by omega)).1 hi
    obtain ⟨mk, hmk, e3⟩ := rg_CI_m (rp_ci h) i hi
    have hnp := (rg_CI_p (rp_ci h)).2
    unfold rg_g5 rg_g6 lw_ps lw_pc
    rw [show (10 * g + i) % 10 = i by omega, ((rp_l h i (by omega)).2.1 hi).1, e1, e2, e3, nI_clamp (by omega)]
    have z0 : nI v ≤ 0 ↔ v = 0 := lw_le0 (by omega)
    have z1 : nI mk = nI p ↔ mk = p := nI_eq (by omega) (by omega)
    simp only [z0, z1]
    by_cases c : v = 0
    · subst c
      rw [if_pos (show nI 0 - 1 = -1 by decide), if_pos (show nI 0 - 1 = -1 by decide), if_neg (fun q => q.1 rfl), if_neg (fun q => q.1 rfl)]
      exact ⟨rfl, rfl⟩
    · have hv1 : ¬ nI v - 1 = -1 := by rw [lw_sub1 (by omega)]; exact rg_nIm (by omega)
      by_cases d : mk = p
      · simp [hv1, c, d]
      · simp [hv1, c, d]
  exact ⟨rg_sg_c _ (fun i hi => rg_sg_c 4 (fun g hg => (key i hi g hg).1)), rg_sg_c _ (fun i hi => rg_sg_c 4 (fun g hg => (key i hi g hg).2))⟩
theorem rp_ps_in {M : rg_Mem} (h : rp_Inv M) (p : Nat) : (∃ v, v ≤ 2000 ∧ lw_sm (lw_ps M p) 40 = nI v) ∧ ∃ v, v ≤ 100 ∧ lw_sm (lw_pc M p) 40 = nI v := by
  have key : ∀ k, k < 40 → ∃ v, v ≤ 11 ∧ M.1 416 k = nI v := fun k hk => by
    by_cases c : k % 10 < rg_nl M
    · obtain ⟨v, h1, h2, _⟩ := (rp_q h (k / 10) (by omega) (k % 10) (by omega)).1 c
      rw [show 10 * (k / 10) + k % 10 = k by omega] at h2
      exact ⟨v, h1, h2⟩
    · have := (rp_q h (k / 10) (by omega) (k % 10) (by omega)).2 (by omega)
      rw [show 10 * (k / 10) + k % 10 = k by omega] at this
      exact ⟨0, by omega, this⟩
  rw [lw_sm_sg, lw_sm_sg]
  obtain ⟨a, h1, h2⟩ := rp_sg_in (f := lw_ps M p) (K := 11) 40 (fun k hk => by
    obtain ⟨v, hv, e⟩ := key k hk
    unfold lw_ps
    by_cases c : ¬ M.1 416 k ≤ 0 ∧ M.1 415 (4 * (k % 10)) = nI p
    · rw [if_pos c, e, lw_sub1 (by
        rcases Nat.eq_zero_or_pos v with z | z
        · rw [z] at e; rw [e] at c; exact absurd (by decide) c.1
        · exact z)]
      exact ⟨v - 1, by omega, rfl⟩
    · rw [if_neg c]; exact ⟨0, by omega, rfl⟩)
  obtain ⟨b, h3, h4⟩ := rp_sg_in (f := lw_pc M p) (K := 1) 40 (fun k hk => by
    unfold lw_pc
    split
    · exact ⟨1, by omega, rfl⟩
    · exact ⟨0, by omega, rfl⟩)
  exact ⟨⟨a, by omega, h2⟩, ⟨b, by omega, h4⟩⟩
theorem rp_prize {M : rg_Mem} (h : rp_Inv M) : rg_gr ((rg_pl M (rg_nl M)).1 95) ((rg_pl M (rg_nl M)).1 96) 6 = (lw_pz M (3 - 0) 0).1 := by
  have hl := rp_nl h
  rw [rg_gr_c 6 (by omega) (fun p hp => rp_ps h hp)]
  have hz : ∀ p, 3 ≤ p → p < 3 + 3 → lw_sm (lw_pc M p) 40 ≤ 0 := fun p h1 h2 => by
    rw [← (rp_ps h (p := p) (by omega)).2, (rg_pl_s (by omega) _).2, rg_sg_0 _ (fun i hi => rg_sg_0 4 (fun g _ => by
      obtain ⟨mk, hmk, e3⟩ := rg_CI_m (rp_ci h) i hi
      have hnp : rg_np M = 3 := by unfold rg_np; rw [(rp_n h).1.2, nI_clamp (by omega)]
      unfold rg_g6
      rw [e3, nI_clamp (by omega), if_neg (by omega : ¬ mk = p)]
      split <;> rfl))]
    decide
  have e := rg_gr_z (s := fun p => lw_sm (lw_ps M p) 40) (c := fun p => lw_sm (lw_pc M p) 40) (n := 3) 3 hz
  rw [show 3 + 3 = 6 from rfl] at e
  rw [e]
  have hp := rp_ps_in h
  refine (rp_best (s := fun p => (lw_sm (lw_ps M p) 40).toNatClampNeg) (c := fun p => (lw_sm (lw_pc M p) 40).toNatClampNeg) (N := 3) (fun p _ => ?_) (by omega)).symm
  obtain ⟨⟨a, h1, h2⟩, ⟨b, h3, h4⟩⟩ := hp p
  show lw_sm (lw_ps M p) 40 = nI (lw_sm (lw_ps M p) 40).toNatClampNeg ∧ lw_sm (lw_pc M p) 40 = nI (lw_sm (lw_pc M p) 40).toNatClampNeg ∧ (lw_sm (lw_ps M p) 40).toNatClampNeg ≤ 2000 ∧ (lw_sm (lw_pc M p) 40).toNatClampNeg ≤ 100
  rw [h2, h4, nI_clamp (by omega), nI_clamp (by omega)]
  exact ⟨rfl, rfl, h1, h3⟩
