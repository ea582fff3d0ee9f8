/-! likeness -/
theorem rc_and {x y : Int64} : (x &&& y).toBitVec.toNat = x.toBitVec.toNat &&& y.toBitVec.toNat := by rw [Int64.toBitVec_and, BitVec.toNat_and]
theorem rc_add {x y : Int64} (h : x.toBitVec.toNat + y.toBitVec.toNat < 2 ^ 64) : (x + y).toBitVec.toNat = x.toBitVec.toNat + y.toBitVec.toNat := by rw [Int64.toBitVec_add, BitVec.toNat_add, Nat.mod_eq_of_lt h]
theorem rc_sub {x y : Int64} (h : y.toBitVec.toNat ≤ x.toBitVec.toNat) : (x - y).toBitVec.toNat = x.toBitVec.toNat - y.toBitVec.toNat := by rw [Int64.toBitVec_sub, BitVec.toNat_sub_of_le h]
theorem rc_shr {x : Int64} {s : Int32} {n : Nat} (h : (UInt64.mod (s.toInt64.toUInt64 &&& Int64.toUInt64 63) 64).toBitVec.toNat = n) : (x.toUInt64 >>> (s.toInt64.toUInt64 &&& Int64.toUInt64 63)).toInt64.toBitVec.toNat = x.toBitVec.toNat / 2 ^ n := by
  show (x.toBitVec >>> (UInt64.mod (s.toInt64.toUInt64 &&& Int64.toUInt64 63) 64).toBitVec).toNat = _
  rw [BitVec.ushiftRight_eq', BitVec.toNat_ushiftRight, h, Nat.shiftRight_eq_div_pow]
theorem rc_bc64 {x : Int64} (hx : x.toBitVec.toNat < 2 ^ 40) : rg_bc64 x = nI (rc_p 40 x.toBitVec.toNat) := by
  unfold rg_bc64
  obtain ⟨X, eX⟩ : ∃ X, X = x.toBitVec.toNat := ⟨_, rfl⟩
  rw [← eX] at hx ⊢
  have m5 : (6148914691236517205 : Int64).toBitVec.toNat = rc_m 85 8 := by decide +kernel
  have m3 : (3689348814741910323 : Int64).toBitVec.toNat = rc_m 51 8 := by decide +kernel
  have mf : (1085102592571150095 : Int64).toBitVec.toNat = rc_m 15 8 := by decide +kernel
  have s1 := rc_shr (x := x) (s := 1) (n := 1) (by decide +kernel)
  have l1 : X / 2 &&& rc_m 85 8 ≤ X := Nat.le_trans Nat.and_le_left (Nat.div_le_self _ _)
  obtain ⟨x1, e1⟩ : ∃ z, z = x - ((x.toUInt64 >>> ((1 : Int32).toInt64.toUInt64 &&& Int64.toUInt64 63)).toInt64 &&& 6148914691236517205) := ⟨_, rfl⟩
  have n1 : x1.toBitVec.toNat = rc_A 8 X := by
    rw [e1, rc_sub (by rw [rc_and, s1, m5, ← eX]; exact l1), rc_and, s1, m5, ← eX]
    rfl
  have b1 : rc_A 8 X < 2 ^ 40 := Nat.lt_of_le_of_lt (Nat.sub_le _ _) hx
  obtain ⟨x2, e2⟩ : ∃ z, z = (x1 &&& 3689348814741910323) + ((x1.toUInt64 >>> ((2 : Int32).toInt64.toUInt64 &&& Int64.toUInt64 63)).toInt64 &&& 3689348814741910323) := ⟨_, rfl⟩
  have s2 := rc_shr (x := x1) (s := 2) (n := 2) (by decide +kernel)
  have l2a : rc_A 8 X &&& rc_m 51 8 ≤ rc_A 8 X := Nat.and_le_left
  have l2b : rc_A 8 X / 2 ^ 2 &&& rc_m 51 8 ≤ rc_A 8 X := Nat.le_trans Nat.and_le_left (Nat.div_le_self _ _)
  have n2 : x2.toBitVec.toNat = rc_B 8 (rc_A 8 X) := by
    rw [e2, rc_add (by rw [rc_and, rc_and, s2, m3, n1]; omega), rc_and, rc_and, s2, m3, n1]
    rfl
  have b2 : rc_B 8 (rc_A 8 X) < 2 ^ 41 := by
    unfold rc_B
    rw [show (4 : Nat) = 2 ^ 2 from rfl]
    omega
  obtain ⟨x3, e3⟩ : ∃ z, z = (x2 + (x2.toUInt64 >>> ((4 : Int32).toInt64.toUInt64 &&& Int64.toUInt64 63)).toInt64) &&& 1085102592571150095 := ⟨_, rfl⟩
  have s3 := rc_shr (x := x2) (s := 4) (n := 4) (by decide +kernel)
  have l3 : rc_B 8 (rc_A 8 X) / 2 ^ 4 ≤ rc_B 8 (rc_A 8 X) := Nat.div_le_self _ _
  have n3 : x3.toBitVec.toNat = rc_F 8 X := by
    rw [e3, rc_and, rc_add (by rw [s3, n2]; omega), s3, mf, n2]
    rfl
  have b3 : rc_F 8 X < 2 ^ 42 := by
    have q : rc_F 8 X ≤ rc_B 8 (rc_A 8 X) + rc_B 8 (rc_A 8 X) / 2 ^ 4 := Nat.and_le_left
    omega
  obtain ⟨x4, e4⟩ : ∃ z, z = x3 + (x3.toUInt64 >>> ((8 : Int32).toInt64.toUInt64 &&& Int64.toUInt64 63)).toInt64 := ⟨_, rfl⟩
  have s4 := rc_shr (x := x3) (s := 8) (n := 8) (by decide +kernel)
  have n4 : x4.toBitVec.toNat = rc_F 8 X + rc_F 8 X / 256 := by
    have l4 : rc_F 8 X / 2 ^ 8 ≤ rc_F 8 X := Nat.div_le_self _ _
    rw [e4, rc_add (by rw [s4, n3]; omega), s4, n3]
  obtain ⟨Y4, eY4⟩ : ∃ z, z = rc_F 8 X + rc_F 8 X / 256 := ⟨_, rfl⟩
  have b4 : Y4 < 2 ^ 43 := by
    have l4 : rc_F 8 X / 256 ≤ rc_F 8 X := Nat.div_le_self _ _
    omega
  rw [← eY4] at n4
  obtain ⟨x5, e5⟩ : ∃ z, z = x4 + (x4.toUInt64 >>> ((16 : Int32).toInt64.toUInt64 &&& Int64.toUInt64 63)).toInt64 := ⟨_, rfl⟩
  have s5 := rc_shr (x := x4) (s := 16) (n := 16) (by decide +kernel)
  have n5 : x5.toBitVec.toNat = Y4 + Y4 / 65536 := by
    have l5 : Y4 / 2 ^ 16 ≤ Y4 := Nat.div_le_self _ _
    rw [e5, rc_add (by rw [s5, n4]; omega), s5, n4]
  obtain ⟨Y5, eY5⟩ : ∃ z, z = Y4 + Y4 / 65536 := ⟨_, rfl⟩
  have b5 : Y5 < 2 ^ 44 := by
    have l5 : Y4 / 65536 ≤ Y4 := Nat.div_le_self _ _
    omega
  rw [← eY5] at n5
  obtain ⟨x6, e6⟩ : ∃ z, z = x5 + (x5.toUInt64 >>> ((32 : Int32).toInt64.toUInt64 &&& Int64.toUInt64 63)).toInt64 := ⟨_, rfl⟩
  have s6 := rc_shr (x := x5) (s := 32) (n := 32) (by decide +kernel)
  have n6 : x6.toBitVec.toNat = Y5 + Y5 / 4294967296 := by
    have l6 : Y5 / 2 ^ 32 ≤ Y5 := Nat.div_le_self _ _
    rw [e6, rc_add (by rw [s6, n5]; omega), s6, n5]
  have r := rc_all hx rfl eY4 eY5
  rw [← n6] at r
  have hfin : (x6.toInt32 &&& 127).toBitVec = (nI (rc_p 40 X)).toBitVec := by
    apply BitVec.eq_of_toNat_eq
    rw [Int32.toBitVec_and, BitVec.toNat_and]
    show (x6.toBitVec.signExtend 32).toNat &&& 127 = (BitVec.ofNat 32 (rc_p 40 X)).toNat
    rw [BitVec.signExtend_eq_setWidth_of_le _ (by decide), BitVec.toNat_setWidth, show (127 : Nat) = 2 ^ 7 - 1 from rfl, Nat.and_two_pow_sub_one_eq_mod, BitVec.toNat_ofNat, ← r.1, Nat.mod_mod_of_dvd _ (by decide)]
    rw [Nat.mod_eq_of_lt (a := x6.toBitVec.toNat % 128) (by omega)]
  have hfin := Int32.toBitVec_inj.mp hfin
  subst e6 e5 e4 e3 e2 e1
  exact hfin

/-! bits, counted from the bottom -/
def rc_n (p : Nat → Bool) : Nat → Nat → Nat
  | 0, _ => 0
  | n + 1, k => (if p k = true then 1 else 0) + rc_n p n (k + 1)
theorem rc_n_p {X : Nat} : ∀ n k, rc_n (fun v => X.testBit v) n k = rc_p n (X / 2 ^ k)
  | 0, _ => rfl
  | n + 1, k => by
    rw [rc_n, rc_p, rc_n_p n (k + 1), Nat.pow_succ, Nat.div_div_eq_div_mul]
    congr 1
    show (if X.testBit k = true then 1 else 0) = _
    rw [Nat.testBit_eq_decide_div_mod_eq]
    rcases Nat.mod_two_eq_zero_or_one (X / 2 ^ k) with q | q <;> simp [q]
theorem rc_n_c {p q : Nat → Bool} : ∀ n k, (∀ i, k ≤ i → i < k + n → p i = q i) → rc_n p n k = rc_n q n k
  | 0, _, _ => rfl
  | n + 1, k, h => by rw [rc_n, rc_n, h k (by omega) (by omega), rc_n_c n (k + 1) (fun i h1 h2 => h i (by omega) (by omega))]
theorem rc_n_0 {p : Nat → Bool} : ∀ n k, (∀ i, k ≤ i → i < k + n → p i = false) → rc_n p n k = 0
  | 0, _, _ => rfl
  | n + 1, k, h => by rw [rc_n, h k (by omega) (by omega), rc_n_0 n (k + 1) (fun i h1 h2 => h i (by omega) (by omega))]; rfl
/-- one place more -/
theorem rc_n_1 {p q : Nat → Bool} {x : Nat} : ∀ n k, k ≤ x → x < k + n → p x = false → q x = true → (∀ i, i ≠ x → q i = p i) → rc_n q n k = rc_n p n k + 1
  | 0, k, h1, h2, _, _, _ => absurd h2 (by omega)
  | n + 1, k, h1, h2, hp, hq, h => by
    rw [rc_n, rc_n]
    by_cases c : k = x
    · subst c
      rw [hp, hq, rc_n_c n (k + 1) (fun i h1 h2 => h i (by omega))]
      simp only [if_true, Bool.false_eq_true, if_false]
      omega
    · rw [h k c, rc_n_1 n (k + 1) (by omega) (by omega) hp hq h]
      omega

theorem rc_n_t {p : Nat → Bool} : ∀ n k, rc_n p (n + 1) k = rc_n p n k + (if p (k + n) = true then 1 else 0)
  | 0, k => by rw [rc_n, rc_n, rc_n, Nat.add_zero, Nat.zero_add, Nat.add_zero]
  | n + 1, k => by rw [rc_n, rc_n_t n (k + 1), rc_n, show k + 1 + n = k + (n + 1) by omega, Nat.add_assoc]
theorem rc_n_o {p : Nat → Bool} {n x : Nat} (hx : x < n) (h : ∀ i, i < n → (p i = true ↔ i = x)) : rc_n p n 0 = 1 := by
  rw [rc_n_c (q := fun i => decide (i = x)) n 0 (fun i _ hi => by rw [Bool.eq_iff_iff, h i (by omega), decide_eq_true_iff]), rc_n_1 (p := fun _ => false) (x := x) n 0 (by omega) (by omega) rfl (decide_eq_true rfl) (fun i hi => decide_eq_false hi), rc_n_0 n 0 (fun _ _ _ => rfl)]
theorem rg_ws_and {w : Nat → Int32} {Y : Int64} {N : Nat} (hN40 : 40 ≤ N) : ∀ n, (∀ k, k < n → ∃ a, a < 40 ∧ w k = nI a) → (∀ i k, i < k → k < n → ¬ w i = w k) → rc_n (fun v => (rg_ws w n &&& Y).toBitVec.getLsbD v) N 0 = rc_n (fun k => Y.toBitVec.getLsbD (w k).toNatClampNeg) n 0
  | 0, _, _ => by
    rw [rc_n]
    refine rc_n_0 N 0 (fun i _ _ => ?_)
    rw [Int64.toBitVec_and, BitVec.getLsbD_and, show (rg_ws w 0).toBitVec = 0#64 from rfl, BitVec.getLsbD_zero, Bool.false_and]
  | n + 1, h, d => by
    obtain ⟨a, ha, hw⟩ := h n (by omega)
    have hN : ∀ k, k < n → ∃ a, a < 40 ∧ w k = nI a := fun k hk => h k (by omega)
    have ih := rg_ws_and (Y := Y) hN40 n hN (fun i k h1 h2 => d i k h1 (by omega))
    have e : ∀ v, (rg_ws w (n + 1) &&& Y).toBitVec.getLsbD v = (((rg_ws w n).toBitVec.getLsbD v || decide (a = v)) && Y.toBitVec.getLsbD v) := fun v => by
      show ((rg_ws w n ||| rg_bit (w n)) &&& Y).toBitVec.getLsbD v = _
      rw [Int64.toBitVec_and, BitVec.getLsbD_and, Int64.toBitVec_or, BitVec.getLsbD_or, hw, (rg_bit_v a ha).1, BitVec.getLsbD_twoPow]
      rw [show decide (a < 64) = true from decide_eq_true (by omega), Bool.true_and]
    have e0 : ∀ v, (rg_ws w n &&& Y).toBitVec.getLsbD v = ((rg_ws w n).toBitVec.getLsbD v && Y.toBitVec.getLsbD v) := fun v => by rw [Int64.toBitVec_and, BitVec.getLsbD_and]
    have hno : (rg_ws w n).toBitVec.getLsbD a = false := by
      apply Bool.eq_false_iff.mpr
      intro q
      obtain ⟨k, hk, ek⟩ := (rg_ws_bit ha n hN).mp q
      exact d k n hk (by omega) (by rw [ek, hw])
    have t := rc_n_t (p := fun k => Y.toBitVec.getLsbD (w k).toNatClampNeg) n 0
    simp only [Nat.zero_add] at t
    rw [t, ← ih, hw, nI_clamp (by omega)]
    by_cases c : Y.toBitVec.getLsbD a = true
    · rw [if_pos c]
      refine rc_n_1 (x := a) N 0 (by omega) (by omega) ?_ ?_ (fun i hi => ?_)
      · show (rg_ws w n &&& Y).toBitVec.getLsbD a = false
        rw [e0, hno, Bool.false_and]
      · show (rg_ws w (n + 1) &&& Y).toBitVec.getLsbD a = true
        rw [e, c, decide_eq_true rfl, Bool.or_true, Bool.and_true]
      · show (rg_ws w (n + 1) &&& Y).toBitVec.getLsbD i = (rg_ws w n &&& Y).toBitVec.getLsbD i
        rw [e, e0, decide_eq_false (fun z => hi z.symm), Bool.or_false]
    · rw [if_neg c, Nat.add_zero]
      refine rc_n_c N 0 (fun i _ _ => ?_)
      show (rg_ws w (n + 1) &&& Y).toBitVec.getLsbD i = (rg_ws w n &&& Y).toBitVec.getLsbD i
      rw [e, e0]
      by_cases z : a = i
      · rw [← z, Bool.eq_false_iff.mpr c, Bool.and_false, Bool.and_false]
      · rw [decide_eq_false z, Bool.or_false]
theorem rg_bc_ws {w : Nat → Int32} {Y : Int64} {n : Nat} (h : ∀ k, k < n → ∃ a, a < 40 ∧ w k = nI a) (d : ∀ i k, i < k → k < n → ¬ w i = w k) : rg_bc64 (rg_ws w n &&& Y) = nI (rc_n (fun k => Y.toBitVec.getLsbD (w k).toNatClampNeg) n 0) := by
  have hlt : (rg_ws w n &&& Y).toBitVec.toNat < 2 ^ 40 := Nat.lt_pow_two_of_testBit _ (fun i hi => by
    rw [BitVec.testBit_toNat, Int64.toBitVec_and, BitVec.getLsbD_and, Bool.eq_false_iff.mpr (rg_ws_hi hi n h), Bool.false_and])
  obtain ⟨N, hN⟩ : ∃ N, N = 40 := ⟨_, rfl⟩
  rw [rc_bc64 hlt, ← hN, ← rg_ws_and (N := N) (by omega) n h d]
  have z := rc_n_p (X := (rg_ws w n &&& Y).toBitVec.toNat) N 0
  rw [Nat.pow_zero, Nat.div_one] at z
  rw [← z, rc_n_c (q := fun v => (rg_ws w n &&& Y).toBitVec.getLsbD v) N 0 (fun i _ _ => BitVec.testBit_toNat _)]
section LK
variable {M : rg_Mem}
theorem rm_l2_n {a b k : Nat} {q : Int32} : ∀ n, rm_l2 M a b k q n = q + nI (3 * rc_n (fun i => decide (M.1 417 (6 * a + k) = M.1 417 (6 * b + i))) n 0)
  | 0 => by
    show q = q + nI 0
    rw [show nI 0 = (0 : Int32) from rfl, Int32.add_zero]
  | n + 1 => by
    rw [rm_l2, rm_l2_n n, rc_n_t, Nat.zero_add, Nat.mul_add, ← nI_add, Int32.add_assoc]
    congr 2
    by_cases c : M.1 417 (6 * a + k) = M.1 417 (6 * b + n)
    · rw [if_pos c, if_pos (decide_eq_true c)]; rfl
    · rw [if_neg c, if_neg (fun z => c (of_decide_eq_true z))]; rfl
theorem rm_l1_n {a b : Nat} {q : Int32} {Y : Nat → Bool} : ∀ n, (∀ k, k < n → rc_n (fun i => decide (M.1 417 (6 * a + k) = M.1 417 (6 * b + i))) (rm_z M b) 0 = if Y k = true then 1 else 0) → rm_l1 M a b q n = q + nI (3 * rc_n Y n 0)
  | 0, _ => by
    show q = q + nI 0
    rw [show nI 0 = (0 : Int32) from rfl, Int32.add_zero]
  | n + 1, h => by rw [rm_l1, rm_l2_n, rm_l1_n n (fun k hk => h k (by omega)), h n (by omega), rc_n_t, Nat.zero_add, Nat.mul_add, ← nI_add, Int32.add_assoc]
theorem rg_bc32_v : ∀ q, q < 1024 → rg_bc32 (nI q) = rm_ls (nI q) 10 := by decide +kernel
theorem rg_og_lt {f w : Nat → Int32} : ∀ n, (∀ k, k < n → ∃ q, q ≤ 1023 ∧ f (w k).toNatClampNeg = nI q) → (rg_og f w n).toBitVec.toNat < 2 ^ 10
  | 0, _ => show (0 : Int32).toBitVec.toNat < 2 ^ 10 by decide
  | n + 1, h => by
    obtain ⟨q, hq, e⟩ := h n (by omega)
    rw [rg_og, Int32.toBitVec_or, BitVec.toNat_or, e]
    refine Nat.or_lt_two_pow (rg_og_lt n (fun k hk => h k (by omega))) ?_
    show (BitVec.ofNat 32 q).toNat < 2 ^ 10
    rw [BitVec.toNat_ofNat, Nat.mod_eq_of_lt (by omega)]
    omega
theorem rg_lk_i (h : rg_Inv M) {a b : Nat} (ha : a < rg_nl M) (hb : b < rg_nl M) : rg_lk M a b = rm_lk M a b := by
  have hI := rg_Inv_ci h
  have hv := (rg_Inv_v h).2.1
  have fa := hv a ha
  have fb := hv b hb
  have hW := (rg_Inv_w h).2.2.2.2.2.2.2
  have hN : ∀ l, l < rg_nl M → ∀ k, k < rg_sz M (17 + 2 * l) → ∃ x, x < 40 ∧ M.1 (17 + 2 * l + 1) k = nI x := fun l hl k hk => by
    obtain ⟨x, _, h2, h3⟩ := rg_hasN hI ((hv l hl).1.2.2.1 k hk)
    exact ⟨x, h2, h3⟩
  have hog : ∀ l, l < rg_nl M → (M.1 (17 + 2 * l) 4).toBitVec.toNat < 2 ^ 10 := fun l hl => by
    rw [(hv l hl).1.2.2.2.2.2.1]
    refine rg_og_lt _ (fun k hk => ?_)
    obtain ⟨x, hx, _, h3⟩ := rg_hasN hI ((hv l hl).1.2.2.1 k hk)
    rw [h3, nI_clamp (by have := (rg_Inv_w h).2.1; omega)]
    exact (hW x hx).2
  have e32 : rg_bc32 (M.1 (17 + 2 * a) 4 &&& M.1 (17 + 2 * b) 4) = rm_ls (rm_bs M a b) 10 := by
    unfold rm_bs
    rw [rm_sgn_i h ha, rm_sgn_i h hb]
    have q : (M.1 (17 + 2 * a) 4 &&& M.1 (17 + 2 * b) 4).toBitVec.toNat < 1024 := by
      rw [Int32.toBitVec_and, BitVec.toNat_and]
      exact Nat.lt_of_le_of_lt Nat.and_le_left (hog a ha)
    have e : M.1 (17 + 2 * a) 4 &&& M.1 (17 + 2 * b) 4 = nI (M.1 (17 + 2 * a) 4 &&& M.1 (17 + 2 * b) 4).toBitVec.toNat := by
      apply Int32.toBitVec_inj.mp
      show _ = BitVec.ofNat 32 _
      rw [BitVec.ofNat_toNat, BitVec.setWidth_eq]
    rw [e]
    exact rg_bc32_v _ q
  have key : ∀ k, k < rg_sz M (17 + 2 * a) → rc_n (fun i => decide (M.1 417 (6 * a + k) = M.1 417 (6 * b + i))) (rm_z M b) 0 = if (fun k => (rg_ws (M.1 (17 + 2 * b + 1)) (rg_sz M (17 + 2 * b))).toBitVec.getLsbD (M.1 (17 + 2 * a + 1) k).toNatClampNeg) k = true then 1 else 0 := fun k hk => by
    obtain ⟨x, hx, ex⟩ := hN a ha k hk
    rw [rm_z_i h hb, fa.2.2.1 k hk, ex]
    simp only [ex]
    rw [nI_clamp (by omega)]
    have wb := rg_ws_bit hx (rg_sz M (17 + 2 * b)) (hN b hb)
    by_cases c : (rg_ws (M.1 (17 + 2 * b + 1)) (rg_sz M (17 + 2 * b))).toBitVec.getLsbD x = true
    · rw [if_pos c]
      obtain ⟨i, hi, ei⟩ := wb.mp c
      refine rc_n_o hi (fun j hj => ?_)
      rw [decide_eq_true_iff, fb.2.2.1 j hj]
      constructor
      · intro z
        rcases Nat.lt_trichotomy j i with w | w | w
        · exact absurd (z.symm.trans ei.symm) ((rg_Inv_z h).1 b hb j i w hi)
        · exact w
        · exact absurd (ei.trans z) ((rg_Inv_z h).1 b hb i j w hj)
      · intro z
        rw [z, ei]
    · rw [if_neg c]
      refine rc_n_0 _ 0 (fun j _ hj => decide_eq_false (fun z => c (wb.mpr ⟨j, by omega, ?_⟩)))
      rw [z, fb.2.2.1 j (by omega)]
  unfold rg_lk rm_lk
  rw [e32, rm_z_i h ha, rm_l1_n _ key, fa.1.2.2.2.2.2.2, fb.1.2.2.2.2.2.2, rg_bc_ws (hN a ha) ((rg_Inv_z h).1 a ha), show (3 : Int32) = nI 3 from rfl, rm_mul, Int32.add_comm]
/-! how like, and of whose hand -/
def rg_h5 (M : rg_Mem) (a p : Nat) (f : Nat → Int32) : Nat → Int32 := fun i => if i = a ∨ ¬ M.1 10 i = 0 then 0 else if (M.1 9 i).toNatClampNeg = p then f i else 0
theorem rg_hd_s {a p : Nat} (hp : p < 6) : ∀ i, (rg_hd M a i).1 95 p = rg_sg (rg_h5 M a p (rg_lk M a)) i ∧ (rg_hd M a i).1 96 p = rg_sg (rg_h5 M a p (fun _ => 1)) i
  | 0 => by
    show (if (95 = 95 ∨ 95 = 96) ∧ p < 6 then (0 : Int32) else _) = 0 ∧ (if (96 = 95 ∨ 96 = 96) ∧ p < 6 then (0 : Int32) else _) = 0
    rw [if_pos ⟨Or.inl rfl, hp⟩, if_pos ⟨Or.inr rfl, hp⟩]
    exact ⟨rfl, rfl⟩
  | i + 1 => by
    have ih := rg_hd_s (a := a) hp i
    unfold rg_hd
    rw [rg_sg, rg_sg, ← ih.1, ← ih.2]
    unfold rg_h5
    by_cases c : i = a ∨ ¬ M.1 10 i = 0
    · simp only [if_pos c, Int32.add_zero, and_self]
    · simp only [if_neg c]
      exact ⟨rg_en_95, rg_en_96⟩
theorem rg_hs_i (h : rg_Inv M) {a p : Nat} (ha : a < rg_nl M) (hp : p < 6) : (rg_hd M a (rg_nl M)).1 95 p = rm_lS M a p ∧ (rg_hd M a (rg_nl M)).1 96 p = rm_lC M a p := by
  have gen : ∀ (f g : Nat → Int32), (∀ i, i < rg_nl M → f i = g i) → rg_sg (rg_h5 M a p f) (rg_nl M) = rm_pk (rm_lb M a p) g (rm_nl M) := fun f g hf => by
    rw [rm_nl_i h, rm_pk_sg]
    refine rg_sg_c _ (fun i hi => ?_)
    have v := (rg_Inv_v h).2.1 i hi
    unfold rg_h5 rm_lb
    rw [v.2.2.2.2.1, (rg_Inv_v h).1]
    by_cases c : i = a ∨ ¬ M.1 10 i = 0
    · rw [if_pos c, if_neg (fun z => by
        have z := of_decide_eq_true z
        exact c.elim (fun w => z.1 w) (fun w => w z.2.1))]
    · have c1 : ¬ i = a := fun z => c (Or.inl z)
      have c2 : M.1 10 i = 0 := Classical.not_not.mp (fun z => c (Or.inr z))
      rw [if_neg c]
      by_cases d : (M.1 9 i).toNatClampNeg = p
      · rw [if_pos d, if_pos (decide_eq_true ⟨c1, c2, (rg_mk_p h hi hp).mp d⟩), hf i hi]
      · rw [if_neg d, if_neg (fun z => d ((rg_mk_p h hi hp).mpr (of_decide_eq_true z).2.2))]
  exact ⟨(rg_hd_s hp _).1.trans (gen _ _ (fun i hi => rg_lk_i h ha hi)), (rg_hd_s hp _).2.trans (gen _ _ (fun _ _ => rfl))⟩
theorem rg_lC_0 (h : rg_Inv M) {a p : Nat} (h1 : rg_np M ≤ p) (hp : p < 6) : rm_lC M a p = 0 := by
  unfold rm_lC
  rw [rm_pk_sg, rm_nl_i h]
  refine rg_sg_0 _ (fun k hk => ?_)
  rw [if_neg]
  intro q
  unfold rm_lb at q
  have q := of_decide_eq_true q
  obtain ⟨r, hr, e⟩ := ((rg_Inv_v h).2.1 k hk).2.2.2.1
  rw [(rg_Inv_v h).1, e] at q
  have := (nI_eq (by omega) (by omega)).mp q.2.2
  omega
theorem rg_hand_i (h : rg_Inv M) {a : Nat} (ha : a < rg_nl M) : rg_gr ((rg_hd M a (rg_nl M)).1 95) ((rg_hd M a (rg_nl M)).1 96) 6 = (rm_best (rm_lS M a) (rm_lC M a) (rg_np M)).1 := by
  have h6 := (rg_Inv_p h).2.1
  rw [(rg_best_i (rg_np M) (by omega)).1, rg_gr_c (s := rm_lS M a) (c := rm_lC M a) 6 (by omega) (fun p hp => rg_hs_i h ha hp)]
  obtain ⟨m, hm⟩ : ∃ m, 6 = rg_np M + m := ⟨6 - rg_np M, by omega⟩
  rw [hm]
  exact rg_gr_z m (fun p h1 h2 => by rw [rg_lC_0 h h1 (by omega)]; decide)
theorem rm_lk_g {Mw : rg_Mem} (g : rg_mo M Mw) : rm_lk Mw = rm_lk M := by
  funext a b
  have f : ∀ c, 412 ≤ c → Mw.1 c = M.1 c := g.1
  have h1 : rm_z Mw = rm_z M := by funext l; unfold rm_z; rw [f 418 (by omega)]
  have h3 : ∀ k q n, rm_l2 Mw a b k q n = rm_l2 M a b k q n := by
    intro k q n
    induction n with
    | zero => rfl
    | succ n ih => rw [rm_l2, rm_l2, ih, f 417 (by omega)]
  have h4 : ∀ q n, rm_l1 Mw a b q n = rm_l1 M a b q n := by
    intro q n
    induction n with
    | zero => rfl
    | succ n ih => rw [rm_l1, rm_l1, ih, h3, h1]
  have h5 : rm_bs Mw a b = rm_bs M a b := by
    unfold rm_bs rm_sgn rm_w
    rw [f 415 (by omega), f 417 (by omega), h1]
  unfold rm_lk
  rw [h4, h5, h1]
theorem rg_mo_hd {a n : Nat} : rg_mo M (rg_hd M a n) := ⟨fun c hc => (rg_hd_off n (by omega) (by omega)).1, fun c _ _ => by rw [(rg_hd_off (M := M) (a := a) n (c := 0) (by omega) (by omega)).2]⟩
end LK
