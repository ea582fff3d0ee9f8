/-! likeness -/
theorem rc_and {x y : Int64} : (x &&& y).toBitVec.toNat = x.toBitVec.toNat &&& y.toBitVec.toNat := by rw [Int64.toBitVec_and, BitVec.toNat_and]
theorem rc_add {x y : Int64} (h : x.toBitVec.toNat + y.toBitVec.toNat < 2 ^ 64) : (x + y).toBitVec.toNat = x.toBitVec.toNat + y.toBitVec.toNat := by rw [Int64.toBitVec_add, BitVec.toNat_add, Nat.mod_eq_of_lt h]
theorem rc_sub {x y : Int64} (h : y.toBitVec.toNat ≤ x.toBitVec.toNat) : (x - y).toBitVec.toNat = x.toBitVec.toNat - y.toBitVec.toNat := by rw [Int64.toBitVec_sub, BitVec.toNat_sub_of_le h]
theorem rc_shr {x : Int64} {s : Int32} {n : Nat} (h : (UInt64.mod (s.toInt64.toUInt64 &&& Int64.toUInt64 63) 64).toBitVec.toNat = n) : (x.toUInt64 >>> (s.toInt64.toUInt64 &&& Int64.toUInt64 63)).toInt64.toBitVec.toNat = x.toBitVec.toNat / 2 ^ n := by
  show (x.toBitVec >>> (UInt64.mod (s.toInt64.toUInt64 &&& Int64.toUInt64 63) 64).toBitVec).toNat = _
  rw [BitVec.ushiftRight_eq', BitVec.toNat_ushiftRight, h, Nat.shiftRight_eq_div_pow]
theorem rc_bc64 {x : Int64} (hx : x.toBitVec.toNat < 2 ^ 40) : rg_bc64 x = nI (rc_p 40 x.toBitVec.toNat) := by
  unfold rg_bc64
  obtain ⟨X, eX⟩ : ∃ X, X = x.toBitVec.toNat := ⟨_, rfl⟩
  rw [← eX] at hx ⊢
  have m5 : (6148914691236517205 : Int64).toBitVec.toNat = rc_m 85 8 := by decide +kernel
  have m3 : (3689348814741910323 : Int64).toBitVec.toNat = rc_m 51 8 := by decide +kernel
  have mf : (1085102592571150095 : Int64).toBitVec.toNat = rc_m 15 8 := by decide +kernel
  have s1 := rc_shr (x := x) (s := 1) (n := 1) (by decide +kernel)
  have l1 : X / 2 &&& rc_m 85 8 ≤ X := Nat.le_trans Nat.and_le_left (Nat.div_le_self _ _)
  obtain ⟨x1, e1⟩ : ∃ z, z = x - ((x.toUInt64 >>> ((1 : Int32).toInt64.toUInt64 &&& Int64.toUInt64 63)).toInt64 &&& 6148914691236517205) := ⟨_, rfl⟩
  have n1 : x1.toBitVec.toNat = rc_A 8 X := by
    rw [e1, rc_sub (by rw [rc_and, s1, m5, ← eX]; exact l1), rc_and, s1, m5, ← eX]
    rfl
  have b1 : rc_A 8 X < 2 ^ 40 := Nat.lt_of_le_of_lt (Nat.sub_le _ _) hx
  obtain ⟨x2, e2⟩ : ∃ z, z = (x1 &&& 3689348814741910323) + ((x1.toUInt64 >>> ((2 : Int32).toInt64.toUInt64 &&& Int64.toUInt64 63)).toInt64 &&& 3689348814741910323) := ⟨_, rfl⟩
  have s2 := rc_shr (x := x1) (s := 2) (n := 2) (by decide +kernel)
  have l2a : rc_A 8 X &&& rc_m 51 8 ≤ rc_A 8 X := Nat.and_le_left
  have l2b : rc_A 8 X / 2 ^ 2 &&& rc_m 51 8 ≤ rc_A 8 X := Nat.le_trans Nat.and_le_left (Nat.div_le_self _ _)
  have n2 : x2.toBitVec.toNat = rc_B 8 (rc_A 8 X) := by
    rw [e2, rc_add (by rw [rc_and, rc_and, s2, m3, n1]; omega), rc_and, rc_and, s2, m3, n1]
    rfl
  have b2 : rc_B 8 (rc_A 8 X) < 2 ^ 41 := by
    unfold rc_B
    rw [show (4 : Nat) = 2 ^ 2 from rfl]
    omega
  obtain ⟨x3, e3⟩ : ∃ z, z = (x2 + (x2.toUInt64 >>> ((4 : Int32).toInt64.toUInt64 &&& Int64.toUInt64 63)).toInt64) &&& 1085102592571150095 := ⟨_, rfl⟩
  have s3 := rc_shr (x := x2) (s := 4) (n := 4) (by decide +kernel)
  have l3 : rc_B 8 (rc_A 8 X) / 2 ^ 4 ≤ rc_B 8 (rc_A 8 X) := Nat.div_le_self _ _
  have n3 : x3.toBitVec.toNat = rc_F 8 X := by
    rw [e3, rc_and, rc_add (by rw [s3, n2]; omega), s3, mf, n2]
    rfl
  have b3 : rc_F 8 X < 2 ^ 42 := by
    have q : rc_F 8 X ≤ rc_B 8 (rc_A 8 X) + rc_B 8 (rc_A 8 X) / 2 ^ 4 := Nat.and_le_left
    omega
  obtain ⟨x4, e4⟩ : ∃ z, z = x3 + (x3.toUInt64 >>> ((8 : Int32).toInt64.toUInt64 &&& Int64.toUInt64 63)).toInt64 := ⟨_, rfl⟩
  have s4 := rc_shr (x := x3) (s := 8) (n := 8) (by decide +kernel)
  have n4 : x4.toBitVec.toNat = rc_F 8 X + rc_F 8 X / 256 := by
    have l4 : rc_F 8 X / 2 ^ 8 ≤ rc_F 8 X := Nat.div_le_self _ _
    rw [e4, rc_add (by rw [s4, n3]; omega), s4, n3]
  obtain ⟨Y4, eY4⟩ : ∃ z, z = rc_F 8 X + rc_F 8 X / 256 := ⟨_, rfl⟩
  have b4 : Y4 < 2 ^ 43 := by
    have l4 : rc_F 8 X / 256 ≤ rc_F 8 X := Nat.div_le_self _ _
    omega
  rw [← eY4] at n4
  obtain ⟨x5, e5⟩ : ∃ z, z = x4 + (x4.toUInt64 >>> ((16 : Int32).toInt64.toUInt64 &&& Int64.toUInt64 63)).toInt64 := ⟨_, rfl⟩
  have s5 := rc_shr (x := x4) (s := 16) (n := 16) (by decide +kernel)
  have n5 : x5.toBitVec.toNat = Y4 + Y4 / 65536 := by
    have l5 : Y4 / 2 ^ 16 ≤ Y4 := Nat.div_le_self _ _
    rw [e5, rc_add (by rw [s5, n4]; omega), s5, n4]
  obtain ⟨Y5, eY5⟩ : ∃ z, z = Y4 + Y4 / 65536 := ⟨_, rfl⟩
  have b5 : Y5 < 2 ^ 44 := by
    have l5 : Y4 / 65536 ≤ Y4 := Nat.div_le_self _ _
    omega
  rw [← eY5] at n5
  obtain ⟨x6, e6⟩ : ∃ z, z = x5 + (x5.toUInt64 >>> ((32 : Int32).toInt64.toUInt64 &&& Int64.toUInt64 63)).toInt64 := ⟨_, rfl⟩
  have s6 := rc_shr (x := x5) (s := 32) (n := 32) (by decide +kernel)
  have n6 : x6.toBitVec.toNat = Y5 + Y5 / 4294967296 := by
    have l6 : Y5 / 2 ^ 32 ≤ Y5 := Nat.div_le_self _ _
    rw [e6, rc_add (by rw [s6, n5]; omega), s6, n5]
  have r := rc_all hx rfl eY4 eY5
  rw [← n6] at r
  have hfin : (x6.toInt32 &&& 127).toBitVec = (nI (rc_p 40 X)).toBitVec := by
    apply BitVec.eq_of_toNat_eq
    rw [Int32.toBitVec_and, BitVec.toNat_and]
    show (x6.toBitVec.signExtend 32).toNat &&& 127 = (BitVec.ofNat 32 (rc_p 40 X)).toNat
    rw [BitVec.signExtend_eq_setWidth_of_le _ (by decide), BitVec.toNat_setWidth, show (127 : Nat) = 2 ^ 7 - 1 from rfl, Nat.and_two_pow_sub_one_eq_mod, BitVec.toNat_ofNat, ← r.1, Nat.mod_mod_of_dvd _ (by decide)]
    rw [Nat.mod_eq_of_lt (a := x6.toBitVec.toNat % 128) (by omega)]
  have hfin := Int32.toBitVec_inj.mp hfin
  subst e6 e5 e4 e3 e2 e1
  exact hfin

/-! bits, counted from the bottom -/
def rc_n (p : Nat → Bool) : Nat → Nat → Nat
  | 0, _ => 0
  | n + 1, k => (if p k = true then 1 else 0) + rc_n p n (k + 1)
theorem rc_n_p {X : Nat} : ∀ n k, rc_n (fun v => X.testBit v) n k = rc_p n (X / 2 ^ k)
  | 0, _ => rfl
  | n + 1, k => by
    rw [rc_n, rc_p, rc_n_p n (k + 1), Nat.pow_succ, Nat.div_div_eq_div_mul]
    congr 1
    show (if X.testBit k = true then 1 else 0) = _
    rw [Nat.testBit_eq_decide_div_mod_eq]
    rcases Nat.mod_two_eq_zero_or_one (X / 2 ^ k) with q | q <;> simp [q]
theorem rc_n_c {p q : Nat → Bool} : ∀ n k, (∀ i, k ≤ i → i < k + n → p i = q i) → rc_n p n k = rc_n q n k
  | 0, _, _ => rfl
  | n + 1, k, h => by rw [rc_n, rc_n, h k (by omega) (by omega), rc_n_c n (k + 1) (fun i h1 h2 => h i (by omega) (by omega))]
theorem rc_n_0 {p : Nat → Bool} : ∀ n k, (∀ i, k ≤ i → i < k + n → p i = false) → rc_n p n k = 0
  | 0, _, _ => rfl
  | n + 1, k, h => by rw [rc_n, h k (by omega) (by omega), rc_n_0 n (k + 1) (fun i h1 h2 => h i (by omega) (by omega))]; rfl
/-- one place more -/
theorem rc_n_1 {p q : Nat → Bool} {x : Nat} : ∀ n k, k ≤ x → x < k + n → p x = false → q x = true → (∀ i, i ≠ x → q i = p i) → rc_n q n k = rc_n p n k + 1
  | 0, k, h1, h2, _, _, _ => absurd h2 (by omega)
  | n + 1, k, h1, h2, hp, hq, h => by
    rw [rc_n, rc_n]
    by_cases c : k = x
    · subst c
      rw [hp, hq, rc_n_c n (k + 1) (fun i h1 h2 => h i (by omega))]
      simp only [if_true, Bool.false_eq_true, if_false]
      omega
    · rw [h k c, rc_n_1 n (k + 1) (by omega) (by omega) hp hq h]
      omega

theorem rc_n_t {p : Nat → Bool} : ∀ n k, rc_n p (n + 1) k = rc_n p n k + (if p (k + n) = true then 1 else 0)
  | 0, k => by rw [rc_n, rc_n, rc_n, Nat.add_zero, Nat.zero_add, Nat.add_zero]
  | n + 1, k => by rw [rc_n, rc_n_t n (k + 1), rc_n, show k + 1 + n = k + (n + 1) by omega, Nat.add_assoc]
theorem rc_n_o {p : Nat → Bool} {n x : Nat} (hx : x < n) (h : ∀ i, i < n → (p i = true ↔ i = x)) : rc_n p n 0 = 1 := by
  rw [rc_n_c (q := fun i => decide (i = x)) n 0 (fun i _ hi => by rw [Bool.eq_iff_iff, h i (by omega), decide_eq_true_iff]), rc_n_1 (p := fun _ => false) (x := x) n 0 (by omega) (by omega) rfl (decide_eq_true rfl) (fun i hi => decide_eq_false hi), rc_n_0 n 0 (fun _ _ _ => rfl)]
theorem rg_ws_and {w : Nat → Int32} {Y : Int64} {N : Nat} (hN40 : 40 ≤ N) : ∀ n, (∀ k, k < n → ∃ a, a < 40 ∧ w k = nI a) → (∀ i k, i < k → k < n → ¬ w i = w k) → rc_n (fun v => (rg_ws w n &&& Y).toBitVec.getLsbD v) N 0 = rc_n (fun k => Y.toBitVec.getLsbD (w k).toNatClampNeg) n 0
  | 0, _, _ => by
    rw [rc_n]
    refine rc_n_0 N 0 (fun i _ _ => ?_)
    rw [Int64.toBitVec_and, BitVec.getLsbD_and, show (rg_ws w 0).toBitVec = 0#64 from rfl, BitVec.getLsbD_zero, Bool.false_and]
  | n + 1, h, d => by
    obtain ⟨a, ha, hw⟩ := h n (by omega)
    have hN : ∀ k, k < n → ∃ a, a < 40 ∧ w k = nI a := fun k hk => h k (by omega)
    have ih := rg_ws_and (Y := Y) hN40 n hN (fun i k h1 h2 => d i k h1 (by omega))
    have e : ∀ v, (rg_ws w (n + 1) &&& Y).toBitVec.getLsbD v = (((rg_ws w n).toBitVec.getLsbD v || decide (a = v)) && Y.toBitVec.getLsbD v) := fun v => by
      show ((rg_ws w n ||| rg_bit (w n)) &&& Y).toBitVec.getLsbD v = _
      rw [Int64.toBitVec_and, BitVec.getLsbD_and, Int64.toBitVec_or, BitVec.getLsbD_or, hw, (rg_bit_v a ha).1, BitVec.getLsbD_twoPow]
      rw [show decide (a < 64) = true from decide_eq_true (by omega), Bool.true_and]
    have e0 : ∀ v, (rg_ws w n &&& Y).toBitVec.getLsbD v = ((rg_ws w n).toBitVec.getLsbD v && Y.toBitVec.getLsbD v) := fun v => by rw [Int64.toBitVec_and, BitVec.getLsbD_and]
    have hno : (rg_ws w n).toBitVec.getLsbD a = false := by
      apply Bool.eq_false_iff.mpr
      intro q
      obtain ⟨k, hk, ek⟩ := (rg_ws_bit ha n hN).mp q
      exact d k n hk (by omega) (by rw [ek, hw])
    have t := rc_n_t (p := fun k => Y.toBitVec.getLsbD (w k).toNatClampNeg) n 0
    simp only [Nat.zero_add] at t
    rw [t, ← ih, hw, nI_clamp (by omega)]
    by_cases c : Y.toBitVec.getLsbD a = true
    · rw [if_pos c]
      refine rc_n_1 (x := a) N 0 (by omega) (by omega) ?_ ?_ (fun i hi => ?_)
      · show (rg_ws w n &&& Y).toBitVec.getLsbD a = false
        rw [e0, hno, Bool.false_and]
      · show (rg_ws w (n + 1) &&& Y).toBitVec.getLsbD a = true
        rw [e, c, decide_eq_true rfl, Bool.or_true, Bool.and_true]
      · show (rg_ws w (n + 1) &&& Y).toBitVec.getLsbD i = (rg_ws w n &&& Y).toBitVec.getLsbD i
        rw [e, e0, decide_eq_false (fun z => hi z.symm), Bool.or_false]
    · rw [if_neg c, Nat.add_zero]
      refine rc_n_c N 0 (fun i _ _ => ?_)
      show (rg_ws w (n + 1) &&& Y).toBitVec.getLsbD i = (rg_ws w n &&& Y).toBitVec.getLsbD i
      rw [e, e0]
      by_cases z : a = i
      · rw [← z, Bool.eq_false_iff.mpr c, Bool.and_false, Bool.and_false]
      · rw [decide_eq_false z, Bool.or_false]
theorem rg_bc_ws {w : Nat → Int32} {Y : Int64} {n : Nat} (h : ∀ k, k < n → ∃ a, a < 40 ∧ w k = nI a) (d : ∀ i k, i < k → k < n → ¬ w i = w k) : rg_bc64 (rg_ws w n &&& Y) = nI (rc_n (fun k => Y.toBitVec.getLsbD (w k).toNatClampNeg) n 0) := by
  have hlt : (rg_ws w n &&& Y).toBitVec.toNat < 2 ^ 40 := Nat.lt_pow_two_of_testBit _ (fun i hi => by
    rw [BitVec.testBit_toNat, Int64.toBitVec_and, BitVec.getLsbD_and, Bool.eq_false_iff.mpr (rg_ws_hi hi n h), Bool.false_and])
  obtain ⟨N, hN⟩ : ∃ N, N = 40 := ⟨_, rfl⟩
  rw [rc_bc64 hlt, ← hN, ← rg_ws_and (N := N) (by omega) n h d]
  have z := rc_n_p (X := (rg_ws w n &&& Y).toBitVec.toNat) N 0
  rw [Nat.pow_zero, Nat.div_one] at z
  rw [← z, rc_n_c (q := fun v => (rg_ws w n &&& Y).toBitVec.getLsbD v) N 0 (fun i _ _ => BitVec.testBit_toNat _)]
theorem rg_og_lt {f w : Nat → Int32} : ∀ n, (∀ k, k < n → ∃ q, q ≤ 1023 ∧ f (w k).toNatClampNeg = nI q) → (rg_og f w n).toBitVec.toNat < 2 ^ 10
  | 0, _ => show (0 : Int32).toBitVec.toNat < 2 ^ 10 by decide
  | n + 1, h => by
    obtain ⟨q, hq, e⟩ := h n (by omega)
    rw [rg_og, Int32.toBitVec_or, BitVec.toNat_or, e]
    refine Nat.or_lt_two_pow (rg_og_lt n (fun k hk => h k (by omega))) ?_
    show (BitVec.ofNat 32 q).toNat < 2 ^ 10
    rw [BitVec.toNat_ofNat, Nat.mod_eq_of_lt (by omega)]
    omega
def rg_h5 (M : rg_Mem) (a p : Nat) (f : Nat → Int32) : Nat → Int32 := fun i => if i = a ∨ ¬ M.1 10 i = 0 then 0 else if (M.1 9 i).toNatClampNeg = p then f i else 0
theorem rg_hd_s {M : rg_Mem} {a p : Nat} (hp : p < 6) : ∀ i, (rg_hd M a i).1 95 p = rg_sg (rg_h5 M a p (rg_lk M a)) i ∧ (rg_hd M a i).1 96 p = rg_sg (rg_h5 M a p (fun _ => 1)) i
  | 0 => by
    show (if (95 = 95 ∨ 95 = 96) ∧ p < 6 then (0 : Int32) else _) = 0 ∧ (if (96 = 95 ∨ 96 = 96) ∧ p < 6 then (0 : Int32) else _) = 0
    rw [if_pos ⟨Or.inl rfl, hp⟩, if_pos ⟨Or.inr rfl, hp⟩]
    exact ⟨rfl, rfl⟩
  | i + 1 => by
    have ih := rg_hd_s (M := M) (a := a) hp i
    unfold rg_hd
    rw [rg_sg, rg_sg, ← ih.1, ← ih.2]
    unfold rg_h5
    by_cases c : i = a ∨ ¬ M.1 10 i = 0
    · simp only [if_pos c, Int32.add_zero, and_self]
    · simp only [if_neg c]
      exact ⟨rg_en_95, rg_en_96⟩
theorem rp_bc32_v : ∀ q, q < 1024 → rg_bc32 (nI q) = lw_sm (fun k => (nI q >>> (nI k &&& 31)) &&& 1) 10 := by decide +kernel
theorem rp_shand {x y s : Int32} : (x >>> s) &&& (y >>> s) = (x &&& y) >>> s := by
  apply Int32.toBitVec_inj.mp
  rw [Int32.toBitVec_and, Int32.toBitVec_shiftRight, Int32.toBitVec_shiftRight, Int32.toBitVec_shiftRight, Int32.toBitVec_and]
  show BitVec.sshiftRight' _ _ &&& BitVec.sshiftRight' _ _ = BitVec.sshiftRight' _ _
  unfold BitVec.sshiftRight'
  rw [BitVec.sshiftRight_and_distrib]
theorem rp_sm3 {f : Nat → Int32} {Y : Nat → Bool} : ∀ n, (∀ k, k < n → f k = if Y k = true then 3 else 0) → lw_sm f n = nI (3 * rc_n Y n 0)
  | 0, _ => rfl
  | n + 1, h => by
    rw [lw_sm, rp_sm3 n (fun k hk => h k (by omega)), h n (by omega), rc_n_t, Nat.zero_add, Nat.mul_add, ← nI_add]
    congr 1
    by_cases c : Y n = true
    · rw [if_pos c, if_pos c]; rfl
    · rw [if_neg c, if_neg c]; rfl
/-- how like two links are -/
theorem rp_like {M : rg_Mem} (h : rp_Inv M) {a b : Nat} (ha : a < rg_nl M) (hb : b < rg_nl M) : lw_al M a b = rg_lk M a b := by
  have hl := rp_nl h
  have fa := rp_vs h ha
  have fb := rp_vs h hb
  have ra := ((rp_t h).1 a ha)
  have rb := ((rp_t h).1 b hb)
  have wa := rp_VSw h fa
  have wb := rp_VSw h fb
  have sa : lw_sgn M a = M.1 (17 + 2 * a) 4 := by
    rw [rp_sgn ra.1 wa fa.2.1]
    exact fa.2.2.2.2.2.1.symm
  have sb : lw_sgn M b = M.1 (17 + 2 * b) 4 := by
    rw [rp_sgn rb.1 wb fb.2.1]
    exact fb.2.2.2.2.2.1.symm
  have hog : (M.1 (17 + 2 * a) 4).toBitVec.toNat < 2 ^ 10 := by
    rw [fa.2.2.2.2.2.1]
    refine rg_og_lt _ (fun k hk => ?_)
    obtain ⟨x, hx, h3⟩ := wa k hk
    rw [h3, nI_clamp (by omega)]
    obtain ⟨g, hg, e⟩ := (rp_wi h x hx).2.2.2.2.1
    exact ⟨g, by omega, e⟩
  have e32 : lw_sm (lw_ab M a b) 10 = rg_bc32 (M.1 (17 + 2 * a) 4 &&& M.1 (17 + 2 * b) 4) := by
    have q : (M.1 (17 + 2 * a) 4 &&& M.1 (17 + 2 * b) 4).toBitVec.toNat < 1024 := by
      rw [Int32.toBitVec_and, BitVec.toNat_and]
      exact Nat.lt_of_le_of_lt Nat.and_le_left hog
    have e : M.1 (17 + 2 * a) 4 &&& M.1 (17 + 2 * b) 4 = nI (M.1 (17 + 2 * a) 4 &&& M.1 (17 + 2 * b) 4).toBitVec.toNat := by
      apply Int32.toBitVec_inj.mp
      show _ = BitVec.ofNat 32 _
      rw [BitVec.ofNat_toNat, BitVec.setWidth_eq]
    have e2 : lw_ab M a b = fun k => ((M.1 (17 + 2 * a) 4 &&& M.1 (17 + 2 * b) 4) >>> (nI k &&& 31)) &&& 1 := by
      funext k
      unfold lw_ab
      rw [sa, sb, rp_shand]
    rw [e2, e]
    exact (rp_bc32_v _ q).symm
  have e64 : lw_sm (lw_aw M a b) 6 = nI (3 * rc_n (fun k => (rg_ws (M.1 (17 + 2 * b + 1)) (rg_sz M (17 + 2 * b))).toBitVec.getLsbD (M.1 (17 + 2 * a + 1) k).toNatClampNeg) (rg_sz M (17 + 2 * a)) 0) := by
    have e := rp_sm_ext (g := lw_aw M a b) (n := rg_sz M (17 + 2 * a)) (6 - rg_sz M (17 + 2 * a)) (fun i h1 h2 => if_neg (fun q => q.1 (rp_t0 ra.1 (by omega) (by omega))))
    have h6 := fa.2.1
    rw [show rg_sz M (17 + 2 * a) + (6 - rg_sz M (17 + 2 * a)) = 6 by omega] at e
    rw [e]
    refine rp_sm3 _ (fun k hk => ?_)
    obtain ⟨x, hx, ex⟩ := wa k hk
    have eX : M.1 414 (6 * a + k) = nI x + 1 := (rp_hit ra.1 (by omega) (by omega)).mpr ⟨hk, ex⟩
    have wsb := rg_ws_bit (w := M.1 (17 + 2 * b + 1)) (b := x) (by omega) (rg_sz M (17 + 2 * b)) (fun k hk => by
      obtain ⟨y, hy, ey⟩ := wb k hk
      exact ⟨y, by omega, ey⟩)
    have hit : lw_an (lw_hp M b (M.1 414 (6 * a + k))) 6 = true ↔ (rg_ws (M.1 (17 + 2 * b + 1)) (rg_sz M (17 + 2 * b))).toBitVec.getLsbD x = true := by
      rw [eX, lw_an_iff]
      refine Iff.trans ?_ wsb.symm
      constructor
      · rintro ⟨i, hi, q⟩
        have := (rp_hit rb.1 hi (by omega)).mp (of_decide_eq_true q)
        exact ⟨i, this.1, this.2⟩
      · rintro ⟨i, hi, q⟩
        have := fb.2.1
        exact ⟨i, by omega, decide_eq_true ((rp_hit rb.1 (by omega) (by omega)).mpr ⟨hi, q⟩)⟩
    unfold lw_aw
    simp only [ex, nI_clamp (show x < 2 ^ 31 by omega)]
    by_cases c : (rg_ws (M.1 (17 + 2 * b + 1)) (rg_sz M (17 + 2 * b))).toBitVec.getLsbD x = true
    · rw [if_pos c, if_pos ⟨by rw [rp_t1 ra.1 wa (by omega) hk]; omega, hit.mpr c⟩]
    · rw [if_neg c, if_neg (fun q => c (hit.mp q.2))]
  unfold lw_al rg_lk
  rw [e32, e64, fa.2.2.2.2.2.2, fb.2.2.2.2.2.2, rg_bc_ws (fun k hk => by
    obtain ⟨y, hy, ey⟩ := wa k hk
    exact ⟨y, by omega, ey⟩) ra.2, show (3 : Int32) = nI 3 from rfl, lw_mul, Int32.add_comm]
/-- hand -/
theorem rp_hd {M : rg_Mem} (h : rp_Inv M) {j p : Nat} (hj : j < rg_nl M) (hp : p < 6) : (rg_hd M j (rg_nl M)).1 95 p = lw_sm (lw_hs M j p) (rg_nl M) ∧ (rg_hd M j (rg_nl M)).1 96 p = nI (lw_ct (lw_hb M j p) (rg_nl M)) := by
  have hl := rp_nl h
  have key : ∀ i, i < rg_nl M → ∀ f : Nat → Int32, rg_h5 M j p f i = if lw_hb M j p i = true then f i else 0 := by
    intro i hi f
    obtain ⟨mk, hmk, e3⟩ := rg_CI_m (rp_ci h) i hi
    have hnp := (rg_CI_p (rp_ci h)).2
    have el := (rp_l h i (by omega)).2.1 hi
    unfold rg_h5 lw_hb
    rw [el.1, el.2.1, e3, nI_clamp (by omega)]
    have z1 : nI mk = nI p ↔ mk = p := nI_eq (by omega) (by omega)
    simp only [z1, decide_eq_true_eq]
    by_cases c1 : i = j
    · simp [c1]
    · by_cases c2 : M.1 10 i = 0
      · by_cases c3 : mk = p
        · simp [c1, c2, c3]
        · simp [c1, c2, c3]
      · simp [c1, c2]
  rw [(rg_hd_s hp _).1, (rg_hd_s hp _).2, lw_sm_sg]
  refine ⟨rg_sg_c _ (fun i hi => ?_), ?_⟩
  · rw [key i hi]
    unfold lw_hs
    by_cases c : lw_hb M j p i = true
    · rw [if_pos c, if_pos c, rp_like h hj hi]
    · rw [if_neg c, if_neg c]
  · have ct : ∀ n, n ≤ rg_nl M → rg_sg (rg_h5 M j p (fun _ => 1)) n = nI (lw_ct (lw_hb M j p) n) := by
      intro n
      induction n with
      | zero => intro _; rfl
      | succ n ih =>
        intro hn
        rw [rg_sg, ih (by omega), key n (by omega), lw_ct]
        by_cases c : lw_hb M j p n = true
        · rw [if_pos c, if_pos c, nI_succ]
        · rw [if_neg c, if_neg c, Nat.add_zero, Int32.add_zero]
    exact ct _ (Nat.le_refl _)
theorem rp_rc_le {p : Nat → Bool} : ∀ n k, rc_n p n k ≤ n
  | 0, _ => Nat.le_refl 0
  | n + 1, k => by
    have := rp_rc_le (p := p) n (k + 1)
    rw [rc_n]
    split <;> omega
theorem rp_al_in {M : rg_Mem} (hT : lw_TI M) {a b : Nat} (ha : a < 10) : ∃ v, v ≤ 28 ∧ lw_al M a b = nI v := by
  unfold lw_al
  rw [lw_sm_sg, lw_sm_sg]
  obtain ⟨x, h1, h2⟩ := rp_sg_in (f := lw_ab M a b) (K := 1) 10 (fun k _ => by
    unfold lw_ab
    rw [pk_and _ (m := 1) 1 rfl]
    exact ⟨_, by omega, rfl⟩)
  obtain ⟨y, h3, h4⟩ := rp_sg_in (f := lw_aw M a b) (K := 3) 6 (fun k _ => by
    unfold lw_aw
    split
    · exact ⟨3, by omega, rfl⟩
    · exact ⟨0, by omega, rfl⟩)
  exact ⟨x + y, by omega, by rw [h2, h4, nI_add]⟩
theorem rp_hand {M : rg_Mem} (h : rp_Inv M) {j : Nat} (hj : j < rg_nl M) : rg_gr ((rg_hd M j (rg_nl M)).1 95) ((rg_hd M j (rg_nl M)).1 96) 6 = (lw_hz M j (rg_nl M) (3 - 0) 0).1 := by
  have hl := rp_nl h
  rw [rg_gr_c 6 (by omega) (fun p hp => rp_hd h hj hp)]
  have hz : ∀ p, 3 ≤ p → p < 3 + 3 → nI (lw_ct (lw_hb M j p) (rg_nl M)) ≤ 0 := fun p h1 h2 => by
    have e : ∀ n, n ≤ rg_nl M → lw_ct (lw_hb M j p) n = 0 := by
      intro n
      induction n with
      | zero => intro _; rfl
      | succ n ih =>
        intro hn
        obtain ⟨mk, hmk, e3⟩ := rg_CI_m (rp_ci h) n (by omega)
        have hnp : rg_np M = 3 := by unfold rg_np; rw [(rp_n h).1.2, nI_clamp (by omega)]
        rw [lw_ct, ih (by omega), if_neg]
        intro q
        have q := (of_decide_eq_true q).2.1
        rw [((rp_l h n (by omega)).2.1 (by omega)).1, e3, nI_eq (by omega) (by omega)] at q
        omega
    rw [e _ (Nat.le_refl _)]
    decide
  have e := rg_gr_z (s := fun p => lw_sm (lw_hs M j p) (rg_nl M)) (c := fun p => nI (lw_ct (lw_hb M j p) (rg_nl M))) (n := 3) 3 hz
  rw [show 3 + 3 = 6 from rfl] at e
  rw [e]
  have hS : ∀ p, ∃ v, v ≤ 28 * rg_nl M ∧ lw_sm (lw_hs M j p) (rg_nl M) = nI v := fun p => by
    rw [lw_sm_sg]
    exact rp_sg_in _ (fun k _ => by
      unfold lw_hs
      split
      · exact rp_al_in (rp_TI h) (by omega)
      · exact ⟨0, by omega, rfl⟩)
  refine (rp_best (s := fun p => (lw_sm (lw_hs M j p) (rg_nl M)).toNatClampNeg) (c := fun p => lw_ct (lw_hb M j p) (rg_nl M)) (N := 3) (fun p _ => ?_) (by omega)).symm
  obtain ⟨v, hv, ev⟩ := hS p
  have hc := lw_ct_le (p := lw_hb M j p) (rg_nl M)
  show lw_sm (lw_hs M j p) (rg_nl M) = nI (lw_sm (lw_hs M j p) (rg_nl M)).toNatClampNeg ∧ _ ∧ (lw_sm (lw_hs M j p) (rg_nl M)).toNatClampNeg ≤ 2000 ∧ _
  rw [ev, nI_clamp (by omega)]
  exact ⟨rfl, rfl, by omega, by omega⟩
