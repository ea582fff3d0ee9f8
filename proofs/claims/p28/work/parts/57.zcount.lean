/-! how many bits: the library's sums, byte by byte -/
theorem rc_split (p m : Nat) : p &&& m = (p % 256 &&& m % 256) + 256 * (p / 256 &&& m / 256) := by
  have h1 : (p &&& m) % 2 ^ 8 = p % 2 ^ 8 &&& m % 2 ^ 8 := Nat.and_mod_two_pow
  have h2 : (p &&& m) / 2 ^ 8 = p / 2 ^ 8 &&& m / 2 ^ 8 := Nat.and_div_two_pow
  rw [show 256 = 2 ^ 8 from rfl, ← h1, ← h2]
  omega
def rc_m (c : Nat) : Nat → Nat
  | 0 => 0
  | k + 1 => c + 256 * rc_m c k
theorem rc_m_s {c k : Nat} (hc : c < 256) : rc_m c (k + 1) % 256 = c ∧ rc_m c (k + 1) / 256 = rc_m c k := by
  rw [rc_m]
  omega
def rc_A (k X : Nat) : Nat := X - (X / 2 &&& rc_m 85 k)
def rc_B (k X : Nat) : Nat := (X &&& rc_m 51 k) + (X / 4 &&& rc_m 51 k)
def rc_C (k X : Nat) : Nat := X + X / 16 &&& rc_m 15 k
def rc_a (b : Nat) : Nat := b - (b / 2 &&& 85)
def rc_b (b : Nat) : Nat := (b &&& 51) + (b / 4 &&& 51)
def rc_c (b : Nat) : Nat := b + b / 16 &&& 15
/-- the low n bits, counted -/
def rc_p : Nat → Nat → Nat
  | 0, _ => 0
  | n + 1, X => X % 2 + rc_p n (X / 2)
def rc_bits (b : Nat) : Nat := rc_p 8 b
theorem rc_e1 : ∀ b, b < 128 → ((b + 128 &&& 85) = (b &&& 85)) := by decide +kernel
theorem rc_e2 : ∀ b, b < 64 → ∀ e, e < 4 → ((b + 64 * e &&& 51) = (b &&& 51)) := by decide +kernel
theorem rc_e3 : ∀ b, b < 80 → ∀ e, e < 5 → ((b + 16 * e &&& 15) = (b &&& 15)) := by decide +kernel
theorem rc_v : ∀ b, b < 256 → rc_a b ≤ b ∧ rc_b (rc_a b) ≤ 68 ∧ rc_b (rc_a b) % 16 ≤ 4 ∧ rc_c (rc_b (rc_a b)) = rc_bits b ∧ rc_bits b ≤ 8 := by decide +kernel
theorem rc_A_s {k b Y : Nat} (hb : b < 256) : rc_A (k + 1) (b + 256 * Y) = rc_a b + 256 * rc_A k Y := by
  unfold rc_A rc_a
  rw [rc_split, (rc_m_s (c := 85) (k := k) (by omega)).1, (rc_m_s (c := 85) (k := k) (by omega)).2, show (b + 256 * Y) / 2 / 256 = Y / 2 by omega]
  have h1 : (b + 256 * Y) / 2 % 256 &&& 85 = b / 2 &&& 85 := by
    rcases Nat.mod_two_eq_zero_or_one Y with q | q
    · rw [show (b + 256 * Y) / 2 % 256 = b / 2 by omega]
    · rw [show (b + 256 * Y) / 2 % 256 = b / 2 + 128 by omega]
      exact rc_e1 _ (by omega)
  rw [h1]
  have h2 : b / 2 &&& 85 ≤ b / 2 := Nat.and_le_left
  have h3 : Y / 2 &&& rc_m 85 k ≤ Y / 2 := Nat.and_le_left
  omega
theorem rc_B_s {k b Y : Nat} (hb : b < 256) : rc_B (k + 1) (b + 256 * Y) = rc_b b + 256 * rc_B k Y := by
  unfold rc_B rc_b
  rw [rc_split, rc_split ((b + 256 * Y) / 4), (rc_m_s (c := 51) (k := k) (by omega)).1, (rc_m_s (c := 51) (k := k) (by omega)).2, show (b + 256 * Y) / 4 / 256 = Y / 4 by omega, show (b + 256 * Y) / 256 = Y by omega, show (b + 256 * Y) % 256 = b by omega]
  have h1 : (b + 256 * Y) / 4 % 256 &&& 51 = b / 4 &&& 51 := by
    rw [show (b + 256 * Y) / 4 % 256 = b / 4 + 64 * (Y % 4) by omega]
    exact rc_e2 _ (by omega) _ (by omega)
  rw [h1]
  omega
theorem rc_C_s {k b Y : Nat} (hb : b ≤ 68) (hY : Y % 16 ≤ 4) : rc_C (k + 1) (b + 256 * Y) = rc_c b + 256 * rc_C k Y := by
  unfold rc_C rc_c
  rw [rc_split, (rc_m_s (c := 15) (k := k) (by omega)).1, (rc_m_s (c := 15) (k := k) (by omega)).2, show (b + 256 * Y + (b + 256 * Y) / 16) / 256 = Y + Y / 16 by omega]
  have h1 : (b + 256 * Y + (b + 256 * Y) / 16) % 256 &&& 15 = b + b / 16 &&& 15 := by
    rw [show (b + 256 * Y + (b + 256 * Y) / 16) % 256 = b + b / 16 + 16 * (Y % 16) by omega]
    exact rc_e3 _ (by omega) _ (by omega)
  rw [h1]
def rc_F (k X : Nat) : Nat := rc_C k (rc_B k (rc_A k X))
theorem rc_low (k X : Nat) : rc_B k (rc_A k X) % 16 ≤ 4 := by
  cases k with
  | zero =>
    have : rc_B 0 (rc_A 0 X) = 0 := by
      unfold rc_B rc_m
      rw [Nat.and_zero, Nat.and_zero]
    omega
  | succ k =>
    have hb : X % 256 < 256 := by omega
    have v := rc_v _ hb
    rw [show X = X % 256 + 256 * (X / 256) by omega, rc_A_s hb, rc_B_s (by omega)]
    omega
theorem rc_F_s (k X : Nat) : rc_F (k + 1) X = rc_bits (X % 256) + 256 * rc_F k (X / 256) := by
  have hb : X % 256 < 256 := by omega
  have v := rc_v _ hb
  unfold rc_F
  rw [show rc_A (k + 1) X = rc_a (X % 256) + 256 * rc_A k (X / 256) by rw [← rc_A_s hb]; congr 1; omega, rc_B_s (by omega), rc_C_s v.2.1 (rc_low _ _), v.2.2.2.1]
theorem rc_p_add (n : Nat) : ∀ k X, rc_p (k + n) X = rc_p k (X % 2 ^ k) + rc_p n (X / 2 ^ k)
  | 0, X => by rw [Nat.zero_add, Nat.pow_zero, Nat.div_one, rc_p, Nat.zero_add]
  | k + 1, X => by
    rw [show k + 1 + n = (k + n) + 1 by omega, rc_p, rc_p, rc_p_add n k (X / 2), Nat.pow_succ, Nat.mul_comm (2 ^ k) 2, Nat.mod_mul_right_div_self, Nat.div_div_eq_div_mul, Nat.mod_mod_of_dvd X (Nat.dvd_mul_right 2 (2 ^ k)), Nat.add_assoc]
theorem rc_p8 (n X : Nat) : rc_p (8 + n) X = rc_bits (X % 256) + rc_p n (X / 256) := rc_p_add n 8 X
theorem rc_end {c0 c1 c2 c3 c4 : Nat} (h0 : c0 ≤ 8) (h1 : c1 ≤ 8) (h2 : c2 ≤ 8) (h3 : c3 ≤ 8) (h4 : c4 ≤ 8) {x3 x4 x5 : Nat} (e3 : x3 = c0 + 256 * (c1 + 256 * (c2 + 256 * (c3 + 256 * c4)))) (e4 : x4 = x3 + x3 / 256) (e5 : x5 = x4 + x4 / 65536) : (x5 + x5 / 4294967296) % 128 = c0 + c1 + c2 + c3 + c4 ∧ x5 + x5 / 4294967296 < 2 ^ 42 := by
  have g3 : x3 / 256 = c1 + 256 * (c2 + 256 * (c3 + 256 * c4)) := by
    rw [e3]
    generalize c1 + 256 * (c2 + 256 * (c3 + 256 * c4)) = d
    omega
  rw [g3, e3] at e4
  have f4 : x4 = (c0 + c1 + 256 * (c1 + c2)) + 65536 * (c2 + c3 + 256 * (c3 + c4 + 256 * c4)) := by omega
  have g4 : x4 / 65536 = c2 + c3 + 256 * (c3 + c4 + 256 * c4) := by
    rw [f4]
    generalize c2 + c3 + 256 * (c3 + c4 + 256 * c4) = d
    omega
  rw [g4, f4] at e5
  have f5 : x5 = (c0 + c1 + c2 + c3 + 256 * (c1 + c2 + c3 + c4) + 65536 * (c2 + c3 + c4) + 16777216 * (c3 + c4)) + 4294967296 * c4 := by omega
  have g5 : x5 / 4294967296 = c4 := by
    rw [f5]
    omega
  rw [g5, f5]
  refine ⟨?_, by omega⟩
  rw [show c0 + c1 + c2 + c3 + 256 * (c1 + c2 + c3 + c4) + 65536 * (c2 + c3 + c4) + 16777216 * (c3 + c4) + 4294967296 * c4 + c4 = (c0 + c1 + c2 + c3 + c4) + 128 * (2 * (c1 + c2 + c3 + c4) + 512 * (c2 + c3 + c4) + 131072 * (c3 + c4) + 33554432 * c4) by omega, Nat.add_mul_mod_self_left, Nat.mod_eq_of_lt (by omega)]
theorem rc_all {X : Nat} (hX : X < 2 ^ 40) {x3 x4 x5 : Nat} (e3 : x3 = rc_F 8 X) (e4 : x4 = x3 + x3 / 256) (e5 : x5 = x4 + x4 / 65536) : (x5 + x5 / 4294967296) % 128 = rc_p 40 X ∧ x5 + x5 / 4294967296 < 2 ^ 42 := by
  have h := fun b => (rc_v (b % 256) (Nat.mod_lt _ (by decide))).2.2.2.2
  have q0 : X / 256 / 256 / 256 / 256 / 256 = 0 := by
    rw [Nat.div_div_eq_div_mul, Nat.div_div_eq_div_mul, Nat.div_div_eq_div_mul, Nat.div_div_eq_div_mul]
    exact Nat.div_eq_of_lt hX
  have z : rc_F 3 0 = 0 := by decide +kernel
  rw [rc_F_s, rc_F_s, rc_F_s, rc_F_s, rc_F_s, q0, z, Nat.mul_zero, Nat.add_zero] at e3
  have e40 : rc_p 40 X = rc_bits (X % 256) + (rc_bits (X / 256 % 256) + (rc_bits (X / 256 / 256 % 256) + (rc_bits (X / 256 / 256 / 256 % 256) + rc_bits (X / 256 / 256 / 256 / 256 % 256)))) := by
    rw [rc_p8 32, rc_p8 24, rc_p8 16, rc_p8 8, rc_p8 0, rc_p, Nat.add_zero]
  have r := rc_end (h X) (h (X / 256)) (h (X / 256 / 256)) (h (X / 256 / 256 / 256)) (h (X / 256 / 256 / 256 / 256)) e3 e4 e5
  refine ⟨?_, r.2⟩
  rw [r.1, e40, Nat.add_assoc, Nat.add_assoc, Nat.add_assoc]
