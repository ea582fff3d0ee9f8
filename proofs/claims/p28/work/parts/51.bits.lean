theorem rp_bit {x : Int32} : ∀ {k : Nat}, k < 32 → ((x >>> (nI k &&& 31)) &&& 1 = 0 ↔ x.toBitVec.getLsbD k = false) := by
  intro k hk
  have h1 : (nI k &&& 31).toBitVec.smod 32#32 = BitVec.ofNat 32 k := by
    have : ∀ k, k < 32 → (nI k &&& 31).toBitVec.smod 32#32 = BitVec.ofNat 32 k := by decide +kernel
    exact this k hk
  rw [← Int32.toBitVec_inj, Int32.toBitVec_and, Int32.toBitVec_shiftRight]
  show BitVec.sshiftRight' x.toBitVec ((nI k &&& 31).toBitVec.smod 32#32) &&& 1#32 = 0#32 ↔ _
  unfold BitVec.sshiftRight'
  rw [h1, BitVec.and_one_eq_setWidth_ofBool_getLsbD, BitVec.getLsbD_sshiftRight, BitVec.toNat_ofNat, Nat.mod_eq_of_lt (by omega)]
  simp only [Nat.add_zero, show k < 32 from hk, if_true]
  cases x.toBitVec.getLsbD k <;> decide
theorem rg_ff_none {p : Nat → Bool} : ∀ n k, k + n < 1000 → rg_ff p n k = -1 → ∀ i, k ≤ i → i < k + n → p i = false
  | 0, k, _, _, i, h1, h2 => absurd h2 (by omega)
  | n + 1, k, hk, h, i, h1, h2 => by
    rw [rg_ff] at h
    by_cases q : p k = true
    · rw [if_pos q] at h
      exact absurd h (rg_nIm (by omega))
    · rw [if_neg q] at h
      rcases Nat.eq_or_lt_of_le h1 with e | e
      · subst e; exact Bool.eq_false_iff.mpr q
      · exact rg_ff_none n (k + 1) (by omega) h i e (by omega)
/-! sets of words as bits -/
def rg_B8 (X : Int64) (a : Nat) : Prop := X.toBitVec.getLsbD a = true
theorem rg_bit_v : ∀ a, a < 40 → (rg_bit (nI a)).toBitVec = BitVec.twoPow 64 a ∧ BitVec.twoPow 64 a ≠ 0#64 := by decide +kernel
theorem rg_and_bit {X : Int64} {a : Nat} (ha : a < 40) : X &&& rg_bit (nI a) = 0 ↔ ¬ rg_B8 X a := by
  obtain ⟨h1, h2⟩ := rg_bit_v a ha
  rw [← Int64.toBitVec_inj, Int64.toBitVec_and, h1, BitVec.and_twoPow]
  unfold rg_B8
  by_cases h : X.toBitVec.getLsbD a = true
  · rw [if_pos h]
    exact ⟨fun q => absurd q h2, fun q => absurd h q⟩
  · rw [if_neg h]
    exact ⟨fun _ => h, fun _ => rfl⟩
theorem rg_B8_or {X Y : Int64} {a : Nat} : rg_B8 (X ||| Y) a ↔ rg_B8 X a ∨ rg_B8 Y a := by
  unfold rg_B8
  rw [Int64.toBitVec_or, BitVec.getLsbD_or, Bool.or_eq_true]
theorem rg_B8_0 {a : Nat} : ¬ rg_B8 0 a := by
  unfold rg_B8
  rw [show (0 : Int64).toBitVec = 0#64 from rfl, BitVec.getLsbD_zero]
  exact Bool.false_ne_true
theorem rg_B8_bit {a b : Nat} (ha : a < 40) : rg_B8 (rg_bit (nI a)) b ↔ a = b := by
  unfold rg_B8
  rw [(rg_bit_v a ha).1, BitVec.getLsbD_twoPow]
  simp
  intro _
  omega
theorem rg_ws_bit {w : Nat → Int32} {b : Nat} (hb : b < 40) : ∀ n, (∀ k, k < n → ∃ a, a < 40 ∧ w k = nI a) → (rg_B8 (rg_ws w n) b ↔ ∃ k, k < n ∧ w k = nI b)
  | 0, _ => ⟨fun h => absurd h rg_B8_0, fun ⟨k, hk, _⟩ => absurd hk (by omega)⟩
  | n + 1, h => by
    obtain ⟨a, ha, hw⟩ := h n (by omega)
    have e : rg_ws w (n + 1) = rg_ws w n ||| rg_bit (w n) := rfl
    rw [e, rg_B8_or, rg_ws_bit hb n (fun k hk => h k (by omega)), hw, rg_B8_bit ha]
    constructor
    · rintro (⟨k, hk, q⟩ | q)
      · exact ⟨k, by omega, q⟩
      · exact ⟨n, by omega, by rw [hw, q]⟩
    · rintro ⟨k, hk, q⟩
      by_cases c : k < n
      · exact Or.inl ⟨k, c, q⟩
      · have c2 : k = n := by omega
        rw [c2, hw] at q
        exact Or.inr ((nI_eq (by omega) (by omega)).mp q)
theorem rg_ra_bit {f : Nat → Int64} {b : Nat} : ∀ n, rg_B8 (rg_ra f n) b ↔ ∃ d, 1 ≤ d ∧ d ≤ n ∧ rg_B8 (f d) b
  | 0 => ⟨fun h => absurd h rg_B8_0, fun ⟨d, h1, h2, _⟩ => absurd h1 (by omega)⟩
  | n + 1 => by
    rw [rg_ra, rg_B8_or, rg_ra_bit n]
    constructor
    · rintro (q | ⟨d, h1, h2, q⟩)
      · exact ⟨n + 1, by omega, by omega, q⟩
      · exact ⟨d, h1, by omega, q⟩
    · rintro ⟨d, h1, h2, q⟩
      by_cases c : d = n + 1
      · exact Or.inl (c ▸ q)
      · exact Or.inr ⟨d, h1, by omega, q⟩
theorem rg_ex_iff {p : Nat → Bool} : ∀ m k, rg_ex p m k = true ↔ ∃ i, k ≤ i ∧ i < k + m ∧ p i = true
  | 0, k => ⟨fun h => absurd h Bool.false_ne_true, fun ⟨i, h1, h2, _⟩ => absurd h1 (by omega)⟩
  | m + 1, k => by
    rw [rg_ex, Bool.or_eq_true, rg_ex_iff m (k + 1)]
    constructor
    · rintro (q | ⟨i, h1, h2, q⟩)
      · exact ⟨k, by omega, by omega, q⟩
      · exact ⟨i, by omega, by omega, q⟩
    · rintro ⟨i, h1, h2, q⟩
      by_cases c : i = k
      · exact Or.inl (c ▸ q)
      · exact Or.inr ⟨i, by omega, by omega, q⟩
theorem rg_shr_v : ∀ a, a < 40 → ((nI a).toInt64 &&& 63).toBitVec.smod 64#64 = BitVec.ofNat 64 a := by decide +kernel
theorem rg_shr_bit {X : Int64} {a : Nat} (ha : a < 40) : (X >>> ((nI a).toInt64 &&& 63)) &&& 1 = 1 ↔ rg_B8 X a := by
  rw [← Int64.toBitVec_inj, Int64.toBitVec_and, Int64.toBitVec_shiftRight]
  show BitVec.sshiftRight' X.toBitVec (((nI a).toInt64 &&& 63).toBitVec.smod 64#64) &&& 1#64 = 1#64 ↔ _
  unfold BitVec.sshiftRight' rg_B8
  rw [rg_shr_v a ha, BitVec.and_one_eq_setWidth_ofBool_getLsbD, BitVec.getLsbD_sshiftRight, BitVec.toNat_ofNat, Nat.mod_eq_of_lt (by omega)]
  simp only [Nat.add_zero, show a < 64 by omega, if_true]
  cases X.toBitVec.getLsbD a
  · simp
  · simp [show ¬ 64 ≤ a by omega]
theorem rg_B8_ext {X Y : Int64} : (X &&& Y = 0) ↔ ∀ b, b < 64 → ¬ (rg_B8 X b ∧ rg_B8 Y b) := by
  rw [← Int64.toBitVec_inj, Int64.toBitVec_and]
  unfold rg_B8
  constructor
  · intro h b hb q
    have := congrArg (fun z : BitVec 64 => z.getLsbD b) h
    simp only [BitVec.getLsbD_and, q.1, q.2] at this
    rw [show (0 : Int64).toBitVec = 0#64 from rfl, BitVec.getLsbD_zero] at this
    exact absurd this (by decide)
  · intro h
    apply BitVec.eq_of_getLsbD_eq
    intro i hi
    rw [BitVec.getLsbD_and, show (0 : Int64).toBitVec = 0#64 from rfl, BitVec.getLsbD_zero]
    have := h i hi
    cases h1 : X.toBitVec.getLsbD i <;> cases h2 : Y.toBitVec.getLsbD i <;> simp_all
theorem rg_ws_hi {w : Nat → Int32} {b : Nat} (hb : 40 ≤ b) : ∀ n, (∀ k, k < n → ∃ a, a < 40 ∧ w k = nI a) → ¬ rg_B8 (rg_ws w n) b
  | 0, _ => rg_B8_0
  | n + 1, h => by
    obtain ⟨a, ha, hw⟩ := h n (by omega)
    have e : rg_ws w (n + 1) = rg_ws w n ||| rg_bit (w n) := rfl
    rw [e, rg_B8_or, hw, rg_B8_bit ha]
    rintro (q | q)
    · exact rg_ws_hi hb n (fun k hk => h k (by omega)) q
    · omega
/-- some word of a row is in the set -/
theorem rg_ws_some {X : Int64} {w : Nat → Int32} {n : Nat} (h : ∀ k, k < n → ∃ a, a < 40 ∧ w k = nI a) : ¬ X &&& rg_ws w n = 0 ↔ ∃ i, i < n ∧ (X >>> ((w i).toInt64 &&& 63)) &&& 1 = 1 := by
  rw [rg_B8_ext]
  constructor
  · intro q
    apply Classical.byContradiction
    intro z
    apply q
    intro b hb ⟨q1, q2⟩
    by_cases c : b < 40
    · obtain ⟨k, hk, e⟩ := (rg_ws_bit c n h).mp q2
      exact z ⟨k, hk, by rw [e]; exact (rg_shr_bit c).mpr q1⟩
    · exact rg_ws_hi (by omega) n h q2
  · rintro ⟨i, hi, q⟩ z
    obtain ⟨a, ha, e⟩ := h i hi
    rw [e] at q
    exact z a (by omega) ⟨(rg_shr_bit ha).mp q, (rg_ws_bit ha n h).mpr ⟨i, hi, e⟩⟩
theorem rg_hasN {M : rg_Mem} {x : Int32} (h : rg_CI M) (hx : rg_has M x) : ∃ a, a < rg_nw M ∧ a < 40 ∧ x = nI a := by
  have h1 := rg_CI_w h
  have hv : vp_in x (rg_nw M) := rg_in_of (a := M.1 1 4) (m := nI (rg_nw M)) (by rw [nI_toInt (by omega)]) (by rw [h1.1]; exact Int32.le_refl _) hx.1 hx.2
  obtain ⟨a, ha, e⟩ := vp_in_of hv (by omega)
  exact ⟨a, ha, by omega, e⟩
theorem rg_rn_pos {s : Nat → Int32} {k : Nat} : 1 ≤ rg_rn s (s k) (k + 1) := by
  rw [rg_rn, if_pos rfl]
  omega
theorem rg_ff_ge {p : Nat → Bool} {n k : Nat} (h : k + n < 1000) : rg_ff p n k = -1 ↔ ∀ i, k ≤ i → i < k + n → p i = false := by
  constructor
  · exact rg_ff_none n k h
  · revert k
    induction n with
    | zero => intro k _ _; rfl
    | succ n ih =>
      intro k hk q
      rw [rg_ff, q k (by omega) (by omega)]
      exact ih (by omega) (fun i h1 h2 => q i (by omega) (by omega))
theorem rg_lw_255 {x : Int32} : rg_ff (rg_lw x) 8 0 = rg_ff (rg_lw (x &&& 255)) 8 0 := rg_ff_c 8 0 (fun i _ hi => by
  unfold rg_lw
  have e : ∀ y : Int32, ((y >>> (nI i &&& 31)) &&& 1 = 0) = (y.toBitVec.getLsbD i = false) := fun y => propext (rp_bit (by omega))
  have e2 : (x &&& 255).toBitVec.getLsbD i = x.toBitVec.getLsbD i := by
    rw [Int32.toBitVec_and, BitVec.getLsbD_and]
    have : ∀ i, i < 8 → (255 : Int32).toBitVec.getLsbD i = true := by decide +kernel
    rw [this i (by omega), Bool.and_true]
  have e3 : (((x >>> (nI i &&& 31)) &&& 1 = 0) ↔ (((x &&& 255) >>> (nI i &&& 31)) &&& 1 = 0)) := by rw [e, e, e2]
  exact decide_eq_decide.mpr (not_congr e3))
theorem rg_lw_0 : rg_ff (rg_lw 0) 8 0 = -1 := by decide +kernel
