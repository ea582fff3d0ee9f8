/-! sets of words as bits -/
def rg_B8 (X : Int64) (a : Nat) : Prop := X.toBitVec.getLsbD a = true
theorem rg_bit_v : ∀ a, a < 40 → (rg_bit (nI a)).toBitVec = BitVec.twoPow 64 a ∧ BitVec.twoPow 64 a ≠ 0#64 := by decide +kernel
theorem rg_and_bit {X : Int64} {a : Nat} (ha : a < 40) : X &&& rg_bit (nI a) = 0 ↔ ¬ rg_B8 X a := by
  obtain ⟨h1, h2⟩ := rg_bit_v a ha
  rw [← Int64.toBitVec_inj, Int64.toBitVec_and, h1, BitVec.and_twoPow]
  unfold rg_B8
  by_cases h : X.toBitVec.getLsbD a = true
  · rw [if_pos h]
    exact ⟨fun q => absurd q h2, fun q => absurd h q⟩
  · rw [if_neg h]
    exact ⟨fun _ => h, fun _ => rfl⟩
theorem rg_B8_or {X Y : Int64} {a : Nat} : rg_B8 (X ||| Y) a ↔ rg_B8 X a ∨ rg_B8 Y a := by
  unfold rg_B8
  rw [Int64.toBitVec_or, BitVec.getLsbD_or, Bool.or_eq_true]
theorem rg_B8_0 {a : Nat} : ¬ rg_B8 0 a := by
  unfold rg_B8
  rw [show (0 : Int64).toBitVec = 0#64 from rfl, BitVec.getLsbD_zero]
  exact Bool.false_ne_true
theorem rg_B8_bit {a b : Nat} (ha : a < 40) : rg_B8 (rg_bit (nI a)) b ↔ a = b := by
  unfold rg_B8
  rw [(rg_bit_v a ha).1, BitVec.getLsbD_twoPow]
  simp
  intro _
  omega
theorem rg_ws_bit {w : Nat → Int32} {b : Nat} (hb : b < 40) : ∀ n, (∀ k, k < n → ∃ a, a < 40 ∧ w k = nI a) → (rg_B8 (rg_ws w n) b ↔ ∃ k, k < n ∧ w k = nI b)
  | 0, _ => ⟨fun h => absurd h rg_B8_0, fun ⟨k, hk, _⟩ => absurd hk (by omega)⟩
  | n + 1, h => by
    obtain ⟨a, ha, hw⟩ := h n (by omega)
    have e : rg_ws w (n + 1) = rg_ws w n ||| rg_bit (w n) := rfl
    rw [e, rg_B8_or, rg_ws_bit hb n (fun k hk => h k (by omega)), hw, rg_B8_bit ha]
    constructor
    · rintro (⟨k, hk, q⟩ | q)
      · exact ⟨k, by omega, q⟩
      · exact ⟨n, by omega, by rw [hw, q]⟩
    · rintro ⟨k, hk, q⟩
      by_cases c : k < n
      · exact Or.inl ⟨k, c, q⟩
      · have c2 : k = n := by omega
        rw [c2, hw] at q
        exact Or.inr ((nI_eq (by omega) (by omega)).mp q)
theorem rg_ra_bit {f : Nat → Int64} {b : Nat} : ∀ n, rg_B8 (rg_ra f n) b ↔ ∃ d, 1 ≤ d ∧ d ≤ n ∧ rg_B8 (f d) b
  | 0 => ⟨fun h => absurd h rg_B8_0, fun ⟨d, h1, h2, _⟩ => absurd h1 (by omega)⟩
  | n + 1 => by
    rw [rg_ra, rg_B8_or, rg_ra_bit n]
    constructor
    · rintro (q | ⟨d, h1, h2, q⟩)
      · exact ⟨n + 1, by omega, by omega, q⟩
      · exact ⟨d, h1, by omega, q⟩
    · rintro ⟨d, h1, h2, q⟩
      by_cases c : d = n + 1
      · exact Or.inl (c ▸ q)
      · exact Or.inr ⟨d, h1, by omega, q⟩
theorem rg_ex_iff {p : Nat → Bool} : ∀ m k, rg_ex p m k = true ↔ ∃ i, k ≤ i ∧ i < k + m ∧ p i = true
  | 0, k => ⟨fun h => absurd h Bool.false_ne_true, fun ⟨i, h1, h2, _⟩ => absurd h1 (by omega)⟩
  | m + 1, k => by
    rw [rg_ex, Bool.or_eq_true, rg_ex_iff m (k + 1)]
    constructor
    · rintro (q | ⟨i, h1, h2, q⟩)
      · exact ⟨k, by omega, by omega, q⟩
      · exact ⟨i, by omega, by omega, q⟩
    · rintro ⟨i, h1, h2, q⟩
      by_cases c : i = k
      · exact Or.inl (c ▸ q)
      · exact Or.inr ⟨i, by omega, by omega, q⟩
theorem rm_an_iff {p : Nat → Bool} : ∀ n, rm_an p n = true ↔ ∃ i, i < n ∧ p i = true
  | 0 => ⟨fun h => absurd h Bool.false_ne_true, fun ⟨i, h1, _⟩ => absurd h1 (by omega)⟩
  | n + 1 => by
    rw [rm_an, Bool.or_eq_true, rm_an_iff n]
    constructor
    · rintro (⟨i, h1, q⟩ | q)
      · exact ⟨i, by omega, q⟩
      · exact ⟨n, by omega, q⟩
    · rintro ⟨i, h1, q⟩
      by_cases c : i = n
      · exact Or.inr (c ▸ q)
      · exact Or.inl ⟨i, by omega, q⟩
theorem rg_shr_v : ∀ a, a < 40 → ((nI a).toInt64 &&& 63).toBitVec.smod 64#64 = BitVec.ofNat 64 a := by decide +kernel
theorem rg_shr_bit {X : Int64} {a : Nat} (ha : a < 40) : (X >>> ((nI a).toInt64 &&& 63)) &&& 1 = 1 ↔ rg_B8 X a := by
  rw [← Int64.toBitVec_inj, Int64.toBitVec_and, Int64.toBitVec_shiftRight]
  show BitVec.sshiftRight' X.toBitVec (((nI a).toInt64 &&& 63).toBitVec.smod 64#64) &&& 1#64 = 1#64 ↔ _
  unfold BitVec.sshiftRight' rg_B8
  rw [rg_shr_v a ha, BitVec.and_one_eq_setWidth_ofBool_getLsbD, BitVec.getLsbD_sshiftRight, BitVec.toNat_ofNat, Nat.mod_eq_of_lt (by omega)]
  simp only [Nat.add_zero, show a < 64 by omega, if_true]
  cases X.toBitVec.getLsbD a
  · simp
  · simp [show ¬ 64 ≤ a by omega]
theorem rg_B8_ext {X Y : Int64} : (X &&& Y = 0) ↔ ∀ b, b < 64 → ¬ (rg_B8 X b ∧ rg_B8 Y b) := by
  rw [← Int64.toBitVec_inj, Int64.toBitVec_and]
  unfold rg_B8
  constructor
  · intro h b hb q
    have := congrArg (fun z : BitVec 64 => z.getLsbD b) h
    simp only [BitVec.getLsbD_and, q.1, q.2] at this
    rw [show (0 : Int64).toBitVec = 0#64 from rfl, BitVec.getLsbD_zero] at this
    exact absurd this (by decide)
  · intro h
    apply BitVec.eq_of_getLsbD_eq
    intro i hi
    rw [BitVec.getLsbD_and, show (0 : Int64).toBitVec = 0#64 from rfl, BitVec.getLsbD_zero]
    have := h i hi
    cases h1 : X.toBitVec.getLsbD i <;> cases h2 : Y.toBitVec.getLsbD i <;> simp_all
theorem rg_ws_hi {w : Nat → Int32} {b : Nat} (hb : 40 ≤ b) : ∀ n, (∀ k, k < n → ∃ a, a < 40 ∧ w k = nI a) → ¬ rg_B8 (rg_ws w n) b
  | 0, _ => rg_B8_0
  | n + 1, h => by
    obtain ⟨a, ha, hw⟩ := h n (by omega)
    have e : rg_ws w (n + 1) = rg_ws w n ||| rg_bit (w n) := rfl
    rw [e, rg_B8_or, hw, rg_B8_bit ha]
    rintro (q | q)
    · exact rg_ws_hi hb n (fun k hk => h k (by omega)) q
    · omega
/-- some word of a row is in the set -/
theorem rg_ws_some {X : Int64} {w : Nat → Int32} {n : Nat} (h : ∀ k, k < n → ∃ a, a < 40 ∧ w k = nI a) : ¬ X &&& rg_ws w n = 0 ↔ ∃ i, i < n ∧ (X >>> ((w i).toInt64 &&& 63)) &&& 1 = 1 := by
  rw [rg_B8_ext]
  constructor
  · intro q
    apply Classical.byContradiction
    intro z
    apply q
    intro b hb ⟨q1, q2⟩
    by_cases c : b < 40
    · obtain ⟨k, hk, e⟩ := (rg_ws_bit c n h).mp q2
      exact z ⟨k, hk, by rw [e]; exact (rg_shr_bit c).mpr q1⟩
    · exact rg_ws_hi (by omega) n h q2
  · rintro ⟨i, hi, q⟩ z
    obtain ⟨a, ha, e⟩ := h i hi
    rw [e] at q
    exact z a (by omega) ⟨(rg_shr_bit ha).mp q, (rg_ws_bit ha n h).mpr ⟨i, hi, e⟩⟩
theorem rg_hasN {M : rg_Mem} {x : Int32} (h : rg_CI M) (hx : rg_has M x) : ∃ a, a < rg_nw M ∧ a < 40 ∧ x = nI a := by
  have h1 := rg_CI_w h
  have hv : vp_in x (rg_nw M) := rg_in_of (a := M.1 1 4) (m := nI (rg_nw M)) (by rw [nI_toInt (by omega)]) (by rw [h1.1]; exact Int32.le_refl _) hx.1 hx.2
  obtain ⟨a, ha, e⟩ := vp_in_of hv (by omega)
  exact ⟨a, ha, by omega, e⟩
theorem rg_sm_n {M : rg_Mem} {w : Nat → Int32} (h : rg_Inv M) : ∀ n, n ≤ 6 → (∀ k, k < n → rg_has M (w k)) → ∃ s, s ≤ 12 * n ∧ rg_sm (M.1 2) w n = nI s
  | 0, _, _ => ⟨0, by omega, rfl⟩
  | n + 1, hn, hw => by
    obtain ⟨s, hs, e⟩ := rg_sm_n h n (by omega) (fun k hk => hw k (by omega))
    obtain ⟨a, ha, ha40, ea⟩ := rg_hasN (rg_Inv_ci h) (hw n (by omega))
    obtain ⟨⟨q, hq, eq⟩, _⟩ := (rg_Inv_w h).2.2.2.2.2.2.2 a ha
    exact ⟨s + q, by omega, by rw [rg_sm, e, ea, nI_clamp (by omega), eq, nI_add]⟩
