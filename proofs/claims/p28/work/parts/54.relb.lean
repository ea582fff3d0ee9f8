theorem rp_s1 {a b : Int32} : a + 1 = b + 1 ↔ a = b := ⟨fun h => by have := congrArg (· - 1) h; simpa [lw_s2] using this, fun h => by rw [h]⟩
theorem rp_row_hit {M : rg_Mem} {i n k b : Nat} {w : Nat → Int32} (hr : rp_row M i n w) (hk : k < 6) : M.1 414 (6 * i + k) = nI b + 1 ↔ (b < 100000 → k < n ∧ w k = nI b) ∧ (¬ b < 100000 → M.1 414 (6 * i + k) = nI b + 1) := by
  constructor
  · intro q
    refine ⟨fun hb => ?_, fun _ => q⟩
    rw [hr k hk] at q
    by_cases c : k < n
    · rw [if_pos c, rp_s1] at q
      exact ⟨c, q⟩
    · rw [if_neg c, ← nI_succ] at q
      exact absurd q.symm (nI_ne0 (by omega) (by omega))
  · rintro ⟨h1, h2⟩
    by_cases c : b < 100000
    · obtain ⟨q1, q2⟩ := h1 c
      rw [hr k hk, if_pos q1, q2]
    · exact h2 c
theorem rp_hit {M : rg_Mem} {i n k b : Nat} {w : Nat → Int32} (hr : rp_row M i n w) (hk : k < 6) (hb : b < 100000) : M.1 414 (6 * i + k) = nI b + 1 ↔ k < n ∧ w k = nI b := by
  rw [rp_row_hit hr hk]
  exact ⟨fun q => q.1 hb, fun q => ⟨fun _ => q, fun z => absurd hb z⟩⟩
/-- AGAIN -/
theorem rp_apA {M : rg_Mem} {j n : Nat} {w r : Nat → Int32} (h : rp_Inv M) (hj : j ≤ rg_nl M) (hj10 : j < 10) (hr : ∀ k, k < 6 → r k = if k < n then w k + 1 else 0) (hn : n ≤ 6) (hw : rp_w w n) : rg_ff (lw_ap (lw_row M j r) j (rg_sp M)) 6 0 = rg_ff (rg_ag (rg_ra (rg_cwd M j) (rg_sp M)) w) n 0 := by
  have hl := rp_nl h
  have e := rp_ff_ext (p := lw_ap (lw_row M j r) j (rg_sp M)) (n := n) (6 - n) (fun i h1 h2 => by
    show (decide (¬ lw_t (lw_row M j r) (6 * j + i) = 0) && _) = false
    rw [rp_t0 (rp_rowA hr) (by omega) (by omega)]
    rfl)
  rw [show n + (6 - n) = 6 by omega] at e
  rw [e]
  refine rg_ff_c n 0 (fun k _ hk => ?_)
  have hN : ∀ k, k < n → ∃ a, a < 40 ∧ w k = nI a := fun k hk => by
    obtain ⟨a, h2, h3⟩ := hw k hk
    exact ⟨a, by omega, h3⟩
  obtain ⟨b, hb, eb⟩ := hw k (by omega)
  apply Bool.eq_iff_iff.mpr
  have e1 : rg_ag (rg_ra (rg_cwd M j) (rg_sp M)) w k = true ↔ (rg_B8 (rg_ra (rg_cwd M j) (rg_sp M)) b ∨ rg_B8 (rg_ws w k) b) := by
    unfold rg_ag
    rw [decide_eq_true_iff, eb, rg_and_bit (by omega), rg_B8_or, Classical.not_not]
  rw [e1, rg_ra_bit, rg_ws_bit (by omega) k (fun i hi => hN i (by omega))]
  have eX : (lw_row M j r).1 414 (6 * j + k) = nI b + 1 := (rp_hit (rp_rowA hr) (by omega) (by omega)).mpr ⟨by omega, eb⟩
  have et : lw_t (lw_row M j r) (6 * j + k) = b + 1 := by
    unfold lw_t
    rw [eX, ← nI_succ, nI_clamp (by omega)]
  show (decide (¬ lw_t (lw_row M j r) (6 * j + k) = 0) && (lw_an (lw_hp (lw_row M j r) j ((lw_row M j r).1 414 (6 * j + k))) k || lw_an (lw_hq (lw_row M j r) j ((lw_row M j r).1 414 (6 * j + k))) (min (rg_sp M) j))) = true ↔ _
  rw [et, eX, decide_eq_true (show ¬ b + 1 = 0 by omega), Bool.true_and, Bool.or_eq_true, lw_an_iff, lw_an_iff]
  constructor
  · rintro (⟨i, hi, q⟩ | ⟨d, hd, q⟩)
    · right
      have q := of_decide_eq_true q
      exact ⟨i, hi, ((rp_hit (rp_rowA hr) (by omega) (by omega)).mp q).2⟩
    · left
      rw [lw_an_iff] at q
      obtain ⟨i, hi, q⟩ := q
      have q := of_decide_eq_true q
      have f := rp_vs h (j := j - (d + 1)) (by omega)
      have q := (rp_hit (rp_rowB (by omega) ((rp_t h).1 (j - (d + 1)) (by omega)).1) hi (by omega)).mp q
      refine ⟨d + 1, by omega, by omega, ?_⟩
      unfold rg_cwd
      rw [if_pos (by omega), f.2.2.2.2.2.2]
      exact (rg_ws_bit (by omega) _ (fun i hi => by
        obtain ⟨a, z2, z3⟩ := rp_VSw h f i hi
        exact ⟨a, by omega, z3⟩)).mpr ⟨i, q.1, q.2⟩
  · rintro (⟨d, h1, h2, q⟩ | ⟨i, hi, q⟩)
    · right
      unfold rg_cwd at q
      by_cases c : d ≤ j
      · rw [if_pos c] at q
        have f := rp_vs h (j := j - d) (by omega)
        rw [f.2.2.2.2.2.2] at q
        obtain ⟨i, hi, q⟩ := (rg_ws_bit (by omega) _ (fun i hi => by
          obtain ⟨a, z2, z3⟩ := rp_VSw h f i hi
          exact ⟨a, by omega, z3⟩)).mp q
        refine ⟨d - 1, by omega, ?_⟩
        rw [lw_an_iff]
        have := f.2.1
        refine ⟨i, by omega, decide_eq_true ?_⟩
        rw [show j - (d - 1 + 1) = j - d by omega]
        exact (rp_hit (rp_rowB (by omega) ((rp_t h).1 (j - d) (by omega)).1) (by omega) (by omega)).mpr ⟨hi, q⟩
      · rw [if_neg c] at q
        exact absurd q rg_B8_0
    · left
      exact ⟨i, hi, decide_eq_true ((rp_hit (rp_rowA hr) (by omega) (by omega)).mpr ⟨by omega, q⟩)⟩
/-- one bit of a number, as an int and as a long -/
theorem rp_bit2 {v b : Nat} (hv : v < 65536) (hb : b < 16) : ((nI v >>> (nI b &&& 31)) &&& 1 = 1) ↔ (((nI v).toInt64 >>> ((nI b).toInt64 &&& 63)) &&& 1 = 1) := by
  rw [rg_shr_bit (by omega), lw_b1, rp_bit (by omega)]
  unfold rg_B8
  have e1 : (nI v).toBitVec = BitVec.ofNat 32 v := rfl
  have e2 : ((nI v).toInt64).toBitVec = BitVec.ofNat 64 v := by
    show (nI v).toBitVec.signExtend 64 = _
    rw [e1]
    apply BitVec.eq_of_toInt_eq
    rw [BitVec.toInt_signExtend_of_le (by omega), BitVec.toInt_eq_toNat_of_lt (by rw [BitVec.toNat_ofNat]; omega), BitVec.toInt_eq_toNat_of_lt (by rw [BitVec.toNat_ofNat]; omega), BitVec.toNat_ofNat, BitVec.toNat_ofNat, Nat.mod_eq_of_lt (by omega), Nat.mod_eq_of_lt (by omega)]
  rw [e1, e2, BitVec.getLsbD_ofNat, BitVec.getLsbD_ofNat]
  simp [show b < 32 by omega, show b < 64 by omega]
/-- JOIN -/
theorem rp_and255 (x : Int32) : ¬ x &&& 255 ≤ 0 ↔ ¬ x &&& 255 = 0 := by
  rw [pk_and x (m := 255) 8 rfl, lw_le0 (by omega)]
  exact not_congr ⟨fun q => by rw [q]; rfl, fun q => rg_nI0 (by omega) q⟩
theorem rp_j5A {M : rg_Mem} {j n : Nat} {w r : Nat → Int32} (h : rp_Inv M) (hj : j ≤ rg_nl M) (hj10 : j < 10) (hj1 : 1 ≤ j) (hr : ∀ k, k < 6 → r k = if k < n then w k + 1 else 0) (hn : n ≤ 6) (hw : rp_w w n) : lw_j5 (lw_row M j r) j ↔ (¬ (rg_og (M.1 4) w n &&& M.1 (17 + 2 * (j - 1)) 4) &&& 255 = 0 ∨ rg_ex (fun k => decide (¬ M.2 5 (w k).toNatClampNeg &&& M.2 (17 + 2 * (j - 1)) 5 = 0)) n 0 = true) := by
  have hl : j - 1 < rg_nl M := by omega
  have f := rp_vs h hl
  have hN : ∀ k, k < rg_sz M (17 + 2 * (j - 1)) → ∃ a, a < 40 ∧ M.1 (17 + 2 * (j - 1) + 1) k = nI a := fun k hk => by
    obtain ⟨a, h2, h3⟩ := rp_VSw h f k hk
    exact ⟨a, by omega, h3⟩
  unfold lw_j5
  rw [Bool.or_eq_true, decide_eq_true_iff, rp_and255, rp_sgnA hr hn hw, rp_sgnB h hl (by omega), lw_an_iff, rg_ex_iff]
  refine or_congr Iff.rfl ?_
  have rB := rp_rowB (r := r) (show j - 1 ≠ j by omega) ((rp_t h).1 (j - 1) hl).1
  have e6 : ∀ k, 6 * j - 6 + k = 6 * (j - 1) + k := fun k => by omega
  constructor
  · rintro ⟨k, hk, q⟩
    have q : (decide (¬ lw_t (lw_row M j r) (6 * j + k / 6) = 0) && (decide (¬ lw_t (lw_row M j r) (6 * j - 6 + k % 6) = 0) && decide (((lw_row M j r).1 413 (lw_t (lw_row M j r) (6 * j + k / 6) - 1) >>> (nI (lw_t (lw_row M j r) (6 * j - 6 + k % 6) - 1) &&& 31)) &&& 1 = 1))) = true := q
    rw [Bool.and_eq_true, Bool.and_eq_true, decide_eq_true_iff, decide_eq_true_iff, decide_eq_true_iff, e6, lw_row_c (by omega)] at q
    obtain ⟨q1, q2, q3⟩ := q
    have k1 : k / 6 < n := by
      rcases Nat.lt_or_ge (k / 6) n with z | z
      · exact z
      · exact absurd (rp_t0 (rp_rowA hr) (by omega) (by omega)) q1
    have k2 : k % 6 < rg_sz M (17 + 2 * (j - 1)) := by
      rcases Nat.lt_or_ge (k % 6) (rg_sz M (17 + 2 * (j - 1))) with z | z
      · exact z
      · exact absurd (rp_t0 rB (by omega) (by omega)) q2
    obtain ⟨a, ha, ea⟩ := hw _ k1
    obtain ⟨b, hb, eb⟩ := rp_VSw h f _ k2
    rw [rp_t1 (rp_rowA hr) hw (by omega) k1, rp_t1 rB (rp_VSw h f) (by omega) k2, Nat.add_sub_cancel, Nat.add_sub_cancel, ea, eb, nI_clamp (by omega), nI_clamp (by omega)] at q3
    obtain ⟨v, hv, ev, ec⟩ := rp_c h a ha
    refine ⟨k / 6, by omega, by omega, decide_eq_true ?_⟩
    rw [ea, nI_clamp (by omega), f.2.2.2.2.2.2, rg_ws_some hN]
    refine ⟨k % 6, k2, ?_⟩
    rw [eb, ec]
    rw [ev] at q3
    exact (rp_bit2 hv hb).mp q3
  · rintro ⟨i, _, hi, q⟩
    have q := of_decide_eq_true q
    rw [f.2.2.2.2.2.2, rg_ws_some hN] at q
    obtain ⟨z, hz, q⟩ := q
    have hz6 := f.2.1
    obtain ⟨a, ha, ea⟩ := hw i (by omega)
    obtain ⟨b, hb, eb⟩ := rp_VSw h f z hz
    obtain ⟨v, hv, ev, ec⟩ := rp_c h a ha
    refine ⟨6 * i + z, by omega, ?_⟩
    show (decide (¬ lw_t (lw_row M j r) (6 * j + (6 * i + z) / 6) = 0) && (decide (¬ lw_t (lw_row M j r) (6 * j - 6 + (6 * i + z) % 6) = 0) && decide (((lw_row M j r).1 413 (lw_t (lw_row M j r) (6 * j + (6 * i + z) / 6) - 1) >>> (nI (lw_t (lw_row M j r) (6 * j - 6 + (6 * i + z) % 6) - 1) &&& 31)) &&& 1 = 1))) = true
    rw [show (6 * i + z) / 6 = i by omega, show (6 * i + z) % 6 = z by omega, e6, Bool.and_eq_true, Bool.and_eq_true, decide_eq_true_iff, decide_eq_true_iff, decide_eq_true_iff, rp_t1 (rp_rowA hr) hw (by omega) (by omega), rp_t1 rB (rp_VSw h f) (by omega) hz, lw_row_c (by omega), Nat.add_sub_cancel, Nat.add_sub_cancel, ea, eb, nI_clamp (by omega), nI_clamp (by omega)]
    refine ⟨by omega, by omega, ?_⟩
    rw [ev]
    rw [ea, nI_clamp (by omega), ec, eb] at q
    exact (rp_bit2 hv hb).mpr q
/-- all eight -/
theorem rp_par {j : Nat} : (nI j &&& 1 = 0) ↔ j % 2 = 0 := by
  have e : nI j &&& 1 = nI (j % 2) := by
    rw [pk_and (nI j) (m := 1) 1 rfl]
    show nI ((j % 2 ^ 32) % 2 ^ 1) = _
    congr 1
    omega
  rw [e]
  exact ⟨fun q => rg_nI0 (by omega) q, fun q => by rw [q]; rfl⟩
theorem rp_csA {M : rg_Mem} {j n : Nat} {w r : Nat → Int32} {po : Int32} (h : rp_Inv M) (hj : j ≤ rg_nl M) (hj10 : j < 10) (hr : ∀ k, k < 6 → r k = if k < n then w k + 1 else 0) (hn : n ≤ 6) (hw : rp_w w n) (hpo : po = -1 ∨ ¬ po < 0) : ∀ t, 1 ≤ t → t ≤ 8 → lw_cs (lw_row M j r) j (rg_sp M) po t = rg_cq M w n j (rg_sp M) po t := by
  intro t ht1 ht8
  have hl := rp_nl h
  have hm := rp_m h
  rcases (show t = 1 ∨ t = 2 ∨ t = 3 ∨ t = 4 ∨ t = 5 ∨ t = 6 ∨ t = 7 ∨ t = 8 by omega) with e | e | e | e | e | e | e | e <;> subst e
  · show (if lw_sum (lw_row M j r) j = (lw_row M j r).1 417 (1 + j % 2) then _ else lw_sum (lw_row M j r) j) = if rg_sm (M.1 2) w n = (if nI j &&& 1 = 0 then M.1 6 2 else M.1 6 3) then -1 else rg_sm (M.1 2) w n
    rw [rp_sum (rp_rowA hr) hw hn, lw_row_c (by omega), lw_row_c (by omega)]
    have e : M.1 417 (1 + j % 2) = if nI j &&& 1 = 0 then M.1 6 2 else M.1 6 3 := by
      by_cases c : j % 2 = 0
      · rw [if_pos (rp_par.mpr c), c]; exact hm.2.1
      · rw [if_neg (fun q => c (rp_par.mp q)), show 1 + j % 2 = 2 by omega]; exact hm.2.2.1
    rw [e]
  · exact rp_mpA hr hn hw
  · exact rp_apA h hj hj10 hr hn hw
  · show (if 1 ≤ j ∧ ¬ po < 0 ∧ (lw_row M j r).1 415 (4 * j - 4) = po then po else -1) = if po = (if 1 ≤ j then M.1 9 (j - 1) else -1) then po else -1
    rw [lw_row_c (by omega)]
    rcases hpo with q | q
    · subst q
      simp
    · by_cases c : 1 ≤ j
      · rw [if_pos c, show 4 * j - 4 = 4 * (j - 1) by omega, ((rp_l h (j - 1) (by omega)).2.1 (by omega)).1]
        by_cases z : M.1 9 (j - 1) = po
        · rw [if_pos ⟨c, q, z⟩, if_pos z.symm]
        · rw [if_neg (fun y => z y.2.2), if_neg (fun y => z y.symm)]
      · rw [if_neg (fun y => c y.1), if_neg c]
        by_cases z : po = -1
        · rw [if_pos z, z]
        · rw [if_neg z]
  · show (if j = 0 ∨ lw_j5 (lw_row M j r) j then (-1 : Int32) else nI j - 1) = if j = 0 ∨ _ then -1 else nI j - 1
    by_cases c : j = 0
    · rw [if_pos (Or.inl c), if_pos (Or.inl c)]
    · have e := rp_j5A h hj hj10 (by omega) hr hn hw
      by_cases z : lw_j5 (lw_row M j r) j
      · rw [if_pos (Or.inr z), if_pos (Or.inr (e.mp z))]
      · rw [if_neg (fun y => y.elim c z), if_neg (fun y => y.elim c (fun x => z (e.mpr x)))]
  · exact rp_lvA h hj hr hn hw
  · exact rp_wrA h hj hj10 hr hn hw
  · show rg_wst (lw_sgn (lw_row M j r) j) ((lw_row M j r).1 415 (4 * j + 1)) = rg_wst (rg_og (M.1 4) w n) (if j < 36 then M.1 7 j else 0)
    rw [rp_sgnA hr hn hw, lw_row_c (by omega), if_pos (by omega), (rp_l h j hj10).1]
