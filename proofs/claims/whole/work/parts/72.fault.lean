/-! the class's faults are the model's -/
section FE
variable {M : rg_Mem}
theorem rm_son_i (h : rg_Inv M) {l : Nat} (hl : l < rg_nl M) : rm_son M l = rg_cs M l := by
  have f := (rg_Inv_v h).2.1 l hl
  unfold rm_son rg_cs
  rw [rm_z_i h hl, f.1.2.2.2.2.1, (rg_Inv_w h).2.2.2.2.1]
  exact rg_fi_c (fun k hk => f.2.2.1 k hk)
theorem rm_sgn_i (h : rg_Inv M) {l : Nat} (hl : l < rg_nl M) : rm_sgn M l = M.1 (17 + 2 * l) 4 := by
  have f := (rg_Inv_v h).2.1 l hl
  unfold rm_sgn
  rw [rm_z_i h hl, f.1.2.2.2.2.2.1, (rg_Inv_w h).2.2.2.2.2.1]
  exact rg_og_c (fun k hk => f.2.2.1 k hk)
theorem rm_rn_i (h : rg_Inv M) {l : Nat} (hl : l < rg_nl M) : rm_rn M l = if rg_cs M l = -1 then 0 else nI (rg_rn (rg_cs M) (rg_cs M l) (l + 1)) := by
  unfold rm_rn
  rw [rm_son_i h hl, rg_rn_c (l + 1) (fun i hi => rm_son_i h (l := i) (by omega))]
theorem rg_rn_pos {s : Nat → Int32} {k : Nat} : 1 ≤ rg_rn s (s k) (k + 1) := by
  rw [rg_rn, if_pos rfl]
  omega
theorem rg_ff_ge {p : Nat → Bool} {n k : Nat} (h : k + n < 1000) : rg_ff p n k = -1 ↔ ∀ i, k ≤ i → i < k + n → p i = false := by
  constructor
  · exact rg_ff_none n k h
  · revert k
    induction n with
    | zero => intro k _ _; rfl
    | succ n ih =>
      intro k hk q
      rw [rg_ff, q k (by omega) (by omega)]
      exact ih (by omega) (fun i h1 h2 => q i (by omega) (by omega))
/-- AGAIN -/
theorem rg_ag_dp (h : rg_Inv M) {w : Nat → Int32} {n j k : Nat} (hn : n ≤ 6) (hw : ∀ k, k < n → rg_has M (w k)) (hj : j ≤ rg_nl M) (hk : k < n) : rg_ag (rg_ra (rg_cwd M j) (rg_sp M)) w k = rm_dp M w j k := by
  have hI := rg_Inv_ci h
  have hN : ∀ k, k < n → ∃ a, a < 40 ∧ w k = nI a := fun k hk => by
    obtain ⟨a, _, h2, h3⟩ := rg_hasN hI (hw k hk)
    exact ⟨a, h2, h3⟩
  obtain ⟨b, hb, eb⟩ := hN k hk
  apply Bool.eq_iff_iff.mpr
  have e1 : rg_ag (rg_ra (rg_cwd M j) (rg_sp M)) w k = true ↔ (rg_B8 (rg_ra (rg_cwd M j) (rg_sp M)) b ∨ rg_B8 (rg_ws w k) b) := by
    unfold rg_ag
    rw [decide_eq_true_iff, eb, rg_and_bit hb, rg_B8_or, Classical.not_not]
  rw [e1, rg_ra_bit, rg_ws_bit hb k (fun i hi => hN i (by omega))]
  unfold rm_dp
  rw [Bool.or_eq_true, rg_ex_iff, rg_ex_iff, rm_sp_i h]
  constructor
  · rintro (⟨d, h1, h2, q⟩ | ⟨i, hi, q⟩)
    · right
      unfold rg_cwd at q
      by_cases c : d ≤ j
      · rw [if_pos c] at q
        have f := (rg_Inv_v h).2.1 (j - d) (by omega)
        rw [f.1.2.2.2.2.2.2] at q
        obtain ⟨i, hi, q⟩ := (rg_ws_bit hb _ (fun i hi => by
          obtain ⟨a, _, z2, z3⟩ := rg_hasN hI (f.1.2.2.1 i hi)
          exact ⟨a, z2, z3⟩)).mp q
        refine ⟨d, h1, by omega, ?_⟩
        unfold rm_dB
        rw [if_pos c, rg_ex_iff]
        refine ⟨i, by omega, by rw [rm_z_i h (by omega)]; omega, ?_⟩
        unfold rm_dC
        rw [decide_eq_true_iff, f.2.2.1 i hi, q, eb]
      · rw [if_neg c] at q
        exact absurd q rg_B8_0
    · left
      exact ⟨i, by omega, by omega, by unfold rm_dA; rw [decide_eq_true_iff, q, eb]⟩
  · rintro (⟨i, h1, h2, q⟩ | ⟨d, h1, h2, q⟩)
    · right
      unfold rm_dA at q
      exact ⟨i, by omega, by rw [of_decide_eq_true q, eb]⟩
    · left
      unfold rm_dB at q
      by_cases c : d ≤ j
      · rw [if_pos c, rg_ex_iff] at q
        obtain ⟨i, _, hi, q⟩ := q
        have f := (rg_Inv_v h).2.1 (j - d) (by omega)
        rw [rm_z_i h (by omega)] at hi
        unfold rm_dC at q
        have q := of_decide_eq_true q
        rw [f.2.2.1 i (by omega)] at q
        refine ⟨d, h1, by omega, ?_⟩
        unfold rg_cwd
        rw [if_pos c, f.1.2.2.2.2.2.2]
        exact (rg_ws_bit hb _ (fun i hi => by
          obtain ⟨a, _, z2, z3⟩ := rg_hasN hI (f.1.2.2.1 i hi)
          exact ⟨a, z2, z3⟩)).mpr ⟨i, by omega, by rw [q, eb]⟩
      · rw [if_neg c] at q
        exact absurd q Bool.false_ne_true
/-- JOIN -/
theorem rg_jo_i (h : rg_Inv M) {w : Nat → Int32} {n j : Nat} (hw : ∀ k, k < n → rg_has M (w k)) (hj : j ≤ rg_nl M) (hj1 : 1 ≤ j) : (¬ (rg_og (M.1 4) w n &&& M.1 (17 + 2 * (j - 1)) 4) &&& 255 = 0 ∨ rg_ex (fun k => decide (¬ M.2 5 (w k).toNatClampNeg &&& M.2 (17 + 2 * (j - 1)) 5 = 0)) n 0 = true) ↔ rm_jo M w n j = true := by
  have hI := rg_Inv_ci h
  have hl : j - 1 < rg_nl M := by omega
  have f := (rg_Inv_v h).2.1 (j - 1) hl
  have hN : ∀ k, k < rg_sz M (17 + 2 * (j - 1)) → ∃ a, a < 40 ∧ M.1 (17 + 2 * (j - 1) + 1) k = nI a := fun k hk => by
    obtain ⟨a, _, h2, h3⟩ := rg_hasN hI (f.1.2.2.1 k hk)
    exact ⟨a, h2, h3⟩
  unfold rm_jo rm_jG
  rw [Bool.or_eq_true, decide_eq_true_iff, rm_sgn_i h hl, (rg_Inv_w h).2.2.2.2.2.1, rg_ex_iff, rm_an_iff]
  refine or_congr Iff.rfl ?_
  constructor
  · rintro ⟨i, _, hi, q⟩
    refine ⟨i, by omega, ?_⟩
    have q := of_decide_eq_true q
    rw [f.1.2.2.2.2.2.2, rg_ws_some hN] at q
    obtain ⟨z, hz, q⟩ := q
    unfold rm_jP
    rw [rm_an_iff]
    refine ⟨z, by rw [rm_z_i h hl]; exact hz, ?_⟩
    unfold rm_jQ
    rw [decide_eq_true_iff, (rg_Inv_w h).2.2.2.2.2.2.1, f.2.2.1 z hz]
    exact q
  · rintro ⟨i, hi, q⟩
    refine ⟨i, by omega, by omega, ?_⟩
    unfold rm_jP at q
    rw [rm_an_iff] at q
    obtain ⟨z, hz, q⟩ := q
    rw [rm_z_i h hl] at hz
    unfold rm_jQ at q
    rw [decide_eq_true_iff, (rg_Inv_w h).2.2.2.2.2.2.1, f.2.2.1 z hz] at q
    rw [decide_eq_true_iff, f.1.2.2.2.2.2.2, rg_ws_some hN]
    exact ⟨z, hz, q⟩
/-- LEAVE -/
theorem rg_lw_255 {x : Int32} : rg_ff (rg_lw x) 8 0 = rg_ff (rg_lw (x &&& 255)) 8 0 := rg_ff_c 8 0 (fun i _ hi => by
  unfold rg_lw
  have e : ∀ y : Int32, ((y >>> (nI i &&& 31)) &&& 1 = 0) = (y.toBitVec.getLsbD i = false) := fun y => propext (rm_bit (by omega))
  have e2 : (x &&& 255).toBitVec.getLsbD i = x.toBitVec.getLsbD i := by
    rw [Int32.toBitVec_and, BitVec.getLsbD_and]
    have : ∀ i, i < 8 → (255 : Int32).toBitVec.getLsbD i = true := by decide +kernel
    rw [this i (by omega), Bool.and_true]
  have e3 : (((x >>> (nI i &&& 31)) &&& 1 = 0) ↔ (((x &&& 255) >>> (nI i &&& 31)) &&& 1 = 0)) := by rw [e, e, e2]
  exact decide_eq_decide.mpr (not_congr e3))
theorem rg_lw_0 : rg_ff (rg_lw 0) 8 0 = -1 := by decide +kernel
/-- LENGTH -/
theorem rg_lenx0 {c A R : Int32} {x : Bool} {G H : Prop} [Decidable G] [Decidable H] (hGH : c = A → (H ↔ G)) (h1 : ¬ A = -1 → (1 : Int32) ≤ R) : (if ¬ A = -1 ∧ ¬ c = A ∧ ¬ (if G then 3 else 1) ≤ R then A else if ¬ A = -1 ∧ c = A ∧ ¬ R < (if G then 5 else 3) then A else if ¬ c = -1 ∧ ¬ c = A ∧ x = true then c else -1) = (if ¬ A = -1 ∧ G ∧ ¬ 3 ≤ R ∧ ¬ c = A then A else if c = -1 then -1 else if c = A then (if R < (if H then 5 else 3) then -1 else c) else if x = true then c else -1) := by
  by_cases b : c = A
  · have hh := hGH b
    subst b
    by_cases a : c = -1
    · simp [a]
    · by_cases g : G
      · have g2 := hh.mpr g
        by_cases f : R < 5 <;> simp [a, g, g2, f]
      · have g2 : ¬ H := fun q => g (hh.mp q)
        by_cases f3 : R < 3 <;> simp [a, g, g2, f3]
  · by_cases a : A = -1
    · by_cases d : c = -1
      · simp [a, d]
      · have b2 : ¬ c = -1 := d
        cases x <;> simp [a, d]
    · have h1 := h1 a
      by_cases d : c = -1
      · have b2 : ¬ (-1 : Int32) = A := fun q => a q.symm
        by_cases g : G <;> by_cases e : (3 : Int32) ≤ R <;> simp [a, b2, d, g, e, h1]
      · by_cases g : G <;> by_cases e : (3 : Int32) ≤ R <;> cases x <;> simp [a, b, d, g, e, h1]
theorem rg_lenx {c A R : Int32} {x : Bool} (h1 : ¬ A = -1 → (1 : Int32) ≤ R) : (if ¬ A = -1 ∧ ¬ c = A ∧ ¬ (if rg_lg A then 3 else 1) ≤ R then A else if ¬ A = -1 ∧ c = A ∧ ¬ R < (if rg_lg A then 5 else 3) then A else if ¬ c = -1 ∧ ¬ c = A ∧ x = true then c else -1) = (if ¬ A = -1 ∧ rg_lg A ∧ ¬ 3 ≤ R ∧ ¬ c = A then A else if c = -1 then -1 else if c = A then (if R < (if rg_lg c then 5 else 3) then -1 else c) else if x = true then c else -1) := rg_lenx0 (fun q => by rw [q]) h1
theorem rg_wrs_i (h : rg_Inv M) {w : Nat → Int32} {n j : Nat} (hj : j ≤ rg_nl M) : rg_wrs M (rg_fi (M.1 3) w n) j = rm_lf M w n j := by
  have h36 := rg_Inv_36 h
  unfold rg_wrs rm_lf
  rw [(rg_Inv_w h).2.2.2.2.1]
  generalize rg_fi (M.1 3) w n = c
  by_cases hj0 : j = 0
  · subst hj0
    have ea : rg_ca M 0 = -1 := by unfold rg_ca; rw [if_neg (by omega)]
    rw [ea, if_neg (fun q => q.1 rfl), if_neg (fun q => q.1 rfl), if_pos rfl]
    by_cases hc : c = -1
    · rw [if_neg (fun q => q.1 hc)]
    · have e : rg_lt4 (rg_la M 0 c) 4 = false := by
        have z : ∀ d, 1 ≤ d → rg_la M 0 c d = false := fun d hd => by
          unfold rg_la
          rw [if_neg (by omega)]
          exact decide_eq_false (fun q => hc q.symm)
        simp only [rg_lt4]
        rw [z 4 (by omega), z 3 (by omega), z 2 (by omega), z 1 (by omega)]
        rfl
      rw [if_neg (fun q => by rw [e] at q; exact absurd q.2.2 Bool.false_ne_true)]
  · have hl : j - 1 < rg_nl M := by omega
    have ea : rg_ca M j = rg_cs M (j - 1) := by unfold rg_ca; rw [if_pos (by omega)]
    have er : rg_run M j = rm_rn M (j - 1) := by
      rw [rm_rn_i h hl]
      unfold rg_run
      rw [if_pos (by omega), show j - 1 + 1 = j by omega]
    rw [if_neg hj0, ea, er, rm_son_i h hl]
    have e4 : ¬ c = -1 → rg_lt4 (rg_la M j c) 4 = rg_ex (rm_dL M j c) 4 1 := fun hc => by
      have z : ∀ d, 1 ≤ d → rg_la M j c d = rm_dL M j c d := fun d hd => by
        unfold rg_la rm_dL
        by_cases q : d ≤ j
        · rw [if_pos q, rm_son_i h (by omega)]
          exact decide_eq_decide.mpr ⟨fun z => ⟨q, z⟩, fun z => z.2⟩
        · rw [if_neg q]
          exact decide_eq_decide.mpr ⟨fun z => absurd z.symm hc, fun z => absurd z.1 q⟩
      simp only [rg_lt4, rg_ex]
      rw [z 4 (by omega), z 3 (by omega), z 2 (by omega), z 1 (by omega)]
      cases rm_dL M j c 1 <;> cases rm_dL M j c 2 <;> cases rm_dL M j c 3 <;> cases rm_dL M j c 4 <;> rfl
    have hr1 : ¬ rg_cs M (j - 1) = -1 → (1 : Int32) ≤ rm_rn M (j - 1) := fun a1 => by
      rw [rm_rn_i h hl, if_neg a1, show j - 1 + 1 = j by omega]
      have z := rg_rn_pos (s := rg_cs M) (k := j - 1)
      rw [show j - 1 + 1 = j by omega] at z
      have z9 : rg_rn (rg_cs M) (rg_cs M (j - 1)) j ≤ j := rg_rn_le j
      exact nI_le (a := 1) z (by omega)
    rw [rg_lenx (x := rg_lt4 (rg_la M j c) 4) hr1]
    by_cases hc : c = -1
    · subst hc
      simp only [if_pos trivial, if_true]
    · rw [e4 hc]
end FE
theorem rg_f8_1 {g : Nat → Int32} {m t : Nat} (h : ¬ g t = -1) : rg_f8 g (m + 1) t = nI t := by rw [rg_f8, if_neg h]
theorem rg_f8_0 {g : Nat → Int32} {m t : Nat} (h : g t = -1) : rg_f8 g (m + 1) t = rg_f8 g m (t + 1) := by rw [rg_f8, if_pos h]
/-- the fault and its cause, of the class and the model -/
theorem rg_flt {M : rg_Mem} (h : rg_Inv M) {w : Nat → Int32} {n j : Nat} {po : Int32} (hn : n ≤ 6) (hw : ∀ k, k < n → rg_has M (w k)) (hj : j ≤ rg_nl M) (hj36 : j < 36) : (rm_fo M w n j po).1 = rg_f8 (rg_cq M w n j (rg_sp M) po) 8 1 ∧ ∀ k, 1 ≤ k → k ≤ 8 → rg_f8 (rg_cq M w n j (rg_sp M) po) 8 1 = nI k → (rm_fo M w n j po).2 = rg_cq M w n j (rg_sp M) po k := by
  have hW := rg_Inv_w h
  have hS := rg_Inv_s h
  have key : ∀ (t : Nat), 1 ≤ t → t ≤ 8 → ∀ F : Int32 × Int32, F.1 = nI t → F.2 = rg_cq M w n j (rg_sp M) po t → rg_f8 (rg_cq M w n j (rg_sp M) po) 8 1 = nI t → F.1 = rg_f8 (rg_cq M w n j (rg_sp M) po) 8 1 ∧ ∀ k, 1 ≤ k → k ≤ 8 → rg_f8 (rg_cq M w n j (rg_sp M) po) 8 1 = nI k → F.2 = rg_cq M w n j (rg_sp M) po k := fun t t1 t8 F f1 f2 f3 => ⟨f1.trans f3.symm, fun k k1 k8 q => by
    rw [f3] at q
    have := (nI_eq (by omega) (by omega)).mp q
    rw [f2, this]⟩
  -- 1
  have emu : rm_mu M j = if nI j &&& 1 = 0 then M.1 6 2 else M.1 6 3 := by
    unfold rm_mu
    rw [hS.2.2.2.2.2.2.2.2.2.1, hS.2.2.2.2.2.2.2.2.2.2.1]
  obtain ⟨sm, hsm, esm⟩ := rg_sm_n h n hn hw
  have g1 : rg_cq M w n j (rg_sp M) po 1 = if rg_sm (M.1 2) w n = rm_mu M j then -1 else rg_sm (M.1 2) w n := by rw [emu]; rfl
  unfold rm_fo
  rw [hW.2.2.2.1]
  by_cases c1 : rg_sm (M.1 2) w n = rm_mu M j
  · rw [if_neg (fun q => q c1)]
    have z1 : rg_cq M w n j (rg_sp M) po 1 = -1 := by rw [g1, if_pos c1]
    -- 2
    have e2 : rg_ff (rm_dm M w n) n 0 = rg_cq M w n j (rg_sp M) po 2 := by unfold rm_dm; rw [hW.2.2.2.2.1]; rfl
    rw [e2]
    by_cases c2 : rg_cq M w n j (rg_sp M) po 2 = -1
    · rw [if_neg (fun q => q c2)]
      have e3 : rg_ff (rm_dp M w j) n 0 = rg_cq M w n j (rg_sp M) po 3 := (rg_ff_c n 0 (fun i _ hi => (rg_ag_dp h hn hw hj (by omega)).symm))
      rw [e3]
      by_cases c3 : rg_cq M w n j (rg_sp M) po 3 = -1
      · rw [if_neg (fun q => q c3)]
        have g4 : rg_cq M w n j (rg_sp M) po 4 = if po = (if 1 ≤ j then M.1 9 (j - 1) else -1) then po else -1 := rfl
        rw [(rg_Inv_v h).1]
        by_cases c4 : 0 < j ∧ ¬ po = -1 ∧ M.1 9 (j - 1) = po
        · rw [if_pos c4]
          have z4 : rg_cq M w n j (rg_sp M) po 4 = po := by rw [g4, if_pos (by rw [if_pos (by omega)]; exact c4.2.2.symm)]
          exact key 4 (by omega) (by omega) _ rfl z4.symm (by rw [rg_f8_0 z1, rg_f8_0 c2, rg_f8_0 c3]; exact rg_f8_1 (by rw [z4]; exact c4.2.1))
        · rw [if_neg c4]
          have z4 : rg_cq M w n j (rg_sp M) po 4 = -1 := by
            rw [g4]
            by_cases q : po = (if 1 ≤ j then M.1 9 (j - 1) else -1)
            · rw [if_pos q]
              by_cases qj : 1 ≤ j
              · rw [if_pos qj] at q
                apply Classical.byContradiction
                intro z
                exact c4 ⟨by omega, z, q.symm⟩
              · rw [if_neg qj] at q
                exact q
            · rw [if_neg q]
          have g5 : rg_cq M w n j (rg_sp M) po 5 = if j = 0 ∨ (¬ (rg_og (M.1 4) w n &&& M.1 (17 + 2 * (j - 1)) 4) &&& 255 = 0 ∨ rg_ex (fun k => decide (¬ M.2 5 (w k).toNatClampNeg &&& M.2 (17 + 2 * (j - 1)) 5 = 0)) n 0 = true) then -1 else nI j - 1 := rfl
          by_cases c5 : 0 < j ∧ ¬ rm_jo M w n j = true
          · rw [if_pos c5]
            have z5 : rg_cq M w n j (rg_sp M) po 5 = nI j - 1 := by
              rw [g5, if_neg (fun q => q.elim (fun z => by omega) (fun z => c5.2 ((rg_jo_i h hw hj (by omega)).mp z)))]
            exact key 5 (by omega) (by omega) _ rfl z5.symm (by rw [rg_f8_0 z1, rg_f8_0 c2, rg_f8_0 c3, rg_f8_0 z4]; exact rg_f8_1 (by rw [z5, rm_sub1 (by omega)]; exact rg_nIm (by omega)))
          · rw [if_neg c5]
            have z5 : rg_cq M w n j (rg_sp M) po 5 = -1 := by
              rw [g5, if_pos]
              by_cases q : j = 0
              · exact Or.inl q
              · refine Or.inr ((rg_jo_i h hw hj (by omega)).mpr ?_)
                apply Classical.byContradiction
                intro z
                exact c5 ⟨by omega, z⟩
            have g6 : rg_cq M w n j (rg_sp M) po 6 = rg_ff (rg_lw (rm_cm M w n j)) 8 0 := by
              show rg_ff (rg_lw (rg_og (M.1 4) w n &&& (if 2 ≤ j then M.1 (17 + 2 * (j - 2)) 4 else 0))) 8 0 = _
              unfold rm_cm
              rw [hW.2.2.2.2.2.1]
              by_cases q : 2 ≤ j
              · rw [if_pos q, if_pos q, rm_sgn_i h (by omega)]
                exact rg_lw_255
              · rw [if_neg q, if_neg q, Int32.and_zero]
            by_cases c6 : rm_cm M w n j = 0
            · rw [if_neg (fun q => q c6)]
              have z6 : rg_cq M w n j (rg_sp M) po 6 = -1 := by rw [g6, c6]; exact rg_lw_0
              have g7 : rg_cq M w n j (rg_sp M) po 7 = rm_lf M w n j := rg_wrs_i h hj
              by_cases c7 : rm_lf M w n j = -1
              · rw [if_neg (fun q => q c7)]
                have z7 := g7.trans c7
                have g8 : rg_cq M w n j (rg_sp M) po 8 = rg_wst (rg_og (M.1 415) w n) (M.1 420 j) := by
                  rw [hW.2.2.2.2.2.1, rg_Inv_t h]
                  show rg_wst (rg_og (M.1 4) w n) (if j < 36 then M.1 7 j else 0) = _
                  rw [if_pos hj36]
                by_cases c8 : rg_wst (rg_og (M.1 415) w n) (M.1 420 j) = -1
                · rw [if_neg (fun q => q c8)]
                  have z8 := g8.trans c8
                  have e0 : rg_f8 (rg_cq M w n j (rg_sp M) po) 8 1 = 0 := by rw [rg_f8_0 z1, rg_f8_0 c2, rg_f8_0 c3, rg_f8_0 z4, rg_f8_0 z5, rg_f8_0 z6, rg_f8_0 z7, rg_f8_0 z8]; rfl
                  exact ⟨e0.symm, fun k k1 k8 q => by
                    rw [e0] at q
                    exact absurd q.symm (nI_ne0 (by omega) (by omega))⟩
                · rw [if_pos c8]
                  exact key 8 (by omega) (by omega) _ rfl g8.symm (by rw [rg_f8_0 z1, rg_f8_0 c2, rg_f8_0 c3, rg_f8_0 z4, rg_f8_0 z5, rg_f8_0 z6, rg_f8_0 z7]; exact rg_f8_1 (by rw [g8]; exact c8))
              · rw [if_pos c7]
                exact key 7 (by omega) (by omega) _ rfl g7.symm (by rw [rg_f8_0 z1, rg_f8_0 c2, rg_f8_0 c3, rg_f8_0 z4, rg_f8_0 z5, rg_f8_0 z6]; exact rg_f8_1 (by rw [g7]; exact c7))
            · rw [if_pos c6]
              exact key 6 (by omega) (by omega) _ rfl g6.symm (by rw [rg_f8_0 z1, rg_f8_0 c2, rg_f8_0 c3, rg_f8_0 z4, rg_f8_0 z5]; exact rg_f8_1 (by rw [g6]; exact rm_cml c6))
      · rw [if_pos c3]
        exact key 3 (by omega) (by omega) _ rfl rfl (by rw [rg_f8_0 z1, rg_f8_0 c2]; exact rg_f8_1 c3)
    · rw [if_pos c2]
      exact key 2 (by omega) (by omega) _ rfl rfl (by rw [rg_f8_0 z1]; exact rg_f8_1 c2)
  · rw [if_pos c1]
    have z1 : rg_cq M w n j (rg_sp M) po 1 = rg_sm (M.1 2) w n := by rw [g1, if_neg c1]
    exact key 1 (by omega) (by omega) _ rfl z1.symm (rg_f8_1 (by rw [z1, esm]; exact rg_nIm (by omega)))
