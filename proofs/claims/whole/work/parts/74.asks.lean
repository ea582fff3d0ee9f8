section AK
variable {M : rg_Mem}
theorem rg_hlN (h : rg_Inv M) {x : Int32} (hx : rg_hl M x) : ∃ a, a < rg_nl M ∧ a < 36 ∧ x = nI a ∧ x.toNatClampNeg = a := by
  have h1 := rg_CI_l (rg_Inv_ci h)
  have hv : vp_in x (rg_nl M) := rg_in_of (a := M.1 6 4) (m := nI (rg_nl M)) (by rw [nI_toInt (by omega)]) (by rw [h1.1]; exact Int32.le_refl _) hx.1 hx.2
  obtain ⟨a, ha, e⟩ := vp_in_of hv (by omega)
  exact ⟨a, ha, by omega, e, by rw [e, nI_clamp (by omega)]⟩
theorem rg_cpN (h : rg_Inv M) {x : Int32} (hx : rg_cp M x) : ∃ a, a < rg_nc M ∧ a < 8 ∧ x = nI a ∧ x.toNatClampNeg = a := by
  have h1 := rg_CI_c (rg_Inv_ci h)
  obtain ⟨a, ha, e⟩ := vp_in_of (rg_lt_in h1.1 (by omega) hx.1 hx.2) (by omega)
  exact ⟨a, ha, by omega, e, by rw [e, nI_clamp (by omega)]⟩
/-- a word of a row of n -/
theorem rg_wn_i (h : rg_Inv M) {v n : Nat} {y : Int32} (hv : rg_VS M v n) : (¬ rg_wn M v y = -1 ↔ (¬ y < 0 ∧ ¬ nI n ≤ y)) ∧ ((¬ y < 0 ∧ ¬ nI n ≤ y) → rg_wn M v y = M.1 (v + 1) y.toNatClampNeg ∧ y.toNatClampNeg < n) := by
  have h6 := hv.2.1
  have hin : (¬ y < 0 ∧ ¬ nI n ≤ y) → ∃ b, b < n ∧ y = nI b := fun q => by
    have hy : vp_in y n := rg_in_of (a := nI n) (m := nI n) (by rw [nI_toInt (by omega)]) (Int32.le_refl _) q.1 q.2
    obtain ⟨b, hb, e⟩ := vp_in_of hy (by omega)
    exact ⟨b, hb, e⟩
  have hval : (¬ y < 0 ∧ ¬ nI n ≤ y) → rg_wn M v y = M.1 (v + 1) y.toNatClampNeg ∧ y.toNatClampNeg < n := fun q => by
    obtain ⟨b, hb, rfl⟩ := hin q
    rw [rg_wn_k hv.1 h6 hb, nI_clamp (by omega)]
    exact ⟨rfl, hb⟩
  refine ⟨⟨fun q => ?_, fun q => ?_⟩, hval⟩
  · apply Classical.byContradiction
    intro z
    apply q
    unfold rg_wn
    rw [hv.1, if_neg (fun c => z ⟨c.1, c.2.1⟩)]
  · obtain ⟨e, hb⟩ := hval q
    obtain ⟨a, _, ha, ea⟩ := rg_hasN (rg_Inv_ci h) (hv.2.2.1 _ hb)
    rw [e, ea]
    exact rg_nIm (by omega)
theorem rg_wp_i (h : rg_Inv M) {x y : Int32} (hx : rg_hl M x) : (¬ rg_wp M x y = -1 ↔ rm_in y 0 (M.1 418 x.toNatClampNeg - 1)) ∧ (rm_in y 0 (M.1 418 x.toNatClampNeg - 1) → rg_wp M x y = M.1 417 (6 * x.toNatClampNeg + y.toNatClampNeg)) := by
  obtain ⟨a, ha, ha36, e, ea⟩ := rg_hlN h hx
  have f := (rg_Inv_v h).2.1 a ha
  have g := rg_wn_i h (y := y) f.1
  have hn := f.1.2.1
  have e1 : M.1 418 a = nI (rg_sz M (17 + 2 * a)) := f.2.1.trans f.1.1
  have e2 : rg_wp M x y = rg_wn M (17 + 2 * a) y := by unfold rg_wp; rw [if_pos hx, ea]
  have e3 : rm_in y 0 (M.1 418 a - 1) ↔ (¬ y < 0 ∧ ¬ nI (rg_sz M (17 + 2 * a)) ≤ y) := by rw [rm_in2 e1 (by omega), e1]
  rw [ea, e2, e3]
  refine ⟨g.1, fun q => ?_⟩
  obtain ⟨z1, z2⟩ := g.2 q
  rw [z1, f.2.2.1 _ z2]
theorem rg_ol_i (h : rg_Inv M) {a t : Nat} (ha : a < rg_nl M) (ht : t ≤ 5) : rg_ol M a t = rm_ol M a (nI t) := by
  have f := (rg_Inv_v h).2.1 a ha
  unfold rm_ol
  rcases (show t = 0 ∨ t = 1 ∨ t = 2 ∨ t = 3 ∨ t = 4 ∨ t = 5 by omega) with rfl | rfl | rfl | rfl | rfl | rfl
  · rw [if_pos (by decide), f.2.2.2.2.1, (rg_Inv_v h).1]
    rfl
  · rw [if_neg (by decide), if_pos (by decide), rm_son_i h ha]
    rfl
  · rw [if_neg (by decide), if_neg (by decide), if_pos (by decide), rm_sgn_i h ha]
    rfl
  · rw [if_neg (by decide), if_neg (by decide), if_neg (by decide), if_pos (by decide), f.2.1]
    rfl
  · rw [if_neg (by decide), if_neg (by decide), if_neg (by decide), if_neg (by decide), if_pos (by decide), rm_rn_i h ha]
    rfl
  · rw [if_neg (by decide), if_neg (by decide), if_neg (by decide), if_neg (by decide), if_neg (by decide), f.2.2.2.2.2.1]
    rfl
theorem rg_fan (h : rg_Inv M) {a : Nat} (ha : a < rg_nl M) (ha36 : a < 36) : rg_f8 (rg_co M (17 + 2 * a) (rg_sz M (17 + 2 * a)) a (rg_sp M) (M.1 9 a)) 8 1 = (rm_fo M (rm_w M a) (rm_z M a) a (M.1 419 a)).1 := by
  have f := (rg_Inv_v h).2.1 a ha
  rw [rg_co_cq f.1, rm_z_i h ha, (rg_Inv_v h).1, rm_fo_w (w := M.1 (17 + 2 * a + 1)) (fun k hk => f.2.2.1 k hk)]
  exact (rg_flt h f.1.2.1 f.1.2.2.1 (by omega) ha36).1.symm
theorem rg_open (h : rg_Inv M) : (¬ M.1 6 0 ≤ M.1 6 4) ↔ ¬ (M.1 412 6 = 0 ∨ rm_fin M) := by
  have hS := rg_Inv_s h
  have h36 := hS.2.2.2.1
  have h1 := hS.2.1
  unfold rm_fin
  rw [hS.2.2.2.2.2.2.1, hS.2.2.2.2.2.2.2.1, hS.1, hS.2.2.1, nI_leI (by omega) (by omega), nI_eq (by omega) (by omega)]
  rcases hS.2.2.2.2.2.2.2.2.2.2.2 with ⟨q1, q2⟩ | ⟨q1, q2⟩
  · rw [q1]
    constructor
    · intro z; omega
    · intro z; exact absurd (Or.inl rfl) z
  · rw [q1]
    constructor
    · intro z c
      rcases c with c | c
      · exact absurd c (by decide)
      · omega
    · intro z c
      exact z (Or.inr (by omega))
theorem rg_openN (h : rg_Inv M) (q : ¬ M.1 6 0 ≤ M.1 6 4) : rg_nl M < rg_nt M ∧ rg_nl M < 36 := by
  have hS := rg_Inv_s h
  have h36 := hS.2.2.2.1
  have h1 := hS.2.1
  rw [hS.1, hS.2.2.1, nI_leI (by omega) (by omega)] at q
  omega
theorem rg_cc_i (h : rg_Inv M) (q : ¬ M.1 6 0 ≤ M.1 6 4) {z : Int32} {w : Nat → Int32} {n : Nat} (hn : n ≤ 6) (hw : ∀ k, k < n → rg_has M (w k)) : rg_cc M z w n = rm_hh M z w n := by
  unfold rg_cc rm_hh
  rw [rm_nl_i h, (rg_flt h hn hw (Nat.le_refl _) (rg_openN h q).2 (po := z)).1]
theorem rg_c2_i (h : rg_Inv M) (q : ¬ M.1 6 0 ≤ M.1 6 4) {z x : Int32} {a : Nat} (ha : a < rg_nw M) : ∀ b, b ≤ rg_nw M → rg_c2 M z a x b = rm_h2 M z a x b
  | 0, _ => rfl
  | b + 1, hb => by
    rw [rg_c2, rm_h2, rg_c2_i h q ha b (by omega), rg_cc_i h q (by omega)]
    intro k hk
    by_cases e : k = 0
    · simp only [if_pos e]; exact rg_has_k (rg_Inv_ci h) ha
    · simp only [if_neg e]; exact rg_has_k (rg_Inv_ci h) (by omega)
theorem rg_c1_i (h : rg_Inv M) (q : ¬ M.1 6 0 ≤ M.1 6 4) {z : Int32} : ∀ a, a ≤ rg_nw M → rg_c1 M z a = rm_h1 M z a
  | 0, _ => rfl
  | a + 1, ha => by
    rw [rg_c1, rm_h1, rg_c1_i h q a (by omega), rg_cc_i h q (by omega), rg_c2_i h q (by omega) _ (Nat.le_refl _), rm_nw_i h]
    intro k hk
    rw [show k = 0 by omega]
    exact rg_has_k (rg_Inv_ci h) (by omega)
theorem rm_h1_mo {Mw : rg_Mem} (g : rg_mo M Mw) {z : Int32} : ∀ a, rm_h1 Mw z a = rm_h1 M z a := by
  have e1 : rm_nl Mw = rm_nl M := by unfold rm_nl; rw [g.1 412 (by omega)]
  have e2 : rm_nw Mw = rm_nw M := by unfold rm_nw; rw [g.1 412 (by omega)]
  have e3 : ∀ w n, rm_hh Mw z w n = rm_hh M z w n := fun w n => by unfold rm_hh; rw [rg_mo_fo g, e1]
  have e4 : ∀ a x b, rm_h2 Mw z a x b = rm_h2 M z a x b := by
    intro a x b
    induction b with
    | zero => rfl
    | succ b ih => rw [rm_h2, rm_h2, ih, e3]
  intro a
  induction a with
  | zero => rfl
  | succ a ih => rw [rm_h1, rm_h1, ih, e3, e4, e2]
/-- the word at a place of a text -/
theorem rg_tw_i (h : rg_Inv M) {t : Int32} (ht : rg_tx M t) {x y : Nat} (hx : x < 36) (hy : y < 6) : (rm_fh M t x y → rg_tw M t (nI x) (nI y) = rm_wo M t x y ∧ rg_has M (rm_wo M t x y)) ∧ (¬ rm_fh M t x y → rg_tw M t (nI x) (nI y) = -1) := by
  unfold rm_fh rm_so rm_wo rg_tw rm_lo
  by_cases c : t = -1
  · simp only [if_pos c]
    have hS := rg_Inv_s h
    have h36 := rg_Inv_36 h
    rw [hS.2.2.2.2.2.2.1, hS.1]
    by_cases q : x < rg_nl M
    · rw [if_pos (nI_lt q (by omega))]
      have hl : rg_hl M (nI x) := rg_hl_k hS.1 h36 q
      have f := (rg_Inv_v h).2.1 x q
      have g := rg_wn_i h (y := nI y) f.1
      have e1 : M.1 418 x = nI (rg_sz M (17 + 2 * x)) := f.2.1.trans f.1.1
      have hn := f.1.2.1
      have e2 : rg_wp M (nI x) (nI y) = rg_wn M (17 + 2 * x) (nI y) := by unfold rg_wp; rw [if_pos hl, nI_clamp (by omega)]
      rw [e1, e2]
      constructor
      · intro z
        obtain ⟨z1, z2⟩ := g.2 ⟨nI_pos (by omega), z⟩
        rw [nI_clamp (by omega)] at z1 z2
        rw [z1, f.2.2.1 y z2]
        exact ⟨rfl, f.1.2.2.1 y z2⟩
      · intro z
        apply Classical.byContradiction
        intro z2
        exact z (g.1.mp z2).2
    · rw [if_neg (nI_nlt (by omega) (by omega))]
      constructor
      · intro z
        exact absurd (nI_pos' (by omega)) z
      · intro _
        unfold rg_wp
        rw [if_neg (fun z => by
          have := z.2
          rw [hS.1] at this
          exact this (nI_le (by omega) (by omega)))]
  · simp only [if_neg c]
    have hc := ht.resolve_left c
    obtain ⟨a, ha, ha8, e, ea⟩ := rg_cpN h hc
    rw [if_pos hc, ea]
    have os : rg_os (nI x) (nI y) := ⟨nI_pos (by omega), nI_ge (b := 36) hx (by omega), nI_pos (by omega), nI_ge (b := 6) hy (by omega)⟩
    rw [if_pos os, nI_clamp (by omega), nI_clamp (by omega)]
    have f := (rg_Inv_c h).2.2.2 a ha
    have f1 := f.2 x hx
    have f2 := f1.2 y hy
    rw [f.1.1]
    have hcl := f.1.2
    by_cases q : x < rm_cl M a
    · rw [if_pos (nI_lt q (by omega)), (f1.1 q).1]
      have h6 := (f1.1 q).2
      constructor
      · intro z
        have q2 : y < rm_cz M a x := by
          rcases Nat.lt_or_ge y (rm_cz M a x) with w | w
          · exact w
          · exact absurd (nI_le w (by omega)) z
        exact f2.1 ⟨q, q2⟩
      · intro z
        exact f2.2 (fun w => z (nI_ge w.2 (by omega)))
    · rw [if_neg (nI_nlt (by omega) (by omega))]
      constructor
      · intro z
        exact absurd (nI_pos' (by omega)) z
      · intro _
        exact f2.2 (fun w => q w.1)
theorem rg_fa_i (h : rg_Inv M) {t u : Int32} (ht : rg_tx M t) (hu : rg_tx M u) : rg_fa M t u = rm_fa M t u := by
  have key : ∀ x y, x < 36 → y < 6 → (rg_tk M t x y = rg_tk M u x y ↔ ¬ rm_fp M t u x y = true) := by
    intro x y hx hy
    have f := rg_tw_i h ht hx hy
    have g := rg_tw_i h hu hx hy
    have hm : ∀ z, rg_has M z → ¬ z = -1 := fun z hz q => by
      obtain ⟨a, _, ha, ea⟩ := rg_hasN (rg_Inv_ci h) hz
      exact rg_nIm (k := a) (by omega) (ea.symm.trans q)
    unfold rg_tk rm_fp
    rw [decide_eq_true_iff]
    by_cases c1 : rm_fh M t x y
    · by_cases c2 : rm_fh M u x y
      · rw [(f.1 c1).1, (g.1 c2).1]
        constructor
        · intro q z
          rcases z with z | z
          · exact z (rg_b_cg ⟨fun _ => c2, fun _ => c1⟩)
          · exact z.2 q
        · intro z
          apply Classical.byContradiction
          intro q
          exact z (Or.inr ⟨c1, q⟩)
      · rw [(f.1 c1).1, g.2 c2]
        constructor
        · intro q
          exact absurd q (hm _ (f.1 c1).2)
        · intro z
          exact absurd (Or.inl (fun q => c2 ((rg_b_ee.mp q).mp c1))) z
    · by_cases c2 : rm_fh M u x y
      · rw [f.2 c1, (g.1 c2).1]
        constructor
        · intro q
          exact absurd q.symm (hm _ (g.1 c2).2)
        · intro z
          exact absurd (Or.inl (fun q => c1 ((rg_b_ee.mp q).mpr c2))) z
      · rw [f.2 c1, g.2 c2]
        constructor
        · intro _ z
          rcases z with z | z
          · exact z (rg_b_cg ⟨fun w => absurd w c1, fun w => absurd w c2⟩)
          · exact c1 z.1
        · intro _
          rfl
  have k2 : ∀ x, x < 36 → ∀ y, y ≤ 6 → rg_df (rg_tk M t) (rg_tk M u) x y = rm_fx (rm_fp M t u) x y := by
    intro x hx y
    induction y with
    | zero => intro _; rfl
    | succ y ih =>
      intro hy
      rw [rg_df, rm_fx, ih (by omega)]
      by_cases c : rm_fp M t u x y = true
      · rw [if_pos c, if_neg (fun z => (key x y hx (by omega)).mp z c)]
      · rw [if_neg c, if_pos ((key x y hx (by omega)).mpr c)]
  have k3 : ∀ x, x ≤ 36 → rg_dd (rg_tk M t) (rg_tk M u) x = rm_fc (rm_fp M t u) x := by
    intro x
    induction x with
    | zero => intro _; rfl
    | succ x ih =>
      intro hx
      rw [rg_dd, rm_fc, ih (by omega), k2 x (by omega) 6 (by omega)]
  unfold rg_fa rm_fa
  rw [k3 36 (by omega)]
theorem rg_tx_k (h : rg_Inv M) {k : Nat} (hk : k < rg_nc M) : rg_tx M (nI k) := by
  have h1 := rg_CI_c (rg_Inv_ci h)
  exact Or.inr ⟨nI_pos (by omega), by rw [h1.1]; exact nI_lt hk (by omega)⟩
theorem rg_so_i (h : rg_Inv M) {x : Int32} (hx : rg_tx M x) : ∀ k, k ≤ rg_nc M → rg_so (fun k => rg_fa M x (nI k)) (rg_fa M x (-1)) x k = (rm_sr (rm_fa M x) x k, rm_fa M x (rm_sr (rm_fa M x) x k))
  | 0, _ => by
    show (-1, rg_fa M x (-1)) = (-1, rm_fa M x (-1))
    rw [rg_fa_i h hx (Or.inl rfl)]
  | k + 1, hk => by
    rw [rg_so, rm_sr, rg_so_i h hx k (by omega), rg_fa_i h hx (rg_tx_k h (by omega))]
    by_cases c : ¬ nI k = x ∧ rm_fa M x (nI k) < rm_fa M x (rm_sr (rm_fa M x) x k)
    · rw [if_pos c, if_pos ⟨c.1, rg_nle.mpr c.2⟩]
    · rw [if_neg c, if_neg (fun z => c ⟨z.1, rg_nle.mp z.2⟩)]
end AK
