/-! texts: at how many places they differ; what is told of a link -/
theorem rp_wp2 {M : rg_Mem} (h : rp_Inv M) {x y : Nat} (hx : x < 1000) (hy : y < 6) : rg_wp M (nI x) (nI y) = if x < rg_nl M ∧ y < rg_sz M (17 + 2 * x) then M.1 (17 + 2 * x + 1) y else -1 := by
  unfold rg_wp
  by_cases c : x < rg_nl M
  · have hv := rp_vs h c
    rw [if_pos (rg_hl_k (rg_CI_l (rp_ci h)).1 (rg_CI_l (rp_ci h)).2 c), nI_clamp (by omega)]
    by_cases d : y < rg_sz M (17 + 2 * x)
    · rw [if_pos ⟨c, d⟩, rg_wn_k hv.1 hv.2.1 d]
    · rw [if_neg (fun q => d q.2)]
      unfold rg_wn
      rw [if_neg]
      intro q
      apply q.2.1
      have hs := hv.2.1
      rw [hv.1]
      exact (lw_nle (by omega) (by omega)).mpr (by omega)
  · have hs := (rg_CI_l (rp_ci h))
    have hn : ¬ rg_hl M (nI x) := fun q => q.2 (by
      rw [hs.1]
      exact (lw_nle (by omega) (by omega)).mpr (by omega))
    rw [if_neg hn, if_neg (fun q => c q.1)]
theorem rp_wp {M : rg_Mem} (h : rp_Inv M) {x y : Nat} (hx : x < 1000) (hy : y < 6) : rg_tk M (-1) x y = if x < rg_nl M ∧ y < rg_sz M (17 + 2 * x) then M.1 (17 + 2 * x + 1) y else -1 := by
  show rg_tw M (-1) (nI x) (nI y) = _
  unfold rg_tw
  rw [if_pos rfl]
  exact rp_wp2 h hx hy
theorem rp_tp {M : rg_Mem} (h : rp_Inv M) {x y : Nat} (hx : x < 10) (hy : y < 6) : M.1 414 (6 * x + y) = rg_tk M (-1) x y + 1 := by
  rw [rp_wp h (by omega) hy]
  by_cases c : x < rg_nl M
  · rw [((rp_t h).1 x c).1 y hy]
    by_cases d : y < rg_sz M (17 + 2 * x)
    · rw [if_pos d, if_pos ⟨c, d⟩]
    · rw [if_neg d, if_neg (fun q => d q.2)]; rfl
  · rw [if_neg (fun q => c q.1), (rp_t h).2 _ (by omega) (by omega)]; rfl
theorem rp_tc {M : rg_Mem} (h : rp_Inv M) {c x y : Nat} (hc : c < rg_nc M) (hx : x < 36) (hy : y < 6) : rg_tk M (nI c) x y = M.1 (110 + 38 * c + x) y := by
  have hn := rg_CI_c (rp_ci h)
  show rg_tw M (nI c) (nI x) (nI y) = _
  unfold rg_tw
  rw [if_neg (rg_nIm (by omega)), if_pos ⟨nI_pos (by omega), by rw [hn.1]; exact (lw_nlt (by omega) (by omega)).mpr hc⟩, if_pos ⟨nI_pos (by omega), nI_ge (b := 36) hx (by omega), nI_pos (by omega), nI_ge (b := 6) hy (by omega)⟩, nI_clamp (by omega), nI_clamp (by omega), nI_clamp (by omega)]
/-- the law's row of a text -/
def rp_TX (M : rg_Mem) (t : Int32) (a : Nat) : Prop := ∀ x y, y < 6 → (x < 10 → M.1 a (6 * x + y) = rg_tk M t x y + 1) ∧ (10 ≤ x → x < 36 → rg_tk M t x y = -1)
theorem rp_TX_m {M : rg_Mem} (h : rp_Inv M) : rp_TX M (-1) 414 := fun x y hy => ⟨fun hx => rp_tp h hx hy, fun h1 h2 => by
  rw [rp_wp h (by omega) hy, if_neg (by have := rp_nl h; omega)]⟩
theorem rp_TX_c {M : rg_Mem} (h : rp_Inv M) {c : Nat} (hc : c < rg_nc M) : rp_TX M (nI c) (420 + c) := fun x y hy => ⟨fun hx => by
  rw [rp_tc h hc (by omega) hy]
  exact ((rp_x h c hc x (by omega) y hy).1 hx).1, fun h1 h2 => by
  rw [rp_tc h hc h2 hy]
  exact (rp_x h c hc x h2 y hy).2 h1⟩
theorem rp_cd_y {p q : Nat → Int32} {a b : Nat → Nat → Int32} {x : Nat} (h : ∀ y, y < 6 → (p (6 * x + y) = q (6 * x + y) ↔ a x y = b x y)) : ∀ y, y ≤ 6 → lw_cd p q (6 * x + y) = lw_cd p q (6 * x) + rg_df a b x y
  | 0, _ => rfl
  | y + 1, hy => by
    rw [← Nat.add_assoc, lw_cd, rp_cd_y h y (by omega), rg_df, Nat.add_assoc]
    have := h y (by omega)
    by_cases c : a x y = b x y
    · rw [if_pos c, if_pos (this.mpr c)]
    · rw [if_neg c, if_neg (fun z => c (this.mp z))]
theorem rp_df0 {a b : Nat → Nat → Int32} {x : Nat} : ∀ y, (∀ z, z < y → a x z = b x z) → rg_df a b x y = 0
  | 0, _ => rfl
  | y + 1, h => by rw [rg_df, rp_df0 y (fun z hz => h z (by omega)), if_pos (h y (by omega))]
theorem rp_far {M : rg_Mem} {t u : Int32} {a b : Nat} (ht : rp_TX M t a) (hu : rp_TX M u b) : rg_fa M t u = nI (lw_cd (M.1 a) (M.1 b) 60) := by
  have h1 : ∀ x, x ≤ 10 → rg_dd (rg_tk M t) (rg_tk M u) x = lw_cd (M.1 a) (M.1 b) (6 * x) := by
    intro x
    induction x with
    | zero => intro _; rfl
    | succ x ih =>
      intro hx
      rw [rg_dd, ih (by omega), show 6 * (x + 1) = 6 * x + 6 by omega, rp_cd_y (a := rg_tk M t) (b := rg_tk M u) (fun y hy => by rw [(ht x y hy).1 (by omega), (hu x y hy).1 (by omega)]; exact rp_s1) 6 (by omega)]
  have h2 : ∀ m, m ≤ 26 → rg_dd (rg_tk M t) (rg_tk M u) (10 + m) = rg_dd (rg_tk M t) (rg_tk M u) 10 := by
    intro m
    induction m with
    | zero => intro _; rfl
    | succ m ih =>
      intro hm
      rw [← Nat.add_assoc, rg_dd, ih (by omega), rp_df0 6 (fun y hy => by rw [(ht (10 + m) y hy).2 (by omega) (by omega), (hu (10 + m) y hy).2 (by omega) (by omega)]), Nat.add_zero]
  unfold rg_fa
  rw [h2 26 (by omega), h1 10 (by omega)]
theorem rp_cd_le {p q : Nat → Int32} : ∀ n, lw_cd p q n ≤ n
  | 0 => Nat.le_refl 0
  | n + 1 => by
    have := rp_cd_le (p := p) (q := q) n
    rw [lw_cd]
    split <;> omega
/-- source -/
theorem rp_src0 {M : rg_Mem} (h : rp_Inv M) (hc : 0 < rg_nc M) : (rg_so (fun k => rg_fa M (nI 0) (nI k)) (rg_fa M (nI 0) (-1)) (nI 0) (rg_nc M)).1 = if 1 < rg_nc M ∧ lw_cd (M.1 420) (M.1 421) 60 < lw_cd (M.1 420) (M.1 414) 60 then 1 else -1 := by
  have hn := (rp_n h).2.2.1
  have t0 := rp_TX_c h hc
  have l1 := rp_cd_le (p := M.1 420) (q := M.1 421) 60
  have l2 := rp_cd_le (p := M.1 420) (q := M.1 414) 60
  rcases (show rg_nc M = 1 ∨ rg_nc M = 2 by omega) with e | e
  · rw [e, rg_so_f (fun q => q.1 rfl), if_neg (by omega)]
    rfl
  · have t1 := rp_TX_c h (c := 1) (by omega)
    have f1 : rg_fa M (nI 0) (nI 1) = nI (lw_cd (M.1 420) (M.1 421) 60) := rp_far t0 t1
    have f2 : rg_fa M (nI 0) (-1) = nI (lw_cd (M.1 420) (M.1 414) 60) := rp_far t0 (rp_TX_m h)
    rw [e]
    have s1 : rg_so (fun k => rg_fa M (nI 0) (nI k)) (rg_fa M (nI 0) (-1)) (nI 0) 1 = (-1, rg_fa M (nI 0) (-1)) := rg_so_f (fun q => q.1 rfl)
    by_cases c : lw_cd (M.1 420) (M.1 421) 60 < lw_cd (M.1 420) (M.1 414) 60
    · rw [if_pos ⟨by omega, c⟩, rg_so_t (k := 1) ⟨by decide, by
        rw [s1]
        show ¬ rg_fa M (nI 0) (-1) ≤ rg_fa M (nI 0) (nI 1)
        rw [f1, f2, lw_nle (by omega) (by omega)]
        omega⟩]
      rfl
    · rw [if_neg (fun q => c q.2), rg_so_f (k := 1) (fun q => q.2 (by
        rw [s1]
        show rg_fa M (nI 0) (-1) ≤ rg_fa M (nI 0) (nI 1)
        rw [f1, f2, lw_nle (by omega) (by omega)]
        omega)), s1]
theorem rp_src1 {M : rg_Mem} (h : rp_Inv M) (hc : rg_nc M = 2) : (rg_so (fun k => rg_fa M (nI 1) (nI k)) (rg_fa M (nI 1) (-1)) (nI 1) (rg_nc M)).1 = if lw_cd (M.1 421) (M.1 420) 60 < lw_cd (M.1 421) (M.1 414) 60 then 0 else -1 := by
  have t0 := rp_TX_c h (c := 0) (by omega)
  have t1 := rp_TX_c h (c := 1) (by omega)
  have l1 := rp_cd_le (p := M.1 421) (q := M.1 420) 60
  have l2 := rp_cd_le (p := M.1 421) (q := M.1 414) 60
  have f1 : rg_fa M (nI 1) (nI 0) = nI (lw_cd (M.1 421) (M.1 420) 60) := rp_far t1 t0
  have f2 : rg_fa M (nI 1) (-1) = nI (lw_cd (M.1 421) (M.1 414) 60) := rp_far t1 (rp_TX_m h)
  rw [hc, rg_so_f (k := 1) (fun q => q.1 rfl)]
  by_cases c : lw_cd (M.1 421) (M.1 420) 60 < lw_cd (M.1 421) (M.1 414) 60
  · rw [if_pos c, rg_so_t (k := 0) ⟨by decide, by
      show ¬ rg_fa M (nI 1) (-1) ≤ rg_fa M (nI 1) (nI 0)
      rw [f1, f2, lw_nle (by omega) (by omega)]
      omega⟩]
    rfl
  · rw [if_neg c, rg_so_f (k := 0) (fun q => q.2 (by
      show rg_fa M (nI 1) (-1) ≤ rg_fa M (nI 1) (nI 0)
      rw [f1, f2, lw_nle (by omega) (by omega)]
      omega))]
    rfl
/-- what is told of a link -/
abbrev rp_nz (M : rg_Mem) (j : Nat) : Nat → Bool := fun k => decide (¬ lw_t M (6 * j + k) = 0)
theorem rp_nz_n {M : rg_Mem} {j n : Nat} {w : Nat → Int32} (hr : rp_row M j n w) (hw : rp_w w n) : ∀ k, k ≤ 6 → lw_ct (rp_nz M j) k = min k n
  | 0, _ => by rw [lw_ct]; omega
  | k + 1, hk => by
    rw [lw_ct, rp_nz_n hr hw k (by omega)]
    by_cases c : k < n
    · rw [if_pos (decide_eq_true (by rw [rp_t1 hr hw (by omega) c]; omega))]
      omega
    · rw [if_neg (by rw [decide_eq_true_eq]; exact fun q => q (rp_t0 hr (by omega) c))]
      omega
theorem rp_size {M : rg_Mem} (h : rp_Inv M) {j : Nat} (hj : j < rg_nl M) : lw_ct (rp_nz M j) 6 = rg_sz M (17 + 2 * j) ∧ rg_sz M (17 + 2 * j) ≤ 6 := by
  have hv := rp_vs h hj
  rw [rp_nz_n ((rp_t h).1 j hj).1 (rp_VSw h hv) 6 (by omega)]
  have := hv.2.1
  omega
theorem rp_sea_j {M : rg_Mem} (h : rp_Inv M) {j : Nat} (hj : j < rg_nl M) : rg_cs M j = lw_sea M j := by
  have hv := rp_vs h hj
  rw [rp_sea ((rp_t h).1 j hj).1 (rp_VSw h hv) hv.2.1]
  exact hv.2.2.2.2.1
theorem rp_sgn_j {M : rg_Mem} (h : rp_Inv M) {j : Nat} (hj : j < rg_nl M) : M.1 (17 + 2 * j) 4 = lw_sgn M j := by
  have hv := rp_vs h hj
  rw [rp_sgn ((rp_t h).1 j hj).1 (rp_VSw h hv) hv.2.1]
  exact hv.2.2.2.2.2.1
theorem rp_ol0 {M : rg_Mem} (h : rp_Inv M) {j : Nat} (hj : j < rg_nl M) : rg_ol M j 0 = if M.1 415 (4 * j + 2) = 1 then -1 else M.1 415 (4 * j) := by
  have el := (rp_l h j (by have := rp_nl h; omega)).2.1 hj
  show (if M.1 10 j = 0 then M.1 9 j else -1) = _
  rw [el.1, el.2.1]
  rcases (rg_CI_h (rp_ci h) j hj).1 with q | q
  · rw [q]; rfl
  · rw [q]; rfl
theorem rp_ol3 {M : rg_Mem} (h : rp_Inv M) {j : Nat} (hj : j < rg_nl M) : rg_ol M j 3 = nI (lw_ct (rp_nz M j) 6) := by
  rw [(rp_size h hj).1]
  exact (rp_vs h hj).1
theorem rp_ol4 {M : rg_Mem} (h : rp_Inv M) {j : Nat} (hj : j < rg_nl M) : rg_ol M j 4 = lw_run M j := by
  show (if rg_cs M j = -1 then 0 else nI (rg_rn (rg_cs M) (rg_cs M j) (j + 1))) = _
  unfold lw_run
  rw [rp_sea_j h hj, rg_rn_c (j + 1) (fun i hi => rp_sea_j h (by omega))]
theorem rp_ol5 {M : rg_Mem} (h : rp_Inv M) {j : Nat} (hj : j < rg_nl M) : rg_ol M j 5 = M.1 415 (4 * j + 3) := by
  have el := (rp_l h j (by have := rp_nl h; omega)).2.1 hj
  show (if M.1 11 j = 0 then 0 else 1) = _
  rw [el.2.2]
  rcases (rg_CI_h (rp_ci h) j hj).2 with q | q
  · rw [q]; rfl
  · rw [q]; rfl
theorem rp_wordAt {M : rg_Mem} (h : rp_Inv M) {j p : Nat} (hj : j < rg_nl M) (hp : p < lw_ct (rp_nz M j) 6) : rg_hl M (nI j) ∧ ¬ rg_wp M (nI j) (nI p) = -1 ∧ rg_wp M (nI j) (nI p) = M.1 414 (6 * j + p) - 1 := by
  have hl := rp_nl h
  have hs := rp_size h hj
  have e2 := rp_wp2 h (x := j) (y := p) (by omega) (by omega)
  rw [if_pos ⟨hj, by omega⟩] at e2
  obtain ⟨a, ha, ea⟩ := rp_VSw h (rp_vs h hj) p (by omega)
  refine ⟨rg_hl_k (rg_CI_l (rp_ci h)).1 (rg_CI_l (rp_ci h)).2 hj, ?_, ?_⟩
  · rw [e2, ea]; exact rg_nIm (by omega)
  · rw [e2, ((rp_t h).1 j hj).1 p (by omega), if_pos (by omega), lw_s2]
theorem rp_mk {M : rg_Mem} (h : rp_Inv M) {j : Nat} (hj : j < rg_nl M) : ∃ q, q < 3 ∧ M.1 9 j = nI q := by
  obtain ⟨q, h1, h2⟩ := rg_CI_m (rp_ci h) j hj
  have hnp : rg_np M = 3 := by unfold rg_np; rw [(rp_n h).1.2, nI_clamp (by omega)]
  exact ⟨q, by omega, h2⟩
theorem rp_div {t v : Nat} (ht : t ≤ 8) (hv : v < 100) : nI (100 * t + v) / 100 = nI t := by
  rw [show (100 : Int32) = nI 100 from rfl, pk_div (by omega) (by omega) (by omega), show (100 * t + v) / 100 = t by omega]
theorem rp_FLd {M : rg_Mem} {w : Nat → Int32} {n j : Nat} {po F : Int32} (h : rp_FL M w n j po F) : rg_f8 (rg_cq M w n j (rg_sp M) po) 8 1 = F / 100 := by
  rcases h with ⟨h1, h2⟩ | ⟨t, v, h1, h2, h3, h4, _, h6⟩
  · rw [h1, h2]; rfl
  · rw [h4, h6, rp_div h2 h3]
theorem rp_anew {M : rg_Mem} (h : rp_Inv M) {j : Nat} (hj : j < rg_nl M) : rg_f8 (rg_co M (17 + 2 * j) (rg_sz M (17 + 2 * j)) j (rg_sp M) (M.1 9 j)) 8 1 = lw_fl (lw_cs M j (rg_sp M) (M.1 415 (4 * j))) / 100 := by
  have hl := rp_nl h
  have hv := rp_vs h hj
  obtain ⟨q, hq, eq⟩ := rp_mk h hj
  have e := rp_flA (j := j) (r := fun k => M.1 414 (6 * j + k)) (po := M.1 9 j) h (by omega) (by omega) (fun k hk => ((rp_t h).1 j hj).1 k hk) hv.2.1 (rp_VSw h hv) (Or.inr ⟨q, by omega, eq⟩)
  rw [rp_row_self, ← ((rp_l h j (by omega)).2.1 hj).1] at e
  rw [rg_co_cq hv, ← rp_FLd e, ((rp_l h j (by omega)).2.1 hj).1]
