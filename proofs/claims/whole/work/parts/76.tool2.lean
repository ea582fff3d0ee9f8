/-! tools for the calls, continued -/
theorem rg_Il {M : rg_Mem} {o k c j : Nat} {v : Int32} (h : ¬ (c = o ∧ j = k)) : (rg_I M o k v).1 c j = M.1 c j := by
  show (if _ then _ else _) = _
  rw [if_neg h]
section T2
variable {M M' Mw Mz : rg_Mem}
theorem rg_okn {E Y r : Int32} {v : Int64} (h : rg_Inv M) (hs : rg_same M Mw) (ho : Mw.2 432 0 = v) (hE : E = 0) (e2 : (¬ E = 0 ∧ r = 0 ∧ Mz = rg_I Mw 412 33 E) ∨ (E = 0 ∧ r = Y ∧ Mz = rg_I Mw 412 33 E)) (hv : v = Y.toInt64) : Mz.1 412 33 = 0 ∧ ((0 : Int32) = 0 → Mz.2 432 0 = r.toInt64) ∧ rg_Inv Mz := by
  rcases e2 with ⟨q, _⟩ | ⟨_, hr, rfl⟩
  · exact absurd hE q
  · exact ⟨rm_get.trans hE, fun _ => by rw [hr, ← hv]; exact ho, rg_Inv_same h (rg_same_tr hs (rg_same_t (by omega)))⟩
theorem rg_okw {E Y r : Int32} {v : Int64} (h : rg_Inv M) (hs : rg_same M Mw) (ho : Mw.2 432 0 = v) (hE : E = 0) (e2 : (¬ E = 0 ∧ r = 0 ∧ Mz = rg_I Mw 412 33 E) ∨ (E = 0 ∧ r = Y ∧ rm_wk Mw Mz ∧ Mz.1 412 33 = 0)) (hv : v = Y.toInt64) : Mz.1 412 33 = 0 ∧ ((0 : Int32) = 0 → Mz.2 432 0 = r.toInt64) ∧ rg_Inv Mz := by
  rcases e2 with ⟨q, _⟩ | ⟨_, hr, hw, h0⟩
  · exact absurd hE q
  · exact ⟨h0, fun _ => by rw [hr, ← hv, (hw.1 432 (by omega) (by omega)).2]; exact ho, rg_Inv_same h (rg_same_tr hs (rg_same_wk hw))⟩
theorem rg_iw_g (h : rg_Inv M) (g : rg_mo M Mw) {x : Int32} : rm_iw Mw x ↔ rg_has M x := (rm_iw_mo g).trans (rm_iw_i h)
theorem rg_il_g (h : rg_Inv M) (g : rg_mo M Mw) {x : Int32} : rm_il Mw x ↔ rg_hl M x := (rm_il_mo g).trans (rg_il_i h)
theorem rg_ip_g (h : rg_Inv M) (g : rg_mo M Mw) {x : Int32} : rm_ip Mw x ↔ rg_pt M x := (rm_ip_mo g).trans (rg_ip_i h)
theorem rg_ic_g (h : rg_Inv M) (g : rg_mo M Mw) {x : Int32} : rm_ic Mw x ↔ rg_cp M x := (rm_ic_mo g).trans (rg_ic_i h)
theorem rg_tx_g (h : rg_Inv M) (g : rg_mo M Mw) {x : Int32} : rm_tx Mw x ↔ rg_tx M x := (rm_tx_mo g).trans (rg_tx_i h)
theorem rg_beg_i (h : rg_Inv M) : ¬ M.1 6 0 ≤ 0 ↔ ¬ M.1 412 6 = 0 := by
  have hS := rg_Inv_s h
  have h36 := hS.2.2.2.1
  rw [hS.2.2.1, show (0 : Int32) = nI 0 from rfl, nI_leI (by omega) (by omega)]
  rcases hS.2.2.2.2.2.2.2.2.2.2.2 with ⟨q1, q2⟩ | ⟨q1, q2⟩
  · rw [q1]
    exact ⟨fun z => by omega, fun z => absurd rfl z⟩
  · rw [q1]
    exact ⟨fun _ => by decide, fun _ => by omega⟩
theorem rm_ol_g (g : rg_mo M Mw) {a : Nat} {y : Int32} : rm_ol Mw a y = rm_ol M a y := by
  have f : ∀ c, 412 ≤ c → Mw.1 c = M.1 c := g.1
  unfold rm_ol rm_rn rm_son rm_sgn rm_w rm_z
  rw [f 414 (by omega), f 415 (by omega), f 417 (by omega), f 418 (by omega), f 419 (by omega), f 421 (by omega), f 422 (by omega)]
theorem rm_fa_g (g : rg_mo M Mw) : rm_fa Mw = rm_fa M := by
  have e : rm_eq M (Mw.1, fun c => if c = 432 then M.2 432 else Mw.2 c) := ⟨fun c h1 h2 => ⟨g.1 c (by omega), by
    show (if c = 432 then M.2 432 else Mw.2 c) = M.2 c
    by_cases q : c = 432
    · rw [if_pos q, q]
    · rw [if_neg q]; exact g.2 c (by omega) q⟩, fun k hk => by show Mw.1 412 k = _; rw [g.1 412 (by omega)]⟩
  exact (show rm_fa Mw = rm_fa (Mw.1, fun c => if c = 432 then M.2 432 else Mw.2 c) from rfl).trans (rm_fa_e e)
/-! parts of the invariant, where cells of them change -/
theorem I_v1_g {l : Nat} (h : I_v1 M l) (hv : rg_VS M' (17 + 2 * l) (rg_sz M (17 + 2 * l))) (s1 : M'.1 (17 + 2 * l) = M.1 (17 + 2 * l)) (s2 : M'.1 (17 + 2 * l + 1) = M.1 (17 + 2 * l + 1)) (hp : rg_np M ≤ rg_np M') (c9 : M'.1 9 l = M.1 9 l) (c8 : M'.1 418 l = M.1 418 l) (c7 : ∀ k, k < 6 → M'.1 417 (6 * l + k) = M.1 417 (6 * l + k)) (a : M'.1 421 l = M'.1 10 l) (b : M'.1 422 l = M'.1 11 l) (d : ∀ j, j < 4 → M'.1 (13 + j) l = M'.1 423 (36 * j + l) - 1) : I_v1 M' l := by
  have hs : rg_sz M' (17 + 2 * l) = rg_sz M (17 + 2 * l) := by unfold rg_sz; rw [s1]
  obtain ⟨h1, h2, h3, ⟨q, hq, e⟩, _⟩ := h
  have h6 := h1.2.1
  unfold I_v1
  rw [hs, s1, s2, c9, c8]
  exact ⟨hv, h2, fun k hk => (c7 k (by omega)).trans (h3 k hk), ⟨q, by omega, e⟩, a, b, d⟩
theorem I_o1_g {o : Nat} (h : I_o1 M o) (hv : rg_VS M' (99 + 2 * o) (rg_sz M (99 + 2 * o))) (s1 : M'.1 (99 + 2 * o) = M.1 (99 + 2 * o)) (s2 : M'.1 (99 + 2 * o + 1) = M.1 (99 + 2 * o + 1)) (hp : rg_np M ≤ rg_np M') (c9 : M'.1 97 o = M.1 97 o) (c6 : M'.1 426 o = M.1 426 o) (c5 : ∀ k, k < 6 → M'.1 425 (6 * o + k) = M.1 425 (6 * o + k)) (c7 : M'.1 427 o = M.1 427 o) : I_o1 M' o := by
  have hs : rg_sz M' (99 + 2 * o) = rg_sz M (99 + 2 * o) := by unfold rg_sz; rw [s1]
  obtain ⟨h1, h2, h3, ⟨q, hq, e⟩, h5⟩ := h
  have h6 := h1.2.1
  unfold I_o1
  rw [hs, s1, s2, c9, c6, c7]
  exact ⟨hv, h2, fun k hk => (c5 k (by omega)).trans (h3 k hk), ⟨q, by omega, e⟩, h5⟩
end T2
section T3
variable {M M' Mw Mz : rg_Mem}
theorem rg_seat_i (h : rg_Inv M) {x : Int32} : (¬ M.1 412 6 = 0 ∧ rm_in x (M.1 412 11) (M.1 412 7 - 1)) ↔ (¬ x < M.1 6 4 ∧ x < M.1 6 0) := by
  have hS := rg_Inv_s h
  have h36 := hS.2.2.2.1
  have hl := hS.2.1
  have e7 : M.1 412 7 = nI (rg_nt M) := hS.2.2.2.2.2.2.2.1.trans hS.2.2.1
  rw [← hS.2.2.2.2.2.2.1, ← hS.2.2.2.2.2.2.2.1]
  unfold rm_in
  rw [rm_pred e7 (by omega)]
  constructor
  · exact fun z => z.2
  · intro z
    refine ⟨fun q => ?_, z⟩
    rcases hS.2.2.2.2.2.2.2.2.2.2.2 with w | w
    · rw [hS.2.2.2.2.2.2.1, hS.1, e7, rg_nlt, rg_lt, rg_le, nI_toInt (by omega), nI_toInt (by omega)] at z
      omega
    · rw [w.1] at q
      exact absurd q (by decide)
theorem rg_no_i (h : rg_Inv M) : M.1 412 24 = 0 ↔ M.1 0 10 ≤ 0 := by
  have ho := rg_Inv_of h
  have h4 := ho.2.1
  rw [ho.2.2.1, ho.1, show (0 : Int32) = nI 0 from rfl, nI_leI (by omega) (by omega), nI_eq (by omega) (by omega)]
  omega
theorem rg_x03 {x : Int32} : rm_in x 0 3 ↔ (¬ x < 0 ∧ x < 4) := by
  unfold rm_in
  rw [rg_lt 3, rg_lt _ 4, show (3 : Int32).toInt = 3 from rfl, show (4 : Int32).toInt = 4 from rfl]
  exact and_congr Iff.rfl (by omega)
theorem rg_x03N {x : Int32} (h : ¬ x < 0 ∧ x < 4) : ∃ a, a < 4 ∧ x = nI a ∧ x.toNatClampNeg = a := by
  obtain ⟨a, ha, e⟩ := vp_in_of (rg_lt_in (a := 4) (n := 4) rfl (by omega) h.1 h.2) (by omega)
  exact ⟨a, ha, e, by rw [e, nI_clamp (by omega)]⟩
theorem rg_x10N {x : Int32} (h : rg_in x 0 10) : ∃ a, a ≤ 10 ∧ x = nI a := by
  obtain ⟨j, hj, rfl⟩ := nI_of2 (M := 10) (n := 10) rfl h.1 h.2
  exact ⟨j, hj, rfl⟩
theorem I_c1_g {c : Nat} (h : I_c1 M c) (hm : ∀ z, rg_has M z → rg_has M' z) (f0 : M'.1 430 c = M.1 430 c) (f9 : ∀ x, x < 36 → M'.1 429 (36 * c + x) = M.1 429 (36 * c + x)) (g : ∀ x y, x < 36 → y < 6 → (M'.1 (110 + 38 * c + x) y = M.1 (110 + 38 * c + x) y ∧ M'.1 428 (216 * c + 6 * x + y) = M.1 428 (216 * c + 6 * x + y)) ∨ ((x < rm_cl M c ∧ y < rm_cz M c x) ∧ M'.1 (110 + 38 * c + x) y = M'.1 428 (216 * c + 6 * x + y) ∧ rg_has M' (M'.1 428 (216 * c + 6 * x + y)))) : I_c1 M' c := by
  have h1 : rm_cl M' c = rm_cl M c := by unfold rm_cl; rw [f0]
  have h2 : ∀ x, x < 36 → rm_cz M' c x = rm_cz M c x := fun x hx => by unfold rm_cz; rw [f9 x hx]
  unfold I_c1 at h ⊢
  rw [h1, f0]
  refine ⟨h.1, fun x hx => ?_⟩
  rw [h2 x hx, f9 x hx]
  refine ⟨(h.2 x hx).1, fun y hy => ?_⟩
  have k := (h.2 x hx).2 y hy
  rcases g x y hx hy with ⟨g1, g2⟩ | ⟨g1, g2, g3⟩
  · rw [g1, g2]
    exact ⟨fun q => ⟨(k.1 q).1, hm _ (k.1 q).2⟩, k.2⟩
  · exact ⟨fun _ => ⟨g2, g3⟩, fun q => absurd g1 q⟩
theorem rg_tw_ne (h : rg_Inv M) {t x y : Int32} (hc : rg_cp M t) : ¬ rg_tw M t x y = -1 ↔ (rm_in x 0 (M.1 430 t.toNatClampNeg - 1) ∧ rm_in y 0 (rm_so M t x.toNatClampNeg - 1)) := by
  have ht : rg_tx M t := Or.inr hc
  have hm := rg_Inv_mi h
  have hmt : rm_tx M t := (rg_tx_i h).mpr ht
  have hn1 : ¬ t = -1 := fun z => hc.1 (by rw [z]; decide)
  have elo : rm_lo M t = M.1 430 t.toNatClampNeg := by unfold rm_lo; rw [if_neg hn1]
  obtain ⟨n, hn, hn36⟩ := rm_lo_n hm hmt
  have key : ∀ xa ya, xa < 36 → ya < 6 → (¬ rg_tw M t (nI xa) (nI ya) = -1 ↔ rm_fh M t xa ya) := fun xa ya hx hy => by
    have z := rg_tw_i h ht hx hy
    constructor
    · intro q
      exact Classical.byContradiction (fun w => q (z.2 w))
    · intro q
      rw [(z.1 q).1]
      obtain ⟨a, _, ha, ea⟩ := rg_hasN (rg_Inv_ci h) (z.1 q).2
      rw [ea]
      exact rg_nIm (by omega)
  rw [← elo]
  constructor
  · intro q
    have os := rg_tw_os hc q
    obtain ⟨xa, hxa, rfl⟩ := vp_in_of (rg_lit_in (x := x) (n := 36) (m := 36) rfl os.1 os.2.1) (by omega)
    obtain ⟨ya, hya, rfl⟩ := vp_in_of (rg_lit_in (x := y) (n := 6) (m := 6) rfl os.2.2.1 os.2.2.2) (by omega)
    have w := (key xa ya hxa hya).mp q
    rw [nI_clamp (by omega)]
    obtain ⟨m, hm2, hm6⟩ := rm_so_n hm hmt hxa
    refine ⟨(rm_in1 hn (by omega)).mpr ⟨nI_pos (by omega), ?_⟩, (rm_in2 hm2 (by omega)).mpr ⟨nI_pos (by omega), w⟩⟩
    apply Classical.byContradiction
    intro c
    unfold rm_fh rm_so at w
    rw [if_neg c] at w
    exact absurd (nI_pos' (by omega)) w
  · rintro ⟨q1, q2⟩
    obtain ⟨xa, hxa, rfl⟩ := rm_in_le hn (by omega) q1
    rw [nI_clamp (by omega)] at q2
    obtain ⟨m, hm2, hm6⟩ := rm_so_n hm hmt (l := xa) (by omega)
    have q3 := (rm_in2 hm2 (by omega)).mp q2
    obtain ⟨ya, hya, rfl⟩ := rm_in_le hm2 (by omega) q2
    exact (key xa ya (by omega) (by omega)).mpr q3.2
theorem rm_so_g (g : rg_mo M Mw) {t : Int32} {l : Nat} : rm_so Mw t l = rm_so M t l := by
  unfold rm_so rm_lo
  rw [g.1 412 (by omega), g.1 430 (by omega), g.1 418 (by omega), g.1 429 (by omega)]
end T3
section T4
variable {M M' Mw Mz : rg_Mem}
theorem rg_J2 {X Y : rg_Mem} {o p k : Nat} {v w : Int64} (h : X.2 o = Y.2 p) (hv : v = w) : (rg_J X o k v).2 o = (rg_J Y p k w).2 p := by
  funext j
  show (if o = o ∧ j = k then v else X.2 o j) = if p = p ∧ j = k then w else Y.2 p j
  rw [h, hv]
  by_cases c : j = k
  · rw [if_pos ⟨rfl, c⟩, if_pos ⟨rfl, c⟩]
  · rw [if_neg (fun q => c q.2), if_neg (fun q => c q.2)]
theorem rg_and1 {X : Int64} : (X &&& 1 = 1) ↔ ¬ X &&& 1 = 0 := by
  rw [← Int64.toBitVec_inj, ← Int64.toBitVec_inj, Int64.toBitVec_and]
  show X.toBitVec &&& 1#64 = 1#64 ↔ ¬ X.toBitVec &&& 1#64 = 0#64
  rw [BitVec.and_one_eq_setWidth_ofBool_getLsbD]
  cases X.toBitVec.getLsbD 0 <;> simp
theorem rg_sm_f {f f' w : Nat → Int32} : ∀ n, (∀ k, k < n → f' (w k).toNatClampNeg = f (w k).toNatClampNeg) → rg_sm f' w n = rg_sm f w n
  | 0, _ => rfl
  | n + 1, h => by rw [rg_sm, rg_sm, rg_sm_f n (fun k hk => h k (by omega)), h n (by omega)]
theorem rg_fi_f {f f' w : Nat → Int32} : ∀ n, (∀ k, k < n → f' (w k).toNatClampNeg = f (w k).toNatClampNeg) → rg_fi f' w n = rg_fi f w n
  | 0, _ => rfl
  | n + 1, h => by rw [rg_fi, rg_fi, rg_fi_f n (fun k hk => h k (by omega)), h n (by omega)]
theorem rg_og_f {f f' w : Nat → Int32} : ∀ n, (∀ k, k < n → f' (w k).toNatClampNeg = f (w k).toNatClampNeg) → rg_og f' w n = rg_og f w n
  | 0, _ => rfl
  | n + 1, h => by rw [rg_og, rg_og, rg_og_f n (fun k hk => h k (by omega)), h n (by omega)]
theorem rg_VS_w {v n : Nat} (hI : rg_CI M) (hv : rg_VS M v n) (hm : ∀ z, rg_has M z → rg_has M' z) (fr : ∀ c, 2 ≤ c → c ≤ 4 → ∀ w, w < rg_nw M → M'.1 c w = M.1 c w) (s1 : M'.1 v = M.1 v) (s2 : M'.1 (v + 1) = M.1 (v + 1)) (s5 : M'.2 v = M.2 v) : rg_VS M' v n := by
  have hc : ∀ k, k < n → (M.1 (v + 1) k).toNatClampNeg < rg_nw M := fun k hk => by
    obtain ⟨a, ha, ha40, ea⟩ := rg_hasN hI (hv.2.2.1 k hk)
    rw [ea, nI_clamp (by omega)]
    exact ha
  unfold rg_VS at hv ⊢
  rw [s1, s2, s5, rg_sm_f n (fun k hk => fr 2 (by omega) (by omega) _ (hc k hk)), rg_fi_f n (fun k hk => fr 3 (by omega) (by omega) _ (hc k hk)), rg_og_f n (fun k hk => fr 4 (by omega) (by omega) _ (hc k hk))]
  exact ⟨hv.1, hv.2.1, fun k hk => hm _ (hv.2.2.1 k hk), hv.2.2.2⟩
theorem rm_pz_n {i c k : Nat} (h : ¬ (c = 423 ∧ k < i)) : (rm_pz M i).1 c k = M.1 c k := by
  show (if _ then _ else _) = _
  rw [if_neg h]
theorem rm_pz_y {i k : Nat} (h : k < i) : (rm_pz M i).1 423 k = 0 := by
  show (if _ then _ else _) = _
  rw [if_pos ⟨rfl, h⟩]
theorem rm_bz_n {i c k : Nat} (h : ¬ ((c = 420 ∨ c = 421 ∨ c = 422) ∧ k < i)) : (rm_bz M i).1 c k = M.1 c k := by
  show (if _ then _ else _) = _
  rw [if_neg h]
theorem rm_bz_y {i c k : Nat} (h : (c = 420 ∨ c = 421 ∨ c = 422) ∧ k < i) : (rm_bz M i).1 c k = 0 := by
  show (if _ then _ else _) = _
  rw [if_pos h]
theorem rg_z7_n {i c k : Nat} (h : ¬ (c = 7 ∧ k < i)) : (rg_z7 M i).1 c k = M.1 c k := by
  show (if _ then _ else _) = _
  rw [if_neg h]
theorem rg_z7_y {i k : Nat} (h : k < i) : (rg_z7 M i).1 7 k = 0 := by
  show (if _ then _ else _) = _
  rw [if_pos ⟨rfl, h⟩]
theorem rg_mo_z7 {i : Nat} (h : rg_mo M M') : rg_mo M (rg_z7 M' i) := ⟨fun c hc => (funext fun k => rg_z7_n (by omega) : (rg_z7 M' i).1 c = M'.1 c).trans (h.1 c hc), h.2⟩
theorem rg_bg_i (h : rg_Inv M) : (M.1 412 6 = 0 ∨ M.1 412 11 = 0 ∨ rm_fin M) ↔ ¬ (¬ M.1 6 0 ≤ M.1 6 4 ∧ ¬ M.1 6 4 ≤ 0) := by
  have hS := rg_Inv_s h
  have h36 := hS.2.2.2.1
  have hl := hS.2.1
  unfold rm_fin
  rw [hS.2.2.2.2.2.2.1, hS.2.2.2.2.2.2.2.1, hS.1, hS.2.2.1, nI_leI (by omega) (by omega), show (0 : Int32) = nI 0 from rfl, nI_leI (by omega) (by omega), nI_eq (by omega) (by omega), nI_eq (by omega) (by omega)]
  rcases hS.2.2.2.2.2.2.2.2.2.2.2 with ⟨q1, q2⟩ | ⟨q1, q2⟩
  · exact ⟨fun _ z => by omega, fun _ => Or.inl q1⟩
  · constructor
    · rintro (z | z | z) w
      · rw [q1] at z; exact absurd z (by decide)
      · omega
      · omega
    · intro z
      by_cases c : rg_nl M = 0
      · exact Or.inr (Or.inl c)
      · refine Or.inr (Or.inr ?_)
        apply Classical.byContradiction
        intro w
        exact z ⟨by omega, by omega⟩
/-- a number of a known part -/
theorem rg_xN {x lo hi : Int32} {m n : Nat} (h : rg_in x lo hi) (hlo : lo.toInt = m) (hhi : hi.toInt = n) (hn : n ≤ 100000) : ∃ a, m ≤ a ∧ a ≤ n ∧ x = nI a := by
  have h1 : ¬ x.toInt < lo.toInt := fun q => h.1 ((rg_lt _ _).mpr q)
  have h2 := (rg_le _ _).mp h.2
  have h0 : ¬ x < 0 := fun q => h1 (by have q := (rg_lt _ _).mp q; rw [show (0 : Int32).toInt = 0 from rfl] at q; omega)
  obtain ⟨j, hj, rfl⟩ := nI_of2 (M := hi) (n := n) hhi h0 h.2
  rw [nI_toInt (by omega)] at h1 h2
  exact ⟨j, by omega, by omega, rfl⟩
end T4
theorem rg_ref2 {M Mz : rg_Mem} {E y : Int32} {X : Prop} (h : rg_Inv M) (hE : E = y) (e2 : (¬ E = 0 ∧ Mz = rg_I M 412 33 E) ∨ (E = 0 ∧ X)) (hy : ¬ y = 0) : Mz.1 412 33 = y ∧ rg_Inv Mz := by
  rcases e2 with ⟨_, rfl⟩ | ⟨q, _⟩
  · exact ⟨rm_get.trans hE, rg_Inv_same h (rg_same_t (by omega))⟩
  · exact absurd (hE.symm.trans q) hy
section T5
variable {M M' Mw Mz X : rg_Mem}
theorem rg_wkn (g : rm_wk X Mz) {c j : Nat} (h : ¬ ((c = 412 ∧ 31 ≤ j) ∨ c = 431)) : Mz.1 c j = X.1 c j := by
  by_cases c1 : c = 412
  · rw [c1]; exact g.2 j (by omega)
  · rw [(g.1 c c1 (by omega)).1]
theorem rg_wkn2 (g : rm_wk X Mz) {c : Nat} (h : ¬ (c = 412 ∨ c = 431)) : Mz.2 c = X.2 c := (g.1 c (by omega) (by omega)).2
theorem rm_cy_n {c d i q k : Nat} {f : Nat → Int32} (h : ¬ (q = c ∧ d ≤ k ∧ k < d + i)) : (rm_cy M c d f i).1 q k = M.1 q k := by
  show (if _ then _ else _) = _
  rw [if_neg h]
theorem rm_cy_y {c d i k : Nat} {f : Nat → Int32} (h : k < i) : (rm_cy M c d f i).1 c (d + k) = f k := by
  show (if _ then _ else _) = _
  rw [if_pos ⟨rfl, by omega, by omega⟩, show d + k - d = k by omega]
theorem rg_zp_n {j i c k : Nat} (h : ¬ (13 ≤ c ∧ c < 13 + i ∧ k = j)) : (rg_zp M j i).1 c k = M.1 c k := by
  show (if _ then _ else _) = _
  rw [if_neg h]
theorem rg_zp_y {j i c : Nat} (h : 13 ≤ c ∧ c < 13 + i) : (rg_zp M j i).1 c j = -1 := by
  show (if _ then _ else _) = _
  rw [if_pos ⟨h.1, h.2, rfl⟩]
theorem rg_f8_all {g : Nat → Int32} : ∀ m t, 1 ≤ t → t + m ≤ 1000 → rg_f8 g m t = 0 → ∀ i, t ≤ i → i < t + m → g i = -1
  | 0, _, _, _, _, i, h1, h2 => absurd h2 (by omega)
  | m + 1, t, ht, hm, e, i, h1, h2 => by
    by_cases c : g t = -1
    · rw [rg_f8_0 c] at e
      by_cases d : i = t
      · rw [d]; exact c
      · exact rg_f8_all m (t + 1) (by omega) (by omega) e i (by omega) (by omega)
    · rw [rg_f8_1 c] at e
      exact absurd e (nI_ne0 (by omega) (by omega))
theorem rg_di_q (h : rg_Inv M) {w : Nat → Int32} {n j : Nat} {po : Int32} (hn : n ≤ 6) (hw : ∀ k, k < n → rg_has M (w k)) (e : rg_f8 (rg_cq M w n j (rg_sp M) po) 8 1 = 0) : ∀ i k, i < k → k < n → ¬ w i = w k := by
  intro i k hik hk q
  have e3 := rg_f8_all 8 1 (by omega) (by omega) e 3 (by omega) (by omega)
  have e4 := rg_ff_none n 0 (by omega) (show rg_ff (rg_ag (rg_ra (rg_cwd M j) (rg_sp M)) w) n 0 = -1 from e3) k (by omega) (by omega)
  have hN : ∀ k, k < n → ∃ a, a < 40 ∧ w k = nI a := fun k hk => by
    obtain ⟨a, _, h2, h3⟩ := rg_hasN (rg_Inv_ci h) (hw k hk)
    exact ⟨a, h2, h3⟩
  obtain ⟨b, hb, eb⟩ := hN k hk
  have e5 := of_decide_eq_false e4
  apply e5
  intro z
  rw [eb, rg_and_bit hb, rg_B8_or] at z
  exact z (Or.inr ((rg_ws_bit hb k (fun i hi => hN i (by omega))).mpr ⟨i, hik, by rw [q, eb]⟩))
end T5
section T6
variable {M M' Mw Mz X : rg_Mem}
theorem rg_no4 (h : rg_Inv M) (q : M.1 0 10 < 4) : rg_no M < 4 := by
  have ho := rg_Inv_of h
  have h4 := ho.2.1
  rw [ho.1] at q
  rcases Nat.lt_or_ge (rg_no M) 4 with c | c
  · exact c
  · exact absurd q (rg_nlt.mpr (nI_le (a := 4) c (by omega)))
theorem rg_ofr (h : rg_Inv M) (g : rg_mo M Mw) (h2 : ¬ M.1 6 0 ≤ M.1 6 4) (h3 : M.1 0 10 < 4) : ¬ Mw.1 412 6 = 0 ∧ ¬ rm_fin Mw ∧ ¬ 4 ≤ Mw.1 412 24 := by
  have z := (rg_open h).mp h2
  unfold rm_fin at z ⊢
  rw [g.1 412 (by omega)]
  exact ⟨fun q => z (Or.inl q), fun q => z (Or.inr q), by rw [(rg_Inv_of h).2.2.1]; exact rg_nle.mpr h3⟩
theorem rg_ofr2 (h : rg_Inv M) (q : ¬ M.1 412 6 = 0 ∧ ¬ rm_fin M ∧ ¬ 4 ≤ M.1 412 24) : ¬ M.1 6 0 ≤ M.1 6 4 ∧ M.1 0 10 < 4 := ⟨(rg_open h).mpr (fun z => z.elim q.1 q.2.1), by rw [← (rg_Inv_of h).2.2.1]; exact rg_nle.mp q.2.2⟩
end T6
section T7
variable {M M' Mw Mz X : rg_Mem}
theorem rg_mo_zp {j i : Nat} (h : rg_mo M M') (hi : i ≤ 4) : rg_mo M (rg_zp M' j i) := ⟨fun c hc => (funext fun k => rg_zp_n (by omega) : (rg_zp M' j i).1 c = M'.1 c).trans (h.1 c hc), h.2⟩
theorem rg_chN (h : rg_Inv M) {x : Int32} (q : ¬ x < 0 ∧ x < M.1 0 10) : rg_nl M < 36 ∧ rg_nl M < rg_nt M := by
  have ho := rg_Inv_of h
  have h4 := ho.2.1
  obtain ⟨a, ha, e⟩ := vp_in_of (rg_lt_in ho.1 (by omega) q.1 q.2) (by omega)
  have := ho.2.2.2.1 (by omega)
  have := (rg_Inv_s h).2.2.2.1
  exact ⟨by omega, by omega⟩
theorem rg_nl1 (h : rg_Inv M) (q : rg_hl M (nI (rg_nl M) - 1)) : 1 ≤ rg_nl M := by
  rcases Nat.eq_zero_or_pos (rg_nl M) with c | c
  · rw [c] at q
    exact absurd (show (nI 0 - 1 : Int32) < 0 by decide) q.1
  · exact c
theorem rg_mend_i (h : rg_Inv M) {x : Int32} : (rg_hl M (nI (rg_nl M) - 1) ∧ ¬ rg_wp M (nI (rg_nl M) - 1) x = -1) ↔ (¬ M.1 412 11 ≤ 0 ∧ rm_in x 0 (M.1 418 (rm_nl M - 1) - 1)) := by
  have hS := rg_Inv_s h
  have h36 := rg_Inv_36 h
  rw [rm_nl_i h, hS.2.2.2.2.2.2.1, hS.1]
  by_cases c : 1 ≤ rg_nl M
  · rw [rm_sub1 c]
    have hl : rg_hl M (nI (rg_nl M - 1)) := rg_hl_k hS.1 h36 (by omega)
    have w := (rg_wp_i h (y := x) hl).1
    rw [nI_clamp (by omega)] at w
    exact and_congr ⟨fun _ => nI_nle (by omega) (by omega), fun _ => hl⟩ w
  · constructor
    · intro q
      exact absurd (rg_nl1 h q.1) c
    · intro q
      rw [show rg_nl M = 0 by omega] at q
      exact absurd (show (nI 0 : Int32) ≤ 0 by decide) q.1
end T7
section T8
variable {M M' Mw Mz X : rg_Mem}
theorem rg_fil_n {q c j : Nat} {t : Int32} (h : ¬ (110 + 38 * q ≤ c ∧ c < 146 + 38 * q)) : (rg_fil M q t 36 0).1 c j = M.1 c j := by
  show (if _ then _ else _) = _
  rw [if_neg (fun z => h z.1)]
theorem rg_fil_y {q x y : Nat} {t : Int32} (hx : x < 36) (hy : y < 6) : (rg_fil M q t 36 0).1 (110 + 38 * q + x) y = rg_tw M t (nI x) (nI y) := by
  show (if _ then _ else _) = _
  rw [if_pos (by omega), show 110 + 38 * q + x - (110 + 38 * q) = x by omega]
theorem rg_mo_fil {q : Nat} {t : Int32} (h : rg_mo M M') (hq : q < 8) : rg_mo M (rg_fil M' q t 36 0) := ⟨fun c hc => (funext fun k => rg_fil_n (by omega) : (rg_fil M' q t 36 0).1 c = M'.1 c).trans (h.1 c hc), h.2⟩
theorem rg_nc8 (h : rg_Inv M) (q : M.1 0 11 < 8) : rg_nc M < 8 := by
  have hC := rg_Inv_c h
  have h8 := hC.2.1
  rw [hC.1] at q
  rcases Nat.lt_or_ge (rg_nc M) 8 with c | c
  · exact c
  · exact absurd q (rg_nlt.mpr (nI_le (a := 8) c (by omega)))
theorem rg_cqn {c j p : Nat} (g : rm_cq M X) (hp : rm_nc M = p) (h : ¬ ((c = 412 ∧ 31 ≤ j) ∨ (c = 428 ∧ 216 * p ≤ j) ∨ (c = 429 ∧ 36 * p ≤ j) ∨ (c = 430 ∧ p ≤ j) ∨ c = 431)) : X.1 c j = M.1 c j := by
  subst hp
  by_cases c1 : c = 412
  · rw [c1]; exact g.2.1 j (by omega)
  · by_cases c2 : c = 428
    · rw [c2]; exact g.2.2.2.2 j (by omega)
    · by_cases c3 : c = 429
      · rw [c3]; exact g.2.2.2.1 j (by omega)
      · by_cases c4 : c = 430
        · rw [c4]; exact g.2.2.1 j (by omega)
        · rw [(g.1 c c1 c2 c3 c4 (by omega)).1]
theorem rm_lo_g (g : rg_mo M Mw) {t : Int32} : rm_lo Mw t = rm_lo M t := by
  unfold rm_lo
  rw [g.1 412 (by omega), g.1 430 (by omega)]
theorem rm_wo_g (g : rg_mo M Mw) {t : Int32} {l w : Nat} : rm_wo Mw t l w = rm_wo M t l w := by
  unfold rm_wo
  rw [g.1 417 (by omega), g.1 428 (by omega)]
end T8
