/-! tools for the calls, continued -/
theorem rg_Il {M : rg_Mem} {o k c j : Nat} {v : Int32} (h : ¬ (c = o ∧ j = k)) : (rg_I M o k v).1 c j = M.1 c j := by
  show (if _ then _ else _) = _
  rw [if_neg h]
section T2
variable {M M' Mw Mz : rg_Mem}
theorem rg_okn {E Y r : Int32} {v : Int64} (h : rg_Inv M) (hs : rg_same M Mw) (ho : Mw.2 432 0 = v) (hE : E = 0) (e2 : (¬ E = 0 ∧ r = 0 ∧ Mz = rg_I Mw 412 33 E) ∨ (E = 0 ∧ r = Y ∧ Mz = rg_I Mw 412 33 E)) (hv : v = Y.toInt64) : Mz.1 412 33 = 0 ∧ ((0 : Int32) = 0 → Mz.2 432 0 = r.toInt64) ∧ rg_Inv Mz := by
  rcases e2 with ⟨q, _⟩ | ⟨_, hr, rfl⟩
  · exact absurd hE q
  · exact ⟨rm_get.trans hE, fun _ => by rw [hr, ← hv]; exact ho, rg_Inv_same h (rg_same_tr hs (rg_same_t (by omega)))⟩
theorem rg_okw {E Y r : Int32} {v : Int64} (h : rg_Inv M) (hs : rg_same M Mw) (ho : Mw.2 432 0 = v) (hE : E = 0) (e2 : (¬ E = 0 ∧ r = 0 ∧ Mz = rg_I Mw 412 33 E) ∨ (E = 0 ∧ r = Y ∧ rm_wk Mw Mz ∧ Mz.1 412 33 = 0)) (hv : v = Y.toInt64) : Mz.1 412 33 = 0 ∧ ((0 : Int32) = 0 → Mz.2 432 0 = r.toInt64) ∧ rg_Inv Mz := by
  rcases e2 with ⟨q, _⟩ | ⟨_, hr, hw, h0⟩
  · exact absurd hE q
  · exact ⟨h0, fun _ => by rw [hr, ← hv, (hw.1 432 (by omega) (by omega)).2]; exact ho, rg_Inv_same h (rg_same_tr hs (rg_same_wk hw))⟩
theorem rg_iw_g (h : rg_Inv M) (g : rg_mo M Mw) {x : Int32} : rm_iw Mw x ↔ rg_has M x := (rm_iw_mo g).trans (rm_iw_i h)
theorem rg_il_g (h : rg_Inv M) (g : rg_mo M Mw) {x : Int32} : rm_il Mw x ↔ rg_hl M x := (rm_il_mo g).trans (rg_il_i h)
theorem rg_ip_g (h : rg_Inv M) (g : rg_mo M Mw) {x : Int32} : rm_ip Mw x ↔ rg_pt M x := (rm_ip_mo g).trans (rg_ip_i h)
theorem rg_ic_g (h : rg_Inv M) (g : rg_mo M Mw) {x : Int32} : rm_ic Mw x ↔ rg_cp M x := (rm_ic_mo g).trans (rg_ic_i h)
theorem rg_tx_g (h : rg_Inv M) (g : rg_mo M Mw) {x : Int32} : rm_tx Mw x ↔ rg_tx M x := (rm_tx_mo g).trans (rg_tx_i h)
theorem rg_beg_i (h : rg_Inv M) : ¬ M.1 6 0 ≤ 0 ↔ ¬ M.1 412 6 = 0 := by
  have hS := rg_Inv_s h
  have h36 := hS.2.2.2.1
  rw [hS.2.2.1, show (0 : Int32) = nI 0 from rfl, nI_leI (by omega) (by omega)]
  rcases hS.2.2.2.2.2.2.2.2.2.2.2 with ⟨q1, q2⟩ | ⟨q1, q2⟩
  · rw [q1]
    exact ⟨fun z => by omega, fun z => absurd rfl z⟩
  · rw [q1]
    exact ⟨fun _ => by decide, fun _ => by omega⟩
theorem rm_ol_g (g : rg_mo M Mw) {a : Nat} {y : Int32} : rm_ol Mw a y = rm_ol M a y := by
  have f : ∀ c, 412 ≤ c → Mw.1 c = M.1 c := g.1
  unfold rm_ol rm_rn rm_son rm_sgn rm_w rm_z
  rw [f 414 (by omega), f 415 (by omega), f 417 (by omega), f 418 (by omega), f 419 (by omega), f 421 (by omega), f 422 (by omega)]
theorem rm_fa_g (g : rg_mo M Mw) : rm_fa Mw = rm_fa M := by
  have e : rm_eq M (Mw.1, fun c => if c = 432 then M.2 432 else Mw.2 c) := ⟨fun c h1 h2 => ⟨g.1 c (by omega), by
    show (if c = 432 then M.2 432 else Mw.2 c) = M.2 c
    by_cases q : c = 432
    · rw [if_pos q, q]
    · rw [if_neg q]; exact g.2 c (by omega) q⟩, fun k hk => by show Mw.1 412 k = _; rw [g.1 412 (by omega)]⟩
  exact (show rm_fa Mw = rm_fa (Mw.1, fun c => if c = 432 then M.2 432 else Mw.2 c) from rfl).trans (rm_fa_e e)
/-! parts of the invariant, where cells of them change -/
theorem I_v1_g {l : Nat} (h : I_v1 M l) (hv : rg_VS M' (17 + 2 * l) (rg_sz M (17 + 2 * l))) (s1 : M'.1 (17 + 2 * l) = M.1 (17 + 2 * l)) (s2 : M'.1 (17 + 2 * l + 1) = M.1 (17 + 2 * l + 1)) (hp : rg_np M ≤ rg_np M') (c9 : M'.1 9 l = M.1 9 l) (c8 : M'.1 418 l = M.1 418 l) (c7 : ∀ k, k < 6 → M'.1 417 (6 * l + k) = M.1 417 (6 * l + k)) (a : M'.1 421 l = M'.1 10 l) (b : M'.1 422 l = M'.1 11 l) (d : ∀ j, j < 4 → M'.1 (13 + j) l = M'.1 423 (36 * j + l) - 1) : I_v1 M' l := by
  have hs : rg_sz M' (17 + 2 * l) = rg_sz M (17 + 2 * l) := by unfold rg_sz; rw [s1]
  obtain ⟨h1, h2, h3, ⟨q, hq, e⟩, _⟩ := h
  have h6 := h1.2.1
  unfold I_v1
  rw [hs, s1, s2, c9, c8]
  exact ⟨hv, h2, fun k hk => (c7 k (by omega)).trans (h3 k hk), ⟨q, by omega, e⟩, a, b, d⟩
theorem I_o1_g {o : Nat} (h : I_o1 M o) (hv : rg_VS M' (99 + 2 * o) (rg_sz M (99 + 2 * o))) (s1 : M'.1 (99 + 2 * o) = M.1 (99 + 2 * o)) (s2 : M'.1 (99 + 2 * o + 1) = M.1 (99 + 2 * o + 1)) (hp : rg_np M ≤ rg_np M') (c9 : M'.1 97 o = M.1 97 o) (c6 : M'.1 426 o = M.1 426 o) (c5 : ∀ k, k < 6 → M'.1 425 (6 * o + k) = M.1 425 (6 * o + k)) (c7 : M'.1 427 o = M.1 427 o) : I_o1 M' o := by
  have hs : rg_sz M' (99 + 2 * o) = rg_sz M (99 + 2 * o) := by unfold rg_sz; rw [s1]
  obtain ⟨h1, h2, h3, ⟨q, hq, e⟩, h5⟩ := h
  have h6 := h1.2.1
  unfold I_o1
  rw [hs, s1, s2, c9, c6, c7]
  exact ⟨hv, h2, fun k hk => (c5 k (by omega)).trans (h3 k hk), ⟨q, by omega, e⟩, h5⟩
end T2
section T3
variable {M M' Mw Mz : rg_Mem}
theorem rg_seat_i (h : rg_Inv M) {x : Int32} : (¬ M.1 412 6 = 0 ∧ rm_in x (M.1 412 11) (M.1 412 7 - 1)) ↔ (¬ x < M.1 6 4 ∧ x < M.1 6 0) := by
  have hS := rg_Inv_s h
  have h36 := hS.2.2.2.1
  have hl := hS.2.1
  have e7 : M.1 412 7 = nI (rg_nt M) := hS.2.2.2.2.2.2.2.1.trans hS.2.2.1
  rw [← hS.2.2.2.2.2.2.1, ← hS.2.2.2.2.2.2.2.1]
  unfold rm_in
  rw [rm_pred e7 (by omega)]
  constructor
  · exact fun z => z.2
  · intro z
    refine ⟨fun q => ?_, z⟩
    rcases hS.2.2.2.2.2.2.2.2.2.2.2 with w | w
    · rw [hS.2.2.2.2.2.2.1, hS.1, e7, rg_nlt, rg_lt, rg_le, nI_toInt (by omega), nI_toInt (by omega)] at z
      omega
    · rw [w.1] at q
      exact absurd q (by decide)
theorem rg_no_i (h : rg_Inv M) : M.1 412 24 = 0 ↔ M.1 0 10 ≤ 0 := by
  have ho := rg_Inv_of h
  have h4 := ho.2.1
  rw [ho.2.2.1, ho.1, show (0 : Int32) = nI 0 from rfl, nI_leI (by omega) (by omega), nI_eq (by omega) (by omega)]
  omega
theorem rg_x03 {x : Int32} : rm_in x 0 3 ↔ (¬ x < 0 ∧ x < 4) := by
  unfold rm_in
  rw [rg_lt 3, rg_lt _ 4, show (3 : Int32).toInt = 3 from rfl, show (4 : Int32).toInt = 4 from rfl]
  exact and_congr Iff.rfl (by omega)
theorem rg_x03N {x : Int32} (h : ¬ x < 0 ∧ x < 4) : ∃ a, a < 4 ∧ x = nI a ∧ x.toNatClampNeg = a := by
  obtain ⟨a, ha, e⟩ := vp_in_of (rg_lt_in (a := 4) (n := 4) rfl (by omega) h.1 h.2) (by omega)
  exact ⟨a, ha, e, by rw [e, nI_clamp (by omega)]⟩
theorem rg_x10N {x : Int32} (h : rg_in x 0 10) : ∃ a, a ≤ 10 ∧ x = nI a := by
  obtain ⟨j, hj, rfl⟩ := nI_of2 (M := 10) (n := 10) rfl h.1 h.2
  exact ⟨j, hj, rfl⟩
theorem I_c1_g {c : Nat} (h : I_c1 M c) (hm : ∀ z, rg_has M z → rg_has M' z) (f0 : M'.1 430 c = M.1 430 c) (f9 : ∀ x, x < 36 → M'.1 429 (36 * c + x) = M.1 429 (36 * c + x)) (g : ∀ x y, x < 36 → y < 6 → (M'.1 (110 + 38 * c + x) y = M.1 (110 + 38 * c + x) y ∧ M'.1 428 (216 * c + 6 * x + y) = M.1 428 (216 * c + 6 * x + y)) ∨ ((x < rm_cl M c ∧ y < rm_cz M c x) ∧ M'.1 (110 + 38 * c + x) y = M'.1 428 (216 * c + 6 * x + y) ∧ rg_has M' (M'.1 428 (216 * c + 6 * x + y)))) : I_c1 M' c := by
  have h1 : rm_cl M' c = rm_cl M c := by unfold rm_cl; rw [f0]
  have h2 : ∀ x, x < 36 → rm_cz M' c x = rm_cz M c x := fun x hx => by unfold rm_cz; rw [f9 x hx]
  unfold I_c1 at h ⊢
  rw [h1, f0]
  refine ⟨h.1, fun x hx => ?_⟩
  rw [h2 x hx, f9 x hx]
  refine ⟨(h.2 x hx).1, fun y hy => ?_⟩
  have k := (h.2 x hx).2 y hy
  rcases g x y hx hy with ⟨g1, g2⟩ | ⟨g1, g2, g3⟩
  · rw [g1, g2]
    exact ⟨fun q => ⟨(k.1 q).1, hm _ (k.1 q).2⟩, k.2⟩
  · exact ⟨fun _ => ⟨g2, g3⟩, fun q => absurd g1 q⟩
theorem rg_tw_ne (h : rg_Inv M) {t x y : Int32} (hc : rg_cp M t) : ¬ rg_tw M t x y = -1 ↔ (rm_in x 0 (M.1 430 t.toNatClampNeg - 1) ∧ rm_in y 0 (rm_so M t x.toNatClampNeg - 1)) := by
  have ht : rg_tx M t := Or.inr hc
  have hm := rg_Inv_mi h
  have hmt : rm_tx M t := (rg_tx_i h).mpr ht
  have hn1 : ¬ t = -1 := fun z => hc.1 (by rw [z]; decide)
  have elo : rm_lo M t = M.1 430 t.toNatClampNeg := by unfold rm_lo; rw [if_neg hn1]
  obtain ⟨n, hn, hn36⟩ := rm_lo_n hm hmt
  have key : ∀ xa ya, xa < 36 → ya < 6 → (¬ rg_tw M t (nI xa) (nI ya) = -1 ↔ rm_fh M t xa ya) := fun xa ya hx hy => by
    have z := rg_tw_i h ht hx hy
    constructor
    · intro q
      exact Classical.byContradiction (fun w => q (z.2 w))
    · intro q
      rw [(z.1 q).1]
      obtain ⟨a, _, ha, ea⟩ := rg_hasN (rg_Inv_ci h) (z.1 q).2
      rw [ea]
      exact rg_nIm (by omega)
  rw [← elo]
  constructor
  · intro q
    have os := rg_tw_os hc q
    obtain ⟨xa, hxa, rfl⟩ := vp_in_of (rg_lit_in (x := x) (n := 36) (m := 36) rfl os.1 os.2.1) (by omega)
    obtain ⟨ya, hya, rfl⟩ := vp_in_of (rg_lit_in (x := y) (n := 6) (m := 6) rfl os.2.2.1 os.2.2.2) (by omega)
    have w := (key xa ya hxa hya).mp q
    rw [nI_clamp (by omega)]
    obtain ⟨m, hm2, hm6⟩ := rm_so_n hm hmt hxa
    refine ⟨(rm_in1 hn (by omega)).mpr ⟨nI_pos (by omega), ?_⟩, (rm_in2 hm2 (by omega)).mpr ⟨nI_pos (by omega), w⟩⟩
    apply Classical.byContradiction
    intro c
    unfold rm_fh rm_so at w
    rw [if_neg c] at w
    exact absurd (nI_pos' (by omega)) w
  · rintro ⟨q1, q2⟩
    obtain ⟨xa, hxa, rfl⟩ := rm_in_le hn (by omega) q1
    rw [nI_clamp (by omega)] at q2
    obtain ⟨m, hm2, hm6⟩ := rm_so_n hm hmt (l := xa) (by omega)
    have q3 := (rm_in2 hm2 (by omega)).mp q2
    obtain ⟨ya, hya, rfl⟩ := rm_in_le hm2 (by omega) q2
    exact (key xa ya (by omega) (by omega)).mpr q3.2
theorem rm_so_g (g : rg_mo M Mw) {t : Int32} {l : Nat} : rm_so Mw t l = rm_so M t l := by
  unfold rm_so rm_lo
  rw [g.1 412 (by omega), g.1 430 (by omega), g.1 418 (by omega), g.1 429 (by omega)]
end T3
