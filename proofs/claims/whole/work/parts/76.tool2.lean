/-! tools for the calls, continued -/
theorem rg_Il {M : rg_Mem} {o k c j : Nat} {v : Int32} (h : ¬ (c = o ∧ j = k)) : (rg_I M o k v).1 c j = M.1 c j := by
  show (if _ then _ else _) = _
  rw [if_neg h]
section T2
variable {M M' Mw Mz : rg_Mem}
theorem rg_okn {E Y r : Int32} {v : Int64} (h : rg_Inv M) (hs : rg_same M Mw) (ho : Mw.2 432 0 = v) (hE : E = 0) (e2 : (¬ E = 0 ∧ r = 0 ∧ Mz = rg_I Mw 412 33 E) ∨ (E = 0 ∧ r = Y ∧ Mz = rg_I Mw 412 33 E)) (hv : v = Y.toInt64) : Mz.1 412 33 = 0 ∧ ((0 : Int32) = 0 → Mz.2 432 0 = r.toInt64) ∧ rg_Inv Mz := by
  rcases e2 with ⟨q, _⟩ | ⟨_, hr, rfl⟩
  · exact absurd hE q
  · exact ⟨rm_get.trans hE, fun _ => by rw [hr, ← hv]; exact ho, rg_Inv_same h (rg_same_tr hs (rg_same_t (by omega)))⟩
theorem rg_okw {E Y r : Int32} {v : Int64} (h : rg_Inv M) (hs : rg_same M Mw) (ho : Mw.2 432 0 = v) (hE : E = 0) (e2 : (¬ E = 0 ∧ r = 0 ∧ Mz = rg_I Mw 412 33 E) ∨ (E = 0 ∧ r = Y ∧ rm_wk Mw Mz ∧ Mz.1 412 33 = 0)) (hv : v = Y.toInt64) : Mz.1 412 33 = 0 ∧ ((0 : Int32) = 0 → Mz.2 432 0 = r.toInt64) ∧ rg_Inv Mz := by
  rcases e2 with ⟨q, _⟩ | ⟨_, hr, hw, h0⟩
  · exact absurd hE q
  · exact ⟨h0, fun _ => by rw [hr, ← hv, (hw.1 432 (by omega) (by omega)).2]; exact ho, rg_Inv_same h (rg_same_tr hs (rg_same_wk hw))⟩
theorem rg_iw_g (h : rg_Inv M) (g : rg_mo M Mw) {x : Int32} : rm_iw Mw x ↔ rg_has M x := (rm_iw_mo g).trans (rm_iw_i h)
theorem rg_il_g (h : rg_Inv M) (g : rg_mo M Mw) {x : Int32} : rm_il Mw x ↔ rg_hl M x := (rm_il_mo g).trans (rg_il_i h)
theorem rg_ip_g (h : rg_Inv M) (g : rg_mo M Mw) {x : Int32} : rm_ip Mw x ↔ rg_pt M x := (rm_ip_mo g).trans (rg_ip_i h)
theorem rg_ic_g (h : rg_Inv M) (g : rg_mo M Mw) {x : Int32} : rm_ic Mw x ↔ rg_cp M x := (rm_ic_mo g).trans (rg_ic_i h)
theorem rg_tx_g (h : rg_Inv M) (g : rg_mo M Mw) {x : Int32} : rm_tx Mw x ↔ rg_tx M x := (rm_tx_mo g).trans (rg_tx_i h)
theorem rg_beg_i (h : rg_Inv M) : ¬ M.1 6 0 ≤ 0 ↔ ¬ M.1 412 6 = 0 := by
  have hS := rg_Inv_s h
  have h36 := hS.2.2.2.1
  rw [hS.2.2.1, show (0 : Int32) = nI 0 from rfl, nI_leI (by omega) (by omega)]
  rcases hS.2.2.2.2.2.2.2.2.2.2.2 with ⟨q1, q2⟩ | ⟨q1, q2⟩
  · rw [q1]
    exact ⟨fun z => by omega, fun z => absurd rfl z⟩
  · rw [q1]
    exact ⟨fun _ => by decide, fun _ => by omega⟩
theorem rm_ol_g (g : rg_mo M Mw) {a : Nat} {y : Int32} : rm_ol Mw a y = rm_ol M a y := by
  have f : ∀ c, 412 ≤ c → Mw.1 c = M.1 c := g.1
  unfold rm_ol rm_rn rm_son rm_sgn rm_w rm_z
  rw [f 414 (by omega), f 415 (by omega), f 417 (by omega), f 418 (by omega), f 419 (by omega), f 421 (by omega), f 422 (by omega)]
theorem rm_fa_g (g : rg_mo M Mw) : rm_fa Mw = rm_fa M := by
  have e : rm_eq M (Mw.1, fun c => if c = 432 then M.2 432 else Mw.2 c) := ⟨fun c h1 h2 => ⟨g.1 c (by omega), by
    show (if c = 432 then M.2 432 else Mw.2 c) = M.2 c
    by_cases q : c = 432
    · rw [if_pos q, q]
    · rw [if_neg q]; exact g.2 c (by omega) q⟩, fun k hk => by show Mw.1 412 k = _; rw [g.1 412 (by omega)]⟩
  exact (show rm_fa Mw = rm_fa (Mw.1, fun c => if c = 432 then M.2 432 else Mw.2 c) from rfl).trans (rm_fa_e e)
/-! parts of the invariant, where cells of them change -/
theorem I_v1_g {l : Nat} (h : I_v1 M l) (hv : rg_VS M' (17 + 2 * l) (rg_sz M (17 + 2 * l))) (s1 : M'.1 (17 + 2 * l) = M.1 (17 + 2 * l)) (s2 : M'.1 (17 + 2 * l + 1) = M.1 (17 + 2 * l + 1)) (hp : rg_np M ≤ rg_np M') (c9 : M'.1 9 l = M.1 9 l) (c8 : M'.1 418 l = M.1 418 l) (c7 : ∀ k, k < 6 → M'.1 417 (6 * l + k) = M.1 417 (6 * l + k)) (a : M'.1 421 l = M'.1 10 l) (b : M'.1 422 l = M'.1 11 l) (d : ∀ j, j < 4 → M'.1 (13 + j) l = M'.1 423 (36 * j + l) - 1) : I_v1 M' l := by
  have hs : rg_sz M' (17 + 2 * l) = rg_sz M (17 + 2 * l) := by unfold rg_sz; rw [s1]
  obtain ⟨h1, h2, h3, ⟨q, hq, e⟩, _⟩ := h
  have h6 := h1.2.1
  unfold I_v1
  rw [hs, s1, s2, c9, c8]
  exact ⟨hv, h2, fun k hk => (c7 k (by omega)).trans (h3 k hk), ⟨q, by omega, e⟩, a, b, d⟩
theorem I_o1_g {o : Nat} (h : I_o1 M o) (hv : rg_VS M' (99 + 2 * o) (rg_sz M (99 + 2 * o))) (s1 : M'.1 (99 + 2 * o) = M.1 (99 + 2 * o)) (s2 : M'.1 (99 + 2 * o + 1) = M.1 (99 + 2 * o + 1)) (hp : rg_np M ≤ rg_np M') (c9 : M'.1 97 o = M.1 97 o) (c6 : M'.1 426 o = M.1 426 o) (c5 : ∀ k, k < 6 → M'.1 425 (6 * o + k) = M.1 425 (6 * o + k)) (c7 : M'.1 427 o = M.1 427 o) : I_o1 M' o := by
  have hs : rg_sz M' (99 + 2 * o) = rg_sz M (99 + 2 * o) := by unfold rg_sz; rw [s1]
  obtain ⟨h1, h2, h3, ⟨q, hq, e⟩, h5⟩ := h
  have h6 := h1.2.1
  unfold I_o1
  rw [hs, s1, s2, c9, c6, c7]
  exact ⟨hv, h2, fun k hk => (c5 k (by omega)).trans (h3 k hk), ⟨q, by omega, e⟩, h5⟩
end T2
