theorem pre_why {M : rg_Mem} (h : rg_Inv M) : rm_CI (M) := rg_Inv_mi h
theorem sim_why {M : rg_Mem} {r1 r2 : Int32} (h : rg_Inv M) (e1 : r1 = (M.1 0 12)) (e2 : (fun r => r = ((M)).1 412 25) r2) : r1 = r2 ∧ rg_Inv (rg_I ((M)) 412 33 0) := ⟨e1.trans (((rg_Inv_y h).symm).trans (Eq.symm e2)), rg_Inv_same h (rg_same_t (by omega))⟩
theorem pre_links {M : rg_Mem} (h : rg_Inv M) : rm_CI (M) := rg_Inv_mi h
theorem sim_links {M : rg_Mem} {r1 r2 : Int32} (h : rg_Inv M) (e1 : r1 = (M.1 6 4)) (e2 : (fun r => r = if ((M)).1 412 6 = 0 then 0 else ((M)).1 412 11) r2) : r1 = r2 ∧ rg_Inv (rg_I ((M)) 412 33 0) := by
  have hS := rg_Inv_s h
  have e2 : r2 = if M.1 412 6 = 0 then 0 else M.1 412 11 := e2
  refine ⟨?_, rg_Inv_same h (rg_same_t (by omega))⟩
  rw [e1, e2, hS.2.2.2.2.2.2.1]
  by_cases c : M.1 412 6 = 0
  · rw [if_pos c]
    have h1 := hS.2.1
    rcases hS.2.2.2.2.2.2.2.2.2.2.2 with q | q
    · rw [hS.1, show rg_nl M = 0 by omega]; rfl
    · rw [q.1] at c; exact absurd c (by decide)
  · rw [if_neg c]
theorem pre_offers {M : rg_Mem} (h : rg_Inv M) : rm_CI (M) := rg_Inv_mi h
theorem sim_offers {M : rg_Mem} {r1 r2 : Int32} (h : rg_Inv M) (e1 : r1 = (M.1 0 10)) (e2 : (fun r => r = ((M)).1 412 24) r2) : r1 = r2 ∧ rg_Inv (rg_I ((M)) 412 33 0) := ⟨e1.trans (((rg_Inv_of h).2.2.1.symm).trans (Eq.symm e2)), rg_Inv_same h (rg_same_t (by omega))⟩
theorem pre_ofLink {M Mw : rg_Mem} {k : Int32} {x : Int32} {y : Int32} (h : rg_Inv M) (e1 : (fun k M1 => (k = 0 ∧ ∃ r M2, ((fun r => (rg_hl M x ∧ rg_in y 0 5) ∧ r = rg_ol M x.toNatClampNeg y.toNatClampNeg) r ∧ M2 = M) ∧ M1 = rg_J M2 432 0 r.toInt64) ∨ ((fun X => (¬ (rg_hl M x) ∧ X = "java/lang/IndexOutOfBoundsException") ∨ ((rg_hl M x) ∧ ¬ (rg_in y 0 5) ∧ X = "java/lang/IllegalArgumentException")) "java/lang/IndexOutOfBoundsException" ∧ k = 1 ∧ M1 = M) ∨ ((fun X => (¬ (rg_hl M x) ∧ X = "java/lang/IndexOutOfBoundsException") ∨ ((rg_hl M x) ∧ ¬ (rg_in y 0 5) ∧ X = "java/lang/IllegalArgumentException")) "java/lang/IllegalArgumentException" ∧ k = 2 ∧ M1 = M)) k Mw) : rm_CI Mw := by
  rcases e1 with ⟨_, r1, M2, hs, em⟩ | ⟨_, _, em⟩ | ⟨_, _, em⟩
  · have g : rg_mo M M2 := by rw [hs.2]; exact rg_mo_rf
    rw [em]
    exact rg_mo_mi h (rg_mo_o g)
  · rw [em]
    exact rg_mo_mi h rg_mo_rf
  · rw [em]
    exact rg_mo_mi h rg_mo_rf
theorem sim_ofLink {M Mw Mz : rg_Mem} {k r : Int32} {x : Int32} {y : Int32} (h : rg_Inv M) (e1 : (fun k M1 => (k = 0 ∧ ∃ r M2, ((fun r => (rg_hl M x ∧ rg_in y 0 5) ∧ r = rg_ol M x.toNatClampNeg y.toNatClampNeg) r ∧ M2 = M) ∧ M1 = rg_J M2 432 0 r.toInt64) ∨ ((fun X => (¬ (rg_hl M x) ∧ X = "java/lang/IndexOutOfBoundsException") ∨ ((rg_hl M x) ∧ ¬ (rg_in y 0 5) ∧ X = "java/lang/IllegalArgumentException")) "java/lang/IndexOutOfBoundsException" ∧ k = 1 ∧ M1 = M) ∨ ((fun X => (¬ (rg_hl M x) ∧ X = "java/lang/IndexOutOfBoundsException") ∨ ((rg_hl M x) ∧ ¬ (rg_in y 0 5) ∧ X = "java/lang/IllegalArgumentException")) "java/lang/IllegalArgumentException" ∧ k = 2 ∧ M1 = M)) k Mw) (e2 : (fun r M1 => (¬ rm_go (rg_b (rm_il Mw x)) (rg_b (rm_in y 0 5)) 1 = 0 ∧ r = 0 ∧ M1 = rg_I Mw 412 33 (rm_go (rg_b (rm_il Mw x)) (rg_b (rm_in y 0 5)) 1)) ∨ (rm_go (rg_b (rm_il Mw x)) (rg_b (rm_in y 0 5)) 1 = 0 ∧ r = rm_ol Mw x.toNatClampNeg y ∧ M1 = (rg_I Mw 412 33 (rm_go (rg_b (rm_il Mw x)) (rg_b (rm_in y 0 5)) 1)))) r Mz) : Mz.1 412 33 = k ∧ (k = 0 → Mz.2 432 0 = r.toInt64) ∧ rg_Inv Mz := by
  rcases e1 with ⟨rfl, r1, M2, ⟨⟨⟨hx, hy⟩, er⟩, e3⟩, em⟩ | ⟨hx, rfl, em⟩ | ⟨hx, rfl, em⟩
  · have g : rg_mo M Mw := by rw [em, e3]; exact rg_mo_o rg_mo_rf
    have s : rg_same M Mw := by rw [em, e3]; exact rg_same_o
    have o : Mw.2 432 0 = r1.toInt64 := by rw [em]; exact rg_J_same

    obtain ⟨a, ha, ha36, e, ea⟩ := rg_hlN h hx
    obtain ⟨t, ht, et⟩ := rm_j5 (rg_in_rm.mp hy)
    refine rg_okn h s o (rm_go_0 (rg_b1 ((rg_il_g h g).mpr hx)) (rg_b1 (rg_in_rm.mp hy)) rg_n1) e2 ?_
    rw [er, rm_ol_g g, ea, et, nI_clamp (by omega), rg_ol_i h ha ht]
  · rw [em] at e2
    refine rg_ref h ?_ e2 (by decide)
    exact rm_go_1 (rg_b0 (fun q => rg_x2a hx rg_s1 ((rg_il_i h).mp q)))
  · rw [em] at e2
    refine rg_ref h ?_ e2 (by decide)
    have z := rg_x2b hx rg_s1.symm
    exact rm_go_2 (rg_b1 ((rg_il_i h).mpr z.1)) (rg_b0 (fun q => z.2 (rg_in_rm.mpr q)))
theorem pre_wordAt {M Mw : rg_Mem} {k : Int32} {x : Int32} {y : Int32} (h : rg_Inv M) (e1 : (fun k M1 => (k = 0 ∧ ∃ r M2, ((fun r => (rg_hl M x ∧ ¬ rg_wp M x y = -1) ∧ r = rg_wp M x y) r ∧ M2 = M) ∧ M1 = rg_J M2 432 0 r.toInt64) ∨ ((fun X => ¬ (rg_hl M x ∧ ¬ rg_wp M x y = -1) ∧ X = "java/lang/IndexOutOfBoundsException") "java/lang/IndexOutOfBoundsException" ∧ k = 1 ∧ M1 = M)) k Mw) : rm_CI Mw := by
  rcases e1 with ⟨_, r1, M2, hs, em⟩ | ⟨_, _, em⟩
  · have g : rg_mo M M2 := by rw [hs.2]; exact rg_mo_rf
    rw [em]
    exact rg_mo_mi h (rg_mo_o g)
  · rw [em]
    exact rg_mo_mi h rg_mo_rf
theorem sim_wordAt {M Mw Mz : rg_Mem} {k r : Int32} {x : Int32} {y : Int32} (h : rg_Inv M) (e1 : (fun k M1 => (k = 0 ∧ ∃ r M2, ((fun r => (rg_hl M x ∧ ¬ rg_wp M x y = -1) ∧ r = rg_wp M x y) r ∧ M2 = M) ∧ M1 = rg_J M2 432 0 r.toInt64) ∨ ((fun X => ¬ (rg_hl M x ∧ ¬ rg_wp M x y = -1) ∧ X = "java/lang/IndexOutOfBoundsException") "java/lang/IndexOutOfBoundsException" ∧ k = 1 ∧ M1 = M)) k Mw) (e2 : (fun r M1 => (¬ rm_go (rg_b (rm_il Mw x ∧ rm_in y 0 ((Mw.1 418 x.toNatClampNeg) - 1))) 1 1 = 0 ∧ r = 0 ∧ M1 = rg_I Mw 412 33 (rm_go (rg_b (rm_il Mw x ∧ rm_in y 0 ((Mw.1 418 x.toNatClampNeg) - 1))) 1 1)) ∨ (rm_go (rg_b (rm_il Mw x ∧ rm_in y 0 ((Mw.1 418 x.toNatClampNeg) - 1))) 1 1 = 0 ∧ r = Mw.1 417 (6 * x.toNatClampNeg + y.toNatClampNeg) ∧ M1 = (rg_I Mw 412 33 (rm_go (rg_b (rm_il Mw x ∧ rm_in y 0 ((Mw.1 418 x.toNatClampNeg) - 1))) 1 1)))) r Mz) : Mz.1 412 33 = k ∧ (k = 0 → Mz.2 432 0 = r.toInt64) ∧ rg_Inv Mz := by
  rcases e1 with ⟨rfl, r1, M2, ⟨⟨⟨hx, hy⟩, er⟩, e3⟩, em⟩ | ⟨hx, rfl, em⟩
  · have g : rg_mo M Mw := by rw [em, e3]; exact rg_mo_o rg_mo_rf
    have s : rg_same M Mw := by rw [em, e3]; exact rg_same_o
    have o : Mw.2 432 0 = r1.toInt64 := by rw [em]; exact rg_J_same

    have w := rg_wp_i h (y := y) hx
    have z := w.1.mp hy
    refine rg_okn h s o (rm_go_0 (rg_b1 ⟨(rg_il_g h g).mpr hx, by rw [g.1 418 (by omega)]; exact z⟩) rg_n1 rg_n1) e2 ?_
    rw [er, w.2 z, g.1 417 (by omega)]
  · rw [em] at e2
    refine rg_ref h ?_ e2 (by decide)
    exact rm_go_1 (rg_b0 (fun q => hx.1 ⟨(rg_il_i h).mp q.1, (rg_wp_i h ((rg_il_i h).mp q.1)).1.mpr q.2⟩))
theorem pre_faultAnew {M Mw : rg_Mem} {k : Int32} {x : Int32} (h : rg_Inv M) (e1 : (fun k M1 => (k = 0 ∧ ∃ r M2, ((fun r => rg_hl M x ∧ r = rg_f8 (rg_co M (17 + 2 * x.toNatClampNeg) (rg_sz M (17 + 2 * x.toNatClampNeg)) x.toNatClampNeg (rg_sp M) (M.1 9 x.toNatClampNeg)) 8 1) r ∧ M2 = M) ∧ M1 = rg_J M2 432 0 r.toInt64) ∨ ((fun X => ¬ rg_hl M x ∧ X = "java/lang/IndexOutOfBoundsException") "java/lang/IndexOutOfBoundsException" ∧ k = 1 ∧ M1 = M)) k Mw) : rm_CI Mw := by
  rcases e1 with ⟨_, r1, M2, hs, em⟩ | ⟨_, _, em⟩
  · have g : rg_mo M M2 := by rw [hs.2]; exact rg_mo_rf
    rw [em]
    exact rg_mo_mi h (rg_mo_o g)
  · rw [em]
    exact rg_mo_mi h rg_mo_rf
theorem sim_faultAnew {M Mw Mz : rg_Mem} {k r : Int32} {x : Int32} (h : rg_Inv M) (e1 : (fun k M1 => (k = 0 ∧ ∃ r M2, ((fun r => rg_hl M x ∧ r = rg_f8 (rg_co M (17 + 2 * x.toNatClampNeg) (rg_sz M (17 + 2 * x.toNatClampNeg)) x.toNatClampNeg (rg_sp M) (M.1 9 x.toNatClampNeg)) 8 1) r ∧ M2 = M) ∧ M1 = rg_J M2 432 0 r.toInt64) ∨ ((fun X => ¬ rg_hl M x ∧ X = "java/lang/IndexOutOfBoundsException") "java/lang/IndexOutOfBoundsException" ∧ k = 1 ∧ M1 = M)) k Mw) (e2 : (fun r M1 => (¬ rm_go (rg_b (rm_il Mw x)) 1 1 = 0 ∧ r = 0 ∧ M1 = rg_I Mw 412 33 (rm_go (rg_b (rm_il Mw x)) 1 1)) ∨ (rm_go (rg_b (rm_il Mw x)) 1 1 = 0 ∧ r = (rm_fo Mw (rm_w Mw x.toNatClampNeg) (rm_z Mw x.toNatClampNeg) x.toNatClampNeg (Mw.1 419 x.toNatClampNeg)).1 ∧ rm_wk (Mw) M1 ∧ M1.1 412 33 = 0)) r Mz) : Mz.1 412 33 = k ∧ (k = 0 → Mz.2 432 0 = r.toInt64) ∧ rg_Inv Mz := by
  rcases e1 with ⟨rfl, r1, M2, ⟨⟨hx, er⟩, e3⟩, em⟩ | ⟨hx, rfl, em⟩
  · have g : rg_mo M Mw := by rw [em, e3]; exact rg_mo_o rg_mo_rf
    have s : rg_same M Mw := by rw [em, e3]; exact rg_same_o
    have o : Mw.2 432 0 = r1.toInt64 := by rw [em]; exact rg_J_same

    obtain ⟨a, ha, ha36, e, ea⟩ := rg_hlN h hx
    refine rg_okw h s o (rm_go_0 (rg_b1 ((rg_il_g h g).mpr hx)) rg_n1 rg_n1) e2 ?_
    have f : ∀ c, 412 ≤ c → Mw.1 c = M.1 c := g.1
    rw [er, ea, rg_mo_fo g, rg_fan h ha ha36]
    unfold rm_w rm_z
    rw [f 417 (by omega), f 418 (by omega), f 419 (by omega)]
  · rw [em] at e2
    refine rg_ref h ?_ e2 (by decide)
    exact rm_go_1 (rg_b0 (fun q => hx.1 ((rg_il_i h).mp q)))
theorem pre_chances {M Mw : rg_Mem} {k : Int32} {z : Int32} (h : rg_Inv M) (e1 : (fun k M1 => (k = 0 ∧ ∃ r M2, (fun r M1 => rg_pt M z ∧ rg_off M M1 92 ∧ r = if ¬ M.1 6 0 ≤ M.1 6 4 then rg_c1 M z (rg_nw M) else 0) r M2 ∧ M1 = rg_J M2 432 0 r.toInt64) ∨ ((fun X => ¬ rg_pt M z ∧ X = "java/lang/IndexOutOfBoundsException") "java/lang/IndexOutOfBoundsException" ∧ k = 1 ∧ M1 = M)) k Mw) : rm_CI Mw := by
  rcases e1 with ⟨_, r1, M2, hs, em⟩ | ⟨_, _, em⟩
  · have g : rg_mo M M2 := rg_mo_off rg_mo_rf hs.2.1 (by omega)
    rw [em]
    exact rg_mo_mi h (rg_mo_o g)
  · rw [em]
    exact rg_mo_mi h rg_mo_rf
theorem sim_chances {M Mw Mz : rg_Mem} {k r : Int32} {z : Int32} (h : rg_Inv M) (e1 : (fun k M1 => (k = 0 ∧ ∃ r M2, (fun r M1 => rg_pt M z ∧ rg_off M M1 92 ∧ r = if ¬ M.1 6 0 ≤ M.1 6 4 then rg_c1 M z (rg_nw M) else 0) r M2 ∧ M1 = rg_J M2 432 0 r.toInt64) ∨ ((fun X => ¬ rg_pt M z ∧ X = "java/lang/IndexOutOfBoundsException") "java/lang/IndexOutOfBoundsException" ∧ k = 1 ∧ M1 = M)) k Mw) (e2 : (fun r M1 => (¬ rm_go (rg_b (rm_ip Mw z)) 1 1 = 0 ∧ r = 0 ∧ M1 = rg_I Mw 412 33 (rm_go (rg_b (rm_ip Mw z)) 1 1)) ∨ (rm_go (rg_b (rm_ip Mw z)) 1 1 = 0 ∧ r = (if Mw.1 412 6 = 0 ∨ rm_fin Mw then 0 else rm_h1 Mw z (rm_nw Mw)) ∧ rm_wk (Mw) M1 ∧ M1.1 412 33 = 0)) r Mz) : Mz.1 412 33 = k ∧ (k = 0 → Mz.2 432 0 = r.toInt64) ∧ rg_Inv Mz := by
  rcases e1 with ⟨rfl, r1, M2, ⟨hx, of, er⟩, em⟩ | ⟨hx, rfl, em⟩
  · have g : rg_mo M Mw := by rw [em]; exact rg_mo_o (rg_mo_off rg_mo_rf of (by omega))
    have s : rg_same M Mw := by rw [em]; exact rg_same_tr (rg_same_off of) rg_same_o
    have o : Mw.2 432 0 = r1.toInt64 := by rw [em]; exact rg_J_same
    refine rg_okw h s o (rm_go_0 (rg_b1 ((rg_ip_g h g).mpr hx)) rg_n1 rg_n1) e2 ?_
    have f : ∀ c, 412 ≤ c → Mw.1 c = M.1 c := g.1
    have en : rm_nw Mw = rg_nw M := by rw [← rm_nw_i h]; unfold rm_nw; rw [f 412 (by omega)]
    have eo := rg_open h
    unfold rm_fin at eo ⊢
    rw [er, en, rm_h1_mo g, f 412 (by omega)]
    by_cases q : ¬ M.1 6 0 ≤ M.1 6 4
    · rw [if_pos q, if_neg (eo.mp q), rg_c1_i h q _ (Nat.le_refl _)]
    · rw [if_neg q, if_pos (Classical.not_not.mp (fun z => q (eo.mpr z)))]
  · rw [em] at e2
    refine rg_ref h ?_ e2 (by decide)
    exact rm_go_1 (rg_b0 (fun q => hx.1 ((rg_ip_i h).mp q)))
theorem pre_prize {M : rg_Mem} (h : rg_Inv M) : rm_CI (rg_pl M (rg_nl M)) := rg_mo_mi h ⟨fun c hc => (rg_pl_off _ (by omega) (by omega)).1, fun c _ _ => by rw [(rg_pl_off (M := M) (rg_nl M) (c := 0) (by omega) (by omega)).2]⟩
theorem sim_prize {M : rg_Mem} {r1 r2 : Int32} (h : rg_Inv M) (e1 : r1 = (rg_gr ((rg_pl M (rg_nl M)).1 95) ((rg_pl M (rg_nl M)).1 96) 6)) (e2 : (fun r => r = (rm_best (rm_ps ((rg_pl M (rg_nl M)))) (rm_pc ((rg_pl M (rg_nl M)))) (rm_np ((rg_pl M (rg_nl M))))).1) r2) : r1 = r2 ∧ rg_Inv (rg_I ((rg_pl M (rg_nl M))) 412 33 0) := by
  have g : rg_mo M (rg_pl M (rg_nl M)) := ⟨fun c hc => (rg_pl_off _ (by omega) (by omega)).1, fun c _ _ => by rw [(rg_pl_off (M := M) (rg_nl M) (c := 0) (by omega) (by omega)).2]⟩
  have f : ∀ c, 412 ≤ c → (rg_pl M (rg_nl M)).1 c = M.1 c := g.1
  have s : rg_same M (rg_pl M (rg_nl M)) := rg_same_mn (fun c h1 h2 => rg_pl_off _ h1 h2)
  refine ⟨?_, rg_Inv_same h (rg_same_tr s (rg_same_t (by omega)))⟩
  have e2 : r2 = (rm_best (rm_ps (rg_pl M (rg_nl M))) (rm_pc (rg_pl M (rg_nl M))) (rm_np (rg_pl M (rg_nl M)))).1 := e2
  have k1 : rm_ps (rg_pl M (rg_nl M)) = rm_ps M := by
    funext p
    unfold rm_ps rm_pb
    rw [f 423 (by omega), f 419 (by omega)]
  have k2 : rm_pc (rg_pl M (rg_nl M)) = rm_pc M := by
    funext p
    unfold rm_pc rm_pb
    rw [f 423 (by omega), f 419 (by omega)]
  have k3 : rm_np (rg_pl M (rg_nl M)) = rg_np M := by rw [← rm_np_i h]; unfold rm_np; rw [f 412 (by omega)]
  rw [e1, e2, k1, k2, k3, rg_prize_i h]
theorem pre_far {M Mw : rg_Mem} {k : Int32} {t : Int32} {u : Int32} (h : rg_Inv M) (e1 : (fun k M1 => (k = 0 ∧ ∃ r M2, ((fun r => ((rg_tx M t ∧ rg_tx M u) ∧ ¬ M.1 6 0 ≤ 0) ∧ r = rg_fa M t u) r ∧ M2 = M) ∧ M1 = rg_J M2 432 0 r.toInt64) ∨ ((fun X => (¬ (rg_tx M t ∧ rg_tx M u) ∧ X = "java/lang/IndexOutOfBoundsException") ∨ ((rg_tx M t ∧ rg_tx M u) ∧ ¬ (¬ M.1 6 0 ≤ 0) ∧ X = "java/lang/IllegalStateException")) "java/lang/IndexOutOfBoundsException" ∧ k = 1 ∧ M1 = M) ∨ ((fun X => (¬ (rg_tx M t ∧ rg_tx M u) ∧ X = "java/lang/IndexOutOfBoundsException") ∨ ((rg_tx M t ∧ rg_tx M u) ∧ ¬ (¬ M.1 6 0 ≤ 0) ∧ X = "java/lang/IllegalStateException")) "java/lang/IllegalStateException" ∧ k = 2 ∧ M1 = M)) k Mw) : rm_CI Mw := by
  rcases e1 with ⟨_, r1, M2, hs, em⟩ | ⟨_, _, em⟩ | ⟨_, _, em⟩
  · have g : rg_mo M M2 := by rw [hs.2]; exact rg_mo_rf
    rw [em]
    exact rg_mo_mi h (rg_mo_o g)
  · rw [em]
    exact rg_mo_mi h rg_mo_rf
  · rw [em]
    exact rg_mo_mi h rg_mo_rf
theorem sim_far {M Mw Mz : rg_Mem} {k r : Int32} {t : Int32} {u : Int32} (h : rg_Inv M) (e1 : (fun k M1 => (k = 0 ∧ ∃ r M2, ((fun r => ((rg_tx M t ∧ rg_tx M u) ∧ ¬ M.1 6 0 ≤ 0) ∧ r = rg_fa M t u) r ∧ M2 = M) ∧ M1 = rg_J M2 432 0 r.toInt64) ∨ ((fun X => (¬ (rg_tx M t ∧ rg_tx M u) ∧ X = "java/lang/IndexOutOfBoundsException") ∨ ((rg_tx M t ∧ rg_tx M u) ∧ ¬ (¬ M.1 6 0 ≤ 0) ∧ X = "java/lang/IllegalStateException")) "java/lang/IndexOutOfBoundsException" ∧ k = 1 ∧ M1 = M) ∨ ((fun X => (¬ (rg_tx M t ∧ rg_tx M u) ∧ X = "java/lang/IndexOutOfBoundsException") ∨ ((rg_tx M t ∧ rg_tx M u) ∧ ¬ (¬ M.1 6 0 ≤ 0) ∧ X = "java/lang/IllegalStateException")) "java/lang/IllegalStateException" ∧ k = 2 ∧ M1 = M)) k Mw) (e2 : (fun r M1 => (¬ rm_go (rg_b (rm_tx Mw t ∧ rm_tx Mw u)) (Mw.1 412 6) 1 = 0 ∧ r = 0 ∧ M1 = rg_I Mw 412 33 (rm_go (rg_b (rm_tx Mw t ∧ rm_tx Mw u)) (Mw.1 412 6) 1)) ∨ (rm_go (rg_b (rm_tx Mw t ∧ rm_tx Mw u)) (Mw.1 412 6) 1 = 0 ∧ r = rm_fa Mw t u ∧ M1 = (rg_I Mw 412 33 (rm_go (rg_b (rm_tx Mw t ∧ rm_tx Mw u)) (Mw.1 412 6) 1)))) r Mz) : Mz.1 412 33 = k ∧ (k = 0 → Mz.2 432 0 = r.toInt64) ∧ rg_Inv Mz := by
  rcases e1 with ⟨rfl, r1, M2, ⟨⟨⟨⟨ht, hu⟩, hb⟩, er⟩, e3⟩, em⟩ | ⟨hx, rfl, em⟩ | ⟨hx, rfl, em⟩
  · have g : rg_mo M Mw := by rw [em, e3]; exact rg_mo_o rg_mo_rf
    have s : rg_same M Mw := by rw [em, e3]; exact rg_same_o
    have o : Mw.2 432 0 = r1.toInt64 := by rw [em]; exact rg_J_same

    have f : ∀ c, 412 ≤ c → Mw.1 c = M.1 c := g.1
    refine rg_okn h s o (rm_go_0 (rg_b1 ⟨(rg_tx_g h g).mpr ht, (rg_tx_g h g).mpr hu⟩) (by rw [f 412 (by omega)]; exact (rg_beg_i h).mp hb) rg_n1) e2 ?_
    rw [er, rm_fa_g g, rg_fa_i h ht hu]
  · rw [em] at e2
    refine rg_ref h ?_ e2 (by decide)
    exact rm_go_1 (rg_b0 (fun q => rg_x2a hx rg_s2 ⟨(rg_tx_i h).mp q.1, (rg_tx_i h).mp q.2⟩))
  · rw [em] at e2
    refine rg_ref h ?_ e2 (by decide)
    have z := rg_x2b hx rg_s2.symm
    exact rm_go_2 (rg_b1 ⟨(rg_tx_i h).mpr z.1.1, (rg_tx_i h).mpr z.1.2⟩) (Classical.not_not.mp (fun q => z.2 ((rg_beg_i h).mpr q)))
theorem pre_source {M Mw : rg_Mem} {k : Int32} {x : Int32} (h : rg_Inv M) (e1 : (fun k M1 => (k = 0 ∧ ∃ r M2, ((fun r => rg_cp M x ∧ r = (rg_so (fun k => rg_fa M x (nI k)) (rg_fa M x (-1)) x (rg_nc M)).1) r ∧ M2 = M) ∧ M1 = rg_J M2 432 0 r.toInt64) ∨ ((fun X => ¬ rg_cp M x ∧ X = "java/lang/IndexOutOfBoundsException") "java/lang/IndexOutOfBoundsException" ∧ k = 1 ∧ M1 = M)) k Mw) : rm_CI Mw := by
  rcases e1 with ⟨_, r1, M2, hs, em⟩ | ⟨_, _, em⟩
  · have g : rg_mo M M2 := by rw [hs.2]; exact rg_mo_rf
    rw [em]
    exact rg_mo_mi h (rg_mo_o g)
  · rw [em]
    exact rg_mo_mi h rg_mo_rf
theorem sim_source {M Mw Mz : rg_Mem} {k r : Int32} {x : Int32} (h : rg_Inv M) (e1 : (fun k M1 => (k = 0 ∧ ∃ r M2, ((fun r => rg_cp M x ∧ r = (rg_so (fun k => rg_fa M x (nI k)) (rg_fa M x (-1)) x (rg_nc M)).1) r ∧ M2 = M) ∧ M1 = rg_J M2 432 0 r.toInt64) ∨ ((fun X => ¬ rg_cp M x ∧ X = "java/lang/IndexOutOfBoundsException") "java/lang/IndexOutOfBoundsException" ∧ k = 1 ∧ M1 = M)) k Mw) (e2 : (fun r M1 => (¬ rm_go (rg_b (rm_ic Mw x)) 1 1 = 0 ∧ r = 0 ∧ M1 = rg_I Mw 412 33 (rm_go (rg_b (rm_ic Mw x)) 1 1)) ∨ (rm_go (rg_b (rm_ic Mw x)) 1 1 = 0 ∧ r = rm_sr (rm_fa Mw x) x (rm_nc Mw) ∧ M1 = (rg_I Mw 412 33 (rm_go (rg_b (rm_ic Mw x)) 1 1)))) r Mz) : Mz.1 412 33 = k ∧ (k = 0 → Mz.2 432 0 = r.toInt64) ∧ rg_Inv Mz := by
  rcases e1 with ⟨rfl, r1, M2, ⟨⟨hx, er⟩, e3⟩, em⟩ | ⟨hx, rfl, em⟩
  · have g : rg_mo M Mw := by rw [em, e3]; exact rg_mo_o rg_mo_rf
    have s : rg_same M Mw := by rw [em, e3]; exact rg_same_o
    have o : Mw.2 432 0 = r1.toInt64 := by rw [em]; exact rg_J_same

    have en : rm_nc Mw = rg_nc M := by rw [← rm_nc_i h]; unfold rm_nc; rw [g.1 412 (by omega)]
    refine rg_okn h s o (rm_go_0 (rg_b1 ((rg_ic_g h g).mpr hx)) rg_n1 rg_n1) e2 ?_
    rw [er, rm_fa_g g, en, rg_so_i h (Or.inr hx) _ (Nat.le_refl _)]
  · rw [em] at e2
    refine rg_ref h ?_ e2 (by decide)
    exact rm_go_1 (rg_b0 (fun q => hx.1 ((rg_ic_i h).mp q)))
