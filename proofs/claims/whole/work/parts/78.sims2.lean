theorem pre_offer {M Mw : rg_Mem} {k : Int32} {z : Int32} (h : rg_Inv M) (e1 : (fun k M1 => (k = 0 ∧ ∃ r M2, (fun r M1 => (rg_pt M z ∧ (¬ M.1 6 0 ≤ M.1 6 4 ∧ M.1 0 10 < 4)) ∧ ((∃ k, 1 ≤ k ∧ k ≤ 8 ∧ rg_f8 (rg_co M 90 (rg_sz M 90) (rg_nl M) (rg_sp M) z) 8 1 = nI k ∧ r = -nI k ∧ M1 = rg_I M 0 12 (rg_co M 90 (rg_sz M 90) (rg_nl M) (rg_sp M) z k)) ∨ (rg_f8 (rg_co M 90 (rg_sz M 90) (rg_nl M) (rg_sp M) z) 8 1 = 0 ∧ r = nI (rg_no M) ∧ ∃ M2, (rg_VS M2 (99 + 2 * rg_no M) (rg_sz M 90) ∧ (∀ k, k < rg_sz M 90 → M2.1 (99 + 2 * rg_no M + 1) k = M.1 (90 + 1) k) ∧ rg_off M M2 (99 + 2 * rg_no M)) ∧ M1 = rg_emp (rg_I (rg_I M2 97 (rg_no M) z) 0 10 (nI (rg_no M + 1)))))) r M2 ∧ M1 = rg_J M2 432 0 r.toInt64) ∨ ((fun X => (¬ (rg_pt M z) ∧ X = "java/lang/IndexOutOfBoundsException") ∨ ((rg_pt M z) ∧ ¬ (¬ M.1 6 0 ≤ M.1 6 4 ∧ M.1 0 10 < 4) ∧ X = "java/lang/IllegalStateException")) "java/lang/IndexOutOfBoundsException" ∧ k = 1 ∧ M1 = M) ∨ ((fun X => (¬ (rg_pt M z) ∧ X = "java/lang/IndexOutOfBoundsException") ∨ ((rg_pt M z) ∧ ¬ (¬ M.1 6 0 ≤ M.1 6 4 ∧ M.1 0 10 < 4) ∧ X = "java/lang/IllegalStateException")) "java/lang/IllegalStateException" ∧ k = 2 ∧ M1 = M)) k Mw) : rm_CI Mw := by
  rcases e1 with ⟨_, r1, M2, hs, em⟩ | ⟨_, _, em⟩ | ⟨_, _, em⟩
  · have g : rg_mo M M2 := by
      obtain ⟨⟨h1, h2, h3⟩, hq⟩ := hs
      rcases hq with ⟨k, _, _, _, _, e3⟩ | ⟨_, _, M3, ⟨_, _, of⟩, e3⟩
      · rw [e3]
        exact rg_mo_I rg_mo_rf (by omega)
      · rw [e3]
        have n4 := rg_no4 h h3
        exact rg_mo_J (rg_mo_I (rg_mo_I (rg_mo_I (rg_mo_I (rg_mo_I (rg_mo_I (rg_mo_off rg_mo_rf of (by omega)) (by omega)) (by omega)) (by omega)) (by omega)) (by omega)) (by omega)) (by omega)
    rw [em]
    exact rg_mo_mi h (rg_mo_o g)
  · rw [em]
    exact rg_mo_mi h rg_mo_rf
  · rw [em]
    exact rg_mo_mi h rg_mo_rf
theorem sim_offer {M Mw Mz : rg_Mem} {k r : Int32} {z : Int32} (h : rg_Inv M) (e1 : (fun k M1 => (k = 0 ∧ ∃ r M2, (fun r M1 => (rg_pt M z ∧ (¬ M.1 6 0 ≤ M.1 6 4 ∧ M.1 0 10 < 4)) ∧ ((∃ k, 1 ≤ k ∧ k ≤ 8 ∧ rg_f8 (rg_co M 90 (rg_sz M 90) (rg_nl M) (rg_sp M) z) 8 1 = nI k ∧ r = -nI k ∧ M1 = rg_I M 0 12 (rg_co M 90 (rg_sz M 90) (rg_nl M) (rg_sp M) z k)) ∨ (rg_f8 (rg_co M 90 (rg_sz M 90) (rg_nl M) (rg_sp M) z) 8 1 = 0 ∧ r = nI (rg_no M) ∧ ∃ M2, (rg_VS M2 (99 + 2 * rg_no M) (rg_sz M 90) ∧ (∀ k, k < rg_sz M 90 → M2.1 (99 + 2 * rg_no M + 1) k = M.1 (90 + 1) k) ∧ rg_off M M2 (99 + 2 * rg_no M)) ∧ M1 = rg_emp (rg_I (rg_I M2 97 (rg_no M) z) 0 10 (nI (rg_no M + 1)))))) r M2 ∧ M1 = rg_J M2 432 0 r.toInt64) ∨ ((fun X => (¬ (rg_pt M z) ∧ X = "java/lang/IndexOutOfBoundsException") ∨ ((rg_pt M z) ∧ ¬ (¬ M.1 6 0 ≤ M.1 6 4 ∧ M.1 0 10 < 4) ∧ X = "java/lang/IllegalStateException")) "java/lang/IndexOutOfBoundsException" ∧ k = 1 ∧ M1 = M) ∨ ((fun X => (¬ (rg_pt M z) ∧ X = "java/lang/IndexOutOfBoundsException") ∨ ((rg_pt M z) ∧ ¬ (¬ M.1 6 0 ≤ M.1 6 4 ∧ M.1 0 10 < 4) ∧ X = "java/lang/IllegalStateException")) "java/lang/IllegalStateException" ∧ k = 2 ∧ M1 = M)) k Mw) (e2 : (fun r M1 => (¬ rm_go (rg_b (rm_ip Mw z)) (rg_b (¬ Mw.1 412 6 = 0 ∧ ¬ rm_fin Mw ∧ ¬ 4 ≤ Mw.1 412 24)) 1 = 0 ∧ r = 0 ∧ M1 = rg_I Mw 412 33 (rm_go (rg_b (rm_ip Mw z)) (rg_b (¬ Mw.1 412 6 = 0 ∧ ¬ rm_fin Mw ∧ ¬ 4 ≤ Mw.1 412 24)) 1)) ∨ (rm_go (rg_b (rm_ip Mw z)) (rg_b (¬ Mw.1 412 6 = 0 ∧ ¬ rm_fin Mw ∧ ¬ 4 ≤ Mw.1 412 24)) 1 = 0 ∧ ((¬ (rm_fo Mw (Mw.1 424) (rm_nd Mw) (rm_nl Mw) z).1 ≤ 0 ∧ r = -(rm_fo Mw (Mw.1 424) (rm_nd Mw) (rm_nl Mw) z).1 ∧ rm_wk (rg_I Mw 412 25 (rm_fo Mw (Mw.1 424) (rm_nd Mw) (rm_nl Mw) z).2) M1) ∨ ((rm_fo Mw (Mw.1 424) (rm_nd Mw) (rm_nl Mw) z).1 ≤ 0 ∧ r = nI (rm_no Mw) ∧ rm_wk (rg_I (rg_I (rg_I (rg_I (rm_cy Mw 425 (6 * rm_no Mw) (Mw.1 424) (rm_nd Mw)) 426 (rm_no Mw) (nI (rm_nd Mw))) 427 (rm_no Mw) z) 412 20 0) 412 24 (nI (rm_no Mw + 1))) M1)) ∧ M1.1 412 33 = 0)) r Mz) : Mz.1 412 33 = k ∧ (k = 0 → Mz.2 432 0 = r.toInt64) ∧ rg_Inv Mz := by
  rcases e1 with ⟨rfl, r1, M2, hs, em⟩ | ⟨hx, rfl, em⟩ | ⟨hx, rfl, em⟩
  · have n4 := rg_no4 h hs.1.2.2
    have g : rg_mo M Mw := by
      rw [em]
      refine rg_mo_o ?_
      exact by
        obtain ⟨⟨h1, h2, h3⟩, hq⟩ := hs
        rcases hq with ⟨k, _, _, _, _, e3⟩ | ⟨_, _, M3, ⟨_, _, of⟩, e3⟩
        · rw [e3]
          exact rg_mo_I rg_mo_rf (by omega)
        · rw [e3]
          have n4 := rg_no4 h h3
          exact rg_mo_J (rg_mo_I (rg_mo_I (rg_mo_I (rg_mo_I (rg_mo_I (rg_mo_I (rg_mo_off rg_mo_rf of (by omega)) (by omega)) (by omega)) (by omega)) (by omega)) (by omega)) (by omega)) (by omega)
    obtain ⟨⟨h1, h2, h3⟩, hq⟩ := hs
    have E0 := rm_go_0 (rg_b1 ((rg_ip_g h g).mpr h1)) (rg_b1 (rg_ofr h g h2 h3)) rg_n1
    rcases e2 with ⟨q, _⟩ | ⟨_, e2, z33⟩
    · exact absurd E0 q
    have o : Mw.2 432 0 = r1.toInt64 := by rw [em]; exact rg_J_same
    have eA : Mw.1 = M2.1 := by rw [em]; rfl
    have eB : ∀ c, c ≠ 432 → Mw.2 c = M2.2 c := fun c hc => by rw [em]; exact rg_J_cell hc
    have hd := rg_Inv_d h
    have ho := rg_Inv_of h
    have hO := rg_openN h h2
    have h36 := rg_Inv_36 h
    obtain ⟨n, hn⟩ : ∃ n, n = rg_sz M 90 := ⟨_, rfl⟩
    obtain ⟨p, hp⟩ : ∃ p, p = rg_no M := ⟨_, rfl⟩
    have md : rm_nd Mw = n := by rw [hn, ← rm_nd_i h]; unfold rm_nd; rw [g.1 412 (by omega)]
    have ml : rm_nl Mw = rg_nl M := by rw [← rm_nl_i h]; unfold rm_nl; rw [g.1 412 (by omega)]
    have mo : rm_no Mw = p := by rw [hp, ← rm_no_i h]; unfold rm_no; rw [g.1 412 (by omega)]
    rw [md, ml, mo, rg_mo_fo g, g.1 424 (by omega), rm_fo_w (w := M.1 (90 + 1)) (fun k hk => hd.2.2 k (by omega))] at e2
    rw [rg_co_cq hd.1, ← hn, ← hp] at hq
    have hvs := hd.1
    rw [← hn] at hvs
    have F := rg_flt h (w := M.1 (90 + 1)) (n := n) (j := rg_nl M) (po := z) hvs.2.1 hvs.2.2.1 (Nat.le_refl _) hO.2
    have z2 : Mz.2 432 0 = Mw.2 432 0 := by
      rcases e2 with ⟨_, _, wk⟩ | ⟨_, _, wk⟩
      · exact congrFun (rg_wkn2 wk (by omega)) 0
      · exact congrFun (rg_wkn2 wk (by omega)) 0
    rcases hq with ⟨k, k1, k8, ek, er, e3⟩ | ⟨e0, er, M3, ⟨vs, ew, of⟩, e3⟩
    · rcases e2 with ⟨c, er2, wk⟩ | ⟨c, er2, wk⟩
      · have f : ∀ c j, ¬ ((c = 0 ∧ j = 12) ∨ (c = 412 ∧ (j = 25 ∨ 31 ≤ j)) ∨ c = 431) → Mz.1 c j = M.1 c j := fun c j hc => by rw [rg_wkn wk (by omega), rg_Il (by omega), eA, e3, rg_Il (by omega)]
        have f2 : ∀ c, ¬ (c = 412 ∨ c = 431 ∨ c = 432) → Mz.2 c = M.2 c := fun c hc => (rg_wkn2 wk (by omega)).trans ((eB c (by omega)).trans (by rw [e3]; rfl))
        refine ⟨z33, fun _ => by rw [z2, o, er, er2, F.1, ek], ⟨I_w_k (rg_Inv_w h) (f 1 4 (by omega)) (f 412 4 (by omega)) (fun c hc => funext fun j => f c j (by omega)) (f2 5 (by omega)) (f2 416 (by omega)), I_p_k (rg_Inv_p h) (f 0 9 (by omega)) (f 412 5 (by omega)), I_s_k (rg_Inv_s h) (fun k hk => f 6 k (by omega)) (fun k h1 h2 => f 412 k (by omega)), I_t_k (rg_Inv_t h) (funext fun j => f 7 j (by omega)) (funext fun j => f 420 j (by omega)), I_d_k (rg_Inv_d h) (f 1 4 (by omega)) (fun c h1 h2 => funext fun j => f c j (by omega)) (funext fun j => f 90 j (by omega)) (funext fun j => f 91 j (by omega)) (f2 90 (by omega)) (f 412 20 (by omega)) (funext fun j => f 424 j (by omega)), I_v_k (rg_Inv_s h) (rg_Inv_v h) (f 6 4 (by omega)) (f 1 4 (by omega)) (f 0 9 (by omega)) (fun c hc => funext fun j => f c j (by omega)) (fun c c1 c2 => f2 c (by omega)), I_o_k (rg_Inv_of h) (fun k hk => f 6 k (by omega)) (f 1 4 (by omega)) (f 0 9 (by omega)) (f 0 10 (by omega)) (f 412 24 (by omega)) (fun c hc => funext fun j => f c j (by omega)) (fun c c1 c2 => f2 c (by omega)), I_c_k (rg_Inv_c h) (f 1 4 (by omega)) (f 0 11 (by omega)) (f 412 29 (by omega)) (fun c hc => funext fun j => f c j (by omega)), ?_, I_z_k (rg_Inv_s h) (rg_Inv_of h) (rg_Inv_z h) (f 6 4 (by omega)) (f 0 10 (by omega)) (fun c hc => funext fun j => f c j (by omega))⟩⟩
        unfold I_y
        rw [rg_wkn wk (by omega), rm_get, rg_wkn wk (by omega), rg_Il (by omega), eA, e3, rm_get]
        exact F.2 k k1 k8 ek
      · rw [F.1, ek] at c
        exact absurd c (nI_nle (by omega) (by omega))
    · rcases e2 with ⟨c, er2, wk⟩ | ⟨c, er2, wk⟩
      · rw [F.1, e0] at c
        exact absurd (show (0 : Int32) ≤ 0 by decide) c
      · have hn6 := hvs.2.1
        have f : ∀ c j, ¬ (c = 99 + 2 * p ∨ c = 99 + 2 * p + 1 ∨ (c = 97 ∧ j = p) ∨ (c = 0 ∧ j = 10) ∨ (c = 90 ∧ 1 ≤ j ∧ j ≤ 4) ∨ (c = 425 ∧ 6 * p ≤ j ∧ j < 6 * p + n) ∨ ((c = 426 ∨ c = 427) ∧ j = p) ∨ (c = 412 ∧ (j = 20 ∨ j = 24 ∨ 31 ≤ j)) ∨ c = 431) → Mz.1 c j = M.1 c j := fun c j hc => by rw [rg_wkn wk (by omega), rg_Il (by omega), rg_Il (by omega), rg_Il (by omega), rg_Il (by omega), rm_cy_n (by omega), eA, e3, rg_J_1, rg_Il (by omega), rg_Il (by omega), rg_Il (by omega), rg_Il (by omega), rg_Il (by omega), rg_Il (by omega), (of c (by omega) (by omega)).1]
        have k : ∀ c j, ¬ ((c = 97 ∧ j = p) ∨ (c = 0 ∧ j = 10) ∨ (c = 90 ∧ 1 ≤ j ∧ j ≤ 4) ∨ 412 ≤ c) → Mz.1 c j = M3.1 c j := fun c j hc => by rw [rg_wkn wk (by omega), rg_Il (by omega), rg_Il (by omega), rg_Il (by omega), rg_Il (by omega), rm_cy_n (by omega), eA, e3, rg_J_1, rg_Il (by omega), rg_Il (by omega), rg_Il (by omega), rg_Il (by omega), rg_Il (by omega), rg_Il (by omega)]
        have k2 : ∀ c, ¬ (c = 90 ∨ 412 ≤ c) → Mz.2 c = M3.2 c := fun c hc => (rg_wkn2 wk (by omega)).trans ((show _ = Mw.2 c from rfl).trans ((eB c (by omega)).trans (by rw [e3, rg_J_cell (by omega)]; rfl)))
        have f2 : ∀ c, ¬ (c = 99 + 2 * p ∨ c = 99 + 2 * p + 1 ∨ c = 90 ∨ c = 412 ∨ c = 431 ∨ c = 432) → Mz.2 c = M.2 c := fun c hc => (rg_wkn2 wk (by omega)).trans ((show _ = Mw.2 c from rfl).trans ((eB c (by omega)).trans ((by rw [e3, rg_J_cell (by omega)]; rfl : M2.2 c = M3.2 c).trans (of c (by omega) (by omega)).2)))
        have vd : ∀ x j, ((j = 1 ∨ j = 2 ∨ j = 4) ∧ x = (0 : Int32)) ∨ (j = 3 ∧ x = -1) → Mz.1 90 j = x := fun x j hj => by
          rw [rg_wkn wk (by omega), rg_Il (by omega), rg_Il (by omega), rg_Il (by omega), rg_Il (by omega), rm_cy_n (by omega), eA, e3, rg_J_1]
          rcases hj with ⟨rfl | rfl | rfl, rfl⟩ | ⟨rfl, rfl⟩ <;> rfl
        have v95 : Mz.2 90 5 = 0 := by
          rw [rg_wkn2 wk (by omega)]
          show Mw.2 90 5 = 0
          rw [eB 90 (by omega), e3, rg_J_same]
        have sz : rg_sz Mz 90 = 0 := by unfold rg_sz; rw [vd 0 1 (by decide)]; rfl
        have m20 : Mz.1 412 20 = 0 := by rw [rg_wkn wk (by omega), rg_Il (by omega), rm_get]
        have m24 : Mz.1 412 24 = nI (p + 1) := by rw [rg_wkn wk (by omega), rm_get]
        have v10 : Mz.1 0 10 = nI (p + 1) := by rw [rg_wkn wk (by omega), rg_Il (by omega), rg_Il (by omega), rg_Il (by omega), rg_Il (by omega), rm_cy_n (by omega), eA, e3, rg_J_1, rg_Il (by omega), rg_Il (by omega), rg_Il (by omega), rg_Il (by omega), rm_get]
        have v97 : Mz.1 97 p = z := by rw [rg_wkn wk (by omega), rg_Il (by omega), rg_Il (by omega), rg_Il (by omega), rg_Il (by omega), rm_cy_n (by omega), eA, e3, rg_J_1, rg_Il (by omega), rg_Il (by omega), rg_Il (by omega), rg_Il (by omega), rg_Il (by omega), rm_get]
        have m27 : Mz.1 427 p = z := by rw [rg_wkn wk (by omega), rg_Il (by omega), rg_Il (by omega), rm_get]
        have m26 : Mz.1 426 p = nI n := by rw [rg_wkn wk (by omega), rg_Il (by omega), rg_Il (by omega), rg_Il (by omega), rm_get]
        have m25 : ∀ i, i < n → Mz.1 425 (6 * p + i) = M.1 424 i := fun i hi => by rw [rg_wkn wk (by omega), rg_Il (by omega), rg_Il (by omega), rg_Il (by omega), rg_Il (by omega), rm_cy_y hi]
        have vsz : rg_VS Mz (99 + 2 * p) n := rg_VS_k vs (k 1 4 (by omega)) (fun c _ _ => funext fun j => k c j (by omega)) (funext fun j => k _ j (by omega)) (funext fun j => k _ j (by omega)) (k2 _ (by omega))
        have szo : rg_sz Mz (99 + 2 * p) = n := by unfold rg_sz; rw [vsz.1, nI_clamp (by omega)]
        have wz : ∀ i, i < n → Mz.1 (99 + 2 * p + 1) i = M.1 (90 + 1) i := fun i hi => (k _ i (by omega)).trans (ew i hi)
        have nl : rg_nl Mz = rg_nl M := by unfold rg_nl; rw [f 6 4 (by omega)]
        have nt : rg_nt Mz = rg_nt M := by unfold rg_nt; rw [f 6 0 (by omega)]
        have np : rg_np Mz = rg_np M := by unfold rg_np; rw [f 0 9 (by omega)]
        have no : rg_no Mz = p + 1 := by unfold rg_no; rw [v10, nI_clamp (by omega)]
        refine ⟨z33, fun _ => by rw [z2, o, er, er2], ⟨I_w_k (rg_Inv_w h) (f 1 4 (by omega)) (f 412 4 (by omega)) (fun c hc => funext fun j => f c j (by omega)) (f2 5 (by omega)) (f2 416 (by omega)), I_p_k (rg_Inv_p h) (f 0 9 (by omega)) (f 412 5 (by omega)), I_s_k (rg_Inv_s h) (fun k hk => f 6 k (by omega)) (fun k h1 h2 => f 412 k (by omega)), I_t_k (rg_Inv_t h) (funext fun j => f 7 j (by omega)) (funext fun j => f 420 j (by omega)), ?_, I_v_k (rg_Inv_s h) (rg_Inv_v h) (f 6 4 (by omega)) (f 1 4 (by omega)) (f 0 9 (by omega)) (fun c hc => funext fun j => f c j (by omega)) (fun c c1 c2 => f2 c (by omega)), ?_, I_c_k (rg_Inv_c h) (f 1 4 (by omega)) (f 0 11 (by omega)) (f 412 29 (by omega)) (fun c hc => funext fun j => f c j (by omega)), I_y_k (rg_Inv_y h) (f 0 12 (by omega)) (f 412 25 (by omega)), ?_⟩⟩
        · rw [I_d, sz]
          exact ⟨⟨vd 0 1 (by decide), by omega, fun k hk => absurd hk (Nat.not_lt_zero _), vd 0 2 (by decide), vd (-1) 3 (by decide), vd 0 4 (by decide), v95⟩, by rw [m20, vd 0 1 (by decide)], fun k hk => absurd hk (Nat.not_lt_zero _)⟩
        · refine ⟨by rw [no]; exact v10, by omega, by rw [m24, v10], fun _ => by rw [nl, nt]; exact hO.1, fun i hi => ?_⟩
          by_cases c : i = p
          · subst c
            refine ⟨by rw [szo]; exact vsz, by rw [m26, vsz.1], fun j hj => ?_, ?_, by rw [m27, v97]⟩
            · rw [szo] at hj
              rw [m25 j hj, wz j hj]
              exact hd.2.2 j (by omega)
            · have hP := rg_Inv_p h
              obtain ⟨x, hx, ex⟩ := vp_in_of (rg_lt_in hP.1 (by have := hP.2.1; omega) h1.1 h1.2) (by have := hP.2.1; omega)
              exact ⟨x, by omega, by rw [v97, ex]⟩
          · have hi : i < rg_no M := by omega
            exact I_o1_g (ho.2.2.2.2 i hi) (rg_VS_k (ho.2.2.2.2 i hi).1 (f 1 4 (by omega)) (fun c _ _ => funext fun j => f c j (by omega)) (funext fun j => f _ j (by omega)) (funext fun j => f _ j (by omega)) (f2 _ (by omega))) (funext fun j => f _ j (by omega)) (funext fun j => f _ j (by omega)) (Nat.le_of_eq np.symm) (f 97 i (by omega)) (f 426 i (by omega)) (fun j hj => f 425 _ (by omega)) (f 427 i (by omega))
        · refine ⟨fun l hl => ?_, fun i hi => ?_⟩
          · unfold rg_sz
            rw [f (17 + 2 * l) 1 (by omega)]
            exact rg_di_k ((rg_Inv_z h).1 l (by omega)) (funext fun j => f _ j (by omega))
          · by_cases c : i = p
            · subst c
              rw [szo]
              intro a b hab hb
              rw [wz a (by omega), wz b hb]
              exact rg_di_q h hvs.2.1 hvs.2.2.1 e0 a b hab hb
            · unfold rg_sz
              rw [f (99 + 2 * i) 1 (by omega)]
              exact rg_di_k ((rg_Inv_z h).2 i (by omega)) (funext fun j => f _ j (by omega))
  · rw [em] at e2
    refine rg_ref h ?_ e2 (by decide)
    exact rm_go_1 (rg_b0 (fun q => rg_x2a hx rg_s2 ((rg_ip_i h).mp q)))
  · rw [em] at e2
    refine rg_ref h ?_ e2 (by decide)
    have z := rg_x2b hx rg_s2.symm
    exact rm_go_2 (rg_b1 ((rg_ip_i h).mpr z.1)) (rg_b0 (fun q => z.2 (rg_ofr2 h q)))
