theorem pre_offer {M Mw : rg_Mem} {k : Int32} {z : Int32} (h : rg_Inv M) (e1 : (fun k M1 => (k = 0 ∧ ∃ r M2, (fun r M1 => (rg_pt M z ∧ (¬ M.1 6 0 ≤ M.1 6 4 ∧ M.1 0 10 < 4)) ∧ ((∃ k, 1 ≤ k ∧ k ≤ 8 ∧ rg_f8 (rg_co M 90 (rg_sz M 90) (rg_nl M) (rg_sp M) z) 8 1 = nI k ∧ r = -nI k ∧ M1 = rg_I M 0 12 (rg_co M 90 (rg_sz M 90) (rg_nl M) (rg_sp M) z k)) ∨ (rg_f8 (rg_co M 90 (rg_sz M 90) (rg_nl M) (rg_sp M) z) 8 1 = 0 ∧ r = nI (rg_no M) ∧ ∃ M2, (rg_VS M2 (99 + 2 * rg_no M) (rg_sz M 90) ∧ (∀ k, k < rg_sz M 90 → M2.1 (99 + 2 * rg_no M + 1) k = M.1 (90 + 1) k) ∧ rg_off M M2 (99 + 2 * rg_no M)) ∧ M1 = rg_emp (rg_I (rg_I M2 97 (rg_no M) z) 0 10 (nI (rg_no M + 1)))))) r M2 ∧ M1 = rg_J M2 432 0 r.toInt64) ∨ ((fun X => (¬ (rg_pt M z) ∧ X = "java/lang/IndexOutOfBoundsException") ∨ ((rg_pt M z) ∧ ¬ (¬ M.1 6 0 ≤ M.1 6 4 ∧ M.1 0 10 < 4) ∧ X = "java/lang/IllegalStateException")) "java/lang/IndexOutOfBoundsException" ∧ k = 1 ∧ M1 = M) ∨ ((fun X => (¬ (rg_pt M z) ∧ X = "java/lang/IndexOutOfBoundsException") ∨ ((rg_pt M z) ∧ ¬ (¬ M.1 6 0 ≤ M.1 6 4 ∧ M.1 0 10 < 4) ∧ X = "java/lang/IllegalStateException")) "java/lang/IllegalStateException" ∧ k = 2 ∧ M1 = M)) k Mw) : rm_CI Mw := by
  rcases e1 with ⟨_, r1, M2, hs, em⟩ | ⟨_, _, em⟩ | ⟨_, _, em⟩
  · have g : rg_mo M M2 := by
      obtain ⟨⟨h1, h2, h3⟩, hq⟩ := hs
      rcases hq with ⟨k, _, _, _, _, e3⟩ | ⟨_, _, M3, ⟨_, _, of⟩, e3⟩
      · rw [e3]
        exact rg_mo_I rg_mo_rf (by omega)
      · rw [e3]
        have n4 := rg_no4 h h3
        exact rg_mo_J (rg_mo_I (rg_mo_I (rg_mo_I (rg_mo_I (rg_mo_I (rg_mo_I (rg_mo_off rg_mo_rf of (by omega)) (by omega)) (by omega)) (by omega)) (by omega)) (by omega)) (by omega)) (by omega)
    rw [em]
    exact rg_mo_mi h (rg_mo_o g)
  · rw [em]
    exact rg_mo_mi h rg_mo_rf
  · rw [em]
    exact rg_mo_mi h rg_mo_rf
theorem sim_offer {M Mw Mz : rg_Mem} {k r : Int32} {z : Int32} (h : rg_Inv M) (e1 : (fun k M1 => (k = 0 ∧ ∃ r M2, (fun r M1 => (rg_pt M z ∧ (¬ M.1 6 0 ≤ M.1 6 4 ∧ M.1 0 10 < 4)) ∧ ((∃ k, 1 ≤ k ∧ k ≤ 8 ∧ rg_f8 (rg_co M 90 (rg_sz M 90) (rg_nl M) (rg_sp M) z) 8 1 = nI k ∧ r = -nI k ∧ M1 = rg_I M 0 12 (rg_co M 90 (rg_sz M 90) (rg_nl M) (rg_sp M) z k)) ∨ (rg_f8 (rg_co M 90 (rg_sz M 90) (rg_nl M) (rg_sp M) z) 8 1 = 0 ∧ r = nI (rg_no M) ∧ ∃ M2, (rg_VS M2 (99 + 2 * rg_no M) (rg_sz M 90) ∧ (∀ k, k < rg_sz M 90 → M2.1 (99 + 2 * rg_no M + 1) k = M.1 (90 + 1) k) ∧ rg_off M M2 (99 + 2 * rg_no M)) ∧ M1 = rg_emp (rg_I (rg_I M2 97 (rg_no M) z) 0 10 (nI (rg_no M + 1)))))) r M2 ∧ M1 = rg_J M2 432 0 r.toInt64) ∨ ((fun X => (¬ (rg_pt M z) ∧ X = "java/lang/IndexOutOfBoundsException") ∨ ((rg_pt M z) ∧ ¬ (¬ M.1 6 0 ≤ M.1 6 4 ∧ M.1 0 10 < 4) ∧ X = "java/lang/IllegalStateException")) "java/lang/IndexOutOfBoundsException" ∧ k = 1 ∧ M1 = M) ∨ ((fun X => (¬ (rg_pt M z) ∧ X = "java/lang/IndexOutOfBoundsException") ∨ ((rg_pt M z) ∧ ¬ (¬ M.1 6 0 ≤ M.1 6 4 ∧ M.1 0 10 < 4) ∧ X = "java/lang/IllegalStateException")) "java/lang/IllegalStateException" ∧ k = 2 ∧ M1 = M)) k Mw) (e2 : (fun r M1 => (¬ rm_go (rg_b (rm_ip Mw z)) (rg_b (¬ Mw.1 412 6 = 0 ∧ ¬ rm_fin Mw ∧ ¬ 4 ≤ Mw.1 412 24)) 1 = 0 ∧ r = 0 ∧ M1 = rg_I Mw 412 33 (rm_go (rg_b (rm_ip Mw z)) (rg_b (¬ Mw.1 412 6 = 0 ∧ ¬ rm_fin Mw ∧ ¬ 4 ≤ Mw.1 412 24)) 1)) ∨ (rm_go (rg_b (rm_ip Mw z)) (rg_b (¬ Mw.1 412 6 = 0 ∧ ¬ rm_fin Mw ∧ ¬ 4 ≤ Mw.1 412 24)) 1 = 0 ∧ ((¬ (rm_fo Mw (Mw.1 424) (rm_nd Mw) (rm_nl Mw) z).1 ≤ 0 ∧ r = -(rm_fo Mw (Mw.1 424) (rm_nd Mw) (rm_nl Mw) z).1 ∧ rm_wk (rg_I Mw 412 25 (rm_fo Mw (Mw.1 424) (rm_nd Mw) (rm_nl Mw) z).2) M1) ∨ ((rm_fo Mw (Mw.1 424) (rm_nd Mw) (rm_nl Mw) z).1 ≤ 0 ∧ r = nI (rm_no Mw) ∧ rm_wk (rg_I (rg_I (rg_I (rg_I (rm_cy Mw 425 (6 * rm_no Mw) (Mw.1 424) (rm_nd Mw)) 426 (rm_no Mw) (nI (rm_nd Mw))) 427 (rm_no Mw) z) 412 20 0) 412 24 (nI (rm_no Mw + 1))) M1)) ∧ M1.1 412 33 = 0)) r Mz) : Mz.1 412 33 = k ∧ (k = 0 → Mz.2 432 0 = r.toInt64) ∧ rg_Inv Mz := by
  rcases e1 with ⟨rfl, r1, M2, hs, em⟩ | ⟨hx, rfl, em⟩ | ⟨hx, rfl, em⟩
  · have n4 := rg_no4 h hs.1.2.2
    have g : rg_mo M Mw := by
      rw [em]
      refine rg_mo_o ?_
      exact by
        obtain ⟨⟨h1, h2, h3⟩, hq⟩ := hs
        rcases hq with ⟨k, _, _, _, _, e3⟩ | ⟨_, _, M3, ⟨_, _, of⟩, e3⟩
        · rw [e3]
          exact rg_mo_I rg_mo_rf (by omega)
        · rw [e3]
          have n4 := rg_no4 h h3
          exact rg_mo_J (rg_mo_I (rg_mo_I (rg_mo_I (rg_mo_I (rg_mo_I (rg_mo_I (rg_mo_off rg_mo_rf of (by omega)) (by omega)) (by omega)) (by omega)) (by omega)) (by omega)) (by omega)) (by omega)
    obtain ⟨⟨h1, h2, h3⟩, hq⟩ := hs
    have E0 := rm_go_0 (rg_b1 ((rg_ip_g h g).mpr h1)) (rg_b1 (rg_ofr h g h2 h3)) rg_n1
    rcases e2 with ⟨q, _⟩ | ⟨_, e2, z33⟩
    · exact absurd E0 q
    have o : Mw.2 432 0 = r1.toInt64 := by rw [em]; exact rg_J_same
    have eA : Mw.1 = M2.1 := by rw [em]; rfl
    have eB : ∀ c, c ≠ 432 → Mw.2 c = M2.2 c := fun c hc => by rw [em]; exact rg_J_cell hc
    have hd := rg_Inv_d h
    have ho := rg_Inv_of h
    have hO := rg_openN h h2
    have h36 := rg_Inv_36 h
    obtain ⟨n, hn⟩ : ∃ n, n = rg_sz M 90 := ⟨_, rfl⟩
    obtain ⟨p, hp⟩ : ∃ p, p = rg_no M := ⟨_, rfl⟩
    have md : rm_nd Mw = n := by rw [hn, ← rm_nd_i h]; unfold rm_nd; rw [g.1 412 (by omega)]
    have ml : rm_nl Mw = rg_nl M := by rw [← rm_nl_i h]; unfold rm_nl; rw [g.1 412 (by omega)]
    have mo : rm_no Mw = p := by rw [hp, ← rm_no_i h]; unfold rm_no; rw [g.1 412 (by omega)]
    rw [md, ml, mo, rg_mo_fo g, g.1 424 (by omega), rm_fo_w (w := M.1 (90 + 1)) (fun k hk => hd.2.2 k (by omega))] at e2
    rw [rg_co_cq hd.1, ← hn, ← hp] at hq
    have hvs := hd.1
    rw [← hn] at hvs
    have F := rg_flt h (w := M.1 (90 + 1)) (n := n) (j := rg_nl M) (po := z) hvs.2.1 hvs.2.2.1 (Nat.le_refl _) hO.2
    have z2 : Mz.2 432 0 = Mw.2 432 0 := by
      rcases e2 with ⟨_, _, wk⟩ | ⟨_, _, wk⟩
      · exact congrFun (rg_wkn2 wk (by omega)) 0
      · exact congrFun (rg_wkn2 wk (by omega)) 0
    rcases hq with ⟨k, k1, k8, ek, er, e3⟩ | ⟨e0, er, M3, ⟨vs, ew, of⟩, e3⟩
    · rcases e2 with ⟨c, er2, wk⟩ | ⟨c, er2, wk⟩
      · have f : ∀ c j, ¬ ((c = 0 ∧ j = 12) ∨ (c = 412 ∧ (j = 25 ∨ 31 ≤ j)) ∨ c = 431) → Mz.1 c j = M.1 c j := fun c j hc => by rw [rg_wkn wk (by omega), rg_Il (by omega), eA, e3, rg_Il (by omega)]
        have f2 : ∀ c, ¬ (c = 412 ∨ c = 431 ∨ c = 432) → Mz.2 c = M.2 c := fun c hc => (rg_wkn2 wk (by omega)).trans ((eB c (by omega)).trans (by rw [e3]; rfl))
        refine ⟨z33, fun _ => by rw [z2, o, er, er2, F.1, ek], ⟨I_w_k (rg_Inv_w h) (f 1 4 (by omega)) (f 412 4 (by omega)) (fun c hc => funext fun j => f c j (by omega)) (f2 5 (by omega)) (f2 416 (by omega)), I_p_k (rg_Inv_p h) (f 0 9 (by omega)) (f 412 5 (by omega)), I_s_k (rg_Inv_s h) (fun k hk => f 6 k (by omega)) (fun k h1 h2 => f 412 k (by omega)), I_t_k (rg_Inv_t h) (funext fun j => f 7 j (by omega)) (funext fun j => f 420 j (by omega)), I_d_k (rg_Inv_d h) (f 1 4 (by omega)) (fun c h1 h2 => funext fun j => f c j (by omega)) (funext fun j => f 90 j (by omega)) (funext fun j => f 91 j (by omega)) (f2 90 (by omega)) (f 412 20 (by omega)) (funext fun j => f 424 j (by omega)), I_v_k (rg_Inv_s h) (rg_Inv_v h) (f 6 4 (by omega)) (f 1 4 (by omega)) (f 0 9 (by omega)) (fun c hc => funext fun j => f c j (by omega)) (fun c c1 c2 => f2 c (by omega)), I_o_k (rg_Inv_of h) (fun k hk => f 6 k (by omega)) (f 1 4 (by omega)) (f 0 9 (by omega)) (f 0 10 (by omega)) (f 412 24 (by omega)) (fun c hc => funext fun j => f c j (by omega)) (fun c c1 c2 => f2 c (by omega)), I_c_k (rg_Inv_c h) (f 1 4 (by omega)) (f 0 11 (by omega)) (f 412 29 (by omega)) (fun c hc => funext fun j => f c j (by omega)), ?_, I_z_k (rg_Inv_s h) (rg_Inv_of h) (rg_Inv_z h) (f 6 4 (by omega)) (f 0 10 (by omega)) (fun c hc => funext fun j => f c j (by omega))⟩⟩
        unfold I_y
        rw [rg_wkn wk (by omega), rm_get, rg_wkn wk (by omega), rg_Il (by omega), eA, e3, rm_get]
        exact F.2 k k1 k8 ek
      · rw [F.1, ek] at c
        exact absurd c (nI_nle (by omega) (by omega))
    · rcases e2 with ⟨c, er2, wk⟩ | ⟨c, er2, wk⟩
      · rw [F.1, e0] at c
        exact absurd (show (0 : Int32) ≤ 0 by decide) c
      · have hn6 := hvs.2.1
        have f : ∀ c j, ¬ (c = 99 + 2 * p ∨ c = 99 + 2 * p + 1 ∨ (c = 97 ∧ j = p) ∨ (c = 0 ∧ j = 10) ∨ (c = 90 ∧ 1 ≤ j ∧ j ≤ 4) ∨ (c = 425 ∧ 6 * p ≤ j ∧ j < 6 * p + n) ∨ ((c = 426 ∨ c = 427) ∧ j = p) ∨ (c = 412 ∧ (j = 20 ∨ j = 24 ∨ 31 ≤ j)) ∨ c = 431) → Mz.1 c j = M.1 c j := fun c j hc => by rw [rg_wkn wk (by omega), rg_Il (by omega), rg_Il (by omega), rg_Il (by omega), rg_Il (by omega), rm_cy_n (by omega), eA, e3, rg_J_1, rg_Il (by omega), rg_Il (by omega), rg_Il (by omega), rg_Il (by omega), rg_Il (by omega), rg_Il (by omega), (of c (by omega) (by omega)).1]
        have k : ∀ c j, ¬ ((c = 97 ∧ j = p) ∨ (c = 0 ∧ j = 10) ∨ (c = 90 ∧ 1 ≤ j ∧ j ≤ 4) ∨ 412 ≤ c) → Mz.1 c j = M3.1 c j := fun c j hc => by rw [rg_wkn wk (by omega), rg_Il (by omega), rg_Il (by omega), rg_Il (by omega), rg_Il (by omega), rm_cy_n (by omega), eA, e3, rg_J_1, rg_Il (by omega), rg_Il (by omega), rg_Il (by omega), rg_Il (by omega), rg_Il (by omega), rg_Il (by omega)]
        have k2 : ∀ c, ¬ (c = 90 ∨ 412 ≤ c) → Mz.2 c = M3.2 c := fun c hc => (rg_wkn2 wk (by omega)).trans ((show _ = Mw.2 c from rfl).trans ((eB c (by omega)).trans (by rw [e3, rg_J_cell (by omega)]; rfl)))
        have f2 : ∀ c, ¬ (c = 99 + 2 * p ∨ c = 99 + 2 * p + 1 ∨ c = 90 ∨ c = 412 ∨ c = 431 ∨ c = 432) → Mz.2 c = M.2 c := fun c hc => (rg_wkn2 wk (by omega)).trans ((show _ = Mw.2 c from rfl).trans ((eB c (by omega)).trans ((by rw [e3, rg_J_cell (by omega)]; rfl : M2.2 c = M3.2 c).trans (of c (by omega) (by omega)).2)))
        have vd : ∀ x j, ((j = 1 ∨ j = 2 ∨ j = 4) ∧ x = (0 : Int32)) ∨ (j = 3 ∧ x = -1) → Mz.1 90 j = x := fun x j hj => by
          rw [rg_wkn wk (by omega), rg_Il (by omega), rg_Il (by omega), rg_Il (by omega), rg_Il (by omega), rm_cy_n (by omega), eA, e3, rg_J_1]
          rcases hj with ⟨rfl | rfl | rfl, rfl⟩ | ⟨rfl, rfl⟩ <;> rfl
        have v95 : Mz.2 90 5 = 0 := by
          rw [rg_wkn2 wk (by omega)]
          show Mw.2 90 5 = 0
          rw [eB 90 (by omega), e3, rg_J_same]
        have sz : rg_sz Mz 90 = 0 := by unfold rg_sz; rw [vd 0 1 (by decide)]; rfl
        have m20 : Mz.1 412 20 = 0 := by rw [rg_wkn wk (by omega), rg_Il (by omega), rm_get]
        have m24 : Mz.1 412 24 = nI (p + 1) := by rw [rg_wkn wk (by omega), rm_get]
        have v10 : Mz.1 0 10 = nI (p + 1) := by rw [rg_wkn wk (by omega), rg_Il (by omega), rg_Il (by omega), rg_Il (by omega), rg_Il (by omega), rm_cy_n (by omega), eA, e3, rg_J_1, rg_Il (by omega), rg_Il (by omega), rg_Il (by omega), rg_Il (by omega), rm_get]
        have v97 : Mz.1 97 p = z := by rw [rg_wkn wk (by omega), rg_Il (by omega), rg_Il (by omega), rg_Il (by omega), rg_Il (by omega), rm_cy_n (by omega), eA, e3, rg_J_1, rg_Il (by omega), rg_Il (by omega), rg_Il (by omega), rg_Il (by omega), rg_Il (by omega), rm_get]
        have m27 : Mz.1 427 p = z := by rw [rg_wkn wk (by omega), rg_Il (by omega), rg_Il (by omega), rm_get]
        have m26 : Mz.1 426 p = nI n := by rw [rg_wkn wk (by omega), rg_Il (by omega), rg_Il (by omega), rg_Il (by omega), rm_get]
        have m25 : ∀ i, i < n → Mz.1 425 (6 * p + i) = M.1 424 i := fun i hi => by rw [rg_wkn wk (by omega), rg_Il (by omega), rg_Il (by omega), rg_Il (by omega), rg_Il (by omega), rm_cy_y hi]
        have vsz : rg_VS Mz (99 + 2 * p) n := rg_VS_k vs (k 1 4 (by omega)) (fun c _ _ => funext fun j => k c j (by omega)) (funext fun j => k _ j (by omega)) (funext fun j => k _ j (by omega)) (k2 _ (by omega))
        have szo : rg_sz Mz (99 + 2 * p) = n := by unfold rg_sz; rw [vsz.1, nI_clamp (by omega)]
        have wz : ∀ i, i < n → Mz.1 (99 + 2 * p + 1) i = M.1 (90 + 1) i := fun i hi => (k _ i (by omega)).trans (ew i hi)
        have nl : rg_nl Mz = rg_nl M := by unfold rg_nl; rw [f 6 4 (by omega)]
        have nt : rg_nt Mz = rg_nt M := by unfold rg_nt; rw [f 6 0 (by omega)]
        have np : rg_np Mz = rg_np M := by unfold rg_np; rw [f 0 9 (by omega)]
        have no : rg_no Mz = p + 1 := by unfold rg_no; rw [v10, nI_clamp (by omega)]
        refine ⟨z33, fun _ => by rw [z2, o, er, er2], ⟨I_w_k (rg_Inv_w h) (f 1 4 (by omega)) (f 412 4 (by omega)) (fun c hc => funext fun j => f c j (by omega)) (f2 5 (by omega)) (f2 416 (by omega)), I_p_k (rg_Inv_p h) (f 0 9 (by omega)) (f 412 5 (by omega)), I_s_k (rg_Inv_s h) (fun k hk => f 6 k (by omega)) (fun k h1 h2 => f 412 k (by omega)), I_t_k (rg_Inv_t h) (funext fun j => f 7 j (by omega)) (funext fun j => f 420 j (by omega)), ?_, I_v_k (rg_Inv_s h) (rg_Inv_v h) (f 6 4 (by omega)) (f 1 4 (by omega)) (f 0 9 (by omega)) (fun c hc => funext fun j => f c j (by omega)) (fun c c1 c2 => f2 c (by omega)), ?_, I_c_k (rg_Inv_c h) (f 1 4 (by omega)) (f 0 11 (by omega)) (f 412 29 (by omega)) (fun c hc => funext fun j => f c j (by omega)), I_y_k (rg_Inv_y h) (f 0 12 (by omega)) (f 412 25 (by omega)), ?_⟩⟩
        · rw [I_d, sz]
          exact ⟨⟨vd 0 1 (by decide), by omega, fun k hk => absurd hk (Nat.not_lt_zero _), vd 0 2 (by decide), vd (-1) 3 (by decide), vd 0 4 (by decide), v95⟩, by rw [m20, vd 0 1 (by decide)], fun k hk => absurd hk (Nat.not_lt_zero _)⟩
        · refine ⟨by rw [no]; exact v10, by omega, by rw [m24, v10], fun _ => by rw [nl, nt]; exact hO.1, fun i hi => ?_⟩
          by_cases c : i = p
          · subst c
            refine ⟨by rw [szo]; exact vsz, by rw [m26, vsz.1], fun j hj => ?_, ?_, by rw [m27, v97]⟩
            · rw [szo] at hj
              rw [m25 j hj, wz j hj]
              exact hd.2.2 j (by omega)
            · have hP := rg_Inv_p h
              obtain ⟨x, hx, ex⟩ := vp_in_of (rg_lt_in hP.1 (by have := hP.2.1; omega) h1.1 h1.2) (by have := hP.2.1; omega)
              exact ⟨x, by omega, by rw [v97, ex]⟩
          · have hi : i < rg_no M := by omega
            exact I_o1_g (ho.2.2.2.2 i hi) (rg_VS_k (ho.2.2.2.2 i hi).1 (f 1 4 (by omega)) (fun c _ _ => funext fun j => f c j (by omega)) (funext fun j => f _ j (by omega)) (funext fun j => f _ j (by omega)) (f2 _ (by omega))) (funext fun j => f _ j (by omega)) (funext fun j => f _ j (by omega)) (Nat.le_of_eq np.symm) (f 97 i (by omega)) (f 426 i (by omega)) (fun j hj => f 425 _ (by omega)) (f 427 i (by omega))
        · refine ⟨fun l hl => ?_, fun i hi => ?_⟩
          · unfold rg_sz
            rw [f (17 + 2 * l) 1 (by omega)]
            exact rg_di_k ((rg_Inv_z h).1 l (by omega)) (funext fun j => f _ j (by omega))
          · by_cases c : i = p
            · subst c
              rw [szo]
              intro a b hab hb
              rw [wz a (by omega), wz b hb]
              exact rg_di_q h hvs.2.1 hvs.2.2.1 e0 a b hab hb
            · unfold rg_sz
              rw [f (99 + 2 * i) 1 (by omega)]
              exact rg_di_k ((rg_Inv_z h).2 i (by omega)) (funext fun j => f _ j (by omega))
  · rw [em] at e2
    refine rg_ref h ?_ e2 (by decide)
    exact rm_go_1 (rg_b0 (fun q => rg_x2a hx rg_s2 ((rg_ip_i h).mp q)))
  · rw [em] at e2
    refine rg_ref h ?_ e2 (by decide)
    have z := rg_x2b hx rg_s2.symm
    exact rm_go_2 (rg_b1 ((rg_ip_i h).mpr z.1)) (rg_b0 (fun q => z.2 (rg_ofr2 h q)))
theorem pre_choose {M Mw : rg_Mem} {k : Int32} {x : Int32} (h : rg_Inv M) (e1 : (fun k M1 => (k = 0 ∧ ∃ r M2, (fun r M1 => (¬ x < 0 ∧ x < M.1 0 10) ∧ r = nI (rg_nl M) ∧ ∃ M2, (rg_VS M2 (17 + 2 * rg_nl M) (rg_sz M (99 + 2 * x.toNatClampNeg)) ∧ (∀ k, k < rg_sz M (99 + 2 * x.toNatClampNeg) → M2.1 (17 + 2 * rg_nl M + 1) k = M.1 (99 + 2 * x.toNatClampNeg + 1) k) ∧ rg_off M M2 (17 + 2 * rg_nl M)) ∧ M1 = rg_I (rg_I (rg_zp (rg_I (rg_I (rg_I M2 9 (rg_nl M) (M.1 97 x.toNatClampNeg)) 10 (rg_nl M) 0) 11 (rg_nl M) 0) (rg_nl M) 4) 6 4 (nI (rg_nl M + 1))) 0 10 0) r M2 ∧ M1 = rg_J M2 432 0 r.toInt64) ∨ ((fun X => ¬ (¬ x < 0 ∧ x < M.1 0 10) ∧ X = "java/lang/IndexOutOfBoundsException") "java/lang/IndexOutOfBoundsException" ∧ k = 1 ∧ M1 = M)) k Mw) : rm_CI Mw := by
  rcases e1 with ⟨_, r1, M2, hs, em⟩ | ⟨_, _, em⟩
  · have g : rg_mo M M2 := by
      obtain ⟨h1, er, M3, ⟨_, _, of⟩, e3⟩ := hs
      have n35 := rg_chN h h1
      rw [e3]
      exact rg_mo_I (rg_mo_I (rg_mo_zp (rg_mo_I (rg_mo_I (rg_mo_I (rg_mo_off rg_mo_rf of (by omega)) (by omega)) (by omega)) (by omega)) (by omega)) (by omega)) (by omega)
    rw [em]
    exact rg_mo_mi h (rg_mo_o g)
  · rw [em]
    exact rg_mo_mi h rg_mo_rf
theorem sim_choose {M Mw Mz : rg_Mem} {k r : Int32} {x : Int32} (h : rg_Inv M) (e1 : (fun k M1 => (k = 0 ∧ ∃ r M2, (fun r M1 => (¬ x < 0 ∧ x < M.1 0 10) ∧ r = nI (rg_nl M) ∧ ∃ M2, (rg_VS M2 (17 + 2 * rg_nl M) (rg_sz M (99 + 2 * x.toNatClampNeg)) ∧ (∀ k, k < rg_sz M (99 + 2 * x.toNatClampNeg) → M2.1 (17 + 2 * rg_nl M + 1) k = M.1 (99 + 2 * x.toNatClampNeg + 1) k) ∧ rg_off M M2 (17 + 2 * rg_nl M)) ∧ M1 = rg_I (rg_I (rg_zp (rg_I (rg_I (rg_I M2 9 (rg_nl M) (M.1 97 x.toNatClampNeg)) 10 (rg_nl M) 0) 11 (rg_nl M) 0) (rg_nl M) 4) 6 4 (nI (rg_nl M + 1))) 0 10 0) r M2 ∧ M1 = rg_J M2 432 0 r.toInt64) ∨ ((fun X => ¬ (¬ x < 0 ∧ x < M.1 0 10) ∧ X = "java/lang/IndexOutOfBoundsException") "java/lang/IndexOutOfBoundsException" ∧ k = 1 ∧ M1 = M)) k Mw) (e2 : (fun r M1 => (¬ rm_go (rg_b (rm_io Mw x)) 1 1 = 0 ∧ r = 0 ∧ M1 = rg_I Mw 412 33 (rm_go (rg_b (rm_io Mw x)) 1 1)) ∨ (rm_go (rg_b (rm_io Mw x)) 1 1 = 0 ∧ r = nI (rm_nl Mw) ∧ M1 = rg_I (rg_I (rg_I (rg_I (rg_I (rg_I (rm_cy (rg_I Mw 412 33 (rm_go (rg_b (rm_io Mw x)) 1 1)) 417 (6 * rm_nl Mw) (fun k => Mw.1 425 (6 * x.toNatClampNeg + k)) (rm_oz Mw x.toNatClampNeg)) 418 (rm_nl Mw) (nI (rm_oz Mw x.toNatClampNeg))) 419 (rm_nl Mw) (Mw.1 427 x.toNatClampNeg)) 421 (rm_nl Mw) 0) 422 (rm_nl Mw) 0) 412 24 0) 412 11 (nI (rm_nl Mw + 1)))) r Mz) : Mz.1 412 33 = k ∧ (k = 0 → Mz.2 432 0 = r.toInt64) ∧ rg_Inv Mz := by
  rcases e1 with ⟨rfl, r1, M2, hs, em⟩ | ⟨hx, rfl, em⟩
  · have g : rg_mo M Mw := by
      rw [em]
      refine rg_mo_o ?_
      exact by
        obtain ⟨h1, er, M3, ⟨_, _, of⟩, e3⟩ := hs
        have n35 := rg_chN h h1
        rw [e3]
        exact rg_mo_I (rg_mo_I (rg_mo_zp (rg_mo_I (rg_mo_I (rg_mo_I (rg_mo_off rg_mo_rf of (by omega)) (by omega)) (by omega)) (by omega)) (by omega)) (by omega)) (by omega)
    obtain ⟨h1, er, M3, ⟨vs, ew, of⟩, e3⟩ := hs
    have n35 := rg_chN h h1
    have ho := rg_Inv_of h
    have ho4 := ho.2.1
    have hS := rg_Inv_s h
    have E0 := rm_go_0 (rg_b1 (show rm_io Mw x by unfold rm_io; rw [g.1 412 (by omega), ho.2.2.1]; exact h1)) rg_n1 rg_n1
    obtain ⟨a, ha, e⟩ := vp_in_of (rg_lt_in ho.1 (by omega) h1.1 h1.2) (by omega)
    have ea : x.toNatClampNeg = a := by rw [e, nI_clamp (by omega)]
    rw [ea] at vs ew e3
    rcases e2 with ⟨q, _⟩ | ⟨q, er2, ez⟩
    · exact absurd E0 q
    have o : Mw.2 432 0 = r1.toInt64 := by rw [em]; exact rg_J_same
    have eA : Mw.1 = M2.1 := by rw [em]; rfl
    have eB : ∀ c, c ≠ 432 → Mw.2 c = M2.2 c := fun c hc => by rw [em]; exact rg_J_cell hc
    obtain ⟨b, hb⟩ : ∃ b, b = rg_nl M := ⟨_, rfl⟩
    obtain ⟨n, hn⟩ : ∃ n, n = rg_sz M (99 + 2 * a) := ⟨_, rfl⟩
    have ml : rm_nl Mw = b := by rw [hb, ← rm_nl_i h]; unfold rm_nl; rw [g.1 412 (by omega)]
    have oz : rm_oz Mw a = n := by rw [hn, ← rm_oz_i h ha]; unfold rm_oz; rw [g.1 426 (by omega)]
    rw [ml] at ez er2
    rw [ea, oz, g.1 427 (by omega)] at ez
    rw [← hb, ← hn] at vs ew
    rw [← hb] at of e3 er
    have hn6 := vs.2.1
    have h36 := rg_Inv_36 h
    have hv := (rg_Inv_v h).2.1
    have hof := ho.2.2.2.2 a ha
    have f : ∀ c j, ¬ (c = 17 + 2 * b ∨ c = 17 + 2 * b + 1 ∨ ((9 ≤ c ∧ c ≤ 11) ∧ j = b) ∨ ((13 ≤ c ∧ c < 17) ∧ j = b) ∨ (c = 6 ∧ j = 4) ∨ (c = 0 ∧ j = 10) ∨ (c = 417 ∧ 6 * b ≤ j ∧ j < 6 * b + n) ∨ ((c = 418 ∨ c = 419 ∨ c = 421 ∨ c = 422) ∧ j = b) ∨ (c = 412 ∧ (j = 11 ∨ j = 24 ∨ j = 33))) → Mz.1 c j = M.1 c j := fun c j hc => by rw [ez, rg_Il (by omega), rg_Il (by omega), rg_Il (by omega), rg_Il (by omega), rg_Il (by omega), rg_Il (by omega), rm_cy_n (by omega), rg_Il (by omega), eA, e3, rg_Il (by omega), rg_Il (by omega), rg_zp_n (by omega), rg_Il (by omega), rg_Il (by omega), rg_Il (by omega), (of c (by omega) (by omega)).1]
    have k : ∀ c j, ¬ (((9 ≤ c ∧ c ≤ 11) ∧ j = b) ∨ ((13 ≤ c ∧ c < 17) ∧ j = b) ∨ (c = 6 ∧ j = 4) ∨ (c = 0 ∧ j = 10) ∨ 412 ≤ c) → Mz.1 c j = M3.1 c j := fun c j hc => by rw [ez, rg_Il (by omega), rg_Il (by omega), rg_Il (by omega), rg_Il (by omega), rg_Il (by omega), rg_Il (by omega), rm_cy_n (by omega), rg_Il (by omega), eA, e3, rg_Il (by omega), rg_Il (by omega), rg_zp_n (by omega), rg_Il (by omega), rg_Il (by omega), rg_Il (by omega)]
    have k2 : ∀ c, ¬ (c = 432) → Mz.2 c = M3.2 c := fun c hc => (show Mz.2 c = Mw.2 c by rw [ez]; rfl).trans ((eB c (by omega)).trans (by rw [e3]; rfl))
    have f2 : ∀ c, ¬ (c = 17 + 2 * b ∨ c = 17 + 2 * b + 1 ∨ c = 432) → Mz.2 c = M.2 c := fun c hc => (k2 c (by omega)).trans (of c (by omega) (by omega)).2
    have m11 : Mz.1 412 11 = nI (b + 1) := by rw [ez, rm_get]
    have m24 : Mz.1 412 24 = 0 := by rw [ez, rg_Il (by omega), rm_get]
    have m422 : Mz.1 422 b = 0 := by rw [ez, rg_Il (by omega), rg_Il (by omega), rm_get]
    have m421 : Mz.1 421 b = 0 := by rw [ez, rg_Il (by omega), rg_Il (by omega), rg_Il (by omega), rm_get]
    have m419 : Mz.1 419 b = M.1 427 a := by rw [ez, rg_Il (by omega), rg_Il (by omega), rg_Il (by omega), rg_Il (by omega), rm_get]
    have m418 : Mz.1 418 b = nI n := by rw [ez, rg_Il (by omega), rg_Il (by omega), rg_Il (by omega), rg_Il (by omega), rg_Il (by omega), rm_get]
    have c10 : Mz.1 0 10 = 0 := by rw [ez, rg_Il (by omega), rg_Il (by omega), rg_Il (by omega), rg_Il (by omega), rg_Il (by omega), rg_Il (by omega), rm_cy_n (by omega), rg_Il (by omega), eA, e3, rm_get]
    have c64 : Mz.1 6 4 = nI (b + 1) := by rw [ez, rg_Il (by omega), rg_Il (by omega), rg_Il (by omega), rg_Il (by omega), rg_Il (by omega), rg_Il (by omega), rm_cy_n (by omega), rg_Il (by omega), eA, e3, rg_Il (by omega), rm_get]
    have v11 : Mz.1 11 b = 0 := by rw [ez, rg_Il (by omega), rg_Il (by omega), rg_Il (by omega), rg_Il (by omega), rg_Il (by omega), rg_Il (by omega), rm_cy_n (by omega), rg_Il (by omega), eA, e3, rg_Il (by omega), rg_Il (by omega), rg_zp_n (by omega), rm_get]
    have v10 : Mz.1 10 b = 0 := by rw [ez, rg_Il (by omega), rg_Il (by omega), rg_Il (by omega), rg_Il (by omega), rg_Il (by omega), rg_Il (by omega), rm_cy_n (by omega), rg_Il (by omega), eA, e3, rg_Il (by omega), rg_Il (by omega), rg_zp_n (by omega), rg_Il (by omega), rm_get]
    have v9 : Mz.1 9 b = M.1 97 a := by rw [ez, rg_Il (by omega), rg_Il (by omega), rg_Il (by omega), rg_Il (by omega), rg_Il (by omega), rg_Il (by omega), rm_cy_n (by omega), rg_Il (by omega), eA, e3, rg_Il (by omega), rg_Il (by omega), rg_zp_n (by omega), rg_Il (by omega), rg_Il (by omega), rm_get]

    have m417 : ∀ i, i < n → Mz.1 417 (6 * b + i) = M.1 425 (6 * a + i) := fun i hi => by rw [ez, rg_Il (by omega), rg_Il (by omega), rg_Il (by omega), rg_Il (by omega), rg_Il (by omega), rg_Il (by omega), rm_cy_y hi, g.1 425 (by omega)]
    have vpt : ∀ j, j < 4 → Mz.1 (13 + j) b = -1 := fun j hj => by rw [ez, rg_Il (by omega), rg_Il (by omega), rg_Il (by omega), rg_Il (by omega), rg_Il (by omega), rg_Il (by omega), rm_cy_n (by omega), rg_Il (by omega), eA, e3, rg_Il (by omega), rg_Il (by omega), rg_zp_y (by omega)]
    have vsz : rg_VS Mz (17 + 2 * b) n := rg_VS_k vs (k 1 4 (by omega)) (fun c _ _ => funext fun j => k c j (by omega)) (funext fun j => k _ j (by omega)) (funext fun j => k _ j (by omega)) (k2 _ (by omega))
    have szv : rg_sz Mz (17 + 2 * b) = n := by unfold rg_sz; rw [vsz.1, nI_clamp (by omega)]
    have wz : ∀ i, i < n → Mz.1 (17 + 2 * b + 1) i = M.1 (99 + 2 * a + 1) i := fun i hi => (k _ i (by omega)).trans (ew i hi)
    have nl : rg_nl Mz = b + 1 := by unfold rg_nl; rw [c64, nI_clamp (by omega)]
    have nt : rg_nt Mz = rg_nt M := by unfold rg_nt; rw [f 6 0 (by omega)]
    have sp : rg_sp Mz = rg_sp M := by unfold rg_sp; rw [f 6 1 (by omega)]
    have np : rg_np Mz = rg_np M := by unfold rg_np; rw [f 0 9 (by omega)]
    have no : rg_no Mz = 0 := by unfold rg_no; rw [c10]; rfl
    have z2 : Mz.2 432 0 = r1.toInt64 := by rw [← o, ez]; rfl
    refine ⟨by rw [ez, rg_Il (by omega), rg_Il (by omega), rg_Il (by omega), rg_Il (by omega), rg_Il (by omega), rg_Il (by omega), rm_cy_n (by omega), rm_get]; exact q, fun _ => by rw [z2, er, er2], ⟨I_w_k (rg_Inv_w h) (f 1 4 (by omega)) (f 412 4 (by omega)) (fun c hc => funext fun j => f c j (by omega)) (f2 5 (by omega)) (f2 416 (by omega)), I_p_k (rg_Inv_p h) (f 0 9 (by omega)) (f 412 5 (by omega)), ?_, I_t_k (rg_Inv_t h) (funext fun j => f 7 j (by omega)) (funext fun j => f 420 j (by omega)), I_d_k (rg_Inv_d h) (f 1 4 (by omega)) (fun c h1 h2 => funext fun j => f c j (by omega)) (funext fun j => f 90 j (by omega)) (funext fun j => f 91 j (by omega)) (f2 90 (by omega)) (f 412 20 (by omega)) (funext fun j => f 424 j (by omega)), ?_, ?_, I_c_k (rg_Inv_c h) (f 1 4 (by omega)) (f 0 11 (by omega)) (f 412 29 (by omega)) (fun c hc => funext fun j => f c j (by omega)), I_y_k (rg_Inv_y h) (f 0 12 (by omega)) (f 412 25 (by omega)), ?_⟩⟩
    · rw [I_s, nl, nt, sp, f 6 0 (by omega), f 6 1 (by omega), f 6 2 (by omega), f 6 3 (by omega), f 412 6 (by omega), f 412 7 (by omega), f 412 8 (by omega), f 412 9 (by omega), f 412 10 (by omega)]
      exact ⟨c64, by omega, hS.2.2.1, hS.2.2.2.1, hS.2.2.2.2.1, hS.2.2.2.2.2.1, by rw [m11, c64], hS.2.2.2.2.2.2.2.1, hS.2.2.2.2.2.2.2.2.1, hS.2.2.2.2.2.2.2.2.2.1, hS.2.2.2.2.2.2.2.2.2.2.1, hS.2.2.2.2.2.2.2.2.2.2.2⟩
    · refine ⟨funext fun j => ?_, fun l hl => ?_, fun i hi => ?_, fun j i hj hi => ?_⟩
      · by_cases c : j = b
        · rw [c, m419, v9]; exact hof.2.2.2.2
        · rw [f 419 j (by omega), f 9 j (by omega), (rg_Inv_v h).1]
      · by_cases c : l = b
        · subst c
          refine ⟨by rw [szv]; exact vsz, by rw [m418, vsz.1], fun i hi => ?_, ?_, by rw [m421, v10], by rw [m422, v11], fun j hj => ?_⟩
          · rw [szv] at hi
            rw [m417 i hi, wz i hi]
            exact hof.2.2.1 i (by omega)
          · obtain ⟨p, hp, ep⟩ := hof.2.2.2.1
            exact ⟨p, by omega, by rw [v9]; exact ep⟩
          · rw [vpt j hj, f 423 _ (by omega), ((rg_Inv_v h).2.2.2 j l hj (by omega)).1 (by omega)]
            rfl
        · have hl : l < rg_nl M := by omega
          exact I_v1_g (hv l hl) (rg_VS_k (hv l hl).1 (f 1 4 (by omega)) (fun c _ _ => funext fun j => f c j (by omega)) (funext fun j => f _ j (by omega)) (funext fun j => f _ j (by omega)) (f2 _ (by omega))) (funext fun j => f _ j (by omega)) (funext fun j => f _ j (by omega)) (Nat.le_of_eq np.symm) (f 9 l (by omega)) (f 418 l (by omega)) (fun k hk => f 417 _ (by omega)) (by rw [f 421 l (by omega), f 10 l (by omega)]; exact (hv l hl).2.2.2.2.1) (by rw [f 422 l (by omega), f 11 l (by omega)]; exact (hv l hl).2.2.2.2.2.1) (fun j hj => by rw [f (13 + j) l (by omega), f 423 _ (by omega)]; exact (hv l hl).2.2.2.2.2.2 j hj)
      · by_cases c : i = b
        · rw [c, m421, m422]; exact ⟨Or.inl rfl, Or.inl rfl⟩
        · rw [f 421 i (by omega), f 422 i (by omega)]; exact (rg_Inv_v h).2.2.1 i hi
      · rw [nl, f 423 _ (by omega)]
        have z := (rg_Inv_v h).2.2.2 j i hj hi
        exact ⟨fun w => z.1 (by omega), z.2⟩
    · exact ⟨by rw [no]; exact c10, by omega, by rw [m24, c10], fun z => absurd z (by omega), fun i hi => absurd hi (by omega)⟩
    · refine ⟨fun l hl => ?_, fun i hi => absurd hi (by omega)⟩
      by_cases c : l = b
      · subst c
        rw [szv]
        intro i j hij hj
        rw [wz i (by omega), wz j hj]
        exact (rg_Inv_z h).2 a ha i j hij (by omega)
      · unfold rg_sz
        rw [f (17 + 2 * l) 1 (by omega)]
        exact rg_di_k ((rg_Inv_z h).1 l (by omega)) (funext fun j => f _ j (by omega))
  · rw [em] at e2
    refine rg_ref h ?_ e2 (by decide)
    exact rm_go_1 (rg_b0 (fun q => hx.1 (by rw [← (rg_Inv_of h).2.2.1]; exact q)))
theorem pre_mend {M Mw : rg_Mem} {k : Int32} {x : Int32} {w : Int32} (h : rg_Inv M) (e1 : (fun k M1 => (k = 0 ∧ ∃ r M2, (fun r M1 => (((rg_hl M (nI (rg_nl M) - 1) ∧ ¬ rg_wp M (nI (rg_nl M) - 1) x = -1) ∧ rg_has M w) ∧ M.1 0 10 ≤ 0) ∧ ∃ M2, (rg_VS M2 92 (rg_sz M (17 + 2 * (rg_nl M - 1))) ∧ (∀ k, k < rg_sz M (17 + 2 * (rg_nl M - 1)) → M2.1 (92 + 1) k = if nI k = x then w else M.1 (17 + 2 * (rg_nl M - 1) + 1) k) ∧ rg_off M M2 92) ∧ ((∃ k, 1 ≤ k ∧ k ≤ 8 ∧ rg_f8 (rg_co M2 92 (rg_sz M (17 + 2 * (rg_nl M - 1))) (rg_nl M - 1) (rg_sp M) (-1)) 8 1 = nI k ∧ r = -nI k ∧ M1 = rg_I M2 0 12 (rg_co M2 92 (rg_sz M (17 + 2 * (rg_nl M - 1))) (rg_nl M - 1) (rg_sp M) (-1) k)) ∨ (rg_f8 (rg_co M2 92 (rg_sz M (17 + 2 * (rg_nl M - 1))) (rg_nl M - 1) (rg_sp M) (-1)) 8 1 = 0 ∧ r = 0 ∧ ∃ M3, (rg_VS M3 (17 + 2 * (rg_nl M - 1)) (rg_sz M (17 + 2 * (rg_nl M - 1))) ∧ (∀ k, k < rg_sz M (17 + 2 * (rg_nl M - 1)) → M3.1 (17 + 2 * (rg_nl M - 1) + 1) k = M2.1 (92 + 1) k) ∧ rg_off M2 M3 (17 + 2 * (rg_nl M - 1))) ∧ M1 = rg_I M3 11 (rg_nl M - 1) 1))) r M2 ∧ M1 = rg_J M2 432 0 r.toInt64) ∨ ((fun X => (¬ ((rg_hl M (nI (rg_nl M) - 1) ∧ ¬ rg_wp M (nI (rg_nl M) - 1) x = -1) ∧ rg_has M w) ∧ X = "java/lang/IndexOutOfBoundsException") ∨ (((rg_hl M (nI (rg_nl M) - 1) ∧ ¬ rg_wp M (nI (rg_nl M) - 1) x = -1) ∧ rg_has M w) ∧ ¬ (M.1 0 10 ≤ 0) ∧ X = "java/lang/IllegalStateException")) "java/lang/IndexOutOfBoundsException" ∧ k = 1 ∧ M1 = M) ∨ ((fun X => (¬ ((rg_hl M (nI (rg_nl M) - 1) ∧ ¬ rg_wp M (nI (rg_nl M) - 1) x = -1) ∧ rg_has M w) ∧ X = "java/lang/IndexOutOfBoundsException") ∨ (((rg_hl M (nI (rg_nl M) - 1) ∧ ¬ rg_wp M (nI (rg_nl M) - 1) x = -1) ∧ rg_has M w) ∧ ¬ (M.1 0 10 ≤ 0) ∧ X = "java/lang/IllegalStateException")) "java/lang/IllegalStateException" ∧ k = 2 ∧ M1 = M)) k Mw) : rm_CI Mw := by
  rcases e1 with ⟨_, r1, M2, hs, em⟩ | ⟨_, _, em⟩ | ⟨_, _, em⟩
  · have g : rg_mo M M2 := by
      obtain ⟨⟨⟨h1, h2⟩, h3⟩, M3, ⟨_, _, of⟩, hq⟩ := hs
      have n1 := rg_nl1 h h1.1
      have h36 := rg_Inv_36 h
      rcases hq with ⟨k, _, _, _, _, e3⟩ | ⟨_, _, M4, ⟨_, _, of4⟩, e3⟩
      · rw [e3]
        exact rg_mo_I (rg_mo_off rg_mo_rf of (by omega)) (by omega)
      · rw [e3]
        exact rg_mo_I (rg_mo_off (rg_mo_off rg_mo_rf of (by omega)) of4 (by omega)) (by omega)
    rw [em]
    exact rg_mo_mi h (rg_mo_o g)
  · rw [em]
    exact rg_mo_mi h rg_mo_rf
  · rw [em]
    exact rg_mo_mi h rg_mo_rf
theorem sim_mend {M Mw Mz : rg_Mem} {k r : Int32} {x : Int32} {w : Int32} (h : rg_Inv M) (e1 : (fun k M1 => (k = 0 ∧ ∃ r M2, (fun r M1 => (((rg_hl M (nI (rg_nl M) - 1) ∧ ¬ rg_wp M (nI (rg_nl M) - 1) x = -1) ∧ rg_has M w) ∧ M.1 0 10 ≤ 0) ∧ ∃ M2, (rg_VS M2 92 (rg_sz M (17 + 2 * (rg_nl M - 1))) ∧ (∀ k, k < rg_sz M (17 + 2 * (rg_nl M - 1)) → M2.1 (92 + 1) k = if nI k = x then w else M.1 (17 + 2 * (rg_nl M - 1) + 1) k) ∧ rg_off M M2 92) ∧ ((∃ k, 1 ≤ k ∧ k ≤ 8 ∧ rg_f8 (rg_co M2 92 (rg_sz M (17 + 2 * (rg_nl M - 1))) (rg_nl M - 1) (rg_sp M) (-1)) 8 1 = nI k ∧ r = -nI k ∧ M1 = rg_I M2 0 12 (rg_co M2 92 (rg_sz M (17 + 2 * (rg_nl M - 1))) (rg_nl M - 1) (rg_sp M) (-1) k)) ∨ (rg_f8 (rg_co M2 92 (rg_sz M (17 + 2 * (rg_nl M - 1))) (rg_nl M - 1) (rg_sp M) (-1)) 8 1 = 0 ∧ r = 0 ∧ ∃ M3, (rg_VS M3 (17 + 2 * (rg_nl M - 1)) (rg_sz M (17 + 2 * (rg_nl M - 1))) ∧ (∀ k, k < rg_sz M (17 + 2 * (rg_nl M - 1)) → M3.1 (17 + 2 * (rg_nl M - 1) + 1) k = M2.1 (92 + 1) k) ∧ rg_off M2 M3 (17 + 2 * (rg_nl M - 1))) ∧ M1 = rg_I M3 11 (rg_nl M - 1) 1))) r M2 ∧ M1 = rg_J M2 432 0 r.toInt64) ∨ ((fun X => (¬ ((rg_hl M (nI (rg_nl M) - 1) ∧ ¬ rg_wp M (nI (rg_nl M) - 1) x = -1) ∧ rg_has M w) ∧ X = "java/lang/IndexOutOfBoundsException") ∨ (((rg_hl M (nI (rg_nl M) - 1) ∧ ¬ rg_wp M (nI (rg_nl M) - 1) x = -1) ∧ rg_has M w) ∧ ¬ (M.1 0 10 ≤ 0) ∧ X = "java/lang/IllegalStateException")) "java/lang/IndexOutOfBoundsException" ∧ k = 1 ∧ M1 = M) ∨ ((fun X => (¬ ((rg_hl M (nI (rg_nl M) - 1) ∧ ¬ rg_wp M (nI (rg_nl M) - 1) x = -1) ∧ rg_has M w) ∧ X = "java/lang/IndexOutOfBoundsException") ∨ (((rg_hl M (nI (rg_nl M) - 1) ∧ ¬ rg_wp M (nI (rg_nl M) - 1) x = -1) ∧ rg_has M w) ∧ ¬ (M.1 0 10 ≤ 0) ∧ X = "java/lang/IllegalStateException")) "java/lang/IllegalStateException" ∧ k = 2 ∧ M1 = M)) k Mw) (e2 : (fun r M1 => (¬ rm_go (rg_b (¬ Mw.1 412 11 ≤ 0 ∧ rm_iw Mw w ∧ rm_in x 0 (Mw.1 418 (rm_nl Mw - 1) - 1))) (rg_b (Mw.1 412 24 = 0)) 1 = 0 ∧ r = 0 ∧ M1 = rg_I Mw 412 33 (rm_go (rg_b (¬ Mw.1 412 11 ≤ 0 ∧ rm_iw Mw w ∧ rm_in x 0 (Mw.1 418 (rm_nl Mw - 1) - 1))) (rg_b (Mw.1 412 24 = 0)) 1)) ∨ (rm_go (rg_b (¬ Mw.1 412 11 ≤ 0 ∧ rm_iw Mw w ∧ rm_in x 0 (Mw.1 418 (rm_nl Mw - 1) - 1))) (rg_b (Mw.1 412 24 = 0)) 1 = 0 ∧ ((¬ (rm_fo Mw (fun k => if k = x.toNatClampNeg then w else rm_w Mw (rm_nl Mw - 1) k) (rm_z Mw (rm_nl Mw - 1)) (rm_nl Mw - 1) (-1)).1 ≤ 0 ∧ r = -(rm_fo Mw (fun k => if k = x.toNatClampNeg then w else rm_w Mw (rm_nl Mw - 1) k) (rm_z Mw (rm_nl Mw - 1)) (rm_nl Mw - 1) (-1)).1 ∧ rm_wk (rg_I Mw 412 25 (rm_fo Mw (fun k => if k = x.toNatClampNeg then w else rm_w Mw (rm_nl Mw - 1) k) (rm_z Mw (rm_nl Mw - 1)) (rm_nl Mw - 1) (-1)).2) M1) ∨ ((rm_fo Mw (fun k => if k = x.toNatClampNeg then w else rm_w Mw (rm_nl Mw - 1) k) (rm_z Mw (rm_nl Mw - 1)) (rm_nl Mw - 1) (-1)).1 ≤ 0 ∧ r = 0 ∧ rm_wk (rg_I (rg_I Mw 417 (6 * (rm_nl Mw - 1) + x.toNatClampNeg) w) 422 (rm_nl Mw - 1) 1) M1)) ∧ M1.1 412 33 = 0)) r Mz) : Mz.1 412 33 = k ∧ (k = 0 → Mz.2 432 0 = r.toInt64) ∧ rg_Inv Mz := by
  rcases e1 with ⟨rfl, r1, M2, hs, em⟩ | ⟨hx, rfl, em⟩ | ⟨hx, rfl, em⟩
  · have g0 : rg_mo M Mw := by
      rw [em]
      refine rg_mo_o ?_
      exact by
        obtain ⟨⟨⟨h1, h2⟩, h3⟩, M3, ⟨_, _, of⟩, hq⟩ := hs
        have n1 := rg_nl1 h h1.1
        have h36 := rg_Inv_36 h
        rcases hq with ⟨k, _, _, _, _, e3⟩ | ⟨_, _, M4, ⟨_, _, of4⟩, e3⟩
        · rw [e3]
          exact rg_mo_I (rg_mo_off rg_mo_rf of (by omega)) (by omega)
        · rw [e3]
          exact rg_mo_I (rg_mo_off (rg_mo_off rg_mo_rf of (by omega)) of4 (by omega)) (by omega)
    obtain ⟨⟨⟨h1, h2⟩, h3⟩, N, ⟨vs, ew, of⟩, hq⟩ := hs
    have n1 := rg_nl1 h h1.1
    have mi := (rg_mend_i h).mp h1
    have E0 := rm_go_0 (rg_b1 (show ¬ Mw.1 412 11 ≤ 0 ∧ rm_iw Mw w ∧ rm_in x 0 (Mw.1 418 (rm_nl Mw - 1) - 1) by unfold rm_nl at mi ⊢; rw [g0.1 412 (by omega), g0.1 418 (by omega)]; exact ⟨mi.1, (rg_iw_g h g0).mpr h2, mi.2⟩)) (rg_b1 (show Mw.1 412 24 = 0 by rw [g0.1 412 (by omega)]; exact (rg_no_i h).mpr h3)) rg_n1
    rcases e2 with ⟨q, _⟩ | ⟨_, e2, z33⟩
    · exact absurd E0 q
    have o : Mw.2 432 0 = r1.toInt64 := by rw [em]; exact rg_J_same
    have eA : Mw.1 = M2.1 := by rw [em]; rfl
    have eB : ∀ c, c ≠ 432 → Mw.2 c = M2.2 c := fun c hc => by rw [em]; exact rg_J_cell hc
    obtain ⟨b, hb⟩ : ∃ b, b = rg_nl M - 1 := ⟨_, rfl⟩
    obtain ⟨n, hn⟩ : ∃ n, n = rg_sz M (17 + 2 * b) := ⟨_, rfl⟩
    rw [← hb, ← hn] at vs ew hq
    have h36 := rg_Inv_36 h
    have hvb := (rg_Inv_v h).2.1 b (by omega)
    have ml : rm_nl Mw - 1 = b := by rw [hb, ← rm_nl_i h]; unfold rm_nl; rw [g0.1 412 (by omega)]
    have mz : rm_z Mw b = n := by rw [hn, ← rm_z_i h (l := b) (by omega)]; unfold rm_z; rw [g0.1 418 (by omega)]
    have hn6 := vs.2.1
    have e8 : M.1 418 b = nI n := by rw [hvb.2.1, hvb.1.1, hn]
    rw [rm_nl_i h, ← hb, e8] at mi
    obtain ⟨xa, hxa, rfl⟩ := rm_in_le rfl (by omega) mi.2
    have ew : ∀ k, k < n → N.1 (92 + 1) k = if k = xa then w else M.1 417 (6 * b + k) := fun k hk => by
      rw [ew k hk, hvb.2.2.1 k (by omega)]
      by_cases c : k = xa
      · rw [if_pos c, if_pos (by rw [c])]
      · rw [if_neg c, if_neg (fun z => c ((nI_eq (by omega) (by omega)).mp z))]
    have wf : ∀ k, k < n → (fun k => if k = xa then w else rm_w Mw b k) k = N.1 (92 + 1) k := fun k hk => by
      rw [ew k hk]
      show (if k = xa then w else Mw.1 417 (6 * b + k)) = _
      rw [g0.1 417 (by omega)]
    have h9 : rg_Inv N := rg_Inv_same h (rg_same_off of)
    have g : rg_mo N Mw := ⟨fun c hc => by rw [(of c (by omega) (by omega)).1]; exact g0.1 c hc, fun c hc hc2 => by rw [(of c (by omega) (by omega)).2]; exact g0.2 c hc hc2⟩
    have nl9 : rg_nl N = rg_nl M := by unfold rg_nl; rw [(of 6 (by omega) (by omega)).1]
    have sp9 : rg_sp N = rg_sp M := by unfold rg_sp; rw [(of 6 (by omega) (by omega)).1]
    have sz9 : rg_sz N (17 + 2 * b) = n := by rw [hn]; unfold rg_sz; rw [(of (17 + 2 * b) (by omega) (by omega)).1]
    rw [ml, mz, nI_clamp (by omega), rg_mo_fo g, rm_fo_w (w := N.1 (92 + 1)) wf] at e2
    rw [rg_co_cq vs, ← sp9] at hq
    have F := rg_flt h9 (w := N.1 (92 + 1)) (n := n) (j := b) (po := -1) hn6 vs.2.2.1 (by omega) (by omega)
    have z2 : Mz.2 432 0 = Mw.2 432 0 := by
      rcases e2 with ⟨_, _, wk⟩ | ⟨_, _, wk⟩
      · exact congrFun (rg_wkn2 wk (by omega)) 0
      · exact congrFun (rg_wkn2 wk (by omega)) 0
    clear h1 mi hvb g0 E0
    have hM := h
    clear h
    have h := h9
    rcases hq with ⟨k, k1, k8, ek, er, e3⟩ | ⟨e0, er, M4, ⟨v4, e4, of4⟩, e3⟩
    · rcases e2 with ⟨c, er2, wk⟩ | ⟨c, er2, wk⟩
      · have f : ∀ c j, ¬ ((c = 0 ∧ j = 12) ∨ (c = 412 ∧ (j = 25 ∨ 31 ≤ j)) ∨ c = 431) → Mz.1 c j = N.1 c j := fun c j hc => by rw [rg_wkn wk (by omega), rg_Il (by omega), eA, e3, rg_Il (by omega)]
        have f2 : ∀ c, ¬ (c = 412 ∨ c = 431 ∨ c = 432) → Mz.2 c = N.2 c := fun c hc => (rg_wkn2 wk (by omega)).trans ((eB c (by omega)).trans (by rw [e3]; rfl))
        refine ⟨z33, fun _ => by rw [z2, o, er, er2, F.1, ek], ⟨I_w_k (rg_Inv_w h) (f 1 4 (by omega)) (f 412 4 (by omega)) (fun c hc => funext fun j => f c j (by omega)) (f2 5 (by omega)) (f2 416 (by omega)), I_p_k (rg_Inv_p h) (f 0 9 (by omega)) (f 412 5 (by omega)), I_s_k (rg_Inv_s h) (fun k hk => f 6 k (by omega)) (fun k h1 h2 => f 412 k (by omega)), I_t_k (rg_Inv_t h) (funext fun j => f 7 j (by omega)) (funext fun j => f 420 j (by omega)), I_d_k (rg_Inv_d h) (f 1 4 (by omega)) (fun c h1 h2 => funext fun j => f c j (by omega)) (funext fun j => f 90 j (by omega)) (funext fun j => f 91 j (by omega)) (f2 90 (by omega)) (f 412 20 (by omega)) (funext fun j => f 424 j (by omega)), I_v_k (rg_Inv_s h) (rg_Inv_v h) (f 6 4 (by omega)) (f 1 4 (by omega)) (f 0 9 (by omega)) (fun c hc => funext fun j => f c j (by omega)) (fun c c1 c2 => f2 c (by omega)), I_o_k (rg_Inv_of h) (fun k hk => f 6 k (by omega)) (f 1 4 (by omega)) (f 0 9 (by omega)) (f 0 10 (by omega)) (f 412 24 (by omega)) (fun c hc => funext fun j => f c j (by omega)) (fun c c1 c2 => f2 c (by omega)), I_c_k (rg_Inv_c h) (f 1 4 (by omega)) (f 0 11 (by omega)) (f 412 29 (by omega)) (fun c hc => funext fun j => f c j (by omega)), ?_, I_z_k (rg_Inv_s h) (rg_Inv_of h) (rg_Inv_z h) (f 6 4 (by omega)) (f 0 10 (by omega)) (fun c hc => funext fun j => f c j (by omega))⟩⟩
        unfold I_y
        rw [rg_wkn wk (by omega), rm_get, rg_wkn wk (by omega), rg_Il (by omega), eA, e3, rm_get]
        exact F.2 k k1 k8 ek
      · rw [F.1, ek] at c
        exact absurd c (nI_nle (by omega) (by omega))
    · rcases e2 with ⟨c, er2, wk⟩ | ⟨c, er2, wk⟩
      · rw [F.1, e0] at c
        exact absurd (show (0 : Int32) ≤ 0 by decide) c
      · have f : ∀ c j, ¬ (c = 17 + 2 * b ∨ c = 17 + 2 * b + 1 ∨ (c = 11 ∧ j = b) ∨ (c = 417 ∧ j = 6 * b + xa) ∨ (c = 422 ∧ j = b) ∨ (c = 412 ∧ 31 ≤ j) ∨ c = 431) → Mz.1 c j = N.1 c j := fun c j hc => by rw [rg_wkn wk (by omega), rg_Il (by omega), rg_Il (by omega), eA, e3, rg_Il (by omega), (of4 c (by omega) (by omega)).1]
        have k : ∀ c j, ¬ ((c = 11 ∧ j = b) ∨ 412 ≤ c) → Mz.1 c j = M4.1 c j := fun c j hc => by rw [rg_wkn wk (by omega), rg_Il (by omega), rg_Il (by omega), eA, e3, rg_Il (by omega)]
        have k2 : ∀ c, ¬ (c = 412 ∨ c = 431 ∨ c = 432) → Mz.2 c = M4.2 c := fun c hc => (rg_wkn2 wk (by omega)).trans ((show _ = Mw.2 c from rfl).trans ((eB c (by omega)).trans (by rw [e3]; rfl)))
        have f2 : ∀ c, ¬ (c = 17 + 2 * b ∨ c = 17 + 2 * b + 1 ∨ c = 412 ∨ c = 431 ∨ c = 432) → Mz.2 c = N.2 c := fun c hc => (k2 c (by omega)).trans (of4 c (by omega) (by omega)).2
        have m422 : Mz.1 422 b = 1 := by rw [rg_wkn wk (by omega), rm_get]
        have m417 : Mz.1 417 (6 * b + xa) = w := by rw [rg_wkn wk (by omega), rg_Il (by omega), rm_get]
        have v11 : Mz.1 11 b = 1 := by rw [rg_wkn wk (by omega), rg_Il (by omega), rg_Il (by omega), eA, e3, rm_get]
        have vsz : rg_VS Mz (17 + 2 * b) n := rg_VS_k v4 (k 1 4 (by omega)) (fun c _ _ => funext fun j => k c j (by omega)) (funext fun j => k _ j (by omega)) (funext fun j => k _ j (by omega)) (k2 _ (by omega))
        have szv : rg_sz Mz (17 + 2 * b) = n := by unfold rg_sz; rw [vsz.1, nI_clamp (by omega)]
        have wz : ∀ i, i < n → Mz.1 (17 + 2 * b + 1) i = N.1 (92 + 1) i := fun i hi => (k _ i (by omega)).trans (e4 i hi)
        have hv := (rg_Inv_v h).2.1
        have nl : rg_nl Mz = rg_nl N := by unfold rg_nl; rw [f 6 4 (by omega)]
        have np : rg_np Mz = rg_np N := by unfold rg_np; rw [f 0 9 (by omega)]
        have ho4 := (rg_Inv_of h).2.1
        have no : rg_no Mz = rg_no N := by unfold rg_no; rw [f 0 10 (by omega)]
        refine ⟨z33, fun _ => by rw [z2, o, er, er2], ⟨I_w_k (rg_Inv_w h) (f 1 4 (by omega)) (f 412 4 (by omega)) (fun c hc => funext fun j => f c j (by omega)) (f2 5 (by omega)) (f2 416 (by omega)), I_p_k (rg_Inv_p h) (f 0 9 (by omega)) (f 412 5 (by omega)), I_s_k (rg_Inv_s h) (fun k hk => f 6 k (by omega)) (fun k h1 h2 => f 412 k (by omega)), I_t_k (rg_Inv_t h) (funext fun j => f 7 j (by omega)) (funext fun j => f 420 j (by omega)), I_d_k (rg_Inv_d h) (f 1 4 (by omega)) (fun c h1 h2 => funext fun j => f c j (by omega)) (funext fun j => f 90 j (by omega)) (funext fun j => f 91 j (by omega)) (f2 90 (by omega)) (f 412 20 (by omega)) (funext fun j => f 424 j (by omega)), ?_, I_o_k (rg_Inv_of h) (fun k hk => f 6 k (by omega)) (f 1 4 (by omega)) (f 0 9 (by omega)) (f 0 10 (by omega)) (f 412 24 (by omega)) (fun c hc => funext fun j => f c j (by omega)) (fun c c1 c2 => f2 c (by omega)), I_c_k (rg_Inv_c h) (f 1 4 (by omega)) (f 0 11 (by omega)) (f 412 29 (by omega)) (fun c hc => funext fun j => f c j (by omega)), I_y_k (rg_Inv_y h) (f 0 12 (by omega)) (f 412 25 (by omega)), ?_⟩⟩
        · refine ⟨(funext fun j => f 419 j (by omega)).trans ((rg_Inv_v h).1.trans (funext fun j => (f 9 j (by omega)).symm)), fun l hl => ?_, fun i hi => ?_, fun j i hj hi => ?_⟩
          · by_cases c : l = b
            · subst c
              have z := hv l (by omega)
              refine ⟨by rw [szv]; exact vsz, ?_, fun i hi => ?_, ?_, ?_, by rw [m422, v11], fun j hj => ?_⟩
              · rw [f 418 l (by omega), z.2.1, z.1.1, vsz.1, sz9]
              · rw [szv] at hi
                rw [wz i hi, ew i hi]
                by_cases d : i = xa
                · rw [if_pos d, d, m417]
                · rw [if_neg d, f 417 _ (by omega), (of 417 (by omega) (by omega)).1]
              · rw [f 9 l (by omega), np]
                exact z.2.2.2.1
              · rw [f 421 l (by omega), f 10 l (by omega)]
                exact z.2.2.2.2.1
              · rw [f (13 + j) l (by omega), f 423 _ (by omega)]
                exact z.2.2.2.2.2.2 j hj
            · have hl : l < rg_nl N := by omega
              exact I_v1_g (hv l hl) (rg_VS_k (hv l hl).1 (f 1 4 (by omega)) (fun c _ _ => funext fun j => f c j (by omega)) (funext fun j => f _ j (by omega)) (funext fun j => f _ j (by omega)) (f2 _ (by omega))) (funext fun j => f _ j (by omega)) (funext fun j => f _ j (by omega)) (Nat.le_of_eq np.symm) (f 9 l (by omega)) (f 418 l (by omega)) (fun k hk => f 417 _ (by omega)) (by rw [f 421 l (by omega), f 10 l (by omega)]; exact (hv l hl).2.2.2.2.1) (by rw [f 422 l (by omega), f 11 l (by omega)]; exact (hv l hl).2.2.2.2.2.1) (fun j hj => by rw [f (13 + j) l (by omega), f 423 _ (by omega)]; exact (hv l hl).2.2.2.2.2.2 j hj)
          · have z := (rg_Inv_v h).2.2.1 i hi
            rw [f 421 i (by omega)]
            by_cases c : i = b
            · rw [c, m422]
              rw [c] at z
              exact ⟨z.1, Or.inr rfl⟩
            · rw [f 422 i (by omega)]; exact z
          · rw [nl, f 423 _ (by omega)]
            exact (rg_Inv_v h).2.2.2 j i hj hi
        · refine ⟨fun l hl => ?_, fun i hi => ?_⟩
          · by_cases c : l = b
            · subst c
              rw [szv]
              intro i j hij hj
              rw [wz i (by omega), wz j hj]
              exact rg_di_q h hn6 vs.2.2.1 e0 i j hij hj
            · unfold rg_sz
              rw [f (17 + 2 * l) 1 (by omega)]
              exact rg_di_k ((rg_Inv_z h).1 l (by omega)) (funext fun j => f _ j (by omega))
          · unfold rg_sz
            rw [f (99 + 2 * i) 1 (by omega)]
            exact rg_di_k ((rg_Inv_z h).2 i (by omega)) (funext fun j => f _ j (by omega))
  · rw [em] at e2
    refine rg_ref h ?_ e2 (by decide)
    refine rm_go_1 (rg_b0 (fun q => rg_x2a hx rg_s2 ⟨?_, (rm_iw_i h).mp q.2.1⟩))
    exact (rg_mend_i h).mpr ⟨q.1, q.2.2⟩
  · rw [em] at e2
    refine rg_ref h ?_ e2 (by decide)
    have z := rg_x2b hx rg_s2.symm
    have mi := (rg_mend_i h).mp z.1.1
    exact rm_go_2 (rg_b1 ⟨mi.1, (rm_iw_i h).mpr z.1.2, mi.2⟩) (rg_b0 (fun q => z.2 ((rg_no_i h).mp q)))
theorem pre_copy {M Mw : rg_Mem} {k : Int32} {t : Int32} (h : rg_Inv M) (e1 : (fun k M1 => (k = 0 ∧ ∃ r M2, ((fun r => (rg_tx M t ∧ (¬ M.1 6 0 ≤ 0 ∧ M.1 0 11 < 8)) ∧ r = M.1 0 11) r ∧ M2 = rg_I (rg_fil M (rg_nc M) t 36 0) 0 11 (nI (rg_nc M + 1))) ∧ M1 = rg_J M2 432 0 r.toInt64) ∨ ((fun X => (¬ (rg_tx M t) ∧ X = "java/lang/IndexOutOfBoundsException") ∨ ((rg_tx M t) ∧ ¬ (¬ M.1 6 0 ≤ 0 ∧ M.1 0 11 < 8) ∧ X = "java/lang/IllegalStateException")) "java/lang/IndexOutOfBoundsException" ∧ k = 1 ∧ M1 = M) ∨ ((fun X => (¬ (rg_tx M t) ∧ X = "java/lang/IndexOutOfBoundsException") ∨ ((rg_tx M t) ∧ ¬ (¬ M.1 6 0 ≤ 0 ∧ M.1 0 11 < 8) ∧ X = "java/lang/IllegalStateException")) "java/lang/IllegalStateException" ∧ k = 2 ∧ M1 = M)) k Mw) : rm_CI Mw := by
  rcases e1 with ⟨_, r1, M2, hs, em⟩ | ⟨_, _, em⟩ | ⟨_, _, em⟩
  · have g : rg_mo M M2 := by
      obtain ⟨⟨⟨_, _, h3⟩, _⟩, e3⟩ := hs
      have n8 := rg_nc8 h h3
      rw [e3]
      exact rg_mo_I (rg_mo_fil rg_mo_rf n8) (by omega)
    rw [em]
    exact rg_mo_mi h (rg_mo_o g)
  · rw [em]
    exact rg_mo_mi h rg_mo_rf
  · rw [em]
    exact rg_mo_mi h rg_mo_rf
theorem sim_copy {M Mw Mz : rg_Mem} {k r : Int32} {t : Int32} (h : rg_Inv M) (e1 : (fun k M1 => (k = 0 ∧ ∃ r M2, ((fun r => (rg_tx M t ∧ (¬ M.1 6 0 ≤ 0 ∧ M.1 0 11 < 8)) ∧ r = M.1 0 11) r ∧ M2 = rg_I (rg_fil M (rg_nc M) t 36 0) 0 11 (nI (rg_nc M + 1))) ∧ M1 = rg_J M2 432 0 r.toInt64) ∨ ((fun X => (¬ (rg_tx M t) ∧ X = "java/lang/IndexOutOfBoundsException") ∨ ((rg_tx M t) ∧ ¬ (¬ M.1 6 0 ≤ 0 ∧ M.1 0 11 < 8) ∧ X = "java/lang/IllegalStateException")) "java/lang/IndexOutOfBoundsException" ∧ k = 1 ∧ M1 = M) ∨ ((fun X => (¬ (rg_tx M t) ∧ X = "java/lang/IndexOutOfBoundsException") ∨ ((rg_tx M t) ∧ ¬ (¬ M.1 6 0 ≤ 0 ∧ M.1 0 11 < 8) ∧ X = "java/lang/IllegalStateException")) "java/lang/IllegalStateException" ∧ k = 2 ∧ M1 = M)) k Mw) (e2 : (fun r M1 => (¬ rm_go (rg_b (rm_tx Mw t)) (rg_b (¬ Mw.1 412 6 = 0 ∧ ¬ 8 ≤ Mw.1 412 29)) 1 = 0 ∧ r = 0 ∧ M1 = rg_I Mw 412 33 (rm_go (rg_b (rm_tx Mw t)) (rg_b (¬ Mw.1 412 6 = 0 ∧ ¬ 8 ≤ Mw.1 412 29)) 1)) ∨ (rm_go (rg_b (rm_tx Mw t)) (rg_b (¬ Mw.1 412 6 = 0 ∧ ¬ 8 ≤ Mw.1 412 29)) 1 = 0 ∧ r = nI (rm_nc Mw) ∧ ∃ M2 n, rm_lo Mw t = nI n ∧ n ≤ 36 ∧ rm_cq Mw M2 ∧ rm_cw Mw (rm_nc Mw) t M2 n ∧ M2.1 412 33 = 0 ∧ M1 = rg_I M2 412 29 (nI (rm_nc Mw + 1)))) r Mz) : Mz.1 412 33 = k ∧ (k = 0 → Mz.2 432 0 = r.toInt64) ∧ rg_Inv Mz := by
  rcases e1 with ⟨rfl, r1, M2, ⟨⟨⟨h1, h2, h3⟩, er⟩, e3⟩, em⟩ | ⟨hx, rfl, em⟩ | ⟨hx, rfl, em⟩
  · have n8 := rg_nc8 h h3
    have g : rg_mo M Mw := by
      rw [em, e3]
      exact rg_mo_o (rg_mo_I (rg_mo_fil rg_mo_rf n8) (by omega))
    have hC := rg_Inv_c h
    have E0 := rm_go_0 (rg_b1 ((rg_tx_g h g).mpr h1)) (rg_b1 (show ¬ Mw.1 412 6 = 0 ∧ ¬ 8 ≤ Mw.1 412 29 by rw [g.1 412 (by omega), hC.2.2.1]; exact ⟨(rg_beg_i h).mp h2, rg_nle.mpr h3⟩)) rg_n1
    rcases e2 with ⟨q, _⟩ | ⟨_, er2, X, n, lo, hn36, cq, cw, z33, ez⟩
    · exact absurd E0 q
    have o : Mw.2 432 0 = r1.toInt64 := by rw [em]; exact rg_J_same
    have eA : Mw.1 = M2.1 := by rw [em]; rfl
    have eB : ∀ c, c ≠ 432 → Mw.2 c = M2.2 c := fun c hc => by rw [em]; exact rg_J_cell hc
    obtain ⟨p, hp⟩ : ∃ p, p = rg_nc M := ⟨_, rfl⟩
    have mn : rm_nc Mw = p := by rw [hp, ← rm_nc_i h]; unfold rm_nc; rw [g.1 412 (by omega)]
    rw [mn] at er2 cw ez
    rw [← hp] at e3 n8
    have f : ∀ c j, ¬ ((c = 0 ∧ j = 11) ∨ (110 + 38 * p ≤ c ∧ c < 146 + 38 * p) ∨ (c = 412 ∧ (j = 29 ∨ 31 ≤ j)) ∨ (c = 428 ∧ 216 * p ≤ j) ∨ (c = 429 ∧ 36 * p ≤ j) ∨ (c = 430 ∧ p ≤ j) ∨ c = 431) → Mz.1 c j = M.1 c j := fun c j hc => by rw [ez, rg_Il (by omega), rg_cqn cq mn (by omega), eA, e3, rg_Il (by omega), rg_fil_n (by omega)]
    have f2 : ∀ c, ¬ (c = 412 ∨ c = 428 ∨ c = 429 ∨ c = 430 ∨ c = 431 ∨ c = 432) → Mz.2 c = M.2 c := fun c hc => (show Mz.2 c = X.2 c by rw [ez]; rfl).trans ((cq.1 c (by omega) (by omega) (by omega) (by omega) (by omega)).2.trans ((eB c (by omega)).trans (by rw [e3]; rfl)))
    have z2 : Mz.2 432 0 = Mw.2 432 0 := (show Mz.2 432 0 = X.2 432 0 by rw [ez]; rfl).trans (congrFun (cq.1 432 (by omega) (by omega) (by omega) (by omega) (by omega)).2 0)
    have m29 : Mz.1 412 29 = nI (p + 1) := by rw [ez, rm_get]
    have c11 : Mz.1 0 11 = nI (p + 1) := by rw [ez, rg_Il (by omega), rg_cqn cq mn (by omega), eA, e3, rm_get]
    have nc : rg_nc Mz = p + 1 := by unfold rg_nc; rw [c11, nI_clamp (by omega)]
    have hm : ∀ u, rg_has M u → rg_has Mz u := fun u hu => ⟨hu.1, by rw [f 1 4 (by omega)]; exact hu.2⟩
    refine ⟨by rw [ez, rg_Il (by omega)]; exact z33, fun _ => by rw [z2, o, er, er2, hC.1, ← hp], ⟨I_w_k (rg_Inv_w h) (f 1 4 (by omega)) (f 412 4 (by omega)) (fun c hc => funext fun j => f c j (by omega)) (f2 5 (by omega)) (f2 416 (by omega)), I_p_k (rg_Inv_p h) (f 0 9 (by omega)) (f 412 5 (by omega)), I_s_k (rg_Inv_s h) (fun k hk => f 6 k (by omega)) (fun k h1 h2 => f 412 k (by omega)), I_t_k (rg_Inv_t h) (funext fun j => f 7 j (by omega)) (funext fun j => f 420 j (by omega)), I_d_k (rg_Inv_d h) (f 1 4 (by omega)) (fun c h1 h2 => funext fun j => f c j (by omega)) (funext fun j => f 90 j (by omega)) (funext fun j => f 91 j (by omega)) (f2 90 (by omega)) (f 412 20 (by omega)) (funext fun j => f 424 j (by omega)), I_v_k (rg_Inv_s h) (rg_Inv_v h) (f 6 4 (by omega)) (f 1 4 (by omega)) (f 0 9 (by omega)) (fun c hc => funext fun j => f c j (by omega)) (fun c c1 c2 => f2 c (by omega)), I_o_k (rg_Inv_of h) (fun k hk => f 6 k (by omega)) (f 1 4 (by omega)) (f 0 9 (by omega)) (f 0 10 (by omega)) (f 412 24 (by omega)) (fun c hc => funext fun j => f c j (by omega)) (fun c c1 c2 => f2 c (by omega)), ?_, I_y_k (rg_Inv_y h) (f 0 12 (by omega)) (f 412 25 (by omega)), I_z_k (rg_Inv_s h) (rg_Inv_of h) (rg_Inv_z h) (f 6 4 (by omega)) (f 0 10 (by omega)) (fun c hc => funext fun j => f c j (by omega))⟩⟩
    refine ⟨by rw [nc]; exact c11, by omega, by rw [m29, c11], fun c hc => ?_⟩
    by_cases d : c = p
    · subst d
      have hmi := rg_Inv_mi h
      have hmt : rm_tx M t := (rg_tx_i h).mpr h1
      rw [rm_lo_g g] at lo
      have m430 : Mz.1 430 c = nI n := by rw [ez, rg_Il (by omega), cw.1, rm_lo_g g, lo]
      have cl : rm_cl Mz c = n := by unfold rm_cl; rw [m430, nI_clamp (by omega)]
      rw [I_c1, cl]
      refine ⟨⟨m430, hn36⟩, fun x hx => ?_⟩
      obtain ⟨m, hm2, hm6⟩ := rm_so_n hmi hmt hx
      have m429 : x < n → Mz.1 429 (36 * c + x) = nI m := fun hxn => by rw [ez, rg_Il (by omega), (cw.2 x hxn).1, rm_so_g g, hm2]
      have cz : x < n → rm_cz Mz c x = m := fun hxn => by unfold rm_cz; rw [m429 hxn, nI_clamp (by omega)]
      refine ⟨fun hxn => by rw [cz hxn]; exact ⟨m429 hxn, hm6⟩, fun y hy => ?_⟩
      have cell : Mz.1 (110 + 38 * c + x) y = rg_tw M t (nI x) (nI y) := by rw [ez, rg_Il (by omega), rg_cqn cq mn (by omega), eA, e3, rg_Il (by omega), rg_fil_y hx hy]
      have tw := rg_tw_i h h1 hx hy
      have fh : rm_fh M t x y ↔ (x < n ∧ y < rm_cz Mz c x) := by
        unfold rm_fh
        constructor
        · intro z
          have hxn : x < n := by
            rcases Nat.lt_or_ge x n with w | w
            · exact w
            · exfalso
              unfold rm_so at z
              rw [lo, if_neg (nI_nlt w (by omega))] at z
              exact z (nI_pos' (by omega))
          refine ⟨hxn, ?_⟩
          rw [cz hxn]
          rw [hm2] at z
          rcases Nat.lt_or_ge y m with w | w
          · exact w
          · exact absurd (nI_le w (by omega)) z
        · rintro ⟨z1, z2⟩
          rw [cz z1] at z2
          rw [hm2]
          exact nI_ge z2 (by omega)
      refine ⟨fun z => ?_, fun z => by rw [cell]; exact tw.2 (fun w => z (fh.mp w))⟩
      have w := tw.1 (fh.mpr z)
      have z3 := z.2
      rw [cz z.1] at z3
      have m428 : Mz.1 428 (216 * c + 6 * x + y) = rm_wo M t x y := by rw [ez, rg_Il (by omega), (cw.2 x z.1).2 y (by rw [rm_so_g g, hm2]; exact nI_lt z3 (by omega)) hy, rm_wo_g g]
      rw [cell, m428, w.1]
      exact ⟨rfl, hm _ w.2⟩
    · have hc : c < rg_nc M := by omega
      exact I_c1_g (hC.2.2.2 c hc) hm (f 430 c (by omega)) (fun x hx => f 429 _ (by omega)) (fun x y hx hy => Or.inl ⟨f _ y (by omega), f 428 _ (by omega)⟩)
  · rw [em] at e2
    refine rg_ref h ?_ e2 (by decide)
    exact rm_go_1 (rg_b0 (fun q => rg_x2a hx rg_s2 ((rg_tx_i h).mp q)))
  · rw [em] at e2
    refine rg_ref h ?_ e2 (by decide)
    have z := rg_x2b hx rg_s2.symm
    exact rm_go_2 (rg_b1 ((rg_tx_i h).mpr z.1)) (rg_b0 (fun q => z.2 ⟨(rg_beg_i h).mpr q.1, by rw [← (rg_Inv_c h).2.2.1]; exact rg_nle.mp q.2⟩))
