theorem pre_word {M Mw : rg_Mem} {k : Int32} {a : Int32} {b : Int32} {d : Int32} (h : rg_Inv M) (e1 : (fun k M1 => (k = 0 ∧ ∃ r M2, ((fun r => ((rg_in a 1 12 ∧ rg_in b (-1) 3 ∧ rg_in d 0 1023) ∧ ¬ 40 ≤ M.1 1 4) ∧ r = M.1 1 4) r ∧ M2 = rg_I (rg_I (rg_I (rg_I M 2 (rg_nw M) a) 3 (rg_nw M) b) 4 (rg_nw M) d) 1 4 (nI (rg_nw M + 1))) ∧ M1 = rg_J M2 432 0 r.toInt64) ∨ ((fun X => (¬ (rg_in a 1 12 ∧ rg_in b (-1) 3 ∧ rg_in d 0 1023) ∧ X = "java/lang/IllegalArgumentException") ∨ ((rg_in a 1 12 ∧ rg_in b (-1) 3 ∧ rg_in d 0 1023) ∧ ¬ (¬ 40 ≤ M.1 1 4) ∧ X = "java/lang/IllegalStateException")) "java/lang/IllegalArgumentException" ∧ k = 1 ∧ M1 = M) ∨ ((fun X => (¬ (rg_in a 1 12 ∧ rg_in b (-1) 3 ∧ rg_in d 0 1023) ∧ X = "java/lang/IllegalArgumentException") ∨ ((rg_in a 1 12 ∧ rg_in b (-1) 3 ∧ rg_in d 0 1023) ∧ ¬ (¬ 40 ≤ M.1 1 4) ∧ X = "java/lang/IllegalStateException")) "java/lang/IllegalStateException" ∧ k = 2 ∧ M1 = M)) k Mw) : rm_CI Mw := by
  rcases e1 with ⟨_, r1, M2, hs, em⟩ | ⟨_, _, em⟩ | ⟨_, _, em⟩
  · have g : rg_mo M M2 := by rw [hs.2]; exact rg_mo_I (rg_mo_I (rg_mo_I (rg_mo_I rg_mo_rf (by omega)) (by omega)) (by omega)) (by omega)
    rw [em]
    exact rg_mo_mi h (rg_mo_o g)
  · rw [em]
    exact rg_mo_mi h rg_mo_rf
  · rw [em]
    exact rg_mo_mi h rg_mo_rf
theorem sim_word {M Mw Mz : rg_Mem} {k r : Int32} {a : Int32} {b : Int32} {d : Int32} (h : rg_Inv M) (e1 : (fun k M1 => (k = 0 ∧ ∃ r M2, ((fun r => ((rg_in a 1 12 ∧ rg_in b (-1) 3 ∧ rg_in d 0 1023) ∧ ¬ 40 ≤ M.1 1 4) ∧ r = M.1 1 4) r ∧ M2 = rg_I (rg_I (rg_I (rg_I M 2 (rg_nw M) a) 3 (rg_nw M) b) 4 (rg_nw M) d) 1 4 (nI (rg_nw M + 1))) ∧ M1 = rg_J M2 432 0 r.toInt64) ∨ ((fun X => (¬ (rg_in a 1 12 ∧ rg_in b (-1) 3 ∧ rg_in d 0 1023) ∧ X = "java/lang/IllegalArgumentException") ∨ ((rg_in a 1 12 ∧ rg_in b (-1) 3 ∧ rg_in d 0 1023) ∧ ¬ (¬ 40 ≤ M.1 1 4) ∧ X = "java/lang/IllegalStateException")) "java/lang/IllegalArgumentException" ∧ k = 1 ∧ M1 = M) ∨ ((fun X => (¬ (rg_in a 1 12 ∧ rg_in b (-1) 3 ∧ rg_in d 0 1023) ∧ X = "java/lang/IllegalArgumentException") ∨ ((rg_in a 1 12 ∧ rg_in b (-1) 3 ∧ rg_in d 0 1023) ∧ ¬ (¬ 40 ≤ M.1 1 4) ∧ X = "java/lang/IllegalStateException")) "java/lang/IllegalStateException" ∧ k = 2 ∧ M1 = M)) k Mw) (e2 : (fun r M1 => (¬ rm_go (rg_b (rm_in a 1 12 ∧ rm_in b (-1) 3 ∧ rm_in d 0 1023)) (rg_b (¬ 40 ≤ Mw.1 412 4)) 1 = 0 ∧ r = 0 ∧ M1 = rg_I Mw 412 33 (rm_go (rg_b (rm_in a 1 12 ∧ rm_in b (-1) 3 ∧ rm_in d 0 1023)) (rg_b (¬ 40 ≤ Mw.1 412 4)) 1)) ∨ (rm_go (rg_b (rm_in a 1 12 ∧ rm_in b (-1) 3 ∧ rm_in d 0 1023)) (rg_b (¬ 40 ≤ Mw.1 412 4)) 1 = 0 ∧ r = nI (rm_nw Mw) ∧ M1 = rg_I (rg_I (rg_I (rg_I (rg_I Mw 412 33 (rm_go (rg_b (rm_in a 1 12 ∧ rm_in b (-1) 3 ∧ rm_in d 0 1023)) (rg_b (¬ 40 ≤ Mw.1 412 4)) 1)) 413 (rm_nw Mw) a) 414 (rm_nw Mw) b) 415 (rm_nw Mw) d) 412 4 (nI (rm_nw Mw + 1)))) r Mz) : Mz.1 412 33 = k ∧ (k = 0 → Mz.2 432 0 = r.toInt64) ∧ rg_Inv Mz := by
  rcases e1 with ⟨rfl, r1, M2, ⟨⟨⟨⟨h1, h2, h3⟩, h4⟩, er⟩, e3⟩, em⟩ | ⟨hx, rfl, em⟩ | ⟨hx, rfl, em⟩
  · have g : rg_mo M Mw := by rw [em, e3]; exact rg_mo_o (rg_mo_I (rg_mo_I (rg_mo_I (rg_mo_I rg_mo_rf (by omega)) (by omega)) (by omega)) (by omega))
    rcases e2 with ⟨q, _⟩ | ⟨q, er2, ez⟩
    · exact absurd (rm_go_0 (rg_b1 ⟨rg_in_rm.mp h1, rg_in_rm.mp h2, rg_in_rm.mp h3⟩) (rg_b1 (by rw [g.1 412 (by omega), (rg_Inv_w h).2.2.1]; exact h4)) rg_n1) q
    have o : Mw.2 432 0 = r1.toInt64 := by rw [em]; exact rg_J_same

    have hW := rg_Inv_w h
    obtain ⟨n, hn⟩ : ∃ n, n = rg_nw M := ⟨_, rfl⟩
    have mw : rm_nw Mw = n := by rw [hn, ← rm_nw_i h]; unfold rm_nw; rw [g.1 412 (by omega)]
    rw [← hn] at e3
    rw [mw] at ez er2
    have eA : Mw.1 = M2.1 := by rw [em]; rfl
    have eB : ∀ c, c ≠ 432 → Mw.2 c = M2.2 c := fun c hc => by rw [em]; exact rg_J_cell hc
    have f : ∀ c j, ¬ (((c = 2 ∨ c = 3 ∨ c = 4) ∧ j = n) ∨ (c = 1 ∧ j = 4) ∨ ((413 ≤ c ∧ c ≤ 415) ∧ j = n) ∨ (c = 412 ∧ (j = 4 ∨ j = 33))) → Mz.1 c j = M.1 c j := fun c j hc => by rw [ez, rg_Il (by omega), rg_Il (by omega), rg_Il (by omega), rg_Il (by omega), rg_Il (by omega), eA, e3, rg_Il (by omega), rg_Il (by omega), rg_Il (by omega), rg_Il (by omega)]
    have f2 : ∀ c, ¬ (c = 432) → Mz.2 c = M.2 c := fun c hc => (show Mz.2 c = Mw.2 c by rw [ez]; rfl).trans ((eB c (by omega)).trans ((show M2.2 c = M.2 c by rw [e3]; rfl)))
    have hv := (rg_Inv_v h).2.1
    have h36 := rg_Inv_36 h
    have ho := rg_Inv_of h
    have hd := rg_Inv_d h
    have hC := rg_Inv_c h
    have hci := rg_Inv_ci h
    have nl : rg_nl Mz = rg_nl M := by unfold rg_nl; rw [f 6 4 (by omega)]
    have nt : rg_nt Mz = rg_nt M := by unfold rg_nt; rw [f 6 0 (by omega)]
    have no : rg_no Mz = rg_no M := by unfold rg_no; rw [f 0 10 (by omega)]
    have nc : rg_nc Mz = rg_nc M := by unfold rg_nc; rw [f 0 11 (by omega)]
    have sz : rg_sz Mz 90 = rg_sz M 90 := by unfold rg_sz; rw [f 90 1 (by omega)]
    have ho4 := ho.2.1
    have hc8 := hC.2.1

    have n40 : n < 40 := by
      have h7 := hW.2.1
      rw [hW.1] at h4
      rcases Nat.lt_or_ge n 40 with c | c
      · exact c
      · exact absurd (nI_le (a := 40) (by omega) (by omega)) h4
    have v1 : Mz.1 1 4 = nI (n + 1) := by rw [ez, rg_Il (by omega), rg_Il (by omega), rg_Il (by omega), rg_Il (by omega), rg_Il (by omega), eA, e3, rm_get]
    have v2 : Mz.1 2 n = a := by rw [ez, rg_Il (by omega), rg_Il (by omega), rg_Il (by omega), rg_Il (by omega), rg_Il (by omega), eA, e3, rg_Il (by omega), rg_Il (by omega), rg_Il (by omega), rm_get]
    have v3 : Mz.1 3 n = b := by rw [ez, rg_Il (by omega), rg_Il (by omega), rg_Il (by omega), rg_Il (by omega), rg_Il (by omega), eA, e3, rg_Il (by omega), rg_Il (by omega), rm_get]
    have v4 : Mz.1 4 n = d := by rw [ez, rg_Il (by omega), rg_Il (by omega), rg_Il (by omega), rg_Il (by omega), rg_Il (by omega), eA, e3, rg_Il (by omega), rm_get]
    have w1 : Mz.1 412 4 = nI (n + 1) := by rw [ez, rm_get]
    have w2 : Mz.1 413 n = a := by rw [ez, rg_Il (by omega), rg_Il (by omega), rg_Il (by omega), rm_get]
    have w3 : Mz.1 414 n = b := by rw [ez, rg_Il (by omega), rg_Il (by omega), rm_get]
    have w4 : Mz.1 415 n = d := by rw [ez, rg_Il (by omega), rm_get]
    have nw : rg_nw Mz = n + 1 := by unfold rg_nw; rw [v1, nI_clamp (by omega)]
    have np : rg_np M ≤ rg_np Mz := Nat.le_of_eq (by unfold rg_np; rw [f 0 9 (by omega)])
    have hm : ∀ u, rg_has M u → rg_has Mz u := fun u hu => by
      obtain ⟨x, hx, hx40, rfl⟩ := rg_hasN hci hu
      exact ⟨hu.1, by rw [v1]; exact nI_ge (by omega) (by omega)⟩
    have fr : ∀ c, 2 ≤ c → c ≤ 4 → ∀ w, w < rg_nw M → Mz.1 c w = M.1 c w := fun c h1 h2 w hw => f c w (by omega)
    have z2 : Mz.2 432 0 = r1.toInt64 := by rw [← o, ez]; rfl
    refine ⟨by rw [ez, rg_Il (by omega), rg_Il (by omega), rg_Il (by omega), rg_Il (by omega), rm_get]; exact q, fun _ => by rw [z2, er, er2, hn]; exact congrArg _ hW.1, ⟨?_, I_p_k (rg_Inv_p h) (f 0 9 (by omega)) (f 412 5 (by omega)), I_s_k (rg_Inv_s h) (fun k hk => f 6 k (by omega)) (fun k h1 h2 => f 412 k (by omega)), I_t_k (rg_Inv_t h) (funext fun j => f 7 j (by omega)) (funext fun j => f 420 j (by omega)), ⟨by rw [sz]; exact rg_VS_w hci hd.1 hm fr (funext fun j => f _ j (by omega)) (funext fun j => f _ j (by omega)) (f2 _ (by omega)), by rw [f 412 20 (by omega), f 90 1 (by omega)]; exact hd.2.1, fun k hk => by rw [f 424 k (by omega), f 91 k (by omega)]; exact hd.2.2 k (by omega)⟩, ⟨(funext fun j => f 419 j (by omega)).trans ((rg_Inv_v h).1.trans (funext fun j => (f 9 j (by omega)).symm)), fun l hl => have hl : l < rg_nl M := (by omega); I_v1_g (hv l hl) (rg_VS_w hci (hv l hl).1 hm fr (funext fun j => f _ j (by omega)) (funext fun j => f _ j (by omega)) (f2 _ (by omega))) (funext fun j => f _ j (by omega)) (funext fun j => f _ j (by omega)) np (f 9 l (by omega)) (f 418 l (by omega)) (fun k hk => f 417 _ (by omega)) (by rw [f 421 l (by omega), f 10 l (by omega)]; exact (hv l hl).2.2.2.2.1) (by rw [f 422 l (by omega), f 11 l (by omega)]; exact (hv l hl).2.2.2.2.2.1) (fun j hj => by rw [f (13 + j) l (by omega), f 423 _ (by omega)]; exact (hv l hl).2.2.2.2.2.2 j hj), fun k hk => by rw [f 421 k (by omega), f 422 k (by omega)]; exact (rg_Inv_v h).2.2.1 k hk, fun j k hj hk => by rw [nl, f 423 _ (by omega)]; exact (rg_Inv_v h).2.2.2 j k hj hk⟩, ⟨by rw [no, f 0 10 (by omega)]; exact ho.1, by rw [no]; exact ho.2.1, by rw [f 412 24 (by omega), f 0 10 (by omega)]; exact ho.2.2.1, by rw [no, nl, nt]; exact ho.2.2.2.1, fun o ho8 => have ho9 : o < rg_no M := (by omega); I_o1_g (ho.2.2.2.2 o ho9) (rg_VS_w hci (ho.2.2.2.2 o ho9).1 hm fr (funext fun j => f _ j (by omega)) (funext fun j => f _ j (by omega)) (f2 _ (by omega))) (funext fun j => f _ j (by omega)) (funext fun j => f _ j (by omega)) np (f 97 o (by omega)) (f 426 o (by omega)) (fun k hk => f 425 _ (by omega)) (f 427 o (by omega))⟩, ⟨by rw [nc, f 0 11 (by omega)]; exact hC.1, by rw [nc]; exact hC.2.1, by rw [f 412 29 (by omega), f 0 11 (by omega)]; exact hC.2.2.1, fun c hc => I_c1_g (hC.2.2.2 c (by omega)) hm (f 430 c (by omega)) (fun x hx => f 429 _ (by omega)) (fun x y hx hy => Or.inl ⟨f _ y (by omega), f 428 _ (by omega)⟩)⟩, I_y_k (rg_Inv_y h) (f 0 12 (by omega)) (f 412 25 (by omega)), I_z_k (rg_Inv_s h) (rg_Inv_of h) (rg_Inv_z h) (f 6 4 (by omega)) (f 0 10 (by omega)) (fun c hc => funext fun j => f c j (by omega))⟩⟩
    refine ⟨by rw [nw]; exact v1, by omega, by rw [v1, w1], ?_, ?_, ?_, by rw [f2 416 (by omega), f2 5 (by omega)]; exact hW.2.2.2.2.2.2.1, fun w hw => ?_⟩
    · refine funext fun j => ?_
      by_cases c : j = n
      · rw [c, v2, w2]
      · rw [f 413 j (by omega), f 2 j (by omega), hW.2.2.2.1]
    · refine funext fun j => ?_
      by_cases c : j = n
      · rw [c, v3, w3]
      · rw [f 414 j (by omega), f 3 j (by omega), hW.2.2.2.2.1]
    · refine funext fun j => ?_
      by_cases c : j = n
      · rw [c, v4, w4]
      · rw [f 415 j (by omega), f 4 j (by omega), hW.2.2.2.2.2.1]
    · by_cases c : w = n
      · rw [c, v2, v4]
        obtain ⟨x, _, hx, ex⟩ := rg_xN (m := 1) (n := 12) h1 rfl rfl (by omega)
        obtain ⟨y, _, hy, ey⟩ := rg_xN (m := 0) (n := 1023) h3 rfl rfl (by omega)
        exact ⟨⟨x, hx, ex⟩, y, hy, ey⟩
      · rw [f 2 w (by omega), f 4 w (by omega)]
        exact hW.2.2.2.2.2.2.2 w (by omega)
  · rw [em] at e2
    refine rg_ref h ?_ e2 (by decide)
    exact rm_go_1 (rg_b0 (fun q => rg_x2a hx rg_s3 ⟨rg_in_rm.mpr q.1, rg_in_rm.mpr q.2.1, rg_in_rm.mpr q.2.2⟩))
  · rw [em] at e2
    refine rg_ref h ?_ e2 (by decide)
    have z := rg_x2b hx rg_s3.symm
    exact rm_go_2 (rg_b1 ⟨rg_in_rm.mp z.1.1, rg_in_rm.mp z.1.2.1, rg_in_rm.mp z.1.2.2⟩) (rg_b0 (fun q => z.2 (by rw [← (rg_Inv_w h).2.2.1]; exact q)))
theorem pre_call {M Mw : rg_Mem} {k : Int32} {a : Int32} {b : Int32} (h : rg_Inv M) (e1 : (fun k M1 => (k = 0 ∧ ∃ r M2, ((fun r => ((rg_has M a ∧ rg_has M b) ∧ ¬ a = b) ∧ r = rg_b (¬ (M.2 5 a.toNatClampNeg >>> (b.toInt64 &&& 63)) &&& 1 = 0)) r ∧ M2 = rg_J (rg_J M 5 a.toNatClampNeg (M.2 5 a.toNatClampNeg ||| (1 : Int64) <<< (b.toInt64 &&& 63))) 5 b.toNatClampNeg ((rg_J M 5 a.toNatClampNeg (M.2 5 a.toNatClampNeg ||| (1 : Int64) <<< (b.toInt64 &&& 63))).2 5 b.toNatClampNeg ||| (1 : Int64) <<< (a.toInt64 &&& 63))) ∧ M1 = rg_J M2 432 0 (if r = 0 then 0 else 1)) ∨ ((fun X => (¬ (rg_has M a ∧ rg_has M b) ∧ X = "java/lang/IndexOutOfBoundsException") ∨ ((rg_has M a ∧ rg_has M b) ∧ ¬ (¬ a = b) ∧ X = "java/lang/IllegalArgumentException")) "java/lang/IndexOutOfBoundsException" ∧ k = 1 ∧ M1 = M) ∨ ((fun X => (¬ (rg_has M a ∧ rg_has M b) ∧ X = "java/lang/IndexOutOfBoundsException") ∨ ((rg_has M a ∧ rg_has M b) ∧ ¬ (¬ a = b) ∧ X = "java/lang/IllegalArgumentException")) "java/lang/IllegalArgumentException" ∧ k = 2 ∧ M1 = M)) k Mw) : rm_CI Mw := by
  rcases e1 with ⟨_, r1, M2, hs, em⟩ | ⟨_, _, em⟩ | ⟨_, _, em⟩
  · have g : rg_mo M M2 := by rw [hs.2]; exact rg_mo_J (rg_mo_J rg_mo_rf (by omega)) (by omega)
    rw [em]
    exact rg_mo_mi h (rg_mo_o g)
  · rw [em]
    exact rg_mo_mi h rg_mo_rf
  · rw [em]
    exact rg_mo_mi h rg_mo_rf
theorem sim_call {M Mw Mz : rg_Mem} {k r : Int32} {a : Int32} {b : Int32} (h : rg_Inv M) (e1 : (fun k M1 => (k = 0 ∧ ∃ r M2, ((fun r => ((rg_has M a ∧ rg_has M b) ∧ ¬ a = b) ∧ r = rg_b (¬ (M.2 5 a.toNatClampNeg >>> (b.toInt64 &&& 63)) &&& 1 = 0)) r ∧ M2 = rg_J (rg_J M 5 a.toNatClampNeg (M.2 5 a.toNatClampNeg ||| (1 : Int64) <<< (b.toInt64 &&& 63))) 5 b.toNatClampNeg ((rg_J M 5 a.toNatClampNeg (M.2 5 a.toNatClampNeg ||| (1 : Int64) <<< (b.toInt64 &&& 63))).2 5 b.toNatClampNeg ||| (1 : Int64) <<< (a.toInt64 &&& 63))) ∧ M1 = rg_J M2 432 0 (if r = 0 then 0 else 1)) ∨ ((fun X => (¬ (rg_has M a ∧ rg_has M b) ∧ X = "java/lang/IndexOutOfBoundsException") ∨ ((rg_has M a ∧ rg_has M b) ∧ ¬ (¬ a = b) ∧ X = "java/lang/IllegalArgumentException")) "java/lang/IndexOutOfBoundsException" ∧ k = 1 ∧ M1 = M) ∨ ((fun X => (¬ (rg_has M a ∧ rg_has M b) ∧ X = "java/lang/IndexOutOfBoundsException") ∨ ((rg_has M a ∧ rg_has M b) ∧ ¬ (¬ a = b) ∧ X = "java/lang/IllegalArgumentException")) "java/lang/IllegalArgumentException" ∧ k = 2 ∧ M1 = M)) k Mw) (e2 : (fun r M1 => (¬ rm_go (rg_b (rm_iw Mw a ∧ rm_iw Mw b)) (rg_b (¬ a = b)) 1 = 0 ∧ r = 0 ∧ M1 = rg_I Mw 412 33 (rm_go (rg_b (rm_iw Mw a ∧ rm_iw Mw b)) (rg_b (¬ a = b)) 1)) ∨ (rm_go (rg_b (rm_iw Mw a ∧ rm_iw Mw b)) (rg_b (¬ a = b)) 1 = 0 ∧ r = rg_b ((Mw.2 416 a.toNatClampNeg >>> (b.toInt64 &&& 63)) &&& 1 = 1) ∧ M1 = rg_J (rg_J (rg_I Mw 412 33 (rm_go (rg_b (rm_iw Mw a ∧ rm_iw Mw b)) (rg_b (¬ a = b)) 1)) 416 a.toNatClampNeg (Mw.2 416 a.toNatClampNeg ||| (1 : Int64) <<< (b.toInt64 &&& 63))) 416 b.toNatClampNeg ((rg_J (rg_I Mw 412 33 (rm_go (rg_b (rm_iw Mw a ∧ rm_iw Mw b)) (rg_b (¬ a = b)) 1)) 416 a.toNatClampNeg (Mw.2 416 a.toNatClampNeg ||| (1 : Int64) <<< (b.toInt64 &&& 63))).2 416 b.toNatClampNeg ||| (1 : Int64) <<< (a.toInt64 &&& 63)))) r Mz) : Mz.1 412 33 = k ∧ (k = 0 → Mz.2 432 0 = (if r = 0 then 0 else 1)) ∧ rg_Inv Mz := by
  rcases e1 with ⟨rfl, r1, M2, ⟨⟨⟨⟨h1, h2⟩, h3⟩, er⟩, e3⟩, em⟩ | ⟨hx, rfl, em⟩ | ⟨hx, rfl, em⟩
  · have g : rg_mo M Mw := by rw [em, e3]; exact rg_mo_o (rg_mo_J (rg_mo_J rg_mo_rf (by omega)) (by omega))
    rcases e2 with ⟨q, _⟩ | ⟨q, er2, ez⟩
    · exact absurd (rm_go_0 (rg_b1 ⟨(rg_iw_g h g).mpr h1, (rg_iw_g h g).mpr h2⟩) (rg_b1 h3) rg_n1) q
    rw [q] at ez
    have o : Mw.2 432 0 = (if r1 = 0 then 0 else 1) := by rw [em]; exact rg_J_same
    have eA : Mw.1 = M2.1 := by rw [em]; rfl
    have eB : ∀ c, c ≠ 432 → Mw.2 c = M2.2 c := fun c hc => by rw [em]; exact rg_J_cell hc
    have f : ∀ c j, ¬ (c = 412 ∧ j = 33) → Mz.1 c j = M.1 c j := fun c j hc => by rw [ez, rg_J_1, rg_J_1, rg_Il (by omega), eA, e3, rg_J_1, rg_J_1]
    have f2 : ∀ c, ¬ (c = 5 ∨ c = 416 ∨ c = 432) → Mz.2 c = M.2 c := fun c hc => (show Mz.2 c = Mw.2 c by rw [ez, rg_J_cell (by omega), rg_J_cell (by omega), rg_I_2]).trans ((eB c (by omega)).trans ((show M2.2 c = M.2 c by rw [e3, rg_J_cell (by omega), rg_J_cell (by omega)])))

    have k9 : Mw.2 416 = M.2 5 := (g.2 416 (by omega) (by omega)).trans (rg_Inv_w h).2.2.2.2.2.2.1
    have k0 : (rg_I Mw 412 33 0).2 416 = M.2 5 := k9
    have hW := rg_Inv_w h
    have e5 : Mz.2 5 = M2.2 5 := by rw [ez, rg_J_cell (by omega), rg_J_cell (by omega), rg_I_2]; exact eB 5 (by omega)
    have nw : rg_nw Mz = rg_nw M := by unfold rg_nw; rw [f 1 4 (by omega)]
    have z2 : Mz.2 432 0 = (if r1 = 0 then 0 else 1) := by rw [← o, ez, rg_J_cell (by omega), rg_J_cell (by omega), rg_I_2]
    have rr : r1 = r := by
      rw [er, er2, k9]
      exact rg_b_cg rg_and1.symm
    refine ⟨by rw [ez, rg_J_1, rg_J_1, rm_get], fun _ => by rw [z2, rr], ⟨?_, I_p_k (rg_Inv_p h) (f 0 9 (by omega)) (f 412 5 (by omega)), I_s_k (rg_Inv_s h) (fun k hk => f 6 k (by omega)) (fun k h1 h2 => f 412 k (by omega)), I_t_k (rg_Inv_t h) (funext fun j => f 7 j (by omega)) (funext fun j => f 420 j (by omega)), I_d_k (rg_Inv_d h) (f 1 4 (by omega)) (fun c h1 h2 => funext fun j => f c j (by omega)) (funext fun j => f 90 j (by omega)) (funext fun j => f 91 j (by omega)) (f2 90 (by omega)) (f 412 20 (by omega)) (funext fun j => f 424 j (by omega)), I_v_k (rg_Inv_s h) (rg_Inv_v h) (f 6 4 (by omega)) (f 1 4 (by omega)) (f 0 9 (by omega)) (fun c hc => funext fun j => f c j (by omega)) (fun c c1 c2 => f2 c (by omega)), I_o_k (rg_Inv_of h) (fun k hk => f 6 k (by omega)) (f 1 4 (by omega)) (f 0 9 (by omega)) (f 0 10 (by omega)) (f 412 24 (by omega)) (fun c hc => funext fun j => f c j (by omega)) (fun c c1 c2 => f2 c (by omega)), I_c_k (rg_Inv_c h) (f 1 4 (by omega)) (f 0 11 (by omega)) (f 412 29 (by omega)) (fun c hc => funext fun j => f c j (by omega)), I_y_k (rg_Inv_y h) (f 0 12 (by omega)) (f 412 25 (by omega)), I_z_k (rg_Inv_s h) (rg_Inv_of h) (rg_Inv_z h) (f 6 4 (by omega)) (f 0 10 (by omega)) (fun c hc => funext fun j => f c j (by omega))⟩⟩
    refine ⟨by rw [nw, f 1 4 (by omega)]; exact hW.1, by rw [nw]; exact hW.2.1, by rw [f 412 4 (by omega), f 1 4 (by omega)]; exact hW.2.2.1, funext fun j => by rw [f 413 j (by omega), f 2 j (by omega), hW.2.2.2.1], funext fun j => by rw [f 414 j (by omega), f 3 j (by omega), hW.2.2.2.2.1], funext fun j => by rw [f 415 j (by omega), f 4 j (by omega), hW.2.2.2.2.2.1], ?_, fun w hw => by rw [f 2 w (by omega), f 4 w (by omega)]; exact hW.2.2.2.2.2.2.2 w (by omega)⟩
    rw [e5, ez, e3, k9]
    exact rg_J2 (rg_J2 k0 rfl) (by rw [rg_J2 k0 rfl])
  · rw [em] at e2
    refine rg_ref h ?_ e2 (by decide)
    exact rm_go_1 (rg_b0 (fun q => rg_x2a hx rg_s1 ⟨(rm_iw_i h).mp q.1, (rm_iw_i h).mp q.2⟩))
  · rw [em] at e2
    refine rg_ref h ?_ e2 (by decide)
    have z := rg_x2b hx rg_s1.symm
    exact rm_go_2 (rg_b1 ⟨(rm_iw_i h).mpr z.1.1, (rm_iw_i h).mpr z.1.2⟩) (rg_b0 z.2)
theorem pre_poet {M Mw : rg_Mem} {k : Int32} (h : rg_Inv M) (e1 : (fun k M1 => (k = 0 ∧ ∃ r M2, ((fun r => M.1 0 9 < 6 ∧ r = M.1 0 9) r ∧ M2 = rg_I M 0 9 (nI (rg_np M + 1))) ∧ M1 = rg_J M2 432 0 r.toInt64) ∨ ((fun X => ¬ M.1 0 9 < 6 ∧ X = "java/lang/IllegalStateException") "java/lang/IllegalStateException" ∧ k = 1 ∧ M1 = M)) k Mw) : rm_CI Mw := by
  rcases e1 with ⟨_, r1, M2, hs, em⟩ | ⟨_, _, em⟩
  · have g : rg_mo M M2 := by rw [hs.2]; exact rg_mo_I rg_mo_rf (by omega)
    rw [em]
    exact rg_mo_mi h (rg_mo_o g)
  · rw [em]
    exact rg_mo_mi h rg_mo_rf
theorem sim_poet {M Mw Mz : rg_Mem} {k r : Int32} (h : rg_Inv M) (e1 : (fun k M1 => (k = 0 ∧ ∃ r M2, ((fun r => M.1 0 9 < 6 ∧ r = M.1 0 9) r ∧ M2 = rg_I M 0 9 (nI (rg_np M + 1))) ∧ M1 = rg_J M2 432 0 r.toInt64) ∨ ((fun X => ¬ M.1 0 9 < 6 ∧ X = "java/lang/IllegalStateException") "java/lang/IllegalStateException" ∧ k = 1 ∧ M1 = M)) k Mw) (e2 : (fun r M1 => (¬ rm_go (rg_b (¬ 6 ≤ Mw.1 412 5)) 1 1 = 0 ∧ r = 0 ∧ M1 = rg_I Mw 412 33 (rm_go (rg_b (¬ 6 ≤ Mw.1 412 5)) 1 1)) ∨ (rm_go (rg_b (¬ 6 ≤ Mw.1 412 5)) 1 1 = 0 ∧ r = nI (rm_np Mw) ∧ M1 = rg_I (rg_I Mw 412 33 (rm_go (rg_b (¬ 6 ≤ Mw.1 412 5)) 1 1)) 412 5 (nI (rm_np Mw + 1)))) r Mz) : Mz.1 412 33 = k ∧ (k = 0 → Mz.2 432 0 = r.toInt64) ∧ rg_Inv Mz := by
  rcases e1 with ⟨rfl, r1, M2, ⟨⟨h1, er⟩, e3⟩, em⟩ | ⟨hx, rfl, em⟩
  · have g : rg_mo M Mw := by rw [em, e3]; exact rg_mo_o (rg_mo_I rg_mo_rf (by omega))
    rcases e2 with ⟨q, _⟩ | ⟨q, er2, ez⟩
    · exact absurd (rm_go_0 (rg_b1 (by rw [g.1 412 (by omega), (rg_Inv_p h).2.2]; exact rg_nle.mpr h1)) rg_n1 rg_n1) q
    have o : Mw.2 432 0 = r1.toInt64 := by rw [em]; exact rg_J_same
    have eA : Mw.1 = M2.1 := by rw [em]; rfl
    have eB : ∀ c, c ≠ 432 → Mw.2 c = M2.2 c := fun c hc => by rw [em]; exact rg_J_cell hc
    have f : ∀ c j, ¬ ((c = 0 ∧ j = 9) ∨ (c = 412 ∧ (j = 5 ∨ j = 33))) → Mz.1 c j = M.1 c j := fun c j hc => by rw [ez, rg_Il (by omega), rg_Il (by omega), eA, e3, rg_Il (by omega)]
    have f2 : ∀ c, ¬ (c = 432) → Mz.2 c = M.2 c := fun c hc => (show Mz.2 c = Mw.2 c by rw [ez]; rfl).trans ((eB c (by omega)).trans ((show M2.2 c = M.2 c by rw [e3]; rfl)))
    have hv := (rg_Inv_v h).2.1
    have h36 := rg_Inv_36 h
    have ho := rg_Inv_of h
    have hd := rg_Inv_d h
    have hC := rg_Inv_c h
    have hci := rg_Inv_ci h
    have nl : rg_nl Mz = rg_nl M := by unfold rg_nl; rw [f 6 4 (by omega)]
    have nt : rg_nt Mz = rg_nt M := by unfold rg_nt; rw [f 6 0 (by omega)]
    have no : rg_no Mz = rg_no M := by unfold rg_no; rw [f 0 10 (by omega)]
    have nc : rg_nc Mz = rg_nc M := by unfold rg_nc; rw [f 0 11 (by omega)]
    have sz : rg_sz Mz 90 = rg_sz M 90 := by unfold rg_sz; rw [f 90 1 (by omega)]
    have ho4 := ho.2.1
    have hc8 := hC.2.1

    have hP := rg_Inv_p h
    have mp : rm_np Mw = rg_np M := by rw [← rm_np_i h]; unfold rm_np; rw [g.1 412 (by omega)]
    have va : Mz.1 412 5 = nI (rg_np M + 1) := by rw [ez, rm_get, mp]
    have vb : Mz.1 0 9 = nI (rg_np M + 1) := by rw [ez, rg_Il (by omega), rg_Il (by omega), eA, e3, rm_get]
    have h6 : rg_np M < 6 := by
      have h7 := hP.2.1
      rw [hP.1] at h1
      rcases Nat.lt_or_ge (rg_np M) 6 with c | c
      · exact c
      · exact absurd h1 (rg_nlt.mpr (nI_le (a := 6) c (by omega)))
    have np9 : rg_np Mz = rg_np M + 1 := by unfold rg_np; rw [vb, nI_clamp (by omega)]
    have np : rg_np M ≤ rg_np Mz := by omega
    have hm : ∀ u, rg_has M u → rg_has Mz u := fun u hu => ⟨hu.1, by rw [f 1 4 (by omega)]; exact hu.2⟩
    have fr : ∀ c, 2 ≤ c → c ≤ 4 → ∀ w, w < rg_nw M → Mz.1 c w = M.1 c w := fun c h1 h2 w _ => f c w (by omega)
    have z2 : Mz.2 432 0 = r1.toInt64 := by rw [← o, ez]; rfl
    exact ⟨by rw [ez, rg_Il (by omega), rm_get]; exact q, fun _ => by rw [z2, er, er2, mp, hP.1], ⟨I_w_k (rg_Inv_w h) (f 1 4 (by omega)) (f 412 4 (by omega)) (fun c hc => funext fun j => f c j (by omega)) (f2 5 (by omega)) (f2 416 (by omega)), ⟨by rw [np9]; exact vb, by omega, by rw [va, vb]⟩, I_s_k (rg_Inv_s h) (fun k hk => f 6 k (by omega)) (fun k h1 h2 => f 412 k (by omega)), I_t_k (rg_Inv_t h) (funext fun j => f 7 j (by omega)) (funext fun j => f 420 j (by omega)), ⟨by rw [sz]; exact rg_VS_w hci hd.1 hm fr (funext fun j => f _ j (by omega)) (funext fun j => f _ j (by omega)) (f2 _ (by omega)), by rw [f 412 20 (by omega), f 90 1 (by omega)]; exact hd.2.1, fun k hk => by rw [f 424 k (by omega), f 91 k (by omega)]; exact hd.2.2 k (by omega)⟩, ⟨(funext fun j => f 419 j (by omega)).trans ((rg_Inv_v h).1.trans (funext fun j => (f 9 j (by omega)).symm)), fun l hl => have hl : l < rg_nl M := (by omega); I_v1_g (hv l hl) (rg_VS_w hci (hv l hl).1 hm fr (funext fun j => f _ j (by omega)) (funext fun j => f _ j (by omega)) (f2 _ (by omega))) (funext fun j => f _ j (by omega)) (funext fun j => f _ j (by omega)) np (f 9 l (by omega)) (f 418 l (by omega)) (fun k hk => f 417 _ (by omega)) (by rw [f 421 l (by omega), f 10 l (by omega)]; exact (hv l hl).2.2.2.2.1) (by rw [f 422 l (by omega), f 11 l (by omega)]; exact (hv l hl).2.2.2.2.2.1) (fun j hj => by rw [f (13 + j) l (by omega), f 423 _ (by omega)]; exact (hv l hl).2.2.2.2.2.2 j hj), fun k hk => by rw [f 421 k (by omega), f 422 k (by omega)]; exact (rg_Inv_v h).2.2.1 k hk, fun j k hj hk => by rw [nl, f 423 _ (by omega)]; exact (rg_Inv_v h).2.2.2 j k hj hk⟩, ⟨by rw [no, f 0 10 (by omega)]; exact ho.1, by rw [no]; exact ho.2.1, by rw [f 412 24 (by omega), f 0 10 (by omega)]; exact ho.2.2.1, by rw [no, nl, nt]; exact ho.2.2.2.1, fun o ho8 => have ho9 : o < rg_no M := (by omega); I_o1_g (ho.2.2.2.2 o ho9) (rg_VS_w hci (ho.2.2.2.2 o ho9).1 hm fr (funext fun j => f _ j (by omega)) (funext fun j => f _ j (by omega)) (f2 _ (by omega))) (funext fun j => f _ j (by omega)) (funext fun j => f _ j (by omega)) np (f 97 o (by omega)) (f 426 o (by omega)) (fun k hk => f 425 _ (by omega)) (f 427 o (by omega))⟩, ⟨by rw [nc, f 0 11 (by omega)]; exact hC.1, by rw [nc]; exact hC.2.1, by rw [f 412 29 (by omega), f 0 11 (by omega)]; exact hC.2.2.1, fun c hc => I_c1_g (hC.2.2.2 c (by omega)) hm (f 430 c (by omega)) (fun x hx => f 429 _ (by omega)) (fun x y hx hy => Or.inl ⟨f _ y (by omega), f 428 _ (by omega)⟩)⟩, I_y_k (rg_Inv_y h) (f 0 12 (by omega)) (f 412 25 (by omega)), I_z_k (rg_Inv_s h) (rg_Inv_of h) (rg_Inv_z h) (f 6 4 (by omega)) (f 0 10 (by omega)) (fun c hc => funext fun j => f c j (by omega))⟩⟩
  · rw [em] at e2
    refine rg_ref h ?_ e2 (by decide)
    exact rm_go_1 (rg_b0 (fun q => hx.1 (by rw [← (rg_Inv_p h).2.2]; exact rg_nle.mp q)))
theorem pre_begin {M Mw : rg_Mem} {k : Int32} {a : Int32} {b : Int32} {d : Int32} {f : Int32} (h : rg_Inv M) (e1 : (fun k M1 => (k = 0 ∧ ∃ M2, (((rg_in a 2 36 ∧ rg_in b 0 10 ∧ rg_in d 2 40 ∧ rg_in f 2 40) ∧ ¬ (¬ M.1 6 0 ≤ M.1 6 4 ∧ ¬ M.1 6 4 ≤ 0)) ∧ M2 = rg_I (rg_I (rg_z7 (rg_I (rg_I (rg_I (rg_I (rg_I M 6 0 a) 6 1 b) 6 2 d) 6 3 f) 6 4 0) 36) 0 10 0) 0 11 0) ∧ M1 = M2) ∨ ((fun X => (¬ (rg_in a 2 36 ∧ rg_in b 0 10 ∧ rg_in d 2 40 ∧ rg_in f 2 40) ∧ X = "java/lang/IllegalArgumentException") ∨ ((rg_in a 2 36 ∧ rg_in b 0 10 ∧ rg_in d 2 40 ∧ rg_in f 2 40) ∧ ¬ (¬ (¬ M.1 6 0 ≤ M.1 6 4 ∧ ¬ M.1 6 4 ≤ 0)) ∧ X = "java/lang/IllegalStateException")) "java/lang/IllegalArgumentException" ∧ k = 1 ∧ M1 = M) ∨ ((fun X => (¬ (rg_in a 2 36 ∧ rg_in b 0 10 ∧ rg_in d 2 40 ∧ rg_in f 2 40) ∧ X = "java/lang/IllegalArgumentException") ∨ ((rg_in a 2 36 ∧ rg_in b 0 10 ∧ rg_in d 2 40 ∧ rg_in f 2 40) ∧ ¬ (¬ (¬ M.1 6 0 ≤ M.1 6 4 ∧ ¬ M.1 6 4 ≤ 0)) ∧ X = "java/lang/IllegalStateException")) "java/lang/IllegalStateException" ∧ k = 2 ∧ M1 = M)) k Mw) : rm_CI Mw := by
  rcases e1 with ⟨_, M2, hs, em⟩ | ⟨_, _, em⟩ | ⟨_, _, em⟩
  · have g : rg_mo M M2 := by rw [hs.2]; exact rg_mo_I (rg_mo_I (rg_mo_z7 (rg_mo_I (rg_mo_I (rg_mo_I (rg_mo_I (rg_mo_I rg_mo_rf (by omega)) (by omega)) (by omega)) (by omega)) (by omega))) (by omega)) (by omega)
    rw [em]
    exact rg_mo_mi h g
  · rw [em]
    exact rg_mo_mi h rg_mo_rf
  · rw [em]
    exact rg_mo_mi h rg_mo_rf
theorem sim_begin {M Mw Mz : rg_Mem} {k : Int32} {a : Int32} {b : Int32} {d : Int32} {f : Int32} (h : rg_Inv M) (e1 : (fun k M1 => (k = 0 ∧ ∃ M2, (((rg_in a 2 36 ∧ rg_in b 0 10 ∧ rg_in d 2 40 ∧ rg_in f 2 40) ∧ ¬ (¬ M.1 6 0 ≤ M.1 6 4 ∧ ¬ M.1 6 4 ≤ 0)) ∧ M2 = rg_I (rg_I (rg_z7 (rg_I (rg_I (rg_I (rg_I (rg_I M 6 0 a) 6 1 b) 6 2 d) 6 3 f) 6 4 0) 36) 0 10 0) 0 11 0) ∧ M1 = M2) ∨ ((fun X => (¬ (rg_in a 2 36 ∧ rg_in b 0 10 ∧ rg_in d 2 40 ∧ rg_in f 2 40) ∧ X = "java/lang/IllegalArgumentException") ∨ ((rg_in a 2 36 ∧ rg_in b 0 10 ∧ rg_in d 2 40 ∧ rg_in f 2 40) ∧ ¬ (¬ (¬ M.1 6 0 ≤ M.1 6 4 ∧ ¬ M.1 6 4 ≤ 0)) ∧ X = "java/lang/IllegalStateException")) "java/lang/IllegalArgumentException" ∧ k = 1 ∧ M1 = M) ∨ ((fun X => (¬ (rg_in a 2 36 ∧ rg_in b 0 10 ∧ rg_in d 2 40 ∧ rg_in f 2 40) ∧ X = "java/lang/IllegalArgumentException") ∨ ((rg_in a 2 36 ∧ rg_in b 0 10 ∧ rg_in d 2 40 ∧ rg_in f 2 40) ∧ ¬ (¬ (¬ M.1 6 0 ≤ M.1 6 4 ∧ ¬ M.1 6 4 ≤ 0)) ∧ X = "java/lang/IllegalStateException")) "java/lang/IllegalStateException" ∧ k = 2 ∧ M1 = M)) k Mw) (e2 : (fun M1 => (¬ rm_go (rg_b (rm_in a 2 36 ∧ rm_in b 0 10 ∧ rm_in d 2 40 ∧ rm_in f 2 40)) (rg_b (Mw.1 412 6 = 0 ∨ Mw.1 412 11 = 0 ∨ rm_fin Mw)) 1 = 0 ∧ M1 = rg_I Mw 412 33 (rm_go (rg_b (rm_in a 2 36 ∧ rm_in b 0 10 ∧ rm_in d 2 40 ∧ rm_in f 2 40)) (rg_b (Mw.1 412 6 = 0 ∨ Mw.1 412 11 = 0 ∨ rm_fin Mw)) 1)) ∨ (rm_go (rg_b (rm_in a 2 36 ∧ rm_in b 0 10 ∧ rm_in d 2 40 ∧ rm_in f 2 40)) (rg_b (Mw.1 412 6 = 0 ∨ Mw.1 412 11 = 0 ∨ rm_fin Mw)) 1 = 0 ∧ M1 = rm_pz (rm_bz (rg_I (rg_I (rg_I (rg_I (rg_I (rg_I (rg_I (rg_I (rg_I Mw 412 33 (rm_go (rg_b (rm_in a 2 36 ∧ rm_in b 0 10 ∧ rm_in d 2 40 ∧ rm_in f 2 40)) (rg_b (Mw.1 412 6 = 0 ∨ Mw.1 412 11 = 0 ∨ rm_fin Mw)) 1)) 412 6 1) 412 7 a) 412 8 b) 412 9 d) 412 10 f) 412 11 0) 412 24 0) 412 29 0) 36) 144)) Mz) : Mz.1 412 33 = k ∧ rg_Inv Mz := by
  rcases e1 with ⟨rfl, M2, ⟨⟨⟨h1, h2, h3, h4⟩, h5⟩, e3⟩, em⟩ | ⟨hx, rfl, em⟩ | ⟨hx, rfl, em⟩
  · obtain ⟨f9, hf9⟩ : ∃ z, z = f := ⟨_, rfl⟩
    subst hf9
    have g : rg_mo M Mw := by rw [em, e3]; exact rg_mo_I (rg_mo_I (rg_mo_z7 (rg_mo_I (rg_mo_I (rg_mo_I (rg_mo_I (rg_mo_I rg_mo_rf (by omega)) (by omega)) (by omega)) (by omega)) (by omega))) (by omega)) (by omega)
    rcases e2 with ⟨q, _⟩ | ⟨q, ez⟩
    · exact absurd (rm_go_0 (rg_b1 ⟨rg_in_rm.mp h1, rg_in_rm.mp h2, rg_in_rm.mp h3, rg_in_rm.mp h4⟩) (rg_b1 (by unfold rm_fin; rw [g.1 412 (by omega)]; exact (rg_bg_i h).mpr h5)) rg_n1) q
    have f : ∀ c j, ¬ ((c = 0 ∧ (j = 10 ∨ j = 11)) ∨ (c = 6 ∧ j ≤ 4) ∨ (c = 7 ∧ j < 36) ∨ (c = 412 ∧ ((6 ≤ j ∧ j ≤ 11) ∨ j = 24 ∨ j = 29 ∨ j = 33)) ∨ ((420 ≤ c ∧ c ≤ 422) ∧ j < 36) ∨ (c = 423 ∧ j < 144)) → Mz.1 c j = M.1 c j := fun c j hc => by rw [ez, rm_pz_n (by omega), rm_bz_n (by omega), rg_Il (by omega), rg_Il (by omega), rg_Il (by omega), rg_Il (by omega), rg_Il (by omega), rg_Il (by omega), rg_Il (by omega), rg_Il (by omega), rg_Il (by omega), em, e3, rg_Il (by omega), rg_Il (by omega), rg_z7_n (by omega), rg_Il (by omega), rg_Il (by omega), rg_Il (by omega), rg_Il (by omega), rg_Il (by omega)]
    have f2 : ∀ c, ¬ (c = 432) → Mz.2 c = M.2 c := fun c hc => (show Mz.2 c = Mw.2 c by rw [ez]; rfl).trans (show Mw.2 c = M.2 c by rw [em, e3]; rfl)
    obtain ⟨A, hA2, hA, eA⟩ := rg_xN (m := 2) (n := 36) h1 rfl rfl (by omega)
    obtain ⟨D, _, hD, eD⟩ := rg_xN (m := 0) (n := 10) h2 rfl rfl (by omega)
    have a0 : Mz.1 6 0 = a := by rw [ez, rm_pz_n (by omega), rm_bz_n (by omega), rg_Il (by omega), rg_Il (by omega), rg_Il (by omega), rg_Il (by omega), rg_Il (by omega), rg_Il (by omega), rg_Il (by omega), rg_Il (by omega), rg_Il (by omega), em, e3, rg_Il (by omega), rg_Il (by omega), rg_z7_n (by omega), rg_Il (by omega), rg_Il (by omega), rg_Il (by omega), rg_Il (by omega), rm_get]
    have a1 : Mz.1 6 1 = b := by rw [ez, rm_pz_n (by omega), rm_bz_n (by omega), rg_Il (by omega), rg_Il (by omega), rg_Il (by omega), rg_Il (by omega), rg_Il (by omega), rg_Il (by omega), rg_Il (by omega), rg_Il (by omega), rg_Il (by omega), em, e3, rg_Il (by omega), rg_Il (by omega), rg_z7_n (by omega), rg_Il (by omega), rg_Il (by omega), rg_Il (by omega), rm_get]
    have a2 : Mz.1 6 2 = d := by rw [ez, rm_pz_n (by omega), rm_bz_n (by omega), rg_Il (by omega), rg_Il (by omega), rg_Il (by omega), rg_Il (by omega), rg_Il (by omega), rg_Il (by omega), rg_Il (by omega), rg_Il (by omega), rg_Il (by omega), em, e3, rg_Il (by omega), rg_Il (by omega), rg_z7_n (by omega), rg_Il (by omega), rg_Il (by omega), rm_get]
    have a3 : Mz.1 6 3 = f9 := by rw [ez, rm_pz_n (by omega), rm_bz_n (by omega), rg_Il (by omega), rg_Il (by omega), rg_Il (by omega), rg_Il (by omega), rg_Il (by omega), rg_Il (by omega), rg_Il (by omega), rg_Il (by omega), rg_Il (by omega), em, e3, rg_Il (by omega), rg_Il (by omega), rg_z7_n (by omega), rg_Il (by omega), rm_get]
    have a4 : Mz.1 6 4 = 0 := by rw [ez, rm_pz_n (by omega), rm_bz_n (by omega), rg_Il (by omega), rg_Il (by omega), rg_Il (by omega), rg_Il (by omega), rg_Il (by omega), rg_Il (by omega), rg_Il (by omega), rg_Il (by omega), rg_Il (by omega), em, e3, rg_Il (by omega), rg_Il (by omega), rg_z7_n (by omega), rm_get]
    have b0 : Mz.1 0 10 = 0 := by rw [ez, rm_pz_n (by omega), rm_bz_n (by omega), rg_Il (by omega), rg_Il (by omega), rg_Il (by omega), rg_Il (by omega), rg_Il (by omega), rg_Il (by omega), rg_Il (by omega), rg_Il (by omega), rg_Il (by omega), em, e3, rg_Il (by omega), rm_get]
    have b1 : Mz.1 0 11 = 0 := by rw [ez, rm_pz_n (by omega), rm_bz_n (by omega), rg_Il (by omega), rg_Il (by omega), rg_Il (by omega), rg_Il (by omega), rg_Il (by omega), rg_Il (by omega), rg_Il (by omega), rg_Il (by omega), rg_Il (by omega), em, e3, rm_get]
    have m6 : Mz.1 412 6 = 1 := by rw [ez, rm_pz_n (by omega), rm_bz_n (by omega), rg_Il (by omega), rg_Il (by omega), rg_Il (by omega), rg_Il (by omega), rg_Il (by omega), rg_Il (by omega), rg_Il (by omega), rm_get]
    have m7 : Mz.1 412 7 = a := by rw [ez, rm_pz_n (by omega), rm_bz_n (by omega), rg_Il (by omega), rg_Il (by omega), rg_Il (by omega), rg_Il (by omega), rg_Il (by omega), rg_Il (by omega), rm_get]
    have m8 : Mz.1 412 8 = b := by rw [ez, rm_pz_n (by omega), rm_bz_n (by omega), rg_Il (by omega), rg_Il (by omega), rg_Il (by omega), rg_Il (by omega), rg_Il (by omega), rm_get]
    have m9 : Mz.1 412 9 = d := by rw [ez, rm_pz_n (by omega), rm_bz_n (by omega), rg_Il (by omega), rg_Il (by omega), rg_Il (by omega), rg_Il (by omega), rm_get]
    have m10 : Mz.1 412 10 = f9 := by rw [ez, rm_pz_n (by omega), rm_bz_n (by omega), rg_Il (by omega), rg_Il (by omega), rg_Il (by omega), rm_get]
    have m11 : Mz.1 412 11 = 0 := by rw [ez, rm_pz_n (by omega), rm_bz_n (by omega), rg_Il (by omega), rg_Il (by omega), rm_get]
    have m24 : Mz.1 412 24 = 0 := by rw [ez, rm_pz_n (by omega), rm_bz_n (by omega), rg_Il (by omega), rm_get]
    have m29 : Mz.1 412 29 = 0 := by rw [ez, rm_pz_n (by omega), rm_bz_n (by omega), rm_get]

    have nl : rg_nl Mz = 0 := by unfold rg_nl; rw [a4]; rfl
    have no : rg_no Mz = 0 := by unfold rg_no; rw [b0]; rfl
    have nc : rg_nc Mz = 0 := by unfold rg_nc; rw [b1]; rfl
    have nt : rg_nt Mz = A := by unfold rg_nt; rw [a0, eA, nI_clamp (by omega)]
    have sp : rg_sp Mz = D := by unfold rg_sp; rw [a1, eD, nI_clamp (by omega)]
    have zb : ∀ c j, (c = 420 ∨ c = 421 ∨ c = 422) → j < 36 → Mz.1 c j = 0 := fun c j hc hj => by rw [ez, rm_pz_n (by omega), rm_bz_y ⟨hc, hj⟩]
    have zp : ∀ j, j < 144 → Mz.1 423 j = 0 := fun j hj => by rw [ez, rm_pz_y hj]
    have z7 : ∀ j, j < 36 → Mz.1 7 j = 0 := fun j hj => by rw [ez, rm_pz_n (by omega), rm_bz_n (by omega), rg_Il (by omega), rg_Il (by omega), rg_Il (by omega), rg_Il (by omega), rg_Il (by omega), rg_Il (by omega), rg_Il (by omega), rg_Il (by omega), rg_Il (by omega), em, e3, rg_Il (by omega), rg_Il (by omega), rg_z7_y hj]
    refine ⟨by rw [ez, rm_pz_n (by omega), rm_bz_n (by omega), rg_Il (by omega), rg_Il (by omega), rg_Il (by omega), rg_Il (by omega), rg_Il (by omega), rg_Il (by omega), rg_Il (by omega), rg_Il (by omega), rm_get]; exact q, ⟨I_w_k (rg_Inv_w h) (f 1 4 (by omega)) (f 412 4 (by omega)) (fun c hc => funext fun j => f c j (by omega)) (f2 5 (by omega)) (f2 416 (by omega)), I_p_k (rg_Inv_p h) (f 0 9 (by omega)) (f 412 5 (by omega)), ?_, ?_, I_d_k (rg_Inv_d h) (f 1 4 (by omega)) (fun c h1 h2 => funext fun j => f c j (by omega)) (funext fun j => f 90 j (by omega)) (funext fun j => f 91 j (by omega)) (f2 90 (by omega)) (f 412 20 (by omega)) (funext fun j => f 424 j (by omega)), ?_, ?_, ?_, I_y_k (rg_Inv_y h) (f 0 12 (by omega)) (f 412 25 (by omega)), ?_⟩⟩
    · refine ⟨by rw [nl]; exact a4, by omega, by rw [nt, a0]; exact eA, by omega, by rw [sp, a1]; exact eD, by omega, by rw [m11, a4], by rw [m7, a0], by rw [m8, a1], by rw [m9, a2], by rw [m10, a3], Or.inr ⟨m6, by omega⟩⟩
    · refine funext fun j => ?_
      by_cases c : j < 36
      · rw [zb 420 j (by omega) c, z7 j c]
      · rw [f 420 j (by omega), f 7 j (by omega), rg_Inv_t h]
    · refine ⟨(funext fun j => f 419 j (by omega)).trans ((rg_Inv_v h).1.trans (funext fun j => (f 9 j (by omega)).symm)), fun l hl => absurd hl (by omega), fun k hk => ⟨Or.inl (zb 421 k (by omega) hk), Or.inl (zb 422 k (by omega) hk)⟩, fun j k hj hk => ⟨fun _ => zp _ (by omega), 0, by omega, zp _ (by omega)⟩⟩
    · exact ⟨by rw [no]; exact b0, by omega, by rw [m24, b0], fun z => absurd z (by omega), fun o ho => absurd ho (by omega)⟩
    · exact ⟨by rw [nc]; exact b1, by omega, by rw [m29, b1], fun c hc => absurd hc (by omega)⟩
    · exact ⟨fun l hl => absurd hl (by omega), fun o ho => absurd ho (by omega)⟩
  · rw [em] at e2
    refine rg_ref2 h ?_ e2 (by decide)
    exact rm_go_1 (rg_b0 (fun q => rg_x2a hx rg_s3 ⟨rg_in_rm.mpr q.1, rg_in_rm.mpr q.2.1, rg_in_rm.mpr q.2.2.1, rg_in_rm.mpr q.2.2.2⟩))
  · rw [em] at e2
    refine rg_ref2 h ?_ e2 (by decide)
    have z := rg_x2b hx rg_s3.symm
    exact rm_go_2 (rg_b1 ⟨rg_in_rm.mp z.1.1, rg_in_rm.mp z.1.2.1, rg_in_rm.mp z.1.2.2.1, rg_in_rm.mp z.1.2.2.2⟩) (rg_b0 (fun q => z.2 ((rg_bg_i h).mp q)))
theorem pre_seat {M Mw : rg_Mem} {k : Int32} {x : Int32} {y : Int32} (h : rg_Inv M) (e1 : (fun k M1 => (k = 0 ∧ ∃ r M2, ((fun r => ((¬ x < M.1 6 4 ∧ x < M.1 6 0) ∧ rg_in y 0 2 ∧ M.1 0 10 ≤ 0) ∧ r = M.1 7 x.toNatClampNeg) r ∧ M2 = rg_I M 7 x.toNatClampNeg y) ∧ M1 = rg_J M2 432 0 r.toInt64) ∨ ((fun X => (¬ (¬ x < M.1 6 4 ∧ x < M.1 6 0) ∧ X = "java/lang/IndexOutOfBoundsException") ∨ ((¬ x < M.1 6 4 ∧ x < M.1 6 0) ∧ ¬ (rg_in y 0 2) ∧ X = "java/lang/IllegalArgumentException") ∨ ((¬ x < M.1 6 4 ∧ x < M.1 6 0) ∧ (rg_in y 0 2) ∧ ¬ (M.1 0 10 ≤ 0) ∧ X = "java/lang/IllegalStateException")) "java/lang/IndexOutOfBoundsException" ∧ k = 1 ∧ M1 = M) ∨ ((fun X => (¬ (¬ x < M.1 6 4 ∧ x < M.1 6 0) ∧ X = "java/lang/IndexOutOfBoundsException") ∨ ((¬ x < M.1 6 4 ∧ x < M.1 6 0) ∧ ¬ (rg_in y 0 2) ∧ X = "java/lang/IllegalArgumentException") ∨ ((¬ x < M.1 6 4 ∧ x < M.1 6 0) ∧ (rg_in y 0 2) ∧ ¬ (M.1 0 10 ≤ 0) ∧ X = "java/lang/IllegalStateException")) "java/lang/IllegalArgumentException" ∧ k = 2 ∧ M1 = M) ∨ ((fun X => (¬ (¬ x < M.1 6 4 ∧ x < M.1 6 0) ∧ X = "java/lang/IndexOutOfBoundsException") ∨ ((¬ x < M.1 6 4 ∧ x < M.1 6 0) ∧ ¬ (rg_in y 0 2) ∧ X = "java/lang/IllegalArgumentException") ∨ ((¬ x < M.1 6 4 ∧ x < M.1 6 0) ∧ (rg_in y 0 2) ∧ ¬ (M.1 0 10 ≤ 0) ∧ X = "java/lang/IllegalStateException")) "java/lang/IllegalStateException" ∧ k = 3 ∧ M1 = M)) k Mw) : rm_CI Mw := by
  rcases e1 with ⟨_, r1, M2, hs, em⟩ | ⟨_, _, em⟩ | ⟨_, _, em⟩ | ⟨_, _, em⟩
  · have g : rg_mo M M2 := by rw [hs.2]; exact rg_mo_I rg_mo_rf (by omega)
    rw [em]
    exact rg_mo_mi h (rg_mo_o g)
  · rw [em]
    exact rg_mo_mi h rg_mo_rf
  · rw [em]
    exact rg_mo_mi h rg_mo_rf
  · rw [em]
    exact rg_mo_mi h rg_mo_rf
theorem sim_seat {M Mw Mz : rg_Mem} {k r : Int32} {x : Int32} {y : Int32} (h : rg_Inv M) (e1 : (fun k M1 => (k = 0 ∧ ∃ r M2, ((fun r => ((¬ x < M.1 6 4 ∧ x < M.1 6 0) ∧ rg_in y 0 2 ∧ M.1 0 10 ≤ 0) ∧ r = M.1 7 x.toNatClampNeg) r ∧ M2 = rg_I M 7 x.toNatClampNeg y) ∧ M1 = rg_J M2 432 0 r.toInt64) ∨ ((fun X => (¬ (¬ x < M.1 6 4 ∧ x < M.1 6 0) ∧ X = "java/lang/IndexOutOfBoundsException") ∨ ((¬ x < M.1 6 4 ∧ x < M.1 6 0) ∧ ¬ (rg_in y 0 2) ∧ X = "java/lang/IllegalArgumentException") ∨ ((¬ x < M.1 6 4 ∧ x < M.1 6 0) ∧ (rg_in y 0 2) ∧ ¬ (M.1 0 10 ≤ 0) ∧ X = "java/lang/IllegalStateException")) "java/lang/IndexOutOfBoundsException" ∧ k = 1 ∧ M1 = M) ∨ ((fun X => (¬ (¬ x < M.1 6 4 ∧ x < M.1 6 0) ∧ X = "java/lang/IndexOutOfBoundsException") ∨ ((¬ x < M.1 6 4 ∧ x < M.1 6 0) ∧ ¬ (rg_in y 0 2) ∧ X = "java/lang/IllegalArgumentException") ∨ ((¬ x < M.1 6 4 ∧ x < M.1 6 0) ∧ (rg_in y 0 2) ∧ ¬ (M.1 0 10 ≤ 0) ∧ X = "java/lang/IllegalStateException")) "java/lang/IllegalArgumentException" ∧ k = 2 ∧ M1 = M) ∨ ((fun X => (¬ (¬ x < M.1 6 4 ∧ x < M.1 6 0) ∧ X = "java/lang/IndexOutOfBoundsException") ∨ ((¬ x < M.1 6 4 ∧ x < M.1 6 0) ∧ ¬ (rg_in y 0 2) ∧ X = "java/lang/IllegalArgumentException") ∨ ((¬ x < M.1 6 4 ∧ x < M.1 6 0) ∧ (rg_in y 0 2) ∧ ¬ (M.1 0 10 ≤ 0) ∧ X = "java/lang/IllegalStateException")) "java/lang/IllegalStateException" ∧ k = 3 ∧ M1 = M)) k Mw) (e2 : (fun r M1 => (¬ rm_go (rg_b (¬ Mw.1 412 6 = 0 ∧ rm_in x (Mw.1 412 11) (Mw.1 412 7 - 1))) (rg_b (rm_in y 0 2)) (rg_b (Mw.1 412 24 = 0)) = 0 ∧ r = 0 ∧ M1 = rg_I Mw 412 33 (rm_go (rg_b (¬ Mw.1 412 6 = 0 ∧ rm_in x (Mw.1 412 11) (Mw.1 412 7 - 1))) (rg_b (rm_in y 0 2)) (rg_b (Mw.1 412 24 = 0)))) ∨ (rm_go (rg_b (¬ Mw.1 412 6 = 0 ∧ rm_in x (Mw.1 412 11) (Mw.1 412 7 - 1))) (rg_b (rm_in y 0 2)) (rg_b (Mw.1 412 24 = 0)) = 0 ∧ r = Mw.1 420 x.toNatClampNeg ∧ M1 = rg_I (rg_I Mw 412 33 (rm_go (rg_b (¬ Mw.1 412 6 = 0 ∧ rm_in x (Mw.1 412 11) (Mw.1 412 7 - 1))) (rg_b (rm_in y 0 2)) (rg_b (Mw.1 412 24 = 0)))) 420 x.toNatClampNeg y)) r Mz) : Mz.1 412 33 = k ∧ (k = 0 → Mz.2 432 0 = r.toInt64) ∧ rg_Inv Mz := by
  rcases e1 with ⟨rfl, r1, M2, ⟨⟨⟨h1, h2, h3⟩, er⟩, e3⟩, em⟩ | ⟨hx, rfl, em⟩ | ⟨hx, rfl, em⟩ | ⟨hx, rfl, em⟩
  · have g : rg_mo M Mw := by rw [em, e3]; exact rg_mo_o (rg_mo_I rg_mo_rf (by omega))
    rcases e2 with ⟨q, _⟩ | ⟨q, er2, ez⟩
    · exact absurd (rm_go_0 (rg_b1 (by rw [g.1 412 (by omega)]; exact (rg_seat_i h).mpr h1)) (rg_b1 (rg_in_rm.mp h2)) (rg_b1 (by rw [g.1 412 (by omega)]; exact (rg_no_i h).mpr h3))) q
    have o : Mw.2 432 0 = r1.toInt64 := by rw [em]; exact rg_J_same
    have eA : Mw.1 = M2.1 := by rw [em]; rfl
    have eB : ∀ c, c ≠ 432 → Mw.2 c = M2.2 c := fun c hc => by rw [em]; exact rg_J_cell hc
    have f : ∀ c j, ¬ ((c = 7 ∧ j = x.toNatClampNeg) ∨ (c = 420 ∧ j = x.toNatClampNeg) ∨ (c = 412 ∧ j = 33)) → Mz.1 c j = M.1 c j := fun c j hc => by rw [ez, rg_Il (by omega), rg_Il (by omega), eA, e3, rg_Il (by omega)]
    have f2 : ∀ c, ¬ (c = 432) → Mz.2 c = M.2 c := fun c hc => (show Mz.2 c = Mw.2 c by rw [ez]; rfl).trans ((eB c (by omega)).trans ((show M2.2 c = M.2 c by rw [e3]; rfl)))

    have z2 : Mz.2 432 0 = r1.toInt64 := by rw [← o, ez]; rfl
    refine ⟨by rw [ez, rg_Il (by omega), rm_get]; exact q, fun _ => by rw [z2, er, er2, g.1 420 (by omega), rg_Inv_t h], ⟨I_w_k (rg_Inv_w h) (f 1 4 (by omega)) (f 412 4 (by omega)) (fun c hc => funext fun j => f c j (by omega)) (f2 5 (by omega)) (f2 416 (by omega)), I_p_k (rg_Inv_p h) (f 0 9 (by omega)) (f 412 5 (by omega)), I_s_k (rg_Inv_s h) (fun k hk => f 6 k (by omega)) (fun k h1 h2 => f 412 k (by omega)), ?_, I_d_k (rg_Inv_d h) (f 1 4 (by omega)) (fun c h1 h2 => funext fun j => f c j (by omega)) (funext fun j => f 90 j (by omega)) (funext fun j => f 91 j (by omega)) (f2 90 (by omega)) (f 412 20 (by omega)) (funext fun j => f 424 j (by omega)), I_v_k (rg_Inv_s h) (rg_Inv_v h) (f 6 4 (by omega)) (f 1 4 (by omega)) (f 0 9 (by omega)) (fun c hc => funext fun j => f c j (by omega)) (fun c c1 c2 => f2 c (by omega)), I_o_k (rg_Inv_of h) (fun k hk => f 6 k (by omega)) (f 1 4 (by omega)) (f 0 9 (by omega)) (f 0 10 (by omega)) (f 412 24 (by omega)) (fun c hc => funext fun j => f c j (by omega)) (fun c c1 c2 => f2 c (by omega)), I_c_k (rg_Inv_c h) (f 1 4 (by omega)) (f 0 11 (by omega)) (f 412 29 (by omega)) (fun c hc => funext fun j => f c j (by omega)), I_y_k (rg_Inv_y h) (f 0 12 (by omega)) (f 412 25 (by omega)), I_z_k (rg_Inv_s h) (rg_Inv_of h) (rg_Inv_z h) (f 6 4 (by omega)) (f 0 10 (by omega)) (fun c hc => funext fun j => f c j (by omega))⟩⟩
    refine funext fun j => ?_
    by_cases c : j = x.toNatClampNeg
    · rw [c, ez, rm_get, rg_Il (by omega), rg_Il (by omega), eA, e3, rm_get]
    · rw [f 420 j (by omega), f 7 j (by omega), rg_Inv_t h]
  · rw [em] at e2
    refine rg_ref h ?_ e2 (by decide)
    exact rm_go_1 (rg_b0 (fun q => rg_x3a hx rg_s1 rg_s2 ((rg_seat_i h).mp q)))
  · rw [em] at e2
    refine rg_ref h ?_ e2 (by decide)
    have z := rg_x3b hx rg_s1.symm rg_s3
    exact rm_go_2 (rg_b1 ((rg_seat_i h).mpr z.1)) (rg_b0 (fun q => z.2 (rg_in_rm.mpr q)))
  · rw [em] at e2
    refine rg_ref h ?_ e2 (by decide)
    have z := rg_x3c hx rg_s2.symm rg_s3.symm
    exact rm_go_3 (rg_b1 ((rg_seat_i h).mpr z.1)) (rg_b1 (rg_in_rm.mp z.2.1)) (rg_b0 (fun q => z.2.2 ((rg_no_i h).mp q)))
theorem pre_add {M Mw : rg_Mem} {k : Int32} {w : Int32} (h : rg_Inv M) (e1 : (fun k M1 => (k = 0 ∧ ∃ r M2, (fun r M1 => (rg_has M w ∧ M.1 90 1 < 6) ∧ r = nI (rg_sz M 90 + 1) ∧ rg_VS M1 90 (rg_sz M 90 + 1) ∧ M1.1 (90 + 1) (rg_sz M 90) = w ∧ (∀ k, k < rg_sz M 90 → M1.1 (90 + 1) k = M.1 (90 + 1) k) ∧ rg_off M M1 90) r M2 ∧ M1 = rg_J M2 432 0 r.toInt64) ∨ ((fun X => (¬ (rg_has M w) ∧ X = "java/lang/IndexOutOfBoundsException") ∨ ((rg_has M w) ∧ ¬ (M.1 90 1 < 6) ∧ X = "java/lang/IllegalStateException")) "java/lang/IndexOutOfBoundsException" ∧ k = 1 ∧ M1 = M) ∨ ((fun X => (¬ (rg_has M w) ∧ X = "java/lang/IndexOutOfBoundsException") ∨ ((rg_has M w) ∧ ¬ (M.1 90 1 < 6) ∧ X = "java/lang/IllegalStateException")) "java/lang/IllegalStateException" ∧ k = 2 ∧ M1 = M)) k Mw) : rm_CI Mw := by
  rcases e1 with ⟨_, r1, M2, hs, em⟩ | ⟨_, _, em⟩ | ⟨_, _, em⟩
  · have g : rg_mo M M2 := rg_mo_off rg_mo_rf hs.2.2.2.2.2 (by omega)
    rw [em]
    exact rg_mo_mi h (rg_mo_o g)
  · rw [em]
    exact rg_mo_mi h rg_mo_rf
  · rw [em]
    exact rg_mo_mi h rg_mo_rf
theorem sim_add {M Mw Mz : rg_Mem} {k r : Int32} {w : Int32} (h : rg_Inv M) (e1 : (fun k M1 => (k = 0 ∧ ∃ r M2, (fun r M1 => (rg_has M w ∧ M.1 90 1 < 6) ∧ r = nI (rg_sz M 90 + 1) ∧ rg_VS M1 90 (rg_sz M 90 + 1) ∧ M1.1 (90 + 1) (rg_sz M 90) = w ∧ (∀ k, k < rg_sz M 90 → M1.1 (90 + 1) k = M.1 (90 + 1) k) ∧ rg_off M M1 90) r M2 ∧ M1 = rg_J M2 432 0 r.toInt64) ∨ ((fun X => (¬ (rg_has M w) ∧ X = "java/lang/IndexOutOfBoundsException") ∨ ((rg_has M w) ∧ ¬ (M.1 90 1 < 6) ∧ X = "java/lang/IllegalStateException")) "java/lang/IndexOutOfBoundsException" ∧ k = 1 ∧ M1 = M) ∨ ((fun X => (¬ (rg_has M w) ∧ X = "java/lang/IndexOutOfBoundsException") ∨ ((rg_has M w) ∧ ¬ (M.1 90 1 < 6) ∧ X = "java/lang/IllegalStateException")) "java/lang/IllegalStateException" ∧ k = 2 ∧ M1 = M)) k Mw) (e2 : (fun r M1 => (¬ rm_go (rg_b (rm_iw Mw w)) (rg_b (¬ 6 ≤ Mw.1 412 20)) 1 = 0 ∧ r = 0 ∧ M1 = rg_I Mw 412 33 (rm_go (rg_b (rm_iw Mw w)) (rg_b (¬ 6 ≤ Mw.1 412 20)) 1)) ∨ (rm_go (rg_b (rm_iw Mw w)) (rg_b (¬ 6 ≤ Mw.1 412 20)) 1 = 0 ∧ r = nI (rm_nd Mw + 1) ∧ M1 = rg_I (rg_I (rg_I Mw 412 33 (rm_go (rg_b (rm_iw Mw w)) (rg_b (¬ 6 ≤ Mw.1 412 20)) 1)) 424 (rm_nd Mw) w) 412 20 (nI (rm_nd Mw + 1)))) r Mz) : Mz.1 412 33 = k ∧ (k = 0 → Mz.2 432 0 = r.toInt64) ∧ rg_Inv Mz := by
  rcases e1 with ⟨rfl, r1, M2, ⟨⟨h1, h2⟩, er, vs, ew, eo, of⟩, em⟩ | ⟨hx, rfl, em⟩ | ⟨hx, rfl, em⟩
  · have g : rg_mo M Mw := by rw [em]; exact rg_mo_o (rg_mo_off rg_mo_rf of (by omega))
    rcases e2 with ⟨q, _⟩ | ⟨q, er2, ez⟩
    · exact absurd (rm_go_0 (rg_b1 ((rg_iw_g h g).mpr h1)) (rg_b1 (by rw [g.1 412 (by omega), (rg_Inv_d h).2.1]; exact rg_nle.mpr h2)) rg_n1) q
    have o : Mw.2 432 0 = r1.toInt64 := by rw [em]; exact rg_J_same

    have hd := rg_Inv_d h
    obtain ⟨n, hn⟩ : ∃ n, n = rg_sz M 90 := ⟨_, rfl⟩
    have md : rm_nd Mw = n := by rw [hn, ← rm_nd_i h]; unfold rm_nd; rw [g.1 412 (by omega)]
    rw [← hn] at er vs ew eo
    rw [md] at ez er2
    have eA : Mw.1 = M2.1 := by rw [em]; rfl
    have eB : ∀ c, c ≠ 432 → Mw.2 c = M2.2 c := fun c hc => by rw [em]; exact rg_J_cell hc
    have f : ∀ c j, ¬ (c = 90 ∨ c = 91 ∨ (c = 424 ∧ j = n) ∨ (c = 412 ∧ (j = 20 ∨ j = 33))) → Mz.1 c j = M.1 c j := fun c j hc => by rw [ez, rg_Il (by omega), rg_Il (by omega), rg_Il (by omega), eA, (of c (by omega) (by omega)).1]
    have f2 : ∀ c, ¬ (c = 90 ∨ c = 91 ∨ c = 432) → Mz.2 c = M.2 c := fun c hc => (show Mz.2 c = Mw.2 c by rw [ez]; rfl).trans ((eB c (by omega)).trans ((of c (by omega) (by omega)).2))

    have k : ∀ c j, ¬ (c = 424 ∨ c = 412) → Mz.1 c j = M2.1 c j := fun c j hc => by rw [ez, rg_Il (by omega), rg_Il (by omega), rg_Il (by omega), eA]
    have k2 : Mz.2 90 = M2.2 90 := (show Mz.2 90 = Mw.2 90 by rw [ez]; rfl).trans (eB 90 (by omega))
    have va : Mz.1 412 20 = nI (n + 1) := by rw [ez, rm_get]
    have vb : Mz.1 424 n = w := by rw [ez, rg_Il (by omega), rm_get]
    have v9 : Mz.1 90 1 = nI (n + 1) := (k 90 1 (by omega)).trans vs.1
    have h6 := vs.2.1
    have sz : rg_sz Mz 90 = n + 1 := by unfold rg_sz; rw [v9, nI_clamp (by omega)]
    have z2 : Mz.2 432 0 = r1.toInt64 := by rw [← o, ez]; rfl
    refine ⟨by rw [ez, rg_Il (by omega), rg_Il (by omega), rm_get]; exact q, fun _ => by rw [z2, er, er2], ⟨I_w_k (rg_Inv_w h) (f 1 4 (by omega)) (f 412 4 (by omega)) (fun c hc => funext fun j => f c j (by omega)) (f2 5 (by omega)) (f2 416 (by omega)), I_p_k (rg_Inv_p h) (f 0 9 (by omega)) (f 412 5 (by omega)), I_s_k (rg_Inv_s h) (fun k hk => f 6 k (by omega)) (fun k h1 h2 => f 412 k (by omega)), I_t_k (rg_Inv_t h) (funext fun j => f 7 j (by omega)) (funext fun j => f 420 j (by omega)), ?_, I_v_k (rg_Inv_s h) (rg_Inv_v h) (f 6 4 (by omega)) (f 1 4 (by omega)) (f 0 9 (by omega)) (fun c hc => funext fun j => f c j (by omega)) (fun c c1 c2 => f2 c (by omega)), I_o_k (rg_Inv_of h) (fun k hk => f 6 k (by omega)) (f 1 4 (by omega)) (f 0 9 (by omega)) (f 0 10 (by omega)) (f 412 24 (by omega)) (fun c hc => funext fun j => f c j (by omega)) (fun c c1 c2 => f2 c (by omega)), I_c_k (rg_Inv_c h) (f 1 4 (by omega)) (f 0 11 (by omega)) (f 412 29 (by omega)) (fun c hc => funext fun j => f c j (by omega)), I_y_k (rg_Inv_y h) (f 0 12 (by omega)) (f 412 25 (by omega)), I_z_k (rg_Inv_s h) (rg_Inv_of h) (rg_Inv_z h) (f 6 4 (by omega)) (f 0 10 (by omega)) (fun c hc => funext fun j => f c j (by omega))⟩⟩
    rw [I_d, sz]
    refine ⟨rg_VS_k vs (k 1 4 (by omega)) (fun c _ _ => funext fun j => k c j (by omega)) (funext fun j => k 90 j (by omega)) (funext fun j => k 91 j (by omega)) k2, by rw [va, v9], fun i hi => ?_⟩
    by_cases c : i = n
    · rw [c, vb, k 91 n (by omega), ew]
    · rw [f 424 i (by omega), k 91 i (by omega), eo i (by omega)]
      exact hd.2.2 i (by omega)
  · rw [em] at e2
    refine rg_ref h ?_ e2 (by decide)
    exact rm_go_1 (rg_b0 (fun q => rg_x2a hx rg_s2 ((rm_iw_i h).mp q)))
  · rw [em] at e2
    refine rg_ref h ?_ e2 (by decide)
    have z := rg_x2b hx rg_s2.symm
    exact rm_go_2 (rg_b1 ((rm_iw_i h).mpr z.1)) (rg_b0 (fun q => z.2 (by rw [← (rg_Inv_d h).2.1]; exact rg_nle.mp q)))
theorem pre_clear {M : rg_Mem} (h : rg_Inv M) : rm_CI (rg_J (rg_I (rg_I (rg_I (rg_I M 90 1 0) 90 2 0) 90 3 (-1)) 90 4 0) 90 5 0) := rg_mo_mi h (rg_mo_J (rg_mo_I (rg_mo_I (rg_mo_I (rg_mo_I rg_mo_rf (by omega)) (by omega)) (by omega)) (by omega)) (by omega))
theorem sim_clear {M : rg_Mem} {r1 r2 : Int32} (h : rg_Inv M) (e1 : r1 = (M.1 90 1)) (e2 : (fun r => r = ((rg_J (rg_I (rg_I (rg_I (rg_I M 90 1 0) 90 2 0) 90 3 (-1)) 90 4 0) 90 5 0)).1 412 20) r2) : r1 = r2 ∧ rg_Inv (rg_I (rg_I ((rg_J (rg_I (rg_I (rg_I (rg_I M 90 1 0) 90 2 0) 90 3 (-1)) 90 4 0) 90 5 0)) 412 33 0) 412 20 0) := by
  obtain ⟨Mz, ez⟩ : ∃ Z, Z = rg_I (rg_I ((rg_J (rg_I (rg_I (rg_I (rg_I M 90 1 0) 90 2 0) 90 3 (-1)) 90 4 0) 90 5 0)) 412 33 0) 412 20 0 := ⟨_, rfl⟩
  rw [← ez]
  have e2 : r2 = M.1 412 20 := e2.trans (by rw [rg_J_1, rg_I_cell (by omega), rg_I_cell (by omega), rg_I_cell (by omega), rg_I_cell (by omega)])
  have f : ∀ c j, ¬ ((c = 90 ∧ 1 ≤ j ∧ j ≤ 4) ∨ (c = 412 ∧ (j = 20 ∨ j = 33))) → Mz.1 c j = M.1 c j := fun c j hc => by rw [ez, rg_Il (by omega), rg_Il (by omega), rg_J_1, rg_Il (by omega), rg_Il (by omega), rg_Il (by omega), rg_Il (by omega)]
  have f2 : ∀ c, ¬ (c = 90) → Mz.2 c = M.2 c := fun c hc => by rw [ez, rg_I_2, rg_I_2, rg_J_cell hc, rg_I_2, rg_I_2, rg_I_2, rg_I_2]
  have v1 : Mz.1 90 1 = 0 := by rw [ez, rg_Il (by omega), rg_Il (by omega), rg_J_1, rg_Il (by omega), rg_Il (by omega), rg_Il (by omega), rm_get]
  have v2 : Mz.1 90 2 = 0 := by rw [ez, rg_Il (by omega), rg_Il (by omega), rg_J_1, rg_Il (by omega), rg_Il (by omega), rm_get]
  have v3 : Mz.1 90 3 = -1 := by rw [ez, rg_Il (by omega), rg_Il (by omega), rg_J_1, rg_Il (by omega), rm_get]
  have v4 : Mz.1 90 4 = 0 := by rw [ez, rg_Il (by omega), rg_Il (by omega), rg_J_1, rm_get]
  have w1 : Mz.1 412 20 = 0 := by rw [ez, rm_get]
  have sz : rg_sz Mz 90 = 0 := by unfold rg_sz; rw [v1]; rfl
  refine ⟨e1.trans ((rg_Inv_d h).2.1.symm.trans e2.symm), ⟨I_w_k (rg_Inv_w h) (f 1 4 (by omega)) (f 412 4 (by omega)) (fun c hc => funext fun j => f c j (by omega)) (f2 5 (by omega)) (f2 416 (by omega)), I_p_k (rg_Inv_p h) (f 0 9 (by omega)) (f 412 5 (by omega)), I_s_k (rg_Inv_s h) (fun k hk => f 6 k (by omega)) (fun k h1 h2 => f 412 k (by omega)), I_t_k (rg_Inv_t h) (funext fun j => f 7 j (by omega)) (funext fun j => f 420 j (by omega)), ?_, I_v_k (rg_Inv_s h) (rg_Inv_v h) (f 6 4 (by omega)) (f 1 4 (by omega)) (f 0 9 (by omega)) (fun c hc => funext fun j => f c j (by omega)) (fun c c1 c2 => f2 c (by omega)), I_o_k (rg_Inv_of h) (fun k hk => f 6 k (by omega)) (f 1 4 (by omega)) (f 0 9 (by omega)) (f 0 10 (by omega)) (f 412 24 (by omega)) (fun c hc => funext fun j => f c j (by omega)) (fun c c1 c2 => f2 c (by omega)), I_c_k (rg_Inv_c h) (f 1 4 (by omega)) (f 0 11 (by omega)) (f 412 29 (by omega)) (fun c hc => funext fun j => f c j (by omega)), I_y_k (rg_Inv_y h) (f 0 12 (by omega)) (f 412 25 (by omega)), I_z_k (rg_Inv_s h) (rg_Inv_of h) (rg_Inv_z h) (f 6 4 (by omega)) (f 0 10 (by omega)) (fun c hc => funext fun j => f c j (by omega))⟩⟩
  rw [I_d, sz]
  exact ⟨⟨v1, by omega, fun k hk => absurd hk (Nat.not_lt_zero _), v2, v3, v4, by rw [ez, rg_I_2, rg_I_2, rg_J_same]; rfl⟩, by rw [v1, w1], fun k hk => absurd hk (Nat.not_lt_zero _)⟩
theorem pre_why {M : rg_Mem} (h : rg_Inv M) : rm_CI (M) := rg_Inv_mi h
theorem sim_why {M : rg_Mem} {r1 r2 : Int32} (h : rg_Inv M) (e1 : r1 = (M.1 0 12)) (e2 : (fun r => r = ((M)).1 412 25) r2) : r1 = r2 ∧ rg_Inv (rg_I ((M)) 412 33 0) := ⟨e1.trans (((rg_Inv_y h).symm).trans (Eq.symm e2)), rg_Inv_same h (rg_same_t (by omega))⟩
theorem pre_give {M Mw : rg_Mem} {k : Int32} {x : Int32} {y : Int32} {z : Int32} (h : rg_Inv M) (e1 : (fun k M1 => (k = 0 ∧ ∃ r M2, ((fun r => (((¬ x < 0 ∧ x < 4) ∧ rg_hl M y) ∧ rg_in z 0 10) ∧ r = M.1 (13 + x.toNatClampNeg) y.toNatClampNeg) r ∧ M2 = rg_I M (13 + x.toNatClampNeg) y.toNatClampNeg z) ∧ M1 = rg_J M2 432 0 r.toInt64) ∨ ((fun X => (¬ ((¬ x < 0 ∧ x < 4) ∧ rg_hl M y) ∧ X = "java/lang/IndexOutOfBoundsException") ∨ (((¬ x < 0 ∧ x < 4) ∧ rg_hl M y) ∧ ¬ (rg_in z 0 10) ∧ X = "java/lang/IllegalArgumentException")) "java/lang/IndexOutOfBoundsException" ∧ k = 1 ∧ M1 = M) ∨ ((fun X => (¬ ((¬ x < 0 ∧ x < 4) ∧ rg_hl M y) ∧ X = "java/lang/IndexOutOfBoundsException") ∨ (((¬ x < 0 ∧ x < 4) ∧ rg_hl M y) ∧ ¬ (rg_in z 0 10) ∧ X = "java/lang/IllegalArgumentException")) "java/lang/IllegalArgumentException" ∧ k = 2 ∧ M1 = M)) k Mw) : rm_CI Mw := by
  rcases e1 with ⟨_, r1, M2, hs, em⟩ | ⟨_, _, em⟩ | ⟨_, _, em⟩
  · have g : rg_mo M M2 := by
      obtain ⟨⟨⟨⟨h1, h2⟩, h3⟩, er⟩, e3⟩ := hs
      obtain ⟨b, hb, eb, eb2⟩ := rg_x03N h1
      rw [e3]
      exact rg_mo_I rg_mo_rf (by omega)
    rw [em]
    exact rg_mo_mi h (rg_mo_o g)
  · rw [em]
    exact rg_mo_mi h rg_mo_rf
  · rw [em]
    exact rg_mo_mi h rg_mo_rf
theorem sim_give {M Mw Mz : rg_Mem} {k r : Int32} {x : Int32} {y : Int32} {z : Int32} (h : rg_Inv M) (e1 : (fun k M1 => (k = 0 ∧ ∃ r M2, ((fun r => (((¬ x < 0 ∧ x < 4) ∧ rg_hl M y) ∧ rg_in z 0 10) ∧ r = M.1 (13 + x.toNatClampNeg) y.toNatClampNeg) r ∧ M2 = rg_I M (13 + x.toNatClampNeg) y.toNatClampNeg z) ∧ M1 = rg_J M2 432 0 r.toInt64) ∨ ((fun X => (¬ ((¬ x < 0 ∧ x < 4) ∧ rg_hl M y) ∧ X = "java/lang/IndexOutOfBoundsException") ∨ (((¬ x < 0 ∧ x < 4) ∧ rg_hl M y) ∧ ¬ (rg_in z 0 10) ∧ X = "java/lang/IllegalArgumentException")) "java/lang/IndexOutOfBoundsException" ∧ k = 1 ∧ M1 = M) ∨ ((fun X => (¬ ((¬ x < 0 ∧ x < 4) ∧ rg_hl M y) ∧ X = "java/lang/IndexOutOfBoundsException") ∨ (((¬ x < 0 ∧ x < 4) ∧ rg_hl M y) ∧ ¬ (rg_in z 0 10) ∧ X = "java/lang/IllegalArgumentException")) "java/lang/IllegalArgumentException" ∧ k = 2 ∧ M1 = M)) k Mw) (e2 : (fun r M1 => (¬ rm_go (rg_b (rm_in x 0 3 ∧ rm_il Mw y)) (rg_b (rm_in z 0 10)) 1 = 0 ∧ r = 0 ∧ M1 = rg_I Mw 412 33 (rm_go (rg_b (rm_in x 0 3 ∧ rm_il Mw y)) (rg_b (rm_in z 0 10)) 1)) ∨ (rm_go (rg_b (rm_in x 0 3 ∧ rm_il Mw y)) (rg_b (rm_in z 0 10)) 1 = 0 ∧ r = Mw.1 423 (36 * x.toNatClampNeg + y.toNatClampNeg) - 1 ∧ M1 = rg_I (rg_I Mw 412 33 (rm_go (rg_b (rm_in x 0 3 ∧ rm_il Mw y)) (rg_b (rm_in z 0 10)) 1)) 423 (36 * x.toNatClampNeg + y.toNatClampNeg) (z + 1))) r Mz) : Mz.1 412 33 = k ∧ (k = 0 → Mz.2 432 0 = r.toInt64) ∧ rg_Inv Mz := by
  rcases e1 with ⟨rfl, r1, M2, ⟨⟨⟨⟨h1, h2⟩, h3⟩, er⟩, e3⟩, em⟩ | ⟨hx, rfl, em⟩ | ⟨hx, rfl, em⟩
  · obtain ⟨a, ha, ha36, e, ea⟩ := rg_hlN h h2
    obtain ⟨b, hb, eb, eb2⟩ := rg_x03N h1
    obtain ⟨t, ht, rfl⟩ := rg_x10N h3
    rw [ea, eb2] at e3 er e2
    have g : rg_mo M Mw := by rw [em, e3]; exact rg_mo_o (rg_mo_I rg_mo_rf (by omega))
    rcases e2 with ⟨q, _⟩ | ⟨q, er2, ez⟩
    · exact absurd (rm_go_0 (rg_b1 ⟨rg_x03.mpr h1, (rg_il_g h g).mpr h2⟩) (rg_b1 (rg_in_rm.mp h3)) rg_n1) q
    have o : Mw.2 432 0 = r1.toInt64 := by rw [em]; exact rg_J_same
    have eA : Mw.1 = M2.1 := by rw [em]; rfl
    have eB : ∀ c, c ≠ 432 → Mw.2 c = M2.2 c := fun c hc => by rw [em]; exact rg_J_cell hc
    have f : ∀ c j, ¬ ((c = 13 + b ∧ j = a) ∨ (c = 423 ∧ j = 36 * b + a) ∨ (c = 412 ∧ j = 33)) → Mz.1 c j = M.1 c j := fun c j hc => by rw [ez, rg_Il (by omega), rg_Il (by omega), eA, e3, rg_Il (by omega)]
    have f2 : ∀ c, ¬ (c = 432) → Mz.2 c = M.2 c := fun c hc => (show Mz.2 c = Mw.2 c by rw [ez]; rfl).trans ((eB c (by omega)).trans ((show M2.2 c = M.2 c by rw [e3]; rfl)))
    have hv := (rg_Inv_v h).2.1
    have h36 := rg_Inv_36 h
    have nl : rg_nl Mz = rg_nl M := by unfold rg_nl; rw [f 6 4 (by omega)]
    have np : rg_np Mz = rg_np M := by unfold rg_np; rw [f 0 9 (by omega)]

    have va : Mz.1 423 (36 * b + a) = nI t + 1 := by rw [ez, rm_get]
    have vb : Mz.1 (13 + b) a = nI t := by rw [ez, rg_Il (by omega), rg_Il (by omega), eA, e3, rm_get]
    have z2 : Mz.2 432 0 = r1.toInt64 := by rw [← o, ez]; rfl
    refine ⟨by rw [ez, rg_Il (by omega), rm_get]; exact q, fun _ => by rw [z2, er, er2, g.1 423 (by omega), (hv a ha).2.2.2.2.2.2 b hb], ⟨I_w_k (rg_Inv_w h) (f 1 4 (by omega)) (f 412 4 (by omega)) (fun c hc => funext fun j => f c j (by omega)) (f2 5 (by omega)) (f2 416 (by omega)), I_p_k (rg_Inv_p h) (f 0 9 (by omega)) (f 412 5 (by omega)), I_s_k (rg_Inv_s h) (fun k hk => f 6 k (by omega)) (fun k h1 h2 => f 412 k (by omega)), I_t_k (rg_Inv_t h) (funext fun j => f 7 j (by omega)) (funext fun j => f 420 j (by omega)), I_d_k (rg_Inv_d h) (f 1 4 (by omega)) (fun c h1 h2 => funext fun j => f c j (by omega)) (funext fun j => f 90 j (by omega)) (funext fun j => f 91 j (by omega)) (f2 90 (by omega)) (f 412 20 (by omega)) (funext fun j => f 424 j (by omega)), ?_, I_o_k (rg_Inv_of h) (fun k hk => f 6 k (by omega)) (f 1 4 (by omega)) (f 0 9 (by omega)) (f 0 10 (by omega)) (f 412 24 (by omega)) (fun c hc => funext fun j => f c j (by omega)) (fun c c1 c2 => f2 c (by omega)), I_c_k (rg_Inv_c h) (f 1 4 (by omega)) (f 0 11 (by omega)) (f 412 29 (by omega)) (fun c hc => funext fun j => f c j (by omega)), I_y_k (rg_Inv_y h) (f 0 12 (by omega)) (f 412 25 (by omega)), I_z_k (rg_Inv_s h) (rg_Inv_of h) (rg_Inv_z h) (f 6 4 (by omega)) (f 0 10 (by omega)) (fun c hc => funext fun j => f c j (by omega))⟩⟩
    refine ⟨(funext fun j => f 419 j (by omega)).trans ((rg_Inv_v h).1.trans (funext fun j => (f 9 j (by omega)).symm)), fun l hl => ?_, fun k hk => ?_, fun j k hj hk => ?_⟩
    · have hl : l < rg_nl M := by omega
      refine I_v1_g (hv l hl) (rg_VS_k (hv l hl).1 (f 1 4 (by omega)) (fun c _ _ => funext fun j => f c j (by omega)) (funext fun j => f _ j (by omega)) (funext fun j => f _ j (by omega)) (f2 _ (by omega))) (funext fun j => f _ j (by omega)) (funext fun j => f _ j (by omega)) (Nat.le_of_eq np.symm) (f 9 l (by omega)) (f 418 l (by omega)) (fun k hk => f 417 _ (by omega)) ?_ ?_ (fun j hj => ?_)
      · rw [f 421 l (by omega), f 10 l (by omega)]; exact (hv l hl).2.2.2.2.1
      · rw [f 422 l (by omega), f 11 l (by omega)]; exact (hv l hl).2.2.2.2.2.1
      · by_cases c : j = b ∧ l = a
        · rw [c.1, c.2, va, vb, Int32.add_sub_cancel]
        · rw [f (13 + j) l (by omega), f 423 _ (by omega)]; exact (hv l hl).2.2.2.2.2.2 j hj
    · rw [f 421 k (by omega), f 422 k (by omega)]
      exact (rg_Inv_v h).2.2.1 k hk
    · rw [nl]
      by_cases c : j = b ∧ k = a
      · rw [c.1, c.2, va]
        exact ⟨fun z => by omega, t + 1, by omega, by rw [show (1 : Int32) = nI 1 from rfl, nI_add]⟩
      · rw [f 423 _ (by omega)]
        exact (rg_Inv_v h).2.2.2 j k hj hk
  · rw [em] at e2
    refine rg_ref h ?_ e2 (by decide)
    exact rm_go_1 (rg_b0 (fun q => rg_x2a hx rg_s1 ⟨rg_x03.mp q.1, (rg_il_i h).mp q.2⟩))
  · rw [em] at e2
    refine rg_ref h ?_ e2 (by decide)
    have z := rg_x2b hx rg_s1.symm
    exact rm_go_2 (rg_b1 ⟨rg_x03.mpr z.1.1, (rg_il_i h).mpr z.1.2⟩) (rg_b0 (fun q => z.2 (rg_in_rm.mpr q)))
theorem pre_write {M Mw : rg_Mem} {k : Int32} {t : Int32} {x : Int32} {y : Int32} {z : Int32} (h : rg_Inv M) (e1 : (fun k M1 => (k = 0 ∧ ∃ r M2, ((fun r => ((rg_cp M t ∧ rg_has M z) ∧ ¬ rg_tw M t x y = -1) ∧ r = rg_tw M t x y) r ∧ M2 = rg_I M (110 + 38 * t.toNatClampNeg + x.toNatClampNeg) y.toNatClampNeg z) ∧ M1 = rg_J M2 432 0 r.toInt64) ∨ ((fun X => ¬ ((rg_cp M t ∧ rg_has M z) ∧ ¬ rg_tw M t x y = -1) ∧ X = "java/lang/IndexOutOfBoundsException") "java/lang/IndexOutOfBoundsException" ∧ k = 1 ∧ M1 = M)) k Mw) : rm_CI Mw := by
  rcases e1 with ⟨_, r1, M2, hs, em⟩ | ⟨_, _, em⟩
  · have g : rg_mo M M2 := by
      obtain ⟨⟨⟨⟨h1, h2⟩, h3⟩, er⟩, e3⟩ := hs
      obtain ⟨a, ha, ha8, e, ea⟩ := rg_cpN h h1
      have os := rg_tw_os h1 h3
      have hx36 := rg_in_lt (rg_lit_in (n := 36) (m := 36) rfl os.1 os.2.1)
      rw [e3, ea]
      exact rg_mo_I rg_mo_rf (by omega)
    rw [em]
    exact rg_mo_mi h (rg_mo_o g)
  · rw [em]
    exact rg_mo_mi h rg_mo_rf
theorem sim_write {M Mw Mz : rg_Mem} {k r : Int32} {t : Int32} {x : Int32} {y : Int32} {z : Int32} (h : rg_Inv M) (e1 : (fun k M1 => (k = 0 ∧ ∃ r M2, ((fun r => ((rg_cp M t ∧ rg_has M z) ∧ ¬ rg_tw M t x y = -1) ∧ r = rg_tw M t x y) r ∧ M2 = rg_I M (110 + 38 * t.toNatClampNeg + x.toNatClampNeg) y.toNatClampNeg z) ∧ M1 = rg_J M2 432 0 r.toInt64) ∨ ((fun X => ¬ ((rg_cp M t ∧ rg_has M z) ∧ ¬ rg_tw M t x y = -1) ∧ X = "java/lang/IndexOutOfBoundsException") "java/lang/IndexOutOfBoundsException" ∧ k = 1 ∧ M1 = M)) k Mw) (e2 : (fun r M1 => (¬ rm_go (rg_b ((rm_ic Mw t ∧ rm_in x 0 (Mw.1 430 t.toNatClampNeg - 1) ∧ rm_iw Mw z) ∧ rm_in y 0 (rm_so Mw t x.toNatClampNeg - 1))) 1 1 = 0 ∧ r = 0 ∧ M1 = rg_I Mw 412 33 (rm_go (rg_b ((rm_ic Mw t ∧ rm_in x 0 (Mw.1 430 t.toNatClampNeg - 1) ∧ rm_iw Mw z) ∧ rm_in y 0 (rm_so Mw t x.toNatClampNeg - 1))) 1 1)) ∨ (rm_go (rg_b ((rm_ic Mw t ∧ rm_in x 0 (Mw.1 430 t.toNatClampNeg - 1) ∧ rm_iw Mw z) ∧ rm_in y 0 (rm_so Mw t x.toNatClampNeg - 1))) 1 1 = 0 ∧ r = Mw.1 428 (216 * t.toNatClampNeg + 6 * x.toNatClampNeg + y.toNatClampNeg) ∧ M1 = rg_I (rg_I Mw 412 33 (rm_go (rg_b ((rm_ic Mw t ∧ rm_in x 0 (Mw.1 430 t.toNatClampNeg - 1) ∧ rm_iw Mw z) ∧ rm_in y 0 (rm_so Mw t x.toNatClampNeg - 1))) 1 1)) 428 (216 * t.toNatClampNeg + 6 * x.toNatClampNeg + y.toNatClampNeg) z)) r Mz) : Mz.1 412 33 = k ∧ (k = 0 → Mz.2 432 0 = r.toInt64) ∧ rg_Inv Mz := by
  rcases e1 with ⟨rfl, r1, M2, ⟨⟨⟨⟨h1, h2⟩, h3⟩, er⟩, e3⟩, em⟩ | ⟨hx, rfl, em⟩
  · obtain ⟨a, ha, ha8, e, ea⟩ := rg_cpN h h1
    have os := rg_tw_os h1 h3
    obtain ⟨xa, hxa, rfl⟩ := vp_in_of (rg_lit_in (x := x) (n := 36) (m := 36) rfl os.1 os.2.1) (by omega)
    obtain ⟨ya, hya, rfl⟩ := vp_in_of (rg_lit_in (x := y) (n := 6) (m := 6) rfl os.2.2.1 os.2.2.2) (by omega)
    have w := (rg_tw_ne h h1).mp h3
    rw [ea, nI_clamp (by omega)] at w
    rw [ea, nI_clamp (n := xa) (by omega), nI_clamp (n := ya) (by omega)] at e3 e2
    have g : rg_mo M Mw := by rw [em, e3]; exact rg_mo_o (rg_mo_I rg_mo_rf (by omega))
    rcases e2 with ⟨q, _⟩ | ⟨q, er2, ez⟩
    · exact absurd (rm_go_0 (rg_b1 ⟨⟨(rg_ic_g h g).mpr h1, by rw [g.1 430 (by omega)]; exact w.1, (rg_iw_g h g).mpr h2⟩, by rw [rm_so_g g]; exact w.2⟩) rg_n1 rg_n1) q
    have o : Mw.2 432 0 = r1.toInt64 := by rw [em]; exact rg_J_same
    have eA : Mw.1 = M2.1 := by rw [em]; rfl
    have eB : ∀ c, c ≠ 432 → Mw.2 c = M2.2 c := fun c hc => by rw [em]; exact rg_J_cell hc
    have f : ∀ c j, ¬ ((c = 110 + 38 * a + xa ∧ j = ya) ∨ (c = 428 ∧ j = 216 * a + 6 * xa + ya) ∨ (c = 412 ∧ j = 33)) → Mz.1 c j = M.1 c j := fun c j hc => by rw [ez, rg_Il (by omega), rg_Il (by omega), eA, e3, rg_Il (by omega)]
    have f2 : ∀ c, ¬ (c = 432) → Mz.2 c = M.2 c := fun c hc => (show Mz.2 c = Mw.2 c by rw [ez]; rfl).trans ((eB c (by omega)).trans ((show M2.2 c = M.2 c by rw [e3]; rfl)))

    have va : Mz.1 428 (216 * a + 6 * xa + ya) = z := by rw [ez, rm_get]
    have vb : Mz.1 (110 + 38 * a + xa) ya = z := by rw [ez, rg_Il (by omega), rg_Il (by omega), eA, e3, rm_get]
    have z2 : Mz.2 432 0 = r1.toInt64 := by rw [← o, ez]; rfl
    have hC := rg_Inv_c h
    have hn1 : ¬ t = -1 := fun z => h1.1 (by rw [z]; decide)
    have fh : rm_fh M t xa ya := Classical.byContradiction (fun z => h3 ((rg_tw_i h (Or.inr h1) hxa hya).2 z))
    have tv := (rg_tw_i h (Or.inr h1) hxa hya).1 fh
    have wo : rm_wo M t xa ya = M.1 428 (216 * a + 6 * xa + ya) := by unfold rm_wo; rw [if_neg hn1, ea]
    have hcl : xa < rm_cl M a ∧ ya < rm_cz M a xa := by
      have k1 := (hC.2.2.2 a ha).1
      have lo : rm_lo M t = nI (rm_cl M a) := by unfold rm_lo; rw [if_neg hn1, ea]; exact k1.1
      have e9 : xa < rm_cl M a := by
        obtain ⟨j, hj, ej⟩ := rm_in_le k1.1 (by omega) w.1
        rw [(nI_eq (by omega) (by omega)).mp ej]
        exact hj
      refine ⟨e9, ?_⟩
      unfold rm_fh rm_so at fh
      rw [lo, if_pos (nI_lt e9 (by omega)), if_neg hn1, ea, ((hC.2.2.2 a ha).2 xa hxa).1 e9 |>.1] at fh
      have h6 := (((hC.2.2.2 a ha).2 xa hxa).1 e9).2
      rcases Nat.lt_or_ge ya (rm_cz M a xa) with c | c
      · exact c
      · exact absurd (nI_le c (by omega)) fh
    have hm : ∀ u, rg_has M u → rg_has Mz u := fun u hu => ⟨hu.1, by rw [f 1 4 (by omega)]; exact hu.2⟩
    have nc : rg_nc Mz = rg_nc M := by unfold rg_nc; rw [f 0 11 (by omega)]
    refine ⟨by rw [ez, rg_Il (by omega), rm_get]; exact q, fun _ => by rw [z2, er, er2, g.1 428 (by omega), tv.1, wo], ⟨I_w_k (rg_Inv_w h) (f 1 4 (by omega)) (f 412 4 (by omega)) (fun c hc => funext fun j => f c j (by omega)) (f2 5 (by omega)) (f2 416 (by omega)), I_p_k (rg_Inv_p h) (f 0 9 (by omega)) (f 412 5 (by omega)), I_s_k (rg_Inv_s h) (fun k hk => f 6 k (by omega)) (fun k h1 h2 => f 412 k (by omega)), I_t_k (rg_Inv_t h) (funext fun j => f 7 j (by omega)) (funext fun j => f 420 j (by omega)), I_d_k (rg_Inv_d h) (f 1 4 (by omega)) (fun c h1 h2 => funext fun j => f c j (by omega)) (funext fun j => f 90 j (by omega)) (funext fun j => f 91 j (by omega)) (f2 90 (by omega)) (f 412 20 (by omega)) (funext fun j => f 424 j (by omega)), I_v_k (rg_Inv_s h) (rg_Inv_v h) (f 6 4 (by omega)) (f 1 4 (by omega)) (f 0 9 (by omega)) (fun c hc => funext fun j => f c j (by omega)) (fun c c1 c2 => f2 c (by omega)), I_o_k (rg_Inv_of h) (fun k hk => f 6 k (by omega)) (f 1 4 (by omega)) (f 0 9 (by omega)) (f 0 10 (by omega)) (f 412 24 (by omega)) (fun c hc => funext fun j => f c j (by omega)) (fun c c1 c2 => f2 c (by omega)), ?_, I_y_k (rg_Inv_y h) (f 0 12 (by omega)) (f 412 25 (by omega)), I_z_k (rg_Inv_s h) (rg_Inv_of h) (rg_Inv_z h) (f 6 4 (by omega)) (f 0 10 (by omega)) (fun c hc => funext fun j => f c j (by omega))⟩⟩
    refine ⟨by rw [nc, f 0 11 (by omega)]; exact hC.1, by rw [nc]; exact hC.2.1, by rw [f 412 29 (by omega), f 0 11 (by omega)]; exact hC.2.2.1, fun c hc => ?_⟩
    have h8 := hC.2.1
    refine I_c1_g (hC.2.2.2 c (by omega)) hm (f 430 c (by omega)) (fun x hx => f 429 _ (by omega)) (fun x y hx hy => ?_)
    by_cases k : c = a ∧ x = xa ∧ y = ya
    · obtain ⟨k1, k2, k3⟩ := k
      subst k1 k2 k3
      exact Or.inr ⟨hcl, by rw [va, vb], by rw [va]; exact hm _ h2⟩
    · exact Or.inl ⟨f _ y (by omega), f 428 _ (by omega)⟩
  · rw [em] at e2
    refine rg_ref h ?_ e2 (by decide)
    refine rm_go_1 (rg_b0 (fun q => hx.1 ?_))
    have k1 := (rg_ic_i h).mp q.1.1
    exact ⟨⟨k1, (rm_iw_i h).mp q.1.2.2⟩, (rg_tw_ne h k1).mpr ⟨q.1.2.1, q.2⟩⟩
theorem pre_hide {M Mw : rg_Mem} {k : Int32} {x : Int32} {y : Int32} (h : rg_Inv M) (hy : y = 0 ∨ y = 1) (e1 : (fun k M1 => (k = 0 ∧ ∃ r M2, ((fun r => rg_hl M x ∧ r = M.1 10 x.toNatClampNeg) r ∧ M2 = rg_I M 10 x.toNatClampNeg y) ∧ M1 = rg_J M2 432 0 (if r = 0 then 0 else 1)) ∨ ((fun X => ¬ rg_hl M x ∧ X = "java/lang/IndexOutOfBoundsException") "java/lang/IndexOutOfBoundsException" ∧ k = 1 ∧ M1 = M)) k Mw) : rm_CI Mw := by
  rcases e1 with ⟨_, r1, M2, hs, em⟩ | ⟨_, _, em⟩
  · have g : rg_mo M M2 := by rw [hs.2]; exact rg_mo_I rg_mo_rf (by omega)
    rw [em]
    exact rg_mo_mi h (rg_mo_o g)
  · rw [em]
    exact rg_mo_mi h rg_mo_rf
theorem sim_hide {M Mw Mz : rg_Mem} {k r : Int32} {x : Int32} {y : Int32} (h : rg_Inv M) (hy : y = 0 ∨ y = 1) (e1 : (fun k M1 => (k = 0 ∧ ∃ r M2, ((fun r => rg_hl M x ∧ r = M.1 10 x.toNatClampNeg) r ∧ M2 = rg_I M 10 x.toNatClampNeg y) ∧ M1 = rg_J M2 432 0 (if r = 0 then 0 else 1)) ∨ ((fun X => ¬ rg_hl M x ∧ X = "java/lang/IndexOutOfBoundsException") "java/lang/IndexOutOfBoundsException" ∧ k = 1 ∧ M1 = M)) k Mw) (e2 : (fun r M1 => (¬ rm_go (rg_b (rm_il Mw x)) 1 1 = 0 ∧ r = 0 ∧ M1 = rg_I Mw 412 33 (rm_go (rg_b (rm_il Mw x)) 1 1)) ∨ (rm_go (rg_b (rm_il Mw x)) 1 1 = 0 ∧ r = Mw.1 421 x.toNatClampNeg ∧ M1 = rg_I (rg_I Mw 412 33 (rm_go (rg_b (rm_il Mw x)) 1 1)) 421 x.toNatClampNeg y)) r Mz) : Mz.1 412 33 = k ∧ (k = 0 → Mz.2 432 0 = (if r = 0 then 0 else 1)) ∧ rg_Inv Mz := by
  rcases e1 with ⟨rfl, r1, M2, ⟨⟨h1, er⟩, e3⟩, em⟩ | ⟨hx, rfl, em⟩
  · obtain ⟨a, ha, ha36, e, ea⟩ := rg_hlN h h1
    rw [ea] at e3 er e2
    have g : rg_mo M Mw := by rw [em, e3]; exact rg_mo_o (rg_mo_I rg_mo_rf (by omega))
    rcases e2 with ⟨q, _⟩ | ⟨q, er2, ez⟩
    · exact absurd (rm_go_0 (rg_b1 ((rg_il_g h g).mpr h1)) rg_n1 rg_n1) q
    have o : Mw.2 432 0 = (if r1 = 0 then 0 else 1) := by rw [em]; exact rg_J_same
    have eA : Mw.1 = M2.1 := by rw [em]; rfl
    have eB : ∀ c, c ≠ 432 → Mw.2 c = M2.2 c := fun c hc => by rw [em]; exact rg_J_cell hc
    have f : ∀ c j, ¬ ((c = 10 ∧ j = a) ∨ (c = 421 ∧ j = a) ∨ (c = 412 ∧ j = 33)) → Mz.1 c j = M.1 c j := fun c j hc => by rw [ez, rg_Il (by omega), rg_Il (by omega), eA, e3, rg_Il (by omega)]
    have f2 : ∀ c, ¬ (c = 432) → Mz.2 c = M.2 c := fun c hc => (show Mz.2 c = Mw.2 c by rw [ez]; rfl).trans ((eB c (by omega)).trans ((show M2.2 c = M.2 c by rw [e3]; rfl)))
    have hv := (rg_Inv_v h).2.1
    have h36 := rg_Inv_36 h
    have nl : rg_nl Mz = rg_nl M := by unfold rg_nl; rw [f 6 4 (by omega)]
    have np : rg_np Mz = rg_np M := by unfold rg_np; rw [f 0 9 (by omega)]

    have va : Mz.1 421 a = y := by rw [ez, rm_get]
    have vb : Mz.1 10 a = y := by rw [ez, rg_Il (by omega), rg_Il (by omega), eA, e3, rm_get]
    have z2 : Mz.2 432 0 = (if r1 = 0 then 0 else 1) := by rw [← o, ez]; rfl
    refine ⟨by rw [ez, rg_Il (by omega), rm_get]; exact q, fun _ => by rw [z2, er, er2, g.1 421 (by omega), (hv a ha).2.2.2.2.1], ⟨I_w_k (rg_Inv_w h) (f 1 4 (by omega)) (f 412 4 (by omega)) (fun c hc => funext fun j => f c j (by omega)) (f2 5 (by omega)) (f2 416 (by omega)), I_p_k (rg_Inv_p h) (f 0 9 (by omega)) (f 412 5 (by omega)), I_s_k (rg_Inv_s h) (fun k hk => f 6 k (by omega)) (fun k h1 h2 => f 412 k (by omega)), I_t_k (rg_Inv_t h) (funext fun j => f 7 j (by omega)) (funext fun j => f 420 j (by omega)), I_d_k (rg_Inv_d h) (f 1 4 (by omega)) (fun c h1 h2 => funext fun j => f c j (by omega)) (funext fun j => f 90 j (by omega)) (funext fun j => f 91 j (by omega)) (f2 90 (by omega)) (f 412 20 (by omega)) (funext fun j => f 424 j (by omega)), ?_, I_o_k (rg_Inv_of h) (fun k hk => f 6 k (by omega)) (f 1 4 (by omega)) (f 0 9 (by omega)) (f 0 10 (by omega)) (f 412 24 (by omega)) (fun c hc => funext fun j => f c j (by omega)) (fun c c1 c2 => f2 c (by omega)), I_c_k (rg_Inv_c h) (f 1 4 (by omega)) (f 0 11 (by omega)) (f 412 29 (by omega)) (fun c hc => funext fun j => f c j (by omega)), I_y_k (rg_Inv_y h) (f 0 12 (by omega)) (f 412 25 (by omega)), I_z_k (rg_Inv_s h) (rg_Inv_of h) (rg_Inv_z h) (f 6 4 (by omega)) (f 0 10 (by omega)) (fun c hc => funext fun j => f c j (by omega))⟩⟩
    refine ⟨(funext fun j => f 419 j (by omega)).trans ((rg_Inv_v h).1.trans (funext fun j => (f 9 j (by omega)).symm)), fun l hl => ?_, fun k hk => ?_, fun j k hj hk => ?_⟩
    · have hl : l < rg_nl M := by omega
      refine I_v1_g (hv l hl) (rg_VS_k (hv l hl).1 (f 1 4 (by omega)) (fun c _ _ => funext fun j => f c j (by omega)) (funext fun j => f _ j (by omega)) (funext fun j => f _ j (by omega)) (f2 _ (by omega))) (funext fun j => f _ j (by omega)) (funext fun j => f _ j (by omega)) (Nat.le_of_eq np.symm) (f 9 l (by omega)) (f 418 l (by omega)) (fun k hk => f 417 _ (by omega)) ?_ ?_ (fun j hj => ?_)
      · by_cases c : l = a
        · rw [c, va, vb]
        · rw [f 421 l (by omega), f 10 l (by omega)]; exact (hv l hl).2.2.2.2.1
      · rw [f 422 l (by omega), f 11 l (by omega)]; exact (hv l hl).2.2.2.2.2.1
      · rw [f (13 + j) l (by omega), f 423 _ (by omega)]; exact (hv l hl).2.2.2.2.2.2 j hj
    · have z := (rg_Inv_v h).2.2.1 k hk
      rw [f 422 k (by omega)]
      refine ⟨?_, z.2⟩
      by_cases c : k = a
      · rw [c, va]; exact hy
      · rw [f 421 k (by omega)]; exact z.1
    · rw [nl, f 423 _ (by omega)]
      exact (rg_Inv_v h).2.2.2 j k hj hk
  · rw [em] at e2
    refine rg_ref h ?_ e2 (by decide)
    exact rm_go_1 (rg_b0 (fun q => hx.1 ((rg_il_i h).mp q)))
theorem pre_links {M : rg_Mem} (h : rg_Inv M) : rm_CI (M) := rg_Inv_mi h
theorem sim_links {M : rg_Mem} {r1 r2 : Int32} (h : rg_Inv M) (e1 : r1 = (M.1 6 4)) (e2 : (fun r => r = if ((M)).1 412 6 = 0 then 0 else ((M)).1 412 11) r2) : r1 = r2 ∧ rg_Inv (rg_I ((M)) 412 33 0) := by
  have hS := rg_Inv_s h
  have e2 : r2 = if M.1 412 6 = 0 then 0 else M.1 412 11 := e2
  refine ⟨?_, rg_Inv_same h (rg_same_t (by omega))⟩
  rw [e1, e2, hS.2.2.2.2.2.2.1]
  by_cases c : M.1 412 6 = 0
  · rw [if_pos c]
    have h1 := hS.2.1
    rcases hS.2.2.2.2.2.2.2.2.2.2.2 with q | q
    · rw [hS.1, show rg_nl M = 0 by omega]; rfl
    · rw [q.1] at c; exact absurd c (by decide)
  · rw [if_neg c]
theorem pre_offers {M : rg_Mem} (h : rg_Inv M) : rm_CI (M) := rg_Inv_mi h
theorem sim_offers {M : rg_Mem} {r1 r2 : Int32} (h : rg_Inv M) (e1 : r1 = (M.1 0 10)) (e2 : (fun r => r = ((M)).1 412 24) r2) : r1 = r2 ∧ rg_Inv (rg_I ((M)) 412 33 0) := ⟨e1.trans (((rg_Inv_of h).2.2.1.symm).trans (Eq.symm e2)), rg_Inv_same h (rg_same_t (by omega))⟩
theorem pre_ofLink {M Mw : rg_Mem} {k : Int32} {x : Int32} {y : Int32} (h : rg_Inv M) (e1 : (fun k M1 => (k = 0 ∧ ∃ r M2, ((fun r => (rg_hl M x ∧ rg_in y 0 5) ∧ r = rg_ol M x.toNatClampNeg y.toNatClampNeg) r ∧ M2 = M) ∧ M1 = rg_J M2 432 0 r.toInt64) ∨ ((fun X => (¬ (rg_hl M x) ∧ X = "java/lang/IndexOutOfBoundsException") ∨ ((rg_hl M x) ∧ ¬ (rg_in y 0 5) ∧ X = "java/lang/IllegalArgumentException")) "java/lang/IndexOutOfBoundsException" ∧ k = 1 ∧ M1 = M) ∨ ((fun X => (¬ (rg_hl M x) ∧ X = "java/lang/IndexOutOfBoundsException") ∨ ((rg_hl M x) ∧ ¬ (rg_in y 0 5) ∧ X = "java/lang/IllegalArgumentException")) "java/lang/IllegalArgumentException" ∧ k = 2 ∧ M1 = M)) k Mw) : rm_CI Mw := by
  rcases e1 with ⟨_, r1, M2, hs, em⟩ | ⟨_, _, em⟩ | ⟨_, _, em⟩
  · have g : rg_mo M M2 := by rw [hs.2]; exact rg_mo_rf
    rw [em]
    exact rg_mo_mi h (rg_mo_o g)
  · rw [em]
    exact rg_mo_mi h rg_mo_rf
  · rw [em]
    exact rg_mo_mi h rg_mo_rf
theorem sim_ofLink {M Mw Mz : rg_Mem} {k r : Int32} {x : Int32} {y : Int32} (h : rg_Inv M) (e1 : (fun k M1 => (k = 0 ∧ ∃ r M2, ((fun r => (rg_hl M x ∧ rg_in y 0 5) ∧ r = rg_ol M x.toNatClampNeg y.toNatClampNeg) r ∧ M2 = M) ∧ M1 = rg_J M2 432 0 r.toInt64) ∨ ((fun X => (¬ (rg_hl M x) ∧ X = "java/lang/IndexOutOfBoundsException") ∨ ((rg_hl M x) ∧ ¬ (rg_in y 0 5) ∧ X = "java/lang/IllegalArgumentException")) "java/lang/IndexOutOfBoundsException" ∧ k = 1 ∧ M1 = M) ∨ ((fun X => (¬ (rg_hl M x) ∧ X = "java/lang/IndexOutOfBoundsException") ∨ ((rg_hl M x) ∧ ¬ (rg_in y 0 5) ∧ X = "java/lang/IllegalArgumentException")) "java/lang/IllegalArgumentException" ∧ k = 2 ∧ M1 = M)) k Mw) (e2 : (fun r M1 => (¬ rm_go (rg_b (rm_il Mw x)) (rg_b (rm_in y 0 5)) 1 = 0 ∧ r = 0 ∧ M1 = rg_I Mw 412 33 (rm_go (rg_b (rm_il Mw x)) (rg_b (rm_in y 0 5)) 1)) ∨ (rm_go (rg_b (rm_il Mw x)) (rg_b (rm_in y 0 5)) 1 = 0 ∧ r = rm_ol Mw x.toNatClampNeg y ∧ M1 = (rg_I Mw 412 33 (rm_go (rg_b (rm_il Mw x)) (rg_b (rm_in y 0 5)) 1)))) r Mz) : Mz.1 412 33 = k ∧ (k = 0 → Mz.2 432 0 = r.toInt64) ∧ rg_Inv Mz := by
  rcases e1 with ⟨rfl, r1, M2, ⟨⟨⟨hx, hy⟩, er⟩, e3⟩, em⟩ | ⟨hx, rfl, em⟩ | ⟨hx, rfl, em⟩
  · have g : rg_mo M Mw := by rw [em, e3]; exact rg_mo_o rg_mo_rf
    have s : rg_same M Mw := by rw [em, e3]; exact rg_same_o
    have o : Mw.2 432 0 = r1.toInt64 := by rw [em]; exact rg_J_same

    obtain ⟨a, ha, ha36, e, ea⟩ := rg_hlN h hx
    obtain ⟨t, ht, et⟩ := rm_j5 (rg_in_rm.mp hy)
    refine rg_okn h s o (rm_go_0 (rg_b1 ((rg_il_g h g).mpr hx)) (rg_b1 (rg_in_rm.mp hy)) rg_n1) e2 ?_
    rw [er, rm_ol_g g, ea, et, nI_clamp (by omega), rg_ol_i h ha ht]
  · rw [em] at e2
    refine rg_ref h ?_ e2 (by decide)
    exact rm_go_1 (rg_b0 (fun q => rg_x2a hx rg_s1 ((rg_il_i h).mp q)))
  · rw [em] at e2
    refine rg_ref h ?_ e2 (by decide)
    have z := rg_x2b hx rg_s1.symm
    exact rm_go_2 (rg_b1 ((rg_il_i h).mpr z.1)) (rg_b0 (fun q => z.2 (rg_in_rm.mpr q)))
theorem pre_wordAt {M Mw : rg_Mem} {k : Int32} {x : Int32} {y : Int32} (h : rg_Inv M) (e1 : (fun k M1 => (k = 0 ∧ ∃ r M2, ((fun r => (rg_hl M x ∧ ¬ rg_wp M x y = -1) ∧ r = rg_wp M x y) r ∧ M2 = M) ∧ M1 = rg_J M2 432 0 r.toInt64) ∨ ((fun X => ¬ (rg_hl M x ∧ ¬ rg_wp M x y = -1) ∧ X = "java/lang/IndexOutOfBoundsException") "java/lang/IndexOutOfBoundsException" ∧ k = 1 ∧ M1 = M)) k Mw) : rm_CI Mw := by
  rcases e1 with ⟨_, r1, M2, hs, em⟩ | ⟨_, _, em⟩
  · have g : rg_mo M M2 := by rw [hs.2]; exact rg_mo_rf
    rw [em]
    exact rg_mo_mi h (rg_mo_o g)
  · rw [em]
    exact rg_mo_mi h rg_mo_rf
theorem sim_wordAt {M Mw Mz : rg_Mem} {k r : Int32} {x : Int32} {y : Int32} (h : rg_Inv M) (e1 : (fun k M1 => (k = 0 ∧ ∃ r M2, ((fun r => (rg_hl M x ∧ ¬ rg_wp M x y = -1) ∧ r = rg_wp M x y) r ∧ M2 = M) ∧ M1 = rg_J M2 432 0 r.toInt64) ∨ ((fun X => ¬ (rg_hl M x ∧ ¬ rg_wp M x y = -1) ∧ X = "java/lang/IndexOutOfBoundsException") "java/lang/IndexOutOfBoundsException" ∧ k = 1 ∧ M1 = M)) k Mw) (e2 : (fun r M1 => (¬ rm_go (rg_b (rm_il Mw x ∧ rm_in y 0 ((Mw.1 418 x.toNatClampNeg) - 1))) 1 1 = 0 ∧ r = 0 ∧ M1 = rg_I Mw 412 33 (rm_go (rg_b (rm_il Mw x ∧ rm_in y 0 ((Mw.1 418 x.toNatClampNeg) - 1))) 1 1)) ∨ (rm_go (rg_b (rm_il Mw x ∧ rm_in y 0 ((Mw.1 418 x.toNatClampNeg) - 1))) 1 1 = 0 ∧ r = Mw.1 417 (6 * x.toNatClampNeg + y.toNatClampNeg) ∧ M1 = (rg_I Mw 412 33 (rm_go (rg_b (rm_il Mw x ∧ rm_in y 0 ((Mw.1 418 x.toNatClampNeg) - 1))) 1 1)))) r Mz) : Mz.1 412 33 = k ∧ (k = 0 → Mz.2 432 0 = r.toInt64) ∧ rg_Inv Mz := by
  rcases e1 with ⟨rfl, r1, M2, ⟨⟨⟨hx, hy⟩, er⟩, e3⟩, em⟩ | ⟨hx, rfl, em⟩
  · have g : rg_mo M Mw := by rw [em, e3]; exact rg_mo_o rg_mo_rf
    have s : rg_same M Mw := by rw [em, e3]; exact rg_same_o
    have o : Mw.2 432 0 = r1.toInt64 := by rw [em]; exact rg_J_same

    have w := rg_wp_i h (y := y) hx
    have z := w.1.mp hy
    refine rg_okn h s o (rm_go_0 (rg_b1 ⟨(rg_il_g h g).mpr hx, by rw [g.1 418 (by omega)]; exact z⟩) rg_n1 rg_n1) e2 ?_
    rw [er, w.2 z, g.1 417 (by omega)]
  · rw [em] at e2
    refine rg_ref h ?_ e2 (by decide)
    exact rm_go_1 (rg_b0 (fun q => hx.1 ⟨(rg_il_i h).mp q.1, (rg_wp_i h ((rg_il_i h).mp q.1)).1.mpr q.2⟩))
theorem pre_faultAnew {M Mw : rg_Mem} {k : Int32} {x : Int32} (h : rg_Inv M) (e1 : (fun k M1 => (k = 0 ∧ ∃ r M2, ((fun r => rg_hl M x ∧ r = rg_f8 (rg_co M (17 + 2 * x.toNatClampNeg) (rg_sz M (17 + 2 * x.toNatClampNeg)) x.toNatClampNeg (rg_sp M) (M.1 9 x.toNatClampNeg)) 8 1) r ∧ M2 = M) ∧ M1 = rg_J M2 432 0 r.toInt64) ∨ ((fun X => ¬ rg_hl M x ∧ X = "java/lang/IndexOutOfBoundsException") "java/lang/IndexOutOfBoundsException" ∧ k = 1 ∧ M1 = M)) k Mw) : rm_CI Mw := by
  rcases e1 with ⟨_, r1, M2, hs, em⟩ | ⟨_, _, em⟩
  · have g : rg_mo M M2 := by rw [hs.2]; exact rg_mo_rf
    rw [em]
    exact rg_mo_mi h (rg_mo_o g)
  · rw [em]
    exact rg_mo_mi h rg_mo_rf
theorem sim_faultAnew {M Mw Mz : rg_Mem} {k r : Int32} {x : Int32} (h : rg_Inv M) (e1 : (fun k M1 => (k = 0 ∧ ∃ r M2, ((fun r => rg_hl M x ∧ r = rg_f8 (rg_co M (17 + 2 * x.toNatClampNeg) (rg_sz M (17 + 2 * x.toNatClampNeg)) x.toNatClampNeg (rg_sp M) (M.1 9 x.toNatClampNeg)) 8 1) r ∧ M2 = M) ∧ M1 = rg_J M2 432 0 r.toInt64) ∨ ((fun X => ¬ rg_hl M x ∧ X = "java/lang/IndexOutOfBoundsException") "java/lang/IndexOutOfBoundsException" ∧ k = 1 ∧ M1 = M)) k Mw) (e2 : (fun r M1 => (¬ rm_go (rg_b (rm_il Mw x)) 1 1 = 0 ∧ r = 0 ∧ M1 = rg_I Mw 412 33 (rm_go (rg_b (rm_il Mw x)) 1 1)) ∨ (rm_go (rg_b (rm_il Mw x)) 1 1 = 0 ∧ r = (rm_fo Mw (rm_w Mw x.toNatClampNeg) (rm_z Mw x.toNatClampNeg) x.toNatClampNeg (Mw.1 419 x.toNatClampNeg)).1 ∧ rm_wk (Mw) M1 ∧ M1.1 412 33 = 0)) r Mz) : Mz.1 412 33 = k ∧ (k = 0 → Mz.2 432 0 = r.toInt64) ∧ rg_Inv Mz := by
  rcases e1 with ⟨rfl, r1, M2, ⟨⟨hx, er⟩, e3⟩, em⟩ | ⟨hx, rfl, em⟩
  · have g : rg_mo M Mw := by rw [em, e3]; exact rg_mo_o rg_mo_rf
    have s : rg_same M Mw := by rw [em, e3]; exact rg_same_o
    have o : Mw.2 432 0 = r1.toInt64 := by rw [em]; exact rg_J_same

    obtain ⟨a, ha, ha36, e, ea⟩ := rg_hlN h hx
    refine rg_okw h s o (rm_go_0 (rg_b1 ((rg_il_g h g).mpr hx)) rg_n1 rg_n1) e2 ?_
    have f : ∀ c, 412 ≤ c → Mw.1 c = M.1 c := g.1
    rw [er, ea, rg_mo_fo g, rg_fan h ha ha36]
    unfold rm_w rm_z
    rw [f 417 (by omega), f 418 (by omega), f 419 (by omega)]
  · rw [em] at e2
    refine rg_ref h ?_ e2 (by decide)
    exact rm_go_1 (rg_b0 (fun q => hx.1 ((rg_il_i h).mp q)))
theorem pre_chances {M Mw : rg_Mem} {k : Int32} {z : Int32} (h : rg_Inv M) (e1 : (fun k M1 => (k = 0 ∧ ∃ r M2, (fun r M1 => rg_pt M z ∧ rg_off M M1 92 ∧ r = if ¬ M.1 6 0 ≤ M.1 6 4 then rg_c1 M z (rg_nw M) else 0) r M2 ∧ M1 = rg_J M2 432 0 r.toInt64) ∨ ((fun X => ¬ rg_pt M z ∧ X = "java/lang/IndexOutOfBoundsException") "java/lang/IndexOutOfBoundsException" ∧ k = 1 ∧ M1 = M)) k Mw) : rm_CI Mw := by
  rcases e1 with ⟨_, r1, M2, hs, em⟩ | ⟨_, _, em⟩
  · have g : rg_mo M M2 := rg_mo_off rg_mo_rf hs.2.1 (by omega)
    rw [em]
    exact rg_mo_mi h (rg_mo_o g)
  · rw [em]
    exact rg_mo_mi h rg_mo_rf
theorem sim_chances {M Mw Mz : rg_Mem} {k r : Int32} {z : Int32} (h : rg_Inv M) (e1 : (fun k M1 => (k = 0 ∧ ∃ r M2, (fun r M1 => rg_pt M z ∧ rg_off M M1 92 ∧ r = if ¬ M.1 6 0 ≤ M.1 6 4 then rg_c1 M z (rg_nw M) else 0) r M2 ∧ M1 = rg_J M2 432 0 r.toInt64) ∨ ((fun X => ¬ rg_pt M z ∧ X = "java/lang/IndexOutOfBoundsException") "java/lang/IndexOutOfBoundsException" ∧ k = 1 ∧ M1 = M)) k Mw) (e2 : (fun r M1 => (¬ rm_go (rg_b (rm_ip Mw z)) 1 1 = 0 ∧ r = 0 ∧ M1 = rg_I Mw 412 33 (rm_go (rg_b (rm_ip Mw z)) 1 1)) ∨ (rm_go (rg_b (rm_ip Mw z)) 1 1 = 0 ∧ r = (if Mw.1 412 6 = 0 ∨ rm_fin Mw then 0 else rm_h1 Mw z (rm_nw Mw)) ∧ rm_wk (Mw) M1 ∧ M1.1 412 33 = 0)) r Mz) : Mz.1 412 33 = k ∧ (k = 0 → Mz.2 432 0 = r.toInt64) ∧ rg_Inv Mz := by
  rcases e1 with ⟨rfl, r1, M2, ⟨hx, of, er⟩, em⟩ | ⟨hx, rfl, em⟩
  · have g : rg_mo M Mw := by rw [em]; exact rg_mo_o (rg_mo_off rg_mo_rf of (by omega))
    have s : rg_same M Mw := by rw [em]; exact rg_same_tr (rg_same_off of) rg_same_o
    have o : Mw.2 432 0 = r1.toInt64 := by rw [em]; exact rg_J_same
    refine rg_okw h s o (rm_go_0 (rg_b1 ((rg_ip_g h g).mpr hx)) rg_n1 rg_n1) e2 ?_
    have f : ∀ c, 412 ≤ c → Mw.1 c = M.1 c := g.1
    have en : rm_nw Mw = rg_nw M := by rw [← rm_nw_i h]; unfold rm_nw; rw [f 412 (by omega)]
    have eo := rg_open h
    unfold rm_fin at eo ⊢
    rw [er, en, rm_h1_mo g, f 412 (by omega)]
    by_cases q : ¬ M.1 6 0 ≤ M.1 6 4
    · rw [if_pos q, if_neg (eo.mp q), rg_c1_i h q _ (Nat.le_refl _)]
    · rw [if_neg q, if_pos (Classical.not_not.mp (fun z => q (eo.mpr z)))]
  · rw [em] at e2
    refine rg_ref h ?_ e2 (by decide)
    exact rm_go_1 (rg_b0 (fun q => hx.1 ((rg_ip_i h).mp q)))
theorem pre_prize {M : rg_Mem} (h : rg_Inv M) : rm_CI (rg_pl M (rg_nl M)) := rg_mo_mi h ⟨fun c hc => (rg_pl_off _ (by omega) (by omega)).1, fun c _ _ => by rw [(rg_pl_off (M := M) (rg_nl M) (c := 0) (by omega) (by omega)).2]⟩
theorem sim_prize {M : rg_Mem} {r1 r2 : Int32} (h : rg_Inv M) (e1 : r1 = (rg_gr ((rg_pl M (rg_nl M)).1 95) ((rg_pl M (rg_nl M)).1 96) 6)) (e2 : (fun r => r = (rm_best (rm_ps ((rg_pl M (rg_nl M)))) (rm_pc ((rg_pl M (rg_nl M)))) (rm_np ((rg_pl M (rg_nl M))))).1) r2) : r1 = r2 ∧ rg_Inv (rg_I ((rg_pl M (rg_nl M))) 412 33 0) := by
  have g : rg_mo M (rg_pl M (rg_nl M)) := ⟨fun c hc => (rg_pl_off _ (by omega) (by omega)).1, fun c _ _ => by rw [(rg_pl_off (M := M) (rg_nl M) (c := 0) (by omega) (by omega)).2]⟩
  have f : ∀ c, 412 ≤ c → (rg_pl M (rg_nl M)).1 c = M.1 c := g.1
  have s : rg_same M (rg_pl M (rg_nl M)) := rg_same_mn (fun c h1 h2 => rg_pl_off _ h1 h2)
  refine ⟨?_, rg_Inv_same h (rg_same_tr s (rg_same_t (by omega)))⟩
  have e2 : r2 = (rm_best (rm_ps (rg_pl M (rg_nl M))) (rm_pc (rg_pl M (rg_nl M))) (rm_np (rg_pl M (rg_nl M)))).1 := e2
  have k1 : rm_ps (rg_pl M (rg_nl M)) = rm_ps M := by
    funext p
    unfold rm_ps rm_pb
    rw [f 423 (by omega), f 419 (by omega)]
  have k2 : rm_pc (rg_pl M (rg_nl M)) = rm_pc M := by
    funext p
    unfold rm_pc rm_pb
    rw [f 423 (by omega), f 419 (by omega)]
  have k3 : rm_np (rg_pl M (rg_nl M)) = rg_np M := by rw [← rm_np_i h]; unfold rm_np; rw [f 412 (by omega)]
  rw [e1, e2, k1, k2, k3, rg_prize_i h]
theorem pre_far {M Mw : rg_Mem} {k : Int32} {t : Int32} {u : Int32} (h : rg_Inv M) (e1 : (fun k M1 => (k = 0 ∧ ∃ r M2, ((fun r => ((rg_tx M t ∧ rg_tx M u) ∧ ¬ M.1 6 0 ≤ 0) ∧ r = rg_fa M t u) r ∧ M2 = M) ∧ M1 = rg_J M2 432 0 r.toInt64) ∨ ((fun X => (¬ (rg_tx M t ∧ rg_tx M u) ∧ X = "java/lang/IndexOutOfBoundsException") ∨ ((rg_tx M t ∧ rg_tx M u) ∧ ¬ (¬ M.1 6 0 ≤ 0) ∧ X = "java/lang/IllegalStateException")) "java/lang/IndexOutOfBoundsException" ∧ k = 1 ∧ M1 = M) ∨ ((fun X => (¬ (rg_tx M t ∧ rg_tx M u) ∧ X = "java/lang/IndexOutOfBoundsException") ∨ ((rg_tx M t ∧ rg_tx M u) ∧ ¬ (¬ M.1 6 0 ≤ 0) ∧ X = "java/lang/IllegalStateException")) "java/lang/IllegalStateException" ∧ k = 2 ∧ M1 = M)) k Mw) : rm_CI Mw := by
  rcases e1 with ⟨_, r1, M2, hs, em⟩ | ⟨_, _, em⟩ | ⟨_, _, em⟩
  · have g : rg_mo M M2 := by rw [hs.2]; exact rg_mo_rf
    rw [em]
    exact rg_mo_mi h (rg_mo_o g)
  · rw [em]
    exact rg_mo_mi h rg_mo_rf
  · rw [em]
    exact rg_mo_mi h rg_mo_rf
theorem sim_far {M Mw Mz : rg_Mem} {k r : Int32} {t : Int32} {u : Int32} (h : rg_Inv M) (e1 : (fun k M1 => (k = 0 ∧ ∃ r M2, ((fun r => ((rg_tx M t ∧ rg_tx M u) ∧ ¬ M.1 6 0 ≤ 0) ∧ r = rg_fa M t u) r ∧ M2 = M) ∧ M1 = rg_J M2 432 0 r.toInt64) ∨ ((fun X => (¬ (rg_tx M t ∧ rg_tx M u) ∧ X = "java/lang/IndexOutOfBoundsException") ∨ ((rg_tx M t ∧ rg_tx M u) ∧ ¬ (¬ M.1 6 0 ≤ 0) ∧ X = "java/lang/IllegalStateException")) "java/lang/IndexOutOfBoundsException" ∧ k = 1 ∧ M1 = M) ∨ ((fun X => (¬ (rg_tx M t ∧ rg_tx M u) ∧ X = "java/lang/IndexOutOfBoundsException") ∨ ((rg_tx M t ∧ rg_tx M u) ∧ ¬ (¬ M.1 6 0 ≤ 0) ∧ X = "java/lang/IllegalStateException")) "java/lang/IllegalStateException" ∧ k = 2 ∧ M1 = M)) k Mw) (e2 : (fun r M1 => (¬ rm_go (rg_b (rm_tx Mw t ∧ rm_tx Mw u)) (Mw.1 412 6) 1 = 0 ∧ r = 0 ∧ M1 = rg_I Mw 412 33 (rm_go (rg_b (rm_tx Mw t ∧ rm_tx Mw u)) (Mw.1 412 6) 1)) ∨ (rm_go (rg_b (rm_tx Mw t ∧ rm_tx Mw u)) (Mw.1 412 6) 1 = 0 ∧ r = rm_fa Mw t u ∧ M1 = (rg_I Mw 412 33 (rm_go (rg_b (rm_tx Mw t ∧ rm_tx Mw u)) (Mw.1 412 6) 1)))) r Mz) : Mz.1 412 33 = k ∧ (k = 0 → Mz.2 432 0 = r.toInt64) ∧ rg_Inv Mz := by
  rcases e1 with ⟨rfl, r1, M2, ⟨⟨⟨⟨ht, hu⟩, hb⟩, er⟩, e3⟩, em⟩ | ⟨hx, rfl, em⟩ | ⟨hx, rfl, em⟩
  · have g : rg_mo M Mw := by rw [em, e3]; exact rg_mo_o rg_mo_rf
    have s : rg_same M Mw := by rw [em, e3]; exact rg_same_o
    have o : Mw.2 432 0 = r1.toInt64 := by rw [em]; exact rg_J_same

    have f : ∀ c, 412 ≤ c → Mw.1 c = M.1 c := g.1
    refine rg_okn h s o (rm_go_0 (rg_b1 ⟨(rg_tx_g h g).mpr ht, (rg_tx_g h g).mpr hu⟩) (by rw [f 412 (by omega)]; exact (rg_beg_i h).mp hb) rg_n1) e2 ?_
    rw [er, rm_fa_g g, rg_fa_i h ht hu]
  · rw [em] at e2
    refine rg_ref h ?_ e2 (by decide)
    exact rm_go_1 (rg_b0 (fun q => rg_x2a hx rg_s2 ⟨(rg_tx_i h).mp q.1, (rg_tx_i h).mp q.2⟩))
  · rw [em] at e2
    refine rg_ref h ?_ e2 (by decide)
    have z := rg_x2b hx rg_s2.symm
    exact rm_go_2 (rg_b1 ⟨(rg_tx_i h).mpr z.1.1, (rg_tx_i h).mpr z.1.2⟩) (Classical.not_not.mp (fun q => z.2 ((rg_beg_i h).mpr q)))
theorem pre_source {M Mw : rg_Mem} {k : Int32} {x : Int32} (h : rg_Inv M) (e1 : (fun k M1 => (k = 0 ∧ ∃ r M2, ((fun r => rg_cp M x ∧ r = (rg_so (fun k => rg_fa M x (nI k)) (rg_fa M x (-1)) x (rg_nc M)).1) r ∧ M2 = M) ∧ M1 = rg_J M2 432 0 r.toInt64) ∨ ((fun X => ¬ rg_cp M x ∧ X = "java/lang/IndexOutOfBoundsException") "java/lang/IndexOutOfBoundsException" ∧ k = 1 ∧ M1 = M)) k Mw) : rm_CI Mw := by
  rcases e1 with ⟨_, r1, M2, hs, em⟩ | ⟨_, _, em⟩
  · have g : rg_mo M M2 := by rw [hs.2]; exact rg_mo_rf
    rw [em]
    exact rg_mo_mi h (rg_mo_o g)
  · rw [em]
    exact rg_mo_mi h rg_mo_rf
theorem sim_source {M Mw Mz : rg_Mem} {k r : Int32} {x : Int32} (h : rg_Inv M) (e1 : (fun k M1 => (k = 0 ∧ ∃ r M2, ((fun r => rg_cp M x ∧ r = (rg_so (fun k => rg_fa M x (nI k)) (rg_fa M x (-1)) x (rg_nc M)).1) r ∧ M2 = M) ∧ M1 = rg_J M2 432 0 r.toInt64) ∨ ((fun X => ¬ rg_cp M x ∧ X = "java/lang/IndexOutOfBoundsException") "java/lang/IndexOutOfBoundsException" ∧ k = 1 ∧ M1 = M)) k Mw) (e2 : (fun r M1 => (¬ rm_go (rg_b (rm_ic Mw x)) 1 1 = 0 ∧ r = 0 ∧ M1 = rg_I Mw 412 33 (rm_go (rg_b (rm_ic Mw x)) 1 1)) ∨ (rm_go (rg_b (rm_ic Mw x)) 1 1 = 0 ∧ r = rm_sr (rm_fa Mw x) x (rm_nc Mw) ∧ M1 = (rg_I Mw 412 33 (rm_go (rg_b (rm_ic Mw x)) 1 1)))) r Mz) : Mz.1 412 33 = k ∧ (k = 0 → Mz.2 432 0 = r.toInt64) ∧ rg_Inv Mz := by
  rcases e1 with ⟨rfl, r1, M2, ⟨⟨hx, er⟩, e3⟩, em⟩ | ⟨hx, rfl, em⟩
  · have g : rg_mo M Mw := by rw [em, e3]; exact rg_mo_o rg_mo_rf
    have s : rg_same M Mw := by rw [em, e3]; exact rg_same_o
    have o : Mw.2 432 0 = r1.toInt64 := by rw [em]; exact rg_J_same

    have en : rm_nc Mw = rg_nc M := by rw [← rm_nc_i h]; unfold rm_nc; rw [g.1 412 (by omega)]
    refine rg_okn h s o (rm_go_0 (rg_b1 ((rg_ic_g h g).mpr hx)) rg_n1 rg_n1) e2 ?_
    rw [er, rm_fa_g g, en, rg_so_i h (Or.inr hx) _ (Nat.le_refl _)]
  · rw [em] at e2
    refine rg_ref h ?_ e2 (by decide)
    exact rm_go_1 (rg_b0 (fun q => hx.1 ((rg_ic_i h).mp q)))
