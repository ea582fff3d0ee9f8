theorem pre_hand {M Mw : rg_Mem} {k : Int32} {x : Int32} (h : rg_Inv M) (e1 : (fun k M1 => (k = 0 ∧ ∃ r M2, ((fun r => rg_hl M x ∧ r = rg_gr ((rg_hd M x.toNatClampNeg (rg_nl M)).1 95) ((rg_hd M x.toNatClampNeg (rg_nl M)).1 96) 6) r ∧ M2 = rg_hd M x.toNatClampNeg (rg_nl M)) ∧ M1 = rg_J M2 432 0 r.toInt64) ∨ ((fun X => ¬ rg_hl M x ∧ X = "java/lang/IndexOutOfBoundsException") "java/lang/IndexOutOfBoundsException" ∧ k = 1 ∧ M1 = M)) k Mw) : rm_CI Mw := by
  rcases e1 with ⟨_, r1, M2, hs, em⟩ | ⟨_, _, em⟩
  · have g : rg_mo M M2 := by rw [hs.2]; exact rg_mo_hd
    rw [em]
    exact rg_mo_mi h (rg_mo_o g)
  · rw [em]
    exact rg_mo_mi h rg_mo_rf
theorem sim_hand {M Mw Mz : rg_Mem} {k r : Int32} {x : Int32} (h : rg_Inv M) (e1 : (fun k M1 => (k = 0 ∧ ∃ r M2, ((fun r => rg_hl M x ∧ r = rg_gr ((rg_hd M x.toNatClampNeg (rg_nl M)).1 95) ((rg_hd M x.toNatClampNeg (rg_nl M)).1 96) 6) r ∧ M2 = rg_hd M x.toNatClampNeg (rg_nl M)) ∧ M1 = rg_J M2 432 0 r.toInt64) ∨ ((fun X => ¬ rg_hl M x ∧ X = "java/lang/IndexOutOfBoundsException") "java/lang/IndexOutOfBoundsException" ∧ k = 1 ∧ M1 = M)) k Mw) (e2 : (fun r M1 => (¬ rm_go (rg_b (rm_il Mw x)) 1 1 = 0 ∧ r = 0 ∧ M1 = rg_I Mw 412 33 (rm_go (rg_b (rm_il Mw x)) 1 1)) ∨ (rm_go (rg_b (rm_il Mw x)) 1 1 = 0 ∧ r = (rm_best (rm_lS Mw x.toNatClampNeg) (rm_lC Mw x.toNatClampNeg) (rm_np Mw)).1 ∧ M1 = (rg_I Mw 412 33 (rm_go (rg_b (rm_il Mw x)) 1 1)))) r Mz) : Mz.1 412 33 = k ∧ (k = 0 → Mz.2 432 0 = r.toInt64) ∧ rg_Inv Mz := by
  rcases e1 with ⟨rfl, r1, M2, ⟨⟨hx, er⟩, e3⟩, em⟩ | ⟨hx, rfl, em⟩
  · obtain ⟨a, ha, ha36, e, ea⟩ := rg_hlN h hx
    rw [ea] at er e3 e2
    have g : rg_mo M Mw := by rw [em, e3]; exact rg_mo_o rg_mo_hd
    have s : rg_same M Mw := by rw [em, e3]; exact rg_same_tr (rg_same_mn (fun c h1 h2 => rg_hd_off _ h1 h2)) rg_same_o
    have o : Mw.2 432 0 = r1.toInt64 := by rw [em]; exact rg_J_same
    have f : ∀ c, 412 ≤ c → Mw.1 c = M.1 c := g.1
    have k3 : rm_np Mw = rg_np M := by rw [← rm_np_i h]; unfold rm_np; rw [f 412 (by omega)]
    have k4 : rm_nl Mw = rm_nl M := by unfold rm_nl; rw [f 412 (by omega)]
    have k1 : rm_lS Mw a = rm_lS M a := by
      funext p
      unfold rm_lS rm_lb
      rw [f 421 (by omega), f 419 (by omega), rm_lk_g g, k4]
    have k2 : rm_lC Mw a = rm_lC M a := by
      funext p
      unfold rm_lC rm_lb
      rw [f 421 (by omega), f 419 (by omega), k4]
    refine rg_okn h s o (rm_go_0 (rg_b1 ((rg_il_g h g).mpr hx)) rg_n1 rg_n1) e2 ?_
    rw [er, k1, k2, k3, rg_hand_i h ha]
  · rw [em] at e2
    refine rg_ref h ?_ e2 (by decide)
    exact rm_go_1 (rg_b0 (fun q => hx.1 ((rg_il_i h).mp q)))
