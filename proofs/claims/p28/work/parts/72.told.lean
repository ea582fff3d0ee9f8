/-! what is told: calls, seats, points, hidden links, copies -/
theorem rp_cell_Inv {M F : rg_Mem} (h : rp_Inv M) (hC : rg_CI F) (f0 : ∀ c, c ≠ 7 → c ≠ 10 → ¬ (13 ≤ c ∧ c < 17) → ¬ (110 ≤ c ∧ c < 184) → c ≠ 413 → c ≠ 415 → c ≠ 416 → c ≠ 420 → c ≠ 421 → F.1 c = M.1 c) (tC : rp_C F) (tL : rp_L F) (tQ : rp_Q F) (tX : rp_X F) : rp_Inv F := by
  have hl := rp_nl h
  exact ⟨hC, rp_N_c (rp_n h) (fun c hc => f0 c (by omega) (by omega) (by omega) (by omega) (by omega) (by omega) (by omega) (by omega) (by omega)), lw_WI_c (rp_wi h) (fun c hc => f0 c (by omega) (by omega) (by omega) (by omega) (by omega) (by omega) (by omega) (by omega) (by omega)), tC, rp_M_c (rp_m h) (fun c hc => f0 c (by omega) (by omega) (by omega) (by omega) (by omega) (by omega) (by omega) (by omega) (by omega)), rp_T_c (rp_t h) (by omega) (fun c hc => f0 c (by omega) (by omega) (by omega) (by omega) (by omega) (by omega) (by omega) (by omega) (by omega)), tL, tQ, rp_D_c (rp_d h) (fun c hc => f0 c (by omega) (by omega) (by omega) (by omega) (by omega) (by omega) (by omega) (by omega) (by omega)), rp_F_c (rp_f h) (rg_CI_o (rp_ci h)).2 (fun c hc => f0 c (by omega) (by omega) (by omega) (by omega) (by omega) (by omega) (by omega) (by omega) (by omega)), tX⟩
theorem lw_b1L {x : Int64} : ¬ x &&& 1 = 0 ↔ x &&& 1 = 1 := by
  have h : x &&& 1 = 0 ∨ x &&& 1 = 1 := by
    have e : (x &&& 1).toBitVec = x.toBitVec &&& 1#64 := Int64.toBitVec_and ..
    rw [BitVec.and_one_eq_setWidth_ofBool_getLsbD] at e
    cases hb : x.toBitVec.getLsbD 0 with
    | false => rw [hb] at e; exact Or.inl (Int64.toBitVec_inj.mp (e.trans (by decide)))
    | true => rw [hb] at e; exact Or.inr (Int64.toBitVec_inj.mp (e.trans (by decide)))
  rcases h with h | h <;> rw [h] <;> decide
theorem rp_sh1 : ∀ b, b < 16 → (1 : Int32) <<< (nI b &&& 31) = nI (2 ^ b) ∧ (1 : Int64) <<< ((nI b).toInt64 &&& 63) = (nI (2 ^ b)).toInt64 := by decide +kernel
theorem rp_or {v w : Nat} (hv : v < 65536) (hw : w < 65536) : nI v ||| nI w = nI (v ||| w) ∧ v ||| w < 65536 := by
  refine ⟨?_, Nat.or_lt_two_pow (n := 16) hv hw⟩
  apply Int32.toBitVec_inj.mp
  rw [Int32.toBitVec_or]
  show BitVec.ofNat 32 v ||| BitVec.ofNat 32 w = BitVec.ofNat 32 (v ||| w)
  exact BitVec.ofNat_or.symm
theorem rp_or2 {v b : Nat} (hv : v < 65536) (hb : b < 16) : ∃ u, u < 65536 ∧ nI v ||| (1 : Int32) <<< (nI b &&& 31) = nI u ∧ (nI v).toInt64 ||| (1 : Int64) <<< ((nI b).toInt64 &&& 63) = (nI u).toInt64 := by
  have h1 := rp_sh1 b hb
  have h2 : 2 ^ b < 65536 := Nat.lt_of_lt_of_le (Nat.pow_lt_pow_right (by omega) hb) (by decide)
  have h3 := rp_or hv h2
  refine ⟨v ||| 2 ^ b, h3.2, by rw [h1.1, h3.1], ?_⟩
  rw [h1.2, ← h3.1, Int32.toInt64_or]
/-- call -/
theorem rp_call {M F : rg_Mem} {a b : Nat} (h : rp_Inv M) (ha : a < 16) (hb : b < 16) (hab : a ≠ b) (f0 : ∀ c, c ≠ 413 → F.1 c = M.1 c) (f2 : ∀ c, c ≠ 5 → F.2 c = M.2 c) (g1 : ∀ k, F.1 413 k = if k = b then M.1 413 b ||| (1 : Int32) <<< (nI a &&& 31) else if k = a then M.1 413 a ||| (1 : Int32) <<< (nI b &&& 31) else M.1 413 k) (g2 : ∀ k, F.2 5 k = if k = b then M.2 5 b ||| (1 : Int64) <<< ((nI a).toInt64 &&& 63) else if k = a then M.2 5 a ||| (1 : Int64) <<< ((nI b).toInt64 &&& 63) else M.2 5 k) : rp_Inv F := by
  have hl := rp_nl h
  refine rp_cell_Inv h (rg_CI_c2 (rp_ci h) (fun c hc => f0 c (by omega)) (fun c hc => f2 c (by omega))) (fun c _ _ _ _ h5 _ _ _ _ => f0 c h5) (fun k hk => ?_) (rp_L_c (rp_l h) (fun c hc => f0 c (by omega))) (rp_Q_c (rp_q h) (fun c hc => f0 c (by omega))) (rp_X_c (rp_x h) (rp_n h).2.2.1 (fun c hc => f0 c (by omega)))
  rw [g1, g2]
  by_cases c1 : k = b
  · obtain ⟨v, h1, h2, h3⟩ := rp_c h b hb
    rw [if_pos c1, if_pos c1, h2, h3]
    exact rp_or2 h1 ha
  · rw [if_neg c1, if_neg c1]
    by_cases c2 : k = a
    · obtain ⟨v, h1, h2, h3⟩ := rp_c h a ha
      rw [if_pos c2, if_pos c2, h2, h3]
      exact rp_or2 h1 hb
    · rw [if_neg c2, if_neg c2]
      exact rp_c h k hk
/-- seat -/
theorem rp_seat {M F : rg_Mem} {j : Nat} {y : Int32} (h : rp_Inv M) (hj : j < 10) (f0 : ∀ c, c ≠ 415 → c ≠ 7 → F.1 c = M.1 c) (f2 : F.2 = M.2) (g5 : ∀ k, F.1 415 k = if k = 4 * j + 1 then y else M.1 415 k) (g7 : ∀ k, F.1 7 k = if k = j then y else M.1 7 k) : rp_Inv F := by
  have hl := rp_nl h
  refine rp_cell_Inv h (rg_CI_c2 (rp_ci h) (fun c hc => f0 c (by omega) (by omega)) (fun c hc => by rw [f2])) (fun c h1 _ _ _ _ h6 _ _ _ => f0 c h6 h1) (rp_C_c (rp_c h) (f0 _ (by omega) (by omega)) (by rw [f2])) ?_ (rp_Q_c (rp_q h) (fun c hc => f0 c (by omega) (by omega))) (rp_X_c (rp_x h) (rp_n h).2.2.1 (fun c hc => f0 c (by omega) (by omega)))
  have en : rg_nl F = rg_nl M := by unfold rg_nl; rw [f0 6 (by omega) (by omega)]
  unfold rp_L
  rw [en]
  intro i hi
  have hL := rp_l h i hi
  rw [g5, g5, g5, g5, g7, f0 9 (by omega) (by omega), f0 10 (by omega) (by omega), f0 11 (by omega) (by omega), if_neg (by omega : ¬ 4 * i = 4 * j + 1), if_neg (by omega : ¬ 4 * i + 2 = 4 * j + 1), if_neg (by omega : ¬ 4 * i + 3 = 4 * j + 1)]
  refine ⟨?_, hL.2⟩
  by_cases c : i = j
  · rw [if_pos (by omega), if_pos c]
  · rw [if_neg (by omega), if_neg c]; exact hL.1
/-- give -/
theorem rp_give {M F : rg_Mem} {g j v : Nat} (h : rp_Inv M) (hg : g < 4) (hj : j < rg_nl M) (hv : v ≤ 10) (f0 : ∀ c, c ≠ 416 → c ≠ 13 + g → F.1 c = M.1 c) (f2 : F.2 = M.2) (g6 : ∀ k, F.1 416 k = if k = 10 * g + j then nI (1 + v) else M.1 416 k) (g7 : ∀ k, F.1 (13 + g) k = if k = j then nI v else M.1 (13 + g) k) : rp_Inv F := by
  have hl := rp_nl h
  refine rp_cell_Inv h (rg_CI_c2 (rp_ci h) (fun c hc => f0 c (by omega) (by omega)) (fun c hc => by rw [f2])) (fun c _ _ h3 _ _ _ h7 _ _ => f0 c h7 (by omega)) (rp_C_c (rp_c h) (f0 _ (by omega) (by omega)) (by rw [f2])) (rp_L_c (rp_l h) (fun c hc => f0 c (by omega) (by omega))) ?_ (rp_X_c (rp_x h) (rp_n h).2.2.1 (fun c hc => f0 c (by omega) (by omega)))
  have en : rg_nl F = rg_nl M := by unfold rg_nl; rw [f0 6 (by omega) (by omega)]
  unfold rp_Q
  rw [en]
  intro g' hg' i hi
  have hQ := rp_q h g' hg' i hi
  rw [g6]
  by_cases c : g' = g
  · subst c
    rw [g7]
    by_cases d : i = j
    · subst d
      rw [if_pos rfl, if_pos rfl]
      exact ⟨fun _ => ⟨1 + v, by omega, rfl, by rw [lw_sub1 (by omega), show 1 + v - 1 = v by omega]⟩, fun q => by omega⟩
    · rw [if_neg (by omega), if_neg d]; exact hQ
  · rw [if_neg (by omega), f0 (13 + g') (by omega) (by omega)]; exact hQ
/-- hide -/
theorem rp_hide {M F : rg_Mem} {j : Nat} {y : Int32} (h : rp_Inv M) (hj : j < rg_nl M) (hy : y = 0 ∨ y = 1) (f0 : ∀ c, c ≠ 415 → c ≠ 10 → F.1 c = M.1 c) (f2 : F.2 = M.2) (g5 : ∀ k, F.1 415 k = if k = 4 * j + 2 then y else M.1 415 k) (g7 : ∀ k, F.1 10 k = if k = j then y else M.1 10 k) : rp_Inv F := by
  have hl := rp_nl h
  have hI := rp_ci h
  have hno := (rg_CI_o hI).2
  refine rp_cell_Inv h ?_ (fun c _ h2 _ _ _ h6 _ _ _ => f0 c h6 h2) (rp_C_c (rp_c h) (f0 _ (by omega) (by omega)) (by rw [f2])) ?_ (rp_Q_c (rp_q h) (fun c hc => f0 c (by omega) (by omega))) (rp_X_c (rp_x h) (rp_n h).2.2.1 (fun c hc => f0 c (by omega) (by omega)))
  · refine rg_CI_mk (nw := rg_nw M) (np := rg_np M) (nl := rg_nl M) (nt := rg_nt M) (no := rg_no M) (nc := rg_nc M) (sp := rg_sp M) ?_ (rg_CI_w hI).2 ?_ (rg_CI_p hI).2 ?_ hI.2.2.1.2 ?_ (rg_CI_t hI).2 ?_ hno ?_ (rg_CI_c hI).2 ?_ (rg_CI_s hI).2 (rg_VS_z (rg_CI_d hI) (fun c hc => f0 c (by omega) (by omega)) (by rw [f2])) (fun k hk => rg_VS_z (rg_CI_v hI k hk) (fun c hc => f0 c (by omega) (by omega)) (by rw [f2])) (fun k hk => rg_VS_z (rg_CI_vo hI k hk) (fun c hc => f0 c (by omega) (by omega)) (by rw [f2])) ?_ ?_ (fun k hk => ?_)
    · rw [f0 1 (by omega) (by omega)]; exact (rg_CI_w hI).1
    · rw [f0 0 (by omega) (by omega)]; exact (rg_CI_p hI).1
    · rw [f0 6 (by omega) (by omega)]; exact (rg_CI_l hI).1
    · rw [f0 6 (by omega) (by omega)]; exact (rg_CI_t hI).1
    · rw [f0 0 (by omega) (by omega)]; exact (rg_CI_o hI).1
    · rw [f0 0 (by omega) (by omega)]; exact (rg_CI_c hI).1
    · rw [f0 6 (by omega) (by omega)]; exact (rg_CI_s hI).1
    · rw [f0 9 (by omega) (by omega)]; exact rg_CI_m hI
    · rw [f0 97 (by omega) (by omega)]; exact rg_CI_mo hI
    · rw [g7, f0 11 (by omega) (by omega)]
      by_cases c : k = j
      · rw [if_pos c]; exact ⟨hy, (rg_CI_h hI k hk).2⟩
      · rw [if_neg c]; exact rg_CI_h hI k hk
  · have en : rg_nl F = rg_nl M := by unfold rg_nl; rw [f0 6 (by omega) (by omega)]
    unfold rp_L
    rw [en]
    intro i hi
    have hL := rp_l h i hi
    rw [g5, g5, g5, g5, g7, f0 7 (by omega) (by omega), f0 9 (by omega) (by omega), f0 11 (by omega) (by omega), if_neg (by omega : ¬ 4 * i = 4 * j + 2), if_neg (by omega : ¬ 4 * i + 1 = 4 * j + 2), if_neg (by omega : ¬ 4 * i + 3 = 4 * j + 2)]
    refine ⟨hL.1, fun q => ?_, fun q => ?_⟩
    · by_cases c : i = j
      · rw [if_pos (by omega), if_pos c]; exact ⟨(hL.2.1 q).1, rfl, (hL.2.1 q).2.2⟩
      · rw [if_neg (by omega), if_neg c]; exact hL.2.1 q
    · rw [if_neg (by omega)]; exact hL.2.2 q
/-- write -/
theorem rp_write {M F : rg_Mem} {c j pl wd : Nat} (h : rp_Inv M) (hc : c < rg_nc M) (hj : j < 10) (hp : pl < 6) (hw : wd < 16) (f0 : ∀ z, z ≠ 420 + c → z ≠ 110 + 38 * c + j → F.1 z = M.1 z) (f2 : F.2 = M.2) (g5 : ∀ k, F.1 (420 + c) k = if k = 6 * j + pl then nI (wd + 1) else M.1 (420 + c) k) (g7 : ∀ k, F.1 (110 + 38 * c + j) k = if k = pl then nI wd else M.1 (110 + 38 * c + j) k) : rp_Inv F := by
  have hn := (rp_n h).2.2.1
  have hl := rp_nl h
  refine rp_cell_Inv h (rg_CI_c2 (rp_ci h) (fun z hz => f0 z (by omega) (by omega)) (fun z _ => by rw [f2])) (fun z _ _ _ h4 _ _ _ h8 h9 => f0 z (by omega) (by omega)) (rp_C_c (rp_c h) (f0 _ (by omega) (by omega)) (by rw [f2])) (rp_L_c (rp_l h) (fun z hz => f0 z (by omega) (by omega))) (rp_Q_c (rp_q h) (fun z hz => f0 z (by omega) (by omega))) ?_
  have en : rg_nc F = rg_nc M := by unfold rg_nc; rw [f0 0 (by omega) (by omega)]
  intro z hz r hr k hk
  rw [en] at hz
  have hX := rp_x h z hz r hr k hk
  by_cases q : z = c
  · subst q
    rw [g5]
    by_cases d : r = j
    · subst d
      rw [g7]
      refine ⟨fun _ => ?_, fun y => by omega⟩
      by_cases e : k = pl
      · rw [if_pos (by omega), if_pos e, nI_succ]; exact ⟨rfl, Or.inr ⟨wd, hw, rfl⟩⟩
      · rw [if_neg (by omega), if_neg e]; exact hX.1 hj
    · rw [f0 (110 + 38 * z + r) (by omega) (by omega), if_neg (by omega)]
      exact hX
  · rw [f0 (420 + z) (by omega) (by omega), f0 (110 + 38 * z + r) (by omega) (by omega)]
    exact hX
/-- copy -/
theorem rp_copy {M X F : rg_Mem} {t : Int32} {a : Nat} (h : rp_Inv M) (hc : rg_nc M < 2) (hnl : 0 < rg_nl M) (ht : rp_TX M t a) (htw : ∀ x y, y < 6 → x < 10 → rg_tk M t x y = -1 ∨ ∃ w, w < 16 ∧ rg_tk M t x y = nI w) (x0 : ∀ c, c ≠ 420 + rg_nc M → c ≠ 417 → X.1 c = M.1 c) (x2 : X.2 = M.2) (x5 : ∀ k, k < 60 → X.1 (420 + rg_nc M) k = M.1 a k) (x7 : ∀ k, X.1 417 k = if k = 7 then nI (rg_nc M + 1) else M.1 417 k) (ett : ∀ x y, x < 36 → y < 6 → rg_tk X t x y = rg_tk M t x y) (hF : F = rg_I (rg_fil X (rg_nc M) t 36 0) 0 11 (nI (rg_nc M + 1))) : rp_Inv F := by
  have hI := rp_ci h
  have hl := rp_nl h
  have hN := rp_n h
  have hm := rp_m h
  have hno := (rg_CI_o hI).2
  have fz : ∀ c, c ≠ 0 → ¬ (110 + 38 * rg_nc M ≤ c ∧ c < 146 + 38 * rg_nc M) → F.1 c = X.1 c := fun c h1 h2 => by
    subst hF
    rw [rg_I_cell h1]
    funext z
    show (if (110 + 38 * rg_nc M ≤ c ∧ c < 146 + 38 * rg_nc M) ∧ _ ∧ (c - (110 + 38 * rg_nc M) < 36 ∨ (c - (110 + 38 * rg_nc M) = 36 ∧ z < 0)) then _ else X.1 c z) = _
    rw [if_neg (fun q => h2 q.1)]
  have fr : ∀ r, r < 36 → ∀ k, k < 6 → F.1 (110 + 38 * rg_nc M + r) k = rg_tk M t r k := fun r hr k hk => by
    subst hF
    rw [rg_I_cell (by omega)]
    show (if (110 + 38 * rg_nc M ≤ 110 + 38 * rg_nc M + r ∧ 110 + 38 * rg_nc M + r < 146 + 38 * rg_nc M) ∧ k < 6 ∧ (110 + 38 * rg_nc M + r - (110 + 38 * rg_nc M) < 36 ∨ (110 + 38 * rg_nc M + r - (110 + 38 * rg_nc M) = 36 ∧ k < 0)) then rg_tw X t (nI (110 + 38 * rg_nc M + r - (110 + 38 * rg_nc M))) (nI k) else _) = _
    rw [if_pos (by omega), show 110 + 38 * rg_nc M + r - (110 + 38 * rg_nc M) = r by omega]
    exact ett r k hr hk
  have f2 : F.2 = M.2 := by subst hF; exact x2
  have fm : ∀ c, c ≠ 0 → ¬ (110 + 38 * rg_nc M ≤ c ∧ c < 146 + 38 * rg_nc M) → c ≠ 420 + rg_nc M → c ≠ 417 → F.1 c = M.1 c := fun c h1 h2 h3 h4 => (fz c h1 h2).trans (x0 c h3 h4)
  have g0 : ∀ k, F.1 0 k = if k = 11 then nI (rg_nc M + 1) else M.1 0 k := fun k => by
    subst hF
    rw [rg_I_at]
    have : (rg_fil X (rg_nc M) t 36 0).1 0 = X.1 0 := (rg_fil_lo 0 (by omega)).1
    rw [this, x0 0 (by omega) (by omega)]
  have e3 : rg_nl F = rg_nl M := by unfold rg_nl; rw [fm 6 (by omega) (by omega) (by omega) (by omega)]
  have e4 : rg_nt F = rg_nt M := by unfold rg_nt; rw [fm 6 (by omega) (by omega) (by omega) (by omega)]
  have e5 : rg_no F = rg_no M := by unfold rg_no; rw [g0]; rfl
  have e6 : rg_nc F = rg_nc M + 1 := rp_cl (by rw [g0]; rfl) (by omega)
  refine ⟨rg_CI_mk (nw := 16) (np := 3) (nl := rg_nl M) (nt := rg_nt M) (no := rg_no M) (nc := rg_nc M + 1) (sp := rg_sp M) ?_ (by omega) ?_ (by omega) ?_ (by omega) ?_ (by omega) ?_ hno ?_ (by omega) ?_ (rg_CI_s hI).2 (rg_VS_z (rg_CI_d hI) (fun c hc => fm c (by omega) (by omega) (by omega) (by omega)) (by rw [f2])) (fun k hk => rg_VS_z (rg_CI_v hI k hk) (fun c hc => fm c (by omega) (by omega) (by omega) (by omega)) (by rw [f2])) (fun k hk => rg_VS_z (rg_CI_vo hI k hk) (fun c hc => fm c (by omega) (by omega) (by omega) (by omega)) (by rw [f2])) ?_ ?_ ?_, ?_, lw_WI_c (rp_wi h) (fun c hc => fm c (by omega) (by omega) (by omega) (by omega)), rp_C_c (rp_c h) (fm _ (by omega) (by omega) (by omega) (by omega)) (by rw [f2]), ?_, rp_T_c (rp_t h) (by omega) (fun c hc => fm c (by omega) (by omega) (by omega) (by omega)), rp_L_c (rp_l h) (fun c hc => fm c (by omega) (by omega) (by omega) (by omega)), rp_Q_c (rp_q h) (fun c hc => fm c (by omega) (by omega) (by omega) (by omega)), rp_D_c (rp_d h) (fun c hc => fm c (by omega) (by omega) (by omega) (by omega)), rp_F_c2 (rp_f h) hno e5 (fun c hc => fm c (by omega) (by omega) (by omega) (by omega)), ?_⟩
  · rw [fm 1 (by omega) (by omega) (by omega) (by omega)]; exact hN.1.1
  · rw [g0]; exact hN.1.2
  · rw [fm 6 (by omega) (by omega) (by omega) (by omega)]; exact (rg_CI_l hI).1
  · rw [fm 6 (by omega) (by omega) (by omega) (by omega)]; exact (rg_CI_t hI).1
  · rw [g0]; exact (rg_CI_o hI).1
  · rw [g0]; rfl
  · rw [fm 6 (by omega) (by omega) (by omega) (by omega)]; exact (rg_CI_s hI).1
  · intro k hk
    rw [fm 9 (by omega) (by omega) (by omega) (by omega)]
    exact rp_mk h hk
  · intro k hk
    rw [fm 97 (by omega) (by omega) (by omega) (by omega)]
    obtain ⟨q, h1, h2⟩ := rg_CI_mo hI k hk
    exact ⟨q, by rw [rp_np h] at h1; exact h1, h2⟩
  · rw [fm 10 (by omega) (by omega) (by omega) (by omega), fm 11 (by omega) (by omega) (by omega) (by omega)]; exact rg_CI_h hI
  · unfold rp_N
    rw [e3, e4, e5, e6, fm 1 (by omega) (by omega) (by omega) (by omega), g0]
    exact ⟨hN.1, hN.2.1, by omega, hN.2.2.2.1, fun _ => hnl⟩
  · unfold rp_M
    rw [e4, fz 417 (by omega) (by omega), x7, x7, x7, x7, x7, x7, x7, x7, x7, fm 6 (by omega) (by omega) (by omega) (by omega), g0, g0, g0]
    exact ⟨hm.1, hm.2.1, hm.2.2.1, hm.2.2.2.1, hm.2.2.2.2.1, hm.2.2.2.2.2.1, hm.2.2.2.2.2.2.1, rfl, hm.2.2.2.2.2.2.2.2⟩
  · intro c hcc r hr k hk
    rw [e6] at hcc
    by_cases q : c = rg_nc M
    · subst q
      rw [fr r hr k hk]
      refine ⟨fun h10 => ?_, fun h10 => (ht r k hk).2 h10 hr⟩
      rw [fz (420 + rg_nc M) (by omega) (by omega), x5 _ (by omega)]
      exact ⟨(ht r k hk).1 h10, htw r k hk h10⟩
    · rw [fm (420 + c) (by omega) (by omega) (by omega) (by omega), fm (110 + 38 * c + r) (by omega) (by omega) (by omega) (by omega)]
      exact rp_x h c (by omega) r hr k hk
