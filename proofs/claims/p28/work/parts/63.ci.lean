/-! the class's invariant, laid anew -/
theorem rg_CI_mk {F : rg_Mem} {nw np nl nt no nc sp : Nat} (h1 : F.1 1 4 = nI nw) (b1 : nw ≤ 40) (h2 : F.1 0 9 = nI np) (b2 : np ≤ 6) (h3 : F.1 6 4 = nI nl) (b3 : nl ≤ nt) (h4 : F.1 6 0 = nI nt) (b4 : nt ≤ 36) (h5 : F.1 0 10 = nI no) (b5 : no ≤ 4) (h6 : F.1 0 11 = nI nc) (b6 : nc ≤ 8) (h7 : F.1 6 1 = nI sp) (b7 : sp ≤ 10) (h8 : rg_VS F 90 (rg_sz F 90)) (h9 : ∀ k, k < nl → rg_VS F (17 + 2 * k) (rg_sz F (17 + 2 * k))) (h10 : ∀ k, k < no → rg_VS F (99 + 2 * k) (rg_sz F (99 + 2 * k))) (h11 : ∀ k, k < nl → ∃ q, q < np ∧ F.1 9 k = nI q) (h12 : ∀ k, k < no → ∃ q, q < np ∧ F.1 97 k = nI q) (h13 : ∀ k, k < nl → (F.1 10 k = 0 ∨ F.1 10 k = 1) ∧ (F.1 11 k = 0 ∨ F.1 11 k = 1)) : rg_CI F := by
  have e1 : rg_nw F = nw := by unfold rg_nw; rw [h1, nI_clamp (by omega)]
  have e2 : rg_np F = np := by unfold rg_np; rw [h2, nI_clamp (by omega)]
  have e3 : rg_nl F = nl := by unfold rg_nl; rw [h3, nI_clamp (by omega)]
  have e4 : rg_nt F = nt := by unfold rg_nt; rw [h4, nI_clamp (by omega)]
  have e5 : rg_no F = no := by unfold rg_no; rw [h5, nI_clamp (by omega)]
  have e6 : rg_nc F = nc := by unfold rg_nc; rw [h6, nI_clamp (by omega)]
  have e7 : rg_sp F = sp := by unfold rg_sp; rw [h7, nI_clamp (by omega)]
  unfold rg_CI
  rw [e1, e2, e3, e4, e5, e6, e7]
  exact ⟨⟨h1, b1⟩, ⟨h2, b2⟩, ⟨h3, b3⟩, ⟨h4, b4⟩, ⟨h5, b5⟩, ⟨h6, b6⟩, ⟨h7, b7⟩, h8, h9, h10, h11, h12, h13⟩
theorem rg_VS_e {M F : rg_Mem} {v n : Nat} (h : rg_VS M v n) (e : ∀ c, c = 1 ∨ c = 2 ∨ c = 3 ∨ c = 4 ∨ c = v ∨ c = v + 1 → F.1 c = M.1 c) (e2 : F.2 v = M.2 v) : rg_VS F v n := by
  unfold rg_VS rg_has
  rw [e 1 (by omega), e 2 (by omega), e 3 (by omega), e 4 (by omega), e v (by omega), e (v + 1) (by omega), e2]
  exact h
theorem rg_VS_z {M F : rg_Mem} {v : Nat} (h : rg_VS M v (rg_sz M v)) (e : ∀ c, c = 1 ∨ c = 2 ∨ c = 3 ∨ c = 4 ∨ c = v ∨ c = v + 1 → F.1 c = M.1 c) (e2 : F.2 v = M.2 v) : rg_VS F v (rg_sz F v) := by
  have : rg_sz F v = rg_sz M v := by unfold rg_sz; rw [e v (by omega)]
  rw [this]
  exact rg_VS_e h e e2
/-- what the class's invariant is read of -/
theorem rg_CI_c2 {M F : rg_Mem} (h : rg_CI M) (e : ∀ c, c ≤ 4 ∨ c = 6 ∨ c = 9 ∨ c = 10 ∨ c = 11 ∨ c = 97 ∨ (17 ≤ c ∧ c < 89) ∨ c = 90 ∨ c = 91 ∨ (99 ≤ c ∧ c < 107) → F.1 c = M.1 c) (e2 : ∀ c, (17 ≤ c ∧ c < 89) ∨ c = 90 ∨ (99 ≤ c ∧ c < 107) → F.2 c = M.2 c) : rg_CI F := by
  have hl := (rg_CI_l h).2
  have ho := (rg_CI_o h).2
  refine rg_CI_mk (nw := rg_nw M) (np := rg_np M) (nl := rg_nl M) (nt := rg_nt M) (no := rg_no M) (nc := rg_nc M) (sp := rg_sp M) ?_ (rg_CI_w h).2 ?_ (rg_CI_p h).2 ?_ h.2.2.1.2 ?_ (rg_CI_t h).2 ?_ ho ?_ (rg_CI_c h).2 ?_ (rg_CI_s h).2 (rg_VS_z (rg_CI_d h) (fun c hc => e c (by omega)) (e2 _ (by omega))) (fun k hk => rg_VS_z (rg_CI_v h k hk) (fun c hc => e c (by omega)) (e2 _ (by omega))) (fun k hk => rg_VS_z (rg_CI_vo h k hk) (fun c hc => e c (by omega)) (e2 _ (by omega))) ?_ ?_ ?_
  · rw [e 1 (by omega)]; exact (rg_CI_w h).1
  · rw [e 0 (by omega)]; exact (rg_CI_p h).1
  · rw [e 6 (by omega)]; exact (rg_CI_l h).1
  · rw [e 6 (by omega)]; exact (rg_CI_t h).1
  · rw [e 0 (by omega)]; exact (rg_CI_o h).1
  · rw [e 0 (by omega)]; exact (rg_CI_c h).1
  · rw [e 6 (by omega)]; exact (rg_CI_s h).1
  · rw [e 9 (by omega)]; exact rg_CI_m h
  · rw [e 97 (by omega)]; exact rg_CI_mo h
  · rw [e 10 (by omega), e 11 (by omega)]; exact rg_CI_h h
theorem rp_np {M : rg_Mem} (h : rp_Inv M) : rg_np M = 3 := by unfold rg_np; rw [(rp_n h).1.2, nI_clamp (by omega)]
theorem rp_cl {F : rg_Mem} {c k n : Nat} (h : F.1 c k = nI n) (hn : n ≤ 100000) : (F.1 c k).toNatClampNeg = n := by rw [h, nI_clamp (by omega)]
/-! begin -/
def lw_bg (M : rg_Mem) (i : Nat) : rg_Mem := (fun c k => if (c = 414 ∧ k < i) ∨ ((c = 415 ∨ c = 416) ∧ k < i ∧ k < 40) then 0 else M.1 c k, M.2)
theorem lw_bg_0 {M : rg_Mem} : M = lw_bg M 0 := by
  refine Prod.ext ?_ rfl
  funext c k
  show _ = if _ then _ else _
  rw [if_neg (by omega)]
theorem lw_bg_s {M : rg_Mem} {i : Nat} (hi : i < 60) : rg_I (rg_I (rg_I (lw_bg M i) 414 i 0) 415 (i % 40) 0) 416 (i % 40) 0 = lw_bg M (i + 1) := by
  refine Prod.ext ?_ rfl
  funext c k
  show (if c = 416 ∧ k = i % 40 then (0 : Int32) else if c = 415 ∧ k = i % 40 then 0 else if c = 414 ∧ k = i then 0 else if _ then 0 else M.1 c k) = if _ then 0 else M.1 c k
  by_cases h1 : c = 416 ∧ k = i % 40
  · rw [if_pos h1, if_pos (by omega)]
  · rw [if_neg h1]
    by_cases h2 : c = 415 ∧ k = i % 40
    · rw [if_pos h2, if_pos (by omega)]
    · rw [if_neg h2]
      by_cases h3 : c = 414 ∧ k = i
      · rw [if_pos h3, if_pos (by omega)]
      · rw [if_neg h3]
        by_cases h4 : (c = 414 ∧ k < i) ∨ ((c = 415 ∨ c = 416) ∧ k < i ∧ k < 40)
        · rw [if_pos h4, if_pos (by omega)]
        · rw [if_neg h4, if_neg (by omega)]
theorem lw_bg_c {M : rg_Mem} {i c k : Nat} (h : c ≠ 414 ∧ c ≠ 415 ∧ c ≠ 416) : (lw_bg M i).1 c k = M.1 c k := by
  show (if _ then _ else _) = _
  rw [if_neg (by omega)]
theorem rp_begin {M X F : rg_Mem} {a b d f : Nat} (h : rp_Inv M) (ha : 2 ≤ a ∧ a ≤ 10) (hb : b ≤ 3) (x0 : ∀ c, c ≠ 414 → c ≠ 415 → c ≠ 416 → c ≠ 417 → X.1 c = M.1 c) (x2 : X.2 = M.2) (x4 : ∀ k, X.1 414 k = if k < 60 then 0 else M.1 414 k) (x5 : ∀ k, k < 40 → X.1 415 k = 0) (x6 : ∀ k, k < 40 → X.1 416 k = 0)
    (x7 : X.1 417 0 = nI b ∧ X.1 417 1 = nI d ∧ X.1 417 2 = nI f ∧ X.1 417 3 = 0 ∧ X.1 417 4 = nI a ∧ X.1 417 5 = 0 ∧ X.1 417 6 = M.1 417 6 ∧ X.1 417 7 = 0 ∧ X.1 417 8 = 1)
    (hF : F = rg_I (rg_I (rg_z7 (rg_I (rg_I (rg_I (rg_I (rg_I X 6 0 (nI a)) 6 1 (nI b)) 6 2 (nI d)) 6 3 (nI f)) 6 4 0) 36) 0 10 0) 0 11 0) : rp_Inv F := by
  have f0 : ∀ c, c ≠ 0 → c ≠ 6 → c ≠ 7 → F.1 c = X.1 c := fun c h1 h2 h3 => by
    subst hF
    rw [rg_I_cell h1, rg_I_cell h1]
    funext k
    show (if _ then _ else _) = _
    rw [if_neg (fun q => h3 q.1)]
    rw [rg_I_cell h2, rg_I_cell h2, rg_I_cell h2, rg_I_cell h2, rg_I_cell h2]
  have f2 : F.2 = M.2 := by subst hF; exact x2
  have g0 : ∀ k, F.1 0 k = if k = 11 then 0 else if k = 10 then 0 else M.1 0 k := fun k => by
    subst hF
    show (if 0 = 0 ∧ k = 11 then (0 : Int32) else if 0 = 0 ∧ k = 10 then 0 else X.1 0 k) = _
    rw [x0 0 (by omega) (by omega) (by omega) (by omega)]
    simp
  have g6 : F.1 6 0 = nI a ∧ F.1 6 1 = nI b ∧ F.1 6 2 = nI d ∧ F.1 6 3 = nI f ∧ F.1 6 4 = 0 := by
    subst hF
    exact ⟨rfl, rfl, rfl, rfl, rfl⟩
  have g7 : ∀ k, k < 36 → F.1 7 k = 0 := fun k hk => by
    subst hF
    show (if 7 = 7 ∧ k < 36 then (0 : Int32) else _) = 0
    rw [if_pos ⟨rfl, hk⟩]
  have fm : ∀ c, c ≠ 0 → c ≠ 6 → c ≠ 7 → c ≠ 414 → c ≠ 415 → c ≠ 416 → c ≠ 417 → F.1 c = M.1 c := fun c a1 a2 a3 a4 a5 a6 a7 => (f0 c a1 a2 a3).trans (x0 c a4 a5 a6 a7)
  have hI := rp_ci h
  have e3 : rg_nl F = 0 := by unfold rg_nl; rw [g6.2.2.2.2]; rfl
  have e4 : rg_nt F = a := rp_cl g6.1 (by omega)
  have e5 : rg_no F = 0 := by unfold rg_no; rw [g0]; rfl
  have e6 : rg_nc F = 0 := by unfold rg_nc; rw [g0]; rfl
  have hN := rp_n h
  have hm := rp_m h
  refine ⟨rg_CI_mk (nw := 16) (np := 3) (nl := 0) (nt := a) (no := 0) (nc := 0) (sp := b) ?_ (by omega) ?_ (by omega) g6.2.2.2.2 (by omega) g6.1 (by omega) (g0 10) (by omega) (g0 11) (by omega) g6.2.1 (by omega) (rg_VS_z (rg_CI_d hI) (fun c hc => fm c (by omega) (by omega) (by omega) (by omega) (by omega) (by omega) (by omega)) (by rw [f2])) (fun k hk => absurd hk (by omega)) (fun k hk => absurd hk (by omega)) (fun k hk => absurd hk (by omega)) (fun k hk => absurd hk (by omega)) (fun k hk => absurd hk (by omega)), ?_, lw_WI_c (rp_wi h) (fun c hc => fm c (by omega) (by omega) (by omega) (by omega) (by omega) (by omega) (by omega)), rp_C_c (rp_c h) (fm _ (by omega) (by omega) (by omega) (by omega) (by omega) (by omega) (by omega)) (by rw [f2]), ?_, ?_, ?_, ?_, rp_D_c (rp_d h) (fun c hc => fm c (by omega) (by omega) (by omega) (by omega) (by omega) (by omega) (by omega)), fun o ho => absurd ho (by omega), fun c hc => absurd hc (by omega)⟩
  · rw [fm 1 (by omega) (by omega) (by omega) (by omega) (by omega) (by omega) (by omega)]; exact hN.1.1
  · rw [g0]; exact hN.1.2
  · unfold rp_N
    rw [e3, e4, e5, e6, fm 1 (by omega) (by omega) (by omega) (by omega) (by omega) (by omega) (by omega), g0]
    exact ⟨hN.1, by omega, by omega, fun q => by omega, fun q => by omega⟩
  · unfold rp_M
    rw [e4, f0 417 (by omega) (by omega) (by omega), x7.1, x7.2.1, x7.2.2.1, x7.2.2.2.1, x7.2.2.2.2.1, x7.2.2.2.2.2.1, x7.2.2.2.2.2.2.1, x7.2.2.2.2.2.2.2.1, x7.2.2.2.2.2.2.2.2, g6.1, g6.2.1, g6.2.2.1, g6.2.2.2.1, g6.2.2.2.2, g0, g0, g0]
    exact ⟨rfl, rfl, rfl, rfl, rfl, rfl, hm.2.2.2.2.2.2.1, rfl, (rg_b_t (by omega))⟩
  · unfold rp_T
    rw [e3, f0 414 (by omega) (by omega) (by omega)]
    refine ⟨fun j hj => absurd hj (by omega), fun i _ hi => ?_⟩
    rw [x4]
    by_cases c : i < 60
    · rw [if_pos c]
    · rw [if_neg c]
      exact (rp_t h).2 i (by have := rp_nl h; omega) hi
  · unfold rp_L
    rw [e3, f0 415 (by omega) (by omega) (by omega)]
    intro j hj
    refine ⟨?_, fun q => absurd q (by omega), fun _ => ⟨x5 _ (by omega), x5 _ (by omega)⟩⟩
    rw [x5 _ (by omega), g7 j (by omega)]
  · unfold rp_Q
    rw [e3, f0 416 (by omega) (by omega) (by omega)]
    intro g hg j hj
    exact ⟨fun q => absurd q (by omega), fun _ => x6 _ (by omega)⟩
theorem lw_bg_X {M X : rg_Mem} {a b d f : Int32} (e : rg_I (rg_I (rg_I (rg_I (rg_I (rg_I (rg_I (rg_I (lw_bg M 60) 417 0 b) 417 1 d) 417 2 f) 417 3 0) 417 4 a) 417 5 0) 417 7 0) 417 8 1 = X) : (∀ c, c ≠ 414 → c ≠ 415 → c ≠ 416 → c ≠ 417 → X.1 c = M.1 c) ∧ X.2 = M.2 ∧ (∀ k, X.1 414 k = if k < 60 then 0 else M.1 414 k) ∧ (∀ k, k < 40 → X.1 415 k = 0) ∧ (∀ k, k < 40 → X.1 416 k = 0) ∧
    (X.1 417 0 = b ∧ X.1 417 1 = d ∧ X.1 417 2 = f ∧ X.1 417 3 = 0 ∧ X.1 417 4 = a ∧ X.1 417 5 = 0 ∧ X.1 417 6 = M.1 417 6 ∧ X.1 417 7 = 0 ∧ X.1 417 8 = 1) := by
  subst e
  have z : ∀ c, c ≠ 417 → ∀ k, (rg_I (rg_I (rg_I (rg_I (rg_I (rg_I (rg_I (rg_I (lw_bg M 60) 417 0 b) 417 1 d) 417 2 f) 417 3 0) 417 4 a) 417 5 0) 417 7 0) 417 8 1).1 c k = (lw_bg M 60).1 c k := fun c hc k => by
    rw [rg_I_cell hc, rg_I_cell hc, rg_I_cell hc, rg_I_cell hc, rg_I_cell hc, rg_I_cell hc, rg_I_cell hc, rg_I_cell hc]
  refine ⟨fun c h1 h2 h3 h4 => funext fun k => (z c h4 k).trans (lw_bg_c ⟨h1, h2, h3⟩), rfl, fun k => ?_, fun k hk => ?_, fun k hk => ?_, rfl, rfl, rfl, rfl, rfl, rfl, rfl, rfl, rfl⟩
  · rw [z _ (by omega)]
    show (if (414 = 414 ∧ k < 60) ∨ ((414 = 415 ∨ 414 = 416) ∧ k < 60 ∧ k < 40) then (0 : Int32) else M.1 414 k) = _
    by_cases c : k < 60
    · rw [if_pos (Or.inl ⟨rfl, c⟩), if_pos c]
    · rw [if_neg (by omega), if_neg c]
  · rw [z _ (by omega)]
    show (if (415 = 414 ∧ k < 60) ∨ ((415 = 415 ∨ 415 = 416) ∧ k < 60 ∧ k < 40) then (0 : Int32) else M.1 415 k) = _
    rw [if_pos (by omega)]
  · rw [z _ (by omega)]
    show (if (416 = 414 ∧ k < 60) ∨ ((416 = 415 ∨ 416 = 416) ∧ k < 60 ∧ k < 40) then (0 : Int32) else M.1 416 k) = _
    rw [if_pos (by omega)]
theorem rg_RvT {l : Launch} {y : MethodName} {ws : List Cond} {rm : Room} {Pc : Array Value → State → Prop} {E : rg_Env} {B n mc ms : Nat} {R : rg_Rfs} {g : rg_Mem} {post : Prop} {free : Addr → Prop} (h : Met l y ws rm Pc (rg_Rv E B n R g post) mc ms free) : Met l y ws rm Pc (rg_Rv E B n R g True) mc ms free :=
  MetFree.mono h (fun _ _ q => q) (fun _ _ _ _ _ k => k) (fun a st o t _ q => ⟨by
    obtain ⟨⟨u, h1, _, h3⟩, h4⟩ := q.1
    exact ⟨⟨u, h1, trivial, h3⟩, h4⟩, q.2⟩)
