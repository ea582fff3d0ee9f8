/-! what always holds of the class's state and the model's, part by part -/
def I_w (M : rg_Mem) : Prop := M.1 1 4 = nI (rg_nw M) ∧ rg_nw M ≤ 40 ∧ M.1 412 4 = M.1 1 4 ∧ M.1 413 = M.1 2 ∧ M.1 414 = M.1 3 ∧ M.1 415 = M.1 4 ∧ M.2 416 = M.2 5 ∧ ∀ w, w < rg_nw M → (∃ q, q ≤ 12 ∧ M.1 2 w = nI q) ∧ ∃ q, q ≤ 1023 ∧ M.1 4 w = nI q
def I_p (M : rg_Mem) : Prop := M.1 0 9 = nI (rg_np M) ∧ rg_np M ≤ 6 ∧ M.1 412 5 = M.1 0 9
def I_s (M : rg_Mem) : Prop := M.1 6 4 = nI (rg_nl M) ∧ rg_nl M ≤ rg_nt M ∧ M.1 6 0 = nI (rg_nt M) ∧ rg_nt M ≤ 36 ∧ M.1 6 1 = nI (rg_sp M) ∧ rg_sp M ≤ 10 ∧ M.1 412 11 = M.1 6 4 ∧ M.1 412 7 = M.1 6 0 ∧ M.1 412 8 = M.1 6 1 ∧ M.1 412 9 = M.1 6 2 ∧ M.1 412 10 = M.1 6 3 ∧ ((M.1 412 6 = 0 ∧ rg_nt M = 0) ∨ (M.1 412 6 = 1 ∧ 2 ≤ rg_nt M))
def I_t (M : rg_Mem) : Prop := M.1 420 = M.1 7
def I_d (M : rg_Mem) : Prop := rg_VS M 90 (rg_sz M 90) ∧ M.1 412 20 = M.1 90 1 ∧ ∀ k, k < rg_sz M 90 → M.1 424 k = M.1 91 k
def I_v1 (M : rg_Mem) (l : Nat) : Prop := rg_VS M (17 + 2 * l) (rg_sz M (17 + 2 * l)) ∧ M.1 418 l = M.1 (17 + 2 * l) 1 ∧ (∀ k, k < rg_sz M (17 + 2 * l) → M.1 417 (6 * l + k) = M.1 (17 + 2 * l + 1) k) ∧ (∃ q, q < rg_np M ∧ M.1 9 l = nI q) ∧ M.1 421 l = M.1 10 l ∧ M.1 422 l = M.1 11 l ∧ ∀ j, j < 4 → M.1 (13 + j) l = M.1 423 (36 * j + l) - 1
def I_v (M : rg_Mem) : Prop := M.1 419 = M.1 9 ∧ (∀ l, l < rg_nl M → I_v1 M l) ∧ (∀ k, k < 36 → (M.1 421 k = 0 ∨ M.1 421 k = 1) ∧ (M.1 422 k = 0 ∨ M.1 422 k = 1)) ∧ ∀ j k, j < 4 → k < 36 → (rg_nl M ≤ k → M.1 423 (36 * j + k) = 0) ∧ ∃ q, q ≤ 11 ∧ M.1 423 (36 * j + k) = nI q
def I_o1 (M : rg_Mem) (o : Nat) : Prop := rg_VS M (99 + 2 * o) (rg_sz M (99 + 2 * o)) ∧ M.1 426 o = M.1 (99 + 2 * o) 1 ∧ (∀ k, k < rg_sz M (99 + 2 * o) → M.1 425 (6 * o + k) = M.1 (99 + 2 * o + 1) k) ∧ (∃ q, q < rg_np M ∧ M.1 97 o = nI q) ∧ M.1 427 o = M.1 97 o
def I_o (M : rg_Mem) : Prop := M.1 0 10 = nI (rg_no M) ∧ rg_no M ≤ 4 ∧ M.1 412 24 = M.1 0 10 ∧ (0 < rg_no M → rg_nl M < rg_nt M) ∧ ∀ o, o < rg_no M → I_o1 M o
def I_c1 (M : rg_Mem) (c : Nat) : Prop := (M.1 430 c = nI (rm_cl M c) ∧ rm_cl M c ≤ 36) ∧ ∀ x, x < 36 → (x < rm_cl M c → M.1 429 (36 * c + x) = nI (rm_cz M c x) ∧ rm_cz M c x ≤ 6) ∧ ∀ y, y < 6 → (x < rm_cl M c ∧ y < rm_cz M c x → M.1 (110 + 38 * c + x) y = M.1 428 (216 * c + 6 * x + y) ∧ rg_has M (M.1 428 (216 * c + 6 * x + y))) ∧ (¬ (x < rm_cl M c ∧ y < rm_cz M c x) → M.1 (110 + 38 * c + x) y = -1)
def I_c (M : rg_Mem) : Prop := M.1 0 11 = nI (rg_nc M) ∧ rg_nc M ≤ 8 ∧ M.1 412 29 = M.1 0 11 ∧ ∀ c, c < rg_nc M → I_c1 M c
def I_y (M : rg_Mem) : Prop := M.1 412 25 = M.1 0 12
/-- no word twice -/
def rg_di (M : rg_Mem) (v n : Nat) : Prop := ∀ i k, i < k → k < n → ¬ M.1 (v + 1) i = M.1 (v + 1) k
def I_z (M : rg_Mem) : Prop := (∀ l, l < rg_nl M → rg_di M (17 + 2 * l) (rg_sz M (17 + 2 * l))) ∧ ∀ o, o < rg_no M → rg_di M (99 + 2 * o) (rg_sz M (99 + 2 * o))
def rg_Inv (M : rg_Mem) : Prop := I_w M ∧ I_p M ∧ I_s M ∧ I_t M ∧ I_d M ∧ I_v M ∧ I_o M ∧ I_c M ∧ I_y M ∧ I_z M
theorem rg_VS_k {M M' : rg_Mem} {v n : Nat} (h : rg_VS M v n) (e1 : M'.1 1 4 = M.1 1 4) (e2 : ∀ c, 2 ≤ c → c ≤ 4 → M'.1 c = M.1 c) (e3 : M'.1 v = M.1 v) (e4 : M'.1 (v + 1) = M.1 (v + 1)) (e5 : M'.2 v = M.2 v) : rg_VS M' v n := by
  unfold rg_VS rg_has at h ⊢
  rw [e1, e2 2 (by omega) (by omega), e2 3 (by omega) (by omega), e2 4 (by omega) (by omega), e3, e4, e5]
  exact h
section IK
variable {M M' : rg_Mem}
theorem I_w_k (h : I_w M) (e1 : M'.1 1 4 = M.1 1 4) (e2 : M'.1 412 4 = M.1 412 4) (f : ∀ c, (2 ≤ c ∧ c ≤ 4) ∨ (413 ≤ c ∧ c ≤ 415) → M'.1 c = M.1 c) (g1 : M'.2 5 = M.2 5) (g2 : M'.2 416 = M.2 416) : I_w M' := by
  unfold I_w rg_nw at h ⊢
  rw [e1, e2, f 2 (by omega), f 3 (by omega), f 4 (by omega), f 413 (by omega), f 414 (by omega), f 415 (by omega), g1, g2]
  exact h
theorem I_p_k (h : I_p M) (e1 : M'.1 0 9 = M.1 0 9) (e2 : M'.1 412 5 = M.1 412 5) : I_p M' := by
  unfold I_p rg_np at h ⊢
  rw [e1, e2]
  exact h
theorem I_s_k (h : I_s M) (e1 : ∀ k, k < 5 → M'.1 6 k = M.1 6 k) (e2 : ∀ k, 6 ≤ k → k ≤ 11 → M'.1 412 k = M.1 412 k) : I_s M' := by
  unfold I_s rg_nl rg_nt rg_sp at h ⊢
  rw [e1 0 (by omega), e1 1 (by omega), e1 2 (by omega), e1 3 (by omega), e1 4 (by omega), e2 6 (by omega) (by omega), e2 7 (by omega) (by omega), e2 8 (by omega) (by omega), e2 9 (by omega) (by omega), e2 10 (by omega) (by omega), e2 11 (by omega) (by omega)]
  exact h
theorem I_t_k (h : I_t M) (e1 : M'.1 7 = M.1 7) (e2 : M'.1 420 = M.1 420) : I_t M' := by
  unfold I_t at h ⊢
  rw [e1, e2]
  exact h
theorem I_d_k (h : I_d M) (e1 : M'.1 1 4 = M.1 1 4) (e2 : ∀ c, 2 ≤ c → c ≤ 4 → M'.1 c = M.1 c) (e3 : M'.1 90 = M.1 90) (e4 : M'.1 91 = M.1 91) (e5 : M'.2 90 = M.2 90) (e6 : M'.1 412 20 = M.1 412 20) (e7 : M'.1 424 = M.1 424) : I_d M' := by
  refine ⟨?_, ?_, ?_⟩
  · unfold rg_sz
    rw [e3]
    exact rg_VS_k h.1 e1 e2 e3 e4 e5
  · rw [e6, e3]; exact h.2.1
  · unfold rg_sz
    rw [e3, e4, e7]
    exact h.2.2
theorem I_v1_k {l : Nat} (h : I_v1 M l) (hl : l < 36) (e1 : M'.1 1 4 = M.1 1 4) (e2 : M'.1 0 9 = M.1 0 9) (f : ∀ c, (2 ≤ c ∧ c ≤ 4) ∨ (9 ≤ c ∧ c ≤ 11) ∨ (13 ≤ c ∧ c < 89) ∨ (417 ≤ c ∧ c ≤ 419) ∨ (421 ≤ c ∧ c ≤ 423) → M'.1 c = M.1 c) (g : ∀ c, 17 ≤ c → c < 89 → M'.2 c = M.2 c) : I_v1 M' l := by
  have hs : rg_sz M' (17 + 2 * l) = rg_sz M (17 + 2 * l) := by unfold rg_sz; rw [f _ (by omega)]
  have hp : rg_np M' = rg_np M := by unfold rg_np; rw [e2]
  unfold I_v1 at h ⊢
  rw [hs, hp, f 418 (by omega), f (17 + 2 * l) (by omega), f 417 (by omega), f (17 + 2 * l + 1) (by omega), f 9 (by omega), f 421 (by omega), f 10 (by omega), f 422 (by omega), f 11 (by omega), f 423 (by omega)]
  refine ⟨rg_VS_k h.1 e1 (fun c h1 h2 => f c (by omega)) (f _ (by omega)) (f _ (by omega)) (g _ (by omega) (by omega)), h.2.1, h.2.2.1, h.2.2.2.1, h.2.2.2.2.1, h.2.2.2.2.2.1, fun j hj => ?_⟩
  rw [f (13 + j) (by omega)]
  exact h.2.2.2.2.2.2 j hj
theorem I_v_k (hs : I_s M) (h : I_v M) (e0 : M'.1 6 4 = M.1 6 4) (e1 : M'.1 1 4 = M.1 1 4) (e2 : M'.1 0 9 = M.1 0 9) (f : ∀ c, (2 ≤ c ∧ c ≤ 4) ∨ (9 ≤ c ∧ c ≤ 11) ∨ (13 ≤ c ∧ c < 89) ∨ (417 ≤ c ∧ c ≤ 419) ∨ (421 ≤ c ∧ c ≤ 423) → M'.1 c = M.1 c) (g : ∀ c, 17 ≤ c → c < 89 → M'.2 c = M.2 c) : I_v M' := by
  have hn : rg_nl M' = rg_nl M := by unfold rg_nl; rw [e0]
  have hl := hs.2.1
  have ht := hs.2.2.2.1
  refine ⟨by rw [f 419 (by omega), f 9 (by omega)]; exact h.1, fun l hl => I_v1_k (h.2.1 l (by omega)) (by omega) e1 e2 f g, ?_, ?_⟩
  · rw [f 421 (by omega), f 422 (by omega)]; exact h.2.2.1
  · rw [hn, f 423 (by omega)]; exact h.2.2.2
theorem I_o1_k {o : Nat} (h : I_o1 M o) (ho : o < 4) (e1 : M'.1 1 4 = M.1 1 4) (e2 : M'.1 0 9 = M.1 0 9) (f : ∀ c, (2 ≤ c ∧ c ≤ 4) ∨ c = 97 ∨ (99 ≤ c ∧ c ≤ 106) ∨ (425 ≤ c ∧ c ≤ 427) → M'.1 c = M.1 c) (g : ∀ c, 99 ≤ c → c ≤ 106 → M'.2 c = M.2 c) : I_o1 M' o := by
  have hs : rg_sz M' (99 + 2 * o) = rg_sz M (99 + 2 * o) := by unfold rg_sz; rw [f _ (by omega)]
  have hp : rg_np M' = rg_np M := by unfold rg_np; rw [e2]
  unfold I_o1 at h ⊢
  rw [hs, hp, f 426 (by omega), f (99 + 2 * o) (by omega), f 425 (by omega), f (99 + 2 * o + 1) (by omega), f 97 (by omega), f 427 (by omega)]
  exact ⟨rg_VS_k h.1 e1 (fun c h1 h2 => f c (by omega)) (f _ (by omega)) (f _ (by omega)) (g _ (by omega) (by omega)), h.2⟩
theorem I_o_k (h : I_o M) (e0 : ∀ k, k < 5 → M'.1 6 k = M.1 6 k) (e1 : M'.1 1 4 = M.1 1 4) (e2 : M'.1 0 9 = M.1 0 9) (e3 : M'.1 0 10 = M.1 0 10) (e4 : M'.1 412 24 = M.1 412 24) (f : ∀ c, (2 ≤ c ∧ c ≤ 4) ∨ c = 97 ∨ (99 ≤ c ∧ c ≤ 106) ∨ (425 ≤ c ∧ c ≤ 427) → M'.1 c = M.1 c) (g : ∀ c, 99 ≤ c → c ≤ 106 → M'.2 c = M.2 c) : I_o M' := by
  have hn : rg_no M' = rg_no M := by unfold rg_no; rw [e3]
  have h1 : rg_nl M' = rg_nl M := by unfold rg_nl; rw [e0 4 (by omega)]
  have h2 : rg_nt M' = rg_nt M := by unfold rg_nt; rw [e0 0 (by omega)]
  have h4 := h.2.1
  refine ⟨by rw [hn, e3]; exact h.1, by rw [hn]; exact h.2.1, by rw [e4, e3]; exact h.2.2.1, by rw [hn, h1, h2]; exact h.2.2.2.1, fun o ho => I_o1_k (h.2.2.2.2 o (by omega)) (by omega) e1 e2 f g⟩
theorem I_c1_k {c : Nat} (h : I_c1 M c) (hc : c < 8) (e1 : M'.1 1 4 = M.1 1 4) (f : ∀ d, (110 ≤ d ∧ d < 412) ∨ (428 ≤ d ∧ d ≤ 430) → M'.1 d = M.1 d) : I_c1 M' c := by
  have h1 : rm_cl M' c = rm_cl M c := by unfold rm_cl; rw [f 430 (by omega)]
  have h2 : rm_cz M' c = rm_cz M c := by funext x; unfold rm_cz; rw [f 429 (by omega)]
  unfold I_c1 rg_has at h ⊢
  rw [h1, h2, e1, f 430 (by omega), f 429 (by omega), f 428 (by omega)]
  refine ⟨h.1, fun x hx => ?_⟩
  rw [f (110 + 38 * c + x) (by omega)]
  exact h.2 x hx
theorem I_c_k (h : I_c M) (e1 : M'.1 1 4 = M.1 1 4) (e3 : M'.1 0 11 = M.1 0 11) (e4 : M'.1 412 29 = M.1 412 29) (f : ∀ d, (110 ≤ d ∧ d < 412) ∨ (428 ≤ d ∧ d ≤ 430) → M'.1 d = M.1 d) : I_c M' := by
  have hn : rg_nc M' = rg_nc M := by unfold rg_nc; rw [e3]
  have h8 := h.2.1
  exact ⟨by rw [hn, e3]; exact h.1, by rw [hn]; exact h.2.1, by rw [e4, e3]; exact h.2.2.1, fun c hc => I_c1_k (h.2.2.2 c (by omega)) (by omega) e1 f⟩
theorem I_y_k (h : I_y M) (e1 : M'.1 0 12 = M.1 0 12) (e2 : M'.1 412 25 = M.1 412 25) : I_y M' := by
  unfold I_y at h ⊢
  rw [e1, e2]
  exact h
theorem rg_di_k {v n : Nat} (h : rg_di M v n) (e : M'.1 (v + 1) = M.1 (v + 1)) : rg_di M' v n := by
  unfold rg_di at h ⊢
  rw [e]
  exact h
theorem I_z_k (hs : I_s M) (ho : I_o M) (h : I_z M) (e0 : M'.1 6 4 = M.1 6 4) (e3 : M'.1 0 10 = M.1 0 10) (f : ∀ c, (17 ≤ c ∧ c < 89) ∨ (99 ≤ c ∧ c ≤ 106) → M'.1 c = M.1 c) : I_z M' := by
  have hn : rg_nl M' = rg_nl M := by unfold rg_nl; rw [e0]
  have hn2 : rg_no M' = rg_no M := by unfold rg_no; rw [e3]
  have hl := hs.2.1
  have ht := hs.2.2.2.1
  have h4 := ho.2.1
  refine ⟨fun l hl => ?_, fun o ho => ?_⟩
  · unfold rg_sz
    rw [f (17 + 2 * l) (by omega)]
    exact rg_di_k (h.1 l (by omega)) (f _ (by omega))
  · unfold rg_sz
    rw [f (99 + 2 * o) (by omega)]
    exact rg_di_k (h.2 o (by omega)) (f _ (by omega))
/-- memories that are alike but for rows of work -/
def rg_same (M M' : rg_Mem) : Prop := (∀ c, c ≠ 92 → c ≠ 93 → c ≠ 95 → c ≠ 96 → c ≠ 412 → c ≠ 431 → c ≠ 432 → M'.1 c = M.1 c ∧ M'.2 c = M.2 c) ∧ ∀ k, k < 31 → M'.1 412 k = M.1 412 k
theorem rg_Inv_same (h : rg_Inv M) (g : rg_same M M') : rg_Inv M' := by
  obtain ⟨h1, h2, h3, h4, h5, h6, h7, h8, h9, h10⟩ := h
  obtain ⟨g1, z⟩ := g
  have f : ∀ c, c ≠ 92 → c ≠ 93 → c ≠ 95 → c ≠ 96 → c ≠ 412 → c ≠ 431 → c ≠ 432 → M'.1 c = M.1 c := fun c a1 a2 a3 a4 a5 a6 a7 => (g1 c a1 a2 a3 a4 a5 a6 a7).1
  have f2 : ∀ c, c ≠ 92 → c ≠ 93 → c ≠ 95 → c ≠ 96 → c ≠ 412 → c ≠ 431 → c ≠ 432 → M'.2 c = M.2 c := fun c a1 a2 a3 a4 a5 a6 a7 => (g1 c a1 a2 a3 a4 a5 a6 a7).2
  have q0 : M'.1 0 = M.1 0 := f 0 (by omega) (by omega) (by omega) (by omega) (by omega) (by omega) (by omega)
  have q1 : M'.1 1 = M.1 1 := f 1 (by omega) (by omega) (by omega) (by omega) (by omega) (by omega) (by omega)
  have q6 : M'.1 6 = M.1 6 := f 6 (by omega) (by omega) (by omega) (by omega) (by omega) (by omega) (by omega)
  refine ⟨I_w_k h1 (by rw [q1]) (z 4 (by omega)) (fun c hc => f c (by omega) (by omega) (by omega) (by omega) (by omega) (by omega) (by omega)) (f2 5 (by omega) (by omega) (by omega) (by omega) (by omega) (by omega) (by omega)) (f2 416 (by omega) (by omega) (by omega) (by omega) (by omega) (by omega) (by omega)), I_p_k h2 (by rw [q0]) (z 5 (by omega)), I_s_k h3 (fun k _ => by rw [q6]) (fun k _ _ => z k (by omega)), I_t_k h4 (f 7 (by omega) (by omega) (by omega) (by omega) (by omega) (by omega) (by omega)) (f 420 (by omega) (by omega) (by omega) (by omega) (by omega) (by omega) (by omega)), ?_, I_v_k h3 h6 (by rw [q6]) (by rw [q1]) (by rw [q0]) (fun c hc => f c (by omega) (by omega) (by omega) (by omega) (by omega) (by omega) (by omega)) (fun c c1 c2 => f2 c (by omega) (by omega) (by omega) (by omega) (by omega) (by omega) (by omega)), I_o_k h7 (fun k _ => by rw [q6]) (by rw [q1]) (by rw [q0]) (by rw [q0]) (z 24 (by omega)) (fun c hc => f c (by omega) (by omega) (by omega) (by omega) (by omega) (by omega) (by omega)) (fun c c1 c2 => f2 c (by omega) (by omega) (by omega) (by omega) (by omega) (by omega) (by omega)), I_c_k h8 (by rw [q1]) (by rw [q0]) (z 29 (by omega)) (fun c hc => f c (by omega) (by omega) (by omega) (by omega) (by omega) (by omega) (by omega)), I_y_k h9 (by rw [q0]) (z 25 (by omega)), I_z_k h3 h7 h10 (by rw [q6]) (by rw [q0]) (fun c hc => f c (by omega) (by omega) (by omega) (by omega) (by omega) (by omega) (by omega))⟩
  exact I_d_k h5 (by rw [q1]) (fun c c1 c2 => f c (by omega) (by omega) (by omega) (by omega) (by omega) (by omega) (by omega)) (f 90 (by omega) (by omega) (by omega) (by omega) (by omega) (by omega) (by omega)) (f 91 (by omega) (by omega) (by omega) (by omega) (by omega) (by omega) (by omega)) (f2 90 (by omega) (by omega) (by omega) (by omega) (by omega) (by omega) (by omega)) (z 20 (by omega)) (f 424 (by omega) (by omega) (by omega) (by omega) (by omega) (by omega) (by omega))
end IK
section IC
variable {M : rg_Mem}
theorem rg_Inv_w (h : rg_Inv M) : I_w M := h.1
theorem rg_Inv_p (h : rg_Inv M) : I_p M := h.2.1
theorem rg_Inv_s (h : rg_Inv M) : I_s M := h.2.2.1
theorem rg_Inv_t (h : rg_Inv M) : I_t M := h.2.2.2.1
theorem rg_Inv_d (h : rg_Inv M) : I_d M := h.2.2.2.2.1
theorem rg_Inv_v (h : rg_Inv M) : I_v M := h.2.2.2.2.2.1
theorem rg_Inv_of (h : rg_Inv M) : I_o M := h.2.2.2.2.2.2.1
theorem rg_Inv_c (h : rg_Inv M) : I_c M := h.2.2.2.2.2.2.2.1
theorem rg_Inv_y (h : rg_Inv M) : I_y M := h.2.2.2.2.2.2.2.2.1
theorem rg_Inv_z (h : rg_Inv M) : I_z M := h.2.2.2.2.2.2.2.2.2
theorem rm_nw_i (h : rg_Inv M) : rm_nw M = rg_nw M := by unfold rm_nw rg_nw; rw [(rg_Inv_w h).2.2.1]
theorem rm_np_i (h : rg_Inv M) : rm_np M = rg_np M := by unfold rm_np rg_np; rw [(rg_Inv_p h).2.2]
theorem rm_nl_i (h : rg_Inv M) : rm_nl M = rg_nl M := by unfold rm_nl rg_nl; rw [(rg_Inv_s h).2.2.2.2.2.2.1]
theorem rm_nt_i (h : rg_Inv M) : rm_nt M = rg_nt M := by unfold rm_nt rg_nt; rw [(rg_Inv_s h).2.2.2.2.2.2.2.1]
theorem rm_sp_i (h : rg_Inv M) : rm_sp M = rg_sp M := by unfold rm_sp rg_sp; rw [(rg_Inv_s h).2.2.2.2.2.2.2.2.1]
theorem rm_nd_i (h : rg_Inv M) : rm_nd M = rg_sz M 90 := by unfold rm_nd rg_sz; rw [(rg_Inv_d h).2.1]
theorem rm_no_i (h : rg_Inv M) : rm_no M = rg_no M := by unfold rm_no rg_no; rw [(rg_Inv_of h).2.2.1]
theorem rm_nc_i (h : rg_Inv M) : rm_nc M = rg_nc M := by unfold rm_nc rg_nc; rw [(rg_Inv_c h).2.2.1]
theorem rm_iw_i (h : rg_Inv M) {x : Int32} : rm_iw M x ↔ rg_has M x := by unfold rm_iw rg_has; rw [(rg_Inv_w h).2.2.1]
theorem rg_Inv_36 (h : rg_Inv M) : rg_nl M ≤ 36 := Nat.le_trans (rg_Inv_s h).2.1 (rg_Inv_s h).2.2.2.1
theorem rm_z_i (h : rg_Inv M) {l : Nat} (hl : l < rg_nl M) : rm_z M l = rg_sz M (17 + 2 * l) := by unfold rm_z rg_sz; rw [((rg_Inv_v h).2.1 l hl).2.1]
theorem rm_oz_i (h : rg_Inv M) {o : Nat} (ho : o < rg_no M) : rm_oz M o = rg_sz M (99 + 2 * o) := by unfold rm_oz rg_sz; rw [((rg_Inv_of h).2.2.2.2 o ho).2.1]
theorem rg_Inv_ci (h : rg_Inv M) : rg_CI M := by
  obtain ⟨h1, h2, h3, h4, h5, h6, h7, h8, h9, h10⟩ := h
  exact ⟨⟨h1.1, h1.2.1⟩, ⟨h2.1, h2.2.1⟩, ⟨h3.1, h3.2.1⟩, ⟨h3.2.2.1, h3.2.2.2.1⟩, ⟨h7.1, h7.2.1⟩, ⟨h8.1, h8.2.1⟩, ⟨h3.2.2.2.2.1, h3.2.2.2.2.2.1⟩, h5.1, fun k hk => (h6.2.1 k hk).1, fun k hk => (h7.2.2.2.2 k hk).1, fun k hk => (h6.2.1 k hk).2.2.2.1, fun k hk => (h7.2.2.2.2 k hk).2.2.2.1, fun k hk => by
    have f := h6.2.1 k hk
    have g := h6.2.2.1 k (by have := h3.2.1; have := h3.2.2.2.1; omega)
    rw [← f.2.2.2.2.1, ← f.2.2.2.2.2.1]
    exact g⟩
theorem rg_Inv_mi (h : rg_Inv M) : rm_CI M := by
  have k1 := rm_nw_i h
  have k2 := rm_np_i h
  have k3 := rm_nl_i h
  have k4 := rm_nt_i h
  have k5 := rm_sp_i h
  have k6 := rm_nd_i h
  have k7 := rm_no_i h
  have k8 := rm_nc_i h
  have hw : ∀ x, rg_has M x → rm_iw M x := fun x hx => (rm_iw_i h).mpr hx
  have hz := fun {l} hl => rm_z_i (l := l) h hl
  have hoz := fun {l} hl => rm_oz_i (o := l) h hl
  obtain ⟨h1, h2, h3, h4, h5, h6, h7, h8, h9, h10⟩ := h
  unfold rm_CI
  rw [k1, k2, k3, k4, k5, k6, k7, k8]
  refine ⟨⟨h1.2.2.1.trans h1.1, h1.2.1⟩, ⟨h2.2.2.trans h2.1, h2.2.1⟩, ⟨h3.2.2.2.2.2.2.2.1.trans h3.2.2.1, h3.2.2.2.1⟩, ⟨h3.2.2.2.2.2.2.2.2.1.trans h3.2.2.2.2.1, h3.2.2.2.2.2.1⟩, ⟨h3.2.2.2.2.2.2.1.trans h3.1, h3.2.1⟩, ⟨h5.2.1.trans h5.1.1, h5.1.2.1, fun k hk => hw _ (by rw [h5.2.2 k hk]; exact h5.1.2.2.1 k hk)⟩, ⟨h7.2.2.1.trans h7.1, h7.2.1, h7.2.2.2.1⟩, ⟨h8.2.2.1.trans h8.1, h8.2.1⟩, fun l hl => ?_, fun o ho => ?_, fun c hc => ?_, ?_, fun k hk => (h6.2.2.1 k hk).1, fun k hk => (h6.2.2.1 k hk).2⟩
  · have f := h6.2.1 l hl
    rw [hz hl]
    exact ⟨f.2.1.trans f.1.1, f.1.2.1, fun i hi => hw _ (by rw [f.2.2.1 i hi]; exact f.1.2.2.1 i hi)⟩
  · have f := h7.2.2.2.2 o ho
    rw [hoz ho]
    exact ⟨f.2.1.trans f.1.1, f.1.2.1, fun i hi => hw _ (by rw [f.2.2.1 i hi]; exact f.1.2.2.1 i hi)⟩
  · have f := h8.2.2.2 c hc
    exact ⟨f.1.1, f.1.2, fun l hl => (f.2 l (by have := f.1.2; omega)).1 hl⟩
  · rcases h3.2.2.2.2.2.2.2.2.2.2.2 with q | q
    · exact Or.inl q.1
    · exact Or.inr q.1
end IC
