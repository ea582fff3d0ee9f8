/-- all but the model's rows of work is as before -/
def rm_wk (M M1 : rg_Mem) : Prop := (∀ c, c ≠ 412 → c ≠ 431 → M1.1 c = M.1 c ∧ M1.2 c = M.2 c) ∧ ∀ k, k < 31 → M1.1 412 k = M.1 412 k
theorem rm_wk_rf {M : rg_Mem} : rm_wk M M := ⟨fun _ _ _ => ⟨rfl, rfl⟩, fun _ _ => rfl⟩
theorem rm_wk_tr {M M1 M2 : rg_Mem} (h : rm_wk M M1) (g : rm_wk M1 M2) : rm_wk M M2 := ⟨fun c h1 h2 => ⟨(g.1 c h1 h2).1.trans (h.1 c h1 h2).1, (g.1 c h1 h2).2.trans (h.1 c h1 h2).2⟩, fun k hk => (g.2 k hk).trans (h.2 k hk)⟩
theorem rm_wk_f {M : rg_Mem} {k : Nat} {x : Int32} (hk : 31 ≤ k) : rm_wk M (rg_I M 412 k x) := ⟨fun c h1 h2 => ⟨by funext j; simp [rg_I, h1], rfl⟩, fun j hj => by simp [rg_I, show j ≠ k by omega]⟩
theorem rm_wk_r {M : rg_Mem} {k : Nat} {x : Int32} : rm_wk M (rg_I M 431 k x) := ⟨fun c h1 h2 => ⟨by funext j; simp [rg_I, h2], rfl⟩, fun j hj => by simp [rg_I]⟩
theorem rm_wk_l {M : rg_Mem} {f : Nat → Int32} {i : Nat} : rm_wk M (rm_lay M f i) := ⟨fun c h1 h2 => ⟨by funext j; simp [rm_lay, h2], rfl⟩, fun j hj => by simp [rm_lay]⟩
theorem rm_wk_eq {M M1 : rg_Mem} (h : rm_wk M M1) : rm_eq M M1 := ⟨fun c h1 h2 => h.1 c (by omega) h2, h.2⟩
theorem rm_wk_i {M M1 : rg_Mem} {o k : Nat} {x : Int32} (h : rm_wk M M1) : rm_wk (rg_I M o k x) (rg_I M1 o k x) := ⟨fun c h1 h2 => ⟨by funext j; show (if _ then _ else _) = (if _ then _ else _); rw [(h.1 c h1 h2).1], (h.1 c h1 h2).2⟩, fun j hj => by show (if _ then _ else _) = (if _ then _ else _); rw [h.2 j hj]⟩
/-- the cell c from slot d on: f 0, f 1 .. f (i - 1) -/
def rm_cy (M : rg_Mem) (c d : Nat) (f : Nat → Int32) (i : Nat) : rg_Mem := (fun q k => if q = c ∧ d ≤ k ∧ k < d + i then f (k - d) else M.1 q k, M.2)
theorem rm_cy_0 {M : rg_Mem} {c d : Nat} {f : Nat → Int32} : M = rm_cy M c d f 0 := by
  refine Prod.ext ?_ rfl
  funext q k
  show _ = if _ then _ else _
  rw [if_neg (by omega)]
theorem rm_cy_s {M : rg_Mem} {c d i : Nat} {f : Nat → Int32} : rg_I (rm_cy M c d f i) c (d + i) (f i) = rm_cy M c d f (i + 1) := by
  refine Prod.ext ?_ rfl
  funext q k
  show (if q = c ∧ k = d + i then f i else if q = c ∧ d ≤ k ∧ k < d + i then f (k - d) else M.1 q k) = if q = c ∧ d ≤ k ∧ k < d + (i + 1) then f (k - d) else M.1 q k
  by_cases h1 : q = c ∧ k = d + i
  · rw [if_pos h1, if_pos (by omega), show k - d = i by omega]
  · rw [if_neg h1]
    by_cases h2 : q = c ∧ d ≤ k ∧ k < d + i
    · rw [if_pos h2, if_pos (by omega)]
    · rw [if_neg h2, if_neg (by omega)]
theorem rm_wk_cy {M M1 : rg_Mem} {c d i : Nat} {f : Nat → Int32} (h : rm_wk M M1) : rm_wk (rm_cy M c d f i) (rm_cy M1 c d f i) := ⟨fun q h1 h2 => ⟨by funext j; show (if _ then _ else _) = (if _ then _ else _); rw [(h.1 q h1 h2).1], (h.1 q h1 h2).2⟩, fun j hj => by show (if _ then _ else _) = (if _ then _ else _); rw [h.2 j hj]⟩
theorem rm_an_c {p q : Nat → Bool} : ∀ (n : Nat), (∀ i, i < n → p i = q i) → rm_an p n = rm_an q n
  | 0, _ => rfl
  | n + 1, h => by rw [rm_an, rm_an, h n (by omega), rm_an_c n (fun i hi => h i (by omega))]
theorem rm_fo_w {M : rg_Mem} {w w1 : Nat → Int32} {n v : Nat} {po : Int32} (hw : ∀ k, k < n → w1 k = w k) : rm_fo M w1 n v po = rm_fo M w n v po := by
  have h1 : rg_sm (M.1 413) w1 n = rg_sm (M.1 413) w n := rg_sm_c hw
  have h2 : rg_fi (M.1 414) w1 n = rg_fi (M.1 414) w n := rg_fi_c hw
  have h3 : rg_og (M.1 415) w1 n = rg_og (M.1 415) w n := rg_og_c hw
  have h4 : rg_ff (rm_dm M w1 n) n 0 = rg_ff (rm_dm M w n) n 0 := rg_ff_c n 0 (fun i _ hi => by unfold rm_dm; rw [hw i (by omega), h2])
  have h5 : rg_ff (rm_dp M w1 v) n 0 = rg_ff (rm_dp M w v) n 0 := rg_ff_c n 0 (fun i _ hi => by
    have e1 : rg_ex (rm_dA w1 i) i 0 = rg_ex (rm_dA w i) i 0 := rg_ex_c i 0 (fun j _ hj => by unfold rm_dA; rw [hw i (by omega), hw j (by omega)])
    have e2 : rm_dB M w1 v i = rm_dB M w v i := by funext d; unfold rm_dB rm_dC; rw [hw i (by omega)]
    unfold rm_dp
    rw [e1, e2])
  have h6 : rm_jo M w1 n v = rm_jo M w n v := by
    have e1 : rm_an (rm_jP M w1 v) n = rm_an (rm_jP M w v) n := rm_an_c n (fun i hi => by
      have e2 : rm_jQ M w1 v i = rm_jQ M w v i := by funext j; unfold rm_jQ; rw [hw i hi]
      unfold rm_jP
      rw [e2])
    unfold rm_jo rm_jG
    rw [e1, h3]
  have h7 : rm_cm M w1 n v = rm_cm M w n v := by unfold rm_cm; rw [h3]
  have h8 : rm_lf M w1 n v = rm_lf M w n v := by unfold rm_lf; rw [h2]
  unfold rm_fo
  rw [h1, h3, h4, h5, h6, h7, h8]
theorem rm_fo_k {M M2 : rg_Mem} {w : Nat → Int32} {n v : Nat} {po : Int32} (h : rm_wk M M2) (hw : ∀ k, k < n → M2.1 431 k = w k) : rm_fo M2 (M2.1 431) n v po = rm_fo M w n v po := by
  rw [rm_fo_w hw, rm_fo_e (rm_wk_eq h)]
theorem rm_lay_f1 {M M2 : rg_Mem} {v : Nat} {y : Int32} (h : M2 = rm_lay (rg_I (rg_I M 412 33 y) 412 31 (nI (rm_z (rg_I M 412 33 y) v))) (rm_w (rg_I M 412 33 y) v) (rm_z (rg_I M 412 33 y) v)) : rm_wk M M2 ∧ M2.1 412 31 = nI (rm_z M v) ∧ (∀ k, k < rm_z M v → M2.1 431 k = rm_w M v k) ∧ M2.1 412 33 = y := by
  rw [rm_z_e (rm_eq_f (by omega)), rm_w_e (rm_eq_f (by omega))] at h
  subst h
  exact ⟨rm_wk_tr (rm_wk_tr (rm_wk_f (by omega)) (rm_wk_f (by omega))) rm_wk_l, by simp [rm_lay, rg_I], fun k hk => by show (if 431 = 431 ∧ k < rm_z M v then _ else _) = _; rw [if_pos ⟨rfl, hk⟩], by simp [rm_lay, rg_I]⟩
theorem rm_lay_f2 {M M2 : rg_Mem} {n : Nat} {f : Nat → Int32} {y : Int32} (h : M2 = rm_lay (rg_I (rg_I M 412 33 y) 412 31 (nI n)) f n) : rm_wk M M2 ∧ M2.1 412 31 = nI n ∧ (∀ k, k < n → M2.1 431 k = f k) ∧ M2.1 412 33 = y := by
  subst h
  exact ⟨rm_wk_tr (rm_wk_tr (rm_wk_f (by omega)) (rm_wk_f (by omega))) rm_wk_l, by simp [rm_lay, rg_I], fun k hk => by show (if 431 = 431 ∧ k < n then _ else _) = _; rw [if_pos ⟨rfl, hk⟩], by simp [rm_lay, rg_I]⟩
theorem rm_cau {M M2 M3 : rg_Mem} {w : Nat → Int32} {n v : Nat} {po y : Int32} (h : M3 = rg_I M2 412 32 (rm_fo M2 (M2.1 431) n v po).2) (g : rm_wk M M2) (hw : ∀ k, k < n → M2.1 431 k = w k) (h33 : M2.1 412 33 = y) : rm_wk M M3 ∧ M3.1 412 32 = (rm_fo M w n v po).2 ∧ M3.1 412 33 = y := by
  subst h
  rw [rm_fo_k g hw]
  exact ⟨rm_wk_tr g (rm_wk_f (by omega)), rm_get, (rm_sl (by omega)).trans h33⟩
theorem rm_hrw {M M2 : rg_Mem} {w : Nat → Int32} {n : Nat} (g : rm_wk M M2) (hw : ∀ k, k < n → M2.1 431 k = w k) (h : ∀ k, k < n → rm_iw M (w k)) : ∀ k, k < n → rm_iw M2 (M2.1 431 k) := fun k hk => by
  rw [hw k hk, rm_iw_e (rm_wk_eq g)]
  exact h k hk
/-- whether a row of words could be offered now -/
def rm_hh (M : rg_Mem) (z : Int32) (w : Nat → Int32) (n : Nat) : Int32 := rg_b ((rm_fo M w n (rm_nl M) z).1 = 0)
def rm_h2 (M : rg_Mem) (z : Int32) (a : Nat) (q : Int32) : Nat → Int32
  | 0 => q
  | b + 1 => rm_h2 M z a q b + rm_hh M z (fun k => if k = 0 then nI a else nI b) 2
def rm_h1 (M : rg_Mem) (z : Int32) : Nat → Int32
  | 0 => 0
  | a + 1 => rm_h2 M z a (rm_h1 M z a + rm_hh M z (fun k => if k = 0 then nI a else -1) 1) (rm_nw M)
theorem rm_iw_k {M : rg_Mem} {a : Nat} (h : rm_CI M) (ha : a < rm_nw M) : rm_iw M (nI a) := ⟨nI_pos (by have := (rm_CI_w h).2; omega), by rw [(rm_CI_w h).1]; exact nI_ge ha (by have := (rm_CI_w h).2; omega)⟩
theorem rm_nfin {M : rg_Mem} (h : rm_CI M) (g : ¬ rm_fin M) : rm_nl M < rm_nt M ∧ rm_nl M < 36 := by
  have h1 := rm_CI_lt h
  have h2 := (rm_CI_t h).2
  rcases Nat.eq_or_lt_of_le h1 with q | q
  · exact absurd (by rw [rm_fin, (rm_CI_l h).1, (rm_CI_t h).1, q]) g
  · exact ⟨q, by omega⟩
/-- points -/
abbrev rm_pb (M : rg_Mem) (p : Nat) : Nat → Bool := fun k => decide (¬ M.1 423 k ≤ 0 ∧ M.1 419 (k % 36) = nI p)
abbrev rm_ps (M : rg_Mem) (p : Nat) : Int32 := rm_pk (rm_pb M p) (fun k => M.1 423 k - 1) 144
abbrev rm_pc (M : rg_Mem) (p : Nat) : Int32 := rm_pk (rm_pb M p) (fun _ => 1) 144
/-- likeness -/
abbrev rm_lb (M : rg_Mem) (a p : Nat) : Nat → Bool := fun k => decide (¬ k = a ∧ M.1 421 k = 0 ∧ M.1 419 k = nI p)
abbrev rm_lS (M : rg_Mem) (a p : Nat) : Int32 := rm_pk (rm_lb M a p) (fun k => rm_lk M a k) (rm_nl M)
abbrev rm_lC (M : rg_Mem) (a p : Nat) : Int32 := rm_pk (rm_lb M a p) (fun _ => 1) (rm_nl M)
theorem rm_lk_e {M M' : rg_Mem} (g : rm_eq M M') : rm_lk M' = rm_lk M := by
  funext a b
  have h1 : rm_z M' = rm_z M := rm_z_e g
  have h2 : M'.1 417 = M.1 417 := rm_ea g (by omega) (by omega)
  have h3 : rm_l2 M' = rm_l2 M := by
    funext a b k q w
    induction w with
    | zero => rfl
    | succ w ih => rw [rm_l2, rm_l2, ih, h2]
  have h4 : ∀ q n, rm_l1 M' a b q n = rm_l1 M a b q n := by
    intro q n
    induction n with
    | zero => rfl
    | succ n ih => rw [rm_l1, rm_l1, ih, h3, h1]
  unfold rm_lk
  rw [h4, h1]
  unfold rm_bs
  rw [rm_sgn_e g]
/-- what a copy is written into: all but the copies' rows, and of these what counts, is as before -/
def rm_cq (M M1 : rg_Mem) : Prop := (∀ c, c ≠ 412 → c ≠ 428 → c ≠ 429 → c ≠ 430 → c ≠ 431 → M1.1 c = M.1 c ∧ M1.2 c = M.2 c) ∧ (∀ k, k < 31 → M1.1 412 k = M.1 412 k) ∧ (∀ k, k < rm_nc M → M1.1 430 k = M.1 430 k) ∧ (∀ k, k < 36 * rm_nc M → M1.1 429 k = M.1 429 k) ∧ ∀ k, k < 216 * rm_nc M → M1.1 428 k = M.1 428 k
theorem rm_CI_cq {M M' : rg_Mem} (h : rm_CI M) (g : rm_cq M M') : rm_CI M' := by
  have f : ∀ c, c ≠ 412 → c ≠ 428 → c ≠ 429 → c ≠ 430 → c ≠ 431 → M'.1 c = M.1 c := fun c h1 h2 h3 h4 h5 => (g.1 c h1 h2 h3 h4 h5).1
  have z := g.2.1
  have n1 : rm_nw M' = rm_nw M := by unfold rm_nw; rw [z 4 (by omega)]
  have n2 : rm_np M' = rm_np M := by unfold rm_np; rw [z 5 (by omega)]
  have n3 : rm_nt M' = rm_nt M := by unfold rm_nt; rw [z 7 (by omega)]
  have n4 : rm_sp M' = rm_sp M := by unfold rm_sp; rw [z 8 (by omega)]
  have n5 : rm_nl M' = rm_nl M := by unfold rm_nl; rw [z 11 (by omega)]
  have n6 : rm_nd M' = rm_nd M := by unfold rm_nd; rw [z 20 (by omega)]
  have n7 : rm_no M' = rm_no M := by unfold rm_no; rw [z 24 (by omega)]
  have n8 : rm_nc M' = rm_nc M := by unfold rm_nc; rw [z 29 (by omega)]
  have a1 : rm_z M' = rm_z M := by funext k; unfold rm_z; rw [f 418 (by omega) (by omega) (by omega) (by omega) (by omega)]
  have a2 : rm_oz M' = rm_oz M := by funext k; unfold rm_oz; rw [f 426 (by omega) (by omega) (by omega) (by omega) (by omega)]
  have a5 : rm_iw M' = rm_iw M := by funext x; unfold rm_iw; rw [z 4 (by omega)]
  have hc : ∀ c, c < rm_nc M → M'.1 430 c = nI (rm_cl M' c) ∧ rm_cl M' c ≤ 36 ∧ ∀ l, l < rm_cl M' c → M'.1 429 (36 * c + l) = nI (rm_cz M' c l) ∧ rm_cz M' c l ≤ 6 := by
    intro c hc
    have h1 := rm_CI_vc h c hc
    have e1 : rm_cl M' c = rm_cl M c := by unfold rm_cl; rw [g.2.2.1 c hc]
    rw [e1, g.2.2.1 c hc]
    refine ⟨h1.1, h1.2.1, fun l hl => ?_⟩
    have e2 : rm_cz M' c l = rm_cz M c l := by unfold rm_cz; rw [g.2.2.2.1 (36 * c + l) (by omega)]
    rw [e2, g.2.2.2.1 (36 * c + l) (by omega)]
    exact h1.2.2 l hl
  unfold rm_CI at h ⊢
  rw [n1, n2, n3, n4, n5, n6, n7, n8, a1, a2, a5, z 4 (by omega), z 5 (by omega), z 6 (by omega), z 7 (by omega), z 8 (by omega), z 11 (by omega), z 20 (by omega), z 24 (by omega), z 29 (by omega), f 417 (by omega) (by omega) (by omega) (by omega) (by omega), f 418 (by omega) (by omega) (by omega) (by omega) (by omega), f 421 (by omega) (by omega) (by omega) (by omega) (by omega), f 422 (by omega) (by omega) (by omega) (by omega) (by omega), f 424 (by omega) (by omega) (by omega) (by omega) (by omega), f 425 (by omega) (by omega) (by omega) (by omega) (by omega), f 426 (by omega) (by omega) (by omega) (by omega) (by omega)]
  exact ⟨h.1, h.2.1, h.2.2.1, h.2.2.2.1, h.2.2.2.2.1, h.2.2.2.2.2.1, h.2.2.2.2.2.2.1, h.2.2.2.2.2.2.2.1, h.2.2.2.2.2.2.2.2.1, h.2.2.2.2.2.2.2.2.2.1, hc, h.2.2.2.2.2.2.2.2.2.2.2.1, h.2.2.2.2.2.2.2.2.2.2.2.2.1, h.2.2.2.2.2.2.2.2.2.2.2.2.2⟩
theorem rm_nc_cq {M M' : rg_Mem} (g : rm_cq M M') : rm_nc M' = rm_nc M := by unfold rm_nc; rw [g.2.1 29 (by omega)]
theorem rm_tx_cq {M M' : rg_Mem} {t : Int32} (g : rm_cq M M') (h : rm_tx M t) : rm_tx M' t := by
  unfold rm_tx rm_ic at h ⊢
  rw [g.2.1 29 (by omega)]
  exact h
theorem rm_tx_lt {M : rg_Mem} {t : Int32} (hI : rm_CI M) (h : rm_tx M t) (q : ¬ t = -1) : t.toNatClampNeg < rm_nc M := rg_in_lt (rg_lt_in (rm_CI_c hI).1 (by have := (rm_CI_c hI).2; omega) (h.resolve_left q).1 (h.resolve_left q).2)
theorem rm_lo_cq {M M' : rg_Mem} {t : Int32} (hI : rm_CI M) (g : rm_cq M M') (h : rm_tx M t) : rm_lo M' t = rm_lo M t := by
  unfold rm_lo
  by_cases q : t = -1
  · rw [if_pos q, if_pos q, g.2.1 11 (by omega)]
  · rw [if_neg q, if_neg q, g.2.2.1 _ (rm_tx_lt hI h q)]
theorem rm_so_cq {M M' : rg_Mem} {t : Int32} {l : Nat} (hI : rm_CI M) (g : rm_cq M M') (h : rm_tx M t) (hl : l < 36) : rm_so M' t l = rm_so M t l := by
  unfold rm_so
  rw [rm_lo_cq hI g h]
  by_cases q : t = -1
  · rw [if_pos q, if_pos q, (g.1 418 (by omega) (by omega) (by omega) (by omega) (by omega)).1]
  · rw [if_neg q, if_neg q, g.2.2.2.1 _ (by have := rm_tx_lt hI h q; omega)]
theorem rm_wo_cq {M M' : rg_Mem} {t : Int32} {l w : Nat} (hI : rm_CI M) (g : rm_cq M M') (h : rm_tx M t) (hl : l < 36) (hw : w < 6) : rm_wo M' t l w = rm_wo M t l w := by
  unfold rm_wo
  by_cases q : t = -1
  · rw [if_pos q, if_pos q, (g.1 417 (by omega) (by omega) (by omega) (by omega) (by omega)).1]
  · rw [if_neg q, if_neg q, g.2.2.2.2 _ (by have := rm_tx_lt hI h q; omega)]
theorem rm_cq_1 {M : rg_Mem} {y : Int32} : rm_cq M (rg_I M 412 33 y) := ⟨fun c h1 _ _ _ _ => ⟨by funext j; simp [rg_I, h1], rfl⟩, fun j hj => by simp [rg_I, show j ≠ 33 by omega], fun _ _ => rfl, fun _ _ => rfl, fun _ _ => rfl⟩
theorem rm_cq_i {M M1 : rg_Mem} {c k : Nat} {y : Int32} (g : rm_cq M M1) (h : (c = 430 ∧ rm_nc M ≤ k) ∨ (c = 429 ∧ 36 * rm_nc M ≤ k) ∨ (c = 428 ∧ 216 * rm_nc M ≤ k)) : rm_cq M (rg_I M1 c k y) := by
  have hc : c = 428 ∨ c = 429 ∨ c = 430 := by omega
  refine ⟨fun d h1 h2 h3 h4 h5 => ⟨?_, (g.1 d h1 h2 h3 h4 h5).2⟩, fun j hj => ?_, fun j hj => ?_, fun j hj => ?_, fun j hj => ?_⟩
  · rw [rg_I_cell (by omega)]; exact (g.1 d h1 h2 h3 h4 h5).1
  · rw [rg_I_cell (by omega)]; exact g.2.1 j hj
  all_goals
    show (if _ then _ else _) = _
    rw [if_neg (by omega)]
  · exact g.2.2.1 j hj
  · exact g.2.2.2.1 j hj
  · exact g.2.2.2.2 j hj
/-- what a copy q of the text t is: its first i links, and k words of the next -/
def rm_cw (M : rg_Mem) (q : Nat) (t : Int32) (M1 : rg_Mem) (i : Nat) : Prop := M1.1 430 q = rm_lo M t ∧ (∀ l, l < i → M1.1 429 (36 * q + l) = rm_so M t l ∧ ∀ w, nI w < rm_so M t l → w < 6 → M1.1 428 (216 * q + 6 * l + w) = rm_wo M t l w)
theorem rm_lo_n {M : rg_Mem} {t : Int32} (hI : rm_CI M) (h : rm_tx M t) : ∃ n, rm_lo M t = nI n ∧ n ≤ 36 := by
  unfold rm_lo
  by_cases q : t = -1
  · rw [if_pos q]; exact ⟨_, (rm_CI_l hI).1, (rm_CI_l hI).2⟩
  · rw [if_neg q]; exact ⟨_, (rm_CI_vc hI _ (rm_tx_lt hI h q)).1, (rm_CI_vc hI _ (rm_tx_lt hI h q)).2.1⟩
theorem rm_lt_cl {a : Int32} {l n : Nat} (ha : a = nI n) (hn : n ≤ 1000) (hl : l ≤ 1000) (h : nI l < a) : l < n := by
  rw [ha] at h
  rcases Nat.lt_or_ge l n with q | q
  · exact q
  · exact absurd (nI_le q (by omega)) (fun z => absurd h (rg_nlt_of z))
theorem rm_so_n {M : rg_Mem} {t : Int32} {l : Nat} (hI : rm_CI M) (h : rm_tx M t) (hl : l < 36) : ∃ n, rm_so M t l = nI n ∧ n ≤ 6 := by
  unfold rm_so
  by_cases c : nI l < rm_lo M t
  · rw [if_pos c]
    by_cases q : t = -1
    · rw [if_pos q]
      have hlt : l < rm_nl M := rm_lt_cl (rm_CI_l hI).1 (by have := (rm_CI_l hI).2; omega) (by omega) (by unfold rm_lo at c; rw [if_pos q] at c; exact c)
      exact ⟨_, (rm_CI_v hI l hlt).1, (rm_CI_v hI l hlt).2.1⟩
    · rw [if_neg q]
      have hv := rm_CI_vc hI _ (rm_tx_lt hI h q)
      have hlt : l < rm_cl M t.toNatClampNeg := rm_lt_cl hv.1 (by omega) (by omega) (by unfold rm_lo at c; rw [if_neg q] at c; exact c)
      exact ⟨_, (hv.2.2 l hlt).1, (hv.2.2 l hlt).2⟩
  · rw [if_neg c]; exact ⟨0, rfl, by omega⟩
theorem rm_cw_i0 {M Mi : rg_Mem} {q i : Nat} {t y : Int32} (h : rm_cw M q t Mi i) : rm_cw M q t (rg_I Mi 429 (36 * q + i) y) i := ⟨h.1, fun l hl => ⟨by show (if _ then _ else _) = _; rw [if_neg (by omega)]; exact (h.2 l hl).1, fun w h1 h2 => (h.2 l hl).2 w h1 h2⟩⟩
theorem rm_cw_i1 {M Mi : rg_Mem} {q i k : Nat} {t y : Int32} (h : rm_cw M q t Mi i) : rm_cw M q t (rg_I Mi 428 (216 * q + 6 * i + k) y) i := ⟨h.1, fun l hl => ⟨(h.2 l hl).1, fun w h1 h2 => by show (if _ then _ else _) = _; rw [if_neg (by omega)]; exact (h.2 l hl).2 w h1 h2⟩⟩
theorem rm_cw_s {M Mj : rg_Mem} {q i n : Nat} {t : Int32} (h : rm_cw M q t Mj i) (hz : Mj.1 429 (36 * q + i) = rm_so M t i) (hn : rm_so M t i = nI n) (hn6 : n ≤ 6) (hv : ∀ w, w < n → Mj.1 428 (216 * q + 6 * i + w) = rm_wo M t i w) : rm_cw M q t Mj (i + 1) := ⟨h.1, fun l hl => by
  rcases Nat.lt_or_ge l i with c | c
  · exact h.2 l c
  · have e : l = i := by omega
    subst e
    exact ⟨hz, fun w h1 h2 => hv w (rm_lt_cl hn (by omega) (by omega) h1)⟩⟩
theorem rm_cw_v {Mj : rg_Mem} {q i k : Nat} {f : Nat → Int32} (hv : ∀ w, w < k → Mj.1 428 (216 * q + 6 * i + w) = f w) : ∀ w, w < k + 1 → (rg_I Mj 428 (216 * q + 6 * i + k) (f k)).1 428 (216 * q + 6 * i + w) = f w := fun w hw => by
  show (if _ then _ else _) = _
  by_cases c : w = k
  · subst c; rw [if_pos ⟨rfl, rfl⟩]
  · rw [if_neg (by omega)]; exact hv w (by omega)
