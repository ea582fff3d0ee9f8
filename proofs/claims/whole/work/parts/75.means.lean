/-! sums -/
def rg_sg (f : Nat → Int32) : Nat → Int32
  | 0 => 0
  | k + 1 => rg_sg f k + f k
theorem rg_sg_c {f g : Nat → Int32} : ∀ n, (∀ i, i < n → f i = g i) → rg_sg f n = rg_sg g n
  | 0, _ => rfl
  | n + 1, h => by rw [rg_sg, rg_sg, rg_sg_c n (fun i hi => h i (by omega)), h n (by omega)]
theorem rg_sg_0 {f : Nat → Int32} : ∀ n, (∀ i, i < n → f i = 0) → rg_sg f n = 0
  | 0, _ => rfl
  | n + 1, h => by rw [rg_sg, rg_sg_0 n (fun i hi => h i (by omega)), h n (by omega), Int32.zero_add]
theorem rg_sg_ap {f : Nat → Int32} {a : Nat} : ∀ b, rg_sg f (a + b) = rg_sg f a + rg_sg (fun i => f (a + i)) b
  | 0 => by rw [Nat.add_zero, rg_sg, Int32.add_zero]
  | b + 1 => by rw [← Nat.add_assoc, rg_sg, rg_sg, rg_sg_ap b, Int32.add_assoc]
theorem rg_sg_z {f : Nat → Int32} {n m : Nat} (hn : n ≤ m) (h : ∀ i, n ≤ i → i < m → f i = 0) : rg_sg f m = rg_sg f n := by
  obtain ⟨k, rfl⟩ : ∃ k, m = n + k := ⟨m - n, by omega⟩
  rw [rg_sg_ap, rg_sg_0 k (fun i hi => h (n + i) (by omega) (by omega)), Int32.add_zero]
theorem rg_sg_add {f g : Nat → Int32} : ∀ n, rg_sg (fun i => f i + g i) n = rg_sg f n + rg_sg g n
  | 0 => rfl
  | n + 1 => by
    rw [rg_sg, rg_sg, rg_sg, rg_sg_add n]
    rw [Int32.add_assoc, Int32.add_assoc, ← Int32.add_assoc (rg_sg g n), ← Int32.add_assoc (f n), Int32.add_comm (rg_sg g n) (f n)]
theorem rm_pk_sg {b : Nat → Bool} {f : Nat → Int32} : ∀ n, rm_pk b f n = rg_sg (fun k => if b k then f k else 0) n
  | 0 => rfl
  | n + 1 => by rw [rm_pk, rg_sg, rm_pk_sg n]
theorem rg_sg_144 {f : Nat → Int32} : rg_sg f 144 = rg_sg (fun i => rg_sg (fun j => f (36 * j + i)) 4) 36 := by
  have e1 : rg_sg f 144 = rg_sg f 36 + rg_sg (fun i => f (36 + i)) 36 + rg_sg (fun i => f (72 + i)) 36 + rg_sg (fun i => f (108 + i)) 36 := by
    rw [show 144 = 108 + 36 from rfl, rg_sg_ap, show 108 = 72 + 36 from rfl, rg_sg_ap, show 72 = 36 + 36 from rfl, rg_sg_ap]
  rw [e1, ← rg_sg_add, ← rg_sg_add, ← rg_sg_add]
  refine rg_sg_c 36 (fun i _ => ?_)
  show f i + f (36 + i) + f (72 + i) + f (108 + i) = 0 + f (36 * 0 + i) + f (36 * 1 + i) + f (36 * 2 + i) + f (36 * 3 + i)
  rw [Int32.zero_add, show 36 * 0 + i = i by omega]
theorem rg_en_95 {X : rg_Mem} {j p : Nat} {x : Int32} : (rg_en X j x).1 95 p = X.1 95 p + (if j = p then x else 0) := by
  unfold rg_en
  rw [rg_I_cell (by omega)]
  show (if 95 = 95 ∧ p = j then X.1 95 j + x else X.1 95 p) = _
  by_cases h : j = p
  · rw [if_pos ⟨rfl, h.symm⟩, if_pos h, h]
  · rw [if_neg (fun q => h q.2.symm), if_neg h, Int32.add_zero]
theorem rg_en_96 {X : rg_Mem} {j p : Nat} {x : Int32} : (rg_en X j x).1 96 p = X.1 96 p + (if j = p then 1 else 0) := by
  unfold rg_en
  have e : (rg_I X 95 j (X.1 95 j + x)).1 96 = X.1 96 := rg_I_cell (by omega)
  show (if 96 = 96 ∧ p = j then X.1 96 j + 1 else (rg_I X 95 j (X.1 95 j + x)).1 96 p) = _
  rw [e]
  by_cases h : j = p
  · rw [if_pos ⟨rfl, h.symm⟩, if_pos h, h]
  · rw [if_neg (fun q => h q.2.symm), if_neg h, Int32.add_zero]
def rg_g5 (M : rg_Mem) (p i : Nat) : Nat → Int32 := fun j => if M.1 (13 + j) i = -1 then 0 else if (M.1 9 i).toNatClampNeg = p then M.1 (13 + j) i else 0
def rg_g6 (M : rg_Mem) (p i : Nat) : Nat → Int32 := fun j => if M.1 (13 + j) i = -1 then 0 else if (M.1 9 i).toNatClampNeg = p then 1 else 0
theorem rg_pj_s {M X : rg_Mem} {i p : Nat} : ∀ k, (rg_pj M i k X).1 95 p = X.1 95 p + rg_sg (rg_g5 M p i) k ∧ (rg_pj M i k X).1 96 p = X.1 96 p + rg_sg (rg_g6 M p i) k
  | 0 => ⟨(Int32.add_zero _).symm, (Int32.add_zero _).symm⟩
  | k + 1 => by
    have ih := rg_pj_s (M := M) (X := X) (i := i) (p := p) k
    unfold rg_pj
    rw [rg_sg, rg_sg, ← Int32.add_assoc, ← Int32.add_assoc, ← ih.1, ← ih.2]
    unfold rg_g5 rg_g6
    by_cases c : M.1 (13 + k) i = -1
    · simp only [if_pos c, Int32.add_zero, and_self]
    · simp only [if_neg c]
      exact ⟨rg_en_95, rg_en_96⟩
theorem rg_pl_s {M : rg_Mem} {p : Nat} (hp : p < 6) : ∀ i, (rg_pl M i).1 95 p = rg_sg (fun i => rg_sg (rg_g5 M p i) 4) i ∧ (rg_pl M i).1 96 p = rg_sg (fun i => rg_sg (rg_g6 M p i) 4) i
  | 0 => by
    show (if (95 = 95 ∨ 95 = 96) ∧ p < 6 then (0 : Int32) else _) = 0 ∧ (if (96 = 95 ∨ 96 = 96) ∧ p < 6 then (0 : Int32) else _) = 0
    rw [if_pos ⟨Or.inl rfl, hp⟩, if_pos ⟨Or.inr rfl, hp⟩]
    exact ⟨rfl, rfl⟩
  | i + 1 => by
    have ih := rg_pl_s (M := M) hp i
    unfold rg_pl
    rw [rg_sg, rg_sg, (rg_pj_s 4).1, (rg_pj_s 4).2, ih.1, ih.2]
    exact ⟨rfl, rfl⟩
section MN
variable {M : rg_Mem}
theorem rg_mk_p (h : rg_Inv M) {i p : Nat} (hi : i < rg_nl M) (hp : p < 6) : (M.1 9 i).toNatClampNeg = p ↔ M.1 9 i = nI p := by
  obtain ⟨q, hq, e⟩ := ((rg_Inv_v h).2.1 i hi).2.2.2.1
  have h6 := (rg_Inv_p h).2.1
  rw [e, nI_clamp (by omega), nI_eq (by omega) (by omega)]
theorem rg_pt_i (h : rg_Inv M) {j i : Nat} (hj : j < 4) (hi : i < rg_nl M) : (M.1 (13 + j) i = -1 ↔ M.1 423 (36 * j + i) ≤ 0) ∧ M.1 (13 + j) i = M.1 423 (36 * j + i) - 1 := by
  have e := ((rg_Inv_v h).2.1 i hi).2.2.2.2.2.2 j hj
  have h36 := rg_Inv_36 h
  obtain ⟨q, hq, e2⟩ := ((rg_Inv_v h).2.2.2 j i hj (by omega)).2
  refine ⟨?_, e⟩
  rw [e, e2]
  rcases Nat.eq_zero_or_pos q with z | z
  · subst z
    decide
  · obtain ⟨y, rfl⟩ : ∃ y, q = y + 1 := ⟨q - 1, by omega⟩
    rw [nI_pred]
    exact ⟨fun w => absurd w (rg_nIm (by omega)), fun w => absurd w (nI_nle (by omega) (by omega))⟩
theorem rg_ps_i (h : rg_Inv M) {p : Nat} (hp : p < 6) : (rg_pl M (rg_nl M)).1 95 p = rm_ps M p ∧ (rg_pl M (rg_nl M)).1 96 p = rm_pc M p := by
  have h36 := rg_Inv_36 h
  have e9 := (rg_Inv_v h).1
  have gen : ∀ (V : Nat → Int32) (G : Nat → Nat → Int32), (∀ i, i < rg_nl M → ∀ j, j < 4 → G i j = if M.1 (13 + j) i = -1 then 0 else if (M.1 9 i).toNatClampNeg = p then V (36 * j + i) else 0) → rg_sg (fun i => rg_sg (G i) 4) (rg_nl M) = rm_pk (rm_pb M p) V 144 := by
    intro V G hG
    rw [rm_pk_sg, rg_sg_144]
    rw [rg_sg_z h36 (fun i h1 h2 => rg_sg_0 4 (fun j hj => by
      have z := ((rg_Inv_v h).2.2.2 j i hj h2).1 h1
      unfold rm_pb
      rw [if_neg (fun q => by
        have q := of_decide_eq_true q
        rw [z] at q
        exact q.1 (by decide))]))]
    refine rg_sg_c _ (fun i hi => rg_sg_c 4 (fun j hj => ?_))
    rw [hG i hi j hj]
    have f := rg_pt_i h hj hi
    have e36 : (36 * j + i) % 36 = i := by omega
    show _ = (if rm_pb M p (36 * j + i) = true then V (36 * j + i) else 0)
    unfold rm_pb
    rw [e36, e9]
    by_cases c : M.1 (13 + j) i = -1
    · rw [if_pos c, if_neg (fun q => (of_decide_eq_true q).1 (f.1.mp c))]
    · rw [if_neg c]
      by_cases d : (M.1 9 i).toNatClampNeg = p
      · rw [if_pos d, if_pos (decide_eq_true ⟨fun q => c (f.1.mpr q), (rg_mk_p h hi hp).mp d⟩)]
      · rw [if_neg d, if_neg (fun q => d ((rg_mk_p h hi hp).mpr (of_decide_eq_true q).2))]
  refine ⟨(rg_pl_s hp _).1.trans (gen _ (fun i => rg_g5 M p i) (fun i hi j hj => ?_)), (rg_pl_s hp _).2.trans (gen _ (fun i => rg_g6 M p i) (fun i hi j hj => ?_))⟩
  · show (if _ then _ else if _ then _ else _) = _
    rw [(rg_pt_i h hj hi).2]
  · rfl
/-- the greatest mean: class and model -/
theorem rg_best_i {s c : Nat → Int32} : ∀ p, p ≤ 100 → (rm_best s c p).1 = rg_gr s c p ∧ (¬ rg_gr s c p = -1 → (rm_best s c p).2.1 = s (rg_gr s c p).toNatClampNeg ∧ (rm_best s c p).2.2 = c (rg_gr s c p).toNatClampNeg)
  | 0, _ => ⟨rfl, fun q => absurd rfl q⟩
  | p + 1, hp => by
    have ih := rg_best_i (s := s) (c := c) p (by omega)
    have e : (¬ c p ≤ 0 ∧ (rg_gr s c p = -1 ∨ ¬ s p * c (rg_gr s c p).toNatClampNeg ≤ s (rg_gr s c p).toNatClampNeg * c p)) ↔ (¬ c p ≤ 0 ∧ ((rm_best s c p).1 = -1 ∨ (rm_best s c p).2.1 * c p < s p * (rm_best s c p).2.2)) := by
      refine and_congr Iff.rfl ?_
      rw [ih.1]
      by_cases q : rg_gr s c p = -1
      · exact ⟨fun _ => Or.inl q, fun _ => Or.inl q⟩
      · rw [(ih.2 q).1, (ih.2 q).2]
        exact or_congr Iff.rfl rg_nle
    rw [rg_gr, rm_best]
    by_cases q : ¬ c p ≤ 0 ∧ (rg_gr s c p = -1 ∨ ¬ s p * c (rg_gr s c p).toNatClampNeg ≤ s (rg_gr s c p).toNatClampNeg * c p)
    · rw [if_pos q, if_pos (e.mp q), nI_clamp (by omega)]
      exact ⟨rfl, fun _ => ⟨rfl, rfl⟩⟩
    · rw [if_neg q, if_neg (fun z => q (e.mpr z))]
      exact ih
theorem rg_gr_c {s c s' c' : Nat → Int32} : ∀ n, n ≤ 100 → (∀ p, p < n → s' p = s p ∧ c' p = c p) → rg_gr s' c' n = rg_gr s c n
  | 0, _, _ => rfl
  | n + 1, hn, h => by
    have ih := rg_gr_c n (by omega) (fun p hp => h p (by omega))
    have e := h n (by omega)
    rw [rg_gr, rg_gr, ih, e.1, e.2]
    rcases rg_gr_in (s := s) (c := c) n with q | ⟨j, hj, q⟩
    · simp only [q, true_or]
    · have ej := h j (by omega)
      rw [q, nI_clamp (by omega), ej.1, ej.2]
theorem rg_gr_z {s c : Nat → Int32} {n : Nat} : ∀ m, (∀ p, n ≤ p → p < n + m → c p ≤ 0) → rg_gr s c (n + m) = rg_gr s c n
  | 0, _ => rfl
  | m + 1, h => by
    rw [← Nat.add_assoc, rg_gr, if_neg (fun q => q.1 (h (n + m) (by omega) (by omega))), rg_gr_z m (fun p h1 h2 => h p h1 (by omega))]
theorem rg_pc_0 (h : rg_Inv M) {p : Nat} (h1 : rg_np M ≤ p) (hp : p < 6) : rm_pc M p = 0 := by
  have h36 := rg_Inv_36 h
  unfold rm_pc
  rw [rm_pk_sg]
  refine rg_sg_0 144 (fun k hk => ?_)
  rw [if_neg]
  intro q
  unfold rm_pb at q
  have q := of_decide_eq_true q
  by_cases c : k % 36 < rg_nl M
  · obtain ⟨r, hr, e⟩ := ((rg_Inv_v h).2.1 (k % 36) c).2.2.2.1
    rw [(rg_Inv_v h).1, e] at q
    have := (nI_eq (by omega) (by omega)).mp q.2
    omega
  · have z := ((rg_Inv_v h).2.2.2 (k / 36) (k % 36) (by omega) (by omega)).1 (by omega)
    rw [show 36 * (k / 36) + k % 36 = k by omega] at z
    rw [z] at q
    exact q.1 (by decide)
theorem rg_prize_i (h : rg_Inv M) : rg_gr ((rg_pl M (rg_nl M)).1 95) ((rg_pl M (rg_nl M)).1 96) 6 = (rm_best (rm_ps M) (rm_pc M) (rg_np M)).1 := by
  have h6 := (rg_Inv_p h).2.1
  rw [(rg_best_i (rg_np M) (by omega)).1, rg_gr_c (s := rm_ps M) (c := rm_pc M) 6 (by omega) (fun p hp => rg_ps_i h hp)]
  obtain ⟨m, hm⟩ : ∃ m, 6 = rg_np M + m := ⟨6 - rg_np M, by omega⟩
  rw [hm]
  exact rg_gr_z m (fun p h1 h2 => by rw [rg_pc_0 h h1 (by omega)]; decide)
end MN
