/-- on the way through a constructor: v its own cell (with Rx), n the next cell, a the row of references that is filled up to i -/
def rg_lj (v n a i : Nat) (Rx : Nat → Option Nat) (R : rg_Rfs) (M : rg_Mem) (R1 : rg_Rfs) (M1 : rg_Mem) : Prop := (∀ c, c < v → R1 c = R c ∧ M1.1 c = M.1 c ∧ M1.2 c = M.2 c) ∧ (∀ c, v < c → c < n → c ≠ a → rg_ok R1 M1 c) ∧ (R1 v = Rx ∧ M1.1 v = (fun _ => 0) ∧ M1.2 v = fun _ => 0) ∧ (R1 a = (fun k => if k < i then rg_R0 a k else none) ∧ M1.1 a = (fun _ => 0) ∧ M1.2 a = fun _ => 0) ∧ rg_fr n R1 M1
section LJ
variable {v n a i : Nat} {Rx : Nat → Option Nat} {R R1 R2 : rg_Rfs} {M M1 M2 : rg_Mem}
theorem rg_no0 {R1 : rg_Rfs} {a : Nat} (h : R1 a = fun _ => none) : R1 a = (fun k => if k < 0 then rg_R0 a k else none) := by
  rw [h]
  funext k
  rw [if_neg (by omega)]
theorem rg_lj_0 (hfr : rg_fr v R M) (ha : v < a) : rg_lj v (v + 1) a 0 (fun _ => none) R M R M := ⟨fun _ _ => ⟨rfl, rfl, rfl⟩, fun c h1 h2 => absurd h1 (by omega), hfr v (Nat.le_refl v), ⟨rg_no0 (hfr a (by omega)).1, (hfr a (by omega)).2⟩, rg_fr_up hfr (by omega)⟩
theorem rg_lj_a (h : rg_lj v n a i Rx R M R1 M1) (h1 : rg_R0 n = fun _ => none) (h2 : rg_i0 n = fun _ => 0) : rg_lj v (n + 1) a i Rx R M R1 M1 := ⟨h.1, fun c c1 c2 c3 => by
  by_cases q : c < n
  · exact h.2.1 c c1 q c3
  · have e : c = n := by omega
    subst e
    have f := h.2.2.2.2 c (Nat.le_refl c)
    exact ⟨f.1.trans h1.symm, f.2.1.trans h2.symm, f.2.2⟩, h.2.2.1, h.2.2.2.1, rg_fr_up h.2.2.2.2 (by omega)⟩
theorem rg_lj_b (h : rg_lj v n a i Rx R M R1 M1) (hn : n = a) : rg_lj v (n + 1) a i Rx R M R1 M1 := ⟨h.1, fun c c1 c2 c3 => h.2.1 c c1 (by omega) c3, h.2.2.1, h.2.2.2.1, rg_fr_up h.2.2.2.2 (by omega)⟩
theorem rg_lj_p (h : rg_lj v n a i Rx R M R1 M1) {k o : Nat} (hv : v < n) (hva : v ≠ a) : rg_lj v n a i (fun q => if q = k then some o else Rx q) R M (rg_R R1 v k (some o)) M1 := ⟨fun c hc => ⟨(rg_R_cell (by omega)).trans (h.1 c hc).1, (h.1 c hc).2⟩, fun c c1 c2 c3 => ⟨(rg_R_cell (by omega)).trans (h.2.1 c c1 c2 c3).1, (h.2.1 c c1 c2 c3).2⟩, ⟨by funext q; show (if v = v ∧ q = k then _ else R1 v q) = _; rw [h.2.2.1.1]; by_cases e : q = k <;> simp [e], h.2.2.1.2⟩, ⟨(rg_R_cell (Ne.symm hva)).trans h.2.2.2.1.1, h.2.2.2.1.2⟩, rg_fr_R h.2.2.2.2 hv⟩
theorem rg_lj_u (h : rg_lj v n a i Rx R M R1 M1) {z : Nat} (hv : v < n) (hva : v ≠ a) (hu : rg_up n z R1 M1 R2 M2) (ha : a < n ∨ (n + z ≤ a ∧ i = 0)) : rg_lj v (n + z) a i Rx R M R2 M2 := ⟨fun c hc => ⟨(hu.1 c (by omega)).1.trans (h.1 c hc).1, (hu.1 c (by omega)).2.1.trans (h.1 c hc).2.1, (hu.1 c (by omega)).2.2.trans (h.1 c hc).2.2⟩, fun c c1 c2 c3 => by
  by_cases q : c < n
  · have f := h.2.1 c c1 q c3
    have g := hu.1 c q
    exact ⟨g.1.trans f.1, g.2.1.trans f.2.1, g.2.2.trans f.2.2⟩
  · exact hu.2.1 c (by omega) c2, ⟨(hu.1 v hv).1.trans h.2.2.1.1, (hu.1 v hv).2.1.trans h.2.2.1.2.1, (hu.1 v hv).2.2.trans h.2.2.1.2.2⟩, by
  rcases ha with q | ⟨q, rfl⟩
  · exact ⟨(hu.1 a q).1.trans h.2.2.2.1.1, (hu.1 a q).2.1.trans h.2.2.2.1.2.1, (hu.1 a q).2.2.trans h.2.2.2.1.2.2⟩
  · exact ⟨rg_no0 (hu.2.2 a q).1, (hu.2.2 a q).2⟩, hu.2.2⟩
theorem rg_lj_s (h : rg_lj v n a i Rx R M R1 M1) (hn : a < n) (hva : v < a) {o : Nat} (ho : rg_R0 a i = some o) : rg_lj v n a (i + 1) Rx R M (rg_R R1 a i (some o)) M1 := ⟨fun c hc => ⟨(rg_R_cell (by omega)).trans (h.1 c hc).1, (h.1 c hc).2⟩, fun c c1 c2 c3 => ⟨(rg_R_cell c3).trans (h.2.1 c c1 c2 c3).1, (h.2.1 c c1 c2 c3).2⟩, ⟨(rg_R_cell (by omega)).trans h.2.2.1.1, h.2.2.1.2⟩, ⟨by
    funext q
    show (if a = a ∧ q = i then _ else R1 a q) = _
    rw [h.2.2.2.1.1]
    by_cases e : q = i
    · subst e
      rw [if_pos ⟨rfl, rfl⟩, if_pos (by omega), ho]
    · rw [if_neg (fun z => e z.2)]
      show (if q < i then rg_R0 a q else none) = _
      by_cases c : q < i
      · rw [if_pos c, if_pos (by omega)]
      · rw [if_neg c, if_neg (by omega)], h.2.2.2.1.2⟩, rg_fr_R h.2.2.2.2 hn⟩
theorem rg_lj_m (h : rg_lj v n a i Rx R M R1 M1) {N' : Nat} (hv : v < n) (hn : n ≠ a) (ha : a < n ∨ n + 1 + N' ≤ a) (e1 : ∀ c, c ≠ n → R2 c = R1 c) (e2 : ∀ q, R2 n q = if q < N' then some (n + 1 + q) else none) (h1 : ∀ q, rg_R0 n q = if q < N' then some (n + 1 + q) else none) (h2 : ∀ q, q < N' → rg_R0 (n + 1 + q) = (fun _ => none) ∧ rg_i0 (n + 1 + q) = fun _ => 0) (h3 : rg_i0 n = fun _ => 0) : rg_lj v (n + 1 + N') a i Rx R M R2 M1 := ⟨fun c hc => ⟨(e1 c (by omega)).trans (h.1 c hc).1, (h.1 c hc).2⟩, fun c c1 c2 c3 => by
  by_cases q : c < n
  · have f := h.2.1 c c1 q c3
    exact ⟨(e1 c (by omega)).trans f.1, f.2⟩
  · have f := h.2.2.2.2 c (by omega)
    by_cases e : c = n
    · subst e
      exact ⟨by funext z; rw [e2, h1], f.2.1.trans h3.symm, f.2.2⟩
    · obtain ⟨z, rfl⟩ : ∃ z, c = n + 1 + z := ⟨c - (n + 1), by omega⟩
      have g := h2 z (by omega)
      exact ⟨((e1 _ e).trans f.1).trans g.1.symm, f.2.1.trans g.2.symm, f.2.2⟩, ⟨(e1 v (by omega)).trans h.2.2.1.1, h.2.2.1.2⟩, ⟨(e1 a (Ne.symm hn)).trans h.2.2.2.1.1, h.2.2.2.1.2⟩, fun c hc => ⟨(e1 c (by omega)).trans (h.2.2.2.2 c (by omega)).1, (h.2.2.2.2 c (by omega)).2⟩⟩
theorem rg_lj_d (h : rg_lj v n a i Rx R M R1 M1) {b : Nat} (hr : ∀ k, i ≤ k → rg_R0 a k = none) (h2 : rg_i0 a = fun _ => 0) (hb : n ≤ b) : rg_lj v n b 0 Rx R M R1 M1 := ⟨h.1, fun c c1 c2 c3 => by
  by_cases e : c = a
  · subst e
    refine ⟨?_, h.2.2.2.1.2.1.trans h2.symm, h.2.2.2.1.2.2⟩
    rw [h.2.2.2.1.1]
    funext k
    by_cases q : k < i
    · rw [if_pos q]
    · rw [if_neg q, hr k (by omega)]
  · exact h.2.1 c c1 c2 e, h.2.2.1, ⟨rg_no0 (h.2.2.2.2 b hb).1, (h.2.2.2.2 b hb).2⟩, h.2.2.2.2⟩
theorem rg_up_of (h : rg_lj v n a i Rx R M R1 M1) {z : Nat} (hn : n = v + z) (hz : 0 < z) (ha : n ≤ a) (hx : Rx = rg_R0 v) (e1 : ∀ c, c ≠ v → M2.1 c = M1.1 c) (e2 : M2.2 = M1.2) (e3 : M2.1 v = rg_i0 v) : rg_up v z R M R1 M2 := by
  subst hn
  refine ⟨fun c hc => ⟨(h.1 c hc).1, (e1 c (by omega)).trans (h.1 c hc).2.1, by rw [e2]; exact (h.1 c hc).2.2⟩, fun c c1 c2 => ?_, fun c hc => ⟨(h.2.2.2.2 c hc).1, (e1 c (by omega)).trans (h.2.2.2.2 c hc).2.1, by rw [e2]; exact (h.2.2.2.2 c hc).2.2⟩⟩
  by_cases e : c = v
  · subst e
    exact ⟨h.2.2.1.1.trans hx, e3, by rw [e2]; exact h.2.2.1.2.2⟩
  · have f := h.2.1 c (by omega) c2 (by omega)
    exact ⟨f.1, (e1 c e).trans f.2.1, by rw [e2]; exact f.2.2⟩
end LJ
theorem rg_R0_n {c : Nat} (h : 8 ≤ rg_kd c) (h2 : rg_kd c ≤ 10) : rg_R0 c = fun _ => none := by
  have h0 : c ≠ 0 ∧ c ≠ 1 ∧ c ≠ 6 ∧ c ≠ 8 ∧ c ≠ 12 ∧ c ≠ 89 ∧ c ≠ 94 ∧ c ≠ 98 ∧ c ≠ 107 := by
    refine ⟨?_, ?_, ?_, ?_, ?_, ?_, ?_, ?_, ?_⟩ <;> (intro e; subst e; revert h h2; decide)
  obtain ⟨a1, a2, a3, a4, a5, a6, a7, a8, a9⟩ := h0
  funext k
  unfold rg_R0
  rw [if_neg a1, if_neg a2, if_neg a3, if_neg a4, if_neg a5, if_neg (by omega), if_neg a6, if_neg a7, if_neg a8, if_neg a9, if_neg (by omega), if_neg (by omega)]
theorem rg_i0_n {c : Nat} (h : 8 ≤ rg_kd c) : rg_i0 c = fun _ => 0 := by
  have h0 : c ≠ 0 := by intro e; subst e; revert h; decide
  funext k
  unfold rg_i0
  rw [if_neg (by omega)]
theorem rg_R0_v {v : Nat} (hv : rg_isV v) : rg_R0 v = fun q => if q = 0 then some (v + 1) else none := by
  have h1 := rg_isV_ge hv
  have hk := hv.2
  have hv9 := hv.1
  have h0 : v ≠ 89 ∧ v ≠ 94 ∧ v ≠ 98 ∧ v ≠ 107 := by
    refine ⟨?_, ?_, ?_, ?_⟩ <;> (intro e; subst e; revert hk; decide)
  funext k
  unfold rg_R0
  rw [if_neg (by omega), if_neg (by omega), if_neg (by omega), if_neg (by omega), if_neg (by omega), if_pos hk]
theorem rg_i0_v {v : Nat} (hv : rg_isV v) : rg_i0 v = fun q => if q = 3 then -1 else 0 := by
  have h1 := rg_isV_ge hv
  have hk := hv.2
  funext k
  unfold rg_i0
  by_cases q : k = 3
  · rw [if_pos (Or.inl ⟨hk, q⟩), if_pos q]
  · rw [if_neg (by omega), if_neg q]
