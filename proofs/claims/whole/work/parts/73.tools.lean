/-! tools for the calls -/
theorem rm_go_0 {a b c : Int32} (h1 : ¬ a = 0) (h2 : ¬ b = 0) (h3 : ¬ c = 0) : rm_go a b c = 0 := by unfold rm_go; rw [if_neg h1, if_neg h2, if_neg h3]
theorem rm_go_1 {a b c : Int32} (h1 : a = 0) : rm_go a b c = 1 := by unfold rm_go; rw [if_pos h1]
theorem rm_go_2 {a b c : Int32} (h1 : ¬ a = 0) (h2 : b = 0) : rm_go a b c = 2 := by unfold rm_go; rw [if_neg h1, if_pos h2]
theorem rm_go_3 {a b c : Int32} (h1 : ¬ a = 0) (h2 : ¬ b = 0) (h3 : c = 0) : rm_go a b c = 3 := by unfold rm_go; rw [if_neg h1, if_neg h2, if_pos h3]
theorem rg_b1 {P : Prop} [Decidable P] (h : P) : ¬ rg_b P = 0 := rg_b_ne.mpr h
theorem rg_b0 {P : Prop} [Decidable P] (h : ¬ P) : rg_b P = 0 := rg_b_eq.mpr h
theorem rg_n1 : ¬ (1 : Int32) = 0 := by decide
theorem rg_x2a {P Q : Prop} {A B : String} (hx : (¬ P ∧ A = A) ∨ (P ∧ ¬ Q ∧ A = B)) (hn : A ≠ B) : ¬ P := hx.elim (fun q => q.1) (fun q => absurd q.2.2 hn)
theorem rg_x2b {P Q : Prop} {A B : String} (hx : (¬ P ∧ B = A) ∨ (P ∧ ¬ Q ∧ B = B)) (hn : B ≠ A) : P ∧ ¬ Q := hx.elim (fun q => absurd q.2 hn) (fun q => ⟨q.1, q.2.1⟩)
theorem rg_x3a {P Q T : Prop} {A B C : String} (hx : (¬ P ∧ A = A) ∨ (P ∧ ¬ Q ∧ A = B) ∨ (P ∧ Q ∧ ¬ T ∧ A = C)) (hn : A ≠ B) (hm : A ≠ C) : ¬ P := hx.elim (fun q => q.1) (fun q => q.elim (fun q => absurd q.2.2 hn) (fun q => absurd q.2.2.2 hm))
theorem rg_x3b {P Q T : Prop} {A B C : String} (hx : (¬ P ∧ B = A) ∨ (P ∧ ¬ Q ∧ B = B) ∨ (P ∧ Q ∧ ¬ T ∧ B = C)) (hn : B ≠ A) (hm : B ≠ C) : P ∧ ¬ Q := hx.elim (fun q => absurd q.2 hn) (fun q => q.elim (fun q => ⟨q.1, q.2.1⟩) (fun q => absurd q.2.2.2 hm))
theorem rg_x3c {P Q T : Prop} {A B C : String} (hx : (¬ P ∧ C = A) ∨ (P ∧ ¬ Q ∧ C = B) ∨ (P ∧ Q ∧ ¬ T ∧ C = C)) (hn : C ≠ A) (hm : C ≠ B) : P ∧ Q ∧ ¬ T := hx.elim (fun q => absurd q.2 hn) (fun q => q.elim (fun q => absurd q.2.2 hm) (fun q => ⟨q.1, q.2.1, q.2.2.1⟩))
theorem rg_s1 : ("java/lang/IndexOutOfBoundsException" : String) ≠ "java/lang/IllegalArgumentException" := by decide
theorem rg_s2 : ("java/lang/IndexOutOfBoundsException" : String) ≠ "java/lang/IllegalStateException" := by decide
theorem rg_s3 : ("java/lang/IllegalArgumentException" : String) ≠ "java/lang/IllegalStateException" := by decide
theorem rg_in_rm {x a b : Int32} : rg_in x a b ↔ rm_in x a b := and_congr Iff.rfl (by rw [rg_le, rg_lt]; omega)
theorem rg_nle {a b : Int32} : ¬ a ≤ b ↔ b < a := by rw [rg_le, rg_lt]; omega
theorem rg_nlt {a b : Int32} : ¬ a < b ↔ b ≤ a := by rw [rg_le, rg_lt]; omega
/-- the model's part is as before; the class's too but for the out row -/
def rg_mo (M Mw : rg_Mem) : Prop := (∀ c, 412 ≤ c → Mw.1 c = M.1 c) ∧ ∀ c, 412 ≤ c → c ≠ 432 → Mw.2 c = M.2 c
section MO
variable {M M1 Mw Mz : rg_Mem} {o k : Nat} {v : Int32} {z : Int64}
theorem rg_mo_rf : rg_mo M M := ⟨fun _ _ => rfl, fun _ _ _ => rfl⟩
theorem rg_mo_I (h : rg_mo M M1) (ho : o < 412) : rg_mo M (rg_I M1 o k v) := ⟨fun c hc => (rg_I_cell (by omega)).trans (h.1 c hc), h.2⟩
theorem rg_mo_J (h : rg_mo M M1) (ho : o < 412) : rg_mo M (rg_J M1 o k z) := ⟨h.1, fun c hc h2 => (rg_J_cell (by omega)).trans (h.2 c hc h2)⟩
theorem rg_mo_o (h : rg_mo M M1) : rg_mo M (rg_J M1 432 k z) := ⟨h.1, fun c hc h2 => (rg_J_cell h2).trans (h.2 c hc h2)⟩
theorem rg_mo_off (h : rg_mo M M1) (g : rg_off M1 Mw o) (ho : o < 410) : rg_mo M Mw := ⟨fun c hc => (g c (by omega) (by omega)).1.trans (h.1 c hc), fun c hc h2 => (g c (by omega) (by omega)).2.trans (h.2 c hc h2)⟩
theorem rg_mo_mi (h : rg_Inv M) (g : rg_mo M Mw) : rm_CI Mw := by
  have e : rm_eq M (Mw.1, fun c => if c = 432 then M.2 432 else Mw.2 c) := ⟨fun c h1 h2 => ⟨g.1 c (by omega), by
    show (if c = 432 then M.2 432 else Mw.2 c) = M.2 c
    by_cases q : c = 432
    · rw [if_pos q, q]
    · rw [if_neg q]; exact g.2 c (by omega) q⟩, fun k hk => by show Mw.1 412 k = _; rw [g.1 412 (by omega)]⟩
  exact (rm_CI_eq (rg_Inv_mi h) e : rm_CI (Mw.1, fun c => if c = 432 then M.2 432 else Mw.2 c))
theorem rg_mo_fo (g : rg_mo M Mw) : rm_fo Mw = rm_fo M := by
  have e : rm_eq M (Mw.1, fun c => if c = 432 then M.2 432 else Mw.2 c) := ⟨fun c h1 h2 => ⟨g.1 c (by omega), by
    show (if c = 432 then M.2 432 else Mw.2 c) = M.2 c
    by_cases q : c = 432
    · rw [if_pos q, q]
    · rw [if_neg q]; exact g.2 c (by omega) q⟩, fun k hk => by show Mw.1 412 k = _; rw [g.1 412 (by omega)]⟩
  exact (show rm_fo Mw = rm_fo (Mw.1, fun c => if c = 432 then M.2 432 else Mw.2 c) from rfl).trans (rm_fo_e e)
theorem rg_same_rf : rg_same M M := ⟨fun _ _ _ _ _ _ _ _ => ⟨rfl, rfl⟩, fun _ _ => rfl⟩
theorem rg_same_tr (h : rg_same M M1) (g : rg_same M1 Mw) : rg_same M Mw := ⟨fun c a1 a2 a3 a4 a5 a6 a7 => ⟨(g.1 c a1 a2 a3 a4 a5 a6 a7).1.trans (h.1 c a1 a2 a3 a4 a5 a6 a7).1, (g.1 c a1 a2 a3 a4 a5 a6 a7).2.trans (h.1 c a1 a2 a3 a4 a5 a6 a7).2⟩, fun k hk => (g.2 k hk).trans (h.2 k hk)⟩
theorem rg_same_t (hk : 31 ≤ k) : rg_same M (rg_I M 412 k v) := ⟨fun c _ _ _ _ a5 _ _ => ⟨rg_I_cell a5, rfl⟩, fun j hj => rg_I_slot (by omega)⟩
theorem rg_same_o : rg_same M (rg_J M 432 k z) := ⟨fun c _ _ _ _ _ _ a7 => ⟨rfl, rg_J_cell a7⟩, fun _ _ => rfl⟩
theorem rg_same_wk (g : rm_wk M M1) : rg_same M M1 := ⟨fun c _ _ _ _ a5 a6 _ => g.1 c a5 a6, g.2⟩
theorem rg_same_off (g : rg_off M M1 92) : rg_same M M1 := ⟨fun c a1 a2 _ _ _ _ _ => g c a1 a2, fun k _ => by rw [(g 412 (by omega) (by omega)).1]⟩
theorem rg_same_mn (g : ∀ c, c ≠ 95 → c ≠ 96 → M1.1 c = M.1 c ∧ M1.2 = M.2) : rg_same M M1 := ⟨fun c _ _ a3 a4 _ _ _ => ⟨(g c a3 a4).1, by rw [(g c a3 a4).2]⟩, fun k _ => by rw [(g 412 (by omega) (by omega)).1]⟩
/-- a refused call -/
theorem rg_ref {E y r : Int32} {X : Prop} (h : rg_Inv M) (hE : E = y) (e2 : (¬ E = 0 ∧ r = 0 ∧ Mz = rg_I M 412 33 E) ∨ (E = 0 ∧ X)) (hy : ¬ y = 0) {Z : Prop} : Mz.1 412 33 = y ∧ (y = 0 → Z) ∧ rg_Inv Mz := by
  rcases e2 with ⟨_, _, rfl⟩ | ⟨q, _⟩
  · exact ⟨rm_get.trans hE, fun q => absurd q hy, rg_Inv_same h (rg_same_t (by omega))⟩
  · exact absurd (hE.symm.trans q) hy
theorem rg_il_i (h : rg_Inv M) {x : Int32} : rm_il M x ↔ rg_hl M x := by unfold rm_il rg_hl; rw [(rg_Inv_s h).2.2.2.2.2.2.1]
theorem rg_ip_i (h : rg_Inv M) {x : Int32} : rm_ip M x ↔ rg_pt M x := by unfold rm_ip rg_pt; rw [(rg_Inv_p h).2.2]
theorem rg_ic_i (h : rg_Inv M) {x : Int32} : rm_ic M x ↔ rg_cp M x := by unfold rm_ic rg_cp; rw [(rg_Inv_c h).2.2.1]
theorem rg_tx_i (h : rg_Inv M) {x : Int32} : rm_tx M x ↔ rg_tx M x := or_congr Iff.rfl (rg_ic_i h)
theorem rm_iw_mo (g : rg_mo M Mw) {x : Int32} : rm_iw Mw x ↔ rm_iw M x := by unfold rm_iw; rw [g.1 412 (by omega)]
theorem rm_il_mo (g : rg_mo M Mw) {x : Int32} : rm_il Mw x ↔ rm_il M x := by unfold rm_il; rw [g.1 412 (by omega)]
theorem rm_ip_mo (g : rg_mo M Mw) {x : Int32} : rm_ip Mw x ↔ rm_ip M x := by unfold rm_ip; rw [g.1 412 (by omega)]
theorem rm_ic_mo (g : rg_mo M Mw) {x : Int32} : rm_ic Mw x ↔ rm_ic M x := by unfold rm_ic; rw [g.1 412 (by omega)]
theorem rm_io_mo (g : rg_mo M Mw) {x : Int32} : rm_io Mw x ↔ rm_io M x := by unfold rm_io; rw [g.1 412 (by omega)]
theorem rm_tx_mo (g : rg_mo M Mw) {x : Int32} : rm_tx Mw x ↔ rm_tx M x := or_congr Iff.rfl (rm_ic_mo g)
end MO
theorem rg_Inv_0 : rg_Inv (rg_i0, fun _ _ => 0) := by
  have z : ∀ c k, c ≠ 0 → c ≠ 412 → rg_kd c ≠ 5 → rg_i0 c k = 0 := fun c k h1 h2 h3 => by
    unfold rg_i0
    rw [if_neg (by omega)]
  have z0 : ∀ c, c ≠ 0 → c ≠ 412 → rg_kd c ≠ 5 → rg_i0 c = fun _ => 0 := fun c h1 h2 h3 => by
    funext k
    exact z c k h1 h2 h3
  refine ⟨⟨rfl, by decide, rfl, ?_, ?_, ?_, rfl, fun w hw => absurd hw (Nat.not_lt_zero _)⟩, ⟨rfl, by decide, rfl⟩, ⟨rfl, Nat.le_refl _, rfl, by decide, rfl, by decide, rfl, rfl, rfl, rfl, rfl, Or.inl ⟨rfl, rfl⟩⟩, ?_, ⟨⟨rfl, by decide, fun k hk => absurd hk (Nat.not_lt_zero _), rfl, rfl, rfl, rfl⟩, rfl, fun k hk => absurd hk (Nat.not_lt_zero _)⟩, ⟨?_, fun l hl => absurd hl (Nat.not_lt_zero _), fun k _ => ⟨Or.inl rfl, Or.inl rfl⟩, fun j k _ _ => ⟨fun _ => rfl, 0, by omega, rfl⟩⟩, ⟨rfl, by decide, rfl, fun h => absurd h (Nat.not_lt_zero _), fun o ho => absurd ho (Nat.not_lt_zero _)⟩, ⟨rfl, by decide, rfl, fun c hc => absurd hc (Nat.not_lt_zero _)⟩, rfl, fun l hl => absurd hl (Nat.not_lt_zero _), fun o ho => absurd ho (Nat.not_lt_zero _)⟩
  · show rg_i0 413 = rg_i0 2
    rw [z0 413 (by omega) (by omega) (by decide), z0 2 (by omega) (by omega) (by decide)]
  · show rg_i0 414 = rg_i0 3
    rw [z0 414 (by omega) (by omega) (by decide), z0 3 (by omega) (by omega) (by decide)]
  · show rg_i0 415 = rg_i0 4
    rw [z0 415 (by omega) (by omega) (by decide), z0 4 (by omega) (by omega) (by decide)]
  · show rg_i0 420 = rg_i0 7
    rw [z0 420 (by omega) (by omega) (by decide), z0 7 (by omega) (by omega) (by decide)]
  · show rg_i0 419 = rg_i0 9
    rw [z0 419 (by omega) (by omega) (by decide), z0 9 (by omega) (by omega) (by decide)]
theorem rg_Inv_o {M : rg_Mem} (h : rg_Inv M) : 0 < rg_no M → rg_nl M < rg_nt M := (rg_Inv_of h).2.2.2.1
