/-- a cell of zeros -/
def lw_nw (M : rg_Mem) (d : Nat) : rg_Mem := (fun c k => if c = d then 0 else M.1 c k, M.2)
theorem lw_nw_c {M : rg_Mem} {d c k : Nat} (h : c ≠ d) : (lw_nw M d).1 c k = M.1 c k := if_neg h
theorem lw_nw_d {M : rg_Mem} {d k : Nat} : (lw_nw M d).1 d k = 0 := if_pos rfl
theorem rg_ent_nw {cy : Nat → ClassId} {B d c : Nat} {R : rg_Rfs} {M M1 : rg_Mem} (h : ∀ k, M1.1 c k = M.1 c k) (h2 : M1.2 c = M.2 c) : rg_ent cy B R M1 c = rg_ent cy B R M c := rg_ent_c (funext h) h2 rfl
/-- the world without its last cell -/
theorem rg_H_dn {E : rg_Env} {B d : Nat} {M M1 : rg_Mem} {s : State} {H : Heap} {locs : List Loc} (hH : rg_H E B (d + 1) rg_R0 M1 s H locs) (hd : 422 ≤ d) (h : ∀ c, c < 422 → ∀ k, M1.1 c k = M.1 c k) (h2 : M1.2 = M.2) : rg_H E B 422 rg_R0 M s H locs := by
  refine ⟨fun k q hq => ?_, hH.2⟩
  obtain ⟨c, hc, _, rfl⟩ := rg_WS_of hq
  have := hH.1 (rg_ps c) _ (rg_WS_get (n := d + 1) (c := c) (by omega))
  rw [rg_ent_nw (d := d) (M := M) (h c hc.1) (by rw [h2])] at this
  exact this
section RND
variable {p : Program} {l : Launch} {e : Env} {Rm : Room} {s : State} {m : MethodId} {args : Array Value} {below : List Frame} {meth : Method} {c : Code} {H : Heap} {locs : List Loc} {cells slots : Nat} {Q : State → Prop}
variable {cc : ByteArray} {pc nL : Nat} {ls : Array Slot} {st rest : List Value} {own : String} {E : rg_Env} {B : Nat} {M : rg_Mem}
/-- six places more, at their own address -/
theorem rg_newD (C0 : rg_Cx p m c cc nL s args own E B) (hH : rg_H E B 422 rg_R0 M s H locs) (hdg : decode cc pc = .ok (.newarray .int, 2)) (hcells : cells + 1 ≤ Rm.cells) (hslots : slots + 6 ≤ Rm.slots)
    (kk : ∀ (d : Nat) (H1 : Heap), 422 ≤ d → rg_H E B (d + 1) rg_R0 (lw_nw M d) s H1 locs → W p l e Rm s m args below meth c H1 locs (cells + 1) (slots + 6) Q (F0 m (pc + 2) ls (.ref (B + d) :: rest))) : W p l e Rm s m args below meth c H locs cells slots Q (F0 m pc ls (.int 6 :: rest)) := by
  obtain ⟨⟨hx, hb, -, hown, hts⟩, hK, -⟩ := C0
  have hlo : B + 421 < H.size := (hH.1 (rg_ps 421) _ (rg_WS_get (by omega))).lt
  obtain ⟨d, hd⟩ : ∃ d, H.size = B + d := ⟨H.size - B, by omega⟩
  have hd2 : 422 ≤ d := by omega
  refine va_newaK (atype := .int) hx hb (hts _ tw_a_int) rfl hdg rfl (by decide) (N := 6) rfl (by decide) hcells hslots hd fun H1 cA e1 z1 o1 hAr hNm => ?_
  cases (hK.2 0 _ rfl).2.symm.trans hNm
  refine kk d H1 hd2 ⟨fun k q hq => ?_, ⟨by have := hH.2.1; omega, fun x h1 h2 => (o1 x (by have := hH.2.1; omega)).trans (hH.2.2.1 x h1 h2), hH.2.2.2⟩⟩
  obtain ⟨c9, hc, _, rfl⟩ := rg_WS_of hq
  by_cases q9 : c9 = d
  · subst q9
    have hk8 : rg_kd c9 = 8 := by
      unfold rg_kd
      rw [if_neg (by omega), if_neg (by omega), if_neg (by omega), if_neg (by omega), if_neg (by omega), if_neg (by omega)]
    have hl6 : rg_ln c9 = 6 := by
      unfold rg_ln
      rw [if_neg (by omega), if_neg (by omega), if_neg (by omega), if_neg (by omega), if_neg (by omega), if_neg (by omega), if_neg (by omega)]
    rw [rg_ent_i hk8, hl6, show (lw_nw M c9).1 c9 = (fun _ => 0) from funext fun k => lw_nw_d]
    exact e1
  · have hc4 : c9 < 422 := by omega
    have h0 := hH.1 (rg_ps c9) _ (rg_WS_get (n := 422) (c := c9) (by omega))
    rw [rg_ent_nw (d := d) (M := M) (fun k => lw_nw_c q9) rfl]
    exact h0.kept (o1 _ (by omega))
end RND
theorem rg_kd_hi {d : Nat} (h : 412 ≤ d) : rg_kd d = 8 := by
  unfold rg_kd
  rw [if_neg (by omega), if_neg (by omega), if_neg (by omega), if_neg (by omega), if_neg (by omega), if_neg (by omega)]
theorem rg_ln_hi {d : Nat} (h : 422 ≤ d) : rg_ln d = 6 := by
  unfold rg_ln
  rw [if_neg (by omega), if_neg (by omega), if_neg (by omega), if_neg (by omega), if_neg (by omega), if_neg (by omega), if_neg (by omega)]
/-- what the law's faults are read of -/
theorem lw_cs_c {M M1 : rg_Mem} {j sp : Nat} {po : Int32} (h : ∀ c, c < 418 → M1.1 c = M.1 c) : lw_cs M1 j sp po = lw_cs M j sp po := by
  have e2 := h 2 (by omega)
  have e3 := h 3 (by omega)
  have e4 := h 4 (by omega)
  have et := h 414 (by omega)
  have t : ∀ i, lw_t M1 i = lw_t M i := fun i => by unfold lw_t; rw [et]
  have sv : ∀ i, lw_sv M1 i = lw_sv M i := fun i => by unfold lw_sv; rw [t, e3]
  have gv : ∀ i, lw_gv M1 i = lw_gv M i := fun i => by unfold lw_gv; rw [t, e4]
  have nv : ∀ i, lw_nv M1 i = lw_nv M i := fun i => by unfold lw_nv; rw [t, e2]
  have sea : lw_sea M1 = lw_sea M := by funext i; unfold lw_sea; simp only [sv]
  have sgn : lw_sgn M1 = lw_sgn M := by funext i; unfold lw_sgn; simp only [gv]
  have sum : lw_sum M1 j = lw_sum M j := by unfold lw_sum; simp only [nv]
  have mp : lw_mp M1 j = lw_mp M j := by funext i; unfold lw_mp; simp only [sv, sea]
  have ap : lw_ap M1 j sp = lw_ap M j sp := by funext i; unfold lw_ap lw_hq lw_hp; simp only [t, et]
  have cp : lw_cp M1 j = lw_cp M j := by funext i; unfold lw_cp; simp only [t, h 413 (by omega)]
  have ca : lw_ca M1 j = lw_ca M j := by unfold lw_ca; simp only [sea]
  have ru : lw_ru M1 j = lw_ru M j := by unfold lw_ru lw_run; simp only [sea, ca]
  have lp : lw_lp M1 j = lw_lp M j := by funext i; unfold lw_lp; simp only [sea, ca]
  have wr : lw_wr M1 j = lw_wr M j := by unfold lw_wr; simp only [sea, ca, ru, lp]
  have lv : lw_lv M1 j = lw_lv M j := by unfold lw_lv; simp only [sgn]
  have j5 : lw_j5 M1 j = lw_j5 M j := by unfold lw_j5; simp only [sgn, cp]
  funext k
  unfold lw_cs
  simp only [sum, h 417 (by omega), mp, ap, h 415 (by omega), j5, lv, wr, sgn]
theorem lw_row_r {M M1 : rg_Mem} {j c : Nat} {r r1 : Nat → Int32} (h : M1.1 c = M.1 c) (hr : ∀ k, k < 6 → r1 k = r k) : (lw_row M1 j r1).1 c = (lw_row M j r).1 c := by
  funext k
  show (if _ then _ else _) = if _ then _ else _
  by_cases q : c = 414 ∧ 6 * j ≤ k ∧ k < 6 * j + 6
  · rw [if_pos q, if_pos q, hr _ (by omega)]
  · rw [if_neg q, if_neg q, h]
/-- whether the row of words by its number could be offered -/
abbrev lw_ok (M : rg_Mem) (j sp : Nat) (po : Int32) : Nat → Bool := fun k => decide (lw_fl (lw_cs (lw_row M j (lw_rw2 k)) j sp po) = 0)
theorem lw_rw2_in {i k : Nat} (h : i < 272) : ∃ a, a ≤ 16 ∧ lw_rw2 i k = nI a := by
  unfold lw_rw2
  by_cases q0 : k = 0
  · rw [if_pos q0]; exact ⟨i / 17 + 1, by omega, rfl⟩
  · rw [if_neg q0]
    by_cases q1 : k = 1
    · rw [if_pos q1]; exact ⟨i % 17, by omega, rfl⟩
    · rw [if_neg q1]; exact ⟨0, by omega, rfl⟩
