abbrev rg_M0 : rg_Mem := (rg_i0, fun _ _ => 0)
def lw_M0 : rg_Mem := rg_I rg_M0 417 6 (-1)
def lw_WP (M : rg_Mem) (a : Nat) : Prop := (M.1 412 a &&& 15 = M.1 2 a) ∧ ((M.1 412 a >>> (4 &&& 31)) &&& 7 = M.1 3 a + 1) ∧ M.1 412 a >>> (8 &&& 31) = M.1 4 a ∧ (M.1 3 a = -1 ∨ ∃ s, s < 4 ∧ M.1 3 a = nI s) ∧ (∃ g, g < 1024 ∧ M.1 4 a = nI g) ∧ ∃ v, v ≤ 5 ∧ M.1 2 a = nI v
/-- i words stand, with their poets; nothing else is done -/
def lw_S (M : rg_Mem) (i n : Nat) : Prop := M.1 1 4 = nI i ∧ M.1 0 9 = nI n ∧ (∀ k, k ≠ 9 → M.1 0 k = rg_i0 0 k) ∧ (∀ c, 4 < c → c ≠ 412 → M.1 c = lw_M0.1 c) ∧ M.2 = (fun _ _ => 0) ∧ ∀ a, a < i → lw_WP M a
theorem lw_S_CI {M : rg_Mem} {i n : Nat} (h : lw_S M i n) (hi : i ≤ 16) (hn : n ≤ 6) : rg_CI M := by
  obtain ⟨h1, h2, h3, h4, h5, -⟩ := h
  have e6 : M.1 6 = lw_M0.1 6 := h4 6 (by omega) (by omega)
  have e90 := h4 90 (by omega) (by omega)
  have hz : rg_sz M 90 = 0 := by unfold rg_sz; rw [e90]; rfl
  have hv : rg_VS M 90 0 := ⟨by rw [e90]; rfl, by omega, fun k hk => absurd hk (by omega), by rw [e90]; rfl, by rw [e90]; rfl, by rw [e90]; rfl, by rw [h5]; rfl⟩
  exact rg_CI_mk (nw := i) (np := n) (nl := 0) (nt := 0) (no := 0) (nc := 0) (sp := 0) h1 (by omega) h2 hn (by rw [e6]; rfl) (by omega) (by rw [e6]; rfl) (by omega) (by rw [h3 10 (by omega)]; rfl) (by omega) (by rw [h3 11 (by omega)]; rfl) (by omega) (by rw [e6]; rfl) (by omega) (by rw [hz]; exact hv) (fun k hk => absurd hk (by omega)) (fun k hk => absurd hk (by omega)) (fun k hk => absurd hk (by omega)) (fun k hk => absurd hk (by omega)) (fun k hk => absurd hk (by omega))
theorem lw_S_0 : lw_S lw_M0 0 0 := ⟨rfl, rfl, fun k _ => by unfold lw_M0; rw [rg_I_cell (by omega)], fun _ _ _ => rfl, rfl, fun a ha => absurd ha (by omega)⟩
theorem lw_S_s {M F : rg_Mem} {i n q : Nat} (h : lw_S M i n) (e1 : F.1 1 4 = nI (i + 1)) (e0 : ∀ k, F.1 0 k = if k = 9 then nI q else M.1 0 k) (ew : ∀ k, k ≠ i → F.1 412 k = M.1 412 k ∧ F.1 2 k = M.1 2 k ∧ F.1 3 k = M.1 3 k ∧ F.1 4 k = M.1 4 k) (ec : ∀ c, 4 < c → c ≠ 412 → F.1 c = M.1 c) (em : F.2 = M.2) (hw : lw_WP F i) : lw_S F (i + 1) q := by
  obtain ⟨h1, h2, h3, h4, h5, h6⟩ := h
  refine ⟨e1, by rw [e0, if_pos rfl], fun k hk => by rw [e0, if_neg hk]; exact h3 k hk, fun c c1 c2 => (ec c c1 c2).trans (h4 c c1 c2), em.trans h5, fun x hx => ?_⟩
  by_cases q9 : x = i
  · subst q9; exact hw
  · obtain ⟨g1, g2, g3, g4⟩ := ew x q9
    unfold lw_WP
    rw [g1, g2, g3, g4]
    exact h6 x (by omega)
theorem lw_S_z {M : rg_Mem} {i n : Nat} (h : lw_S M i n) {c : Nat} (h1 : 4 < c) (h2 : c ≠ 412) (h3 : c ≠ 417) (hk : 8 ≤ rg_kd c) : M.1 c = fun _ => 0 := by
  rw [h.2.2.2.1 c h1 h2]
  unfold lw_M0
  rw [show (rg_I rg_M0 417 6 (-1)).1 c = rg_M0.1 c from rg_I_cell h3]
  exact rg_i0_n hk
theorem lw_S_Inv {M : rg_Mem} (h : lw_S M 16 3) : rp_Inv M := by
  have hC := lw_S_CI h (by omega) (by omega)
  obtain ⟨h1, h2, h3, h4, h5, h6⟩ := h
  have h : lw_S M 16 3 := ⟨h1, h2, h3, h4, h5, h6⟩
  have e6 : M.1 6 = lw_M0.1 6 := h4 6 (by omega) (by omega)
  have e17 : M.1 417 = lw_M0.1 417 := h4 417 (by omega) (by omega)
  have enl : rg_nl M = 0 := by unfold rg_nl; rw [e6]; rfl
  have ent : rg_nt M = 0 := by unfold rg_nt; rw [e6]; rfl
  have eno : rg_no M = 0 := by unfold rg_no; rw [h3 10 (by omega)]; rfl
  have enc : rg_nc M = 0 := by unfold rg_nc; rw [h3 11 (by omega)]; rfl
  have esz : rg_sz M 90 = 0 := by unfold rg_sz; rw [h4 90 (by omega) (by omega)]; rfl
  refine ⟨hC, ⟨⟨h1, h2⟩, by omega, by omega, fun q => absurd q (by omega), fun q => absurd q (by omega)⟩, h6, ?_, ?_, ?_, ?_, ?_, ?_, ?_, ?_⟩
  · intro a ha
    refine ⟨0, by omega, ?_, ?_⟩
    · rw [lw_S_z h (by omega) (by omega) (by omega) (by decide)]; rfl
    · rw [h5]; rfl
  · unfold rp_M
    rw [e6, e17, h3 10 (by omega), h3 12 (by omega), h3 11 (by omega), ent]
    exact ⟨rfl, rfl, rfl, rfl, rfl, rfl, rfl, rfl, rfl⟩
  · refine ⟨fun j hj => absurd hj (by omega), fun i _ _ => ?_⟩
    rw [lw_S_z h (by omega) (by omega) (by omega) (by decide)]
  · intro j hj
    rw [lw_S_z h (c := 415) (by omega) (by omega) (by omega) (by decide), lw_S_z h (c := 7) (by omega) (by omega) (by omega) (by decide)]
    exact ⟨rfl, fun q => absurd q (by omega), fun _ => ⟨rfl, rfl⟩⟩
  · intro g hg j hj
    refine ⟨fun q => absurd q (by omega), fun _ => ?_⟩
    rw [lw_S_z h (c := 416) (by omega) (by omega) (by omega) (by decide)]
  · intro k hk
    rw [esz, if_neg (by omega), lw_S_z h (c := 418) (by omega) (by omega) (by omega) (by decide)]
  · intro o ho
    exact absurd ho (by omega)
  · intro c hc
    exact absurd hc (by omega)
abbrev lw_sgv (x y : Nat) : Int32 := (1 : Int32) <<< (nI x &&& 31) ||| (if y < 10 then (1 : Int32) <<< (nI y &&& 31) else 0)
abbrev lw_sgp (g : Int32) : Prop := ∃ x y, x < 8 ∧ y < 11 ∧ g = lw_sgv x y
set_option maxRecDepth 100000 in
theorem lw_pack : ∀ v, v < 6 → ∀ t, t < 5 → ∀ x, x < 8 → ∀ y, y < 11 → ((nI v ||| (nI t) <<< (4 &&& 31) ||| (lw_sgv x y) <<< (8 &&& 31)) &&& 15 = nI v) ∧ (((nI v ||| (nI t) <<< (4 &&& 31) ||| (lw_sgv x y) <<< (8 &&& 31)) >>> (4 &&& 31)) &&& 7 = nI t) ∧ (nI v ||| (nI t) <<< (4 &&& 31) ||| (lw_sgv x y) <<< (8 &&& 31)) >>> (8 &&& 31) = lw_sgv x y := by decide +kernel
theorem lw_sgd : ∀ x, x < 8 → ∀ y, y < 11 → rg_in (lw_sgv x y) 0 1023 ∧ lw_sgv x y = nI (lw_sgv x y).toNatClampNeg ∧ (lw_sgv x y).toNatClampNeg < 1024 := by decide +kernel
theorem lw_se1 {x : Int32} (h : x = -1 ∨ ∃ q, q < 4 ∧ x = nI q) : ∃ t, t < 5 ∧ x + 1 = nI t := by
  rcases h with rfl | ⟨q, h1, rfl⟩
  · exact ⟨0, by omega, rfl⟩
  · exact ⟨q + 1, by omega, (nI_succ q).symm⟩
theorem lw_inw {v : Nat} {x g : Int32} (hv : 1 ≤ v ∧ v ≤ 5) (hx : x = -1 ∨ ∃ q, q < 4 ∧ x = nI q) (hg : lw_sgp g) : rg_in (nI v) 1 12 ∧ rg_in x (-1) 3 ∧ rg_in g 0 1023 := by
  refine ⟨?_, ?_, ?_⟩
  · obtain ⟨h1, h2⟩ := hv
    have : ∀ v, v < 6 → 1 ≤ v → rg_in (nI v) 1 12 := by decide
    exact this v (by omega) h1
  · rcases hx with rfl | ⟨q, h1, rfl⟩
    · decide
    · have : ∀ q, q < 4 → rg_in (nI q) (-1) 3 := by decide
      exact this q h1
  · obtain ⟨a, b, h1, h2, rfl⟩ := hg
    exact (lw_sgd a h1 b h2).1
theorem lw_WPk {F : rg_Mem} {i v t : Nat} {x g : Int32} (hv : 1 ≤ v ∧ v ≤ 5) (hx : x = -1 ∨ ∃ q, q < 4 ∧ x = nI q) (ht : t < 5 ∧ x + 1 = nI t) (hg : lw_sgp g) (e : F.1 412 i = (nI v ||| (nI t) <<< (4 &&& 31) ||| g <<< (8 &&& 31)) ∧ F.1 2 i = nI v ∧ F.1 3 i = x ∧ F.1 4 i = g) : lw_WP F i := by
  unfold lw_WP
  obtain ⟨e1, e2, e3, e4⟩ := e
  obtain ⟨a, b, h1, h2, rfl⟩ := hg
  obtain ⟨p1, p2, p3⟩ := lw_pack v (by omega) t ht.1 a h1 b h2
  rw [e1, e2, e3, e4, p1, p2, p3, ht.2]
  exact ⟨rfl, rfl, rfl, hx, ⟨_, (lw_sgd a h1 b h2).2.2, (lw_sgd a h1 b h2).2.1⟩, ⟨v, hv.2, rfl⟩⟩
theorem lw_S_w {M : rg_Mem} {i n v t : Nat} {x g : Int32} (h : lw_S M i n) (hv : 1 ≤ v ∧ v ≤ 5) (hx : x = -1 ∨ ∃ q, q < 4 ∧ x = nI q) (ht : t < 5 ∧ x + 1 = nI t) (hg : lw_sgp g) : lw_S (rg_I (rg_I (rg_I (rg_I (rg_I M 412 i ((nI v ||| (x + 1) <<< (4 &&& 31)) ||| g <<< (8 &&& 31))) 2 i (nI v)) 3 i x) 4 i g) 1 4 (nI (i + 1))) (i + 1) n := by
  refine lw_S_s h ?_ (fun k => ?_) (fun k hk => ⟨?_, ?_, ?_, ?_⟩) (fun c c1 c2 => ?_) rfl (lw_WPk hv hx ht hg ⟨?_, ?_, ?_, ?_⟩)
  · rw [rg_I_at, if_pos rfl]
  · rw [rg_I_cell (by omega), rg_I_cell (by omega), rg_I_cell (by omega), rg_I_cell (by omega), rg_I_cell (by omega)]
    by_cases q : k = 9
    · rw [if_pos q, q]; exact h.2.1
    · rw [if_neg q]
  · rw [rg_I_cell (by omega), rg_I_cell (by omega), rg_I_cell (by omega), rg_I_cell (by omega), rg_I_at, if_neg hk]
  · rw [rg_I_cell (by omega), rg_I_cell (by omega), rg_I_cell (by omega), rg_I_at, if_neg hk, rg_I_cell (by omega)]
  · rw [rg_I_cell (by omega), rg_I_cell (by omega), rg_I_at, if_neg hk, rg_I_cell (by omega), rg_I_cell (by omega)]
  · rw [rg_I_cell (by omega), rg_I_at, if_neg hk, rg_I_cell (by omega), rg_I_cell (by omega), rg_I_cell (by omega)]
  · rw [rg_I_cell (by omega), rg_I_cell (by omega), rg_I_cell (by omega), rg_I_cell (by omega), rg_I_cell (by omega)]
  · rw [rg_I_cell (by omega), rg_I_cell (by omega), rg_I_cell (by omega), rg_I_cell (by omega), rg_I_at, if_pos rfl, ht.2]
  · rw [rg_I_cell (by omega), rg_I_cell (by omega), rg_I_cell (by omega), rg_I_at, if_pos rfl]
  · rw [rg_I_cell (by omega), rg_I_cell (by omega), rg_I_at, if_pos rfl]
  · rw [rg_I_cell (by omega), rg_I_at, if_pos rfl]
theorem lw_S_p {M : rg_Mem} {i n q : Nat} (h : lw_S M i n) : lw_S (rg_I M 0 9 (nI q)) i q := by
  obtain ⟨h1, h2, h3, h4, h5, h6⟩ := h
  refine ⟨by rw [rg_I_cell (by omega)]; exact h1, by rw [rg_I_at, if_pos rfl], fun k hk => by rw [rg_I_at, if_neg hk]; exact h3 k hk, fun c c1 c2 => by rw [rg_I_cell (by omega)]; exact h4 c c1 c2, h5, fun a ha => ?_⟩
  unfold lw_WP
  rw [rg_I_cell (by omega), rg_I_cell (by omega), rg_I_cell (by omega), rg_I_cell (by omega)]
  exact h6 a ha
theorem a_word (l : Launch) (E : rg_Env) (B : Nat) (M : rg_Mem) (v i : Nat) (x g : Int32) (hC : rg_CI M) (hv : 1 ≤ v ∧ v ≤ 5) (hx : x = -1 ∨ ∃ q, q < 4 ∧ x = nI q) (hg : lw_sgp g) (hi : i < 16) (hw : M.1 1 4 = nI i) (hst : l.stackTraces = false) : Met l yX6_word (rg_w yX6_word cX6_word 4 (some (FieldType.int))) ({ frames := 7, cells := 4, slots := 24, locals := 113 } : Room) (va_Pc [.ref (B + 0), .int (nI v), .int (x), .int (g)] (rg_Pre E B 422 rg_R0 M)) (rg_Ri E B 422 rg_R0 (rg_I (rg_I (rg_I (rg_I M 2 i (nI v)) 3 i x) 4 i g) 1 4 (nI (i + 1))) (fun r => r = nI i)) 4 24 (rg_A B) := by
  have hn : rg_nw M = i := by unfold rg_nw; rw [hw, nI_clamp (by omega)]
  have h40 : ¬ 40 ≤ M.1 1 4 := by rw [hw]; exact fun q => by have := (lw_nle (a := 40) (by omega) (by omega)).mp q; omega
  have := rg_RG (rg_noX (k_X6_word l hst E B M (nI v) x (g) hC) (fun X q => by
    rcases q with q | q
    · exact q.1 (lw_inw hv hx hg)
    · exact q.2.1 h40)) (f := nI i) (fun r q => q.2.trans hw)
  rw [hn] at this
  exact this
theorem a_poet (l : Launch) (E : rg_Env) (B : Nat) (M : rg_Mem) (i : Nat) (hC : rg_CI M) (hi : i < 3) (hw : M.1 0 9 = nI i) (hst : l.stackTraces = false) : Met l yX6_poet (rg_w yX6_poet cX6_poet 1 (some (FieldType.int))) ({ frames := 6, cells := 1, slots := 6, locals := 90 } : Room) (va_Pc [.ref (B + 0)] (rg_Pre E B 422 rg_R0 M)) (rg_Ri E B 422 rg_R0 (rg_I M 0 9 (nI (i + 1))) (fun r => r = nI i)) 1 6 (rg_A B) := by
  have hn : rg_np M = i := by unfold rg_np; rw [hw, nI_clamp (by omega)]
  have h6 : M.1 0 9 < 6 := by rw [hw]; exact (lw_nlt (b := 6) (by omega) (by omega)).mpr (by omega)
  have := rg_RG (rg_noX (k_X6_poet l hst E B M hC) (fun X q => q.1 h6)) (f := nI i) (fun r q => q.2.trans hw)
  rw [hn] at this
  exact this
theorem rg_WS_c {cy : Nat → ClassId} {B : Nat} {R R' : rg_Rfs} {M M' : rg_Mem} (h : ∀ c, c < 422 → R' c = R c ∧ M'.1 c = M.1 c ∧ M'.2 c = M.2 c) : rg_WS cy B 422 R' M' = rg_WS cy B 422 R M := by
  unfold rg_WS rg_cl
  rw [if_pos (Nat.le_refl _)]
  apply List.map_congr_left
  intro c hc
  have hc := List.mem_range.mp hc
  rw [rg_ent_c (h c hc).2.1 (h c hc).2.2 (h c hc).1]
theorem rg_H_0 {E : rg_Env} {B n : Nat} {R : rg_Rfs} {M : rg_Mem} {s : State} {H : Heap} {locs : List Loc} (h : rg_H E B n R M s H locs) : rg_H E B 0 rg_RN rg_MN s H locs := ⟨fun k q h => by simp [rg_WS, rg_cl] at h, h.2⟩
section RGB
variable {p : Program} {l : Launch} {e : Env} {Rm : Room} {s : State} {m : MethodId} {args : Array Value} {below : List Frame} {meth : Method} {c : Code} {H : Heap} {locs : List Loc} {cells slots : Nat} {Q : State → Prop}
variable {cc : ByteArray} {pc nL : Nat} {ls : Array Slot} {st rest : List Value} {own : String} {E : rg_Env} {B n : Nat} {R : rg_Rfs} {M : rg_Mem}
variable {As : List Value} {y : MethodName} {bytes : ByteArray} {maxL index na mc ms : Nat} {ret : Option FieldType} {ws : List Cond} {rm : Room}
theorem rg_callSWb (C0 : rg_Cx p m c cc nL s args own E B) (hH : rg_H E B n R M s H locs) {post : Int32 → rg_Mem → Prop} (hM : Met l y ws rm (va_Pc As (rg_Pre E B n R M)) (rg_Wi E B n R post) mc ms (rg_A B)) (cw : CallB Rm s args own index y bytes maxL ret ws rm mc ms na ∧ (Cond.static y).before args s = true) (hn : As.length = na) (hsize : ls.size = nL) (hst : st = As.reverse ++ rest) (hW : (rest.map fun v => v.category).sum ≤ 8) (hdg : decode cc pc = .ok (.invokestatic index, 3)) (hf : cells + mc ≤ Rm.cells ∧ slots + ms ≤ Rm.slots)
    (kk : ∀ (r : Int32) (M1 : rg_Mem) (H1 : Heap) (locs1 : List Loc), post r M1 → rg_H E B n R M1 s H1 locs1 → W p l e Rm s m args below meth c H1 locs1 (cells + mc) (slots + ms) Q (F0 m (pc + 3) ls (.int r :: rest))) : W p l e Rm s m args below meth c H locs cells slots Q (F0 m pc ls st) := by
  obtain ⟨S, hK, hSt⟩ := C0
  exact va_calli (va_runS (As := As) (rest := rest) S hM cw ⟨rg_blind, rg_pre hK hSt hH⟩ rfl hn hsize hst (lv_room hW) hdg hf) hH.2 (fun q _ h => h) (fun q h => h) (fun r u t H1 locs1 ht _ hp hB _ _ hS => kk r u H1 locs1 hp ⟨by rw [← ht]; exact hB, hS⟩)
end RGB
