section RGT
variable {p : Program} {l : Launch} {e : Env} {Rm : Room} {s : State} {m : MethodId} {args : Array Value} {below : List Frame} {meth : Method} {c : Code} {H : Heap} {locs : List Loc} {cells slots : Nat} {Q : State → Prop} {pc : Nat} {ls : Array Slot} {rest : List Value}
theorem rg_topi {x y : Int32} (h : x = y) (k : W p l e Rm s m args below meth c H locs cells slots Q (F0 m pc ls (.int y :: rest))) : W p l e Rm s m args below meth c H locs cells slots Q (F0 m pc ls (.int x :: rest)) := h ▸ k
theorem rg_topl {x y : Int64} (h : x = y) (k : W p l e Rm s m args below meth c H locs cells slots Q (F0 m pc ls (.long y :: rest))) : W p l e Rm s m args below meth c H locs cells slots Q (F0 m pc ls (.long x :: rest)) := h ▸ k
end RGT
theorem rg_H_eq {E : rg_Env} {B n : Nat} {R : rg_Rfs} {M M' : rg_Mem} {s : State} {H : Heap} {locs : List Loc} (h : M = M') (hH : rg_H E B n R M s H locs) : rg_H E B n R M' s H locs := h ▸ hH
theorem rg_VS_app {M M1 : rg_Mem} {v n : Nat} {w : Int32} (hv : rg_isV v) (h : rg_VS M v n) (h6 : n < 6) (hw : rg_has M w) (e1 : M1.1 v 1 = nI (n + 1)) (e2 : M1.1 v 2 = M.1 v 2 + M.1 2 w.toNatClampNeg) (e3 : M1.1 v 3 = if M.1 v 3 = -1 then M.1 3 w.toNatClampNeg else M.1 v 3) (e4 : M1.1 v 4 = M.1 v 4 ||| M.1 4 w.toNatClampNeg) (e5 : M1.2 v 5 = M.2 v 5 ||| (1 : Int64) <<< (w.toInt64 &&& 63)) (e6 : ∀ j, M1.1 (v + 1) j = if j = n then w else M.1 (v + 1) j) (ho : rg_off M M1 v) :
    rg_VS M1 v (n + 1) ∧ M1.1 (v + 1) n = w ∧ (∀ k, k < n → M1.1 (v + 1) k = M.1 (v + 1) k) ∧ rg_off M M1 v := by
  obtain ⟨h1, h2, h3, h4, h5, h7, h8⟩ := h
  have hv17 := rg_isV_ge hv
  have g1 := (ho 1 (by omega) (by omega)).1
  have g2 := (ho 2 (by omega) (by omega)).1
  have g3 := (ho 3 (by omega) (by omega)).1
  have g4 := (ho 4 (by omega) (by omega)).1
  have k1 : M1.1 (v + 1) n = w := by rw [e6, if_pos rfl]
  have k2 : ∀ k, k < n → M1.1 (v + 1) k = M.1 (v + 1) k := fun k hk => by rw [e6, if_neg (by omega)]
  refine ⟨⟨e1, by omega, fun k hk => ?_, ?_, ?_, ?_, ?_⟩, k1, k2, ho⟩
  · unfold rg_has
    rw [g1]
    by_cases hk2 : k < n
    · rw [k2 k hk2]
      exact h3 k hk2
    · rw [show k = n by omega, k1]
      exact hw
  · rw [e2, g2, rg_sm, rg_sm_c k2, k1, h4]
  · rw [e3, g3, rg_fi, rg_fi_c k2, k1, h5]
  · rw [e4, g4, rg_og, rg_og_c k2, k1, h7]
  · rw [e5, rg_ws, rg_ws_c k2, k1, h8]
theorem rg_nIm {k : Nat} (h : k < 2 ^ 31) : ¬ nI k = -1 := by
  intro q
  have h1 := congrArg Int32.toInt q
  rw [nI_toInt h, show (-1 : Int32).toInt = -1 from rfl] at h1
  omega
theorem rg_tm {Mi M1 : rg_Mem} {v i : Nat} {f : Nat → Int32} {z : Int32} (h : ∀ k, k < i → Mi.1 (v + 1) k = f k) (h1 : M1.1 (v + 1) i = z) (h2 : ∀ k, k < i → M1.1 (v + 1) k = Mi.1 (v + 1) k) (hz : f i = z) : ∀ k, k < i + 1 → M1.1 (v + 1) k = f k := by
  intro k hk
  by_cases hk2 : k < i
  · rw [h2 k hk2, h k hk2]
  · rw [show k = i by omega, h1, hz]
theorem rg_lp_end {i n : Nat} (hi : i ≤ n) (hn : n ≤ 100000) (c : nI n ≤ nI i) : i = n := by
  rcases Nat.lt_or_ge i n with q | q
  · exact absurd c (nI_ge q (by omega))
  · omega
theorem rg_lp_lt {i n : Nat} (hi : i ≤ n) (hn : n ≤ 100000) (c : ¬ nI n ≤ nI i) : i < n := by
  rcases Nat.lt_or_ge i n with q | q
  · exact q
  · exact absurd (nI_le q (by omega)) c
