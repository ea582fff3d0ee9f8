theorem rp_had {M : rg_Mem} {a b : Nat} (h : rp_Inv M) (ha : a < 16) (hb : b < 16) : rg_b (¬ (M.2 5 a >>> ((nI b).toInt64 &&& 63)) &&& 1 = 0) = rg_b ((M.1 413 a >>> (nI b &&& 31)) &&& 1 = 1) := by
  obtain ⟨v, h1, h2, h3⟩ := rp_c h a ha
  have e : (¬ (M.2 5 a >>> ((nI b).toInt64 &&& 63)) &&& 1 = 0) ↔ ((M.1 413 a >>> (nI b &&& 31)) &&& 1 = 1) := by
    rw [lw_b1L, h2, h3]
    exact (rp_bit2 h1 hb).symm
  by_cases c : (M.1 413 a >>> (nI b &&& 31)) &&& 1 = 1
  · rw [← rg_b_t c, ← rg_b_t (e.mpr c)]
  · rw [← rg_b_f c, ← rg_b_f (fun q => c (e.mp q))]
theorem rg_J_at {M : rg_Mem} {o k j : Nat} {v : Int64} : (rg_J M o k v).2 o j = if j = k then v else M.2 o j := by
  show (if o = o ∧ j = k then v else M.2 o j) = _
  by_cases c : j = k
  · rw [if_pos ⟨rfl, c⟩, if_pos c]
  · rw [if_neg (fun q => c q.2), if_neg c]
def lw_da (M : rg_Mem) (a : Nat) (r : Nat → Int32) (i : Nat) : rg_Mem := (fun c k => if c = a ∧ k < i then r k else M.1 c k, M.2)
theorem lw_da_0 {M : rg_Mem} {a : Nat} {r : Nat → Int32} : M = lw_da M a r 0 := by
  refine Prod.ext ?_ rfl
  funext c k
  have h : ¬ (c = a ∧ k < 0) := by omega
  exact (if_neg h).symm
theorem lw_da_s {M : rg_Mem} {a : Nat} {r : Nat → Int32} {i : Nat} : rg_I (lw_da M a r i) a i (r i) = lw_da M a r (i + 1) := by
  refine Prod.ext ?_ rfl
  funext c k
  show (if c = a ∧ k = i then r i else if c = a ∧ k < i then r k else M.1 c k) = if c = a ∧ k < i + 1 then r k else M.1 c k
  by_cases h1 : c = a ∧ k = i
  · have h : c = a ∧ k < i + 1 := by omega
    rw [if_pos h1, if_pos h, h1.2]
  · rw [if_neg h1]
    by_cases h2 : c = a ∧ k < i
    · have h : c = a ∧ k < i + 1 := by omega
      rw [if_pos h2, if_pos h]
    · have h : ¬ (c = a ∧ k < i + 1) := by omega
      rw [if_neg h2, if_neg h]
theorem lw_da_c {M : rg_Mem} {a : Nat} {r : Nat → Int32} {i c : Nat} (h : c ≠ a) : (lw_da M a r i).1 c = M.1 c := by
  funext k
  exact if_neg (fun q => h q.1)
theorem lw_da_a {M : rg_Mem} {a : Nat} {r : Nat → Int32} {i k : Nat} (h : k < i) : (lw_da M a r i).1 a k = r k := if_pos ⟨rfl, h⟩
theorem rp_begun2 {M : rg_Mem} (h : rp_Inv M) (hc : 0 < rg_nl M) : ¬ M.1 6 0 ≤ 0 := by
  have ht := rg_CI_t (rp_ci h)
  rw [ht.1, lw_le0 (by omega)]
  have h2 := rp_nl h
  omega
theorem rp_tkw {M : rg_Mem} (h : rp_Inv M) {x y : Nat} (hy : y < 6) (hx : x < 10) : rg_tk M (-1) x y = -1 ∨ ∃ w, w < 16 ∧ rg_tk M (-1) x y = nI w := by
  rw [rp_wp h (by omega) hy]
  by_cases c : x < rg_nl M ∧ y < rg_sz M (17 + 2 * x)
  · rw [if_pos c]
    exact Or.inr (rp_VSw h (rp_vs h c.1) y c.2)
  · rw [if_neg c]; exact Or.inl rfl
theorem rp_tkc {M : rg_Mem} (h : rp_Inv M) {c : Nat} (hc : c < rg_nc M) {x y : Nat} (hy : y < 6) (hx : x < 10) : rg_tk M (nI c) x y = -1 ∨ ∃ w, w < 16 ∧ rg_tk M (nI c) x y = nI w := by
  rw [rp_tc h hc (by omega) hy]
  exact ((rp_x h c hc x (by omega) y hy).1 hx).2
theorem a_call (l : Launch) (E : rg_Env) (B : Nat) (M : rg_Mem) (a : Nat) (b : Nat) (hC : rg_CI M) (ha : rg_has M (nI a) ∧ a < 1000) (hb9 : rg_has M (nI b) ∧ b < 1000) (hab : a ≠ b) (hst : l.stackTraces = false) : Met l yX6_call (rg_w yX6_call cX6_call 3 (some (FieldType.boolean))) ({ frames := 7, cells := 3, slots := 18, locals := 111 } : Room) (va_Pc [.ref (B + 0), .int (nI a), .int (nI b)] (rg_Pre E B 422 rg_R0 M)) (rg_Wi E B 422 rg_R0 (fun r M1 => r = rg_b (¬ (M.2 5 a >>> ((nI b).toInt64 &&& 63)) &&& 1 = 0) ∧ M1 = rg_J (rg_J M 5 a (M.2 5 a ||| (1 : Int64) <<< ((nI b).toInt64 &&& 63))) 5 b ((rg_J M 5 a (M.2 5 a ||| (1 : Int64) <<< ((nI b).toInt64 &&& 63))).2 5 b ||| (1 : Int64) <<< ((nI a).toInt64 &&& 63)))) 3 18 (rg_A B) := by
  refine rg_RW (rg_noX (k_X6_call l hst E B M (nI a) (nI b) hC) (fun X q => ?_)) (fun r q => ?_)
  · rcases q with q | q
    · exact q.1 ⟨ha.1, hb9.1⟩
    · exact q.2.1 (fun z => hab ((nI_eq (by omega) (by omega)).mp z))
  · rw [nI_clamp (by omega), nI_clamp (by omega)] at *
    exact ⟨q.2, rfl⟩

theorem a_seat (l : Launch) (E : rg_Env) (B : Nat) (M : rg_Mem) (j : Nat) (y : Nat) (hC : rg_CI M) (hj : rg_nl M ≤ j ∧ j < rg_nt M) (hy : y ≤ 2) (hno : rg_no M = 0) (hst : l.stackTraces = false) : Met l yX6_seat (rg_w yX6_seat cX6_seat 4 (some (FieldType.int))) ({ frames := 7, cells := 2, slots := 12, locals := 113 } : Room) (va_Pc [.ref (B + 0), .int (nI j), .int (nI y)] (rg_Pre E B 422 rg_R0 M)) (rg_Wi E B 422 rg_R0 (fun r M1 => r = M.1 7 j ∧ M1 = rg_I M 7 j (nI y))) 2 12 (rg_A B) := by
  have hl := rg_CI_l hC
  have ht := rg_CI_t hC
  have h1 : ¬ nI j < M.1 6 4 ∧ nI j < M.1 6 0 := by
    rw [hl.1, ht.1, lw_nlt (by omega) (by omega), lw_nlt (by omega) (by omega)]
    omega
  have h2 : rg_in (nI y) 0 2 := ⟨nI_pos (by omega), (lw_nle (b := 2) (by omega) (by omega)).mpr hy⟩
  have h3 : M.1 0 10 ≤ 0 := by rw [(rg_CI_o hC).1, hno]; decide
  refine rg_RW (rg_noX (k_X6_seat l hst E B M (nI j) (nI y) hC) (fun X q => ?_)) (fun r q => ?_)
  · rcases q with q | q | q
    · exact q.1 h1
    · exact q.2.1 h2
    · exact q.2.2.1 h3
  · rw [nI_clamp (by omega)] at *
    exact ⟨q.2, rfl⟩

theorem a_give (l : Launch) (E : rg_Env) (B : Nat) (M : rg_Mem) (g : Nat) (j : Nat) (v : Nat) (hC : rg_CI M) (hg : g < 4) (hj : j < rg_nl M) (hv : v ≤ 10) (hst : l.stackTraces = false) : Met l yX6_give (rg_w yX6_give cX6_give 5 (some (FieldType.int))) ({ frames := 7, cells := 2, slots := 12, locals := 113 } : Room) (va_Pc [.ref (B + 0), .int (nI g), .int (nI j), .int (nI v)] (rg_Pre E B 422 rg_R0 M)) (rg_Wi E B 422 rg_R0 (fun r M1 => r = M.1 (13 + g) j ∧ M1 = rg_I M (13 + g) j (nI v))) 2 12 (rg_A B) := by
  have hl := rg_CI_l hC
  have h1 : (¬ nI g < 0 ∧ nI g < 4) ∧ rg_hl M (nI j) := ⟨⟨nI_pos (by omega), (lw_nlt (b := 4) (by omega) (by omega)).mpr hg⟩, rg_hl_k hl.1 hl.2 hj⟩
  have h2 : rg_in (nI v) 0 10 := ⟨nI_pos (by omega), (lw_nle (b := 10) (by omega) (by omega)).mpr hv⟩
  refine rg_RW (rg_noX (k_X6_give l hst E B M (nI g) (nI j) (nI v) hC) (fun X q => ?_)) (fun r q => ?_)
  · rcases q with q | q
    · exact q.1 h1
    · exact q.2.1 h2
  · rw [nI_clamp (by omega), nI_clamp (by omega)] at *
    exact ⟨q.2, rfl⟩

theorem a_hide (l : Launch) (E : rg_Env) (B : Nat) (M : rg_Mem) (j : Nat) (y : Nat) (hC : rg_CI M) (hj : j < rg_nl M) (hy : y = 0 ∨ y = 1) (hst : l.stackTraces = false) : Met l yX6_hide (rg_w yX6_hide cX6_hide 4 (some (FieldType.boolean))) ({ frames := 7, cells := 1, slots := 6, locals := 111 } : Room) (va_Pc [.ref (B + 0), .int (nI j), .int (nI y)] (rg_Pre E B 422 rg_R0 M)) (rg_Wi E B 422 rg_R0 (fun r M1 => r = M.1 10 j ∧ M1 = rg_I M 10 j (nI y))) 1 6 (rg_A B) := by
  have hl := rg_CI_l hC
  refine rg_RW (rg_noX (k_X6_hide l hst E B M (nI j) (nI y) hC (hy.imp (fun q => by rw [q]; rfl) (fun q => by rw [q]; rfl))) (fun X q => q.1 (rg_hl_k hl.1 hl.2 hj))) (fun r q => ?_)
  rw [nI_clamp (by omega)] at *
  exact ⟨q.2, rfl⟩

theorem a_copy (l : Launch) (E : rg_Env) (B : Nat) (M : rg_Mem) (t : Int32) (hC : rg_CI M) (htx : rg_tx M t) (hb9 : ¬ M.1 6 0 ≤ 0) (hnc : rg_nc M < 8) (hst : l.stackTraces = false) : Met l yX6_copy (rg_w yX6_copy cX6_copy 2 (some (FieldType.int))) ({ frames := 8, cells := 3, slots := 18, locals := 132 } : Room) (va_Pc [.ref (B + 0), .int (t)] (rg_Pre E B 422 rg_R0 M)) (rg_Wi E B 422 rg_R0 (fun r M1 => r = nI (rg_nc M) ∧ M1 = rg_I (rg_fil M (rg_nc M) t 36 0) 0 11 (nI (rg_nc M + 1)))) 3 18 (rg_A B) := by
  have hn := rg_CI_c hC
  have h2 : M.1 0 11 < 8 := by rw [hn.1]; exact (lw_nlt (b := 8) (by omega) (by omega)).mpr hnc
  refine rg_RW (rg_noX (k_X6_copy l hst E B M t hC) (fun X q => ?_)) (fun r q => ⟨q.2.trans hn.1, rfl⟩)
  rcases q with q | q
  · exact q.1 htx
  · exact q.2.1 ⟨hb9, h2⟩

theorem a_write (l : Launch) (E : rg_Env) (B : Nat) (M : rg_Mem) (c9 : Nat) (j : Nat) (pl : Nat) (wd : Nat) (hC : rg_CI M) (hc : c9 < rg_nc M) (hj : j < 36) (hp : pl < 6) (hw : rg_has M (nI wd)) (ht : ¬ rg_tw M (nI c9) (nI j) (nI pl) = -1) (hst : l.stackTraces = false) : Met l yX6_write (rg_w yX6_write cX6_write 6 (some (FieldType.int))) ({ frames := 7, cells := 3, slots := 18, locals := 111 } : Room) (va_Pc [.ref (B + 0), .int (nI c9), .int (nI j), .int (nI pl), .int (nI wd)] (rg_Pre E B 422 rg_R0 M)) (rg_Wi E B 422 rg_R0 (fun r M1 => r = rg_tw M (nI c9) (nI j) (nI pl) ∧ M1 = rg_I M (110 + 38 * c9 + j) pl (nI wd))) 3 18 (rg_A B) := by
  have hn := rg_CI_c hC
  have h1 : rg_cp M (nI c9) := ⟨nI_pos (by omega), by rw [hn.1]; exact (lw_nlt (by omega) (by omega)).mpr hc⟩
  refine rg_RW (rg_noX (k_X6_write l hst E B M (nI c9) (nI j) (nI pl) (nI wd) hC) (fun X q => q.1 ⟨⟨h1, hw⟩, ht⟩)) (fun r q => ?_)
  rw [nI_clamp (by omega), nI_clamp (by omega), nI_clamp (by omega)]
  exact ⟨q.2, rfl⟩
