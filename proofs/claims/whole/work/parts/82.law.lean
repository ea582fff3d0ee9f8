theorem rm_sI5 {L : Nat} (h : L ≤ 100000) : (nI L - 5).toInt = (L : Int) - 5 := by
  show (nI L - nI 5).toInt = _
  rw [Int32.toInt_sub, nI_toInt (by omega), nI_toInt (by omega)]
  exact Int.bmod_eq_of_le (by omega) (by omega)
theorem rg_WS_c {cy : Nat → ClassId} {B n : Nat} {R R' : rg_Rfs} {M M' : rg_Mem} (h : ∀ c, c < n → R' c = R c ∧ M'.1 c = M.1 c ∧ M'.2 c = M.2 c) : rg_WS cy B n R' M' = rg_WS cy B n R M := by
  unfold rg_WS
  apply List.map_congr_left
  intro c hc
  have hc := List.mem_range.mp hc
  rw [rg_ent_c (h c hc).2.1 (h c hc).2.2 (h c hc).1]
theorem rg_and31 (y : Int32) : ∃ t, t < 32 ∧ y &&& 31 = nI t := by
  have h1 : (y &&& 31).toBitVec.toNat < 32 := by
    rw [Int32.toBitVec_and, BitVec.toNat_and]
    exact Nat.lt_of_le_of_lt (Nat.and_le_right) (by decide)
  refine ⟨(y &&& 31).toBitVec.toNat, h1, ?_⟩
  apply Int32.toBitVec_inj.mp
  apply BitVec.eq_of_toNat_eq
  show _ = (BitVec.ofNat 32 _).toNat
  rw [BitVec.toNat_ofNat, Nat.mod_eq_of_lt (by omega)]
def rg_M0 : rg_Mem := (rg_i0, fun _ _ => 0)
set_option maxHeartbeats 4000000 in
set_option maxRecDepth 100000 in
theorem rg_loop {p : Program} {l : Launch} {e : Env} {s : State} {m : MethodId} {below : List Frame} {meth : Method} {c : Code} {E : rg_Env} {B b L : Nat} {xs : Nat → Int32} (hst : l.stackTraces = false) (C1 : rg_Cx p m c cL_law 7 s #[Value.ref b] "RengaHallLaw" E B) (hX : va_X b L xs s s.heap) (hbl : b < s.heap.size) (hB : s.heap.size = B) (hL : L ≤ 2560) (hr : meth.sig.returnType = ret) (hlocks : meth.locks = false) : ∀ (fu j : Nat), 5 * j ≤ L ∧ L < 5 * j + fu → ∀ (M : rg_Mem) (H : Heap) (locs : List Loc) (ls : Array Slot), rg_Inv M → rg_H E B 433 rg_R0 M s H locs → lv_has ls 7 [(0, .ref b), (1, .ref (B + 0)), (2, .ref (B + 412)), (3, .ref (B + 432)), (4, .int (nI (5 * j)))] → W p l e room_1 s m #[Value.ref b] below meth c H locs (433 + 6 * j) (5880 + 36 * j) (lw_Z below #[Value.ref b] s) (F0 m 23 ls []) := by
  have hx := C1.1.1
  have hb := C1.1.2.1
  have hbB : b < B := by omega
  intro fu
  induction fu with
  | zero =>
    intro j hm
    exact absurd hm (by omega)
  | succ fu ih =>
    intro j hm M H locs ls hI hH hl
    have KK : ∀ (M1 : rg_Mem) (H1 : Heap) (locs1 : List Loc) (ls1 : Array Slot), 5 * j + 5 ≤ L → rg_Inv M1 → rg_H E B 433 rg_R0 M1 s H1 locs1 → lv_has ls1 7 [(0, .ref b), (1, .ref (B + 0)), (2, .ref (B + 412)), (3, .ref (B + 432)), (4, .int (nI (5 * j)))] → W p l e room_1 s m #[Value.ref b] below meth c H1 locs1 (433 + 6 * j + 6) (5880 + 36 * j + 36) (lw_Z below #[Value.ref b] s) (F0 m 1539 ls1 []) := by
      intro M1 H1 locs1 ls1 h5 hI1 hH1 hl1
      refine lv_iinc (v := nI (5 * j + 5)) (lv' := [(4, .int (nI (5 * j + 5))), (0, .ref b), (1, .ref (B + 0)), (2, .ref (B + 412)), (3, .ref (B + 432))]) hx hb dL_law_1539 hl1 (k := 4) rfl (nI_add (5 * j) 5) (by decide) rfl (fun ls hl => ?_)
      refine lv_goto (tgt := 23) hx hb dL_law_1542 (by decide) ?_
      refine W.widen (k := 433 + 6 * (j + 1)) (n := 5880 + 36 * (j + 1)) (by omega) (by omega) ?_
      exact ih (j + 1) (by omega) M1 H1 locs1 ls hI1 hH1 (lv_sub hl [1, 2, 3, 4, 0] rfl)
    refine lv_iload hx hb dL_law_23 (lv_at hl 4 rfl) ?_
    refine lv_aload_n hx hb dL_law_25 rfl (lv_at hl 0 rfl) ?_
    refine rg_slen C1 hX hbl hbB hH dL_law_26 ?_
    refine lv_iconst (v := 5) hx hb dL_law_27 (by decide) ?_
    refine lv_isub hx hb dL_law_28 ?_
    refine lv_icmp_gt (tgt := 1545) hx hb dL_law_29 (by decide) (fun c_29 => ?_) (fun c_29 => ?_)
    · refine va_forget (fun q hq => by have h := hH.2.2.2 q hq; unfold rg_A at h; omega) ?_
      refine W.widen (k := 601024) (n := 7293033) (by omega) (by omega) ?_
      refine lv_iconst (v := 1) hx hb dL_law_1545 (by decide) ?_
      exact lw_ret hx hb hr hlocks dL_law_1546
    · have h5 : 5 * j + 5 ≤ L := by
        have e1 : (nI L - 5).toInt = (L : Int) - 5 := (rm_sI5 (by omega))
        have e2 : (nI (5 * j)).toInt = ((5 * j : Nat) : Int) := nI_toInt (by omega)
        have e3 : ¬ (nI L - 5).toInt < (nI (5 * j)).toInt := fun q => c_29 ((rg_lt _ _).mpr q)
        rw [e1, e2] at e3
        omega
      have KK := fun M1 H1 locs1 ls1 => KK M1 H1 locs1 ls1 h5
      refine lv_aload_n hx hb dL_law_32 rfl (lv_at hl 0 rfl) ?_
      refine lv_iload hx hb dL_law_33 (lv_at hl 4 rfl) ?_
      refine rg_sld C1 hX hbl hbB hH (j := 5 * j) ⟨by omega, hL⟩ dL_law_35 ?_
      refine lv_bipush (v := 31) hx hb dL_law_36 (by decide) ?_
      refine lv_iand hx hb dL_law_38 ?_
      obtain ⟨t, ht, htx⟩ := rg_and31 (xs (5 * j))
      by_cases h0 : t = 0
      · refine rg_topi (y := nI 0) (by rw [htx, h0]) ?_
        refine lv_tableIn (off := 113) (tgt := 152) hx hb dL_law_39 (by decide) (by decide) rfl (by decide) ?_
        exact law_word hst C1 hX hbl hbB hL (by omega) hI hH hl ⟨by omega, by omega⟩ KK
      by_cases h1 : t = 1
      · refine rg_topi (y := nI 1) (by rw [htx, h1]) ?_
        refine lv_tableIn (off := 193) (tgt := 232) hx hb dL_law_39 (by decide) (by decide) rfl (by decide) ?_
        exact law_call hst C1 hX hbl hbB hL (by omega) hI hH hl ⟨by omega, by omega⟩ KK
      by_cases h2 : t = 2
      · refine rg_topi (y := nI 2) (by rw [htx, h2]) ?_
        refine lv_tableIn (off := 268) (tgt := 307) hx hb dL_law_39 (by decide) (by decide) rfl (by decide) ?_
        exact law_poet hst C1 hX hbl hbB hL (by omega) hI hH hl ⟨by omega, by omega⟩ KK
      by_cases h3 : t = 3
      · refine rg_topi (y := nI 3) (by rw [htx, h3]) ?_
        refine lv_tableIn (off := 312) (tgt := 351) hx hb dL_law_39 (by decide) (by decide) rfl (by decide) ?_
        exact law_begin hst C1 hX hbl hbB hL (by omega) hI hH hl ⟨by omega, by omega⟩ KK
      by_cases h4 : t = 4
      · refine rg_topi (y := nI 4) (by rw [htx, h4]) ?_
        refine lv_tableIn (off := 384) (tgt := 423) hx hb dL_law_39 (by decide) (by decide) rfl (by decide) ?_
        exact law_seat hst C1 hX hbl hbB hL (by omega) hI hH hl ⟨by omega, by omega⟩ KK
      by_cases h5 : t = 5
      · refine rg_topi (y := nI 5) (by rw [htx, h5]) ?_
        refine lv_tableIn (off := 452) (tgt := 491) hx hb dL_law_39 (by decide) (by decide) rfl (by decide) ?_
        exact law_add hst C1 hX hbl hbB hL (by omega) hI hH hl ⟨by omega, by omega⟩ KK
      by_cases h6 : t = 6
      · refine rg_topi (y := nI 6) (by rw [htx, h6]) ?_
        refine lv_tableIn (off := 508) (tgt := 547) hx hb dL_law_39 (by decide) (by decide) rfl (by decide) ?_
        exact law_clear hst C1 hX hbl hbB hL (by omega) hI hH hl ⟨by omega, by omega⟩ KK
      by_cases h7 : t = 7
      · refine rg_topi (y := nI 7) (by rw [htx, h7]) ?_
        refine lv_tableIn (off := 521) (tgt := 560) hx hb dL_law_39 (by decide) (by decide) rfl (by decide) ?_
        exact law_offer hst C1 hX hbl hbB hL (by omega) hI hH hl ⟨by omega, by omega⟩ KK
      by_cases h8 : t = 8
      · refine rg_topi (y := nI 8) (by rw [htx, h8]) ?_
        refine lv_tableIn (off := 577) (tgt := 616) hx hb dL_law_39 (by decide) (by decide) rfl (by decide) ?_
        exact law_why hst C1 hX hbl hbB hL (by omega) hI hH hl ⟨by omega, by omega⟩ KK
      by_cases h9 : t = 9
      · refine rg_topi (y := nI 9) (by rw [htx, h9]) ?_
        refine lv_tableIn (off := 590) (tgt := 629) hx hb dL_law_39 (by decide) (by decide) rfl (by decide) ?_
        exact law_choose hst C1 hX hbl hbB hL (by omega) hI hH hl ⟨by omega, by omega⟩ KK
      by_cases h10 : t = 10
      · refine rg_topi (y := nI 10) (by rw [htx, h10]) ?_
        refine lv_tableIn (off := 646) (tgt := 685) hx hb dL_law_39 (by decide) (by decide) rfl (by decide) ?_
        exact law_mend hst C1 hX hbl hbB hL (by omega) hI hH hl ⟨by omega, by omega⟩ KK
      by_cases h11 : t = 11
      · refine rg_topi (y := nI 11) (by rw [htx, h11]) ?_
        refine lv_tableIn (off := 714) (tgt := 753) hx hb dL_law_39 (by decide) (by decide) rfl (by decide) ?_
        exact law_give hst C1 hX hbl hbB hL (by omega) hI hH hl ⟨by omega, by omega⟩ KK
      by_cases h12 : t = 12
      · refine rg_topi (y := nI 12) (by rw [htx, h12]) ?_
        refine lv_tableIn (off := 794) (tgt := 833) hx hb dL_law_39 (by decide) (by decide) rfl (by decide) ?_
        exact law_copy hst C1 hX hbl hbB hL (by omega) hI hH hl ⟨by omega, by omega⟩ KK
      by_cases h13 : t = 13
      · refine rg_topi (y := nI 13) (by rw [htx, h13]) ?_
        refine lv_tableIn (off := 850) (tgt := 889) hx hb dL_law_39 (by decide) (by decide) rfl (by decide) ?_
        exact law_write hst C1 hX hbl hbB hL (by omega) hI hH hl ⟨by omega, by omega⟩ KK
      by_cases h14 : t = 14
      · refine rg_topi (y := nI 14) (by rw [htx, h14]) ?_
        refine lv_tableIn (off := 942) (tgt := 981) hx hb dL_law_39 (by decide) (by decide) rfl (by decide) ?_
        exact law_hide hst C1 hX hbl hbB hL (by omega) hI hH hl ⟨by omega, by omega⟩ KK
      by_cases h15 : t = 15
      · refine rg_topi (y := nI 15) (by rw [htx, h15]) ?_
        refine lv_tableIn (off := 1033) (tgt := 1072) hx hb dL_law_39 (by decide) (by decide) rfl (by decide) ?_
        exact law_links hst C1 hX hbl hbB hL (by omega) hI hH hl ⟨by omega, by omega⟩ KK
      by_cases h16 : t = 16
      · refine rg_topi (y := nI 16) (by rw [htx, h16]) ?_
        refine lv_tableIn (off := 1046) (tgt := 1085) hx hb dL_law_39 (by decide) (by decide) rfl (by decide) ?_
        exact law_offers hst C1 hX hbl hbB hL (by omega) hI hH hl ⟨by omega, by omega⟩ KK
      by_cases h17 : t = 17
      · refine rg_topi (y := nI 17) (by rw [htx, h17]) ?_
        refine lv_tableIn (off := 1059) (tgt := 1098) hx hb dL_law_39 (by decide) (by decide) rfl (by decide) ?_
        exact law_ofLink hst C1 hX hbl hbB hL (by omega) hI hH hl ⟨by omega, by omega⟩ KK
      by_cases h18 : t = 18
      · refine rg_topi (y := nI 18) (by rw [htx, h18]) ?_
        refine lv_tableIn (off := 1127) (tgt := 1166) hx hb dL_law_39 (by decide) (by decide) rfl (by decide) ?_
        exact law_wordAt hst C1 hX hbl hbB hL (by omega) hI hH hl ⟨by omega, by omega⟩ KK
      by_cases h19 : t = 19
      · refine rg_topi (y := nI 19) (by rw [htx, h19]) ?_
        refine lv_tableIn (off := 1195) (tgt := 1234) hx hb dL_law_39 (by decide) (by decide) rfl (by decide) ?_
        exact law_faultAnew hst C1 hX hbl hbB hL (by omega) hI hH hl ⟨by omega, by omega⟩ KK
      by_cases h20 : t = 20
      · refine rg_topi (y := nI 20) (by rw [htx, h20]) ?_
        refine lv_tableIn (off := 1251) (tgt := 1290) hx hb dL_law_39 (by decide) (by decide) rfl (by decide) ?_
        exact law_chances hst C1 hX hbl hbB hL (by omega) hI hH hl ⟨by omega, by omega⟩ KK
      by_cases h21 : t = 21
      · refine rg_topi (y := nI 21) (by rw [htx, h21]) ?_
        refine lv_tableIn (off := 1307) (tgt := 1346) hx hb dL_law_39 (by decide) (by decide) rfl (by decide) ?_
        exact law_prize hst C1 hX hbl hbB hL (by omega) hI hH hl ⟨by omega, by omega⟩ KK
      by_cases h22 : t = 22
      · refine rg_topi (y := nI 22) (by rw [htx, h22]) ?_
        refine lv_tableIn (off := 1320) (tgt := 1359) hx hb dL_law_39 (by decide) (by decide) rfl (by decide) ?_
        exact law_far hst C1 hX hbl hbB hL (by omega) hI hH hl ⟨by omega, by omega⟩ KK
      by_cases h23 : t = 23
      · refine rg_topi (y := nI 23) (by rw [htx, h23]) ?_
        refine lv_tableIn (off := 1388) (tgt := 1427) hx hb dL_law_39 (by decide) (by decide) rfl (by decide) ?_
        exact law_source hst C1 hX hbl hbB hL (by omega) hI hH hl ⟨by omega, by omega⟩ KK
      by_cases h24 : t = 24
      · refine rg_topi (y := nI 24) (by rw [htx, h24]) ?_
        refine lv_tableIn (off := 1444) (tgt := 1483) hx hb dL_law_39 (by decide) (by decide) rfl (by decide) ?_
        exact law_hand hst C1 hX hbl hbB hL (by omega) hI hH hl ⟨by omega, by omega⟩ KK
      refine rg_topi (y := nI t) (by exact htx) ?_
      refine lv_tableOut (tgt := 1539) hx hb dL_law_39 (Or.inr (by rw [nI_toInt (by omega)]; omega)) (by decide) ?_
      refine W.widen (k := 433 + 6 * j + 6) (n := 5880 + 36 * j + 36) (by omega) (by omega) ?_
      exact KK M H locs ls hI hH hl
set_option maxHeartbeats 4000000 in
set_option maxRecDepth 100000 in
theorem whole_start {p : Program} {e : Env} {s : State} {m : MethodId} {below : List Frame} {meth : Method} {c : Code} (l : Launch) (hflags : l.flags = flags0) {b L : Nat} {xs : Nat → Int32} (hL : L ≤ 2560) (C0 : lw_At p s m meth c b L xs) : W p l e room_1 s m #[Value.ref b] below meth c s.heap [] 0 0 (lw_Z below #[Value.ref b] s) (entryFrame m ([Value.ref b] : List Value).toArray 7) := by
  obtain ⟨E, C1, hN⟩ := rg_known C0
  obtain ⟨-, -, hr, -, -, -, hX, hbl, hlocks, -⟩ := C0
  have hst : l.stackTraces = false := by
    unfold Launch.stackTraces
    rw [hflags]
    decide +kernel
  have hx := C1.1.1
  have hb := C1.1.2.1
  have hl := lv_entry ([.ref b]) (n := 7) (Nat.le_of_ble_eq_true rfl)
  rw [lg_entry_eq]
  generalize (lg_sl ([.ref b]) ++ List.replicate (7 - (lg_sl ([.ref b])).length) Slot.unset).toArray = ls at hl ⊢
  have hl : lv_has ls 7 [(0, .ref b)] := hl
  obtain ⟨B, hB⟩ : ∃ B, s.heap.size = B := ⟨_, rfl⟩
  rw [hB] at C1
  have hH : rg_H E B 0 (fun _ _ => none) (fun _ _ => 0, fun _ _ => 0) s s.heap [] := ⟨fun k q h => by simp [rg_WS] at h, va_S.rf⟩
  have hfr : rg_fr 0 (fun _ _ => none) (fun _ _ => 0, fun _ _ => 0) := fun c _ => ⟨rfl, rfl, rfl⟩
  have hz : s.heap.size = B + 0 := hB
  have hB0 : s.heap.size + 0 = B + 0 := hB
  generalize hH9 : s.heap = H at hH hz ⊢
  generalize hL9 : ([] : List Loc) = locs at hH ⊢
  have hX9 := hX
  refine rg_newO C1 hH hz hfr (n := 0) (ci := 6) (N := 13) tyX6 tyX6_ok rfl inT_X6 (by decide) rfl (by decide) tw_k_L_8 tw_o_X6 tw_n_X6 dL_law_0 (Nat.le_of_ble_eq_true rfl) (Nat.le_of_ble_eq_true rfl) (fun H hH => ?_)
  refine lv_dup hx hb dL_law_3 rfl ?_
  refine rg_zs (n := 1) (rg_lo hH (by omega)) (by omega) (fun hz => ?_)
  refine rg_callI C1 hN hH hz (n := 1) (v := 0) (z := 412) (o := 0) (As := []) (rest := [.ref (B + 0)]) (k_X6_init l E B _ _ hfr) (cwI 0 C1.1.2.2.2.2 (rg_gw tw_c_X6_init) rfl rfl rfl (C1.1.2.2.2.2 _ tw_n_X6) (C1.1.2.2.2.2 _ tw_m_L_83) (C1.1.2.2.2.2 _ tw_i_X6_init) rfl hd_X6_init.2 ⟨Nat.le_of_ble_eq_true rfl, Nat.le_of_ble_eq_true rfl⟩) rfl hl.1 rfl (Nat.le_of_ble_eq_true rfl) dL_law_4 ⟨Nat.le_of_ble_eq_true rfl, Nat.le_of_ble_eq_true rfl⟩ (fun R1 M1 H locs e1 hH => ?_)
  refine lv_astore_n (lv' := [(1, .ref (B + 0)), (0, .ref b)]) hx hb dL_law_7 rfl hl (by decide) rfl (fun ls hl => ?_)
  refine rg_zs (n := 412) (rg_lo hH (by omega)) (by omega) (fun hz => ?_)
  refine rg_newO C1 hH hz e1.2.2 (n := 412) (ci := 7) (N := 34) tyX7 tyX7_ok rfl inT_X7 (by decide) rfl (by decide) tw_k_L_84 tw_o_X7 tw_n_X7 dL_law_8 (Nat.le_of_ble_eq_true rfl) (Nat.le_of_ble_eq_true rfl) (fun H hH => ?_)
  refine lv_dup hx hb dL_law_11 rfl ?_
  refine rg_zs (n := 413) (rg_lo hH (by omega)) (by omega) (fun hz => ?_)
  refine rg_callI C1 hN hH hz (n := 413) (v := 412) (z := 20) (o := 412) (As := []) (rest := [.ref (B + 412)]) (k_X7_init l E B _ _ e1.2.2) (cwI 0 C1.1.2.2.2.2 (rg_gw tw_c_X7_init) rfl rfl rfl (C1.1.2.2.2.2 _ tw_n_X7) (C1.1.2.2.2.2 _ tw_m_L_86) (C1.1.2.2.2.2 _ tw_i_X7_init) rfl hd_X7_init.2 ⟨Nat.le_of_ble_eq_true rfl, Nat.le_of_ble_eq_true rfl⟩) rfl hl.1 rfl (Nat.le_of_ble_eq_true rfl) dL_law_12 ⟨Nat.le_of_ble_eq_true rfl, Nat.le_of_ble_eq_true rfl⟩ (fun R2 M2 H locs e2 hH => ?_)
  refine lv_astore_n (lv' := [(2, .ref (B + 412)), (1, .ref (B + 0)), (0, .ref b)]) hx hb dL_law_15 rfl hl (by decide) rfl (fun ls hl => ?_)
  refine lv_iconst (v := 1) hx hb dL_law_16 (by decide) ?_
  refine rg_zs (n := 432) (rg_lo hH (by omega)) (by omega) (fun hz => ?_)
  refine rg_newJ C1 hH hz e2.2.2 (n := 432) (N' := 1) rfl rfl (by decide) rfl (by omega) dL_law_17 (Nat.le_of_ble_eq_true rfl) (Nat.le_of_ble_eq_true rfl) (fun H hH => ?_)
  refine lv_astore_n (lv' := [(3, .ref (B + 432)), (2, .ref (B + 412)), (1, .ref (B + 0)), (0, .ref b)]) hx hb dL_law_19 rfl hl (by decide) rfl (fun ls hl => ?_)
  refine lv_iconst (v := 0) hx hb dL_law_20 (by decide) ?_
  refine rg_topi (y := nI 0) (by exact rfl) ?_
  refine lv_istore (lv' := [(4, .int (nI 0)), (3, .ref (B + 432)), (2, .ref (B + 412)), (1, .ref (B + 0)), (0, .ref b)]) hx hb dL_law_21 hl (by decide) rfl (fun ls hl => ?_)
  have hH2 : rg_H E B 433 rg_R0 rg_M0 s H locs := by
    refine ⟨?_, hH.2⟩
    have hw := rg_WS_c (cy := E.2) (B := B) (n := 433) (R := R2) (M := M2) (R' := rg_R0) (M' := rg_M0) (fun c hc => by
      by_cases q1 : c < 412
      · have f := e2.1 c q1
        have g := e1.2.1 c (by omega) (by omega)
        exact ⟨(f.1.trans g.1).symm, (f.2.1.trans g.2.1).symm, (f.2.2.trans g.2.2).symm⟩
      · by_cases q2 : c < 432
        · have g := e2.2.1 c (by omega) (by omega)
          exact ⟨g.1.symm, g.2.1.symm, g.2.2.symm⟩
        · have q3 : c = 432 := by omega
          subst q3
          have f := e2.2.2 432 (by omega)
          exact ⟨(f.1.trans (rg_R0_n (c := 432) (by decide) (by decide)).symm).symm, (f.2.1.trans (rg_i0_n (c := 432) (by decide)).symm).symm, f.2.2.symm⟩)
    rw [hw]
    exact hH.1
  refine W.widen (k := 433 + 6 * 0) (n := 5880 + 36 * 0) (Nat.le_of_ble_eq_true rfl) (Nat.le_of_ble_eq_true rfl) ?_
  exact rg_loop hst C1 hX hbl hB hL hr hlocks (L + 1) 0 (by omega) rg_M0 H locs ls rg_Inv_0 hH2 (lv_sub hl [4, 3, 2, 1, 0] rfl)
