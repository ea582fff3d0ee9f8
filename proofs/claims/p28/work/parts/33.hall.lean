set_option maxHeartbeats 4000000 in
set_option maxRecDepth 100000 in
/-- needRange -/
theorem k_X6_needRange (l : Launch) (hst : l.stackTraces = false) (E : rg_Env) (B : Nat) (M : rg_Mem) (x : Int32) (lo : Int32) (hi : Int32) : vx_Met l yX6_needRange (rg_w yX6_needRange cX6_needRange 4 none) ({ frames := 6, cells := 1, slots := 6, locals := 90 } : Room) (va_Pc [.ref (B + 0), .int (x), .int (lo), .int (hi)] (rg_Pre E B 422 rg_R0 M)) (rg_Rv E B 422 rg_R0 (M) (rg_in x lo hi)) (rg_X E B 422 rg_R0 M (fun X => ¬ (rg_in x lo hi) ∧ X = "java/lang/IllegalArgumentException")) 1 6 (rg_A B) := by
  refine rg_xofW (by decide +kernel) rfl (Nat.le_of_ble_eq_true rfl) ?_
  intro p e s m args below meth c ls hne C0 hH hl hr hlocks
  replace hl : lv_has ls 4 [(0, .ref (B + 0)), (1, .int (x)), (2, .int (lo)), (3, .int (hi))] := hl
  have hx := C0.1.1
  have hb := C0.1.2.1
  generalize hH9 : s.heap = H at hH ⊢
  generalize hL9 : ([] : List Loc) = locs at hH ⊢
  clear hH9 hL9
  refine lv_iload_n hx hb dX6_needRange_0 rfl (lv_at hl 1 rfl) ?_
  refine lv_iload_n hx hb dX6_needRange_1 rfl (lv_at hl 2 rfl) ?_
  refine lv_icmp_lt (tgt := 10) hx hb dX6_needRange_2 (by decide) (fun c_2 => ?_) (fun c_2 => ?_)
  · exact rg_throwW C0 hH hst (cls := "java/lang/IllegalArgumentException") (text := "an argument is out of its range") (names := ["java/lang/RuntimeException", "java/lang/Exception"]) hne hlocks (by decide +kernel) (by decide +kernel) tw_k_X6_91 tw_n_IllegalArgumentException (by decide) (by decide) rg_at_iae rg_ab_iae rg_ag_iae hl.1 dX6_needRange_10 dX6_needRange_13 dX6_needRange_14 dX6_needRange_17 dX6_needRange_20 (Nat.le_of_ble_eq_true rfl) (Nat.le_of_ble_eq_true rfl) (Nat.le_of_ble_eq_true rfl) (Nat.le_of_ble_eq_true rfl) (by first | exact ⟨fun q => q.1 c_2, rfl⟩ | exact ⟨fun q => c_7 q.2, rfl⟩) (Nat.le_of_ble_eq_true rfl) (Nat.le_of_ble_eq_true rfl)
  · refine lv_iload_n hx hb dX6_needRange_5 rfl (lv_at hl 1 rfl) ?_
    refine lv_iload_n hx hb dX6_needRange_6 rfl (lv_at hl 3 rfl) ?_
    refine lv_icmp_le (tgt := 21) hx hb dX6_needRange_7 (by decide) (fun c_7 => ?_) (fun c_7 => ?_)
    · refine vx_ret ?_
      refine W.widen (k := 1) (n := 6) (Nat.le_of_ble_eq_true rfl) (Nat.le_of_ble_eq_true rfl) ?_
      exact rg_retRv C0 hH hr hlocks rfl (by exact ⟨c_2, c_7⟩) dX6_needRange_21
    · exact rg_throwW C0 hH hst (cls := "java/lang/IllegalArgumentException") (text := "an argument is out of its range") (names := ["java/lang/RuntimeException", "java/lang/Exception"]) hne hlocks (by decide +kernel) (by decide +kernel) tw_k_X6_91 tw_n_IllegalArgumentException (by decide) (by decide) rg_at_iae rg_ab_iae rg_ag_iae hl.1 dX6_needRange_10 dX6_needRange_13 dX6_needRange_14 dX6_needRange_17 dX6_needRange_20 (Nat.le_of_ble_eq_true rfl) (Nat.le_of_ble_eq_true rfl) (Nat.le_of_ble_eq_true rfl) (Nat.le_of_ble_eq_true rfl) (by first | exact ⟨fun q => q.1 c_2, rfl⟩ | exact ⟨fun q => c_7 q.2, rfl⟩) (Nat.le_of_ble_eq_true rfl) (Nat.le_of_ble_eq_true rfl)

set_option maxHeartbeats 4000000 in
set_option maxRecDepth 100000 in
/-- needWord -/
theorem k_X6_needWord (l : Launch) (hst : l.stackTraces = false) (E : rg_Env) (B : Nat) (M : rg_Mem) (x : Int32) : vx_Met l yX6_needWord (rg_w yX6_needWord cX6_needWord 2 none) ({ frames := 6, cells := 1, slots := 6, locals := 90 } : Room) (va_Pc [.ref (B + 0), .int (x)] (rg_Pre E B 422 rg_R0 M)) (rg_Rv E B 422 rg_R0 (M) (rg_has M x)) (rg_X E B 422 rg_R0 M (fun X => ¬ (rg_has M x) ∧ X = "java/lang/IndexOutOfBoundsException")) 1 6 (rg_A B) := by
  refine rg_xofW (by decide +kernel) rfl (Nat.le_of_ble_eq_true rfl) ?_
  intro p e s m args below meth c ls hne C0 hH hl hr hlocks
  replace hl : lv_has ls 2 [(0, .ref (B + 0)), (1, .int (x))] := hl
  have hx := C0.1.1
  have hb := C0.1.2.1
  generalize hH9 : s.heap = H at hH ⊢
  generalize hL9 : ([] : List Loc) = locs at hH ⊢
  clear hH9 hL9
  refine lv_aload_n hx hb dX6_needWord_0 rfl (lv_at hl 0 rfl) ?_
  refine rg_gR C0 hH (o2 := 1) (ci := 6) (k := 0) (o := 0) rfl rfl inT_X6 (by decide) tw_f_X6_13 (by decide) rfl (by decide) rfl dX6_needWord_1 ?_
  refine lv_iload_n hx hb dX6_needWord_4 rfl (lv_at hl 1 rfl) ?_
  refine rg_callGi C0 hH (As := [.int (x)]) (rest := []) (o := 1) (ci := 4) (k_X4_has l E B M x) (rg_cw 1 C0.1.2.2.2.2 tw_m_X6_273 tw_i_X4_has tw_v_X4_has tw_n_X4 tw_c_X4_has rfl rfl hd_X4_has ⟨Nat.le_of_ble_eq_true rfl, Nat.le_of_ble_eq_true rfl⟩) rfl (by decide) rfl (by decide) rfl hl.1 rfl (Nat.le_of_ble_eq_true rfl) dX6_needWord_5 ⟨Nat.le_of_ble_eq_true rfl, Nat.le_of_ble_eq_true rfl⟩ (fun H locs hH => ?_)
  refine lv_if_ne (tgt := 22) hx hb dX6_needWord_8 (by decide) (fun c_8 => ?_) (fun c_8 => ?_)
  · refine vx_ret ?_
    refine W.widen (k := 1) (n := 6) (Nat.le_of_ble_eq_true rfl) (Nat.le_of_ble_eq_true rfl) ?_
    exact rg_retRv C0 hH hr hlocks rfl (by exact rg_b_ne.mp c_8) dX6_needWord_22
  · exact rg_throwW C0 hH hst (cls := "java/lang/IndexOutOfBoundsException") (text := "there is no such word") (names := ["java/lang/RuntimeException", "java/lang/Exception"]) hne hlocks (by decide +kernel) (by decide +kernel) tw_k_X6_126 tw_n_IndexOutOfBoundsException (by decide) (by decide) rg_at_ioob rg_ab_ioob rg_ag_ioob hl.1 dX6_needWord_11 dX6_needWord_14 dX6_needWord_15 dX6_needWord_18 dX6_needWord_21 (Nat.le_of_ble_eq_true rfl) (Nat.le_of_ble_eq_true rfl) (Nat.le_of_ble_eq_true rfl) (Nat.le_of_ble_eq_true rfl) (by exact ⟨rg_b_eq.mp c_8, rfl⟩) (Nat.le_of_ble_eq_true rfl) (Nat.le_of_ble_eq_true rfl)

set_option maxHeartbeats 4000000 in
set_option maxRecDepth 100000 in
/-- needPoet -/
theorem k_X6_needPoet (l : Launch) (hst : l.stackTraces = false) (E : rg_Env) (B : Nat) (M : rg_Mem) (x : Int32) : vx_Met l yX6_needPoet (rg_w yX6_needPoet cX6_needPoet 2 none) ({ frames := 6, cells := 1, slots := 6, locals := 90 } : Room) (va_Pc [.ref (B + 0), .int (x)] (rg_Pre E B 422 rg_R0 M)) (rg_Rv E B 422 rg_R0 (M) (rg_pt M x)) (rg_X E B 422 rg_R0 M (fun X => ¬ (rg_pt M x) ∧ X = "java/lang/IndexOutOfBoundsException")) 1 6 (rg_A B) := by
  refine rg_xofW (by decide +kernel) rfl (Nat.le_of_ble_eq_true rfl) ?_
  intro p e s m args below meth c ls hne C0 hH hl hr hlocks
  replace hl : lv_has ls 2 [(0, .ref (B + 0)), (1, .int (x))] := hl
  have hx := C0.1.1
  have hb := C0.1.2.1
  generalize hH9 : s.heap = H at hH ⊢
  generalize hL9 : ([] : List Loc) = locs at hH ⊢
  clear hH9 hL9
  refine lv_iload_n hx hb dX6_needPoet_0 rfl (lv_at hl 1 rfl) ?_
  refine lv_if_lt (tgt := 12) hx hb dX6_needPoet_1 (by decide) (fun c_1 => ?_) (fun c_1 => ?_)
  · exact rg_throwW C0 hH hst (cls := "java/lang/IndexOutOfBoundsException") (text := "there is no such poet") (names := ["java/lang/RuntimeException", "java/lang/Exception"]) hne hlocks (by decide +kernel) (by decide +kernel) tw_k_X6_126 tw_n_IndexOutOfBoundsException (by decide) (by decide) rg_at_ioob rg_ab_ioob rg_ag_ioob hl.1 dX6_needPoet_12 dX6_needPoet_15 dX6_needPoet_16 dX6_needPoet_19 dX6_needPoet_22 (Nat.le_of_ble_eq_true rfl) (Nat.le_of_ble_eq_true rfl) (Nat.le_of_ble_eq_true rfl) (Nat.le_of_ble_eq_true rfl) (by first | exact ⟨fun q => q.1 c_1, rfl⟩ | exact ⟨fun q => c_9 q.2, rfl⟩) (Nat.le_of_ble_eq_true rfl) (Nat.le_of_ble_eq_true rfl)
  · refine lv_iload_n hx hb dX6_needPoet_4 rfl (lv_at hl 1 rfl) ?_
    refine lv_aload_n hx hb dX6_needPoet_5 rfl (lv_at hl 0 rfl) ?_
    refine rg_gI C0 hH (ci := 6) (k := 9) (o := 0) rfl inT_X6 (by decide) tw_f_X6_100 (by decide) rfl (by decide) rfl dX6_needPoet_6 ?_
    refine lv_icmp_lt (tgt := 23) hx hb dX6_needPoet_9 (by decide) (fun c_9 => ?_) (fun c_9 => ?_)
    · refine vx_ret ?_
      refine W.widen (k := 1) (n := 6) (Nat.le_of_ble_eq_true rfl) (Nat.le_of_ble_eq_true rfl) ?_
      exact rg_retRv C0 hH hr hlocks rfl (by exact ⟨c_1, c_9⟩) dX6_needPoet_23
    · exact rg_throwW C0 hH hst (cls := "java/lang/IndexOutOfBoundsException") (text := "there is no such poet") (names := ["java/lang/RuntimeException", "java/lang/Exception"]) hne hlocks (by decide +kernel) (by decide +kernel) tw_k_X6_126 tw_n_IndexOutOfBoundsException (by decide) (by decide) rg_at_ioob rg_ab_ioob rg_ag_ioob hl.1 dX6_needPoet_12 dX6_needPoet_15 dX6_needPoet_16 dX6_needPoet_19 dX6_needPoet_22 (Nat.le_of_ble_eq_true rfl) (Nat.le_of_ble_eq_true rfl) (Nat.le_of_ble_eq_true rfl) (Nat.le_of_ble_eq_true rfl) (by first | exact ⟨fun q => q.1 c_1, rfl⟩ | exact ⟨fun q => c_9 q.2, rfl⟩) (Nat.le_of_ble_eq_true rfl) (Nat.le_of_ble_eq_true rfl)

set_option maxHeartbeats 4000000 in
set_option maxRecDepth 100000 in
/-- needLink -/
theorem k_X6_needLink (l : Launch) (hst : l.stackTraces = false) (E : rg_Env) (B : Nat) (M : rg_Mem) (x : Int32) : vx_Met l yX6_needLink (rg_w yX6_needLink cX6_needLink 2 none) ({ frames := 6, cells := 1, slots := 6, locals := 90 } : Room) (va_Pc [.ref (B + 0), .int (x)] (rg_Pre E B 422 rg_R0 M)) (rg_Rv E B 422 rg_R0 (M) (rg_hl M x)) (rg_X E B 422 rg_R0 M (fun X => ¬ (rg_hl M x) ∧ X = "java/lang/IndexOutOfBoundsException")) 1 6 (rg_A B) := by
  refine rg_xofW (by decide +kernel) rfl (Nat.le_of_ble_eq_true rfl) ?_
  intro p e s m args below meth c ls hne C0 hH hl hr hlocks
  replace hl : lv_has ls 2 [(0, .ref (B + 0)), (1, .int (x))] := hl
  have hx := C0.1.1
  have hb := C0.1.2.1
  generalize hH9 : s.heap = H at hH ⊢
  generalize hL9 : ([] : List Loc) = locs at hH ⊢
  clear hH9 hL9
  refine lv_aload_n hx hb dX6_needLink_0 rfl (lv_at hl 0 rfl) ?_
  refine rg_gR C0 hH (o2 := 6) (ci := 6) (k := 1) (o := 0) rfl rfl inT_X6 (by decide) tw_f_X6_19 (by decide) rfl (by decide) rfl dX6_needLink_1 ?_
  refine lv_iload_n hx hb dX6_needLink_4 rfl (lv_at hl 1 rfl) ?_
  refine rg_callGi C0 hH (As := [.int (x)]) (rest := []) (o := 6) (ci := 1) (k_X1_has l E B M x) (rg_cw 1 C0.1.2.2.2.2 tw_m_X6_281 tw_i_X1_has tw_v_X1_has tw_n_X1 tw_c_X1_has rfl rfl hd_X1_has ⟨Nat.le_of_ble_eq_true rfl, Nat.le_of_ble_eq_true rfl⟩) rfl (by decide) rfl (by decide) rfl hl.1 rfl (Nat.le_of_ble_eq_true rfl) dX6_needLink_5 ⟨Nat.le_of_ble_eq_true rfl, Nat.le_of_ble_eq_true rfl⟩ (fun H locs hH => ?_)
  refine lv_if_ne (tgt := 22) hx hb dX6_needLink_8 (by decide) (fun c_8 => ?_) (fun c_8 => ?_)
  · refine vx_ret ?_
    refine W.widen (k := 1) (n := 6) (Nat.le_of_ble_eq_true rfl) (Nat.le_of_ble_eq_true rfl) ?_
    exact rg_retRv C0 hH hr hlocks rfl (by exact rg_b_ne.mp c_8) dX6_needLink_22
  · exact rg_throwW C0 hH hst (cls := "java/lang/IndexOutOfBoundsException") (text := "there is no such link") (names := ["java/lang/RuntimeException", "java/lang/Exception"]) hne hlocks (by decide +kernel) (by decide +kernel) tw_k_X6_126 tw_n_IndexOutOfBoundsException (by decide) (by decide) rg_at_ioob rg_ab_ioob rg_ag_ioob hl.1 dX6_needLink_11 dX6_needLink_14 dX6_needLink_15 dX6_needLink_18 dX6_needLink_21 (Nat.le_of_ble_eq_true rfl) (Nat.le_of_ble_eq_true rfl) (Nat.le_of_ble_eq_true rfl) (Nat.le_of_ble_eq_true rfl) (by exact ⟨rg_b_eq.mp c_8, rfl⟩) (Nat.le_of_ble_eq_true rfl) (Nat.le_of_ble_eq_true rfl)

set_option maxHeartbeats 4000000 in
set_option maxRecDepth 100000 in
/-- needPlace -/
theorem k_X6_needPlace (l : Launch) (hst : l.stackTraces = false) (E : rg_Env) (B : Nat) (M : rg_Mem) (x : Int32) (y : Int32) (hI : rg_CI M) : vx_Met l yX6_needPlace (rg_w yX6_needPlace cX6_needPlace 3 none) ({ frames := 6, cells := 1, slots := 6, locals := 90 } : Room) (va_Pc [.ref (B + 0), .int (x), .int (y)] (rg_Pre E B 422 rg_R0 M)) (rg_Rv E B 422 rg_R0 (M) (¬ rg_wp M x y = -1)) (rg_X E B 422 rg_R0 M (fun X => ¬ (¬ rg_wp M x y = -1) ∧ X = "java/lang/IndexOutOfBoundsException")) 1 6 (rg_A B) := by
  refine rg_xofW (by decide +kernel) rfl (Nat.le_of_ble_eq_true rfl) ?_
  intro p e s m args below meth c ls hne C0 hH hl hr hlocks
  replace hl : lv_has ls 3 [(0, .ref (B + 0)), (1, .int (x)), (2, .int (y))] := hl
  have hx := C0.1.1
  have hb := C0.1.2.1
  generalize hH9 : s.heap = H at hH ⊢
  generalize hL9 : ([] : List Loc) = locs at hH ⊢
  clear hH9 hL9
  refine lv_aload_n hx hb dX6_needPlace_0 rfl (lv_at hl 0 rfl) ?_
  refine rg_gR C0 hH (o2 := 6) (ci := 6) (k := 1) (o := 0) rfl rfl inT_X6 (by decide) tw_f_X6_19 (by decide) rfl (by decide) rfl dX6_needPlace_1 ?_
  refine lv_iload_n hx hb dX6_needPlace_4 rfl (lv_at hl 1 rfl) ?_
  refine lv_iload_n hx hb dX6_needPlace_5 rfl (lv_at hl 2 rfl) ?_
  refine rg_callGi C0 hH (As := [.int (x), .int (y)]) (rest := []) (o := 6) (ci := 1) (k_X1_wordOrNone l E B M x y (by exact rg_CI_mn hI)) (rg_cw 2 C0.1.2.2.2.2 tw_m_X6_242 tw_i_X1_wordOrNone tw_v_X1_wordOrNone tw_n_X1 tw_c_X1_wordOrNone rfl rfl hd_X1_wordOrNone ⟨Nat.le_of_ble_eq_true rfl, Nat.le_of_ble_eq_true rfl⟩) rfl (by decide) rfl (by decide) rfl hl.1 rfl (Nat.le_of_ble_eq_true rfl) dX6_needPlace_6 ⟨Nat.le_of_ble_eq_true rfl, Nat.le_of_ble_eq_true rfl⟩ (fun H locs hH => ?_)
  refine lv_iconst (v := (-1)) hx hb dX6_needPlace_9 (by decide) ?_
  refine lv_icmp_ne (tgt := 24) hx hb dX6_needPlace_10 (by decide) (fun c_10 => ?_) (fun c_10 => ?_)
  · refine vx_ret ?_
    refine W.widen (k := 1) (n := 6) (Nat.le_of_ble_eq_true rfl) (Nat.le_of_ble_eq_true rfl) ?_
    exact rg_retRv C0 hH hr hlocks rfl (by exact c_10) dX6_needPlace_24
  · exact rg_throwW C0 hH hst (cls := "java/lang/IndexOutOfBoundsException") (text := "the link has no such place") (names := ["java/lang/RuntimeException", "java/lang/Exception"]) hne hlocks (by decide +kernel) (by decide +kernel) tw_k_X6_126 tw_n_IndexOutOfBoundsException (by decide) (by decide) rg_at_ioob rg_ab_ioob rg_ag_ioob hl.1 dX6_needPlace_13 dX6_needPlace_16 dX6_needPlace_17 dX6_needPlace_20 dX6_needPlace_23 (Nat.le_of_ble_eq_true rfl) (Nat.le_of_ble_eq_true rfl) (Nat.le_of_ble_eq_true rfl) (Nat.le_of_ble_eq_true rfl) (by exact ⟨fun q => q c_10, rfl⟩) (Nat.le_of_ble_eq_true rfl) (Nat.le_of_ble_eq_true rfl)

set_option maxHeartbeats 4000000 in
set_option maxRecDepth 100000 in
/-- needCopy -/
theorem k_X6_needCopy (l : Launch) (hst : l.stackTraces = false) (E : rg_Env) (B : Nat) (M : rg_Mem) (x : Int32) : vx_Met l yX6_needCopy (rg_w yX6_needCopy cX6_needCopy 2 none) ({ frames := 6, cells := 1, slots := 6, locals := 90 } : Room) (va_Pc [.ref (B + 0), .int (x)] (rg_Pre E B 422 rg_R0 M)) (rg_Rv E B 422 rg_R0 (M) (rg_cp M x)) (rg_X E B 422 rg_R0 M (fun X => ¬ (rg_cp M x) ∧ X = "java/lang/IndexOutOfBoundsException")) 1 6 (rg_A B) := by
  refine rg_xofW (by decide +kernel) rfl (Nat.le_of_ble_eq_true rfl) ?_
  intro p e s m args below meth c ls hne C0 hH hl hr hlocks
  replace hl : lv_has ls 2 [(0, .ref (B + 0)), (1, .int (x))] := hl
  have hx := C0.1.1
  have hb := C0.1.2.1
  generalize hH9 : s.heap = H at hH ⊢
  generalize hL9 : ([] : List Loc) = locs at hH ⊢
  clear hH9 hL9
  refine lv_iload_n hx hb dX6_needCopy_0 rfl (lv_at hl 1 rfl) ?_
  refine lv_if_lt (tgt := 12) hx hb dX6_needCopy_1 (by decide) (fun c_1 => ?_) (fun c_1 => ?_)
  · exact rg_throwW C0 hH hst (cls := "java/lang/IndexOutOfBoundsException") (text := "there is no such copy") (names := ["java/lang/RuntimeException", "java/lang/Exception"]) hne hlocks (by decide +kernel) (by decide +kernel) tw_k_X6_126 tw_n_IndexOutOfBoundsException (by decide) (by decide) rg_at_ioob rg_ab_ioob rg_ag_ioob hl.1 dX6_needCopy_12 dX6_needCopy_15 dX6_needCopy_16 dX6_needCopy_19 dX6_needCopy_22 (Nat.le_of_ble_eq_true rfl) (Nat.le_of_ble_eq_true rfl) (Nat.le_of_ble_eq_true rfl) (Nat.le_of_ble_eq_true rfl) (by first | exact ⟨fun q => q.1 c_1, rfl⟩ | exact ⟨fun q => c_9 q.2, rfl⟩) (Nat.le_of_ble_eq_true rfl) (Nat.le_of_ble_eq_true rfl)
  · refine lv_iload_n hx hb dX6_needCopy_4 rfl (lv_at hl 1 rfl) ?_
    refine lv_aload_n hx hb dX6_needCopy_5 rfl (lv_at hl 0 rfl) ?_
    refine rg_gI C0 hH (ci := 6) (k := 11) (o := 0) rfl inT_X6 (by decide) tw_f_X6_120 (by decide) rfl (by decide) rfl dX6_needCopy_6 ?_
    refine lv_icmp_lt (tgt := 23) hx hb dX6_needCopy_9 (by decide) (fun c_9 => ?_) (fun c_9 => ?_)
    · refine vx_ret ?_
      refine W.widen (k := 1) (n := 6) (Nat.le_of_ble_eq_true rfl) (Nat.le_of_ble_eq_true rfl) ?_
      exact rg_retRv C0 hH hr hlocks rfl (by exact ⟨c_1, c_9⟩) dX6_needCopy_23
    · exact rg_throwW C0 hH hst (cls := "java/lang/IndexOutOfBoundsException") (text := "there is no such copy") (names := ["java/lang/RuntimeException", "java/lang/Exception"]) hne hlocks (by decide +kernel) (by decide +kernel) tw_k_X6_126 tw_n_IndexOutOfBoundsException (by decide) (by decide) rg_at_ioob rg_ab_ioob rg_ag_ioob hl.1 dX6_needCopy_12 dX6_needCopy_15 dX6_needCopy_16 dX6_needCopy_19 dX6_needCopy_22 (Nat.le_of_ble_eq_true rfl) (Nat.le_of_ble_eq_true rfl) (Nat.le_of_ble_eq_true rfl) (Nat.le_of_ble_eq_true rfl) (by first | exact ⟨fun q => q.1 c_1, rfl⟩ | exact ⟨fun q => c_9 q.2, rfl⟩) (Nat.le_of_ble_eq_true rfl) (Nat.le_of_ble_eq_true rfl)

set_option maxHeartbeats 4000000 in
set_option maxRecDepth 100000 in
/-- needText -/
theorem k_X6_needText (l : Launch) (hst : l.stackTraces = false) (E : rg_Env) (B : Nat) (M : rg_Mem) (x : Int32) : vx_Met l yX6_needText (rg_w yX6_needText cX6_needText 2 none) ({ frames := 7, cells := 1, slots := 6, locals := 111 } : Room) (va_Pc [.ref (B + 0), .int (x)] (rg_Pre E B 422 rg_R0 M)) (rg_Rv E B 422 rg_R0 (M) (rg_tx M x)) (rg_X E B 422 rg_R0 M (fun X => ¬ (rg_tx M x) ∧ X = "java/lang/IndexOutOfBoundsException")) 1 6 (rg_A B) := by
  refine rg_xofW (by decide +kernel) rfl (Nat.le_of_ble_eq_true rfl) ?_
  intro p e s m args below meth c ls hne C0 hH hl hr hlocks
  replace hl : lv_has ls 2 [(0, .ref (B + 0)), (1, .int (x))] := hl
  have hx := C0.1.1
  have hb := C0.1.2.1
  generalize hH9 : s.heap = H at hH ⊢
  generalize hL9 : ([] : List Loc) = locs at hH ⊢
  clear hH9 hL9
  refine lv_iload_n hx hb dX6_needText_0 rfl (lv_at hl 1 rfl) ?_
  refine lv_iconst (v := (-1)) hx hb dX6_needText_1 (by decide) ?_
  refine lv_icmp_eq (tgt := 10) hx hb dX6_needText_2 (by decide) (fun c_2 => ?_) (fun c_2 => ?_)
  · refine vx_ret ?_
    refine W.widen (k := 1) (n := 6) (Nat.le_of_ble_eq_true rfl) (Nat.le_of_ble_eq_true rfl) ?_
    exact rg_retRv C0 hH hr hlocks rfl (by exact Or.inl c_2) dX6_needText_10
  · refine lv_aload_n hx hb dX6_needText_5 rfl (lv_at hl 0 rfl) ?_
    refine lv_iload_n hx hb dX6_needText_6 rfl (lv_at hl 1 rfl) ?_
    refine rg_xcallRv C0 hH (As := [.int (x)]) (rest := []) (o := 0) (ci := 6) hne hlocks (fun X hX => by exact ⟨fun q => q.elim c_2 hX.1, hX.2⟩) (k_X6_needCopy l hst E B M x) (rg_cw 1 C0.1.2.2.2.2 tw_m_X6_213 tw_i_X6_needCopy tw_v_X6_needCopy tw_n_X6 tw_c_X6_needCopy rfl rfl hd_X6_needCopy ⟨Nat.le_of_ble_eq_true rfl, Nat.le_of_ble_eq_true rfl⟩) rfl (by decide) rfl (by decide) rfl hl.1 rfl (Nat.le_of_ble_eq_true rfl) dX6_needText_7 ⟨Nat.le_of_ble_eq_true rfl, Nat.le_of_ble_eq_true rfl⟩ ⟨Nat.le_of_ble_eq_true rfl, Nat.le_of_ble_eq_true rfl⟩ (fun H locs e_7 hH => ?_)
    refine vx_ret ?_
    refine W.widen (k := 1) (n := 6) (Nat.le_of_ble_eq_true rfl) (Nat.le_of_ble_eq_true rfl) ?_
    exact rg_retRv C0 hH hr hlocks rfl (by exact Or.inr e_7) dX6_needText_10

set_option maxHeartbeats 4000000 in
set_option maxRecDepth 100000 in
/-- needPoem -/
theorem k_X6_needPoem (l : Launch) (hst : l.stackTraces = false) (E : rg_Env) (B : Nat) (M : rg_Mem) : vx_Met l yX6_needPoem (rg_w yX6_needPoem cX6_needPoem 1 none) ({ frames := 6, cells := 1, slots := 6, locals := 90 } : Room) (va_Pc [.ref (B + 0)] (rg_Pre E B 422 rg_R0 M)) (rg_Rv E B 422 rg_R0 (M) (¬ M.1 6 0 ≤ 0)) (rg_X E B 422 rg_R0 M (fun X => ¬ (¬ M.1 6 0 ≤ 0) ∧ X = "java/lang/IllegalStateException")) 1 6 (rg_A B) := by
  refine rg_xofW (by decide +kernel) rfl (Nat.le_of_ble_eq_true rfl) ?_
  intro p e s m args below meth c ls hne C0 hH hl hr hlocks
  replace hl : lv_has ls 1 [(0, .ref (B + 0))] := hl
  have hx := C0.1.1
  have hb := C0.1.2.1
  generalize hH9 : s.heap = H at hH ⊢
  generalize hL9 : ([] : List Loc) = locs at hH ⊢
  clear hH9 hL9
  refine lv_aload_n hx hb dX6_needPoem_0 rfl (lv_at hl 0 rfl) ?_
  refine rg_gR C0 hH (o2 := 6) (ci := 6) (k := 1) (o := 0) rfl rfl inT_X6 (by decide) tw_f_X6_19 (by decide) rfl (by decide) rfl dX6_needPoem_1 ?_
  refine rg_callGi C0 hH (As := []) (rest := []) (o := 6) (ci := 1) (k_X1_isBegun l E B M) (rg_cw 0 C0.1.2.2.2.2 tw_m_X6_288 tw_i_X1_isBegun tw_v_X1_isBegun tw_n_X1 tw_c_X1_isBegun rfl rfl hd_X1_isBegun ⟨Nat.le_of_ble_eq_true rfl, Nat.le_of_ble_eq_true rfl⟩) rfl (by decide) rfl (by decide) rfl hl.1 rfl (Nat.le_of_ble_eq_true rfl) dX6_needPoem_4 ⟨Nat.le_of_ble_eq_true rfl, Nat.le_of_ble_eq_true rfl⟩ (fun H locs hH => ?_)
  refine lv_if_ne (tgt := 21) hx hb dX6_needPoem_7 (by decide) (fun c_7 => ?_) (fun c_7 => ?_)
  · refine vx_ret ?_
    refine W.widen (k := 1) (n := 6) (Nat.le_of_ble_eq_true rfl) (Nat.le_of_ble_eq_true rfl) ?_
    exact rg_retRv C0 hH hr hlocks rfl (by exact rg_b_ne.mp c_7) dX6_needPoem_21
  · exact rg_throwW C0 hH hst (cls := "java/lang/IllegalStateException") (text := "there is no poem") (names := ["java/lang/RuntimeException", "java/lang/Exception"]) hne hlocks (by decide +kernel) (by decide +kernel) tw_k_X6_76 tw_n_IllegalStateException (by decide) (by decide) rg_at_ise rg_ab_ise rg_ag_ise hl.1 dX6_needPoem_10 dX6_needPoem_13 dX6_needPoem_14 dX6_needPoem_17 dX6_needPoem_20 (Nat.le_of_ble_eq_true rfl) (Nat.le_of_ble_eq_true rfl) (Nat.le_of_ble_eq_true rfl) (Nat.le_of_ble_eq_true rfl) (by exact ⟨rg_b_eq.mp c_7, rfl⟩) (Nat.le_of_ble_eq_true rfl) (Nat.le_of_ble_eq_true rfl)

set_option maxHeartbeats 4000000 in
set_option maxRecDepth 100000 in
/-- needNoOffers -/
theorem k_X6_needNoOffers (l : Launch) (hst : l.stackTraces = false) (E : rg_Env) (B : Nat) (M : rg_Mem) : vx_Met l yX6_needNoOffers (rg_w yX6_needNoOffers cX6_needNoOffers 1 none) ({ frames := 6, cells := 1, slots := 6, locals := 90 } : Room) (va_Pc [.ref (B + 0)] (rg_Pre E B 422 rg_R0 M)) (rg_Rv E B 422 rg_R0 (M) (M.1 0 10 ≤ 0)) (rg_X E B 422 rg_R0 M (fun X => ¬ (M.1 0 10 ≤ 0) ∧ X = "java/lang/IllegalStateException")) 1 6 (rg_A B) := by
  refine rg_xofW (by decide +kernel) rfl (Nat.le_of_ble_eq_true rfl) ?_
  intro p e s m args below meth c ls hne C0 hH hl hr hlocks
  replace hl : lv_has ls 1 [(0, .ref (B + 0))] := hl
  have hx := C0.1.1
  have hb := C0.1.2.1
  generalize hH9 : s.heap = H at hH ⊢
  generalize hL9 : ([] : List Loc) = locs at hH ⊢
  clear hH9 hL9
  refine lv_aload_n hx hb dX6_needNoOffers_0 rfl (lv_at hl 0 rfl) ?_
  refine rg_gI C0 hH (ci := 6) (k := 10) (o := 0) rfl inT_X6 (by decide) tw_f_X6_117 (by decide) rfl (by decide) rfl dX6_needNoOffers_1 ?_
  refine lv_if_le (tgt := 18) hx hb dX6_needNoOffers_4 (by decide) (fun c_4 => ?_) (fun c_4 => ?_)
  · refine vx_ret ?_
    refine W.widen (k := 1) (n := 6) (Nat.le_of_ble_eq_true rfl) (Nat.le_of_ble_eq_true rfl) ?_
    exact rg_retRv C0 hH hr hlocks rfl (by exact c_4) dX6_needNoOffers_18
  · exact rg_throwW C0 hH hst (cls := "java/lang/IllegalStateException") (text := "offers are kept") (names := ["java/lang/RuntimeException", "java/lang/Exception"]) hne hlocks (by decide +kernel) (by decide +kernel) tw_k_X6_76 tw_n_IllegalStateException (by decide) (by decide) rg_at_ise rg_ab_ise rg_ag_ise hl.1 dX6_needNoOffers_7 dX6_needNoOffers_10 dX6_needNoOffers_11 dX6_needNoOffers_14 dX6_needNoOffers_17 (Nat.le_of_ble_eq_true rfl) (Nat.le_of_ble_eq_true rfl) (Nat.le_of_ble_eq_true rfl) (Nat.le_of_ble_eq_true rfl) (by exact ⟨c_4, rfl⟩) (Nat.le_of_ble_eq_true rfl) (Nat.le_of_ble_eq_true rfl)

set_option maxHeartbeats 4000000 in
set_option maxRecDepth 100000 in
/-- word -/
theorem k_X6_word (l : Launch) (hst : l.stackTraces = false) (E : rg_Env) (B : Nat) (M : rg_Mem) (a : Int32) (b : Int32) (d : Int32) (hI : rg_CI M) : vx_Met l yX6_word (rg_w yX6_word cX6_word 4 (some (FieldType.int))) ({ frames := 7, cells := 4, slots := 24, locals := 113 } : Room) (va_Pc [.ref (B + 0), .int (a), .int (b), .int (d)] (rg_Pre E B 422 rg_R0 M)) (rg_Ri E B 422 rg_R0 (rg_I (rg_I (rg_I (rg_I M 2 (rg_nw M) a) 3 (rg_nw M) b) 4 (rg_nw M) d) 1 4 (nI (rg_nw M + 1))) (fun r => ((rg_in a 1 12 ∧ rg_in b (-1) 3 ∧ rg_in d 0 1023) ∧ ¬ 40 ≤ M.1 1 4) ∧ r = M.1 1 4)) (rg_X E B 422 rg_R0 M (fun X => (¬ (rg_in a 1 12 ∧ rg_in b (-1) 3 ∧ rg_in d 0 1023) ∧ X = "java/lang/IllegalArgumentException") ∨ ((rg_in a 1 12 ∧ rg_in b (-1) 3 ∧ rg_in d 0 1023) ∧ ¬ (¬ 40 ≤ M.1 1 4) ∧ X = "java/lang/IllegalStateException"))) 4 24 (rg_A B) := by
  refine rg_xofW (by decide +kernel) rfl (Nat.le_of_ble_eq_true rfl) ?_
  intro p e s m args below meth c ls hne C0 hH hl hr hlocks
  replace hl : lv_has ls 4 [(0, .ref (B + 0)), (1, .int (a)), (2, .int (b)), (3, .int (d))] := hl
  have hx := C0.1.1
  have hb := C0.1.2.1
  generalize hH9 : s.heap = H at hH ⊢
  generalize hL9 : ([] : List Loc) = locs at hH ⊢
  clear hH9 hL9
  refine lv_aload_n hx hb dX6_word_0 rfl (lv_at hl 0 rfl) ?_
  refine lv_iload_n hx hb dX6_word_1 rfl (lv_at hl 1 rfl) ?_
  refine lv_iconst (v := 1) hx hb dX6_word_2 (by decide) ?_
  refine lv_bipush (v := 12) hx hb dX6_word_3 (by decide) ?_
  refine rg_xcallRv C0 hH (As := [.int (a), .int (1), .int (12)]) (rest := []) (o := 0) (ci := 6) hne hlocks (fun X hX => by exact Or.inl ⟨fun q => hX.1 q.1, hX.2⟩) (k_X6_needRange l hst E B M a 1 12) (rg_cw 3 C0.1.2.2.2.2 tw_m_X6_68 tw_i_X6_needRange tw_v_X6_needRange tw_n_X6 tw_c_X6_needRange rfl rfl hd_X6_needRange ⟨Nat.le_of_ble_eq_true rfl, Nat.le_of_ble_eq_true rfl⟩) rfl (by decide) rfl (by decide) rfl hl.1 rfl (Nat.le_of_ble_eq_true rfl) dX6_word_5 ⟨Nat.le_of_ble_eq_true rfl, Nat.le_of_ble_eq_true rfl⟩ ⟨Nat.le_of_ble_eq_true rfl, Nat.le_of_ble_eq_true rfl⟩ (fun H locs e_5 hH => ?_)
  refine lv_aload_n hx hb dX6_word_8 rfl (lv_at hl 0 rfl) ?_
  refine lv_iload_n hx hb dX6_word_9 rfl (lv_at hl 2 rfl) ?_
  refine lv_iconst (v := (-1)) hx hb dX6_word_10 (by decide) ?_
  refine lv_iconst (v := 3) hx hb dX6_word_11 (by decide) ?_
  refine rg_xcallRv C0 hH (As := [.int (b), .int ((-1)), .int (3)]) (rest := []) (o := 0) (ci := 6) hne hlocks (fun X hX => by exact Or.inl ⟨fun q => hX.1 q.2.1, hX.2⟩) (k_X6_needRange l hst E B M b ((-1)) 3) (rg_cw 3 C0.1.2.2.2.2 tw_m_X6_68 tw_i_X6_needRange tw_v_X6_needRange tw_n_X6 tw_c_X6_needRange rfl rfl hd_X6_needRange ⟨Nat.le_of_ble_eq_true rfl, Nat.le_of_ble_eq_true rfl⟩) rfl (by decide) rfl (by decide) rfl hl.1 rfl (Nat.le_of_ble_eq_true rfl) dX6_word_12 ⟨Nat.le_of_ble_eq_true rfl, Nat.le_of_ble_eq_true rfl⟩ ⟨Nat.le_of_ble_eq_true rfl, Nat.le_of_ble_eq_true rfl⟩ (fun H locs e_12 hH => ?_)
  refine lv_aload_n hx hb dX6_word_15 rfl (lv_at hl 0 rfl) ?_
  refine lv_iload_n hx hb dX6_word_16 rfl (lv_at hl 3 rfl) ?_
  refine lv_iconst (v := 0) hx hb dX6_word_17 (by decide) ?_
  refine lv_sipush (v := 1023) hx hb dX6_word_18 (by decide) ?_
  refine rg_xcallRv C0 hH (As := [.int (d), .int (0), .int (1023)]) (rest := []) (o := 0) (ci := 6) hne hlocks (fun X hX => by exact Or.inl ⟨fun q => hX.1 q.2.2, hX.2⟩) (k_X6_needRange l hst E B M d 0 1023) (rg_cw 3 C0.1.2.2.2.2 tw_m_X6_68 tw_i_X6_needRange tw_v_X6_needRange tw_n_X6 tw_c_X6_needRange rfl rfl hd_X6_needRange ⟨Nat.le_of_ble_eq_true rfl, Nat.le_of_ble_eq_true rfl⟩) rfl (by decide) rfl (by decide) rfl hl.1 rfl (Nat.le_of_ble_eq_true rfl) dX6_word_21 ⟨Nat.le_of_ble_eq_true rfl, Nat.le_of_ble_eq_true rfl⟩ ⟨Nat.le_of_ble_eq_true rfl, Nat.le_of_ble_eq_true rfl⟩ (fun H locs e_21 hH => ?_)
  refine lv_aload_n hx hb dX6_word_24 rfl (lv_at hl 0 rfl) ?_
  refine rg_gR C0 hH (o2 := 1) (ci := 6) (k := 0) (o := 0) rfl rfl inT_X6 (by decide) tw_f_X6_13 (by decide) rfl (by decide) rfl dX6_word_25 ?_
  refine rg_callGi C0 hH (As := []) (rest := []) (o := 1) (ci := 4) (k_X4_isFull l E B M) (rg_cw 0 C0.1.2.2.2.2 tw_m_X6_72 tw_i_X4_isFull tw_v_X4_isFull tw_n_X4 tw_c_X4_isFull rfl rfl hd_X4_isFull ⟨Nat.le_of_ble_eq_true rfl, Nat.le_of_ble_eq_true rfl⟩) rfl (by decide) rfl (by decide) rfl hl.1 rfl (Nat.le_of_ble_eq_true rfl) dX6_word_28 ⟨Nat.le_of_ble_eq_true rfl, Nat.le_of_ble_eq_true rfl⟩ (fun H locs hH => ?_)
  refine lv_if_eq (tgt := 44) hx hb dX6_word_31 (by decide) (fun c_31 => ?_) (fun c_31 => ?_)
  · refine lv_aload_n hx hb dX6_word_44 rfl (lv_at hl 0 rfl) ?_
    refine rg_gR C0 hH (o2 := 1) (ci := 6) (k := 0) (o := 0) rfl rfl inT_X6 (by decide) tw_f_X6_13 (by decide) rfl (by decide) rfl dX6_word_45 ?_
    refine lv_iload_n hx hb dX6_word_48 rfl (lv_at hl 1 rfl) ?_
    refine lv_iload_n hx hb dX6_word_49 rfl (lv_at hl 2 rfl) ?_
    refine lv_iload_n hx hb dX6_word_50 rfl (lv_at hl 3 rfl) ?_
    refine rg_callGi C0 hH (As := [.int (a), .int (b), .int (d)]) (rest := []) (o := 1) (ci := 4) (k_X4_put l E B M (rg_nw M) a b d (rg_CI_w hI).1 (rg_nw_lt hI (rg_b_eq.mp c_31))) (rg_cw 3 C0.1.2.2.2.2 tw_m_X6_83 tw_i_X4_put tw_v_X4_put tw_n_X4 tw_c_X4_put rfl rfl hd_X4_put ⟨Nat.le_of_ble_eq_true rfl, Nat.le_of_ble_eq_true rfl⟩) rfl (by decide) rfl (by decide) rfl hl.1 rfl (Nat.le_of_ble_eq_true rfl) dX6_word_51 ⟨Nat.le_of_ble_eq_true rfl, Nat.le_of_ble_eq_true rfl⟩ (fun H locs hH => ?_)
    refine vx_ret ?_
    refine W.widen (k := 4) (n := 24) (Nat.le_of_ble_eq_true rfl) (Nat.le_of_ble_eq_true rfl) ?_
    exact rg_retRi C0 hH hr hlocks (by simp_all) (by exact ⟨⟨⟨e_5, e_12, e_21⟩, rg_b_eq.mp c_31⟩, (rg_CI_w hI).1.symm⟩) dX6_word_54
  · exact rg_throw C0 hH hst (cls := "java/lang/IllegalStateException") (text := "there are 40 words already") (names := ["java/lang/RuntimeException", "java/lang/Exception"]) hne hlocks (by decide +kernel) (by decide +kernel) tw_k_X6_76 tw_n_IllegalStateException (by decide) (by decide) rg_at_ise rg_ab_ise rg_ag_ise hl.1 dX6_word_34 dX6_word_37 dX6_word_38 dX6_word_40 dX6_word_43 (Nat.le_of_ble_eq_true rfl) (Nat.le_of_ble_eq_true rfl) (Nat.le_of_ble_eq_true rfl) (Nat.le_of_ble_eq_true rfl) (by exact Or.inr ⟨⟨e_5, e_12, e_21⟩, fun q => q (rg_b_ne.mp c_31), rfl⟩) (Nat.le_of_ble_eq_true rfl) (Nat.le_of_ble_eq_true rfl)

set_option maxHeartbeats 4000000 in
set_option maxRecDepth 100000 in
/-- call -/
theorem k_X6_call (l : Launch) (hst : l.stackTraces = false) (E : rg_Env) (B : Nat) (M : rg_Mem) (a : Int32) (b : Int32) (hI : rg_CI M) : vx_Met l yX6_call (rg_w yX6_call cX6_call 3 (some (FieldType.boolean))) ({ frames := 7, cells := 3, slots := 18, locals := 111 } : Room) (va_Pc [.ref (B + 0), .int (a), .int (b)] (rg_Pre E B 422 rg_R0 M)) (rg_Ri E B 422 rg_R0 (rg_J (rg_J M 5 a.toNatClampNeg (M.2 5 a.toNatClampNeg ||| (1 : Int64) <<< (b.toInt64 &&& 63))) 5 b.toNatClampNeg ((rg_J M 5 a.toNatClampNeg (M.2 5 a.toNatClampNeg ||| (1 : Int64) <<< (b.toInt64 &&& 63))).2 5 b.toNatClampNeg ||| (1 : Int64) <<< (a.toInt64 &&& 63))) (fun r => ((rg_has M a ∧ rg_has M b) ∧ ¬ a = b) ∧ r = rg_b (¬ (M.2 5 a.toNatClampNeg >>> (b.toInt64 &&& 63)) &&& 1 = 0))) (rg_X E B 422 rg_R0 M (fun X => (¬ (rg_has M a ∧ rg_has M b) ∧ X = "java/lang/IndexOutOfBoundsException") ∨ ((rg_has M a ∧ rg_has M b) ∧ ¬ (¬ a = b) ∧ X = "java/lang/IllegalArgumentException"))) 3 18 (rg_A B) := by
  refine rg_xofW (by decide +kernel) rfl (Nat.le_of_ble_eq_true rfl) ?_
  intro p e s m args below meth c ls hne C0 hH hl hr hlocks
  replace hl : lv_has ls 3 [(0, .ref (B + 0)), (1, .int (a)), (2, .int (b))] := hl
  have hx := C0.1.1
  have hb := C0.1.2.1
  generalize hH9 : s.heap = H at hH ⊢
  generalize hL9 : ([] : List Loc) = locs at hH ⊢
  clear hH9 hL9
  refine lv_aload_n hx hb dX6_call_0 rfl (lv_at hl 0 rfl) ?_
  refine lv_iload_n hx hb dX6_call_1 rfl (lv_at hl 1 rfl) ?_
  refine rg_xcallRv C0 hH (As := [.int (a)]) (rest := []) (o := 0) (ci := 6) hne hlocks (fun X hX => by exact Or.inl ⟨fun q => hX.1 q.1, hX.2⟩) (k_X6_needWord l hst E B M a) (rg_cw 1 C0.1.2.2.2.2 tw_m_X6_87 tw_i_X6_needWord tw_v_X6_needWord tw_n_X6 tw_c_X6_needWord rfl rfl hd_X6_needWord ⟨Nat.le_of_ble_eq_true rfl, Nat.le_of_ble_eq_true rfl⟩) rfl (by decide) rfl (by decide) rfl hl.1 rfl (Nat.le_of_ble_eq_true rfl) dX6_call_2 ⟨Nat.le_of_ble_eq_true rfl, Nat.le_of_ble_eq_true rfl⟩ ⟨Nat.le_of_ble_eq_true rfl, Nat.le_of_ble_eq_true rfl⟩ (fun H locs e_2 hH => ?_)
  refine lv_aload_n hx hb dX6_call_5 rfl (lv_at hl 0 rfl) ?_
  refine lv_iload_n hx hb dX6_call_6 rfl (lv_at hl 2 rfl) ?_
  refine rg_xcallRv C0 hH (As := [.int (b)]) (rest := []) (o := 0) (ci := 6) hne hlocks (fun X hX => by exact Or.inl ⟨fun q => hX.1 q.2, hX.2⟩) (k_X6_needWord l hst E B M b) (rg_cw 1 C0.1.2.2.2.2 tw_m_X6_87 tw_i_X6_needWord tw_v_X6_needWord tw_n_X6 tw_c_X6_needWord rfl rfl hd_X6_needWord ⟨Nat.le_of_ble_eq_true rfl, Nat.le_of_ble_eq_true rfl⟩) rfl (by decide) rfl (by decide) rfl hl.1 rfl (Nat.le_of_ble_eq_true rfl) dX6_call_7 ⟨Nat.le_of_ble_eq_true rfl, Nat.le_of_ble_eq_true rfl⟩ ⟨Nat.le_of_ble_eq_true rfl, Nat.le_of_ble_eq_true rfl⟩ (fun H locs e_7 hH => ?_)
  refine lv_iload_n hx hb dX6_call_10 rfl (lv_at hl 1 rfl) ?_
  refine lv_iload_n hx hb dX6_call_11 rfl (lv_at hl 2 rfl) ?_
  refine lv_icmp_ne (tgt := 25) hx hb dX6_call_12 (by decide) (fun c_12 => ?_) (fun c_12 => ?_)
  · refine lv_aload_n hx hb dX6_call_25 rfl (lv_at hl 0 rfl) ?_
    refine rg_gR C0 hH (o2 := 1) (ci := 6) (k := 0) (o := 0) rfl rfl inT_X6 (by decide) tw_f_X6_13 (by decide) rfl (by decide) rfl dX6_call_26 ?_
    refine lv_iload_n hx hb dX6_call_29 rfl (lv_at hl 1 rfl) ?_
    refine lv_iload_n hx hb dX6_call_30 rfl (lv_at hl 2 rfl) ?_
    refine rg_callGi C0 hH (As := [.int (a), .int (b)]) (rest := []) (o := 1) (ci := 4) (k_X4_bind l E B M a b (rg_CI_cn hI) e_2 e_7) (rg_cw 2 C0.1.2.2.2.2 tw_m_X6_96 tw_i_X4_bind tw_v_X4_bind tw_n_X4 tw_c_X4_bind rfl rfl hd_X4_bind ⟨Nat.le_of_ble_eq_true rfl, Nat.le_of_ble_eq_true rfl⟩) rfl (by decide) rfl (by decide) rfl hl.1 rfl (Nat.le_of_ble_eq_true rfl) dX6_call_31 ⟨Nat.le_of_ble_eq_true rfl, Nat.le_of_ble_eq_true rfl⟩ (fun H locs hH => ?_)
    refine vx_ret ?_
    refine W.widen (k := 3) (n := 18) (Nat.le_of_ble_eq_true rfl) (Nat.le_of_ble_eq_true rfl) ?_
    exact rg_retRz C0 hH hr hlocks (by exact rg_b_01) rfl (by exact ⟨⟨⟨e_2, e_7⟩, c_12⟩, rfl⟩) dX6_call_34
  · exact rg_throw C0 hH hst (cls := "java/lang/IllegalArgumentException") (text := "a word does not call itself to mind") (names := ["java/lang/RuntimeException", "java/lang/Exception"]) hne hlocks (by decide +kernel) (by decide +kernel) tw_k_X6_91 tw_n_IllegalArgumentException (by decide) (by decide) rg_at_iae rg_ab_iae rg_ag_iae hl.1 dX6_call_15 dX6_call_18 dX6_call_19 dX6_call_21 dX6_call_24 (Nat.le_of_ble_eq_true rfl) (Nat.le_of_ble_eq_true rfl) (Nat.le_of_ble_eq_true rfl) (Nat.le_of_ble_eq_true rfl) (by exact Or.inr ⟨⟨e_2, e_7⟩, fun q => q c_12, rfl⟩) (Nat.le_of_ble_eq_true rfl) (Nat.le_of_ble_eq_true rfl)

set_option maxHeartbeats 4000000 in
set_option maxRecDepth 100000 in
/-- poet -/
theorem k_X6_poet (l : Launch) (hst : l.stackTraces = false) (E : rg_Env) (B : Nat) (M : rg_Mem) (hI : rg_CI M) : vx_Met l yX6_poet (rg_w yX6_poet cX6_poet 1 (some (FieldType.int))) ({ frames := 6, cells := 1, slots := 6, locals := 90 } : Room) (va_Pc [.ref (B + 0)] (rg_Pre E B 422 rg_R0 M)) (rg_Ri E B 422 rg_R0 (rg_I M 0 9 (nI (rg_np M + 1))) (fun r => M.1 0 9 < 6 ∧ r = M.1 0 9)) (rg_X E B 422 rg_R0 M (fun X => ¬ M.1 0 9 < 6 ∧ X = "java/lang/IllegalStateException")) 1 6 (rg_A B) := by
  refine rg_xofW (by decide +kernel) rfl (Nat.le_of_ble_eq_true rfl) ?_
  intro p e s m args below meth c ls hne C0 hH hl hr hlocks
  replace hl : lv_has ls 1 [(0, .ref (B + 0))] := hl
  have hx := C0.1.1
  have hb := C0.1.2.1
  generalize hH9 : s.heap = H at hH ⊢
  generalize hL9 : ([] : List Loc) = locs at hH ⊢
  clear hH9 hL9
  refine lv_aload_n hx hb dX6_poet_0 rfl (lv_at hl 0 rfl) ?_
  refine rg_gI C0 hH (ci := 6) (k := 9) (o := 0) rfl inT_X6 (by decide) tw_f_X6_100 (by decide) rfl (by decide) rfl dX6_poet_1 ?_
  refine lv_bipush (v := 6) hx hb dX6_poet_4 (by decide) ?_
  refine lv_icmp_lt (tgt := 19) hx hb dX6_poet_6 (by decide) (fun c_6 => ?_) (fun c_6 => ?_)
  · refine lv_aload_n hx hb dX6_poet_19 rfl (lv_at hl 0 rfl) ?_
    refine lv_dup hx hb dX6_poet_20 rfl ?_
    refine rg_gI C0 hH (ci := 6) (k := 9) (o := 0) rfl inT_X6 (by decide) tw_f_X6_100 (by decide) rfl (by decide) rfl dX6_poet_21 ?_
    refine rg_topi (y := nI (rg_np M)) (by exact (rg_CI_p hI).1) ?_
    refine lv_iconst (v := 1) hx hb dX6_poet_24 (by decide) ?_
    refine lv_iadd hx hb dX6_poet_25 ?_
    refine rg_topi (y := nI (rg_np M + 1)) (by exact nI_1 _) ?_
    refine rg_pI C0 hH (v := nI (rg_np M + 1)) tyX6 tyX6_ok nmX6 (ci := 6) (k := 9) (o := 0) rfl inT_X6 (by decide) tw_f_X6_100 (by decide) rfl (by decide) rfl rfl rfl rfl dX6_poet_26 (fun H locs hH => ?_)
    refine lv_aload_n hx hb dX6_poet_29 rfl (lv_at hl 0 rfl) ?_
    refine rg_gI C0 hH (ci := 6) (k := 9) (o := 0) rfl inT_X6 (by decide) tw_f_X6_100 (by decide) rfl (by decide) rfl dX6_poet_30 ?_
    refine rg_topi (y := nI (rg_np M + 1)) (by simp [rg_I]) ?_
    refine lv_iconst (v := 1) hx hb dX6_poet_33 (by decide) ?_
    refine lv_isub hx hb dX6_poet_34 ?_
    refine rg_topi (y := nI (rg_np M)) (by exact nI_pred _) ?_
    refine vx_ret ?_
    refine W.widen (k := 1) (n := 6) (Nat.le_of_ble_eq_true rfl) (Nat.le_of_ble_eq_true rfl) ?_
    exact rg_retRi C0 hH hr hlocks rfl (by exact ⟨c_6, (rg_CI_p hI).1.symm⟩) dX6_poet_35
  · exact rg_throw C0 hH hst (cls := "java/lang/IllegalStateException") (text := "there are 6 poets already") (names := ["java/lang/RuntimeException", "java/lang/Exception"]) hne hlocks (by decide +kernel) (by decide +kernel) tw_k_X6_76 tw_n_IllegalStateException (by decide) (by decide) rg_at_ise rg_ab_ise rg_ag_ise hl.1 dX6_poet_9 dX6_poet_12 dX6_poet_13 dX6_poet_15 dX6_poet_18 (Nat.le_of_ble_eq_true rfl) (Nat.le_of_ble_eq_true rfl) (Nat.le_of_ble_eq_true rfl) (Nat.le_of_ble_eq_true rfl) (by exact ⟨c_6, rfl⟩) (Nat.le_of_ble_eq_true rfl) (Nat.le_of_ble_eq_true rfl)

set_option maxHeartbeats 4000000 in
set_option maxRecDepth 100000 in
/-- begin -/
theorem k_X6_begin (l : Launch) (hst : l.stackTraces = false) (E : rg_Env) (B : Nat) (M : rg_Mem) (a : Int32) (b : Int32) (d : Int32) (f : Int32) : vx_Met l yX6_begin (rg_w yX6_begin cX6_begin 5 none) ({ frames := 7, cells := 5, slots := 30, locals := 113 } : Room) (va_Pc [.ref (B + 0), .int (a), .int (b), .int (d), .int (f)] (rg_Pre E B 422 rg_R0 M)) (rg_Rv E B 422 rg_R0 (rg_I (rg_I (rg_z7 (rg_I (rg_I (rg_I (rg_I (rg_I M 6 0 a) 6 1 b) 6 2 d) 6 3 f) 6 4 0) 36) 0 10 0) 0 11 0) ((rg_in a 2 36 ∧ rg_in b 0 10 ∧ rg_in d 2 40 ∧ rg_in f 2 40) ∧ ¬ (¬ M.1 6 0 ≤ M.1 6 4 ∧ ¬ M.1 6 4 ≤ 0))) (rg_X E B 422 rg_R0 M (fun X => (¬ (rg_in a 2 36 ∧ rg_in b 0 10 ∧ rg_in d 2 40 ∧ rg_in f 2 40) ∧ X = "java/lang/IllegalArgumentException") ∨ ((rg_in a 2 36 ∧ rg_in b 0 10 ∧ rg_in d 2 40 ∧ rg_in f 2 40) ∧ ¬ (¬ (¬ M.1 6 0 ≤ M.1 6 4 ∧ ¬ M.1 6 4 ≤ 0)) ∧ X = "java/lang/IllegalStateException"))) 5 30 (rg_A B) := by
  refine rg_xofW (by decide +kernel) rfl (Nat.le_of_ble_eq_true rfl) ?_
  intro p e s m args below meth c ls hne C0 hH hl hr hlocks
  replace hl : lv_has ls 5 [(0, .ref (B + 0)), (1, .int (a)), (2, .int (b)), (3, .int (d)), (4, .int (f))] := hl
  have hx := C0.1.1
  have hb := C0.1.2.1
  generalize hH9 : s.heap = H at hH ⊢
  generalize hL9 : ([] : List Loc) = locs at hH ⊢
  clear hH9 hL9
  refine lv_aload_n hx hb dX6_begin_0 rfl (lv_at hl 0 rfl) ?_
  refine lv_iload_n hx hb dX6_begin_1 rfl (lv_at hl 1 rfl) ?_
  refine lv_iconst (v := 2) hx hb dX6_begin_2 (by decide) ?_
  refine lv_bipush (v := 36) hx hb dX6_begin_3 (by decide) ?_
  refine rg_xcallRv C0 hH (As := [.int (a), .int (2), .int (36)]) (rest := []) (o := 0) (ci := 6) hne hlocks (fun X hX => by exact Or.inl ⟨fun q => hX.1 q.1, hX.2⟩) (k_X6_needRange l hst E B M a 2 36) (rg_cw 3 C0.1.2.2.2.2 tw_m_X6_68 tw_i_X6_needRange tw_v_X6_needRange tw_n_X6 tw_c_X6_needRange rfl rfl hd_X6_needRange ⟨Nat.le_of_ble_eq_true rfl, Nat.le_of_ble_eq_true rfl⟩) rfl (by decide) rfl (by decide) rfl hl.1 rfl (Nat.le_of_ble_eq_true rfl) dX6_begin_5 ⟨Nat.le_of_ble_eq_true rfl, Nat.le_of_ble_eq_true rfl⟩ ⟨Nat.le_of_ble_eq_true rfl, Nat.le_of_ble_eq_true rfl⟩ (fun H locs e_5 hH => ?_)
  refine lv_aload_n hx hb dX6_begin_8 rfl (lv_at hl 0 rfl) ?_
  refine lv_iload_n hx hb dX6_begin_9 rfl (lv_at hl 2 rfl) ?_
  refine lv_iconst (v := 0) hx hb dX6_begin_10 (by decide) ?_
  refine lv_bipush (v := 10) hx hb dX6_begin_11 (by decide) ?_
  refine rg_xcallRv C0 hH (As := [.int (b), .int (0), .int (10)]) (rest := []) (o := 0) (ci := 6) hne hlocks (fun X hX => by exact Or.inl ⟨fun q => hX.1 q.2.1, hX.2⟩) (k_X6_needRange l hst E B M b 0 10) (rg_cw 3 C0.1.2.2.2.2 tw_m_X6_68 tw_i_X6_needRange tw_v_X6_needRange tw_n_X6 tw_c_X6_needRange rfl rfl hd_X6_needRange ⟨Nat.le_of_ble_eq_true rfl, Nat.le_of_ble_eq_true rfl⟩) rfl (by decide) rfl (by decide) rfl hl.1 rfl (Nat.le_of_ble_eq_true rfl) dX6_begin_13 ⟨Nat.le_of_ble_eq_true rfl, Nat.le_of_ble_eq_true rfl⟩ ⟨Nat.le_of_ble_eq_true rfl, Nat.le_of_ble_eq_true rfl⟩ (fun H locs e_13 hH => ?_)
  refine lv_aload_n hx hb dX6_begin_16 rfl (lv_at hl 0 rfl) ?_
  refine lv_iload_n hx hb dX6_begin_17 rfl (lv_at hl 3 rfl) ?_
  refine lv_iconst (v := 2) hx hb dX6_begin_18 (by decide) ?_
  refine lv_bipush (v := 40) hx hb dX6_begin_19 (by decide) ?_
  refine rg_xcallRv C0 hH (As := [.int (d), .int (2), .int (40)]) (rest := []) (o := 0) (ci := 6) hne hlocks (fun X hX => by exact Or.inl ⟨fun q => hX.1 q.2.2.1, hX.2⟩) (k_X6_needRange l hst E B M d 2 40) (rg_cw 3 C0.1.2.2.2.2 tw_m_X6_68 tw_i_X6_needRange tw_v_X6_needRange tw_n_X6 tw_c_X6_needRange rfl rfl hd_X6_needRange ⟨Nat.le_of_ble_eq_true rfl, Nat.le_of_ble_eq_true rfl⟩) rfl (by decide) rfl (by decide) rfl hl.1 rfl (Nat.le_of_ble_eq_true rfl) dX6_begin_21 ⟨Nat.le_of_ble_eq_true rfl, Nat.le_of_ble_eq_true rfl⟩ ⟨Nat.le_of_ble_eq_true rfl, Nat.le_of_ble_eq_true rfl⟩ (fun H locs e_21 hH => ?_)
  refine lv_aload_n hx hb dX6_begin_24 rfl (lv_at hl 0 rfl) ?_
  refine lv_iload hx hb dX6_begin_25 (lv_at hl 4 rfl) ?_
  refine lv_iconst (v := 2) hx hb dX6_begin_27 (by decide) ?_
  refine lv_bipush (v := 40) hx hb dX6_begin_28 (by decide) ?_
  refine rg_xcallRv C0 hH (As := [.int (f), .int (2), .int (40)]) (rest := []) (o := 0) (ci := 6) hne hlocks (fun X hX => by exact Or.inl ⟨fun q => hX.1 q.2.2.2, hX.2⟩) (k_X6_needRange l hst E B M f 2 40) (rg_cw 3 C0.1.2.2.2.2 tw_m_X6_68 tw_i_X6_needRange tw_v_X6_needRange tw_n_X6 tw_c_X6_needRange rfl rfl hd_X6_needRange ⟨Nat.le_of_ble_eq_true rfl, Nat.le_of_ble_eq_true rfl⟩) rfl (by decide) rfl (by decide) rfl hl.1 rfl (Nat.le_of_ble_eq_true rfl) dX6_begin_30 ⟨Nat.le_of_ble_eq_true rfl, Nat.le_of_ble_eq_true rfl⟩ ⟨Nat.le_of_ble_eq_true rfl, Nat.le_of_ble_eq_true rfl⟩ (fun H locs e_30 hH => ?_)
  refine lv_aload_n hx hb dX6_begin_33 rfl (lv_at hl 0 rfl) ?_
  refine rg_gR C0 hH (o2 := 6) (ci := 6) (k := 1) (o := 0) rfl rfl inT_X6 (by decide) tw_f_X6_19 (by decide) rfl (by decide) rfl dX6_begin_34 ?_
  refine rg_callGi C0 hH (As := []) (rest := []) (o := 6) (ci := 1) (k_X1_isOpen l E B M) (rg_cw 0 C0.1.2.2.2.2 tw_m_X6_105 tw_i_X1_isOpen tw_v_X1_isOpen tw_n_X1 tw_c_X1_isOpen rfl rfl hd_X1_isOpen ⟨Nat.le_of_ble_eq_true rfl, Nat.le_of_ble_eq_true rfl⟩) rfl (by decide) rfl (by decide) rfl hl.1 rfl (Nat.le_of_ble_eq_true rfl) dX6_begin_37 ⟨Nat.le_of_ble_eq_true rfl, Nat.le_of_ble_eq_true rfl⟩ (fun H locs hH => ?_)
  refine lv_if_eq (tgt := 63) hx hb dX6_begin_40 (by decide) (fun c_40 => ?_) (fun c_40 => ?_)
  · refine lv_aload_n hx hb dX6_begin_63 rfl (lv_at hl 0 rfl) ?_
    refine rg_gR C0 hH (o2 := 6) (ci := 6) (k := 1) (o := 0) rfl rfl inT_X6 (by decide) tw_f_X6_19 (by decide) rfl (by decide) rfl dX6_begin_64 ?_
    refine lv_iload_n hx hb dX6_begin_67 rfl (lv_at hl 1 rfl) ?_
    refine lv_iload_n hx hb dX6_begin_68 rfl (lv_at hl 2 rfl) ?_
    refine lv_iload_n hx hb dX6_begin_69 rfl (lv_at hl 3 rfl) ?_
    refine lv_iload hx hb dX6_begin_70 (lv_at hl 4 rfl) ?_
    refine rg_callRv C0 hH (As := [.int (a), .int (b), .int (d), .int (f)]) (rest := []) (o := 6) (ci := 1) (k_X1_restart l E B M a b d f) (rg_cw 4 C0.1.2.2.2.2 tw_m_X6_113 tw_i_X1_restart tw_v_X1_restart tw_n_X1 tw_c_X1_restart rfl rfl hd_X1_restart ⟨Nat.le_of_ble_eq_true rfl, Nat.le_of_ble_eq_true rfl⟩) rfl (by decide) rfl (by decide) rfl hl.1 rfl (Nat.le_of_ble_eq_true rfl) dX6_begin_72 ⟨Nat.le_of_ble_eq_true rfl, Nat.le_of_ble_eq_true rfl⟩ (fun H locs e_72 hH => ?_)
    refine lv_aload_n hx hb dX6_begin_75 rfl (lv_at hl 0 rfl) ?_
    refine lv_iconst (v := 0) hx hb dX6_begin_76 (by decide) ?_
    refine rg_pI C0 hH (v := 0) tyX6 tyX6_ok nmX6 (ci := 6) (k := 10) (o := 0) rfl inT_X6 (by decide) tw_f_X6_117 (by decide) rfl (by decide) rfl rfl rfl rfl dX6_begin_77 (fun H locs hH => ?_)
    refine lv_aload_n hx hb dX6_begin_80 rfl (lv_at hl 0 rfl) ?_
    refine lv_iconst (v := 0) hx hb dX6_begin_81 (by decide) ?_
    refine rg_pI C0 hH (v := 0) tyX6 tyX6_ok nmX6 (ci := 6) (k := 11) (o := 0) rfl inT_X6 (by decide) tw_f_X6_120 (by decide) rfl (by decide) rfl rfl rfl rfl dX6_begin_82 (fun H locs hH => ?_)
    refine vx_ret ?_
    refine W.widen (k := 5) (n := 30) (Nat.le_of_ble_eq_true rfl) (Nat.le_of_ble_eq_true rfl) ?_
    exact rg_retRv C0 hH hr hlocks rfl (by exact ⟨⟨e_5, e_13, e_21, e_30⟩, fun q => (rg_b_eq.mp c_40) q.1⟩) dX6_begin_85
  · refine lv_aload_n hx hb dX6_begin_43 rfl (lv_at hl 0 rfl) ?_
    refine rg_gR C0 hH (o2 := 6) (ci := 6) (k := 1) (o := 0) rfl rfl inT_X6 (by decide) tw_f_X6_19 (by decide) rfl (by decide) rfl dX6_begin_44 ?_
    refine rg_nI C0 hH (ci := 1) (k := 4) (o := 6) rfl inT_X1 (by decide) (by decide) (by decide) rfl (by decide) rfl dX6_begin_47 ?_
    refine lv_if_le (tgt := 63) hx hb dX6_begin_50 (by decide) (fun c_50 => ?_) (fun c_50 => ?_)
    · refine lv_aload_n hx hb dX6_begin_63 rfl (lv_at hl 0 rfl) ?_
      refine rg_gR C0 hH (o2 := 6) (ci := 6) (k := 1) (o := 0) rfl rfl inT_X6 (by decide) tw_f_X6_19 (by decide) rfl (by decide) rfl dX6_begin_64 ?_
      refine lv_iload_n hx hb dX6_begin_67 rfl (lv_at hl 1 rfl) ?_
      refine lv_iload_n hx hb dX6_begin_68 rfl (lv_at hl 2 rfl) ?_
      refine lv_iload_n hx hb dX6_begin_69 rfl (lv_at hl 3 rfl) ?_
      refine lv_iload hx hb dX6_begin_70 (lv_at hl 4 rfl) ?_
      refine rg_callRv C0 hH (As := [.int (a), .int (b), .int (d), .int (f)]) (rest := []) (o := 6) (ci := 1) (k_X1_restart l E B M a b d f) (rg_cw 4 C0.1.2.2.2.2 tw_m_X6_113 tw_i_X1_restart tw_v_X1_restart tw_n_X1 tw_c_X1_restart rfl rfl hd_X1_restart ⟨Nat.le_of_ble_eq_true rfl, Nat.le_of_ble_eq_true rfl⟩) rfl (by decide) rfl (by decide) rfl hl.1 rfl (Nat.le_of_ble_eq_true rfl) dX6_begin_72 ⟨Nat.le_of_ble_eq_true rfl, Nat.le_of_ble_eq_true rfl⟩ (fun H locs e_72 hH => ?_)
      refine lv_aload_n hx hb dX6_begin_75 rfl (lv_at hl 0 rfl) ?_
      refine lv_iconst (v := 0) hx hb dX6_begin_76 (by decide) ?_
      refine rg_pI C0 hH (v := 0) tyX6 tyX6_ok nmX6 (ci := 6) (k := 10) (o := 0) rfl inT_X6 (by decide) tw_f_X6_117 (by decide) rfl (by decide) rfl rfl rfl rfl dX6_begin_77 (fun H locs hH => ?_)
      refine lv_aload_n hx hb dX6_begin_80 rfl (lv_at hl 0 rfl) ?_
      refine lv_iconst (v := 0) hx hb dX6_begin_81 (by decide) ?_
      refine rg_pI C0 hH (v := 0) tyX6 tyX6_ok nmX6 (ci := 6) (k := 11) (o := 0) rfl inT_X6 (by decide) tw_f_X6_120 (by decide) rfl (by decide) rfl rfl rfl rfl dX6_begin_82 (fun H locs hH => ?_)
      refine vx_ret ?_
      refine W.widen (k := 5) (n := 30) (Nat.le_of_ble_eq_true rfl) (Nat.le_of_ble_eq_true rfl) ?_
      exact rg_retRv C0 hH hr hlocks rfl (by exact ⟨⟨e_5, e_13, e_21, e_30⟩, fun q => q.2 c_50⟩) dX6_begin_85
    · exact rg_throw C0 hH hst (cls := "java/lang/IllegalStateException") (text := "the poem is not finished") (names := ["java/lang/RuntimeException", "java/lang/Exception"]) hne hlocks (by decide +kernel) (by decide +kernel) tw_k_X6_76 tw_n_IllegalStateException (by decide) (by decide) rg_at_ise rg_ab_ise rg_ag_ise hl.1 dX6_begin_53 dX6_begin_56 dX6_begin_57 dX6_begin_59 dX6_begin_62 (Nat.le_of_ble_eq_true rfl) (Nat.le_of_ble_eq_true rfl) (Nat.le_of_ble_eq_true rfl) (Nat.le_of_ble_eq_true rfl) (by exact Or.inr ⟨⟨e_5, e_13, e_21, e_30⟩, fun q => q ⟨rg_b_ne.mp c_40, c_50⟩, rfl⟩) (Nat.le_of_ble_eq_true rfl) (Nat.le_of_ble_eq_true rfl)

set_option maxHeartbeats 4000000 in
set_option maxRecDepth 100000 in
/-- seat -/
theorem k_X6_seat (l : Launch) (hst : l.stackTraces = false) (E : rg_Env) (B : Nat) (M : rg_Mem) (x : Int32) (y : Int32) (hI : rg_CI M) : vx_Met l yX6_seat (rg_w yX6_seat cX6_seat 4 (some (FieldType.int))) ({ frames := 7, cells := 2, slots := 12, locals := 113 } : Room) (va_Pc [.ref (B + 0), .int (x), .int (y)] (rg_Pre E B 422 rg_R0 M)) (rg_Ri E B 422 rg_R0 (rg_I M 7 x.toNatClampNeg y) (fun r => ((¬ x < M.1 6 4 ∧ x < M.1 6 0) ∧ rg_in y 0 2 ∧ M.1 0 10 ≤ 0) ∧ r = M.1 7 x.toNatClampNeg)) (rg_X E B 422 rg_R0 M (fun X => (¬ (¬ x < M.1 6 4 ∧ x < M.1 6 0) ∧ X = "java/lang/IndexOutOfBoundsException") ∨ ((¬ x < M.1 6 4 ∧ x < M.1 6 0) ∧ ¬ (rg_in y 0 2) ∧ X = "java/lang/IllegalArgumentException") ∨ ((¬ x < M.1 6 4 ∧ x < M.1 6 0) ∧ (rg_in y 0 2) ∧ ¬ (M.1 0 10 ≤ 0) ∧ X = "java/lang/IllegalStateException"))) 2 12 (rg_A B) := by
  refine rg_xofW (by decide +kernel) rfl (Nat.le_of_ble_eq_true rfl) ?_
  intro p e s m args below meth c ls hne C0 hH hl hr hlocks
  replace hl : lv_has ls 4 [(0, .ref (B + 0)), (1, .int (x)), (2, .int (y))] := hl
  have hx := C0.1.1
  have hb := C0.1.2.1
  generalize hH9 : s.heap = H at hH ⊢
  generalize hL9 : ([] : List Loc) = locs at hH ⊢
  clear hH9 hL9
  refine lv_iload_n hx hb dX6_seat_0 rfl (lv_at hl 1 rfl) ?_
  refine lv_aload_n hx hb dX6_seat_1 rfl (lv_at hl 0 rfl) ?_
  refine rg_gR C0 hH (o2 := 6) (ci := 6) (k := 1) (o := 0) rfl rfl inT_X6 (by decide) tw_f_X6_19 (by decide) rfl (by decide) rfl dX6_seat_2 ?_
  refine rg_nI C0 hH (ci := 1) (k := 4) (o := 6) rfl inT_X1 (by decide) (by decide) (by decide) rfl (by decide) rfl dX6_seat_5 ?_
  refine lv_icmp_lt (tgt := 22) hx hb dX6_seat_8 (by decide) (fun c_8 => ?_) (fun c_8 => ?_)
  · exact rg_throw C0 hH hst (cls := "java/lang/IndexOutOfBoundsException") (text := "there is no such link to come") (names := ["java/lang/RuntimeException", "java/lang/Exception"]) hne hlocks (by decide +kernel) (by decide +kernel) tw_k_X6_126 tw_n_IndexOutOfBoundsException (by decide) (by decide) rg_at_ioob rg_ab_ioob rg_ag_ioob hl.1 dX6_seat_22 dX6_seat_25 dX6_seat_26 dX6_seat_28 dX6_seat_31 (Nat.le_of_ble_eq_true rfl) (Nat.le_of_ble_eq_true rfl) (Nat.le_of_ble_eq_true rfl) (Nat.le_of_ble_eq_true rfl) (by first | exact Or.inl ⟨fun q => q.1 c_8, rfl⟩ | exact Or.inl ⟨fun q => c_19 q.2, rfl⟩) (Nat.le_of_ble_eq_true rfl) (Nat.le_of_ble_eq_true rfl)
  · refine lv_iload_n hx hb dX6_seat_11 rfl (lv_at hl 1 rfl) ?_
    refine lv_aload_n hx hb dX6_seat_12 rfl (lv_at hl 0 rfl) ?_
    refine rg_gR C0 hH (o2 := 6) (ci := 6) (k := 1) (o := 0) rfl rfl inT_X6 (by decide) tw_f_X6_19 (by decide) rfl (by decide) rfl dX6_seat_13 ?_
    refine rg_nI C0 hH (ci := 1) (k := 0) (o := 6) rfl inT_X1 (by decide) (by decide) (by decide) rfl (by decide) rfl dX6_seat_16 ?_
    refine lv_icmp_lt (tgt := 32) hx hb dX6_seat_19 (by decide) (fun c_19 => ?_) (fun c_19 => ?_)
    · refine lv_aload_n hx hb dX6_seat_32 rfl (lv_at hl 0 rfl) ?_
      refine lv_iload_n hx hb dX6_seat_33 rfl (lv_at hl 2 rfl) ?_
      refine lv_iconst (v := 0) hx hb dX6_seat_34 (by decide) ?_
      refine lv_iconst (v := 2) hx hb dX6_seat_35 (by decide) ?_
      refine rg_xcallRv C0 hH (As := [.int (y), .int (0), .int (2)]) (rest := []) (o := 0) (ci := 6) hne hlocks (fun X hX => by exact Or.inr (Or.inl ⟨⟨c_8, c_19⟩, hX.1, hX.2⟩)) (k_X6_needRange l hst E B M y 0 2) (rg_cw 3 C0.1.2.2.2.2 tw_m_X6_68 tw_i_X6_needRange tw_v_X6_needRange tw_n_X6 tw_c_X6_needRange rfl rfl hd_X6_needRange ⟨Nat.le_of_ble_eq_true rfl, Nat.le_of_ble_eq_true rfl⟩) rfl (by decide) rfl (by decide) rfl hl.1 rfl (Nat.le_of_ble_eq_true rfl) dX6_seat_36 ⟨Nat.le_of_ble_eq_true rfl, Nat.le_of_ble_eq_true rfl⟩ ⟨Nat.le_of_ble_eq_true rfl, Nat.le_of_ble_eq_true rfl⟩ (fun H locs e_36 hH => ?_)
      refine lv_aload_n hx hb dX6_seat_39 rfl (lv_at hl 0 rfl) ?_
      refine rg_xcallRv C0 hH (As := []) (rest := []) (o := 0) (ci := 6) hne hlocks (fun X hX => by exact Or.inr (Or.inr ⟨⟨c_8, c_19⟩, e_36, hX.1, hX.2⟩)) (k_X6_needNoOffers l hst E B M) (rg_cw 0 C0.1.2.2.2.2 tw_m_X6_131 tw_i_X6_needNoOffers tw_v_X6_needNoOffers tw_n_X6 tw_c_X6_needNoOffers rfl rfl hd_X6_needNoOffers ⟨Nat.le_of_ble_eq_true rfl, Nat.le_of_ble_eq_true rfl⟩) rfl (by decide) rfl (by decide) rfl hl.1 rfl (Nat.le_of_ble_eq_true rfl) dX6_seat_40 ⟨Nat.le_of_ble_eq_true rfl, Nat.le_of_ble_eq_true rfl⟩ ⟨Nat.le_of_ble_eq_true rfl, Nat.le_of_ble_eq_true rfl⟩ (fun H locs e_40 hH => ?_)
      have hx36 : vp_in x 36 := rg_in_le (rg_lt_in (rg_CI_t hI).1 (by have := (rg_CI_t hI).2; omega) (rg_nneg (rg_CI_l hI).1 (by have := (rg_CI_l hI).2; omega) c_8) c_19) (rg_CI_t hI).2
      have h1 : ¬ x < 0 := fun q => hx36 (Or.inl q)
      have h2 : ¬ 36 ≤ x := rg_in_nle (m := 36) rfl hx36
      refine lv_aload_n hx hb dX6_seat_43 rfl (lv_at hl 0 rfl) ?_
      refine rg_gR C0 hH (o2 := 6) (ci := 6) (k := 1) (o := 0) rfl rfl inT_X6 (by decide) tw_f_X6_19 (by decide) rfl (by decide) rfl dX6_seat_44 ?_
      refine lv_iload_n hx hb dX6_seat_47 rfl (lv_at hl 1 rfl) ?_
      refine rg_callGi C0 hH (As := [.int (x)]) (rest := []) (o := 6) (ci := 1) (k_X1_seatAt l E B M x) (rg_cw 1 C0.1.2.2.2.2 tw_m_X6_134 tw_i_X1_seatAt tw_v_X1_seatAt tw_n_X1 tw_c_X1_seatAt rfl rfl hd_X1_seatAt ⟨Nat.le_of_ble_eq_true rfl, Nat.le_of_ble_eq_true rfl⟩) rfl (by decide) rfl (by decide) rfl hl.1 rfl (Nat.le_of_ble_eq_true rfl) dX6_seat_48 ⟨Nat.le_of_ble_eq_true rfl, Nat.le_of_ble_eq_true rfl⟩ (fun H locs hH => ?_)
      refine rg_topi (y := M.1 7 x.toNatClampNeg) (by rw [if_pos ⟨h1, h2⟩]) ?_
      refine lv_istore_n (lv' := [(3, .int (M.1 7 x.toNatClampNeg)), (0, .ref (B + 0)), (1, .int (x)), (2, .int (y))]) hx hb dX6_seat_51 rfl hl (by decide) rfl (fun ls hl => ?_)
      refine lv_aload_n hx hb dX6_seat_52 rfl (lv_at hl 1 rfl) ?_
      refine rg_gR C0 hH (o2 := 6) (ci := 6) (k := 1) (o := 0) rfl rfl inT_X6 (by decide) tw_f_X6_19 (by decide) rfl (by decide) rfl dX6_seat_53 ?_
      refine lv_iload_n hx hb dX6_seat_56 rfl (lv_at hl 2 rfl) ?_
      refine lv_iload_n hx hb dX6_seat_57 rfl (lv_at hl 3 rfl) ?_
      refine rg_callRv C0 hH (As := [.int (x), .int (y)]) (rest := []) (o := 6) (ci := 1) (k_X1_setSeat l E B M x y (by assumption) (by assumption)) (rg_cw 2 C0.1.2.2.2.2 tw_m_X6_138 tw_i_X1_setSeat tw_v_X1_setSeat tw_n_X1 tw_c_X1_setSeat rfl rfl hd_X1_setSeat ⟨Nat.le_of_ble_eq_true rfl, Nat.le_of_ble_eq_true rfl⟩) rfl (by decide) rfl (by decide) rfl hl.1 rfl (Nat.le_of_ble_eq_true rfl) dX6_seat_58 ⟨Nat.le_of_ble_eq_true rfl, Nat.le_of_ble_eq_true rfl⟩ (fun H locs e_58 hH => ?_)
      refine lv_iload_n hx hb dX6_seat_61 rfl (lv_at hl 0 rfl) ?_
      refine vx_ret ?_
      refine W.widen (k := 2) (n := 12) (Nat.le_of_ble_eq_true rfl) (Nat.le_of_ble_eq_true rfl) ?_
      exact rg_retRi C0 hH hr hlocks rfl (by exact ⟨⟨⟨c_8, c_19⟩, e_36, e_40⟩, rfl⟩) dX6_seat_62
    · exact rg_throw C0 hH hst (cls := "java/lang/IndexOutOfBoundsException") (text := "there is no such link to come") (names := ["java/lang/RuntimeException", "java/lang/Exception"]) hne hlocks (by decide +kernel) (by decide +kernel) tw_k_X6_126 tw_n_IndexOutOfBoundsException (by decide) (by decide) rg_at_ioob rg_ab_ioob rg_ag_ioob hl.1 dX6_seat_22 dX6_seat_25 dX6_seat_26 dX6_seat_28 dX6_seat_31 (Nat.le_of_ble_eq_true rfl) (Nat.le_of_ble_eq_true rfl) (Nat.le_of_ble_eq_true rfl) (Nat.le_of_ble_eq_true rfl) (by first | exact Or.inl ⟨fun q => q.1 c_8, rfl⟩ | exact Or.inl ⟨fun q => c_19 q.2, rfl⟩) (Nat.le_of_ble_eq_true rfl) (Nat.le_of_ble_eq_true rfl)

set_option maxHeartbeats 4000000 in
set_option maxRecDepth 100000 in
/-- clear -/
theorem k_X6_clear (l : Launch) (E : rg_Env) (B : Nat) (M : rg_Mem) : Met l yX6_clear (rg_w yX6_clear cX6_clear 2 (some (FieldType.int))) ({ frames := 1, cells := 0, slots := 0, locals := 20 } : Room) (va_Pc [.ref (B + 0)] (rg_Pre E B 422 rg_R0 M)) (rg_Ri E B 422 rg_R0 (rg_J (rg_I (rg_I (rg_I (rg_I M 90 1 0) 90 2 0) 90 3 (-1)) 90 4 0) 90 5 0) (fun r => r = M.1 90 1)) 0 0 (rg_A B) := by
  refine rg_ofW (by decide +kernel) rfl (Nat.le_of_ble_eq_true rfl) ?_
  intro p e s m args below meth c ls C0 hH hl hr hlocks hnm
  replace hl : lv_has ls 2 [(0, .ref (B + 0))] := hl
  have hx := C0.1.1
  have hb := C0.1.2.1
  generalize hH9 : s.heap = H at hH ⊢
  generalize hL9 : ([] : List Loc) = locs at hH ⊢
  clear hH9 hL9
  refine lv_aload_n hx hb dX6_clear_0 rfl (lv_at hl 0 rfl) ?_
  refine rg_gR C0 hH (o2 := 90) (ci := 6) (k := 3) (o := 0) rfl rfl inT_X6 (by decide) tw_f_X6_35 (by decide) rfl (by decide) rfl dX6_clear_1 ?_
  refine rg_nI C0 hH (ci := 5) (k := 1) (o := 90) rfl inT_X5 (by decide) (by decide) (by decide) rfl (by decide) rfl dX6_clear_4 ?_
  refine lv_istore_n (lv' := [(1, .int (M.1 90 1)), (0, .ref (B + 0))]) hx hb dX6_clear_7 rfl hl (by decide) rfl (fun ls hl => ?_)
  refine lv_aload_n hx hb dX6_clear_8 rfl (lv_at hl 1 rfl) ?_
  refine rg_gR C0 hH (o2 := 90) (ci := 6) (k := 3) (o := 0) rfl rfl inT_X6 (by decide) tw_f_X6_35 (by decide) rfl (by decide) rfl dX6_clear_9 ?_
  refine rg_callRv C0 hH (As := []) (rest := []) (o := 90) (ci := 5) (k_X5_empty l E B M 90 (by exact rg_isV_d)) (rg_cw 0 C0.1.2.2.2.2 tw_m_X6_151 tw_i_X5_empty tw_v_X5_empty tw_n_X5 tw_c_X5_empty rfl rfl hd_X5_empty ⟨Nat.le_of_ble_eq_true rfl, Nat.le_of_ble_eq_true rfl⟩) rfl (by decide) rfl (by decide) rfl hl.1 rfl (Nat.le_of_ble_eq_true rfl) dX6_clear_12 ⟨Nat.le_of_ble_eq_true rfl, Nat.le_of_ble_eq_true rfl⟩ (fun H locs e_12 hH => ?_)
  refine lv_iload_n hx hb dX6_clear_15 rfl (lv_at hl 0 rfl) ?_
  exact rg_retRi C0 hH hr hlocks rfl rfl dX6_clear_16

set_option maxHeartbeats 4000000 in
set_option maxRecDepth 100000 in
/-- why -/
theorem k_X6_why (l : Launch) (E : rg_Env) (B : Nat) (M : rg_Mem) : Met l yX6_why (rg_w yX6_why cX6_why 1 (some (FieldType.int))) ({ frames := 0, cells := 0, slots := 0, locals := 0 } : Room) (va_Pc [.ref (B + 0)] (rg_Pre E B 422 rg_R0 M)) (rg_Ri E B 422 rg_R0 (M) (fun r => r = M.1 0 12)) 0 0 (rg_A B) := by
  refine rg_ofW (by decide +kernel) rfl (Nat.le_of_ble_eq_true rfl) ?_
  intro p e s m args below meth c ls C0 hH hl hr hlocks hnm
  replace hl : lv_has ls 1 [(0, .ref (B + 0))] := hl
  have hx := C0.1.1
  have hb := C0.1.2.1
  generalize hH9 : s.heap = H at hH ⊢
  generalize hL9 : ([] : List Loc) = locs at hH ⊢
  clear hH9 hL9
  refine lv_aload_n hx hb dX6_why_0 rfl (lv_at hl 0 rfl) ?_
  refine rg_gI C0 hH (ci := 6) (k := 12) (o := 0) rfl inT_X6 (by decide) tw_f_X6_64 (by decide) rfl (by decide) rfl dX6_why_1 ?_
  exact rg_retRi C0 hH hr hlocks rfl rfl dX6_why_4

set_option maxHeartbeats 4000000 in
set_option maxRecDepth 100000 in
/-- links -/
theorem k_X6_links (l : Launch) (E : rg_Env) (B : Nat) (M : rg_Mem) : Met l yX6_links (rg_w yX6_links cX6_links 1 (some (FieldType.int))) ({ frames := 0, cells := 0, slots := 0, locals := 0 } : Room) (va_Pc [.ref (B + 0)] (rg_Pre E B 422 rg_R0 M)) (rg_Ri E B 422 rg_R0 (M) (fun r => r = M.1 6 4)) 0 0 (rg_A B) := by
  refine rg_ofW (by decide +kernel) rfl (Nat.le_of_ble_eq_true rfl) ?_
  intro p e s m args below meth c ls C0 hH hl hr hlocks hnm
  replace hl : lv_has ls 1 [(0, .ref (B + 0))] := hl
  have hx := C0.1.1
  have hb := C0.1.2.1
  generalize hH9 : s.heap = H at hH ⊢
  generalize hL9 : ([] : List Loc) = locs at hH ⊢
  clear hH9 hL9
  refine lv_aload_n hx hb dX6_links_0 rfl (lv_at hl 0 rfl) ?_
  refine rg_gR C0 hH (o2 := 6) (ci := 6) (k := 1) (o := 0) rfl rfl inT_X6 (by decide) tw_f_X6_19 (by decide) rfl (by decide) rfl dX6_links_1 ?_
  refine rg_nI C0 hH (ci := 1) (k := 4) (o := 6) rfl inT_X1 (by decide) (by decide) (by decide) rfl (by decide) rfl dX6_links_4 ?_
  exact rg_retRi C0 hH hr hlocks rfl rfl dX6_links_7

set_option maxHeartbeats 4000000 in
set_option maxRecDepth 100000 in
/-- offers -/
theorem k_X6_offers (l : Launch) (E : rg_Env) (B : Nat) (M : rg_Mem) : Met l yX6_offers (rg_w yX6_offers cX6_offers 1 (some (FieldType.int))) ({ frames := 0, cells := 0, slots := 0, locals := 0 } : Room) (va_Pc [.ref (B + 0)] (rg_Pre E B 422 rg_R0 M)) (rg_Ri E B 422 rg_R0 (M) (fun r => r = M.1 0 10)) 0 0 (rg_A B) := by
  refine rg_ofW (by decide +kernel) rfl (Nat.le_of_ble_eq_true rfl) ?_
  intro p e s m args below meth c ls C0 hH hl hr hlocks hnm
  replace hl : lv_has ls 1 [(0, .ref (B + 0))] := hl
  have hx := C0.1.1
  have hb := C0.1.2.1
  generalize hH9 : s.heap = H at hH ⊢
  generalize hL9 : ([] : List Loc) = locs at hH ⊢
  clear hH9 hL9
  refine lv_aload_n hx hb dX6_offers_0 rfl (lv_at hl 0 rfl) ?_
  refine rg_gI C0 hH (ci := 6) (k := 10) (o := 0) rfl inT_X6 (by decide) tw_f_X6_117 (by decide) rfl (by decide) rfl dX6_offers_1 ?_
  exact rg_retRi C0 hH hr hlocks rfl rfl dX6_offers_4

set_option maxHeartbeats 4000000 in
set_option maxRecDepth 100000 in
/-- give -/
theorem k_X6_give (l : Launch) (hst : l.stackTraces = false) (E : rg_Env) (B : Nat) (M : rg_Mem) (x : Int32) (y : Int32) (z : Int32) (hI : rg_CI M) : vx_Met l yX6_give (rg_w yX6_give cX6_give 5 (some (FieldType.int))) ({ frames := 7, cells := 2, slots := 12, locals := 113 } : Room) (va_Pc [.ref (B + 0), .int (x), .int (y), .int (z)] (rg_Pre E B 422 rg_R0 M)) (rg_Ri E B 422 rg_R0 (rg_I M (13 + x.toNatClampNeg) y.toNatClampNeg z) (fun r => (((¬ x < 0 ∧ x < 4) ∧ rg_hl M y) ∧ rg_in z 0 10) ∧ r = M.1 (13 + x.toNatClampNeg) y.toNatClampNeg)) (rg_X E B 422 rg_R0 M (fun X => (¬ ((¬ x < 0 ∧ x < 4) ∧ rg_hl M y) ∧ X = "java/lang/IndexOutOfBoundsException") ∨ (((¬ x < 0 ∧ x < 4) ∧ rg_hl M y) ∧ ¬ (rg_in z 0 10) ∧ X = "java/lang/IllegalArgumentException"))) 2 12 (rg_A B) := by
  refine rg_xofW (by decide +kernel) rfl (Nat.le_of_ble_eq_true rfl) ?_
  intro p e s m args below meth c ls hne C0 hH hl hr hlocks
  replace hl : lv_has ls 5 [(0, .ref (B + 0)), (1, .int (x)), (2, .int (y)), (3, .int (z))] := hl
  have hx := C0.1.1
  have hb := C0.1.2.1
  generalize hH9 : s.heap = H at hH ⊢
  generalize hL9 : ([] : List Loc) = locs at hH ⊢
  clear hH9 hL9
  refine lv_iload_n hx hb dX6_give_0 rfl (lv_at hl 1 rfl) ?_
  refine lv_if_lt (tgt := 9) hx hb dX6_give_1 (by decide) (fun c_1 => ?_) (fun c_1 => ?_)
  · exact rg_throw C0 hH hst (cls := "java/lang/IndexOutOfBoundsException") (text := "there is no such judge") (names := ["java/lang/RuntimeException", "java/lang/Exception"]) hne hlocks (by decide +kernel) (by decide +kernel) tw_k_X6_126 tw_n_IndexOutOfBoundsException (by decide) (by decide) rg_at_ioob rg_ab_ioob rg_ag_ioob hl.1 dX6_give_9 dX6_give_12 dX6_give_13 dX6_give_15 dX6_give_18 (Nat.le_of_ble_eq_true rfl) (Nat.le_of_ble_eq_true rfl) (Nat.le_of_ble_eq_true rfl) (Nat.le_of_ble_eq_true rfl) (by first | exact Or.inl ⟨fun q => q.1.1 c_1, rfl⟩ | exact Or.inl ⟨fun q => c_6 q.1.2, rfl⟩) (Nat.le_of_ble_eq_true rfl) (Nat.le_of_ble_eq_true rfl)
  · refine lv_iload_n hx hb dX6_give_4 rfl (lv_at hl 1 rfl) ?_
    refine lv_iconst (v := 4) hx hb dX6_give_5 (by decide) ?_
    refine lv_icmp_lt (tgt := 19) hx hb dX6_give_6 (by decide) (fun c_6 => ?_) (fun c_6 => ?_)
    · refine lv_aload_n hx hb dX6_give_19 rfl (lv_at hl 0 rfl) ?_
      refine lv_iload_n hx hb dX6_give_20 rfl (lv_at hl 2 rfl) ?_
      refine rg_xcallRv C0 hH (As := [.int (y)]) (rest := []) (o := 0) (ci := 6) hne hlocks (fun X hX => by exact Or.inl ⟨fun q => hX.1 q.2, hX.2⟩) (k_X6_needLink l hst E B M y) (rg_cw 1 C0.1.2.2.2.2 tw_m_X6_179 tw_i_X6_needLink tw_v_X6_needLink tw_n_X6 tw_c_X6_needLink rfl rfl hd_X6_needLink ⟨Nat.le_of_ble_eq_true rfl, Nat.le_of_ble_eq_true rfl⟩) rfl (by decide) rfl (by decide) rfl hl.1 rfl (Nat.le_of_ble_eq_true rfl) dX6_give_21 ⟨Nat.le_of_ble_eq_true rfl, Nat.le_of_ble_eq_true rfl⟩ ⟨Nat.le_of_ble_eq_true rfl, Nat.le_of_ble_eq_true rfl⟩ (fun H locs e_21 hH => ?_)
      refine lv_aload_n hx hb dX6_give_24 rfl (lv_at hl 0 rfl) ?_
      refine lv_iload_n hx hb dX6_give_25 rfl (lv_at hl 3 rfl) ?_
      refine lv_iconst (v := 0) hx hb dX6_give_26 (by decide) ?_
      refine lv_bipush (v := 10) hx hb dX6_give_27 (by decide) ?_
      refine rg_xcallRv C0 hH (As := [.int (z), .int (0), .int (10)]) (rest := []) (o := 0) (ci := 6) hne hlocks (fun X hX => by exact Or.inr ⟨⟨⟨c_1, c_6⟩, e_21⟩, hX.1, hX.2⟩) (k_X6_needRange l hst E B M z 0 10) (rg_cw 3 C0.1.2.2.2.2 tw_m_X6_68 tw_i_X6_needRange tw_v_X6_needRange tw_n_X6 tw_c_X6_needRange rfl rfl hd_X6_needRange ⟨Nat.le_of_ble_eq_true rfl, Nat.le_of_ble_eq_true rfl⟩) rfl (by decide) rfl (by decide) rfl hl.1 rfl (Nat.le_of_ble_eq_true rfl) dX6_give_29 ⟨Nat.le_of_ble_eq_true rfl, Nat.le_of_ble_eq_true rfl⟩ ⟨Nat.le_of_ble_eq_true rfl, Nat.le_of_ble_eq_true rfl⟩ (fun H locs e_29 hH => ?_)
      refine lv_aload_n hx hb dX6_give_32 rfl (lv_at hl 0 rfl) ?_
      refine rg_gR C0 hH (o2 := 6) (ci := 6) (k := 1) (o := 0) rfl rfl inT_X6 (by decide) tw_f_X6_19 (by decide) rfl (by decide) rfl dX6_give_33 ?_
      refine rg_nR C0 hH (o2 := 12) (ci := 1) (k := 10) (o := 6) rfl rfl inT_X1 (by decide) (by decide) (by decide) rfl (by decide) rfl dX6_give_36 ?_
      refine lv_iload_n hx hb dX6_give_39 rfl (lv_at hl 1 rfl) ?_
      refine rg_aald C0 hH (o := 12) (o2 := (13 + x.toNatClampNeg)) (rg_R0_12 _ (rg_in_lt (rg_lt_in (n := 4) (a := 4) rfl (by omega) c_1 c_6))) (by decide) rfl (by decide) (rg_vin rfl (by exact rg_lt_in (n := 4) (a := 4) rfl (by omega) c_1 c_6)) dX6_give_40 ?_
      refine lv_iload_n hx hb dX6_give_41 rfl (lv_at hl 2 rfl) ?_
      refine rg_iald C0 hH (o := (13 + x.toNatClampNeg)) (by have := (rg_in_lt (rg_lt_in (n := 4) (a := 4) rfl (by omega) c_1 c_6)); omega) (rg_kdP _ (rg_in_lt (rg_lt_in (n := 4) (a := 4) rfl (by omega) c_1 c_6))).1 (rg_vin (rg_kdP _ (rg_in_lt (rg_lt_in (n := 4) (a := 4) rfl (by omega) c_1 c_6))).2 (by exact rg_hl_in (rg_CI_mn hI) e_21)) dX6_give_42 ?_
      refine lv_istore (lv' := [(4, .int (M.1 (13 + x.toNatClampNeg) y.toNatClampNeg)), (0, .ref (B + 0)), (1, .int (x)), (2, .int (y)), (3, .int (z))]) hx hb dX6_give_43 hl (by decide) rfl (fun ls hl => ?_)
      refine lv_aload_n hx hb dX6_give_45 rfl (lv_at hl 1 rfl) ?_
      refine rg_gR C0 hH (o2 := 6) (ci := 6) (k := 1) (o := 0) rfl rfl inT_X6 (by decide) tw_f_X6_19 (by decide) rfl (by decide) rfl dX6_give_46 ?_
      refine rg_nR C0 hH (o2 := 12) (ci := 1) (k := 10) (o := 6) rfl rfl inT_X1 (by decide) (by decide) (by decide) rfl (by decide) rfl dX6_give_49 ?_
      refine lv_iload_n hx hb dX6_give_52 rfl (lv_at hl 2 rfl) ?_
      refine rg_aald C0 hH (o := 12) (o2 := (13 + x.toNatClampNeg)) (rg_R0_12 _ (rg_in_lt (rg_lt_in (n := 4) (a := 4) rfl (by omega) c_1 c_6))) (by decide) rfl (by decide) (rg_vin rfl (by exact rg_lt_in (n := 4) (a := 4) rfl (by omega) c_1 c_6)) dX6_give_53 ?_
      refine lv_iload_n hx hb dX6_give_54 rfl (lv_at hl 3 rfl) ?_
      refine lv_iload_n hx hb dX6_give_55 rfl (lv_at hl 4 rfl) ?_
      refine rg_iast C0 hH (o := (13 + x.toNatClampNeg)) (by have := (rg_in_lt (rg_lt_in (n := 4) (a := 4) rfl (by omega) c_1 c_6)); omega) (rg_kdP _ (rg_in_lt (rg_lt_in (n := 4) (a := 4) rfl (by omega) c_1 c_6))).1 (rg_vin (rg_kdP _ (rg_in_lt (rg_lt_in (n := 4) (a := 4) rfl (by omega) c_1 c_6))).2 (by exact rg_hl_in (rg_CI_mn hI) e_21)) dX6_give_56 (fun H locs hH => ?_)
      refine lv_iload hx hb dX6_give_57 (lv_at hl 0 rfl) ?_
      refine vx_ret ?_
      refine W.widen (k := 2) (n := 12) (Nat.le_of_ble_eq_true rfl) (Nat.le_of_ble_eq_true rfl) ?_
      exact rg_retRi C0 hH hr hlocks rfl (by exact ⟨⟨⟨⟨c_1, c_6⟩, e_21⟩, e_29⟩, rfl⟩) dX6_give_59
    · exact rg_throw C0 hH hst (cls := "java/lang/IndexOutOfBoundsException") (text := "there is no such judge") (names := ["java/lang/RuntimeException", "java/lang/Exception"]) hne hlocks (by decide +kernel) (by decide +kernel) tw_k_X6_126 tw_n_IndexOutOfBoundsException (by decide) (by decide) rg_at_ioob rg_ab_ioob rg_ag_ioob hl.1 dX6_give_9 dX6_give_12 dX6_give_13 dX6_give_15 dX6_give_18 (Nat.le_of_ble_eq_true rfl) (Nat.le_of_ble_eq_true rfl) (Nat.le_of_ble_eq_true rfl) (Nat.le_of_ble_eq_true rfl) (by first | exact Or.inl ⟨fun q => q.1.1 c_1, rfl⟩ | exact Or.inl ⟨fun q => c_6 q.1.2, rfl⟩) (Nat.le_of_ble_eq_true rfl) (Nat.le_of_ble_eq_true rfl)

set_option maxHeartbeats 4000000 in
set_option maxRecDepth 100000 in
/-- hide -/
theorem k_X6_hide (l : Launch) (hst : l.stackTraces = false) (E : rg_Env) (B : Nat) (M : rg_Mem) (x : Int32) (y : Int32) (hI : rg_CI M) (hy : y = 0 ∨ y = 1) : vx_Met l yX6_hide (rg_w yX6_hide cX6_hide 4 (some (FieldType.boolean))) ({ frames := 7, cells := 1, slots := 6, locals := 111 } : Room) (va_Pc [.ref (B + 0), .int (x), .int (y)] (rg_Pre E B 422 rg_R0 M)) (rg_Ri E B 422 rg_R0 (rg_I M 10 x.toNatClampNeg y) (fun r => rg_hl M x ∧ r = M.1 10 x.toNatClampNeg)) (rg_X E B 422 rg_R0 M (fun X => ¬ rg_hl M x ∧ X = "java/lang/IndexOutOfBoundsException")) 1 6 (rg_A B) := by
  refine rg_xofW (by decide +kernel) rfl (Nat.le_of_ble_eq_true rfl) ?_
  intro p e s m args below meth c ls hne C0 hH hl hr hlocks
  replace hl : lv_has ls 4 [(0, .ref (B + 0)), (1, .int (x)), (2, .int (y))] := hl
  have hx := C0.1.1
  have hb := C0.1.2.1
  generalize hH9 : s.heap = H at hH ⊢
  generalize hL9 : ([] : List Loc) = locs at hH ⊢
  clear hH9 hL9
  refine lv_aload_n hx hb dX6_hide_0 rfl (lv_at hl 0 rfl) ?_
  refine lv_iload_n hx hb dX6_hide_1 rfl (lv_at hl 1 rfl) ?_
  refine rg_xcallRv C0 hH (As := [.int (x)]) (rest := []) (o := 0) (ci := 6) hne hlocks (fun X hX => by exact hX) (k_X6_needLink l hst E B M x) (rg_cw 1 C0.1.2.2.2.2 tw_m_X6_179 tw_i_X6_needLink tw_v_X6_needLink tw_n_X6 tw_c_X6_needLink rfl rfl hd_X6_needLink ⟨Nat.le_of_ble_eq_true rfl, Nat.le_of_ble_eq_true rfl⟩) rfl (by decide) rfl (by decide) rfl hl.1 rfl (Nat.le_of_ble_eq_true rfl) dX6_hide_2 ⟨Nat.le_of_ble_eq_true rfl, Nat.le_of_ble_eq_true rfl⟩ ⟨Nat.le_of_ble_eq_true rfl, Nat.le_of_ble_eq_true rfl⟩ (fun H locs e_2 hH => ?_)
  refine lv_aload_n hx hb dX6_hide_5 rfl (lv_at hl 0 rfl) ?_
  refine rg_gR C0 hH (o2 := 6) (ci := 6) (k := 1) (o := 0) rfl rfl inT_X6 (by decide) tw_f_X6_19 (by decide) rfl (by decide) rfl dX6_hide_6 ?_
  refine rg_nR C0 hH (o2 := 10) (ci := 1) (k := 8) (o := 6) rfl rfl inT_X1 (by decide) (by decide) (by decide) rfl (by decide) rfl dX6_hide_9 ?_
  refine lv_iload_n hx hb dX6_hide_12 rfl (lv_at hl 1 rfl) ?_
  refine rg_zald C0 hH (o := 10) (by decide) rfl (rg_vin rfl (by exact rg_hl_in (rg_CI_mn hI) e_2)) dX6_hide_13 ?_
  refine lv_istore_n (lv' := [(3, .int (M.1 10 x.toNatClampNeg)), (0, .ref (B + 0)), (1, .int (x)), (2, .int (y))]) hx hb dX6_hide_14 rfl hl (by decide) rfl (fun ls hl => ?_)
  refine lv_aload_n hx hb dX6_hide_15 rfl (lv_at hl 1 rfl) ?_
  refine rg_gR C0 hH (o2 := 6) (ci := 6) (k := 1) (o := 0) rfl rfl inT_X6 (by decide) tw_f_X6_19 (by decide) rfl (by decide) rfl dX6_hide_16 ?_
  refine rg_nR C0 hH (o2 := 10) (ci := 1) (k := 8) (o := 6) rfl rfl inT_X1 (by decide) (by decide) (by decide) rfl (by decide) rfl dX6_hide_19 ?_
  refine lv_iload_n hx hb dX6_hide_22 rfl (lv_at hl 2 rfl) ?_
  refine lv_iload_n hx hb dX6_hide_23 rfl (lv_at hl 3 rfl) ?_
  refine rg_zast C0 hH (o := 10) (by decide) rfl (by exact hy) (rg_vin rfl (by exact rg_hl_in (rg_CI_mn hI) e_2)) dX6_hide_24 (fun H locs hH => ?_)
  refine lv_iload_n hx hb dX6_hide_25 rfl (lv_at hl 0 rfl) ?_
  refine vx_ret ?_
  refine W.widen (k := 1) (n := 6) (Nat.le_of_ble_eq_true rfl) (Nat.le_of_ble_eq_true rfl) ?_
  exact rg_retRz C0 hH hr hlocks (by exact (rg_CI_h hI _ (rg_hl_lt hI e_2)).1) rfl (by exact ⟨e_2, rfl⟩) dX6_hide_26

set_option maxHeartbeats 4000000 in
set_option maxRecDepth 100000 in
/-- ofLink -/
theorem k_X6_ofLink (l : Launch) (hst : l.stackTraces = false) (E : rg_Env) (B : Nat) (M : rg_Mem) (x : Int32) (y : Int32) (hI : rg_CI M) : vx_Met l yX6_ofLink (rg_w yX6_ofLink cX6_ofLink 3 (some (FieldType.int))) ({ frames := 7, cells := 2, slots := 12, locals := 113 } : Room) (va_Pc [.ref (B + 0), .int (x), .int (y)] (rg_Pre E B 422 rg_R0 M)) (rg_Ri E B 422 rg_R0 (M) (fun r => (rg_hl M x ∧ rg_in y 0 5) ∧ r = rg_ol M x.toNatClampNeg y.toNatClampNeg)) (rg_X E B 422 rg_R0 M (fun X => (¬ (rg_hl M x) ∧ X = "java/lang/IndexOutOfBoundsException") ∨ ((rg_hl M x) ∧ ¬ (rg_in y 0 5) ∧ X = "java/lang/IllegalArgumentException"))) 2 12 (rg_A B) := by
  refine rg_xofW (by decide +kernel) rfl (Nat.le_of_ble_eq_true rfl) ?_
  intro p e s m args below meth c ls hne C0 hH hl hr hlocks
  replace hl : lv_has ls 3 [(0, .ref (B + 0)), (1, .int (x)), (2, .int (y))] := hl
  have hx := C0.1.1
  have hb := C0.1.2.1
  generalize hH9 : s.heap = H at hH ⊢
  generalize hL9 : ([] : List Loc) = locs at hH ⊢
  clear hH9 hL9
  refine lv_aload_n hx hb dX6_ofLink_0 rfl (lv_at hl 0 rfl) ?_
  refine lv_iload_n hx hb dX6_ofLink_1 rfl (lv_at hl 1 rfl) ?_
  refine rg_xcallRv C0 hH (As := [.int (x)]) (rest := []) (o := 0) (ci := 6) hne hlocks (fun X hX => by exact Or.inl ⟨hX.1, hX.2⟩) (k_X6_needLink l hst E B M x) (rg_cw 1 C0.1.2.2.2.2 tw_m_X6_179 tw_i_X6_needLink tw_v_X6_needLink tw_n_X6 tw_c_X6_needLink rfl rfl hd_X6_needLink ⟨Nat.le_of_ble_eq_true rfl, Nat.le_of_ble_eq_true rfl⟩) rfl (by decide) rfl (by decide) rfl hl.1 rfl (Nat.le_of_ble_eq_true rfl) dX6_ofLink_2 ⟨Nat.le_of_ble_eq_true rfl, Nat.le_of_ble_eq_true rfl⟩ ⟨Nat.le_of_ble_eq_true rfl, Nat.le_of_ble_eq_true rfl⟩ (fun H locs e_2 hH => ?_)
  refine lv_aload_n hx hb dX6_ofLink_5 rfl (lv_at hl 0 rfl) ?_
  refine lv_iload_n hx hb dX6_ofLink_6 rfl (lv_at hl 2 rfl) ?_
  refine lv_iconst (v := 0) hx hb dX6_ofLink_7 (by decide) ?_
  refine lv_iconst (v := 5) hx hb dX6_ofLink_8 (by decide) ?_
  refine rg_xcallRv C0 hH (As := [.int (y), .int (0), .int (5)]) (rest := []) (o := 0) (ci := 6) hne hlocks (fun X hX => by exact Or.inr ⟨e_2, hX.1, hX.2⟩) (k_X6_needRange l hst E B M y 0 5) (rg_cw 3 C0.1.2.2.2.2 tw_m_X6_68 tw_i_X6_needRange tw_v_X6_needRange tw_n_X6 tw_c_X6_needRange rfl rfl hd_X6_needRange ⟨Nat.le_of_ble_eq_true rfl, Nat.le_of_ble_eq_true rfl⟩) rfl (by decide) rfl (by decide) rfl hl.1 rfl (Nat.le_of_ble_eq_true rfl) dX6_ofLink_9 ⟨Nat.le_of_ble_eq_true rfl, Nat.le_of_ble_eq_true rfl⟩ ⟨Nat.le_of_ble_eq_true rfl, Nat.le_of_ble_eq_true rfl⟩ (fun H locs e_9 hH => ?_)
  refine lv_iload_n hx hb dX6_ofLink_12 rfl (lv_at hl 2 rfl) ?_
  obtain ⟨t, ht, rfl⟩ := rg_in_k (n := 5) (hi := 5) rfl e_9
  rcases (show t = 0 ∨ t = 1 ∨ t = 2 ∨ t = 3 ∨ t = 4 ∨ t = 5 by omega) with rfl | rfl | rfl | rfl | rfl | rfl
  · refine lv_tableIn (off := 35) (tgt := 48) hx hb dX6_ofLink_13 (by decide) (by decide) rfl (by decide) ?_
    refine lv_aload_n hx hb dX6_ofLink_48 rfl (lv_at hl 0 rfl) ?_
    refine rg_gR C0 hH (o2 := 6) (ci := 6) (k := 1) (o := 0) rfl rfl inT_X6 (by decide) tw_f_X6_19 (by decide) rfl (by decide) rfl dX6_ofLink_49 ?_
    refine rg_nR C0 hH (o2 := 10) (ci := 1) (k := 8) (o := 6) rfl rfl inT_X1 (by decide) (by decide) (by decide) rfl (by decide) rfl dX6_ofLink_52 ?_
    refine lv_iload_n hx hb dX6_ofLink_55 rfl (lv_at hl 1 rfl) ?_
    refine rg_zald C0 hH (o := 10) (by decide) rfl (rg_vin rfl (by exact rg_hl_in (rg_CI_mn hI) e_2)) dX6_ofLink_56 ?_
    refine lv_if_eq (tgt := 64) hx hb dX6_ofLink_57 (by decide) (fun c_57 => ?_) (fun c_57 => ?_)
    · refine lv_aload_n hx hb dX6_ofLink_64 rfl (lv_at hl 0 rfl) ?_
      refine rg_gR C0 hH (o2 := 6) (ci := 6) (k := 1) (o := 0) rfl rfl inT_X6 (by decide) tw_f_X6_19 (by decide) rfl (by decide) rfl dX6_ofLink_65 ?_
      refine lv_iload_n hx hb dX6_ofLink_68 rfl (lv_at hl 1 rfl) ?_
      refine rg_callGi C0 hH (As := [.int (x)]) (rest := []) (o := 6) (ci := 1) (k_X1_makerAt l E B M x (by exact rg_CI_mn hI)) (rg_cw 1 C0.1.2.2.2.2 tw_m_X6_227 tw_i_X1_makerAt tw_v_X1_makerAt tw_n_X1 tw_c_X1_makerAt rfl rfl hd_X1_makerAt ⟨Nat.le_of_ble_eq_true rfl, Nat.le_of_ble_eq_true rfl⟩) rfl (by decide) rfl (by decide) rfl hl.1 rfl (Nat.le_of_ble_eq_true rfl) dX6_ofLink_69 ⟨Nat.le_of_ble_eq_true rfl, Nat.le_of_ble_eq_true rfl⟩ (fun H locs hH => ?_)
      refine rg_topi (y := M.1 9 x.toNatClampNeg) (by rw [if_pos e_2]) ?_
      refine vx_ret ?_
      refine W.widen (k := 2) (n := 12) (Nat.le_of_ble_eq_true rfl) (Nat.le_of_ble_eq_true rfl) ?_
      exact rg_retRi C0 hH hr hlocks rfl (by refine ⟨⟨e_2, e_9⟩, ?_⟩; exact (if_pos c_57).symm) dX6_ofLink_72
    · refine lv_iconst (v := (-1)) hx hb dX6_ofLink_60 (by decide) ?_
      refine lv_goto (tgt := 72) hx hb dX6_ofLink_61 (by decide) ?_
      refine vx_ret ?_
      refine W.widen (k := 2) (n := 12) (Nat.le_of_ble_eq_true rfl) (Nat.le_of_ble_eq_true rfl) ?_
      exact rg_retRi C0 hH hr hlocks rfl (by refine ⟨⟨e_2, e_9⟩, ?_⟩; exact (if_neg c_57).symm) dX6_ofLink_72
  · refine lv_tableIn (off := 60) (tgt := 73) hx hb dX6_ofLink_13 (by decide) (by decide) rfl (by decide) ?_
    refine lv_aload_n hx hb dX6_ofLink_73 rfl (lv_at hl 0 rfl) ?_
    refine rg_gR C0 hH (o2 := 6) (ci := 6) (k := 1) (o := 0) rfl rfl inT_X6 (by decide) tw_f_X6_19 (by decide) rfl (by decide) rfl dX6_ofLink_74 ?_
    refine lv_iload_n hx hb dX6_ofLink_77 rfl (lv_at hl 1 rfl) ?_
    refine rg_callGi C0 hH (As := [.int (x)]) (rest := []) (o := 6) (ci := 1) (k_X1_seasonAt l E B M x (by exact rg_CI_mn hI)) (rg_cw 1 C0.1.2.2.2.2 tw_m_X6_230 tw_i_X1_seasonAt tw_v_X1_seasonAt tw_n_X1 tw_c_X1_seasonAt rfl rfl hd_X1_seasonAt ⟨Nat.le_of_ble_eq_true rfl, Nat.le_of_ble_eq_true rfl⟩) rfl (by decide) rfl (by decide) rfl hl.1 rfl (Nat.le_of_ble_eq_true rfl) dX6_ofLink_78 ⟨Nat.le_of_ble_eq_true rfl, Nat.le_of_ble_eq_true rfl⟩ (fun H locs hH => ?_)
    refine rg_topi (y := M.1 (17 + 2 * x.toNatClampNeg) 3) (by rw [if_pos e_2]) ?_
    refine vx_ret ?_
    refine W.widen (k := 2) (n := 12) (Nat.le_of_ble_eq_true rfl) (Nat.le_of_ble_eq_true rfl) ?_
    exact rg_retRi C0 hH hr hlocks rfl (by refine ⟨⟨e_2, e_9⟩, ?_⟩; rfl) dX6_ofLink_81
  · refine lv_tableIn (off := 69) (tgt := 82) hx hb dX6_ofLink_13 (by decide) (by decide) rfl (by decide) ?_
    refine lv_aload_n hx hb dX6_ofLink_82 rfl (lv_at hl 0 rfl) ?_
    refine rg_gR C0 hH (o2 := 6) (ci := 6) (k := 1) (o := 0) rfl rfl inT_X6 (by decide) tw_f_X6_19 (by decide) rfl (by decide) rfl dX6_ofLink_83 ?_
    refine lv_iload_n hx hb dX6_ofLink_86 rfl (lv_at hl 1 rfl) ?_
    refine rg_callGi C0 hH (As := [.int (x)]) (rest := []) (o := 6) (ci := 1) (k_X1_signsAt l E B M x (by exact rg_CI_mn hI)) (rg_cw 1 C0.1.2.2.2.2 tw_m_X6_233 tw_i_X1_signsAt tw_v_X1_signsAt tw_n_X1 tw_c_X1_signsAt rfl rfl hd_X1_signsAt ⟨Nat.le_of_ble_eq_true rfl, Nat.le_of_ble_eq_true rfl⟩) rfl (by decide) rfl (by decide) rfl hl.1 rfl (Nat.le_of_ble_eq_true rfl) dX6_ofLink_87 ⟨Nat.le_of_ble_eq_true rfl, Nat.le_of_ble_eq_true rfl⟩ (fun H locs hH => ?_)
    refine rg_topi (y := M.1 (17 + 2 * x.toNatClampNeg) 4) (by rw [if_pos e_2]) ?_
    refine vx_ret ?_
    refine W.widen (k := 2) (n := 12) (Nat.le_of_ble_eq_true rfl) (Nat.le_of_ble_eq_true rfl) ?_
    exact rg_retRi C0 hH hr hlocks rfl (by refine ⟨⟨e_2, e_9⟩, ?_⟩; rfl) dX6_ofLink_90
  · refine lv_tableIn (off := 78) (tgt := 91) hx hb dX6_ofLink_13 (by decide) (by decide) rfl (by decide) ?_
    refine lv_aload_n hx hb dX6_ofLink_91 rfl (lv_at hl 0 rfl) ?_
    refine rg_gR C0 hH (o2 := 6) (ci := 6) (k := 1) (o := 0) rfl rfl inT_X6 (by decide) tw_f_X6_19 (by decide) rfl (by decide) rfl dX6_ofLink_92 ?_
    refine rg_nR C0 hH (o2 := 8) (ci := 1) (k := 6) (o := 6) rfl rfl inT_X1 (by decide) (by decide) (by decide) rfl (by decide) rfl dX6_ofLink_95 ?_
    refine lv_iload_n hx hb dX6_ofLink_98 rfl (lv_at hl 1 rfl) ?_
    refine rg_aald C0 hH (o := 8) (o2 := (17 + 2 * x.toNatClampNeg)) (rg_R0_8 _ (rg_in_lt (rg_hl_in (rg_CI_mn hI) e_2))) (by decide) rfl (by decide) (rg_vin rfl (by exact rg_hl_in (rg_CI_mn hI) e_2)) dX6_ofLink_99 ?_
    refine rg_nI C0 hH (ci := 5) (k := 1) (o := (17 + 2 * x.toNatClampNeg)) rfl inT_X5 (by decide) (by decide) (rg_isV_lt (rg_isV_p (rg_in_lt (rg_hl_in (rg_CI_mn hI) e_2)))) (rg_kdV_all _ (rg_in_lt (rg_hl_in (rg_CI_mn hI) e_2))) (by decide) rfl dX6_ofLink_100 ?_
    refine vx_ret ?_
    refine W.widen (k := 2) (n := 12) (Nat.le_of_ble_eq_true rfl) (Nat.le_of_ble_eq_true rfl) ?_
    exact rg_retRi C0 hH hr hlocks rfl (by refine ⟨⟨e_2, e_9⟩, ?_⟩; rfl) dX6_ofLink_103
  · refine lv_tableIn (off := 91) (tgt := 104) hx hb dX6_ofLink_13 (by decide) (by decide) rfl (by decide) ?_
    refine lv_aload_n hx hb dX6_ofLink_104 rfl (lv_at hl 0 rfl) ?_
    refine rg_gR C0 hH (o2 := 6) (ci := 6) (k := 1) (o := 0) rfl rfl inT_X6 (by decide) tw_f_X6_19 (by decide) rfl (by decide) rfl dX6_ofLink_105 ?_
    refine lv_iload_n hx hb dX6_ofLink_108 rfl (lv_at hl 1 rfl) ?_
    refine rg_callGi C0 hH (As := [.int (x)]) (rest := []) (o := 6) (ci := 1) (k_X1_runAt l E B M x (by exact rg_CI_mn hI)) (rg_cw 1 C0.1.2.2.2.2 tw_m_X6_236 tw_i_X1_runAt tw_v_X1_runAt tw_n_X1 tw_c_X1_runAt rfl rfl hd_X1_runAt ⟨Nat.le_of_ble_eq_true rfl, Nat.le_of_ble_eq_true rfl⟩) rfl (by decide) rfl (by decide) rfl hl.1 rfl (Nat.le_of_ble_eq_true rfl) dX6_ofLink_109 ⟨Nat.le_of_ble_eq_true rfl, Nat.le_of_ble_eq_true rfl⟩ (fun H locs hH => ?_)
    refine vx_ret ?_
    refine W.widen (k := 2) (n := 12) (Nat.le_of_ble_eq_true rfl) (Nat.le_of_ble_eq_true rfl) ?_
    exact rg_retRi C0 hH hr hlocks rfl (by refine ⟨⟨e_2, e_9⟩, ?_⟩; exact rg_ru_ol e_2) dX6_ofLink_112
  · refine lv_tableOut (tgt := 113) hx hb dX6_ofLink_13 (Or.inr (by decide)) (by decide) ?_
    refine lv_aload_n hx hb dX6_ofLink_113 rfl (lv_at hl 0 rfl) ?_
    refine rg_gR C0 hH (o2 := 6) (ci := 6) (k := 1) (o := 0) rfl rfl inT_X6 (by decide) tw_f_X6_19 (by decide) rfl (by decide) rfl dX6_ofLink_114 ?_
    refine rg_nR C0 hH (o2 := 11) (ci := 1) (k := 9) (o := 6) rfl rfl inT_X1 (by decide) (by decide) (by decide) rfl (by decide) rfl dX6_ofLink_117 ?_
    refine lv_iload_n hx hb dX6_ofLink_120 rfl (lv_at hl 1 rfl) ?_
    refine rg_zald C0 hH (o := 11) (by decide) rfl (rg_vin rfl (by exact rg_hl_in (rg_CI_mn hI) e_2)) dX6_ofLink_121 ?_
    refine lv_if_eq (tgt := 129) hx hb dX6_ofLink_122 (by decide) (fun c_122 => ?_) (fun c_122 => ?_)
    · refine lv_iconst (v := 0) hx hb dX6_ofLink_129 (by decide) ?_
      refine vx_ret ?_
      refine W.widen (k := 2) (n := 12) (Nat.le_of_ble_eq_true rfl) (Nat.le_of_ble_eq_true rfl) ?_
      exact rg_retRi C0 hH hr hlocks rfl (by refine ⟨⟨e_2, e_9⟩, ?_⟩; exact (if_pos c_122).symm) dX6_ofLink_130
    · refine lv_iconst (v := 1) hx hb dX6_ofLink_125 (by decide) ?_
      refine lv_goto (tgt := 130) hx hb dX6_ofLink_126 (by decide) ?_
      refine vx_ret ?_
      refine W.widen (k := 2) (n := 12) (Nat.le_of_ble_eq_true rfl) (Nat.le_of_ble_eq_true rfl) ?_
      exact rg_retRi C0 hH hr hlocks rfl (by refine ⟨⟨e_2, e_9⟩, ?_⟩; exact (if_neg c_122).symm) dX6_ofLink_130

set_option maxHeartbeats 4000000 in
set_option maxRecDepth 100000 in
/-- wordAt -/
theorem k_X6_wordAt (l : Launch) (hst : l.stackTraces = false) (E : rg_Env) (B : Nat) (M : rg_Mem) (x : Int32) (y : Int32) (hI : rg_CI M) : vx_Met l yX6_wordAt (rg_w yX6_wordAt cX6_wordAt 3 (some (FieldType.int))) ({ frames := 7, cells := 2, slots := 12, locals := 112 } : Room) (va_Pc [.ref (B + 0), .int (x), .int (y)] (rg_Pre E B 422 rg_R0 M)) (rg_Ri E B 422 rg_R0 (M) (fun r => (rg_hl M x ∧ ¬ rg_wp M x y = -1) ∧ r = rg_wp M x y)) (rg_X E B 422 rg_R0 M (fun X => ¬ (rg_hl M x ∧ ¬ rg_wp M x y = -1) ∧ X = "java/lang/IndexOutOfBoundsException")) 2 12 (rg_A B) := by
  refine rg_xofW (by decide +kernel) rfl (Nat.le_of_ble_eq_true rfl) ?_
  intro p e s m args below meth c ls hne C0 hH hl hr hlocks
  replace hl : lv_has ls 3 [(0, .ref (B + 0)), (1, .int (x)), (2, .int (y))] := hl
  have hx := C0.1.1
  have hb := C0.1.2.1
  generalize hH9 : s.heap = H at hH ⊢
  generalize hL9 : ([] : List Loc) = locs at hH ⊢
  clear hH9 hL9
  refine lv_aload_n hx hb dX6_wordAt_0 rfl (lv_at hl 0 rfl) ?_
  refine lv_iload_n hx hb dX6_wordAt_1 rfl (lv_at hl 1 rfl) ?_
  refine rg_xcallRv C0 hH (As := [.int (x)]) (rest := []) (o := 0) (ci := 6) hne hlocks (fun X hX => by exact ⟨fun q => hX.1 q.1, hX.2⟩) (k_X6_needLink l hst E B M x) (rg_cw 1 C0.1.2.2.2.2 tw_m_X6_179 tw_i_X6_needLink tw_v_X6_needLink tw_n_X6 tw_c_X6_needLink rfl rfl hd_X6_needLink ⟨Nat.le_of_ble_eq_true rfl, Nat.le_of_ble_eq_true rfl⟩) rfl (by decide) rfl (by decide) rfl hl.1 rfl (Nat.le_of_ble_eq_true rfl) dX6_wordAt_2 ⟨Nat.le_of_ble_eq_true rfl, Nat.le_of_ble_eq_true rfl⟩ ⟨Nat.le_of_ble_eq_true rfl, Nat.le_of_ble_eq_true rfl⟩ (fun H locs e_2 hH => ?_)
  refine lv_aload_n hx hb dX6_wordAt_5 rfl (lv_at hl 0 rfl) ?_
  refine lv_iload_n hx hb dX6_wordAt_6 rfl (lv_at hl 1 rfl) ?_
  refine lv_iload_n hx hb dX6_wordAt_7 rfl (lv_at hl 2 rfl) ?_
  refine rg_xcallRv C0 hH (As := [.int (x), .int (y)]) (rest := []) (o := 0) (ci := 6) hne hlocks (fun X hX => by exact ⟨fun q => hX.1 q.2, hX.2⟩) (k_X6_needPlace l hst E B M x y (by exact hI)) (rg_cw 2 C0.1.2.2.2.2 tw_m_X6_182 tw_i_X6_needPlace tw_v_X6_needPlace tw_n_X6 tw_c_X6_needPlace rfl rfl hd_X6_needPlace ⟨Nat.le_of_ble_eq_true rfl, Nat.le_of_ble_eq_true rfl⟩) rfl (by decide) rfl (by decide) rfl hl.1 rfl (Nat.le_of_ble_eq_true rfl) dX6_wordAt_8 ⟨Nat.le_of_ble_eq_true rfl, Nat.le_of_ble_eq_true rfl⟩ ⟨Nat.le_of_ble_eq_true rfl, Nat.le_of_ble_eq_true rfl⟩ (fun H locs e_8 hH => ?_)
  refine lv_aload_n hx hb dX6_wordAt_11 rfl (lv_at hl 0 rfl) ?_
  refine rg_gR C0 hH (o2 := 6) (ci := 6) (k := 1) (o := 0) rfl rfl inT_X6 (by decide) tw_f_X6_19 (by decide) rfl (by decide) rfl dX6_wordAt_12 ?_
  refine lv_iload_n hx hb dX6_wordAt_15 rfl (lv_at hl 1 rfl) ?_
  refine lv_iload_n hx hb dX6_wordAt_16 rfl (lv_at hl 2 rfl) ?_
  refine rg_callGi C0 hH (As := [.int (x), .int (y)]) (rest := []) (o := 6) (ci := 1) (k_X1_wordOrNone l E B M x y (by exact rg_CI_mn hI)) (rg_cw 2 C0.1.2.2.2.2 tw_m_X6_242 tw_i_X1_wordOrNone tw_v_X1_wordOrNone tw_n_X1 tw_c_X1_wordOrNone rfl rfl hd_X1_wordOrNone ⟨Nat.le_of_ble_eq_true rfl, Nat.le_of_ble_eq_true rfl⟩) rfl (by decide) rfl (by decide) rfl hl.1 rfl (Nat.le_of_ble_eq_true rfl) dX6_wordAt_17 ⟨Nat.le_of_ble_eq_true rfl, Nat.le_of_ble_eq_true rfl⟩ (fun H locs hH => ?_)
  refine vx_ret ?_
  refine W.widen (k := 2) (n := 12) (Nat.le_of_ble_eq_true rfl) (Nat.le_of_ble_eq_true rfl) ?_
  exact rg_retRi C0 hH hr hlocks rfl (by exact ⟨⟨e_2, e_8⟩, rfl⟩) dX6_wordAt_20

set_option maxHeartbeats 4000000 in
set_option maxRecDepth 100000 in
/-- faultAnew -/
theorem k_X6_faultAnew (l : Launch) (hst : l.stackTraces = false) (E : rg_Env) (B : Nat) (M : rg_Mem) (x : Int32) (hI : rg_CI M) : vx_Met l yX6_faultAnew (rg_w yX6_faultAnew cX6_faultAnew 2 (some (FieldType.int))) ({ frames := 7, cells := 1, slots := 6, locals := 138 } : Room) (va_Pc [.ref (B + 0), .int (x)] (rg_Pre E B 422 rg_R0 M)) (rg_Ri E B 422 rg_R0 (M) (fun r => rg_hl M x ∧ r = rg_f8 (rg_co M (17 + 2 * x.toNatClampNeg) (rg_sz M (17 + 2 * x.toNatClampNeg)) x.toNatClampNeg (rg_sp M) (M.1 9 x.toNatClampNeg)) 8 1)) (rg_X E B 422 rg_R0 M (fun X => ¬ rg_hl M x ∧ X = "java/lang/IndexOutOfBoundsException")) 1 6 (rg_A B) := by
  refine rg_xofW (by decide +kernel) rfl (Nat.le_of_ble_eq_true rfl) ?_
  intro p e s m args below meth c ls hne C0 hH hl hr hlocks
  replace hl : lv_has ls 2 [(0, .ref (B + 0)), (1, .int (x))] := hl
  have hx := C0.1.1
  have hb := C0.1.2.1
  generalize hH9 : s.heap = H at hH ⊢
  generalize hL9 : ([] : List Loc) = locs at hH ⊢
  clear hH9 hL9
  refine lv_aload_n hx hb dX6_faultAnew_0 rfl (lv_at hl 0 rfl) ?_
  refine lv_iload_n hx hb dX6_faultAnew_1 rfl (lv_at hl 1 rfl) ?_
  refine rg_xcallRv C0 hH (As := [.int (x)]) (rest := []) (o := 0) (ci := 6) hne hlocks (fun X hX => by exact hX) (k_X6_needLink l hst E B M x) (rg_cw 1 C0.1.2.2.2.2 tw_m_X6_179 tw_i_X6_needLink tw_v_X6_needLink tw_n_X6 tw_c_X6_needLink rfl rfl hd_X6_needLink ⟨Nat.le_of_ble_eq_true rfl, Nat.le_of_ble_eq_true rfl⟩) rfl (by decide) rfl (by decide) rfl hl.1 rfl (Nat.le_of_ble_eq_true rfl) dX6_faultAnew_2 ⟨Nat.le_of_ble_eq_true rfl, Nat.le_of_ble_eq_true rfl⟩ ⟨Nat.le_of_ble_eq_true rfl, Nat.le_of_ble_eq_true rfl⟩ (fun H locs e_2 hH => ?_)
  obtain ⟨k, hk, rfl⟩ := vp_in_of (rg_hl_in (rg_CI_mn hI) e_2) (by omega)
  have hk2 : k < rg_nl M := by have h8 := rg_hl_lt hI e_2; rw [nI_clamp (by omega)] at h8; exact h8
  rw [nI_clamp (show k < 2 ^ 31 by omega)]
  refine lv_aload_n hx hb dX6_faultAnew_5 rfl (lv_at hl 0 rfl) ?_
  refine rg_gR C0 hH (o2 := 89) (ci := 6) (k := 2) (o := 0) rfl rfl inT_X6 (by decide) tw_f_X6_28 (by decide) rfl (by decide) rfl dX6_faultAnew_6 ?_
  refine lv_aload_n hx hb dX6_faultAnew_9 rfl (lv_at hl 0 rfl) ?_
  refine rg_gR C0 hH (o2 := 6) (ci := 6) (k := 1) (o := 0) rfl rfl inT_X6 (by decide) tw_f_X6_19 (by decide) rfl (by decide) rfl dX6_faultAnew_10 ?_
  refine rg_nR C0 hH (o2 := 8) (ci := 1) (k := 6) (o := 6) rfl rfl inT_X1 (by decide) (by decide) (by decide) rfl (by decide) rfl dX6_faultAnew_13 ?_
  refine lv_iload_n hx hb dX6_faultAnew_16 rfl (lv_at hl 1 rfl) ?_
  refine rg_aaldN C0 hH (o := 8) (o2 := (17 + 2 * k)) (j := k) (n0 := 36) (rg_R0_8 _ hk) (by decide) rfl (by decide) rfl (by omega) dX6_faultAnew_17 ?_
  refine lv_iload_n hx hb dX6_faultAnew_18 rfl (lv_at hl 1 rfl) ?_
  refine lv_aload_n hx hb dX6_faultAnew_19 rfl (lv_at hl 0 rfl) ?_
  refine rg_gR C0 hH (o2 := 6) (ci := 6) (k := 1) (o := 0) rfl rfl inT_X6 (by decide) tw_f_X6_19 (by decide) rfl (by decide) rfl dX6_faultAnew_20 ?_
  refine lv_iload_n hx hb dX6_faultAnew_23 rfl (lv_at hl 1 rfl) ?_
  refine rg_callGi C0 hH (As := [.int (nI k)]) (rest := [.int (nI k), .ref (B + (17 + 2 * k)), .ref (B + 89)]) (o := 6) (ci := 1) (k_X1_makerAt l E B M (nI k) (by exact rg_CI_mn hI)) (rg_cw 1 C0.1.2.2.2.2 tw_m_X6_227 tw_i_X1_makerAt tw_v_X1_makerAt tw_n_X1 tw_c_X1_makerAt rfl rfl hd_X1_makerAt ⟨Nat.le_of_ble_eq_true rfl, Nat.le_of_ble_eq_true rfl⟩) rfl (by decide) rfl (by decide) rfl hl.1 rfl (Nat.le_of_ble_eq_true rfl) dX6_faultAnew_24 ⟨Nat.le_of_ble_eq_true rfl, Nat.le_of_ble_eq_true rfl⟩ (fun H locs hH => ?_)
  refine rg_topi (y := M.1 9 k) (by exact rg_atk (rg_CI_l hI).1 (rg_CI_l hI).2 hk2 (M.1 9) (-1)) ?_
  refine rg_callGi C0 hH (As := [.ref (B + (17 + 2 * k)), .int (nI k), .int (M.1 9 k)]) (rest := []) (o := 89) (ci := 2) (k_X2_firstFault l E B M (17 + 2 * k) (rg_sz M (17 + 2 * k)) k (rg_nl M) (rg_sp M) (M.1 9 k) (rg_isV_p hk) (rg_CI_v hI k hk2) (rg_CI_cn hI) (rg_CI_l hI).1 (rg_CI_l hI).2 (by omega) (rg_CI_s hI).1 (rg_CI_s hI).2) (rg_cw 3 C0.1.2.2.2.2 tw_m_X6_161 tw_i_X2_firstFault tw_v_X2_firstFault tw_n_X2 tw_c_X2_firstFault rfl rfl hd_X2_firstFault ⟨Nat.le_of_ble_eq_true rfl, Nat.le_of_ble_eq_true rfl⟩) rfl (by decide) rfl (by decide) rfl hl.1 rfl (Nat.le_of_ble_eq_true rfl) dX6_faultAnew_27 ⟨Nat.le_of_ble_eq_true rfl, Nat.le_of_ble_eq_true rfl⟩ (fun H locs hH => ?_)
  refine vx_ret ?_
  refine W.widen (k := 1) (n := 6) (Nat.le_of_ble_eq_true rfl) (Nat.le_of_ble_eq_true rfl) ?_
  exact rg_retRi C0 hH hr hlocks rfl (by exact ⟨e_2, rfl⟩) dX6_faultAnew_30

set_option maxHeartbeats 4000000 in
set_option maxRecDepth 100000 in
/-- textWord -/
theorem k_X6_textWord (l : Launch) (E : rg_Env) (B : Nat) (M : rg_Mem) (t : Int32) (x : Int32) (y : Int32) (hI : rg_CI M) : Met l yX6_textWord (rg_w yX6_textWord cX6_textWord 5 (some (FieldType.int))) ({ frames := 2, cells := 0, slots := 0, locals := 44 } : Room) (va_Pc [.ref (B + 0), .int (t), .int (x), .int (y)] (rg_Pre E B 422 rg_R0 M)) (rg_Ri E B 422 rg_R0 (M) (fun r => r = rg_tw M t x y)) 0 0 (rg_A B) := by
  refine rg_ofW (by decide +kernel) rfl (Nat.le_of_ble_eq_true rfl) ?_
  intro p e s m args below meth c ls C0 hH hl hr hlocks hnm
  replace hl : lv_has ls 5 [(0, .ref (B + 0)), (1, .int (t)), (2, .int (x)), (3, .int (y))] := hl
  have hx := C0.1.1
  have hb := C0.1.2.1
  generalize hH9 : s.heap = H at hH ⊢
  generalize hL9 : ([] : List Loc) = locs at hH ⊢
  clear hH9 hL9
  refine lv_iload_n hx hb dX6_textWord_0 rfl (lv_at hl 1 rfl) ?_
  refine lv_iconst (v := (-1)) hx hb dX6_textWord_1 (by decide) ?_
  refine lv_icmp_ne (tgt := 15) hx hb dX6_textWord_2 (by decide) (fun c_2 => ?_) (fun c_2 => ?_)
  · refine lv_iload_n hx hb dX6_textWord_15 rfl (lv_at hl 1 rfl) ?_
    refine lv_if_lt (tgt := 31) hx hb dX6_textWord_16 (by decide) (fun c_16 => ?_) (fun c_16 => ?_)
    · refine lv_iconst (v := 0) hx hb dX6_textWord_31 (by decide) ?_
      refine lv_istore (lv' := [(4, .int (0)), (0, .ref (B + 0)), (1, .int (t)), (2, .int (x)), (3, .int (y))]) hx hb dX6_textWord_32 hl (by decide) rfl (fun ls hl => ?_)
      refine lv_iload hx hb dX6_textWord_34 (lv_at hl 0 rfl) ?_
      refine lv_if_eq (tgt := 53) hx hb dX6_textWord_36 (by decide) (fun c_36 => ?_) (fun c_36 => ?_)
      · refine lv_iconst (v := (-1)) hx hb dX6_textWord_53 (by decide) ?_
        exact rg_retRi C0 hH hr hlocks rfl (by unfold rg_tw; rw [if_neg c_2, if_neg (fun q => q.1 c_16)]) dX6_textWord_54
      · exact absurd c_36 (by decide)
    · refine lv_iload_n hx hb dX6_textWord_19 rfl (lv_at hl 1 rfl) ?_
      refine lv_aload_n hx hb dX6_textWord_20 rfl (lv_at hl 0 rfl) ?_
      refine rg_gI C0 hH (ci := 6) (k := 11) (o := 0) rfl inT_X6 (by decide) tw_f_X6_120 (by decide) rfl (by decide) rfl dX6_textWord_21 ?_
      refine lv_icmp_ge (tgt := 31) hx hb dX6_textWord_24 (by decide) (fun c_24 => ?_) (fun c_24 => ?_)
      · refine lv_iconst (v := 0) hx hb dX6_textWord_31 (by decide) ?_
        refine lv_istore (lv' := [(4, .int (0)), (0, .ref (B + 0)), (1, .int (t)), (2, .int (x)), (3, .int (y))]) hx hb dX6_textWord_32 hl (by decide) rfl (fun ls hl => ?_)
        refine lv_iload hx hb dX6_textWord_34 (lv_at hl 0 rfl) ?_
        refine lv_if_eq (tgt := 53) hx hb dX6_textWord_36 (by decide) (fun c_36 => ?_) (fun c_36 => ?_)
        · refine lv_iconst (v := (-1)) hx hb dX6_textWord_53 (by decide) ?_
          exact rg_retRi C0 hH hr hlocks rfl (by unfold rg_tw; rw [if_neg c_2, if_neg (fun q => rg_nlt_of c_24 q.2)]) dX6_textWord_54
        · exact absurd c_36 (by decide)
      · refine lv_iconst (v := 1) hx hb dX6_textWord_27 (by decide) ?_
        refine lv_goto (tgt := 32) hx hb dX6_textWord_28 (by decide) ?_
        refine lv_istore (lv' := [(4, .int (1)), (0, .ref (B + 0)), (1, .int (t)), (2, .int (x)), (3, .int (y))]) hx hb dX6_textWord_32 hl (by decide) rfl (fun ls hl => ?_)
        refine lv_iload hx hb dX6_textWord_34 (lv_at hl 0 rfl) ?_
        refine lv_if_eq (tgt := 53) hx hb dX6_textWord_36 (by decide) (fun c_36 => ?_) (fun c_36 => ?_)
        · exact absurd c_36 (by decide)
        · have hc9 : rg_cp M t := ⟨c_16, rg_lt_of c_24⟩
          refine lv_aload_n hx hb dX6_textWord_39 rfl (lv_at hl 1 rfl) ?_
          refine rg_gR C0 hH (o2 := 107) (ci := 6) (k := 6) (o := 0) rfl rfl inT_X6 (by decide) tw_f_X6_59 (by decide) rfl (by decide) rfl dX6_textWord_40 ?_
          refine lv_iload_n hx hb dX6_textWord_43 rfl (lv_at hl 2 rfl) ?_
          refine rg_aald C0 hH (o := 107) (o2 := (108 + 38 * t.toNatClampNeg)) (rg_R0_107 _ (rg_in_lt (rg_cp_in hI hc9))) (by decide) rfl (by decide) (rg_vin rfl (by exact rg_cp_in hI hc9)) dX6_textWord_44 ?_
          refine lv_iload_n hx hb dX6_textWord_45 rfl (lv_at hl 3 rfl) ?_
          refine lv_iload_n hx hb dX6_textWord_46 rfl (lv_at hl 4 rfl) ?_
          refine rg_callGi C0 hH (As := [.int (x), .int (y)]) (rest := []) (o := (108 + 38 * t.toNatClampNeg)) (ci := 3) (k_X3_wordOrNone l E B M t.toNatClampNeg x y (by exact rg_in_lt (rg_cp_in hI hc9))) (rg_cw 2 C0.1.2.2.2.2 tw_m_X6_309 tw_i_X3_wordOrNone tw_v_X3_wordOrNone tw_n_X3 tw_c_X3_wordOrNone rfl rfl hd_X3_wordOrNone ⟨Nat.le_of_ble_eq_true rfl, Nat.le_of_ble_eq_true rfl⟩) rfl (rg_kdS2 _ (rg_in_lt (rg_cp_in hI hc9))) (rg_kdS _ (rg_in_lt (rg_cp_in hI hc9))).1 (by decide) rfl hl.1 rfl (Nat.le_of_ble_eq_true rfl) dX6_textWord_47 ⟨Nat.le_of_ble_eq_true rfl, Nat.le_of_ble_eq_true rfl⟩ (fun H locs hH => ?_)
          refine lv_goto (tgt := 54) hx hb dX6_textWord_50 (by decide) ?_
          exact rg_retRi C0 hH hr hlocks rfl (by unfold rg_tw; rw [if_neg c_2, if_pos hc9]) dX6_textWord_54
  · refine lv_aload_n hx hb dX6_textWord_5 rfl (lv_at hl 0 rfl) ?_
    refine rg_gR C0 hH (o2 := 6) (ci := 6) (k := 1) (o := 0) rfl rfl inT_X6 (by decide) tw_f_X6_19 (by decide) rfl (by decide) rfl dX6_textWord_6 ?_
    refine lv_iload_n hx hb dX6_textWord_9 rfl (lv_at hl 2 rfl) ?_
    refine lv_iload_n hx hb dX6_textWord_10 rfl (lv_at hl 3 rfl) ?_
    refine rg_callGi C0 hH (As := [.int (x), .int (y)]) (rest := []) (o := 6) (ci := 1) (k_X1_wordOrNone l E B M x y (by exact rg_CI_mn hI)) (rg_cw 2 C0.1.2.2.2.2 tw_m_X6_242 tw_i_X1_wordOrNone tw_v_X1_wordOrNone tw_n_X1 tw_c_X1_wordOrNone rfl rfl hd_X1_wordOrNone ⟨Nat.le_of_ble_eq_true rfl, Nat.le_of_ble_eq_true rfl⟩) rfl (by decide) rfl (by decide) rfl hl.1 rfl (Nat.le_of_ble_eq_true rfl) dX6_textWord_11 ⟨Nat.le_of_ble_eq_true rfl, Nat.le_of_ble_eq_true rfl⟩ (fun H locs hH => ?_)
    exact rg_retRi C0 hH hr hlocks rfl (by unfold rg_tw rg_wp; rw [if_pos c_2]) dX6_textWord_14
