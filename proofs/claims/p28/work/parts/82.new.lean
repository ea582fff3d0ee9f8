theorem rg_gw {y : MethodName} {bytes : ByteArray} {maxL : Nat} {ret : Option FieldType} (hcode : Cond.code y bytes maxL ret ∈ rg_T) : GoodIn rg_T (rg_w y bytes maxL ret) := fun w hw => by
  have h1 : w ∈ rg_T := (List.mem_cons.mp hw).elim (fun e => by rw [e]; exact hcode) id
  exact ⟨h1, good_of_word (List.mem_filter.mp h1).2⟩
theorem rg_nmq {E : rg_Env} {s : State} (hK : va_K E.1 vwCl (rg_ty E.2) s) (t0 : Nat) {cA : ClassId} {C : String} (h : (rg_ty E.2)[t0]? = some (cA, .object C)) : s.vm.findClass ("[" ++ (FieldType.object C).toString) = some cA := by
  obtain ⟨kA, comp, h1, h2, h3, h4⟩ := (hK.2 t0 _ h).2
  exact h4
theorem rg_I_ne {M : rg_Mem} {o k : Nat} {x : Int32} : ∀ c, c ≠ o → (rg_I M o k x).1 c = M.1 c := fun c hc => rg_I_cell hc
set_option maxHeartbeats 4000000 in
set_option maxRecDepth 100000 in
theorem k_X5_init (l : Launch) (E : rg_Env) (B : Nat) (R : rg_Rfs) (M : rg_Mem) (v : Nat) (hv : rg_isV v) (hfr : rg_fr v R M) : Met l yX5_init (rg_w yX5_init cX5_init 1 none) ({ frames := 1, cells := 1, slots := 6, locals := 12 } : Room) (va_Pc [.ref (B + v)] (rg_PreC E B (v + 1) R M)) (rg_Rc E B v 2 R M) 1 6 (rg_A B) := by
  refine rg_ofWC (by decide +kernel) rfl (Nat.le_of_ble_eq_true rfl) ?_
  intro p e s m args below meth c ls C0 hH hz0 hN hl hr hlocks hnm
  replace hl : lv_has ls 1 [(0, .ref (B + v))] := hl
  have hx := C0.1.1
  have hb := C0.1.2.1
  have hv9 := hv.1
  have hJ := rg_lj_0 (a := 1000) hfr (by omega)
  generalize hH9 : s.heap = H at hH ⊢
  generalize hL9 : ([] : List Loc) = locs at hH ⊢
  clear hH9 hL9
  refine lv_aload_n hx hb dX5_init_0 rfl (lv_at hl 0 rfl) ?_
  refine rg_objI C0 hl.1 tw_m_X5_3 tw_i_objInit tw_c_objInit dX5_init_1 (Nat.le_of_ble_eq_true rfl) (Nat.le_of_ble_eq_true rfl) ?_
  refine lv_aload_n hx hb dX5_init_4 rfl (lv_at hl 0 rfl) ?_
  refine lv_bipush (v := 6) hx hb dX5_init_5 (by decide) ?_
  refine rg_zs (n := v + 1) (rg_lo hH (by omega)) (by omega) (fun hz => ?_)
  refine rg_newI C0 hH hz hJ.2.2.2.2 (n := v + 1) (N' := 6) (rg_isV_w hv).2.1 (rg_isV_w hv).2.2.1 (by decide) rfl (by omega) dX5_init_7 (Nat.le_of_ble_eq_true rfl) (Nat.le_of_ble_eq_true rfl) (fun H hH => ?_)
  replace hJ := rg_lj_a hJ (rg_R0_n (by rw [(rg_isV_w hv).2.1]; decide) (by rw [(rg_isV_w hv).2.1]; decide)) (rg_i0_n (by rw [(rg_isV_w hv).2.1]; decide))
  refine rg_pR C0 hH (o2 := (v + 1)) tyX5 tyX5_ok nmX5 (ci := 5) (k := 0) (o := v) rfl inT_X5 (by decide) tw_f_X5_9 (by omega) hv.2 (by decide) rfl rfl hnm rfl rfl rfl dX5_init_9 (fun H locs hH => ?_)
  replace hJ := rg_lj_p (k := 0) (o := (v + 1)) hJ (by omega) (by omega)
  refine lv_aload_n hx hb dX5_init_12 rfl (lv_at hl 0 rfl) ?_
  refine lv_iconst (v := (-1)) hx hb dX5_init_13 (by decide) ?_
  refine rg_pI C0 hH (v := (-1)) tyX5 tyX5_ok nmX5 (ci := 5) (k := 3) (o := v) rfl inT_X5 (by decide) tw_f_X5_15 (by omega) hv.2 (by decide) rfl rfl rfl rfl dX5_init_14 (fun H locs hH => ?_)
  refine rg_retC C0 (v := v) (z := 2) hH hr hlocks ?_ dX5_init_17
  refine rg_up_of hJ (by omega) (by omega) (by omega) ?_ rg_I_ne rfl ?_
  · rw [rg_R0_v hv]
  · rw [rg_i0_v hv]
    funext q
    show (if v = v ∧ q = 3 then (-1 : Int32) else M.1 v q) = _
    rw [hJ.2.2.1.2.1]
    by_cases e : q = 3 <;> simp [e]

set_option maxHeartbeats 4000000 in
set_option maxRecDepth 100000 in
theorem k_X4_init (l : Launch) (E : rg_Env) (B : Nat) (R : rg_Rfs) (M : rg_Mem) (hfr : rg_fr 1 R M) : Met l yX4_init (rg_w yX4_init cX4_init 1 none) ({ frames := 1, cells := 4, slots := 160, locals := 12 } : Room) (va_Pc [.ref (B + 1)] (rg_PreC E B (2) R M)) (rg_Rc E B 1 5 R M) 4 160 (rg_A B) := by
  refine rg_ofWC (by decide +kernel) rfl (Nat.le_of_ble_eq_true rfl) ?_
  intro p e s m args below meth c ls C0 hH hz0 hN hl hr hlocks hnm
  replace hl : lv_has ls 1 [(0, .ref (B + 1))] := hl
  have hx := C0.1.1
  have hb := C0.1.2.1
  have hJ := rg_lj_0 (a := 1000) hfr (by omega)
  generalize hH9 : s.heap = H at hH ⊢
  generalize hL9 : ([] : List Loc) = locs at hH ⊢
  clear hH9 hL9
  refine lv_aload_n hx hb dX4_init_0 rfl (lv_at hl 0 rfl) ?_
  refine rg_objI C0 hl.1 tw_m_X4_3 tw_i_objInit tw_c_objInit dX4_init_1 (Nat.le_of_ble_eq_true rfl) (Nat.le_of_ble_eq_true rfl) ?_
  refine lv_aload_n hx hb dX4_init_4 rfl (lv_at hl 0 rfl) ?_
  refine lv_bipush (v := 40) hx hb dX4_init_5 (by decide) ?_
  refine rg_zs (n := 2) (rg_lo hH (by omega)) (by omega) (fun hz => ?_)
  refine rg_newI C0 hH hz hJ.2.2.2.2 (n := 2) (N' := 40) rfl rfl (by decide) rfl (by omega) dX4_init_7 (Nat.le_of_ble_eq_true rfl) (Nat.le_of_ble_eq_true rfl) (fun H hH => ?_)
  replace hJ := rg_lj_a hJ (rg_R0_n (by rw [show rg_kd 2 = 8 from rfl]; decide) (by rw [show rg_kd 2 = 8 from rfl]; decide)) (rg_i0_n (by rw [show rg_kd 2 = 8 from rfl]; decide))
  refine rg_pR C0 hH (o2 := 2) tyX4 tyX4_ok nmX4 (ci := 4) (k := 0) (o := 1) rfl inT_X4 (by decide) tw_f_X4_9 (by decide) rfl (by decide) rfl rfl hnm rfl rfl rfl dX4_init_9 (fun H locs hH => ?_)
  replace hJ := rg_lj_p (k := 0) (o := 2) hJ (by omega) (by omega)
  refine lv_aload_n hx hb dX4_init_12 rfl (lv_at hl 0 rfl) ?_
  refine lv_bipush (v := 40) hx hb dX4_init_13 (by decide) ?_
  refine rg_zs (n := 3) (rg_lo hH (by omega)) (by omega) (fun hz => ?_)
  refine rg_newI C0 hH hz hJ.2.2.2.2 (n := 3) (N' := 40) rfl rfl (by decide) rfl (by omega) dX4_init_15 (Nat.le_of_ble_eq_true rfl) (Nat.le_of_ble_eq_true rfl) (fun H hH => ?_)
  replace hJ := rg_lj_a hJ (rg_R0_n (by rw [show rg_kd 3 = 8 from rfl]; decide) (by rw [show rg_kd 3 = 8 from rfl]; decide)) (rg_i0_n (by rw [show rg_kd 3 = 8 from rfl]; decide))
  refine rg_pR C0 hH (o2 := 3) tyX4 tyX4_ok nmX4 (ci := 4) (k := 1) (o := 1) rfl inT_X4 (by decide) tw_f_X4_15 (by decide) rfl (by decide) rfl rfl hnm rfl rfl rfl dX4_init_17 (fun H locs hH => ?_)
  replace hJ := rg_lj_p (k := 1) (o := 3) hJ (by omega) (by omega)
  refine lv_aload_n hx hb dX4_init_20 rfl (lv_at hl 0 rfl) ?_
  refine lv_bipush (v := 40) hx hb dX4_init_21 (by decide) ?_
  refine rg_zs (n := 4) (rg_lo hH (by omega)) (by omega) (fun hz => ?_)
  refine rg_newI C0 hH hz hJ.2.2.2.2 (n := 4) (N' := 40) rfl rfl (by decide) rfl (by omega) dX4_init_23 (Nat.le_of_ble_eq_true rfl) (Nat.le_of_ble_eq_true rfl) (fun H hH => ?_)
  replace hJ := rg_lj_a hJ (rg_R0_n (by rw [show rg_kd 4 = 8 from rfl]; decide) (by rw [show rg_kd 4 = 8 from rfl]; decide)) (rg_i0_n (by rw [show rg_kd 4 = 8 from rfl]; decide))
  refine rg_pR C0 hH (o2 := 4) tyX4 tyX4_ok nmX4 (ci := 4) (k := 2) (o := 1) rfl inT_X4 (by decide) tw_f_X4_18 (by decide) rfl (by decide) rfl rfl hnm rfl rfl rfl dX4_init_25 (fun H locs hH => ?_)
  replace hJ := rg_lj_p (k := 2) (o := 4) hJ (by omega) (by omega)
  refine lv_aload_n hx hb dX4_init_28 rfl (lv_at hl 0 rfl) ?_
  refine lv_bipush (v := 40) hx hb dX4_init_29 (by decide) ?_
  refine rg_zs (n := 5) (rg_lo hH (by omega)) (by omega) (fun hz => ?_)
  refine rg_newJ C0 hH hz hJ.2.2.2.2 (n := 5) (N' := 40) rfl rfl (by decide) rfl (by omega) dX4_init_31 (Nat.le_of_ble_eq_true rfl) (Nat.le_of_ble_eq_true rfl) (fun H hH => ?_)
  replace hJ := rg_lj_a hJ (rg_R0_n (by rw [show rg_kd 5 = 9 from rfl]; decide) (by rw [show rg_kd 5 = 9 from rfl]; decide)) (rg_i0_n (by rw [show rg_kd 5 = 9 from rfl]; decide))
  refine rg_pR C0 hH (o2 := 5) tyX4 tyX4_ok nmX4 (ci := 4) (k := 3) (o := 1) rfl inT_X4 (by decide) tw_f_X4_21 (by decide) rfl (by decide) rfl rfl hnm rfl rfl rfl dX4_init_33 (fun H locs hH => ?_)
  replace hJ := rg_lj_p (k := 3) (o := 5) hJ (by omega) (by omega)
  refine rg_retC C0 (v := 1) (z := 5) hH hr hlocks ?_ dX4_init_36
  refine rg_up_of hJ (by omega) (by omega) (by omega) ?_ (fun _ _ => rfl) rfl ?_
  · funext q
    rcases q with _ | _ | _ | _ | _ | q <;> rfl
  · exact hJ.2.2.1.2.1

set_option maxHeartbeats 4000000 in
set_option maxRecDepth 100000 in
theorem k_X0_init (l : Launch) (E : rg_Env) (B : Nat) (R : rg_Rfs) (M : rg_Mem) (hfr : rg_fr 94 R M) : Met l yX0_init (rg_w yX0_init cX0_init 1 none) ({ frames := 1, cells := 2, slots := 12, locals := 12 } : Room) (va_Pc [.ref (B + 94)] (rg_PreC E B (95) R M)) (rg_Rc E B 94 3 R M) 2 12 (rg_A B) := by
  refine rg_ofWC (by decide +kernel) rfl (Nat.le_of_ble_eq_true rfl) ?_
  intro p e s m args below meth c ls C0 hH hz0 hN hl hr hlocks hnm
  replace hl : lv_has ls 1 [(0, .ref (B + 94))] := hl
  have hx := C0.1.1
  have hb := C0.1.2.1
  have hJ := rg_lj_0 (a := 1000) hfr (by omega)
  generalize hH9 : s.heap = H at hH ⊢
  generalize hL9 : ([] : List Loc) = locs at hH ⊢
  clear hH9 hL9
  refine lv_aload_n hx hb dX0_init_0 rfl (lv_at hl 0 rfl) ?_
  refine rg_objI C0 hl.1 tw_m_X0_3 tw_i_objInit tw_c_objInit dX0_init_1 (Nat.le_of_ble_eq_true rfl) (Nat.le_of_ble_eq_true rfl) ?_
  refine lv_aload_n hx hb dX0_init_4 rfl (lv_at hl 0 rfl) ?_
  refine lv_bipush (v := 6) hx hb dX0_init_5 (by decide) ?_
  refine rg_zs (n := 95) (rg_lo hH (by omega)) (by omega) (fun hz => ?_)
  refine rg_newI C0 hH hz hJ.2.2.2.2 (n := 95) (N' := 6) rfl rfl (by decide) rfl (by omega) dX0_init_7 (Nat.le_of_ble_eq_true rfl) (Nat.le_of_ble_eq_true rfl) (fun H hH => ?_)
  replace hJ := rg_lj_a hJ (rg_R0_n (by rw [show rg_kd 95 = 8 from rfl]; decide) (by rw [show rg_kd 95 = 8 from rfl]; decide)) (rg_i0_n (by rw [show rg_kd 95 = 8 from rfl]; decide))
  refine rg_pR C0 hH (o2 := 95) tyX0 tyX0_ok nmX0 (ci := 0) (k := 0) (o := 94) rfl inT_X0 (by decide) tw_f_X0_9 (by decide) rfl (by decide) rfl rfl hnm rfl rfl rfl dX0_init_9 (fun H locs hH => ?_)
  replace hJ := rg_lj_p (k := 0) (o := 95) hJ (by omega) (by omega)
  refine lv_aload_n hx hb dX0_init_12 rfl (lv_at hl 0 rfl) ?_
  refine lv_bipush (v := 6) hx hb dX0_init_13 (by decide) ?_
  refine rg_zs (n := 96) (rg_lo hH (by omega)) (by omega) (fun hz => ?_)
  refine rg_newI C0 hH hz hJ.2.2.2.2 (n := 96) (N' := 6) rfl rfl (by decide) rfl (by omega) dX0_init_15 (Nat.le_of_ble_eq_true rfl) (Nat.le_of_ble_eq_true rfl) (fun H hH => ?_)
  replace hJ := rg_lj_a hJ (rg_R0_n (by rw [show rg_kd 96 = 8 from rfl]; decide) (by rw [show rg_kd 96 = 8 from rfl]; decide)) (rg_i0_n (by rw [show rg_kd 96 = 8 from rfl]; decide))
  refine rg_pR C0 hH (o2 := 96) tyX0 tyX0_ok nmX0 (ci := 0) (k := 1) (o := 94) rfl inT_X0 (by decide) tw_f_X0_15 (by decide) rfl (by decide) rfl rfl hnm rfl rfl rfl dX0_init_17 (fun H locs hH => ?_)
  replace hJ := rg_lj_p (k := 1) (o := 96) hJ (by omega) (by omega)
  refine rg_retC C0 (v := 94) (z := 3) hH hr hlocks ?_ dX0_init_20
  refine rg_up_of hJ (by omega) (by omega) (by omega) ?_ (fun _ _ => rfl) rfl ?_
  · funext q
    rcases q with _ | _ | _ | _ | _ | q <;> rfl
  · exact hJ.2.2.1.2.1

set_option maxHeartbeats 4000000 in
set_option maxRecDepth 100000 in
theorem k_X2_init (l : Launch) (E : rg_Env) (B : Nat) (R : rg_Rfs) (M : rg_Mem) (hfr : rg_fr 89 R M) : Met l yX2_init (rg_w yX2_init cX2_init 3 none) ({ frames := 1, cells := 0, slots := 0, locals := 12 } : Room) (va_Pc [.ref (B + 89), .ref (B + 1), .ref (B + 6)] (rg_PreC E B (90) R M)) (rg_Rc E B 89 1 R M) 0 0 (rg_A B) := by
  refine rg_ofWC (by decide +kernel) rfl (Nat.le_of_ble_eq_true rfl) ?_
  intro p e s m args below meth c ls C0 hH hz0 hN hl hr hlocks hnm
  replace hl : lv_has ls 3 [(0, .ref (B + 89)), (1, .ref (B + 1)), (2, .ref (B + 6))] := hl
  have hx := C0.1.1
  have hb := C0.1.2.1
  have hJ := rg_lj_0 (a := 1000) hfr (by omega)
  generalize hH9 : s.heap = H at hH ⊢
  generalize hL9 : ([] : List Loc) = locs at hH ⊢
  clear hH9 hL9
  refine lv_aload_n hx hb dX2_init_0 rfl (lv_at hl 0 rfl) ?_
  refine rg_objI C0 hl.1 tw_m_X2_3 tw_i_objInit tw_c_objInit dX2_init_1 (Nat.le_of_ble_eq_true rfl) (Nat.le_of_ble_eq_true rfl) ?_
  refine lv_aload_n hx hb dX2_init_4 rfl (lv_at hl 0 rfl) ?_
  refine lv_aload_n hx hb dX2_init_5 rfl (lv_at hl 1 rfl) ?_
  refine rg_pR C0 hH (o2 := 1) tyX2 tyX2_ok nmX2 (ci := 2) (k := 0) (o := 89) rfl inT_X2 (by decide) tw_f_X2_9 (by decide) rfl (by decide) rfl rfl hnm rfl rfl rfl dX2_init_6 (fun H locs hH => ?_)
  replace hJ := rg_lj_p (k := 0) (o := 1) hJ (by omega) (by omega)
  refine lv_aload_n hx hb dX2_init_9 rfl (lv_at hl 0 rfl) ?_
  refine lv_aload_n hx hb dX2_init_10 rfl (lv_at hl 2 rfl) ?_
  refine rg_pR C0 hH (o2 := 6) tyX2 tyX2_ok nmX2 (ci := 2) (k := 1) (o := 89) rfl inT_X2 (by decide) tw_f_X2_15 (by decide) rfl (by decide) rfl rfl hnm rfl rfl rfl dX2_init_11 (fun H locs hH => ?_)
  replace hJ := rg_lj_p (k := 1) (o := 6) hJ (by omega) (by omega)
  refine rg_retC C0 (v := 89) (z := 1) hH hr hlocks ?_ dX2_init_14
  refine rg_up_of hJ (by omega) (by omega) (by omega) ?_ (fun _ _ => rfl) rfl ?_
  · funext q
    rcases q with _ | _ | _ | _ | _ | q <;> rfl
  · exact hJ.2.2.1.2.1

theorem rg_R0_sA : ∀ q, q < 8 → ∀ k, k < 36 → rg_R0 (108 + 38 * q + 1) k = some (108 + 38 * q + 1 + 1 + k) := by decide +kernel
theorem rg_kdS3 : ∀ q, q < 8 → rg_kd (108 + 38 * q) = 3 ∧ rg_kd (108 + 38 * q + 1) = 13 ∧ rg_ln (108 + 38 * q + 1) = 36 := by decide +kernel
theorem rg_kdR3 : ∀ q, q < 8 → ∀ r, r < 36 → rg_kd (108 + 38 * q + 1 + 1 + r) = 8 ∧ rg_ln (108 + 38 * q + 1 + 1 + r) = 6 := by decide +kernel
theorem rg_kdR2 {q r : Nat} (h : q < 8) (h2 : r < 36) : rg_kd (108 + 38 * q + 1 + 1 + r) = 8 := (rg_kdR3 q h r h2).1
theorem rg_kdS2b {q : Nat} (h : q < 8) : rg_kd (108 + 38 * q + 1) = 13 := (rg_kdS3 q h).2.1
theorem rg_R0_13 {c : Nat} (h : rg_kd c = 13) (hc : c ≠ 12) : ∀ k, rg_R0 c k = if k < 36 then some (c + 1 + k) else none := by
  have h0 : c ≠ 0 ∧ c ≠ 1 ∧ c ≠ 6 ∧ c ≠ 8 ∧ c ≠ 89 ∧ c ≠ 94 ∧ c ≠ 98 ∧ c ≠ 107 := by
    refine ⟨?_, ?_, ?_, ?_, ?_, ?_, ?_, ?_⟩ <;> (intro e; subst e; revert h; decide)
  obtain ⟨a1, a2, a3, a4, a6, a7, a8, a9⟩ := h0
  intro k
  unfold rg_R0
  rw [if_neg a1, if_neg a2, if_neg a3, if_neg a4, if_neg hc, if_neg (by omega), if_neg a6, if_neg a7, if_neg a8, if_neg a9, if_neg (by omega), if_pos h]
theorem rg_R0_s {q : Nat} (h : q < 8) : ∀ k, rg_R0 (108 + 38 * q + 1) k = if k < 36 then some (108 + 38 * q + 1 + 1 + k) else none := rg_R0_13 (rg_kdS2b h) (by omega)
theorem rg_R0_3 {c : Nat} (h : rg_kd c = 3) : rg_R0 c = fun k => if k = 0 then some (c + 1) else none := by
  have h0 : c ≠ 0 ∧ c ≠ 1 ∧ c ≠ 6 ∧ c ≠ 8 ∧ c ≠ 12 ∧ c ≠ 89 ∧ c ≠ 94 ∧ c ≠ 98 ∧ c ≠ 107 := by
    refine ⟨?_, ?_, ?_, ?_, ?_, ?_, ?_, ?_, ?_⟩ <;> (intro e; subst e; revert h; decide)
  obtain ⟨a1, a2, a3, a4, a5, a6, a7, a8, a9⟩ := h0
  funext k
  unfold rg_R0
  rw [if_neg a1, if_neg a2, if_neg a3, if_neg a4, if_neg a5, if_neg (by omega), if_neg a6, if_neg a7, if_neg a8, if_neg a9, if_pos h]
theorem rg_i0_3 {c : Nat} (h : rg_kd c = 3) : rg_i0 c = fun _ => 0 := by
  have h0 : c ≠ 0 := by intro e; subst e; revert h; decide
  funext k
  unfold rg_i0
  rw [if_neg (by omega)]
set_option maxHeartbeats 4000000 in
set_option maxRecDepth 100000 in
theorem k_X3_init (l : Launch) (E : rg_Env) (B : Nat) (R : rg_Rfs) (M : rg_Mem) (q : Nat) (hq : q < 8) (hfr : rg_fr (108 + 38 * q) R M) : Met l yX3_init (rg_w yX3_init cX3_init 1 none) ({ frames := 1, cells := 37, slots := 252, locals := 12 } : Room) (va_Pc [.ref (B + (108 + 38 * q))] (rg_PreC E B (108 + 38 * q + 1) R M)) (rg_Rc E B (108 + 38 * q) 38 R M) 37 252 (rg_A B) := by
  refine rg_ofWC (by decide +kernel) rfl (Nat.le_of_ble_eq_true rfl) ?_
  intro p e s m args below meth c ls C0 hH hz0 hN hl hr hlocks hnm
  replace hl : lv_has ls 1 [(0, .ref (B + (108 + 38 * q)))] := hl
  have hx := C0.1.1
  have hb := C0.1.2.1
  have hJ := rg_lj_0 (a := 1000) hfr (by omega)
  generalize hH9 : s.heap = H at hH ⊢
  generalize hL9 : ([] : List Loc) = locs at hH ⊢
  clear hH9 hL9
  refine lv_aload_n hx hb dX3_init_0 rfl (lv_at hl 0 rfl) ?_
  refine rg_objI C0 hl.1 tw_m_X3_3 tw_i_objInit tw_c_objInit dX3_init_1 (Nat.le_of_ble_eq_true rfl) (Nat.le_of_ble_eq_true rfl) ?_
  refine lv_aload_n hx hb dX3_init_4 rfl (lv_at hl 0 rfl) ?_
  refine lv_bipush (v := 36) hx hb dX3_init_5 (by decide) ?_
  refine lv_bipush (v := 6) hx hb dX3_init_7 (by decide) ?_
  refine rg_zs (n := 108 + 38 * q + 1) (rg_lo hH (by omega)) (by omega) (fun hz => ?_)
  refine rg_mna C0 hH hz hJ.2.2.2.2 (n := 108 + 38 * q + 1) (N' := 36) (K' := 6) hN.2.2 (rg_kdS2b hq) (fun r hr => rg_kdR3 q hq r hr) (rg_kdS3 q hq).2.2 (by decide) rfl (by omega) (by decide) rfl (by omega) tw_k_X3_9 dX3_init_9 (Nat.le_of_ble_eq_true rfl) (Nat.le_of_ble_eq_true rfl) (fun R1 H e1 e2 hH => ?_)
  replace hJ := rg_lj_m hJ (n := 108 + 38 * q + 1) (N' := 36) (by omega) (by omega) (by omega) e1 e2 (fun q => rg_R0_s hq q) (fun q hq2 => ⟨rg_R0_n (by rw [(rg_kdR2 hq hq2)]; decide) (by rw [(rg_kdR2 hq hq2)]; decide), rg_i0_n (by rw [(rg_kdR2 hq hq2)]; decide)⟩) (rg_i0_n (by rw [(rg_kdS2b hq)]; decide))
  refine rg_pR C0 hH (o2 := (108 + 38 * q + 1)) tyX3 tyX3_ok nmX3 (ci := 3) (k := 0) (o := (108 + 38 * q)) rfl inT_X3 (by decide) tw_f_X3_11 (by omega) (rg_kdS3 q hq).1 (by decide) rfl rfl hnm rfl rfl rfl dX3_init_13 (fun H locs hH => ?_)
  replace hJ := rg_lj_p (k := 0) (o := (108 + 38 * q + 1)) hJ (by omega) (by omega)
  refine rg_retC C0 (v := (108 + 38 * q)) (z := 38) hH hr hlocks ?_ dX3_init_16
  refine rg_up_of hJ (by omega) (by omega) (by omega) ?_ (fun _ _ => rfl) rfl ?_
  · rw [rg_R0_3 (rg_kdS3 q hq).1]
  · rw [rg_i0_3 (rg_kdS3 q hq).1]; exact hJ.2.2.1.2.1

theorem rg_lj_x {v n a i : Nat} {Rx Rx' : Nat → Option Nat} {R R1 : rg_Rfs} {M M1 : rg_Mem} (h : rg_lj v n a i Rx R M R1 M1) (e : Rx = Rx') : rg_lj v n a i Rx' R M R1 M1 := e ▸ h
theorem rg_kdP2 : ∀ q, q < 4 → rg_kd (12 + 1 + q) = 8 := by decide +kernel
theorem rg_R0_12b (q : Nat) : rg_R0 12 q = if q < 4 then some (12 + 1 + q) else none := rfl
set_option maxHeartbeats 4000000 in
set_option maxRecDepth 100000 in
theorem k_X1_init (l : Launch) (E : rg_Env) (B : Nat) (R : rg_Rfs) (M : rg_Mem) (hfr : rg_fr 6 R M) : Met l yX1_init (rg_w yX1_init cX1_init 2 none) ({ frames := 2, cells := 82, slots := 760, locals := 32 } : Room) (va_Pc [.ref (B + 6)] (rg_PreC E B (7) R M)) (rg_Rc E B 6 83 R M) 82 760 (rg_A B) := by
  refine rg_ofWC (by decide +kernel) rfl (Nat.le_of_ble_eq_true rfl) ?_
  intro p e s m args below meth c ls C0 hH hz0 hN hl hr hlocks hnm
  replace hl : lv_has ls 2 [(0, .ref (B + 6))] := hl
  have hx := C0.1.1
  have hb := C0.1.2.1
  have hJ := rg_lj_0 (a := 8) hfr (by omega)
  generalize hH9 : s.heap = H at hH ⊢
  generalize hL9 : ([] : List Loc) = locs at hH ⊢
  clear hH9 hL9
  refine lv_aload_n hx hb dX1_init_0 rfl (lv_at hl 0 rfl) ?_
  refine rg_objI C0 hl.1 tw_m_X1_3 tw_i_objInit tw_c_objInit dX1_init_1 (Nat.le_of_ble_eq_true rfl) (Nat.le_of_ble_eq_true rfl) ?_
  refine lv_aload_n hx hb dX1_init_4 rfl (lv_at hl 0 rfl) ?_
  refine lv_bipush (v := 36) hx hb dX1_init_5 (by decide) ?_
  refine rg_zs (n := 7) (rg_lo hH (by omega)) (by omega) (fun hz => ?_)
  refine rg_newI C0 hH hz hJ.2.2.2.2 (n := 7) (N' := 36) rfl rfl (by decide) rfl (by omega) dX1_init_7 (Nat.le_of_ble_eq_true rfl) (Nat.le_of_ble_eq_true rfl) (fun H hH => ?_)
  replace hJ := rg_lj_a hJ (rg_R0_n (by rw [show rg_kd 7 = 8 from rfl]; decide) (by rw [show rg_kd 7 = 8 from rfl]; decide)) (rg_i0_n (by rw [show rg_kd 7 = 8 from rfl]; decide))
  refine rg_pR C0 hH (o2 := 7) tyX1 tyX1_ok nmX1 (ci := 1) (k := 5) (o := 6) rfl inT_X1 (by decide) tw_f_X1_9 (by decide) rfl (by decide) rfl rfl hnm rfl rfl rfl dX1_init_9 (fun H locs hH => ?_)
  replace hJ := rg_lj_p (k := 5) (o := 7) hJ (by omega) (by omega)
  refine lv_aload_n hx hb dX1_init_12 rfl (lv_at hl 0 rfl) ?_
  refine lv_bipush (v := 36) hx hb dX1_init_13 (by decide) ?_
  refine rg_zs (n := 8) (rg_lo hH (by omega)) (by omega) (fun hz => ?_)
  refine rg_newQ C0 hH hz hJ.2.2.2.2 (n := 8) (N' := 36) (k := 12) (C := "RengaHall$Verse") hN.2.1 (by decide) rfl (rg_nmq C0.2.1 4 rfl) rfl (by decide) rfl (by omega) tw_k_X1_15 dX1_init_15 (Nat.le_of_ble_eq_true rfl) (Nat.le_of_ble_eq_true rfl) (fun H hH => ?_)
  replace hJ := rg_lj_b hJ rfl
  refine rg_pR C0 hH (o2 := 8) tyX1 tyX1_ok nmX1 (ci := 1) (k := 6) (o := 6) rfl inT_X1 (by decide) tw_f_X1_17 (by decide) rfl (by decide) rfl rfl hnm rfl rfl rfl dX1_init_18 (fun H locs hH => ?_)
  replace hJ := rg_lj_p (k := 6) (o := 8) hJ (by omega) (by omega)
  refine lv_aload_n hx hb dX1_init_21 rfl (lv_at hl 0 rfl) ?_
  refine lv_bipush (v := 36) hx hb dX1_init_22 (by decide) ?_
  refine rg_zs (n := 9) (rg_lo hH (by omega)) (by omega) (fun hz => ?_)
  refine rg_newI C0 hH hz hJ.2.2.2.2 (n := 9) (N' := 36) rfl rfl (by decide) rfl (by omega) dX1_init_24 (Nat.le_of_ble_eq_true rfl) (Nat.le_of_ble_eq_true rfl) (fun H hH => ?_)
  replace hJ := rg_lj_a hJ (rg_R0_n (by rw [show rg_kd 9 = 8 from rfl]; decide) (by rw [show rg_kd 9 = 8 from rfl]; decide)) (rg_i0_n (by rw [show rg_kd 9 = 8 from rfl]; decide))
  refine rg_pR C0 hH (o2 := 9) tyX1 tyX1_ok nmX1 (ci := 1) (k := 7) (o := 6) rfl inT_X1 (by decide) tw_f_X1_21 (by decide) rfl (by decide) rfl rfl hnm rfl rfl rfl dX1_init_26 (fun H locs hH => ?_)
  replace hJ := rg_lj_p (k := 7) (o := 9) hJ (by omega) (by omega)
  refine lv_aload_n hx hb dX1_init_29 rfl (lv_at hl 0 rfl) ?_
  refine lv_bipush (v := 36) hx hb dX1_init_30 (by decide) ?_
  refine rg_zs (n := 10) (rg_lo hH (by omega)) (by omega) (fun hz => ?_)
  refine rg_newZ C0 hH hz hJ.2.2.2.2 (n := 10) (N' := 36) rfl rfl (by decide) rfl (by omega) dX1_init_32 (Nat.le_of_ble_eq_true rfl) (Nat.le_of_ble_eq_true rfl) (fun H hH => ?_)
  replace hJ := rg_lj_a hJ (rg_R0_n (by rw [show rg_kd 10 = 10 from rfl]; decide) (by rw [show rg_kd 10 = 10 from rfl]; decide)) (rg_i0_n (by rw [show rg_kd 10 = 10 from rfl]; decide))
  refine rg_pR C0 hH (o2 := 10) tyX1 tyX1_ok nmX1 (ci := 1) (k := 8) (o := 6) rfl inT_X1 (by decide) tw_f_X1_24 (by decide) rfl (by decide) rfl rfl hnm rfl rfl rfl dX1_init_34 (fun H locs hH => ?_)
  replace hJ := rg_lj_p (k := 8) (o := 10) hJ (by omega) (by omega)
  refine lv_aload_n hx hb dX1_init_37 rfl (lv_at hl 0 rfl) ?_
  refine lv_bipush (v := 36) hx hb dX1_init_38 (by decide) ?_
  refine rg_zs (n := 11) (rg_lo hH (by omega)) (by omega) (fun hz => ?_)
  refine rg_newZ C0 hH hz hJ.2.2.2.2 (n := 11) (N' := 36) rfl rfl (by decide) rfl (by omega) dX1_init_40 (Nat.le_of_ble_eq_true rfl) (Nat.le_of_ble_eq_true rfl) (fun H hH => ?_)
  replace hJ := rg_lj_a hJ (rg_R0_n (by rw [show rg_kd 11 = 10 from rfl]; decide) (by rw [show rg_kd 11 = 10 from rfl]; decide)) (rg_i0_n (by rw [show rg_kd 11 = 10 from rfl]; decide))
  refine rg_pR C0 hH (o2 := 11) tyX1 tyX1_ok nmX1 (ci := 1) (k := 9) (o := 6) rfl inT_X1 (by decide) tw_f_X1_28 (by decide) rfl (by decide) rfl rfl hnm rfl rfl rfl dX1_init_42 (fun H locs hH => ?_)
  replace hJ := rg_lj_p (k := 9) (o := 11) hJ (by omega) (by omega)
  refine lv_aload_n hx hb dX1_init_45 rfl (lv_at hl 0 rfl) ?_
  refine lv_iconst (v := 4) hx hb dX1_init_46 (by decide) ?_
  refine lv_bipush (v := 36) hx hb dX1_init_47 (by decide) ?_
  refine rg_zs (n := 12) (rg_lo hH (by omega)) (by omega) (fun hz => ?_)
  refine rg_mna C0 hH hz hJ.2.2.2.2 (n := 12) (N' := 4) (K' := 36) hN.2.2 rfl (by decide) rfl (by decide) rfl (by omega) (by decide) rfl (by omega) tw_k_X1_31 dX1_init_49 (Nat.le_of_ble_eq_true rfl) (Nat.le_of_ble_eq_true rfl) (fun R1 H e1 e2 hH => ?_)
  replace hJ := rg_lj_m hJ (n := 12) (N' := 4) (by omega) (by omega) (by omega) e1 e2 (fun q => rg_R0_12b q) (fun q hq => ⟨rg_R0_n (by rw [(rg_kdP2 q hq)]; decide) (by rw [(rg_kdP2 q hq)]; decide), rg_i0_n (by rw [(rg_kdP2 q hq)]; decide)⟩) (rg_i0_n (by decide))
  refine rg_pR C0 hH (o2 := 12) tyX1 tyX1_ok nmX1 (ci := 1) (k := 10) (o := 6) rfl inT_X1 (by decide) tw_f_X1_33 (by decide) rfl (by decide) rfl rfl hnm rfl rfl rfl dX1_init_53 (fun H locs hH => ?_)
  replace hJ := rg_lj_p (k := 10) (o := 12) hJ (by omega) (by omega)
  refine lv_iconst (v := 0) hx hb dX1_init_56 (by decide) ?_
  refine lv_istore_n (lv' := [(1, .int (0)), (0, .ref (B + 6))]) hx hb dX1_init_57 rfl hl (by decide) rfl (fun ls hl => ?_)
  have cut : ∀ (fu i : Nat), i ≤ 36 ∧ 36 < i + fu → ∀ (R1 : rg_Rfs) (M1 : rg_Mem) (H : Heap) (locs : List Loc) (ls : Array Slot), rg_lj 6 (17 + 2 * i) 8 i (rg_R0 6) R M R1 M1 → rg_H E B (17 + 2 * i) R1 M1 s H locs → lv_has ls 2 [(0, .ref (B + 6)), (1, .int (nI i))] → W p l e ({ frames := 2, cells := 82, slots := 760, locals := 32 } : Room) s m args below meth c H locs (10 + 2 * i) (328 + 12 * i) (MQ below (rg_Rc E B 6 83 R M) args s 82 760 (rg_A B)) (F0 m 58 ls []) := by
    intro fu
    induction fu with
    | zero =>
      intro i hm
      exact absurd hm (by omega)
    | succ fu ih =>
      intro i hm R1 M1 H locs ls hJ hH hl
      refine lv_iload_n hx hb dX1_init_58 rfl (lv_at hl 1 rfl) ?_
      refine lv_bipush (v := 36) hx hb dX1_init_59 (by decide) ?_
      refine lv_icmp_ge (tgt := 83) hx hb dX1_init_61 (by decide) (fun c_1 => ?_) (fun c_1 => ?_)
      · have q2 := rg_lp_end (n := 36) hm.1 (by omega) c_1
        subst q2
        refine rg_zs (n := 89) (rg_lo hH (by omega)) (by omega) (fun hz => ?_)
        refine W.widen (k := 82) (n := 760) (by omega) (by omega) ?_
        replace hJ := rg_lj_d (b := 1000) hJ (fun k hk => by show (if k < 36 then some (17 + 2 * k) else none) = none; rw [if_neg (by omega)]) (rg_i0_n (by decide)) (by omega)
        refine rg_retC C0 (v := 6) (z := 83) hH hr hlocks ?_ dX1_init_83
        exact rg_up_of hJ (by omega) (by omega) (by omega) rfl (fun _ _ => rfl) rfl hJ.2.2.1.2.1
      · have hlt := rg_lp_lt (n := 36) hm.1 (by omega) c_1
        refine lv_aload_n hx hb dX1_init_64 rfl (lv_at hl 0 rfl) ?_
        refine rg_gR C0 hH (o2 := 8) (ci := 1) (k := 6) (o := 6) (by rw [hJ.2.2.1.1]; rfl) rfl inT_X1 (by decide) tw_f_X1_17 (by omega) rfl (by decide) rfl dX1_init_65 ?_
        refine lv_iload_n hx hb dX1_init_68 rfl (lv_at hl 1 rfl) ?_
        refine rg_zs (n := 17 + 2 * i) (rg_lo hH (by omega)) (by omega) (fun hz => ?_)
        refine rg_newO C0 hH hz hJ.2.2.2.2 (n := 17 + 2 * i) (ci := 5) (N := 6) tyX5 tyX5_ok rfl inT_X5 (by decide) (rg_kdV_all i (by omega)) (by decide) tw_k_X1_15 tw_o_X5 tw_n_X5 dX1_init_69 (by show _ ≤ (82 : Nat); omega) (by show _ ≤ (760 : Nat); omega) (fun H hH => ?_)
        refine lv_dup hx hb dX1_init_72 rfl ?_
        refine rg_zs (n := 17 + 2 * i + 1) (rg_lo hH (by omega)) (by omega) (fun hz => ?_)
        refine rg_callIN C0 hN hH hz (n := 17 + 2 * i + 1) (v := (17 + 2 * i)) (z := 2) (o := (17 + 2 * i)) (As := []) (rest := [.ref (B + (17 + 2 * i)), .int (nI i), .ref (B + 8)]) (k_X5_init l E B _ _ (17 + 2 * i) (rg_isV_p (k := i) (by omega)) (hJ.2.2.2.2)) ⟨va_cnB 0 C0.1.2.2.2.2 (rg_gw tw_c_X5_init) rfl rfl rfl (C0.2.2.2.2.2.2.1 (_, 36, yX5_init) (by decide)) (C0.1.2.2.2.2 _ tw_n_X5) hd_X5_init.2 ⟨Nat.le_of_ble_eq_true rfl, Nat.le_of_ble_eq_true rfl⟩, rfl, C0.1.2.2.2.2 _ tw_i_X5_init⟩ rfl hl.1 rfl (Nat.le_of_ble_eq_true rfl) dX1_init_73 ⟨by show _ ≤ (82 : Nat); omega, by show _ ≤ (760 : Nat); omega⟩ (fun R1 M1 H locs e1 hH => ?_)
        replace hJ := rg_lj_u hJ (n := 17 + 2 * i) (z := 2) (by omega) (by omega) e1 (by omega)
        refine rg_astQ C0 hH (o := 8) (o2 := 17 + 2 * i) (j := i) (k := 12) (k2 := 5) (t0 := 4) (C := "RengaHall$Verse") (by omega) rfl (by decide) rfl (by omega) (rg_kdV_all i (by omega)) (by decide) rfl ⟨by show i < 36; omega, by decide⟩ dX1_init_76 (fun H locs hH => ?_)
        replace hJ := rg_lj_s hJ (by omega) (by omega) (rg_R0_8 i (by omega))
        refine lv_iinc (v := nI (i + 1)) (lv' := [(1, .int (nI (i + 1))), (0, .ref (B + 6))]) hx hb dX1_init_77 hl (k := 1) rfl (nI_1 _) (by decide) rfl (fun ls hl => ?_)
        refine lv_goto (tgt := 58) hx hb dX1_init_80 (by decide) ?_
        refine W.widen (k := 10 + 2 * (i + 1)) (n := 328 + 12 * (i + 1)) (by omega) (by omega) ?_
        exact ih (i + 1) (by omega) _ _ _ _ _ (by rw [show 17 + 2 * (i + 1) = 17 + 2 * i + 2 by omega]; exact hJ) (by rw [show 17 + 2 * (i + 1) = 17 + 2 * i + 2 by omega]; exact hH) (lv_sub hl [1, 0] rfl)
  refine W.widen (k := 10 + 2 * 0) (n := 328 + 12 * 0) (by omega) (by omega) ?_
  exact cut 37 0 (by omega) _ _ _ _ _ (rg_lj_x hJ (by funext q; rcases q with _ | _ | _ | _ | _ | _ | _ | _ | _ | _ | _ | q <;> rfl)) hH (lv_sub hl [1, 0] rfl)

set_option maxHeartbeats 4000000 in
set_option maxRecDepth 100000 in
theorem k_X6_init (l : Launch) (E : rg_Env) (B : Nat) (R : rg_Rfs) (M : rg_Mem) (hfr : rg_fr 0 R M) : Met l yX6_init (rg_w yX6_init cX6_init 4 none) ({ frames := 3, cells := 411, slots := 3064, locals := 53 } : Room) (va_Pc [.ref (B + 0)] (rg_PreC E B (1) R M)) (rg_Rc E B 0 412 R M) 411 3064 (rg_A B) := by
  refine rg_ofWC (by decide +kernel) rfl (Nat.le_of_ble_eq_true rfl) ?_
  intro p e s m args below meth c ls C0 hH hz0 hN hl hr hlocks hnm
  replace hl : lv_has ls 4 [(0, .ref (B + 0))] := hl
  have hx := C0.1.1
  have hb := C0.1.2.1
  have hJ := rg_lj_0 (a := 98) hfr (by omega)
  generalize hH9 : s.heap = H at hH ⊢
  generalize hL9 : ([] : List Loc) = locs at hH ⊢
  clear hH9 hL9
  refine lv_aload_n hx hb dX6_init_0 rfl (lv_at hl 0 rfl) ?_
  refine rg_objI C0 hl.1 tw_m_X6_1 tw_i_objInit tw_c_objInit dX6_init_1 (Nat.le_of_ble_eq_true rfl) (Nat.le_of_ble_eq_true rfl) ?_
  refine rg_zs (n := 1) (rg_lo hH (by omega)) (by omega) (fun hz => ?_)
  refine rg_newO C0 hH hz hJ.2.2.2.2 (n := 1) (ci := 4) (N := 5) tyX4 tyX4_ok rfl inT_X4 (by decide) rfl (by decide) tw_k_X6_7 tw_o_X4 tw_n_X4 dX6_init_4 (Nat.le_of_ble_eq_true rfl) (Nat.le_of_ble_eq_true rfl) (fun H hH => ?_)
  refine lv_dup hx hb dX6_init_7 rfl ?_
  refine rg_zs (n := 2) (rg_lo hH (by omega)) (by omega) (fun hz => ?_)
  refine rg_callIN C0 hN hH hz (n := 2) (v := 1) (z := 5) (o := 1) (As := []) (rest := [.ref (B + 1)]) (k_X4_init l E B _ _ (hJ.2.2.2.2)) ⟨va_cnB 0 C0.1.2.2.2.2 (rg_gw tw_c_X4_init) rfl rfl rfl (C0.2.2.2.2.2.2.1 (_, 9, yX4_init) (by decide)) (C0.1.2.2.2.2 _ tw_n_X4) hd_X4_init.2 ⟨Nat.le_of_ble_eq_true rfl, Nat.le_of_ble_eq_true rfl⟩, rfl, C0.1.2.2.2.2 _ tw_i_X4_init⟩ rfl hl.1 rfl (Nat.le_of_ble_eq_true rfl) dX6_init_8 ⟨Nat.le_of_ble_eq_true rfl, Nat.le_of_ble_eq_true rfl⟩ (fun R1 M1 H locs e1 hH => ?_)
  replace hJ := rg_lj_u hJ (n := 1) (z := 5) (by omega) (by omega) e1 (by omega)
  refine lv_astore_n (lv' := [(1, .ref (B + 1)), (0, .ref (B + 0))]) hx hb dX6_init_11 rfl hl (by decide) rfl (fun ls hl => ?_)
  refine rg_zs (n := 6) (rg_lo hH (by omega)) (by omega) (fun hz => ?_)
  refine rg_newO C0 hH hz hJ.2.2.2.2 (n := 6) (ci := 1) (N := 11) tyX1 tyX1_ok rfl inT_X1 (by decide) rfl (by decide) tw_k_X6_10 tw_o_X1 tw_n_X1 dX6_init_12 (Nat.le_of_ble_eq_true rfl) (Nat.le_of_ble_eq_true rfl) (fun H hH => ?_)
  refine lv_dup hx hb dX6_init_15 rfl ?_
  refine rg_zs (n := 7) (rg_lo hH (by omega)) (by omega) (fun hz => ?_)
  refine rg_callI C0 hN hH hz (n := 7) (v := 6) (z := 83) (o := 6) (As := []) (rest := [.ref (B + 6)]) (k_X1_init l E B _ _ (hJ.2.2.2.2)) (cwI 0 C0.1.2.2.2.2 (rg_gw tw_c_X1_init) rfl rfl rfl (C0.1.2.2.2.2 _ tw_n_X1) (C0.1.2.2.2.2 _ tw_m_X6_12) (C0.1.2.2.2.2 _ tw_i_X1_init) rfl hd_X1_init.2 ⟨Nat.le_of_ble_eq_true rfl, Nat.le_of_ble_eq_true rfl⟩) rfl hl.1 rfl (Nat.le_of_ble_eq_true rfl) dX6_init_16 ⟨Nat.le_of_ble_eq_true rfl, Nat.le_of_ble_eq_true rfl⟩ (fun R1 M1 H locs e1 hH => ?_)
  replace hJ := rg_lj_u hJ (n := 6) (z := 83) (by omega) (by omega) e1 (by omega)
  refine lv_astore_n (lv' := [(2, .ref (B + 6)), (1, .ref (B + 1)), (0, .ref (B + 0))]) hx hb dX6_init_19 rfl hl (by decide) rfl (fun ls hl => ?_)
  refine lv_aload_n hx hb dX6_init_20 rfl (lv_at hl 2 rfl) ?_
  refine lv_aload_n hx hb dX6_init_21 rfl (lv_at hl 1 rfl) ?_
  refine rg_pR C0 hH (o2 := 1) tyX6 tyX6_ok nmX6 (ci := 6) (k := 0) (o := 0) rfl inT_X6 (by decide) tw_f_X6_13 (by decide) rfl (by decide) rfl rfl hnm rfl rfl rfl dX6_init_22 (fun H locs hH => ?_)
  replace hJ := rg_lj_p (k := 0) (o := 1) hJ (by omega) (by omega)
  refine lv_aload_n hx hb dX6_init_25 rfl (lv_at hl 2 rfl) ?_
  refine lv_aload_n hx hb dX6_init_26 rfl (lv_at hl 0 rfl) ?_
  refine rg_pR C0 hH (o2 := 6) tyX6 tyX6_ok nmX6 (ci := 6) (k := 1) (o := 0) rfl inT_X6 (by decide) tw_f_X6_19 (by decide) rfl (by decide) rfl rfl hnm rfl rfl rfl dX6_init_27 (fun H locs hH => ?_)
  replace hJ := rg_lj_p (k := 1) (o := 6) hJ (by omega) (by omega)
  refine lv_aload_n hx hb dX6_init_30 rfl (lv_at hl 2 rfl) ?_
  refine rg_zs (n := 89) (rg_lo hH (by omega)) (by omega) (fun hz => ?_)
  refine rg_newO C0 hH hz hJ.2.2.2.2 (n := 89) (ci := 2) (N := 2) tyX2 tyX2_ok rfl inT_X2 (by decide) rfl (by decide) tw_k_X6_23 tw_o_X2 tw_n_X2 dX6_init_31 (Nat.le_of_ble_eq_true rfl) (Nat.le_of_ble_eq_true rfl) (fun H hH => ?_)
  refine lv_dup hx hb dX6_init_34 rfl ?_
  refine lv_aload_n hx hb dX6_init_35 rfl (lv_at hl 1 rfl) ?_
  refine lv_aload_n hx hb dX6_init_36 rfl (lv_at hl 0 rfl) ?_
  refine rg_zs (n := 90) (rg_lo hH (by omega)) (by omega) (fun hz => ?_)
  refine rg_callI C0 hN hH hz (n := 90) (v := 89) (z := 1) (o := 89) (As := [.ref (B + 1), .ref (B + 6)]) (rest := [.ref (B + 89), .ref (B + 0)]) (k_X2_init l E B _ _ (hJ.2.2.2.2)) (cwI 2 C0.1.2.2.2.2 (rg_gw tw_c_X2_init) rfl rfl rfl (C0.1.2.2.2.2 _ tw_n_X2) (C0.1.2.2.2.2 _ tw_m_X6_25) (C0.1.2.2.2.2 _ tw_i_X2_init) rfl hd_X2_init.2 ⟨Nat.le_of_ble_eq_true rfl, Nat.le_of_ble_eq_true rfl⟩) rfl hl.1 rfl (Nat.le_of_ble_eq_true rfl) dX6_init_37 ⟨Nat.le_of_ble_eq_true rfl, Nat.le_of_ble_eq_true rfl⟩ (fun R1 M1 H locs e1 hH => ?_)
  replace hJ := rg_lj_u hJ (n := 89) (z := 1) (by omega) (by omega) e1 (by omega)
  refine rg_pR C0 hH (o2 := 89) tyX6 tyX6_ok nmX6 (ci := 6) (k := 2) (o := 0) rfl inT_X6 (by decide) tw_f_X6_28 (by decide) rfl (by decide) rfl rfl hnm rfl rfl rfl dX6_init_40 (fun H locs hH => ?_)
  replace hJ := rg_lj_p (k := 2) (o := 89) hJ (by omega) (by omega)
  refine lv_aload_n hx hb dX6_init_43 rfl (lv_at hl 2 rfl) ?_
  refine rg_zs (n := 90) (rg_lo hH (by omega)) (by omega) (fun hz => ?_)
  refine rg_newO C0 hH hz hJ.2.2.2.2 (n := 90) (ci := 5) (N := 6) tyX5 tyX5_ok rfl inT_X5 (by decide) rfl (by decide) tw_k_X6_32 tw_o_X5 tw_n_X5 dX6_init_44 (Nat.le_of_ble_eq_true rfl) (Nat.le_of_ble_eq_true rfl) (fun H hH => ?_)
  refine lv_dup hx hb dX6_init_47 rfl ?_
  refine rg_zs (n := 91) (rg_lo hH (by omega)) (by omega) (fun hz => ?_)
  refine rg_callIN C0 hN hH hz (n := 91) (v := 90) (z := 2) (o := 90) (As := []) (rest := [.ref (B + 90), .ref (B + 0)]) (k_X5_init l E B _ _ 90 rg_isV_d (hJ.2.2.2.2)) ⟨va_cnB 0 C0.1.2.2.2.2 (rg_gw tw_c_X5_init) rfl rfl rfl (C0.2.2.2.2.2.2.1 (_, 34, yX5_init) (by decide)) (C0.1.2.2.2.2 _ tw_n_X5) hd_X5_init.2 ⟨Nat.le_of_ble_eq_true rfl, Nat.le_of_ble_eq_true rfl⟩, rfl, C0.1.2.2.2.2 _ tw_i_X5_init⟩ rfl hl.1 rfl (Nat.le_of_ble_eq_true rfl) dX6_init_48 ⟨Nat.le_of_ble_eq_true rfl, Nat.le_of_ble_eq_true rfl⟩ (fun R1 M1 H locs e1 hH => ?_)
  replace hJ := rg_lj_u hJ (n := 90) (z := 2) (by omega) (by omega) e1 (by omega)
  refine rg_pR C0 hH (o2 := 90) tyX6 tyX6_ok nmX6 (ci := 6) (k := 3) (o := 0) rfl inT_X6 (by decide) tw_f_X6_35 (by decide) rfl (by decide) rfl rfl hnm rfl rfl rfl dX6_init_51 (fun H locs hH => ?_)
  replace hJ := rg_lj_p (k := 3) (o := 90) hJ (by omega) (by omega)
  refine lv_aload_n hx hb dX6_init_54 rfl (lv_at hl 2 rfl) ?_
  refine rg_zs (n := 92) (rg_lo hH (by omega)) (by omega) (fun hz => ?_)
  refine rg_newO C0 hH hz hJ.2.2.2.2 (n := 92) (ci := 5) (N := 6) tyX5 tyX5_ok rfl inT_X5 (by decide) rfl (by decide) tw_k_X6_32 tw_o_X5 tw_n_X5 dX6_init_55 (Nat.le_of_ble_eq_true rfl) (Nat.le_of_ble_eq_true rfl) (fun H hH => ?_)
  refine lv_dup hx hb dX6_init_58 rfl ?_
  refine rg_zs (n := 93) (rg_lo hH (by omega)) (by omega) (fun hz => ?_)
  refine rg_callIN C0 hN hH hz (n := 93) (v := 92) (z := 2) (o := 92) (As := []) (rest := [.ref (B + 92), .ref (B + 0)]) (k_X5_init l E B _ _ 92 rg_isV_t (hJ.2.2.2.2)) ⟨va_cnB 0 C0.1.2.2.2.2 (rg_gw tw_c_X5_init) rfl rfl rfl (C0.2.2.2.2.2.2.1 (_, 34, yX5_init) (by decide)) (C0.1.2.2.2.2 _ tw_n_X5) hd_X5_init.2 ⟨Nat.le_of_ble_eq_true rfl, Nat.le_of_ble_eq_true rfl⟩, rfl, C0.1.2.2.2.2 _ tw_i_X5_init⟩ rfl hl.1 rfl (Nat.le_of_ble_eq_true rfl) dX6_init_59 ⟨Nat.le_of_ble_eq_true rfl, Nat.le_of_ble_eq_true rfl⟩ (fun R1 M1 H locs e1 hH => ?_)
  replace hJ := rg_lj_u hJ (n := 92) (z := 2) (by omega) (by omega) e1 (by omega)
  refine rg_pR C0 hH (o2 := 92) tyX6 tyX6_ok nmX6 (ci := 6) (k := 7) (o := 0) rfl inT_X6 (by decide) tw_f_X6_39 (by decide) rfl (by decide) rfl rfl hnm rfl rfl rfl dX6_init_62 (fun H locs hH => ?_)
  replace hJ := rg_lj_p (k := 7) (o := 92) hJ (by omega) (by omega)
  refine lv_aload_n hx hb dX6_init_65 rfl (lv_at hl 2 rfl) ?_
  refine rg_zs (n := 94) (rg_lo hH (by omega)) (by omega) (fun hz => ?_)
  refine rg_newO C0 hH hz hJ.2.2.2.2 (n := 94) (ci := 0) (N := 2) tyX0 tyX0_ok rfl inT_X0 (by decide) rfl (by decide) tw_k_X6_42 tw_o_X0 tw_n_X0 dX6_init_66 (Nat.le_of_ble_eq_true rfl) (Nat.le_of_ble_eq_true rfl) (fun H hH => ?_)
  refine lv_dup hx hb dX6_init_69 rfl ?_
  refine rg_zs (n := 95) (rg_lo hH (by omega)) (by omega) (fun hz => ?_)
  refine rg_callIN C0 hN hH hz (n := 95) (v := 94) (z := 3) (o := 94) (As := []) (rest := [.ref (B + 94), .ref (B + 0)]) (k_X0_init l E B _ _ (hJ.2.2.2.2)) ⟨va_cnB 0 C0.1.2.2.2.2 (rg_gw tw_c_X0_init) rfl rfl rfl (C0.2.2.2.2.2.2.1 (_, 44, yX0_init) (by decide)) (C0.1.2.2.2.2 _ tw_n_X0) hd_X0_init.2 ⟨Nat.le_of_ble_eq_true rfl, Nat.le_of_ble_eq_true rfl⟩, rfl, C0.1.2.2.2.2 _ tw_i_X0_init⟩ rfl hl.1 rfl (Nat.le_of_ble_eq_true rfl) dX6_init_70 ⟨Nat.le_of_ble_eq_true rfl, Nat.le_of_ble_eq_true rfl⟩ (fun R1 M1 H locs e1 hH => ?_)
  replace hJ := rg_lj_u hJ (n := 94) (z := 3) (by omega) (by omega) e1 (by omega)
  refine rg_pR C0 hH (o2 := 94) tyX6 tyX6_ok nmX6 (ci := 6) (k := 8) (o := 0) rfl inT_X6 (by decide) tw_f_X6_45 (by decide) rfl (by decide) rfl rfl hnm rfl rfl rfl dX6_init_73 (fun H locs hH => ?_)
  replace hJ := rg_lj_p (k := 8) (o := 94) hJ (by omega) (by omega)
  refine lv_aload_n hx hb dX6_init_76 rfl (lv_at hl 2 rfl) ?_
  refine lv_iconst (v := 4) hx hb dX6_init_77 (by decide) ?_
  refine rg_zs (n := 97) (rg_lo hH (by omega)) (by omega) (fun hz => ?_)
  refine rg_newI C0 hH hz hJ.2.2.2.2 (n := 97) (N' := 4) rfl rfl (by decide) rfl (by omega) dX6_init_78 (Nat.le_of_ble_eq_true rfl) (Nat.le_of_ble_eq_true rfl) (fun H hH => ?_)
  replace hJ := rg_lj_a hJ (rg_R0_n (by rw [show rg_kd 97 = 8 from rfl]; decide) (by rw [show rg_kd 97 = 8 from rfl]; decide)) (rg_i0_n (by rw [show rg_kd 97 = 8 from rfl]; decide))
  refine rg_pR C0 hH (o2 := 97) tyX6 tyX6_ok nmX6 (ci := 6) (k := 5) (o := 0) rfl inT_X6 (by decide) tw_f_X6_49 (by decide) rfl (by decide) rfl rfl hnm rfl rfl rfl dX6_init_80 (fun H locs hH => ?_)
  replace hJ := rg_lj_p (k := 5) (o := 97) hJ (by omega) (by omega)
  refine lv_aload_n hx hb dX6_init_83 rfl (lv_at hl 2 rfl) ?_
  refine lv_iconst (v := 4) hx hb dX6_init_84 (by decide) ?_
  refine rg_zs (n := 98) (rg_lo hH (by omega)) (by omega) (fun hz => ?_)
  refine rg_newQ C0 hH hz hJ.2.2.2.2 (n := 98) (N' := 4) (k := 12) (C := "RengaHall$Verse") hN.2.1 (by decide) rfl (rg_nmq C0.2.1 4 rfl) rfl (by decide) rfl (by omega) tw_k_X6_32 dX6_init_85 (Nat.le_of_ble_eq_true rfl) (Nat.le_of_ble_eq_true rfl) (fun H hH => ?_)
  replace hJ := rg_lj_b hJ rfl
  refine rg_pR C0 hH (o2 := 98) tyX6 tyX6_ok nmX6 (ci := 6) (k := 4) (o := 0) rfl inT_X6 (by decide) tw_f_X6_53 (by decide) rfl (by decide) rfl rfl hnm rfl rfl rfl dX6_init_88 (fun H locs hH => ?_)
  replace hJ := rg_lj_p (k := 4) (o := 98) hJ (by omega) (by omega)
  refine lv_iconst (v := 0) hx hb dX6_init_91 (by decide) ?_
  refine lv_istore_n (lv' := [(3, .int (0)), (2, .ref (B + 6)), (1, .ref (B + 1)), (0, .ref (B + 0))]) hx hb dX6_init_92 rfl hl (by decide) rfl (fun ls hl => ?_)
  have cut : ∀ (fu i : Nat), i ≤ 4 ∧ 4 < i + fu → ∀ (R1 : rg_Rfs) (M1 : rg_Mem) (H : Heap) (locs : List Loc) (ls : Array Slot), rg_lj 0 (99 + 2 * i) 98 i (fun q => if q = 6 then none else rg_R0 0 q) R M R1 M1 → rg_H E B (99 + 2 * i) R1 M1 s H locs → lv_has ls 4 [(2, .ref (B + 6)), (1, .ref (B + 1)), (0, .ref (B + 0)), (3, .int (nI i))] → W p l e ({ frames := 3, cells := 411, slots := 3064, locals := 53 } : Room) s m args below meth c H locs (98 + 2 * i) (984 + 12 * i) (MQ below (rg_Rc E B 0 412 R M) args s 411 3064 (rg_A B)) (F0 m 93 ls []) := by
    intro fu
    induction fu with
    | zero =>
      intro i hm
      exact absurd hm (by omega)
    | succ fu ih =>
      intro i hm R1 M1 H locs ls hJ hH hl
      refine lv_iload_n hx hb dX6_init_93 rfl (lv_at hl 3 rfl) ?_
      refine lv_iconst (v := 4) hx hb dX6_init_94 (by decide) ?_
      refine lv_icmp_ge (tgt := 117) hx hb dX6_init_95 (by decide) (fun c_1 => ?_) (fun c_1 => ?_)
      · have q2 := rg_lp_end (n := 4) hm.1 (by omega) c_1
        subst q2
        refine rg_zs (n := 107) (rg_lo hH (by omega)) (by omega) (fun hz => ?_)
        refine W.widen (k := 106) (n := 1032) (by omega) (by omega) ?_
        replace hJ := rg_lj_d (b := 107) hJ (fun k hk => by show (if k < 4 then some (99 + 2 * k) else none) = none; rw [if_neg (by omega)]) (rg_i0_n (by decide)) (by omega)
        refine lv_aload_n hx hb dX6_init_117 rfl (lv_at hl 2 rfl) ?_
        refine lv_bipush (v := 8) hx hb dX6_init_118 (by decide) ?_
        refine rg_zs (n := 107) (rg_lo hH (by omega)) (by omega) (fun hz => ?_)
        refine rg_newQ C0 hH hz hJ.2.2.2.2 (n := 107) (N' := 8) (k := 11) (C := "RengaHall$Sheet") hN.1 (by decide) rfl (rg_nmq C0.2.1 3 rfl) rfl (by decide) rfl (by omega) tw_k_X6_57 dX6_init_120 (Nat.le_of_ble_eq_true rfl) (Nat.le_of_ble_eq_true rfl) (fun H hH => ?_)
        replace hJ := rg_lj_b hJ rfl
        refine rg_pR C0 hH (o2 := 107) tyX6 tyX6_ok nmX6 (ci := 6) (k := 6) (o := 0) rfl inT_X6 (by decide) tw_f_X6_59 (by decide) rfl (by decide) rfl rfl hnm rfl rfl rfl dX6_init_123 (fun H locs hH => ?_)
        replace hJ := rg_lj_p (k := 6) (o := 107) hJ (by omega) (by omega)
        refine lv_iconst (v := 0) hx hb dX6_init_126 (by decide) ?_
        refine lv_istore_n (lv' := [(3, .int (0)), (2, .ref (B + 6)), (1, .ref (B + 1)), (0, .ref (B + 0))]) hx hb dX6_init_127 rfl hl (by decide) rfl (fun ls hl => ?_)
        have cut : ∀ (fu i : Nat), i ≤ 8 ∧ 8 < i + fu → ∀ (R1 : rg_Rfs) (M1 : rg_Mem) (H : Heap) (locs : List Loc) (ls : Array Slot), rg_lj 0 (108 + 38 * i) 107 i (rg_R0 0) R M R1 M1 → rg_H E B (108 + 38 * i) R1 M1 s H locs → lv_has ls 4 [(2, .ref (B + 6)), (1, .ref (B + 1)), (0, .ref (B + 0)), (3, .int (nI i))] → W p l e ({ frames := 3, cells := 411, slots := 3064, locals := 53 } : Room) s m args below meth c H locs (107 + 38 * i) (1040 + 253 * i) (MQ below (rg_Rc E B 0 412 R M) args s 411 3064 (rg_A B)) (F0 m 128 ls []) := by
          intro fu
          induction fu with
          | zero =>
            intro i hm
            exact absurd hm (by omega)
          | succ fu ih =>
            intro i hm R1 M1 H locs ls hJ hH hl
            refine lv_iload_n hx hb dX6_init_128 rfl (lv_at hl 3 rfl) ?_
            refine lv_bipush (v := 8) hx hb dX6_init_129 (by decide) ?_
            refine lv_icmp_ge (tgt := 153) hx hb dX6_init_131 (by decide) (fun c_1 => ?_) (fun c_1 => ?_)
            · have q2 := rg_lp_end (n := 8) hm.1 (by omega) c_1
              subst q2
              refine rg_zs (n := 412) (rg_lo hH (by omega)) (by omega) (fun hz => ?_)
              refine W.widen (k := 411) (n := 3064) (by omega) (by omega) ?_
              replace hJ := rg_lj_d (b := 1000) hJ (fun k hk => by show (if k < 8 then some (108 + 38 * k) else none) = none; rw [if_neg (by omega)]) (rg_i0_n (by decide)) (by omega)
              refine lv_aload_n hx hb dX6_init_153 rfl (lv_at hl 2 rfl) ?_
              refine lv_iconst (v := (-1)) hx hb dX6_init_154 (by decide) ?_
              refine rg_pI C0 hH (v := (-1)) tyX6 tyX6_ok nmX6 (ci := 6) (k := 12) (o := 0) rfl inT_X6 (by decide) tw_f_X6_64 (by decide) rfl (by decide) rfl rfl rfl rfl dX6_init_155 (fun H locs hH => ?_)
              refine rg_retC C0 (v := 0) (z := 412) hH hr hlocks ?_ dX6_init_158
              refine rg_up_of hJ (by omega) (by omega) (by omega) rfl rg_I_ne rfl ?_
              funext q
              show (if 0 = 0 ∧ q = 12 then (-1 : Int32) else M1.1 0 q) = if (rg_kd 0 = 5 ∧ q = 3) ∨ (0 = 0 ∧ q = 12) then -1 else 0
              rw [hJ.2.2.1.2.1, show rg_kd 0 = 6 from rfl]
              by_cases e : q = 12 <;> simp [e]
            · have hlt := rg_lp_lt (n := 8) hm.1 (by omega) c_1
              refine lv_aload_n hx hb dX6_init_134 rfl (lv_at hl 2 rfl) ?_
              refine rg_gR C0 hH (o2 := 107) (ci := 6) (k := 6) (o := 0) (by rw [hJ.2.2.1.1]; rfl) rfl inT_X6 (by decide) tw_f_X6_59 (by omega) rfl (by decide) rfl dX6_init_135 ?_
              refine lv_iload_n hx hb dX6_init_138 rfl (lv_at hl 3 rfl) ?_
              refine rg_zs (n := 108 + 38 * i) (rg_lo hH (by omega)) (by omega) (fun hz => ?_)
              refine rg_newO C0 hH hz hJ.2.2.2.2 (n := 108 + 38 * i) (ci := 3) (N := 1) tyX3 tyX3_ok rfl inT_X3 (by decide) (rg_kdS3 i (by omega)).1 (by decide) tw_k_X6_57 tw_o_X3 tw_n_X3 dX6_init_139 (by show _ ≤ (411 : Nat); omega) (by show _ ≤ (3064 : Nat); omega) (fun H hH => ?_)
              refine lv_dup hx hb dX6_init_142 rfl ?_
              refine rg_zs (n := 108 + 38 * i + 1) (rg_lo hH (by omega)) (by omega) (fun hz => ?_)
              refine rg_callIN C0 hN hH hz (n := 108 + 38 * i + 1) (v := (108 + 38 * i)) (z := 38) (o := (108 + 38 * i)) (As := []) (rest := [.ref (B + (108 + 38 * i)), .int (nI i), .ref (B + 107)]) (k_X3_init l E B _ _ i (by omega) (hJ.2.2.2.2)) ⟨va_cnB 0 C0.1.2.2.2.2 (rg_gw tw_c_X3_init) rfl rfl rfl (C0.2.2.2.2.2.2.1 (_, 63, yX3_init) (by decide)) (C0.1.2.2.2.2 _ tw_n_X3) hd_X3_init.2 ⟨Nat.le_of_ble_eq_true rfl, Nat.le_of_ble_eq_true rfl⟩, rfl, C0.1.2.2.2.2 _ tw_i_X3_init⟩ rfl hl.1 rfl (Nat.le_of_ble_eq_true rfl) dX6_init_143 ⟨by show _ ≤ (411 : Nat); omega, by show _ ≤ (3064 : Nat); omega⟩ (fun R1 M1 H locs e1 hH => ?_)
              replace hJ := rg_lj_u hJ (n := 108 + 38 * i) (z := 38) (by omega) (by omega) e1 (by omega)
              refine rg_astQ C0 hH (o := 107) (o2 := 108 + 38 * i) (j := i) (k := 11) (k2 := 3) (t0 := 3) (C := "RengaHall$Sheet") (by omega) rfl (by decide) rfl (by omega) (rg_kdS3 i (by omega)).1 (by decide) rfl ⟨by show i < 8; omega, by decide⟩ dX6_init_146 (fun H locs hH => ?_)
              replace hJ := rg_lj_s hJ (by omega) (by omega) (rg_R0_107 i (by omega))
              refine lv_iinc (v := nI (i + 1)) (lv' := [(3, .int (nI (i + 1))), (2, .ref (B + 6)), (1, .ref (B + 1)), (0, .ref (B + 0))]) hx hb dX6_init_147 hl (k := 3) rfl (nI_1 _) (by decide) rfl (fun ls hl => ?_)
              refine lv_goto (tgt := 128) hx hb dX6_init_150 (by decide) ?_
              refine W.widen (k := 107 + 38 * (i + 1)) (n := 1040 + 253 * (i + 1)) (by omega) (by omega) ?_
              exact ih (i + 1) (by omega) _ _ _ _ _ (by rw [show 108 + 38 * (i + 1) = 108 + 38 * i + 38 by omega]; exact hJ) (by rw [show 108 + 38 * (i + 1) = 108 + 38 * i + 38 by omega]; exact hH) (lv_sub hl [1, 2, 3, 0] rfl)
        refine W.widen (k := 107 + 38 * 0) (n := 1040 + 253 * 0) (by omega) (by omega) ?_
        exact cut 9 0 (by omega) _ _ _ _ _ (rg_lj_x hJ (by funext q; rcases q with _ | _ | _ | _ | _ | _ | _ | _ | _ | q <;> rfl)) hH (lv_sub hl [1, 2, 3, 0] rfl)
      · have hlt := rg_lp_lt (n := 4) hm.1 (by omega) c_1
        refine lv_aload_n hx hb dX6_init_98 rfl (lv_at hl 2 rfl) ?_
        refine rg_gR C0 hH (o2 := 98) (ci := 6) (k := 4) (o := 0) (by rw [hJ.2.2.1.1]; rfl) rfl inT_X6 (by decide) tw_f_X6_53 (by omega) rfl (by decide) rfl dX6_init_99 ?_
        refine lv_iload_n hx hb dX6_init_102 rfl (lv_at hl 3 rfl) ?_
        refine rg_zs (n := 99 + 2 * i) (rg_lo hH (by omega)) (by omega) (fun hz => ?_)
        refine rg_newO C0 hH hz hJ.2.2.2.2 (n := 99 + 2 * i) (ci := 5) (N := 6) tyX5 tyX5_ok rfl inT_X5 (by decide) (rg_kdO_all i (by omega)) (by decide) tw_k_X6_32 tw_o_X5 tw_n_X5 dX6_init_103 (by show _ ≤ (411 : Nat); omega) (by show _ ≤ (3064 : Nat); omega) (fun H hH => ?_)
        refine lv_dup hx hb dX6_init_106 rfl ?_
        refine rg_zs (n := 99 + 2 * i + 1) (rg_lo hH (by omega)) (by omega) (fun hz => ?_)
        refine rg_callIN C0 hN hH hz (n := 99 + 2 * i + 1) (v := (99 + 2 * i)) (z := 2) (o := (99 + 2 * i)) (As := []) (rest := [.ref (B + (99 + 2 * i)), .int (nI i), .ref (B + 98)]) (k_X5_init l E B _ _ (99 + 2 * i) (rg_isV_o (k := i) (by omega)) (hJ.2.2.2.2)) ⟨va_cnB 0 C0.1.2.2.2.2 (rg_gw tw_c_X5_init) rfl rfl rfl (C0.2.2.2.2.2.2.1 (_, 34, yX5_init) (by decide)) (C0.1.2.2.2.2 _ tw_n_X5) hd_X5_init.2 ⟨Nat.le_of_ble_eq_true rfl, Nat.le_of_ble_eq_true rfl⟩, rfl, C0.1.2.2.2.2 _ tw_i_X5_init⟩ rfl hl.1 rfl (Nat.le_of_ble_eq_true rfl) dX6_init_107 ⟨by show _ ≤ (411 : Nat); omega, by show _ ≤ (3064 : Nat); omega⟩ (fun R1 M1 H locs e1 hH => ?_)
        replace hJ := rg_lj_u hJ (n := 99 + 2 * i) (z := 2) (by omega) (by omega) e1 (by omega)
        refine rg_astQ C0 hH (o := 98) (o2 := 99 + 2 * i) (j := i) (k := 12) (k2 := 5) (t0 := 4) (C := "RengaHall$Verse") (by omega) rfl (by decide) rfl (by omega) (rg_kdO_all i (by omega)) (by decide) rfl ⟨by show i < 4; omega, by decide⟩ dX6_init_110 (fun H locs hH => ?_)
        replace hJ := rg_lj_s hJ (by omega) (by omega) (rg_R0_98 i (by omega))
        refine lv_iinc (v := nI (i + 1)) (lv' := [(3, .int (nI (i + 1))), (2, .ref (B + 6)), (1, .ref (B + 1)), (0, .ref (B + 0))]) hx hb dX6_init_111 hl (k := 3) rfl (nI_1 _) (by decide) rfl (fun ls hl => ?_)
        refine lv_goto (tgt := 93) hx hb dX6_init_114 (by decide) ?_
        refine W.widen (k := 98 + 2 * (i + 1)) (n := 984 + 12 * (i + 1)) (by omega) (by omega) ?_
        exact ih (i + 1) (by omega) _ _ _ _ _ (by rw [show 99 + 2 * (i + 1) = 99 + 2 * i + 2 by omega]; exact hJ) (by rw [show 99 + 2 * (i + 1) = 99 + 2 * i + 2 by omega]; exact hH) (lv_sub hl [1, 2, 3, 0] rfl)
  refine W.widen (k := 98 + 2 * 0) (n := 984 + 12 * 0) (by omega) (by omega) ?_
  exact cut 5 0 (by omega) _ _ _ _ _ (rg_lj_x hJ (by funext q; rcases q with _ | _ | _ | _ | _ | _ | _ | _ | _ | q <;> rfl)) hH (lv_sub hl [1, 2, 3, 0] rfl)
