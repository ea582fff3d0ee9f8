/-! THE CLAIM OUT OF ONE WALK OF THE LAW'S BODY. Your part is whole_start (and what it stands on); all else here is the same for every law, but numbers. -/
def R_law : String := "RengaHallLaw"
def lw_P (b : Addr) (xs : List Int32) (args : Array Value) (s : State) : Prop := args = #[.ref b] ∧ s.IntsAt b xs ∧ xs.length ≤ 260 ∧ (Jvm.Cond.and given_1 narrow_1).before args s = true
def lw_Q (_ : Array Value) (s : State) (o : Outcome) (t : State) : Prop := o = .returned (some (.int 1)) ∧ Framed s o t [] 600104 7301314
def lw_Z (below : List Frame) (a : Array Value) (s : State) : State → Prop := fun t => ∃ o, t.status = .running ∧ Ended t below o ∧ lw_Q a s o t
/-- the law's own end, with 1 on the stack, nothing written that was there before, its room as the claim has it -/
theorem lw_ret {p : Program} {l : Launch} {e : Env} {s : State} {m : MethodId} {below : List Frame} {meth : Method} {c : Code} {b : Nat} (hx : p.tables.exec = Jvm.exec) (hb : c.code = code) (hr : meth.sig.returnType = ret) (hlocks : meth.locks = false) {pc : Nat} {H : Heap} {ls : Array Slot} (hdg : decode code pc = .ok (.ireturn, 1)) : W p l e room_1 s m #[Value.ref b] below meth c H [] 600104 7301314 (lw_Z below #[Value.ref b] s) (F0 m pc ls [.int 1]) := by
  intro T hT X
  obtain ⟨fs, hret, hrun, hended, hW, hframe⟩ := X.leave (v := some (.int 1)) (hlocks := hlocks) (fun h => by rw [hr] at h; cases h)
  have hmeth' : T.vm.method? m = some meth := X.method'
  refine ⟨T.setFrames fs, ?_, .returned (some (.int 1)), hrun, hended, rfl, ⟨_, rfl⟩, hW, hframe⟩
  jvm_step X.here [X.here.top, hx, hb, hdg, hmeth', hr, ret, narrow_b1]
  (try refine ⟨rfl, ?_⟩); (try refine ⟨rfl, ?_⟩)
  first | (intro acts; rw [hret _ acts rfl rfl rfl]) | rw [hret _ _ rfl rfl rfl]
  exact Steps.refl _
/-- what holds at the law's entry: the machine, the code, the tables' words (any of lw_tbl by 'hts w (by decide +kernel)'), the script of L ints xs at the cell b, what the Statement gives of the start (any of its parts by flat_of_before) -/
def lw_At (p : Program) (s : State) (m : MethodId) (meth : Method) (c : Code) (b L : Nat) (xs : Nat → Int32) : Prop :=
  p.tables.exec = Jvm.exec ∧ c.code = code ∧ meth.sig.returnType = ret ∧ c.maxLocals = 1 ∧ s.vm.findClass R_law = some m.cls ∧ (∀ w ∈ lw_tbl, w.before #[Value.ref b] s = true) ∧ va_X b L xs s s.heap ∧ b < s.heap.size ∧ meth.locks = false ∧ (Jvm.Cond.and given_1 narrow_1).before #[Value.ref b] s = true
theorem rg_arr {args : Array Value} {s : State} {ty : FieldType} (h : (Cond.arrayClass ty).before args s = true) (hk : ∀ C, ty ≠ .object C) : ∃ cA : ClassId, ArrOfT s cA ty ∧ va_RA s cA ty := by
  obtain ⟨cA, kA, comp, h1, h2, h3⟩ := Cond.arrayClass_spec h
  refine ⟨cA, fun n z => ⟨fun k h => (by cases h), kA, h2, comp, h3⟩, ?_⟩
  cases ty with
  | object C => exact absurd rfl (hk C)
  | _ => exact h1
theorem rg_arrQ {s : State} {C : String} (h : va_AO C s) : ∃ cA : ClassId, ArrOfT s cA (.object C) ∧ va_RA s cA (.object C) := by
  obtain ⟨comp, c, k, h1, h2, h3, h4, h5⟩ := Cond.arrayOver_spec h
  exact ⟨c, fun n z => ⟨fun k h => (by cases h), k, h3, comp, h4⟩, k, comp, h3, h4, h1, h5⟩
theorem rg_arrA {s : State} (h : rg_AA s) : ∃ cA : ClassId, ArrOfT s cA (.array .int) ∧ va_RA s cA (.array .int) := by
  obtain ⟨comp, c, k, h1, h2, h3, h4, h5⟩ := arrayOverA_spec h
  exact ⟨c, fun n z => ⟨fun k h => (by cases h), k, h3, comp, h4⟩, h5⟩
theorem rg_known {p : Program} {s : State} {m : MethodId} {meth : Method} {c : Code} {b L : Nat} {xs : Nat → Int32} (C0 : lw_At p s m meth c b L xs) : ∃ E : rg_Env, rg_Cx p m c cL_law 1 s #[Value.ref b] "RengaHallLaw" E s.heap.size ∧ rg_Nm s := by
  obtain ⟨hx, hb, hr, hml, hown, hts0, hX, hbl, hlocks, hgv⟩ := C0
  have hts : ∀ w ∈ rg_T, w.before #[Value.ref b] s = true := fun w hw => hts0 w (List.mem_filter.mp hw).1
  have hfl := flat_of_before _ hgv
  obtain ⟨c0, i0, k0⟩ := u_known (C := RX0) (T := TX0) (N := 2) hts inT_X0 (hts _ tw_o_X0)
  obtain ⟨c1, i1, k1⟩ := u_known (C := RX1) (T := TX1) (N := 11) hts inT_X1 (hts _ tw_o_X1)
  obtain ⟨c2, i2, k2⟩ := u_known (C := RX2) (T := TX2) (N := 2) hts inT_X2 (hts _ tw_o_X2)
  obtain ⟨c3, i3, k3⟩ := u_known (C := RX3) (T := TX3) (N := 1) hts inT_X3 (hts _ tw_o_X3)
  obtain ⟨c4, i4, k4⟩ := u_known (C := RX4) (T := TX4) (N := 5) hts inT_X4 (hts _ tw_o_X4)
  obtain ⟨c5, i5, k5⟩ := u_known (C := RX5) (T := TX5) (N := 6) hts inT_X5 (hts _ tw_o_X5)
  obtain ⟨c6, i6, k6⟩ := u_known (C := RX6) (T := TX6) (N := 13) hts inT_X6 (hts _ tw_o_X6)
  have hS : va_AO "RengaHall$Sheet" s := va_AO.of (hts0 (.arrayOver (.object "RengaHall$Sheet")) (by decide +kernel))
  have hV : va_AO "RengaHall$Verse" s := va_AO.of (hts0 (.arrayOver (.object "RengaHall$Verse")) (by decide +kernel))
  have hA : rg_AA s := hts0 (.arrayOver (.array .int)) (by decide +kernel)
  obtain ⟨a8, b8⟩ := rg_arr (hts _ tw_a_int) (fun C h => by cases h)
  obtain ⟨a9, b9⟩ := rg_arr (hts _ tw_a_long) (fun C h => by cases h)
  obtain ⟨a10, b10⟩ := rg_arr (hts _ tw_a_boolean) (fun C h => by cases h)
  obtain ⟨a11, b11⟩ := rg_arrQ hS
  obtain ⟨a12, b12⟩ := rg_arrQ hV
  obtain ⟨a13, b13⟩ := rg_arrA hA
  refine ⟨((fun k => [c0, c1, c2, c3, c4, c5, c6].getD k 0, fun k => [i0, i1, i2, i3, i4, i5, i6].getD k (fun _ => 0)), fun k => if k = 8 then a8 else if k = 9 then a9 else if k = 10 then a10 else if k = 11 then a11 else if k = 12 then a12 else a13), ⟨⟨hx, hb, hml, hown, hts⟩, ⟨?_, ?_⟩, ?_, ?_, ?_, ?_, ?_, ?_, ?_, ?_⟩, hS, hV, hA⟩
  · intro k q hq
    match k, hq with
    | 0, hq => cases hq; exact k0
    | 1, hq => cases hq; exact k1
    | 2, hq => cases hq; exact k2
    | 3, hq => cases hq; exact k3
    | 4, hq => cases hq; exact k4
    | 5, hq => cases hq; exact k5
    | 6, hq => cases hq; exact k6
    | k + 7, hq => simp [vwCl] at hq
  · intro k q hq
    match k, hq with
    | 0, hq => cases hq; exact b8
    | 1, hq => cases hq; exact b9
    | 2, hq => cases hq; exact b10
    | 3, hq => cases hq; exact b11
    | 4, hq => cases hq; exact b12
    | 5, hq => cases hq; exact b13
    | k + 6, hq => simp [rg_ty] at hq
  · exact vx_Zqof (hts0 (.laysStatic Bundle.tN "UNASSIGNED_STACK" Bundle.steD) (by decide +kernel)) (hts0 (.initialized Bundle.tN) (by decide +kernel)) (hfl (.isRef (.static Bundle.tN "UNASSIGNED_STACK" Bundle.steD)) (by decide +kernel)) (fun a ha h => by unfold rg_A at h; omega)
  · exact vx_Zqof (hts0 (.laysStatic Bundle.tN "SUPPRESSED_SENTINEL" Bundle.listD) (by decide +kernel)) (hts0 (.initialized Bundle.tN) (by decide +kernel)) (hfl (.isRef (.static Bundle.tN "SUPPRESSED_SENTINEL" Bundle.listD)) (by decide +kernel)) (fun a ha h => by unfold rg_A at h; omega)
  · intro q hq
    have hw : Cond.stringRef "RengaHall" q.1 q.2 ∈ lw_tbl := by
      have h : ∀ q ∈ rg_strs, Cond.stringRef "RengaHall" q.1 q.2 ∈ lw_tbl := by decide +kernel
      exact h q hq
    have h1 := hts0 _ hw
    obtain ⟨k, cf, i, a, -, -, -, -, -, hev⟩ := Cond.stringRef_spec (cls := "RengaHall") k6.2.1 h1
    exact ⟨a, vk_R.of h1 hev⟩
  · intro q hq
    have h : ∀ q ∈ rg_nf, Cond.fieldLinkNest q.1 q.2.1 q.2.2.1 q.2.2.2.1 q.2.2.2.2 "RengaHall" ∈ lw_tbl := by decide +kernel
    exact va_Nw.of rfl (hts0 _ (h q hq))
  · intro q hq
    have h : ∀ q ∈ rg_nm, Cond.methodLinkNest q.1 q.2.1 q.2.2 "RengaHall" ∈ lw_tbl := by decide +kernel
    exact va_Nw.of rfl (hts0 _ (h q hq))
  · intro X hX
    have h : ∀ X ∈ rg_xs, Cond.castable X X ∈ lw_tbl := by decide +kernel
    exact va_Nw.of rfl (hts0 _ (h X hX))
  · intro y hy
    have h : ∀ y ∈ rg_ds, Cond.declares y ∈ lw_tbl := by decide +kernel
    exact va_Nw.of rfl (hts0 _ (h y hy))
  · intro X hX Y hY hn
    have h : ∀ X ∈ rg_xs, ∀ Y ∈ rg_xs, X ≠ Y → Cond.not (.castable X Y) ∈ flatC (Jvm.Cond.and given_1 narrow_1) := by decide +kernel
    exact va_Nc.of (hfl _ (h X hX Y hY hn))
set_option maxHeartbeats 4000000 in
set_option maxRecDepth 100000 in
theorem k_L_isHeld (l : Launch) (E : rg_Env) (B b L : Nat) (xs : Nat → Int32) (hL : L ≤ 260) (hbB : b < B) (hst : l.stackTraces = false) : Met l yL_isHeld (rg_ww yL_isHeld cL_isHeld 2 (some (FieldType.boolean)) [(0, 4, 5, 182), (0, 4, 8, 184), (0, 4, 11, 186)]) ({ frames := 11, cells := 4342, slots := 26940, locals := 270 } : Room) (va_Pc [.ref b] (rg_PreH E B b L xs)) (rg_Ri E B 0 rg_RN rg_MN (fun r => r = 1)) 4342 26940 (rg_A B) := by
  refine rg_ofHW (by decide +kernel) rfl (Nat.le_of_ble_eq_true rfl) ?_
  intro p e s m args below meth c ls C0 hH hz0 hN hX hbl hl hr hlocks
  replace hl : lv_has ls 2 [(0, .ref b)] := hl
  have hx := C0.1.1
  have hb := C0.1.2.1
  refine lv_aload_n hx hb dL_isHeld_0 rfl (lv_at hl 0 rfl) ?_
  refine rg_callSH C0 hX hbl hbB hN hz0 hH (As := [.ref b]) (rest := []) (k_L_holds l E B b L xs hL hbB hst) (rg_cwS 1 C0.1.2.2.2.2 tw_m_L_178 tw_s_L_holds tw_n_L tw_c_L_holds rfl rfl hd_L_holds ⟨Nat.le_of_ble_eq_true rfl, Nat.le_of_ble_eq_true rfl⟩) rfl hl.1 rfl (Nat.le_of_ble_eq_true rfl) dL_isHeld_1 ⟨Nat.le_of_ble_eq_true rfl, Nat.le_of_ble_eq_true rfl⟩ (fun r H locs e1 hH => ?_)
  subst e1
  exact rg_retRz (g := rg_MN) C0 hH hr hlocks (Or.inr rfl) rfl rfl dL_isHeld_4
set_option maxHeartbeats 4000000 in
set_option maxRecDepth 100000 in
theorem whole_start {p : Program} {e : Env} {s : State} {m : MethodId} {below : List Frame} {meth : Method} {c : Code} (l : Launch) (hflags : l.flags = flags0) {b L : Nat} {xs : Nat → Int32} (hL : L ≤ 260) (C0 : lw_At p s m meth c b L xs) : W p l e room_1 s m #[Value.ref b] below meth c s.heap [] 0 0 (lw_Z below #[Value.ref b] s) (entryFrame m ([Value.ref b] : List Value).toArray 1) := by
  obtain ⟨E, C1, hN⟩ := rg_known C0
  obtain ⟨-, -, hr, -, -, -, hX, hbl, hlocks, -⟩ := C0
  have hst : l.stackTraces = false := by
    unfold Launch.stackTraces
    rw [hflags]
    decide +kernel
  have hx := C1.1.1
  have hb := C1.1.2.1
  have hl := lv_entry ([.ref b]) (n := 1) (Nat.le_of_ble_eq_true rfl)
  rw [lg_entry_eq]
  generalize (lg_sl ([.ref b]) ++ List.replicate (1 - (lg_sl ([.ref b])).length) Slot.unset).toArray = ls at hl ⊢
  have hl : lv_has ls 1 [(0, .ref b)] := hl
  obtain ⟨B, hB⟩ : ∃ B, s.heap.size = B := ⟨_, rfl⟩
  rw [hB] at C1
  have hH : rg_H E B 0 rg_RN rg_MN s s.heap [] := ⟨fun k q h => by simp [rg_WS, rg_cl] at h, va_S.rf⟩
  have hz : s.heap.size = B + 0 := hB
  refine lv_aload_n hx hb dL_law_0 rfl (lv_at hl 0 rfl) ?_
  refine rg_callSWH C1 hX hbl (by omega) hN hz hH (As := [.ref b]) (rest := []) (k_L_isHeld l E B b L xs hL (by omega) hst) (rg_cwSW 1 C1.1.2.2.2.2 tw_m_L_188 tw_s_L_isHeld tw_n_L tw_c_L_isHeld rfl rfl hd_L_isHeld ⟨Nat.le_of_ble_eq_true rfl, Nat.le_of_ble_eq_true rfl⟩) rfl hl.1 rfl (Nat.le_of_ble_eq_true rfl) dL_law_1 ⟨Nat.le_of_ble_eq_true rfl, Nat.le_of_ble_eq_true rfl⟩ (fun r H locs e1 hH => ?_)
  subst e1
  refine va_forget (fun q hq => by have h := hH.2.2.2 q hq; unfold rg_A at h; omega) ?_
  refine W.widen (k := 600104) (n := 7301314) (Nat.le_of_ble_eq_true rfl) (Nat.le_of_ble_eq_true rfl) ?_
  exact lw_ret hx hb hr hlocks dL_law_4
