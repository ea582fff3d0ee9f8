/-! rows for what makes cells: cell n is laid at address B + n -/
def rg_AA (U : State) : Prop := (Cond.arrayOver (.array .int)).before #[] U = true
theorem rg_AA_moved {u U : State} (hvm : u.vm.Alike U.vm) (h : rg_AA u) : rg_AA U := by
  obtain ⟨comp, c, k, h1, h2, h3, h4, h5⟩ := arrayOverA_spec h
  obtain ⟨k', hk', he⟩ := hvm.2.2 _ _ h3
  have hk : k'.kind = .array comp (.array .int) := by rw [he]; exact h4
  have e1 := va_idx_bare U.vm comp
  have e2 := va_idx_bare u.vm comp
  have e3 : U.vm.bare = u.vm.bare := by first | exact hvm.bare_eq | exact hvm.bare_eq.symm
  rw [e3] at e1
  have hi := e1.symm.trans (e2.trans h2)
  have f1 : U.vm.findClass (FieldType.array .int).toString = some comp := by rw [hvm.findClass]; exact h1
  have f2 : U.vm.findClass ("[" ++ (FieldType.array .int).toString) = some c := by rw [hvm.findClass]; exact h5
  unfold rg_AA Cond.before Cond.holds
  simp only [Cond.value, beq_iff_eq]
  rw [f1, Option.bind_some]
  refine (congrArg (fun o : Option Nat => Option.bind o _) hi).trans ?_
  simp [hk', hk, f2]
def rg_Nm (U : State) : Prop := va_AO "RengaHall$Sheet" U ∧ va_AO "RengaHall$Verse" U ∧ rg_AA U
theorem rg_Nm_moved {u U : State} (hvm : u.vm.Alike U.vm) (h : rg_Nm u) : rg_Nm U := ⟨va_AO.moved hvm h.1, va_AO.moved hvm h.2.1, rg_AA_moved hvm h.2.2⟩
/-- from cell n on nothing is written -/
def rg_fr (n : Nat) (R : rg_Rfs) (M : rg_Mem) : Prop := ∀ c, n ≤ c → R c = (fun _ => none) ∧ M.1 c = (fun _ => 0) ∧ M.2 c = fun _ => 0
theorem rg_fr_up {n k : Nat} {R : rg_Rfs} {M : rg_Mem} (h : rg_fr n R M) (hk : n ≤ k) : rg_fr k R M := fun c hc => h c (by omega)
theorem rg_fr_R {n o k : Nat} {R : rg_Rfs} {M : rg_Mem} {x : Option Nat} (h : rg_fr n R M) (ho : o < n) : rg_fr n (rg_R R o k x) M := fun c hc => ⟨by funext j; simp [rg_R, show c ≠ o by omega, (h c hc).1], (h c hc).2⟩
theorem rg_fr_I {n o k : Nat} {R : rg_Rfs} {M : rg_Mem} {x : Int32} (h : rg_fr n R M) (ho : o < n) : rg_fr n R (rg_I M o k x) := fun c hc => ⟨(h c hc).1, by funext j; simp [rg_I, show c ≠ o by omega, (h c hc).2.1], (h c hc).2.2⟩
/-- what is written of a new cell -/
def rg_i0 (c : Nat) : Nat → Int32 := fun k => if (rg_kd c = 5 ∧ k = 3) ∨ (c = 0 ∧ k = 12) then -1 else 0
def rg_ok (R : rg_Rfs) (M : rg_Mem) (c : Nat) : Prop := R c = rg_R0 c ∧ M.1 c = rg_i0 c ∧ M.2 c = fun _ => 0
/-- the cells v .. v + z - 1 are made; what was ahead of them is as before -/
def rg_up (v z : Nat) (R : rg_Rfs) (M : rg_Mem) (R1 : rg_Rfs) (M1 : rg_Mem) : Prop := (∀ c, c < v → R1 c = R c ∧ M1.1 c = M.1 c ∧ M1.2 c = M.2 c) ∧ (∀ c, v ≤ c → c < v + z → rg_ok R1 M1 c) ∧ rg_fr (v + z) R1 M1
def rg_PreC (E : rg_Env) (B n : Nat) (R : rg_Rfs) (M : rg_Mem) (U : State) : Prop := rg_Pre E B n R M U ∧ U.heap.size = B + n ∧ rg_Nm U
def rg_Rc (E : rg_Env) (B v z : Nat) (R : rg_Rfs) (M : rg_Mem) : Array Value → State → Outcome → State → Prop := va_Qv (S := rg_Rfs × rg_Mem) (fun u => rg_up v z R M u.1 u.2) (fun u t => rg_Po E B (v + z) u.1 u.2 t) (rg_A B)
theorem rg_blindC {av : List Value} {E : rg_Env} {B n : Nat} {R : rg_Rfs} {M : rg_Mem} : FrameBlind (va_Pc av (rg_PreC E B n R M)) := by
  intro a U g mk q
  obtain ⟨q1, q2, q3, q4⟩ := q
  have h := rg_blind a U g mk (show va_Pc av (rg_Pre E B n R M) a U from ⟨q1, q2⟩)
  exact ⟨h.1, h.2, q3, rg_Nm_moved (u := U) (U := U.calling g mk a) (Vm.Alike.refl U.vm) q4⟩
theorem rg_preC {E : rg_Env} {B n : Nat} {R : rg_Rfs} {M : rg_Mem} {s : State} {H : Heap} {locs : List Loc} {av : List Value} (hK : va_K E.1 vwCl (rg_ty E.2) s) (hSt : rg_St B s s.heap) (hN : rg_Nm s) (hz : H.size = B + n) (hH : rg_H E B n R M s H locs) : ∀ U : State, U.heap = H → s.WarmedH U.vm → va_Pc av (rg_PreC E B n R M) av.toArray U := fun U hU hW => ⟨rfl, (rg_pre (av := av) hK hSt hH U hU hW).2, by rw [hU]; exact hz, rg_Nm_moved hW.alike hN⟩
def rg_dv (t : Nat) : Value := if t = 0 then .int 0 else if t = 1 then .long 0 else .null
theorem rg_fs_fr {B n ci : Nat} {R : rg_Rfs} {M : rg_Mem} (hk : rg_kd n = ci) (h : rg_fr n R M) : rg_fs B R M n = (rg_ft ci).map rg_dv := by
  obtain ⟨h1, h2, h3⟩ := h n (Nat.le_refl n)
  unfold rg_fs
  rw [hk]
  apply List.ext_getElem?
  intro i
  rw [List.getElem?_map, List.getElem?_zipIdx, List.getElem?_map]
  cases (rg_ft ci)[i]? with
  | none => rfl
  | some t =>
    show some (rg_fv B R M n (0 + i) t) = some (rg_dv t)
    unfold rg_fv rg_dv
    rw [h1, h2, h3]
    rfl
theorem rg_WS_succ {cy : Nat → ClassId} {B n : Nat} {R : rg_Rfs} {M : rg_Mem} (hn9 : n < 422) : rg_WS cy B (n + 1) R M = rg_WS cy B n R M ++ [(B + n, rg_ent cy B R M n)] := by
  unfold rg_WS rg_cl
  rw [if_pos (by omega), if_pos (by omega), List.range_succ, List.map_append]
  rfl
theorem rg_lo {E : rg_Env} {B n : Nat} {R : rg_Rfs} {M : rg_Mem} {s : State} {H : Heap} {locs : List Loc} (hH : rg_H E B n R M s H locs) (hn : 0 < n) : B + n ≤ H.size := by
  have h : B + (n - 1) < H.size := (hH.1 (rg_ps (n - 1)) _ (rg_WS_get (c := n - 1) ⟨by omega, by omega⟩)).lt
  omega
theorem rg_outer (c : ClassId) (N h0 : Nat) : ∀ i : Nat, Jvm.Free.Multi.outerC c N h0 i = arrV c N (fun j => va_rf (if j < i then some (h0 + 1 + j) else none))
  | 0 => by
    show ({ cls := c, slots := Array.replicate N .null, vm := .none } : Cell) = _
    rw [arrV_new]
    refine congrArg (arrV c N) (funext fun j => ?_)
    rw [if_neg (by omega)]
    rfl
  | i + 1 => by
    show (Jvm.Free.Multi.outerC c N h0 i).setSlot i (.ref (h0 + 1 + i)) = _
    rw [rg_outer c N h0 i, arrV_store]
    refine congrArg (arrV c N) (funext fun j => ?_)
    by_cases e : j = i
    · subst e
      simp [updV, va_rf]
    · by_cases h : j < i
      · simp [updV, e, h, Nat.lt_succ_of_lt h]
      · simp [updV, e, h, show ¬ j < i + 1 by omega]
section RGN
variable {p : Program} {l : Launch} {e : Env} {Rm : Room} {s : State} {m : MethodId} {args : Array Value} {below : List Frame} {meth : Method} {c : Code} {H : Heap} {locs : List Loc} {cells slots : Nat} {Q : State → Prop}
variable {cc : ByteArray} {pc nL : Nat} {ls : Array Slot} {st rest : List Value} {own : String} {E : rg_Env} {B n : Nat} {R : rg_Rfs} {M : rg_Mem}
variable {C : String} {T : u_T} {N ci o : Nat} {As : List Value} {y : MethodName} {bytes : ByteArray} {maxL index na mc ms : Nat} {ret : Option FieldType} {ws : List Cond} {rm : Room}
/-- the heap's size, out of the room -/
theorem rg_zs {g : JFrame} (hlo : B + n ≤ H.size) (hs : s.heap.size + cells ≤ B + n) (kk : H.size = B + n → W p l e Rm s m args below meth c H locs cells slots Q g) : W p l e Rm s m args below meth c H locs cells slots Q g := by
  intro T hT X
  have h2 : T.heap.size ≤ s.heap.size + cells := X.same.2.2.1
  rw [hT] at h2
  exact kk (by omega) T hT X
theorem rg_grow {H1 : Heap} {e : va_E} (hH : rg_H E B n R M s H locs) (hz : H.size = B + n) (z1 : H1.size = B + n + 1) (o1 : ∀ q : Nat, q < B + n → H1[q]? = H[q]?) (he : rg_ent E.2 B R M n = e) (ha : va_at E.1 vwCl (B + n, e) H1) (hn9 : n < 422) : rg_H E B (n + 1) R M s H1 locs := by
  refine ⟨?_, ?_⟩
  · rw [rg_WS_succ hn9, he]
    refine (hH.1.kept (fun k x hx => o1 x.1 (by rw [← hz]; exact (hH.1 k x hx).lt))).app (fun k x hx => ?_)
    have hz0 : k < 1 := (List.getElem?_eq_some_iff.mp hx).1
    rw [show k = 0 by omega] at hx
    cases hx
    exact ha
  · exact ⟨by have := hH.2.1; omega, fun x h1 h2 => (o1 x (by have := hH.2.1; omega)).trans (hH.2.2.1 x h1 h2), hH.2.2.2⟩
theorem rg_newO (C0 : rg_Cx p m c cc nL s args own E B) (hH : rg_H E B n R M s H locs) (hz : H.size = B + n) (hfr : rg_fr n R M) (ty0 : Nat → FieldType) (hty : ∀ k, k < N → parseFieldDescriptor (T k).2.2.1 = some (ty0 k)) (hc : vwCl[ci]? = some (C, T, N)) (hin : ∀ w ∈ u_ws C T N, w ∈ rg_T) (hci : ci < 8) (hk : rg_kd n = ci) (hdf : ∀ j, j < N → defaultValue (ty0 j) = vp_V ((rg_ft ci).map rg_dv) j) (hcl : Cond.classLink own index C ∈ rg_T) (hinst : Cond.instantiable C N ∈ rg_T) (hini : Cond.initialized C ∈ rg_T) (hdg : decode cc pc = .ok (.new index, 3)) (hcells : cells + 1 ≤ Rm.cells) (hslots : slots + N ≤ Rm.slots)
    (kk : ∀ H1 : Heap, rg_H E B (n + 1) R M s H1 locs → W p l e Rm s m args below meth c H1 locs (cells + 1) (slots + N) Q (F0 m (pc + 3) ls (.ref (B + n) :: rest))) (hn9 : n < 422 := by omega) : W p l e Rm s m args below meth c H locs cells slots Q (F0 m pc ls rest) := by
  obtain ⟨⟨hx, hb, -, hown, hts⟩, hK, -⟩ := C0
  have hKn := hK.1 ci _ hc
  refine W.newcK hx hb hown (hts _ hcl) (hts _ hinst) (hts _ hini) rfl hdg hcells hslots hKn.2.1 hz fun H1 kC hkC e1 z1 o1 => ?_
  exact kk H1 (rg_grow (e := .inr (ci, (rg_ft ci).map rg_dv)) hH hz z1 o1 (by rw [rg_ent_o hk hci, rg_fs_fr hk hfr]) ⟨_, hc, (u_born ty0 hts hin hKn hkC e1 hty).to hdf⟩ hn9)
theorem rg_newa (C0 : rg_Cx p m c cc nL s args own E B) (hH : rg_H E B n R M s H locs) (hz : H.size = B + n) {atype : ArrayType} {ty : FieldType} {i : Int32} {N' : Nat} {cy : ClassId} {a0 : vp_A} (hty : newarray.typeOf atype = ty) (harr : Cond.arrayClass ty ∈ rg_T) (hcy : s.vm.findClass ("[" ++ ty.toString) = some cy) (hent : rg_ent E.2 B R M n = .inl (cy, a0)) (ha : vp_cell cy a0 = arrV cy N' (fun _ => defaultValue ty)) (hn : ¬ i < 0) (hN : i.toNatClampNeg = N') (hbytes : N' * componentBytes ty ≤ 536870912) (hdg : decode cc pc = .ok (.newarray atype, 2)) (hcells : cells + 1 ≤ Rm.cells) (hslots : slots + N' ≤ Rm.slots)
    (kk : ∀ H1 : Heap, rg_H E B (n + 1) R M s H1 locs → W p l e Rm s m args below meth c H1 locs (cells + 1) (slots + N') Q (F0 m (pc + 2) ls (.ref (B + n) :: rest))) (hn9 : n < 422 := by omega) : W p l e Rm s m args below meth c H locs cells slots Q (F0 m pc ls (.int i :: rest)) := by
  obtain ⟨⟨hx, hb, -, hown, hts⟩, hK, -⟩ := C0
  subst hty
  refine va_newaK hx hb (hts _ harr) rfl hdg rfl hn hN hbytes hcells hslots hz fun H1 cA e1 z1 o1 hAr hNm => ?_
  cases hcy.symm.trans hNm
  exact kk H1 (rg_grow hH hz z1 o1 hent (by show H1[B + n]? = some (vp_cell _ _); rw [ha]; exact e1) hn9)
theorem rg_newI (C0 : rg_Cx p m c cc nL s args own E B) (hH : rg_H E B n R M s H locs) (hz : H.size = B + n) (hfr : rg_fr n R M) {i : Int32} {N' : Nat} (hk : rg_kd n = 8) (hln : rg_ln n = N') (hn : ¬ i < 0) (hN : i.toNatClampNeg = N') (hN2 : N' ≤ 2000) (hdg : decode cc pc = .ok (.newarray .int, 2)) (hcells : cells + 1 ≤ Rm.cells) (hslots : slots + N' ≤ Rm.slots)
    (kk : ∀ H1 : Heap, rg_H E B (n + 1) R M s H1 locs → W p l e Rm s m args below meth c H1 locs (cells + 1) (slots + N') Q (F0 m (pc + 2) ls (.ref (B + n) :: rest))) (hn9 : n < 422 := by omega) : W p l e Rm s m args below meth c H locs cells slots Q (F0 m pc ls (.int i :: rest)) :=
  rg_newa C0 hH hz (ty := .int) (cy := E.2 8) (a0 := (N', .inl (fun _ => 0))) rfl tw_a_int (C0.2.1.2 0 _ rfl).2 (by rw [rg_ent_i hk, (hfr n (Nat.le_refl n)).2.1, hln]) rfl hn hN (by show N' * 4 ≤ _; omega) hdg hcells hslots kk hn9
theorem rg_newZ (C0 : rg_Cx p m c cc nL s args own E B) (hH : rg_H E B n R M s H locs) (hz : H.size = B + n) (hfr : rg_fr n R M) {i : Int32} {N' : Nat} (hk : rg_kd n = 10) (hln : rg_ln n = N') (hn : ¬ i < 0) (hN : i.toNatClampNeg = N') (hN2 : N' ≤ 2000) (hdg : decode cc pc = .ok (.newarray .boolean, 2)) (hcells : cells + 1 ≤ Rm.cells) (hslots : slots + N' ≤ Rm.slots)
    (kk : ∀ H1 : Heap, rg_H E B (n + 1) R M s H1 locs → W p l e Rm s m args below meth c H1 locs (cells + 1) (slots + N') Q (F0 m (pc + 2) ls (.ref (B + n) :: rest))) (hn9 : n < 422 := by omega) : W p l e Rm s m args below meth c H locs cells slots Q (F0 m pc ls (.int i :: rest)) :=
  rg_newa C0 hH hz (ty := .boolean) (cy := E.2 10) (a0 := (N', .inl (fun _ => 0))) rfl tw_a_boolean (C0.2.1.2 2 _ rfl).2 (by rw [rg_ent_z hk, (hfr n (Nat.le_refl n)).2.1, hln]) rfl hn hN (by show N' * 1 ≤ _; omega) hdg hcells hslots kk hn9
theorem rg_newJ (C0 : rg_Cx p m c cc nL s args own E B) (hH : rg_H E B n R M s H locs) (hz : H.size = B + n) (hfr : rg_fr n R M) {i : Int32} {N' : Nat} (hk : rg_kd n = 9) (hln : rg_ln n = N') (hn : ¬ i < 0) (hN : i.toNatClampNeg = N') (hN2 : N' ≤ 2000) (hdg : decode cc pc = .ok (.newarray .long, 2)) (hcells : cells + 1 ≤ Rm.cells) (hslots : slots + N' ≤ Rm.slots)
    (kk : ∀ H1 : Heap, rg_H E B (n + 1) R M s H1 locs → W p l e Rm s m args below meth c H1 locs (cells + 1) (slots + N') Q (F0 m (pc + 2) ls (.ref (B + n) :: rest))) (hn9 : n < 422 := by omega) : W p l e Rm s m args below meth c H locs cells slots Q (F0 m pc ls (.int i :: rest)) :=
  rg_newa C0 hH hz (ty := .long) (cy := E.2 9) (a0 := (N', .inr (.inl (fun _ => 0)))) rfl tw_a_long (C0.2.1.2 1 _ rfl).2 (by rw [rg_ent_j hk, (hfr n (Nat.le_refl n)).2.2, hln]) rfl hn hN (by show N' * 8 ≤ _; omega) hdg hcells hslots kk hn9
theorem rg_newQ (C0 : rg_Cx p m c cc nL s args own E B) (hH : rg_H E B n R M s H locs) (hz : H.size = B + n) (hfr : rg_fr n R M) {i : Int32} {N' k : Nat} (hover : va_AO C s) (hkk : 10 < k) (hk : rg_kd n = k) (hcy : s.vm.findClass ("[" ++ (FieldType.object C).toString) = some (E.2 k)) (hln : rg_ln n = N') (hn : ¬ i < 0) (hN : i.toNatClampNeg = N') (hN2 : N' ≤ 2000) (hcl : Cond.classLink own index C ∈ rg_T) (hdg : decode cc pc = .ok (.anewarray index, 3)) (hcells : cells + 1 ≤ Rm.cells) (hslots : slots + N' ≤ Rm.slots)
    (kk : ∀ H1 : Heap, rg_H E B (n + 1) R M s H1 locs → W p l e Rm s m args below meth c H1 locs (cells + 1) (slots + N') Q (F0 m (pc + 3) ls (.ref (B + n) :: rest))) (hn9 : n < 422 := by omega) : W p l e Rm s m args below meth c H locs cells slots Q (F0 m pc ls (.int i :: rest)) := by
  obtain ⟨⟨hx, hb, -, hown, hts⟩, hK, -⟩ := C0
  subst hN
  refine W.anew hx hb hown (hts _ hcl) (va_AO.use hover) rfl hdg rfl hn (by omega) hcells hslots fun cA kA comp f1 f2 f3 f4 => ?_
  cases hcy.symm.trans f1
  generalize hH1 : H.push ({ cls := E.2 k, slots := Array.replicate i.toNatClampNeg .null, vm := .none } : Cell) = H1
  have z1 : H1.size = B + n + 1 := by rw [← hH1, Array.size_push, hz]
  have e1 : H1[B + n]? = some (arrV (E.2 k) i.toNatClampNeg (fun _ => .null)) := by rw [← hH1, ← hz, Array.getElem?_push_size, ← arrV_new]
  have o1 : ∀ q : Nat, q < B + n → H1[q]? = H[q]? := fun q hq => by rw [← hH1, Array.getElem?_push, if_neg (by omega)]
  show W p l e Rm s m args below meth c H1 locs (cells + 1) (slots + i.toNatClampNeg) Q (F0 m (pc + 3) ls (.ref H.size :: rest))
  rw [hz]
  refine kk H1 (rg_grow hH hz z1 o1 (rg_ent_q hk hkk) ?_ hn9)
  show H1[B + n]? = some (vp_cell _ _)
  rw [(hfr n (Nat.le_refl n)).1, hln, vp_cell_q]
  exact e1
/-- new int[i][j]: the outer row at n, the inner ones behind it -/
theorem rg_mna (C0 : rg_Cx p m c cc nL s args own E B) (hH : rg_H E B n R M s H locs) (hz : H.size = B + n) (hfr : rg_fr n R M) {i j : Int32} {N' K' : Nat} (hover : rg_AA s) (hk : rg_kd n = 13) (hks : ∀ q, q < N' → rg_kd (n + 1 + q) = 8 ∧ rg_ln (n + 1 + q) = K') (hln : rg_ln n = N') (hn : ¬ i < 0) (hN : i.toNatClampNeg = N') (hN2 : N' ≤ 2000) (hj : ¬ j < 0) (hK' : j.toNatClampNeg = K') (hK2 : K' ≤ 2000) (hcl : Cond.classLink own index "[[I" ∈ rg_T) (hdg : decode cc pc = .ok (.multianewarray index 2, 4)) (hcells : cells + (1 + N') ≤ Rm.cells) (hslots : slots + (N' + N' * K') ≤ Rm.slots)
    (kk : ∀ (R1 : rg_Rfs) (H1 : Heap), (∀ c, c ≠ n → R1 c = R c) → (∀ q, R1 n q = if q < N' then some (n + 1 + q) else none) → rg_H E B (n + 1 + N') R1 M s H1 locs → W p l e Rm s m args below meth c H1 locs (cells + 1 + N') (slots + N' + N' * K') Q (F0 m (pc + 4) ls (.ref (B + n) :: rest))) (hn9 : n + 1 + N' ≤ 422 := by omega) : W p l e Rm s m args below meth c H locs cells slots Q (F0 m pc ls (.int j :: .int i :: rest)) := by
  have hcA : s.vm.findClass ("[" ++ (FieldType.array .int).toString) = some (E.2 13) := (C0.2.1.2 5 _ rfl).2
  have hcy : s.vm.findClass (FieldType.array .int).toString = some (E.2 8) := (C0.2.1.2 0 _ rfl).2
  obtain ⟨⟨hx, hb, -, hown, hts⟩, hK, hSt⟩ := C0
  subst hN
  subst hK'
  intro T hT Xs
  have hcl2 : (Cond.classLink own index ("[" ++ (FieldType.array .int).toString)).before args s = true := hts _ hcl
  obtain ⟨vm₁, cA, comp, -, fA, fC, -, -, X', step⟩ := Xs.multianewarray2F hx (ty := .int) hown hcl2 (show (Cond.arrayOver (.array .int)).before args s = true from hover) (hts _ tw_a_int) (g := F0 m pc ls (.int j :: .int i :: rest)) rfl (by rw [hb]; exact hdg) rfl hn hj (by omega) (by show _ * 4 ≤ _; omega) (by omega) rfl rfl hcells hslots
  cases hcA.symm.trans fA
  cases hcy.symm.trans fC
  generalize hF : Jvm.Free.Multi.fill (T.setVm vm₁) (E.2 13) (E.2 8) i.toNatClampNeg j.toNatClampNeg (defaultValue .int) i.toNatClampNeg = F at X' step
  have hTh : (T.setVm vm₁).heap = H := hT
  obtain ⟨f1, f2, -, -⟩ := Jvm.Free.Multi.fill_facts (T.setVm vm₁) (E.2 13) (E.2 8) i.toNatClampNeg j.toNatClampNeg (defaultValue .int) i.toNatClampNeg
  rw [hF, hTh] at f1 f2
  have hold : ∀ x : Nat, x < H.size → F.heap[x]? = H[x]? := fun x hx => by
    have := Jvm.Free.Multi.fill_old (T.setVm vm₁) (E.2 13) (E.2 8) i.toNatClampNeg j.toNatClampNeg (defaultValue .int) (a := x) (by rw [hTh]; exact hx) i.toNatClampNeg
    rw [hF, hTh] at this
    exact this
  have hrow : ∀ q : Nat, q < i.toNatClampNeg → F.heap[H.size + 1 + q]? = some (Jvm.Free.Multi.innerC (E.2 8) j.toNatClampNeg (defaultValue .int)) := fun q hq => by
    have := Jvm.Free.Multi.fill_inner (T.setVm vm₁) (E.2 13) (E.2 8) i.toNatClampNeg j.toNatClampNeg (defaultValue .int) i.toNatClampNeg q hq
    rw [hF, hTh] at this
    exact this
  have hin : Jvm.Free.Multi.innerC (E.2 8) j.toNatClampNeg (defaultValue .int) = vp_cell (E.2 8) (j.toNatClampNeg, .inl (fun _ => 0)) := by
    rw [vp_cell_i, ← arrV_new]
    rfl
  rw [rg_outer] at f2
  obtain ⟨R1, hR1⟩ : ∃ X : rg_Rfs, X = fun c => if c = n then (fun q => if q < i.toNatClampNeg then some (n + 1 + q) else none) else R c := ⟨_, rfl⟩
  have r1 : ∀ c, c ≠ n → R1 c = R c := fun c hc => by rw [hR1]; exact if_neg hc
  have r2 : ∀ q, R1 n q = if q < i.toNatClampNeg then some (n + 1 + q) else none := fun q => by
    rw [hR1]
    exact congrFun (if_pos rfl) q
  have hP0 : va_P E.1 vwCl (rg_WS E.2 B n R M) F.heap := hH.1.kept (fun k x hx => hold x.1 ((hH.1 k x hx).lt))
  have hH1 : rg_H E B (n + 1 + i.toNatClampNeg) R1 M s F.heap locs := by
    refine ⟨fun k x hx => ?_, ⟨by have := hH.2.1; omega, fun x h1 h2 => (hold x (Nat.lt_of_lt_of_le h1 hH.2.1)).trans (hH.2.2.1 x h1 h2), hH.2.2.2⟩⟩
    obtain ⟨k, hd, rfl, rfl⟩ := rg_WS_of hx
    have hlen : k < n + 1 + i.toNatClampNeg := hd.1
    clear hx
    rcases Nat.lt_trichotomy k n with w | w | w
    · rw [rg_ent_c (M := M) (R := R) rfl rfl (r1 k (by omega))]
      exact hP0 (rg_ps k) _ (rg_WS_get ⟨w, by omega⟩)
    · subst w
      rw [rg_ent_q hk (by omega)]
      show F.heap[B + k]? = some (vp_cell _ _)
      rw [vp_cell_q, ← hz, f2, hln]
      congr 2
      funext q
      rw [r2 q]
      by_cases w : q < i.toNatClampNeg
      · rw [if_pos w, if_pos w, hz]
        show va_rf _ = va_rf (some (B + (k + 1 + q)))
        congr 2
        omega
      · rw [if_neg w, if_neg w]
        rfl
    · obtain ⟨q, rfl⟩ : ∃ q, k = n + 1 + q := ⟨k - (n + 1), by omega⟩
      have hq : q < i.toNatClampNeg := by omega
      rw [rg_ent_i (hks q hq).1]
      show F.heap[B + (n + 1 + q)]? = some (vp_cell _ _)
      rw [show B + (n + 1 + q) = H.size + 1 + q by omega, hrow q hq, hin, (hks q hq).2, (hfr (n + 1 + q) (by omega)).2.1]
  obtain ⟨t, a1, b1⟩ := kk R1 F.heap r1 r2 hH1 F rfl X'
  refine ⟨t, step t ?_, b1⟩
  have e9 : T.heap.size = B + n := by rw [hT, hz]
  rw [e9]
  exact a1
theorem rg_objI (C0 : rg_Cx p m c cc nL s args own E B) (hl : ls.size = nL) {a : Nat} (hlink : Cond.methodLink own index Lib.objectInit ∈ rg_T) (hinst : Cond.instanceMethod Lib.objectInit ∈ rg_T) (hcode : Cond.code Lib.objectInit ⟨#[0xb1]⟩ 1 none ∈ rg_T) (hdg : decode cc pc = .ok (.invokespecial index, 3)) (hframes : 1 ≤ Rm.frames) (hlocals : 12 ≤ Rm.locals)
    (kk : W p l e Rm s m args below meth c H locs cells slots Q (F0 m (pc + 3) ls [])) : W p l e Rm s m args below meth c H locs cells slots Q (F0 m pc ls [.ref a]) := by
  obtain ⟨⟨hx, hb, hml, hown, hts⟩, hK, -⟩ := C0
  refine W.objInit hx hb hown (hts _ hlink) (hts _ hinst) (hts _ hcode) rfl (by rw [hml]; exact hl) rfl hdg hframes (by show 2 * 0 + 0 + 12 ≤ _; omega) ?_
  exact kk
theorem rg_callI (C0 : rg_Cx p m c cc nL s args own E B) (hN : rg_Nm s) (hH : rg_H E B n R M s H locs) (hz : H.size = B + n) {v z : Nat} (hM : Met l y ws rm (va_Pc (.ref (B + o) :: As) (rg_PreC E B n R M)) (rg_Rc E B v z R M) mc ms (rg_A B)) (cw : CallB Rm s args own index y bytes maxL none ws rm mc ms na ∧ y.name = "<init>" ∧ (Cond.instanceMethod y).before args s = true) (hn : As.length = na) (hsize : ls.size = nL) (hst : st = As.reverse ++ .ref (B + o) :: rest) (hW : (rest.map fun v => v.category).sum ≤ 8) (hdg : decode cc pc = .ok (.invokespecial index, 3)) (hf : cells + mc ≤ Rm.cells ∧ slots + ms ≤ Rm.slots)
    (kk : ∀ (R1 : rg_Rfs) (M1 : rg_Mem) (H1 : Heap) (locs1 : List Loc), rg_up v z R M R1 M1 → rg_H E B (v + z) R1 M1 s H1 locs1 → W p l e Rm s m args below meth c H1 locs1 (cells + mc) (slots + ms) Q (F0 m (pc + 3) ls rest)) : W p l e Rm s m args below meth c H locs cells slots Q (F0 m pc ls st) := by
  obtain ⟨S, hK, hSt⟩ := C0
  exact va_callv (va_runI (As := As) (rest := rest) S hM cw ⟨rg_blindC, rg_preC hK hSt hN hz hH⟩ rfl hn hsize hst (lv_room hW) hdg hf) hH.2 (fun q _ h => h) (fun q h => h) (fun u t H1 locs1 ht _ hp hB _ _ hS => kk u.1 u.2 H1 locs1 hp ⟨by rw [← ht]; exact hB, hS⟩)
theorem rg_callIN (C0 : rg_Cx p m c cc nL s args own E B) (hN : rg_Nm s) (hH : rg_H E B n R M s H locs) (hz : H.size = B + n) {v z : Nat} {host : String} (hM : Met l y ws rm (va_Pc (.ref (B + o) :: As) (rg_PreC E B n R M)) (rg_Rc E B v z R M) mc ms (rg_A B)) (cw : va_CN Rm s args own index y host bytes maxL none ws rm mc ms na ∧ y.name = "<init>" ∧ (Cond.instanceMethod y).before args s = true) (hn : As.length = na) (hsize : ls.size = nL) (hst : st = As.reverse ++ .ref (B + o) :: rest) (hW : (rest.map fun v => v.category).sum ≤ 8) (hdg : decode cc pc = .ok (.invokespecial index, 3)) (hf : cells + mc ≤ Rm.cells ∧ slots + ms ≤ Rm.slots)
    (kk : ∀ (R1 : rg_Rfs) (M1 : rg_Mem) (H1 : Heap) (locs1 : List Loc), rg_up v z R M R1 M1 → rg_H E B (v + z) R1 M1 s H1 locs1 → W p l e Rm s m args below meth c H1 locs1 (cells + mc) (slots + ms) Q (F0 m (pc + 3) ls rest)) : W p l e Rm s m args below meth c H locs cells slots Q (F0 m pc ls st) := by
  obtain ⟨S, hK, hSt⟩ := C0
  exact va_callv (va_runIN (As := As) (rest := rest) S hM cw ⟨rg_blindC, rg_preC hK hSt hN hz hH⟩ rfl hn hsize hst (lv_room hW) hdg hf) hH.2 (fun q _ h => h) (fun q h => h) (fun u t H1 locs1 ht _ hp hB _ _ hS => kk u.1 u.2 H1 locs1 hp ⟨by rw [← ht]; exact hB, hS⟩)
/-- a reference into a row of references -/
theorem rg_astQ (C0 : rg_Cx p m c cc nL s args own E B) (hH : rg_H E B n R M s H locs) {o2 j k k2 t0 : Nat} (ho : rg_hv n o) (hk : rg_kd o = k) (hkk : 10 < k) (ht : (rg_ty E.2)[t0]? = some (E.2 k, .object C)) (ho2 : rg_hv n o2) (hk2 : rg_kd o2 = k2) (hk8 : k2 < 8) (hc : vwCl[k2]? = some (C, T, N)) (hj : j < rg_ln o ∧ rg_ln o ≤ 100000) (hdg : decode cc pc = .ok (.aastore, 1))
    (kk : ∀ (H1 : Heap) (locs1 : List Loc), rg_H E B n (rg_R R o j (some o2)) M s H1 locs1 → W p l e Rm s m args below meth c H1 locs1 cells slots Q (F0 m (pc + 1) ls rest)) : W p l e Rm s m args below meth c H locs cells slots Q (F0 m pc ls (.ref (B + o2) :: .int (nI j) :: .ref (B + o) :: rest)) := by
  obtain ⟨⟨hx, hb, -, hown, hts⟩, hK, -⟩ := C0
  have hcl : (nI j).toNatClampNeg = j := nI_clamp (by omega)
  refine va_astq hx hb hK hH.1 rg_D hH.2 (rg_ps o) t0 (rg_ps o2) k2 (r := (C, T, N)) (by rw [rg_WS_get ho, rg_ent_q hk hkk]) ht (by rw [rg_WS_get ho2, rg_ent_o hk2 hk8]) hc (vp_in_nI hj.1 (by omega)) hdg (fun H1 locs1 a1 _ a3 => ?_)
  rw [hcl, rg_WS_set (M := M) (R := R) (M' := M) (R' := rg_R R o j (some o2)) ho (by
    rw [rg_ent_q hk hkk]
    congr
    funext q
    unfold va_up rg_R
    by_cases h : q = j <;> simp [h]) (fun d hd => rg_ent_c rfl rfl (by funext q; simp [rg_R, hd]))] at a1
  exact kk H1 locs1 ⟨a1, a3⟩
end RGN
theorem rg_ofWC {l : Launch} {y : MethodName} {rm : Room} {E : rg_Env} {B n : Nat} {R : rg_Rfs} {M : rg_Mem} {av : List Value} {Qc : Array Value → State → Outcome → State → Prop} {mc ms : Nat} {cc : ByteArray} {maxL : Nat} {ret : Option FieldType} {own : String} (hy : plainName y.cls = true) (hown : y.cls = own) (hlen : (lg_sl av).length ≤ maxL)
    (body : ∀ (p : Program) (e : Env) (s : State) (m : MethodId) (args : Array Value) (below : List Frame) (meth : Method) (c : Code) (ls : Array Slot), rg_Cx p m c cc maxL s args own E B → rg_H E B n R M s s.heap [] → s.heap.size = B + n → rg_Nm s → lv_has ls maxL (lv_args 0 av) → meth.sig.returnType = ret → meth.locks = false → meth.name = y.name →
      W p l e rm s m args below meth c s.heap [] 0 0 (MQ below Qc args s mc ms (rg_A B)) (F0 m 0 ls [])) : Met l y (rg_w y cc maxL ret) rm (va_Pc av (rg_PreC E B n R M)) Qc mc ms (rg_A B) := by
  refine Met.ofW (cc := cc) (maxL := maxL) (ret := ret) hy rfl ?_
  intro p e s m args below meth c s₁ Bd hml hv
  obtain ⟨rfl, ⟨hP, hK, hSt⟩, hz, hN⟩ := hv
  have hts : ∀ w ∈ rg_T, w.before av.toArray s = true := fun w hw => atoms_spec (ws := rg_w y cc maxL ret) Bd.pre w (List.mem_cons_of_mem _ hw)
  have ho : s.vm.findClass own = some m.cls := by rw [← hown]; exact findClass_of_methodNamed Bd.named
  have hl := lv_entry av (n := maxL) hlen
  rw [lg_entry_eq]
  exact body p e s m _ below meth c _ ⟨⟨Bd.exec, Bd.bytes, hml, ho, hts⟩, hK, hSt⟩ ⟨hP, va_S.rf⟩ hz hN hl Bd.returns Bd.notSynchronized (name_of_methodNamed Bd.named Bd.method).1
section RGE
variable {p : Program} {l : Launch} {e : Env} {Rm : Room} {s : State} {m : MethodId} {args : Array Value} {below : List Frame} {meth : Method} {c : Code} {H : Heap} {locs : List Loc} {cells slots : Nat}
variable {cc : ByteArray} {pc nL : Nat} {ls : Array Slot} {own : String} {E : rg_Env} {B n : Nat} {R R0 : rg_Rfs} {M M0 : rg_Mem}
theorem rg_retC (C0 : rg_Cx p m c cc nL s args own E B) {v z : Nat} (hH : rg_H E B (v + z) R M s H locs) (hr : meth.sig.returnType = none) (hlocks : meth.locks = false) (hp : rg_up v z R0 M0 R M) (hdg : decode cc pc = .ok (.return_, 1)) : W p l e Rm s m args below meth c H locs cells slots (MQ below (rg_Rc E B v z R0 M0) args s cells slots (rg_A B)) (F0 m pc ls []) :=
  W.vret C0.1.1 C0.1.2.1 hr (fun t ht _ => ⟨⟨(R, M), rfl, hp, by show va_P _ _ _ _; rw [ht]; exact hH.1⟩, hH.2.F ht⟩) hH.2.2.2 hdg hlocks
end RGE
