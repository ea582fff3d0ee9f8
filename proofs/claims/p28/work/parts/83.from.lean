/-- an element of the script; its length -/
theorem rg_sld {p : Program} {l : Launch} {e : Env} {Rm : Room} {s : State} {m : MethodId} {args : Array Value} {below : List Frame} {meth : Method} {c : Code} {H : Heap} {locs : List Loc} {cells slots : Nat} {Q : State → Prop} {cc : ByteArray} {pc nL : Nat} {ls : Array Slot} {rest : List Value} {own : String} {E : rg_Env} {B n : Nat} {R : rg_Rfs} {M : rg_Mem} {b L j : Nat} {xs : Nat → Int32} (C0 : rg_Cx p m c cc nL s args own E B) (hX : va_X b L xs s s.heap) (hbl : b < s.heap.size) (hbB : b < B) (hH : rg_H E B n R M s H locs) (hj : j < L ∧ L ≤ 2560) (hdg : decode cc pc = .ok (.iaload, 1))
    (kk : W p l e Rm s m args below meth c H locs cells slots Q (F0 m (pc + 1) ls (.int (xs j) :: rest))) : W p l e Rm s m args below meth c H locs cells slots Q (F0 m pc ls (.int (nI j) :: .ref b :: rest)) := by
  have hc : (nI j).toNatClampNeg = j := nI_clamp (by omega)
  exact va_sld C0.1.1 C0.1.2.1 hX hbl (A := rg_A B) (by show ¬ B ≤ b; omega) hH.2 (vp_in_nI hj.1 (by omega)) hdg (by rw [hc]; exact kk)
theorem rg_slen {p : Program} {l : Launch} {e : Env} {Rm : Room} {s : State} {m : MethodId} {args : Array Value} {below : List Frame} {meth : Method} {c : Code} {H : Heap} {locs : List Loc} {cells slots : Nat} {Q : State → Prop} {cc : ByteArray} {pc nL : Nat} {ls : Array Slot} {rest : List Value} {own : String} {E : rg_Env} {B n : Nat} {R : rg_Rfs} {M : rg_Mem} {b L : Nat} {xs : Nat → Int32} (C0 : rg_Cx p m c cc nL s args own E B) (hX : va_X b L xs s s.heap) (hbl : b < s.heap.size) (hbB : b < B) (hH : rg_H E B n R M s H locs) (hdg : decode cc pc = .ok (.arraylength, 1))
    (kk : W p l e Rm s m args below meth c H locs cells slots Q (F0 m (pc + 1) ls (.int (nI L) :: rest))) : W p l e Rm s m args below meth c H locs cells slots Q (F0 m pc ls (.ref b :: rest)) :=
  va_slen C0.1.1 C0.1.2.1 hX hbl (A := rg_A B) (by show ¬ B ≤ b; omega) hH.2 hdg kk
/-! the script: worlds that hold it -/
def rg_PreX (E : rg_Env) (B n : Nat) (R : rg_Rfs) (M : rg_Mem) (b L : Nat) (xs : Nat → Int32) (U : State) : Prop := rg_Pre E B n R M U ∧ va_X b L xs U U.heap ∧ b < U.heap.size
abbrev rg_RN : rg_Rfs := fun _ _ => none
abbrev rg_MN : rg_Mem := (fun _ _ => 0, fun _ _ => 0)
def rg_PreH (E : rg_Env) (B b L : Nat) (xs : Nat → Int32) (U : State) : Prop := rg_PreC E B 0 rg_RN rg_MN U ∧ va_X b L xs U U.heap ∧ b < U.heap.size
theorem rg_blindX {av : List Value} {E : rg_Env} {B n : Nat} {R : rg_Rfs} {M : rg_Mem} {b L : Nat} {xs : Nat → Int32} : FrameBlind (va_Pc av (rg_PreX E B n R M b L xs)) := by
  intro a U g mk q
  obtain ⟨q1, q2, q3, q4⟩ := q
  have h := rg_blind a U g mk (show va_Pc av (rg_Pre E B n R M) a U from ⟨q1, q2⟩)
  exact ⟨h.1, h.2, va_X.moved (u := U) (U := U.calling g mk a) (Vm.Alike.refl U.vm) q3, q4⟩
theorem rg_blindH {av : List Value} {E : rg_Env} {B : Nat} {b L : Nat} {xs : Nat → Int32} : FrameBlind (va_Pc av (rg_PreH E B b L xs)) := by
  intro a U g mk q
  obtain ⟨q1, q2, q3, q4⟩ := q
  have h := rg_blindC a U g mk (show va_Pc av (rg_PreC E B 0 rg_RN rg_MN) a U from ⟨q1, q2⟩)
  exact ⟨h.1, h.2, va_X.moved (u := U) (U := U.calling g mk a) (Vm.Alike.refl U.vm) q3, q4⟩
theorem rg_scr {E : rg_Env} {B n : Nat} {R : rg_Rfs} {M : rg_Mem} {s U : State} {H : Heap} {locs : List Loc} {b L : Nat} {xs : Nat → Int32} (hX : va_X b L xs s s.heap) (hbl : b < s.heap.size) (hbB : b < B) (hH : rg_H E B n R M s H locs) (hU : U.heap = H) (hW : s.WarmedH U.vm) : va_X b L xs U U.heap ∧ b < U.heap.size := by
  rw [hU]
  exact ⟨(hX.kept (hH.2.2.1 b hbl (show ¬ B ≤ b by omega))).moved hW.alike, Nat.lt_of_lt_of_le hbl hH.2.1⟩
theorem rg_preX {E : rg_Env} {B n : Nat} {R : rg_Rfs} {M : rg_Mem} {s : State} {H : Heap} {locs : List Loc} {av : List Value} {b L : Nat} {xs : Nat → Int32} (hK : va_K E.1 vwCl (rg_ty E.2) s) (hSt : rg_St B s s.heap) (hX : va_X b L xs s s.heap) (hbl : b < s.heap.size) (hbB : b < B) (hH : rg_H E B n R M s H locs) : ∀ U : State, U.heap = H → s.WarmedH U.vm → va_Pc av (rg_PreX E B n R M b L xs) av.toArray U := fun U hU hW => ⟨rfl, (rg_pre (av := av) hK hSt hH U hU hW).2, rg_scr hX hbl hbB hH hU hW⟩
theorem rg_preH {E : rg_Env} {B : Nat} {s : State} {H : Heap} {locs : List Loc} {av : List Value} {b L : Nat} {xs : Nat → Int32} (hK : va_K E.1 vwCl (rg_ty E.2) s) (hSt : rg_St B s s.heap) (hN : rg_Nm s) (hz : H.size = B + 0) (hX : va_X b L xs s s.heap) (hbl : b < s.heap.size) (hbB : b < B) (hH : rg_H E B 0 rg_RN rg_MN s H locs) : ∀ U : State, U.heap = H → s.WarmedH U.vm → va_Pc av (rg_PreH E B b L xs) av.toArray U := fun U hU hW => ⟨rfl, (rg_preC (av := av) hK hSt hN hz hH U hU hW).2, rg_scr hX hbl hbB hH hU hW⟩
section RGS
variable {p : Program} {l : Launch} {e : Env} {Rm : Room} {s : State} {m : MethodId} {args : Array Value} {below : List Frame} {meth : Method} {c : Code} {H : Heap} {locs : List Loc} {cells slots : Nat} {Q : State → Prop}
variable {cc : ByteArray} {pc nL : Nat} {ls : Array Slot} {st rest : List Value} {own : String} {E : rg_Env} {B n : Nat} {R : rg_Rfs} {M : rg_Mem} {b L : Nat} {xs : Nat → Int32}
variable {As : List Value} {y : MethodName} {bytes : ByteArray} {maxL index na mc ms : Nat} {ret : Option FieldType} {ws : List Cond} {rm : Room}
theorem rg_callSX (C0 : rg_Cx p m c cc nL s args own E B) (hX : va_X b L xs s s.heap) (hbl : b < s.heap.size) (hbB : b < B) (hH : rg_H E B n R M s H locs) {g : rg_Mem} {post : Int32 → Prop} (hM : Met l y ws rm (va_Pc As (rg_PreX E B n R M b L xs)) (rg_Ri E B n R g post) mc ms (rg_A B)) (cw : CallB Rm s args own index y bytes maxL ret ws rm mc ms na ∧ (Cond.static y).before args s = true) (hn : As.length = na) (hsize : ls.size = nL) (hst : st = As.reverse ++ rest) (hW : (rest.map fun v => v.category).sum ≤ 8) (hdg : decode cc pc = .ok (.invokestatic index, 3)) (hf : cells + mc ≤ Rm.cells ∧ slots + ms ≤ Rm.slots)
    (kk : ∀ (r : Int32) (H1 : Heap) (locs1 : List Loc), post r → rg_H E B n R g s H1 locs1 → W p l e Rm s m args below meth c H1 locs1 (cells + mc) (slots + ms) Q (F0 m (pc + 3) ls (.int r :: rest))) : W p l e Rm s m args below meth c H locs cells slots Q (F0 m pc ls st) := by
  obtain ⟨S, hK, hSt⟩ := C0
  exact va_calli (va_runS (As := As) (rest := rest) S hM cw ⟨rg_blindX, rg_preX hK hSt hX hbl hbB hH⟩ rfl hn hsize hst (lv_room hW) hdg hf) hH.2 (fun q _ h => h) (fun q h => h) (fun r u t H1 locs1 ht _ hp hB _ _ hS => kk r H1 locs1 hp ⟨by rw [← ht]; exact hB, hS⟩)
theorem rg_callSH (C0 : rg_Cx p m c cc nL s args own E B) (hX : va_X b L xs s s.heap) (hbl : b < s.heap.size) (hbB : b < B) (hN : rg_Nm s) (hz : H.size = B + 0) (hH : rg_H E B 0 rg_RN rg_MN s H locs) {g : rg_Mem} {post : Int32 → Prop} (hM : Met l y ws rm (va_Pc As (rg_PreH E B b L xs)) (rg_Ri E B 0 rg_RN g post) mc ms (rg_A B)) (cw : CallB Rm s args own index y bytes maxL ret ws rm mc ms na ∧ (Cond.static y).before args s = true) (hn : As.length = na) (hsize : ls.size = nL) (hst : st = As.reverse ++ rest) (hW : (rest.map fun v => v.category).sum ≤ 8) (hdg : decode cc pc = .ok (.invokestatic index, 3)) (hf : cells + mc ≤ Rm.cells ∧ slots + ms ≤ Rm.slots)
    (kk : ∀ (r : Int32) (H1 : Heap) (locs1 : List Loc), post r → rg_H E B 0 rg_RN g s H1 locs1 → W p l e Rm s m args below meth c H1 locs1 (cells + mc) (slots + ms) Q (F0 m (pc + 3) ls (.int r :: rest))) : W p l e Rm s m args below meth c H locs cells slots Q (F0 m pc ls st) := by
  obtain ⟨S, hK, hSt⟩ := C0
  exact va_calli (va_runS (As := As) (rest := rest) S hM cw ⟨rg_blindH, rg_preH hK hSt hN hz hX hbl hbB hH⟩ rfl hn hsize hst (lv_room hW) hdg hf) hH.2 (fun q _ h => h) (fun q h => h) (fun r u t H1 locs1 ht _ hp hB _ _ hS => kk r H1 locs1 hp ⟨by rw [← ht]; exact hB, hS⟩)
theorem rg_callSWH (C0 : rg_Cx p m c cc nL s args own E B) (hX : va_X b L xs s s.heap) (hbl : b < s.heap.size) (hbB : b < B) (hN : rg_Nm s) (hz : H.size = B + 0) (hH : rg_H E B 0 rg_RN rg_MN s H locs) {g : rg_Mem} {post : Int32 → Prop} {hh : List (Nat × Nat × Nat × Nat)} (hM : Met l y ws rm (va_Pc As (rg_PreH E B b L xs)) (rg_Ri E B 0 rg_RN g post) mc ms (rg_A B)) (cw : vx_CSW Rm s args own index y bytes maxL ret hh ws rm mc ms na) (hn : As.length = na) (hsize : ls.size = nL) (hst : st = As.reverse ++ rest) (hW : (rest.map fun v => v.category).sum ≤ 8) (hdg : decode cc pc = .ok (.invokestatic index, 3)) (hf : cells + mc ≤ Rm.cells ∧ slots + ms ≤ Rm.slots)
    (kk : ∀ (r : Int32) (H1 : Heap) (locs1 : List Loc), post r → rg_H E B 0 rg_RN g s H1 locs1 → W p l e Rm s m args below meth c H1 locs1 (cells + mc) (slots + ms) Q (F0 m (pc + 3) ls (.int r :: rest))) : W p l e Rm s m args below meth c H locs cells slots Q (F0 m pc ls st) := by
  obtain ⟨S, hK, hSt⟩ := C0
  exact va_calli (vx_runSW (As := As) (rest := rest) S hM cw ⟨rg_blindH, rg_preH hK hSt hN hz hX hbl hbB hH⟩ rfl hn hsize hst (lv_room hW) hdg hf) hH.2 (fun q _ h => h) (fun q h => h) (fun r u t H1 locs1 ht _ hp hB _ _ hS => kk r H1 locs1 hp ⟨by rw [← ht]; exact hB, hS⟩)
end RGS
theorem rg_ofX {l : Launch} {y : MethodName} {rm : Room} {E : rg_Env} {B n : Nat} {R : rg_Rfs} {M : rg_Mem} {b L : Nat} {xs : Nat → Int32} {av : List Value} {Qc : Array Value → State → Outcome → State → Prop} {mc ms : Nat} {cc : ByteArray} {maxL : Nat} {ret : Option FieldType} {own : String} (hy : plainName y.cls = true) (hown : y.cls = own) (hlen : (lg_sl av).length ≤ maxL)
    (body : ∀ (p : Program) (e : Env) (s : State) (m : MethodId) (args : Array Value) (below : List Frame) (meth : Method) (c : Code) (ls : Array Slot), rg_Cx p m c cc maxL s args own E B → rg_H E B n R M s s.heap [] → va_X b L xs s s.heap → b < s.heap.size → lv_has ls maxL (lv_args 0 av) → meth.sig.returnType = ret → meth.locks = false →
      W p l e rm s m args below meth c s.heap [] 0 0 (MQ below Qc args s mc ms (rg_A B)) (F0 m 0 ls [])) : Met l y (rg_w y cc maxL ret) rm (va_Pc av (rg_PreX E B n R M b L xs)) Qc mc ms (rg_A B) := by
  refine Met.ofW (cc := cc) (maxL := maxL) (ret := ret) hy rfl ?_
  intro p e s m args below meth c s₁ Bd hml hv
  obtain ⟨rfl, ⟨hP, hK, hSt⟩, hX, hbl⟩ := hv
  have hts : ∀ w ∈ rg_T, w.before av.toArray s = true := fun w hw => atoms_spec (ws := rg_w y cc maxL ret) Bd.pre w (List.mem_cons_of_mem _ hw)
  have ho : s.vm.findClass own = some m.cls := by rw [← hown]; exact findClass_of_methodNamed Bd.named
  have hl := lv_entry av (n := maxL) hlen
  rw [lg_entry_eq]
  exact body p e s m _ below meth c _ ⟨⟨Bd.exec, Bd.bytes, hml, ho, hts⟩, hK, hSt⟩ ⟨hP, va_S.rf⟩ hX hbl hl Bd.returns Bd.notSynchronized
theorem rg_ofH {l : Launch} {y : MethodName} {rm : Room} {E : rg_Env} {B : Nat} {b L : Nat} {xs : Nat → Int32} {av : List Value} {Qc : Array Value → State → Outcome → State → Prop} {mc ms : Nat} {cc : ByteArray} {maxL : Nat} {ret : Option FieldType} {own : String} (hy : plainName y.cls = true) (hown : y.cls = own) (hlen : (lg_sl av).length ≤ maxL)
    (body : ∀ (p : Program) (e : Env) (s : State) (m : MethodId) (args : Array Value) (below : List Frame) (meth : Method) (c : Code) (ls : Array Slot), rg_Cx p m c cc maxL s args own E B → rg_H E B 0 rg_RN rg_MN s s.heap [] → s.heap.size = B + 0 → rg_Nm s → va_X b L xs s s.heap → b < s.heap.size → lv_has ls maxL (lv_args 0 av) → meth.sig.returnType = ret → meth.locks = false →
      W p l e rm s m args below meth c s.heap [] 0 0 (MQ below Qc args s mc ms (rg_A B)) (F0 m 0 ls [])) : Met l y (rg_w y cc maxL ret) rm (va_Pc av (rg_PreH E B b L xs)) Qc mc ms (rg_A B) := by
  refine Met.ofW (cc := cc) (maxL := maxL) (ret := ret) hy rfl ?_
  intro p e s m args below meth c s₁ Bd hml hv
  obtain ⟨rfl, ⟨⟨hP, hK, hSt⟩, hz, hN⟩, hX, hbl⟩ := hv
  have hts : ∀ w ∈ rg_T, w.before av.toArray s = true := fun w hw => atoms_spec (ws := rg_w y cc maxL ret) Bd.pre w (List.mem_cons_of_mem _ hw)
  have ho : s.vm.findClass own = some m.cls := by rw [← hown]; exact findClass_of_methodNamed Bd.named
  have hl := lv_entry av (n := maxL) hlen
  rw [lg_entry_eq]
  exact body p e s m _ below meth c _ ⟨⟨Bd.exec, Bd.bytes, hml, ho, hts⟩, hK, hSt⟩ ⟨hP, va_S.rf⟩ hz hN hX hbl hl Bd.returns Bd.notSynchronized
def rg_ww (y : MethodName) (bytes : ByteArray) (maxL : Nat) (ret : Option FieldType) (hh : List (Nat × Nat × Nat × Nat)) : List Cond := Cond.codeWith y bytes maxL ret hh :: rg_T
theorem rg_ofHW {l : Launch} {y : MethodName} {rm : Room} {E : rg_Env} {B : Nat} {b L : Nat} {xs : Nat → Int32} {av : List Value} {Qc : Array Value → State → Outcome → State → Prop} {mc ms : Nat} {cc : ByteArray} {maxL : Nat} {ret : Option FieldType} {own : String} {hh : List (Nat × Nat × Nat × Nat)} (hy : plainName y.cls = true) (hown : y.cls = own) (hlen : (lg_sl av).length ≤ maxL)
    (body : ∀ (p : Program) (e : Env) (s : State) (m : MethodId) (args : Array Value) (below : List Frame) (meth : Method) (c : Code) (ls : Array Slot), rg_Cx p m c cc maxL s args own E B → rg_H E B 0 rg_RN rg_MN s s.heap [] → s.heap.size = B + 0 → rg_Nm s → va_X b L xs s s.heap → b < s.heap.size → lv_has ls maxL (lv_args 0 av) → meth.sig.returnType = ret → meth.locks = false →
      W p l e rm s m args below meth c s.heap [] 0 0 (MQ below Qc args s mc ms (rg_A B)) (F0 m 0 ls [])) : Met l y (rg_ww y cc maxL ret hh) rm (va_Pc av (rg_PreH E B b L xs)) Qc mc ms (rg_A B) := by
  refine MetFree.of_bodyS (code := cc) (maxLocals := maxL) (ret := ret) hy ?_ ?_
  · intro args s m h hn
    obtain ⟨m9, meth, c, hn9, h1, h2, h3, h4, -, h5, h6, -⟩ := Cond.codeWith_spec (atoms_spec (ws := rg_ww y cc maxL ret hh) h _ List.mem_cons_self)
    cases hn.symm.trans hn9
    exact ⟨meth, c, h1, h2, h3, h4, h5, h6⟩
  · intro p e s m args below meth c s₁ Bd hml hv _
    have hh0 : s₁.heap = s.heap := by rw [Bd.state]; rfl
    obtain ⟨rfl, ⟨⟨hP, hK, hSt⟩, hz, hN⟩, hX, hbl⟩ := hv
    have hts0 : ∀ w ∈ rg_ww y cc maxL ret hh, w.before av.toArray s = true := atoms_spec (ws := rg_ww y cc maxL ret hh) Bd.pre
    have hts : ∀ w ∈ rg_T, w.before av.toArray s = true := fun w hw => hts0 w (List.mem_cons_of_mem _ hw)
    have ho : s.vm.findClass own = some m.cls := by rw [← hown]; exact findClass_of_methodNamed Bd.named
    have hl := lv_entry av (n := maxL) hlen
    have K : W p l e rm s m av.toArray below meth c s.heap [] 0 0 (MQ below Qc av.toArray s mc ms (rg_A B)) (entryFrame m av.toArray maxL) := by
      rw [lg_entry_eq]
      exact body p e s m _ below meth c _ ⟨⟨Bd.exec, Bd.bytes, hml, ho, hts⟩, hK, hSt⟩ ⟨hP, va_S.rf⟩ hz hN hX hbl hl Bd.returns Bd.notSynchronized
    obtain ⟨t, a1, o, b1, b2, b3⟩ := K s₁ hh0 (Stand.of_body Bd)
    exact ⟨t, o, a1, b1, b2, ⟨b3.1, b3.2⟩⟩
theorem rg_cwSW {Rm : Room} {s : State} {args : Array Value} {own : String} {idx maxL mc ms : Nat} {y : MethodName} {bytes : ByteArray} {ret : Option FieldType} {hh : List (Nat × Nat × Nat × Nat)} {rm : Room} (na : Nat) (hts : ∀ w ∈ rg_T, w.before args s = true) (hm : Cond.methodLink own idx y ∈ rg_T) (hi : Cond.static y ∈ rg_T) (hn : Cond.initialized own ∈ rg_T) (hcode : Cond.codeWith y bytes maxL ret hh ∈ rg_T) (hrc : rm.cells = mc) (hrs : rm.slots = ms)
    (hd : y.cls = own ∧ y.cls ≠ "java/lang/invoke/MethodHandle" ∧ y.cls ≠ "java/lang/invoke/VarHandle" ∧ (parseMethodDescriptor y.desc).map (fun d => d.parameters.length) = some na) (hR : rm.frames + 1 ≤ Rm.frames ∧ 8 + (maxL + 11) + rm.locals ≤ Rm.locals) : vx_CSW Rm s args own idx y bytes maxL ret hh (rg_ww y bytes maxL ret hh) rm mc ms na := by
  refine vx_cwSW na hts ?_ rfl hrc hrs hd.2 hR
  intro w hw
  have h1 : w ∈ rg_T := by
    simp only [va_wsS, rg_ww, List.cons_append, List.nil_append, List.mem_cons] at hw
    rcases hw with rfl | rfl | rfl | rfl | hw
    · exact hm
    · exact hi
    · rw [hd.1]; exact hn
    · exact hcode
    · exact hw
  exact ⟨h1, good_of_word (List.mem_filter.mp h1).2⟩

theorem lw_posand (x : Int32) : ∃ t, t < 2147483648 ∧ x &&& 2147483647 = nI t := by
  have h1 : (x &&& 2147483647).toBitVec.toNat < 2147483648 := by
    rw [Int32.toBitVec_and, BitVec.toNat_and]
    exact Nat.lt_of_le_of_lt (Nat.and_le_right) (by decide)
  refine ⟨(x &&& 2147483647).toBitVec.toNat, h1, ?_⟩
  apply Int32.toBitVec_inj.mp
  apply BitVec.eq_of_toNat_eq
  show _ = (BitVec.ofNat 32 _).toNat
  rw [BitVec.toNat_ofNat, Nat.mod_eq_of_lt (by omega)]
set_option maxHeartbeats 4000000 in
set_option maxRecDepth 100000 in
/-- a number out of the script -/
theorem k_L_from (l : Launch) (E : rg_Env) (B n : Nat) (R : rg_Rfs) (M : rg_Mem) (b L : Nat) (xs : Nat → Int32) (k d : Nat) (hL : L ≤ 260) (hbB : b < B) (hk : k < 1000) (hd : 0 < d ∧ d ≤ 1000000000) : Met l yL_from (rg_w yL_from cL_from 4 (some (FieldType.int))) ({ frames := 0, cells := 0, slots := 0, locals := 0 } : Room) (va_Pc [.ref b, .int (nI k), .int (nI d)] (rg_PreX E B n R M b L xs)) (rg_Ri E B n R M (fun r => ∃ a, a < d ∧ r = nI a)) 0 0 (rg_A B) := by
  refine rg_ofX (by decide +kernel) rfl (Nat.le_of_ble_eq_true rfl) ?_
  intro p e s m args below meth c ls C0 hH hX hbl hl hr hlocks
  replace hl : lv_has ls 4 [(0, .ref b), (1, .int (nI k)), (2, .int (nI d))] := hl
  have hx := C0.1.1
  have hb := C0.1.2.1
  generalize hH9 : s.heap = H at hH ⊢
  generalize hL9 : ([] : List Loc) = locs at hH ⊢
  clear hL9
  have cut : ∀ (x : Int32) (ls : Array Slot), lv_has ls 4 [(0, .ref b), (1, .int (nI k)), (2, .int (nI d))] → W p l e ({ frames := 0, cells := 0, slots := 0, locals := 0 } : Room) s m args below meth c H locs 0 0 (MQ below (rg_Ri E B n R M (fun r => ∃ a, a < d ∧ r = nI a)) args s 0 0 (rg_A B)) (F0 m 27 ls [.int x]) := by
    intro x ls hl
    refine lv_istore_n (lv' := [(3, .int x), (0, .ref b), (1, .int (nI k)), (2, .int (nI d))]) hx hb dL_from_27 rfl hl (by decide) rfl (fun ls hl => ?_)
    refine lv_iload_n hx hb dL_from_28 rfl (lv_at hl 0 rfl) ?_
    refine lv_ldc (v := 2147483647) hx hb C0.1.2.2.2.1 (C0.1.2.2.2.2 _ tw_q_L_8) dL_from_29 ?_
    refine lv_iand hx hb dL_from_31 ?_
    obtain ⟨a, ha, ea⟩ := lw_posand x
    refine rg_topi (y := nI a) (by exact ea) ?_
    refine lv_iload_n hx hb dL_from_32 rfl (lv_at hl 3 rfl) ?_
    refine lv_irem hx hb dL_from_33 (by exact nI_ne0 (by omega) (by omega)) ?_
    refine rg_topi (y := nI (a % d)) (by exact pk_rem (by omega) (by omega) (by omega)) ?_
    exact rg_retRi C0 hH hr hlocks rfl ⟨a % d, Nat.mod_lt _ hd.1, rfl⟩ dL_from_34
  refine lv_aload_n hx hb dL_from_0 rfl (lv_at hl 0 rfl) ?_
  refine rg_slen C0 hX hbl hbB hH dL_from_1 ?_
  refine lv_if_ne (tgt := 16) hx hb dL_from_2 (by decide) (fun c_2 => ?_) (fun c_2 => ?_)
  · have h0 : L ≠ 0 := fun q => c_2 (by rw [q]; rfl)
    refine lv_aload_n hx hb dL_from_16 rfl (lv_at hl 0 rfl) ?_
    refine lv_iload_n hx hb dL_from_17 rfl (lv_at hl 1 rfl) ?_
    refine lv_aload_n hx hb dL_from_18 rfl (lv_at hl 0 rfl) ?_
    refine rg_slen C0 hX hbl hbB hH dL_from_19 ?_
    refine lv_irem hx hb dL_from_20 (by exact nI_ne0 (by omega) (by omega)) ?_
    refine rg_topi (y := nI (k % L)) (by exact pk_rem (by omega) (by omega) (by omega)) ?_
    refine rg_sld C0 hX hbl hbB hH (j := k % L) ⟨Nat.mod_lt _ (by omega), by omega⟩ dL_from_21 ?_
    refine lv_ldc (v := 622577) hx hb C0.1.2.2.2.1 (C0.1.2.2.2.2 _ tw_q_L_7) dL_from_22 ?_
    refine lv_iload_n hx hb dL_from_24 rfl (lv_at hl 1 rfl) ?_
    refine lv_imul hx hb dL_from_25 ?_
    refine lv_ixor hx hb dL_from_26 ?_
    exact cut _ ls hl
  · refine lv_sipush (v := 821) hx hb dL_from_5 (by decide) ?_
    refine lv_iload_n hx hb dL_from_8 rfl (lv_at hl 1 rfl) ?_
    refine lv_imul hx hb dL_from_9 ?_
    refine lv_bipush (v := 77) hx hb dL_from_10 (by decide) ?_
    refine lv_iadd hx hb dL_from_12 ?_
    refine lv_goto (tgt := 27) hx hb dL_from_13 (by decide) ?_
    exact cut _ ls hl
