/-! rows for the law's own methods: bodies with handlers, calls from them -/
def rg_ww (y : MethodName) (bytes : ByteArray) (maxL : Nat) (ret : Option FieldType) (hh : List (Nat × Nat × Nat × Nat)) : List Cond := Cond.codeWith y bytes maxL ret hh :: rg_T
theorem rg_wofW {l : Launch} {y : MethodName} {rm : Room} {E : rg_Env} {B n : Nat} {R : rg_Rfs} {M : rg_Mem} {av : List Value} {Qc : Array Value → State → Outcome → State → Prop} {mc ms : Nat} {cc : ByteArray} {maxL : Nat} {ret : Option FieldType} {own : String} {hh : List (Nat × Nat × Nat × Nat)} (hy : plainName y.cls = true) (hown : y.cls = own) (hlen : (lg_sl av).length ≤ maxL)
    (body : ∀ (p : Program) (e : Env) (s : State) (m : MethodId) (args : Array Value) (below : List Frame) (meth : Method) (c : Code) (ls : Array Slot), c.exceptionTable.toList = tableOf hh → rg_Cx p m c cc maxL s args own E B → rg_H E B n R M s s.heap [] → lv_has ls maxL (lv_args 0 av) → meth.sig.returnType = ret → meth.locks = false →
      W p l e rm s m args below meth c s.heap [] 0 0 (MQ below Qc args s mc ms (rg_A B)) (F0 m 0 ls [])) : Met l y (rg_ww y cc maxL ret hh) rm (va_Pc av (rg_Pre E B n R M)) Qc mc ms (rg_A B) := by
  refine MetFree.of_bodyS (code := cc) (maxLocals := maxL) (ret := ret) hy ?_ ?_
  · intro args s m h hn
    obtain ⟨m9, meth, c, hn9, h1, h2, h3, h4, -, h5, h6, -⟩ := Cond.codeWith_spec (atoms_spec (ws := rg_ww y cc maxL ret hh) h _ List.mem_cons_self)
    cases hn.symm.trans hn9
    exact ⟨meth, c, h1, h2, h3, h4, h5, h6⟩
  · intro p e s m args below meth c s₁ Bd hml hv _
    have hh0 : s₁.heap = s.heap := by rw [Bd.state]; rfl
    obtain ⟨rfl, hP, hK, hSt⟩ := hv
    have hts0 : ∀ w ∈ rg_ww y cc maxL ret hh, w.before av.toArray s = true := atoms_spec (ws := rg_ww y cc maxL ret hh) Bd.pre
    have hts : ∀ w ∈ rg_T, w.before av.toArray s = true := fun w hw => hts0 w (List.mem_cons_of_mem _ hw)
    have hex : c.exceptionTable.toList = tableOf hh := vx_table (x := y) Bd (hts0 _ List.mem_cons_self)
    have ho : s.vm.findClass own = some m.cls := by rw [← hown]; exact findClass_of_methodNamed Bd.named
    have hl := lv_entry av (n := maxL) hlen
    have K : W p l e rm s m av.toArray below meth c s.heap [] 0 0 (MQ below Qc av.toArray s mc ms (rg_A B)) (entryFrame m av.toArray maxL) := by
      rw [lg_entry_eq]
      exact body p e s m _ below meth c _ hex ⟨⟨Bd.exec, Bd.bytes, hml, ho, hts⟩, hK, hSt⟩ ⟨hP, va_S.rf⟩ hl Bd.returns Bd.notSynchronized
    obtain ⟨t, a1, o, b1, b2, b3⟩ := K s₁ hh0 (Stand.of_body Bd)
    exact ⟨t, o, a1, b1, b2, ⟨b3.1, b3.2⟩⟩
section RGW
variable {p : Program} {l : Launch} {e : Env} {Rm : Room} {s : State} {m : MethodId} {args : Array Value} {below : List Frame} {meth : Method} {c : Code} {H : Heap} {locs : List Loc} {cells slots : Nat} {Q : State → Prop}
variable {cc : ByteArray} {pc nL : Nat} {ls : Array Slot} {st rest : List Value} {own : String} {E : rg_Env} {B n : Nat} {R : rg_Rfs} {M : rg_Mem}
variable {C : String} {T : u_T} {N ci o : Nat} {As : List Value} {y : MethodName} {bytes : ByteArray} {maxL index na mc ms : Nat} {ret : Option FieldType} {ws : List Cond} {rm : Room}
theorem rg_wcallWi (C0 : rg_Cx p m c cc nL s args own E B) (hH : rg_H E B n R M s H locs) {post : Int32 → rg_Mem → Prop} {xp : String → Prop} (hM : vx_Met l y ws rm (va_Pc (.ref (B + o) :: As) (rg_Pre E B n R M)) (rg_Wi E B n R post) (rg_X E B n R M xp) mc ms (rg_A B)) (cw : CallW Rm s args own C index y bytes maxL ret ws rm mc ms na) (hc : vwCl[ci]? = some (C, T, N)) (ho : o < n) (hk : rg_kd o = ci) (hci : ci < 8) (hn : As.length = na) (hsize : ls.size = nL) (hst : st = As.reverse ++ .ref (B + o) :: rest) (hW : (rest.map fun v => v.category).sum ≤ 8) (hdg : decode cc pc = .ok (.invokevirtual index, 3)) (hf : cells + mc ≤ Rm.cells ∧ slots + ms ≤ Rm.slots)
    (kx : ∀ (X : String) (ce : Cell) (q9 : Addr) (H1 : Heap) (locs1 : List Loc), xp X → rg_H E B n R M s H1 locs1 → H1[q9]? = some ce → ce.vm = .none → s.vm.findClass X = some ce.cls → vx_W p l e Rm s m args below meth c H1 locs1 (cells + mc) (slots + ms) Q (F0 m pc ls rest) q9)
    (kk : ∀ (r : Int32) (M1 : rg_Mem) (H1 : Heap) (locs1 : List Loc), post r M1 → rg_H E B n R M1 s H1 locs1 → W p l e Rm s m args below meth c H1 locs1 (cells + mc) (slots + ms) Q (F0 m (pc + 3) ls (.int r :: rest))) : W p l e Rm s m args below meth c H locs cells slots Q (F0 m pc ls st) := by
  obtain ⟨S, hK, hSt⟩ := C0
  have he : (rg_WS E.2 B n R M)[o]? = some (B + o, .inr (ci, rg_fs B R M o)) := by rw [rg_WS_get ho, rg_ent_o hk hci]
  exact vx_calli (vx_runV (As := As) (rest := rest) S hM cw ⟨rg_blind, va_recv hK hH.1 hc he, rg_pre hK hSt hH⟩ rfl hn hsize hst (lv_room hW) hdg hf) hH.2 (fun q _ h => h) (fun q h => h) (fun q _ h => h) (fun X ce q9 u t H1 locs1 ht _ _ hbx _ _ hS hcell hv hcl => kx X ce q9 H1 locs1 hbx.1 ⟨by rw [← ht]; exact hbx.2, hS⟩ hcell hv hcl) (fun r u t H1 locs1 ht _ hp hB _ _ hS => kk r u H1 locs1 hp ⟨by rw [← ht]; exact hB, hS⟩)
theorem rg_wcallRi (C0 : rg_Cx p m c cc nL s args own E B) (hH : rg_H E B n R M s H locs) {g : rg_Mem} {post : Int32 → Prop} {xp : String → Prop} (hM : vx_Met l y ws rm (va_Pc (.ref (B + o) :: As) (rg_Pre E B n R M)) (rg_Ri E B n R g post) (rg_X E B n R M xp) mc ms (rg_A B)) (cw : CallW Rm s args own C index y bytes maxL ret ws rm mc ms na) (hc : vwCl[ci]? = some (C, T, N)) (ho : o < n) (hk : rg_kd o = ci) (hci : ci < 8) (hn : As.length = na) (hsize : ls.size = nL) (hst : st = As.reverse ++ .ref (B + o) :: rest) (hW : (rest.map fun v => v.category).sum ≤ 8) (hdg : decode cc pc = .ok (.invokevirtual index, 3)) (hf : cells + mc ≤ Rm.cells ∧ slots + ms ≤ Rm.slots)
    (kx : ∀ (X : String) (ce : Cell) (q9 : Addr) (H1 : Heap) (locs1 : List Loc), xp X → rg_H E B n R M s H1 locs1 → H1[q9]? = some ce → ce.vm = .none → s.vm.findClass X = some ce.cls → vx_W p l e Rm s m args below meth c H1 locs1 (cells + mc) (slots + ms) Q (F0 m pc ls rest) q9)
    (kk : ∀ (r : Int32) (H1 : Heap) (locs1 : List Loc), post r → rg_H E B n R g s H1 locs1 → W p l e Rm s m args below meth c H1 locs1 (cells + mc) (slots + ms) Q (F0 m (pc + 3) ls (.int r :: rest))) : W p l e Rm s m args below meth c H locs cells slots Q (F0 m pc ls st) := by
  obtain ⟨S, hK, hSt⟩ := C0
  have he : (rg_WS E.2 B n R M)[o]? = some (B + o, .inr (ci, rg_fs B R M o)) := by rw [rg_WS_get ho, rg_ent_o hk hci]
  exact vx_calli (vx_runV (As := As) (rest := rest) S hM cw ⟨rg_blind, va_recv hK hH.1 hc he, rg_pre hK hSt hH⟩ rfl hn hsize hst (lv_room hW) hdg hf) hH.2 (fun q _ h => h) (fun q h => h) (fun q _ h => h) (fun X ce q9 u t H1 locs1 ht _ _ hbx _ _ hS hcell hv hcl => kx X ce q9 H1 locs1 hbx.1 ⟨by rw [← ht]; exact hbx.2, hS⟩ hcell hv hcl) (fun r u t H1 locs1 ht _ hp hB _ _ hS => kk r H1 locs1 hp ⟨by rw [← ht]; exact hB, hS⟩)
theorem rg_wcallWv (C0 : rg_Cx p m c cc nL s args own E B) (hH : rg_H E B n R M s H locs) {post : rg_Mem → Prop} {xp : String → Prop} (hM : vx_Met l y ws rm (va_Pc (.ref (B + o) :: As) (rg_Pre E B n R M)) (rg_Wv E B n R post) (rg_X E B n R M xp) mc ms (rg_A B)) (cw : CallW Rm s args own C index y bytes maxL ret ws rm mc ms na) (hc : vwCl[ci]? = some (C, T, N)) (ho : o < n) (hk : rg_kd o = ci) (hci : ci < 8) (hn : As.length = na) (hsize : ls.size = nL) (hst : st = As.reverse ++ .ref (B + o) :: rest) (hW : (rest.map fun v => v.category).sum ≤ 8) (hdg : decode cc pc = .ok (.invokevirtual index, 3)) (hf : cells + mc ≤ Rm.cells ∧ slots + ms ≤ Rm.slots)
    (kx : ∀ (X : String) (ce : Cell) (q9 : Addr) (H1 : Heap) (locs1 : List Loc), xp X → rg_H E B n R M s H1 locs1 → H1[q9]? = some ce → ce.vm = .none → s.vm.findClass X = some ce.cls → vx_W p l e Rm s m args below meth c H1 locs1 (cells + mc) (slots + ms) Q (F0 m pc ls rest) q9)
    (kk : ∀ (M1 : rg_Mem) (H1 : Heap) (locs1 : List Loc), post M1 → rg_H E B n R M1 s H1 locs1 → W p l e Rm s m args below meth c H1 locs1 (cells + mc) (slots + ms) Q (F0 m (pc + 3) ls rest)) : W p l e Rm s m args below meth c H locs cells slots Q (F0 m pc ls st) := by
  obtain ⟨S, hK, hSt⟩ := C0
  have he : (rg_WS E.2 B n R M)[o]? = some (B + o, .inr (ci, rg_fs B R M o)) := by rw [rg_WS_get ho, rg_ent_o hk hci]
  exact vx_callv (vx_runV (As := As) (rest := rest) S hM cw ⟨rg_blind, va_recv hK hH.1 hc he, rg_pre hK hSt hH⟩ rfl hn hsize hst (lv_room hW) hdg hf) hH.2 (fun q _ h => h) (fun q h => h) (fun q _ h => h) (fun X ce q9 u t H1 locs1 ht _ _ hbx _ _ hS hcell hv hcl => kx X ce q9 H1 locs1 hbx.1 ⟨by rw [← ht]; exact hbx.2, hS⟩ hcell hv hcl) (fun u t H1 locs1 ht _ hp hB _ _ hS => kk u H1 locs1 hp ⟨by rw [← ht]; exact hB, hS⟩)
theorem rg_wcallRv (C0 : rg_Cx p m c cc nL s args own E B) (hH : rg_H E B n R M s H locs) {g : rg_Mem} {post : Prop} {xp : String → Prop} (hM : vx_Met l y ws rm (va_Pc (.ref (B + o) :: As) (rg_Pre E B n R M)) (rg_Rv E B n R g post) (rg_X E B n R M xp) mc ms (rg_A B)) (cw : CallW Rm s args own C index y bytes maxL ret ws rm mc ms na) (hc : vwCl[ci]? = some (C, T, N)) (ho : o < n) (hk : rg_kd o = ci) (hci : ci < 8) (hn : As.length = na) (hsize : ls.size = nL) (hst : st = As.reverse ++ .ref (B + o) :: rest) (hW : (rest.map fun v => v.category).sum ≤ 8) (hdg : decode cc pc = .ok (.invokevirtual index, 3)) (hf : cells + mc ≤ Rm.cells ∧ slots + ms ≤ Rm.slots)
    (kx : ∀ (X : String) (ce : Cell) (q9 : Addr) (H1 : Heap) (locs1 : List Loc), xp X → rg_H E B n R M s H1 locs1 → H1[q9]? = some ce → ce.vm = .none → s.vm.findClass X = some ce.cls → vx_W p l e Rm s m args below meth c H1 locs1 (cells + mc) (slots + ms) Q (F0 m pc ls rest) q9)
    (kk : ∀ (H1 : Heap) (locs1 : List Loc), post → rg_H E B n R g s H1 locs1 → W p l e Rm s m args below meth c H1 locs1 (cells + mc) (slots + ms) Q (F0 m (pc + 3) ls rest)) : W p l e Rm s m args below meth c H locs cells slots Q (F0 m pc ls st) := by
  obtain ⟨S, hK, hSt⟩ := C0
  have he : (rg_WS E.2 B n R M)[o]? = some (B + o, .inr (ci, rg_fs B R M o)) := by rw [rg_WS_get ho, rg_ent_o hk hci]
  exact vx_callv (vx_runV (As := As) (rest := rest) S hM cw ⟨rg_blind, va_recv hK hH.1 hc he, rg_pre hK hSt hH⟩ rfl hn hsize hst (lv_room hW) hdg hf) hH.2 (fun q _ h => h) (fun q h => h) (fun q _ h => h) (fun X ce q9 u t H1 locs1 ht _ _ hbx _ _ hS hcell hv hcl => kx X ce q9 H1 locs1 hbx.1 ⟨by rw [← ht]; exact hbx.2, hS⟩ hcell hv hcl) (fun u t H1 locs1 ht _ hp hB _ _ hS => kk H1 locs1 hp ⟨by rw [← ht]; exact hB, hS⟩)
/-- caught here -/
theorem rg_catch (C0 : rg_Cx p m c cc nL s args own E B) {X : String} {ce : Cell} {q : Addr} (pre : List ExceptionTableEntry) (x : ExceptionTableEntry) (suf : List ExceptionTableEntry) (hsplit : c.exceptionTable.toList = pre ++ x :: suf) (hpass : ∀ z ∈ pre, z.catchType ≠ 0 ∧ ∃ Y, Y ∈ rg_xs ∧ X ≠ Y ∧ Cond.classLink own z.catchType Y ∈ rg_T) (hx : covers x pc = true) (h0 : x.catchType ≠ 0) (hX : X ∈ rg_xs) (hlink : Cond.classLink own x.catchType X ∈ rg_T) (hcell : H[q]? = some ce) (hv : ce.vm = .none) (hcl : s.vm.findClass X = some ce.cls)
    (kk : W p l e Rm s m args below meth c H locs cells slots Q (F0 m x.handlerPc ls [.ref q])) : vx_W p l e Rm s m args below meth c H locs cells slots Q (F0 m pc ls rest) q := by
  obtain ⟨⟨hx9, hb, hml, hown, hts⟩, hK, hSt⟩ := C0
  exact vx_catch hown pre x suf hsplit (fun z hz => by
    obtain ⟨h1, Y, h2, h3, h4⟩ := hpass z hz
    exact Or.inr ⟨h1, Y, hts _ h4, hSt.2.2.2.2.2.2.2 X hX Y h2 h3⟩) hx h0 (hts _ hlink) (va_Nw.use rfl (hSt.2.2.2.2.2.1 _ hX)) hcell hv hcl kk
/-- a static call of a method with handlers -/
theorem rg_callSWi (C0 : rg_Cx p m c cc nL s args own E B) (hH : rg_H E B n R M s H locs) {post : Int32 → rg_Mem → Prop} {hh : List (Nat × Nat × Nat × Nat)} (hM : Met l y ws rm (va_Pc As (rg_Pre E B n R M)) (rg_Wi E B n R post) mc ms (rg_A B)) (cw : vx_CSW Rm s args own index y bytes maxL ret hh ws rm mc ms na) (hn : As.length = na) (hsize : ls.size = nL) (hst : st = As.reverse ++ rest) (hW : (rest.map fun v => v.category).sum ≤ 8) (hdg : decode cc pc = .ok (.invokestatic index, 3)) (hf : cells + mc ≤ Rm.cells ∧ slots + ms ≤ Rm.slots)
    (kk : ∀ (r : Int32) (M1 : rg_Mem) (H1 : Heap) (locs1 : List Loc), post r M1 → rg_H E B n R M1 s H1 locs1 → W p l e Rm s m args below meth c H1 locs1 (cells + mc) (slots + ms) Q (F0 m (pc + 3) ls (.int r :: rest))) : W p l e Rm s m args below meth c H locs cells slots Q (F0 m pc ls st) := by
  obtain ⟨S, hK, hSt⟩ := C0
  exact va_calli (vx_runSW (As := As) (rest := rest) S hM cw ⟨rg_blind, rg_pre hK hSt hH⟩ rfl hn hsize hst (lv_room hW) hdg hf) hH.2 (fun q _ h => h) (fun q h => h) (fun r u t H1 locs1 ht _ hp hB _ _ hS => kk r u H1 locs1 hp ⟨by rw [← ht]; exact hB, hS⟩)
end RGW
theorem rg_cwSW {Rm : Room} {s : State} {args : Array Value} {own : String} {idx maxL mc ms : Nat} {y : MethodName} {bytes : ByteArray} {ret : Option FieldType} {hh : List (Nat × Nat × Nat × Nat)} {rm : Room} (na : Nat) (hts : ∀ w ∈ rg_T, w.before args s = true) (hm : Cond.methodLink own idx y ∈ rg_T) (hi : Cond.static y ∈ rg_T) (hn : Cond.initialized own ∈ rg_T) (hcode : Cond.codeWith y bytes maxL ret hh ∈ rg_T) (hrc : rm.cells = mc) (hrs : rm.slots = ms)
    (hd : y.cls = own ∧ y.cls ≠ "java/lang/invoke/MethodHandle" ∧ y.cls ≠ "java/lang/invoke/VarHandle" ∧ (parseMethodDescriptor y.desc).map (fun d => d.parameters.length) = some na) (hR : rm.frames + 1 ≤ Rm.frames ∧ 8 + (maxL + 11) + rm.locals ≤ Rm.locals) : vx_CSW Rm s args own idx y bytes maxL ret hh (rg_ww y bytes maxL ret hh) rm mc ms na := by
  refine vx_cwSW na hts ?_ rfl hrc hrs hd.2 hR
  intro w hw
  have h1 : w ∈ rg_T := by
    simp only [va_wsS, rg_ww, List.cons_append, List.nil_append, List.mem_cons] at hw
    rcases hw with rfl | rfl | rfl | rfl | hw
    · exact hm
    · exact hi
    · rw [hd.1]; exact hn
    · exact hcode
    · exact hw
  exact ⟨h1, good_of_word (List.mem_filter.mp h1).2⟩
