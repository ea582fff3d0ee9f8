/-! rows over the one memory -/
theorem rg_I_same {M : rg_Mem} {o k : Nat} {v : Int32} : (rg_I M o k v).1 o k = v := by simp [rg_I]
theorem rg_I_cell {M : rg_Mem} {o k : Nat} {v : Int32} {c : Nat} (h : c ≠ o) : (rg_I M o k v).1 c = M.1 c := by
  funext j
  simp [rg_I, h]
theorem rg_I_slot {M : rg_Mem} {o k : Nat} {v : Int32} {c j : Nat} (h : j ≠ k) : (rg_I M o k v).1 c j = M.1 c j := by simp [rg_I, h]
theorem rg_I_2 {M : rg_Mem} {o k : Nat} {v : Int32} : (rg_I M o k v).2 = M.2 := rfl
theorem rg_J_same {M : rg_Mem} {o k : Nat} {v : Int64} : (rg_J M o k v).2 o k = v := by simp [rg_J]
theorem rg_J_cell {M : rg_Mem} {o k : Nat} {v : Int64} {c : Nat} (h : c ≠ o) : (rg_J M o k v).2 c = M.2 c := by
  funext j
  simp [rg_J, h]
theorem rg_J_slot {M : rg_Mem} {o k : Nat} {v : Int64} {c j : Nat} (h : j ≠ k) : (rg_J M o k v).2 c j = M.2 c j := by simp [rg_J, h]
theorem rg_J_1 {M : rg_Mem} {o k : Nat} {v : Int64} : (rg_J M o k v).1 = M.1 := rfl
theorem rg_R_cell {R : rg_Rfs} {o k : Nat} {v : Option Nat} {c : Nat} (h : c ≠ o) : rg_R R o k v c = R c := by
  funext j
  simp [rg_R, h]
section RGR
variable {p : Program} {l : Launch} {e : Env} {Rm : Room} {s : State} {m : MethodId} {args : Array Value} {below : List Frame} {meth : Method} {c : Code} {H : Heap} {locs : List Loc} {cells slots : Nat} {Q : State → Prop}
variable {cc : ByteArray} {pc nL : Nat} {ls : Array Slot} {rest : List Value} {own : String} {E : rg_Env} {B n : Nat} {R : rg_Rfs} {M : rg_Mem}
theorem rg_get (C0 : rg_Cx p m c cc nL s args own E B) (hH : rg_H E B n R M s H locs) {C : String} {T : u_T} {N ci index o k t : Nat} (hc : vwCl[ci]? = some (C, T, N)) (hin : ∀ w ∈ u_ws C T N, w ∈ rg_T) (hkN : k < N) (hlink : Cond.fieldLink own index (T k).1 (T k).2.1 (T k).2.2.1 ∈ rg_T) (ho : rg_hv n o) (hk : rg_kd o = ci) (hci : ci < 8) (hf : (rg_ft ci)[k]? = some t) (hdg : decode cc pc = .ok (.getfield index, 3))
    (kk : W p l e Rm s m args below meth c H locs cells slots Q (F0 m (pc + 3) ls (rg_fv B R M o k t :: rest))) : W p l e Rm s m args below meth c H locs cells slots Q (F0 m pc ls (.ref (B + o) :: rest)) := by
  obtain ⟨⟨hx, hb, -, hown, hts⟩, hK, -⟩ := C0
  have he : (rg_WS E.2 B n R M)[rg_ps o]? = some (B + o, .inr (ci, rg_fs B R M o)) := by rw [rg_WS_get ho, rg_ent_o hk hci]
  exact va_get (ci := ci) hx hb hts hin hown hK hH.1 (rg_ps o) he hc k hkN (hts _ hlink) (fun _ h => h) (rg_fs_get (by rw [hk]; exact hf)) hdg kk
theorem rg_gI (C0 : rg_Cx p m c cc nL s args own E B) (hH : rg_H E B n R M s H locs) {C : String} {T : u_T} {N ci index o k : Nat} (hc : vwCl[ci]? = some (C, T, N)) (hin : ∀ w ∈ u_ws C T N, w ∈ rg_T) (hkN : k < N) (hlink : Cond.fieldLink own index (T k).1 (T k).2.1 (T k).2.2.1 ∈ rg_T) (ho : rg_hv n o) (hk : rg_kd o = ci) (hci : ci < 8) (hf : (rg_ft ci)[k]? = some 0) (hdg : decode cc pc = .ok (.getfield index, 3))
    (kk : W p l e Rm s m args below meth c H locs cells slots Q (F0 m (pc + 3) ls (.int (M.1 o k) :: rest))) : W p l e Rm s m args below meth c H locs cells slots Q (F0 m pc ls (.ref (B + o) :: rest)) := rg_get C0 hH hc hin hkN hlink ho hk hci hf hdg kk
theorem rg_gJ (C0 : rg_Cx p m c cc nL s args own E B) (hH : rg_H E B n R M s H locs) {C : String} {T : u_T} {N ci index o k : Nat} (hc : vwCl[ci]? = some (C, T, N)) (hin : ∀ w ∈ u_ws C T N, w ∈ rg_T) (hkN : k < N) (hlink : Cond.fieldLink own index (T k).1 (T k).2.1 (T k).2.2.1 ∈ rg_T) (ho : rg_hv n o) (hk : rg_kd o = ci) (hci : ci < 8) (hf : (rg_ft ci)[k]? = some 1) (hdg : decode cc pc = .ok (.getfield index, 3))
    (kk : W p l e Rm s m args below meth c H locs cells slots Q (F0 m (pc + 3) ls (.long (M.2 o k) :: rest))) : W p l e Rm s m args below meth c H locs cells slots Q (F0 m pc ls (.ref (B + o) :: rest)) := rg_get C0 hH hc hin hkN hlink ho hk hci hf hdg kk
theorem rg_gR (C0 : rg_Cx p m c cc nL s args own E B) (hH : rg_H E B n R M s H locs) {C : String} {T : u_T} {N ci index o k o2 : Nat} (hR : R o k = some o2) (hc : vwCl[ci]? = some (C, T, N)) (hin : ∀ w ∈ u_ws C T N, w ∈ rg_T) (hkN : k < N) (hlink : Cond.fieldLink own index (T k).1 (T k).2.1 (T k).2.2.1 ∈ rg_T) (ho : rg_hv n o) (hk : rg_kd o = ci) (hci : ci < 8) (hf : (rg_ft ci)[k]? = some 2) (hdg : decode cc pc = .ok (.getfield index, 3))
    (kk : W p l e Rm s m args below meth c H locs cells slots Q (F0 m (pc + 3) ls (.ref (B + o2) :: rest))) : W p l e Rm s m args below meth c H locs cells slots Q (F0 m pc ls (.ref (B + o) :: rest)) := by
  refine rg_get C0 hH hc hin hkN hlink ho hk hci hf hdg ?_
  have h1 : rg_fv B R M o k 2 = .ref (B + o2) := by simp [rg_fv, rg_B, hR, va_rf]
  rw [h1]
  exact kk
theorem rg_getN (C0 : rg_Cx p m c cc nL s args own E B) (hH : rg_H E B n R M s H locs) {C : String} {T : u_T} {N ci index o k t : Nat} (hc : vwCl[ci]? = some (C, T, N)) (hin : ∀ w ∈ u_ws C T N, w ∈ rg_T) (hkN : k < N) (hlink : (own, index, (T k).1, (T k).2.1, (T k).2.2.1) ∈ rg_nf) (ho : rg_hv n o) (hk : rg_kd o = ci) (hci : ci < 8) (hf : (rg_ft ci)[k]? = some t) (hdg : decode cc pc = .ok (.getfield index, 3))
    (kk : W p l e Rm s m args below meth c H locs cells slots Q (F0 m (pc + 3) ls (rg_fv B R M o k t :: rest))) : W p l e Rm s m args below meth c H locs cells slots Q (F0 m pc ls (.ref (B + o) :: rest)) := by
  obtain ⟨⟨hx, hb, -, hown, hts⟩, hK, hSt⟩ := C0
  have he : (rg_WS E.2 B n R M)[rg_ps o]? = some (B + o, .inr (ci, rg_fs B R M o)) := by rw [rg_WS_get ho, rg_ent_o hk hci]
  exact va_getN (ci := ci) (host := "RengaHall") hx hb hts hin hown hK hH.1 (rg_ps o) he hc k hkN (va_Nw.use rfl (hSt.2.2.2.1 _ hlink)) (fun _ h => h) (rg_fs_get (by rw [hk]; exact hf)) hdg kk
theorem rg_nI (C0 : rg_Cx p m c cc nL s args own E B) (hH : rg_H E B n R M s H locs) {C : String} {T : u_T} {N ci index o k : Nat} (hc : vwCl[ci]? = some (C, T, N)) (hin : ∀ w ∈ u_ws C T N, w ∈ rg_T) (hkN : k < N) (hlink : (own, index, (T k).1, (T k).2.1, (T k).2.2.1) ∈ rg_nf) (ho : rg_hv n o) (hk : rg_kd o = ci) (hci : ci < 8) (hf : (rg_ft ci)[k]? = some 0) (hdg : decode cc pc = .ok (.getfield index, 3))
    (kk : W p l e Rm s m args below meth c H locs cells slots Q (F0 m (pc + 3) ls (.int (M.1 o k) :: rest))) : W p l e Rm s m args below meth c H locs cells slots Q (F0 m pc ls (.ref (B + o) :: rest)) := rg_getN C0 hH hc hin hkN hlink ho hk hci hf hdg kk
theorem rg_nJ (C0 : rg_Cx p m c cc nL s args own E B) (hH : rg_H E B n R M s H locs) {C : String} {T : u_T} {N ci index o k : Nat} (hc : vwCl[ci]? = some (C, T, N)) (hin : ∀ w ∈ u_ws C T N, w ∈ rg_T) (hkN : k < N) (hlink : (own, index, (T k).1, (T k).2.1, (T k).2.2.1) ∈ rg_nf) (ho : rg_hv n o) (hk : rg_kd o = ci) (hci : ci < 8) (hf : (rg_ft ci)[k]? = some 1) (hdg : decode cc pc = .ok (.getfield index, 3))
    (kk : W p l e Rm s m args below meth c H locs cells slots Q (F0 m (pc + 3) ls (.long (M.2 o k) :: rest))) : W p l e Rm s m args below meth c H locs cells slots Q (F0 m pc ls (.ref (B + o) :: rest)) := rg_getN C0 hH hc hin hkN hlink ho hk hci hf hdg kk
theorem rg_nR (C0 : rg_Cx p m c cc nL s args own E B) (hH : rg_H E B n R M s H locs) {C : String} {T : u_T} {N ci index o k o2 : Nat} (hR : R o k = some o2) (hc : vwCl[ci]? = some (C, T, N)) (hin : ∀ w ∈ u_ws C T N, w ∈ rg_T) (hkN : k < N) (hlink : (own, index, (T k).1, (T k).2.1, (T k).2.2.1) ∈ rg_nf) (ho : rg_hv n o) (hk : rg_kd o = ci) (hci : ci < 8) (hf : (rg_ft ci)[k]? = some 2) (hdg : decode cc pc = .ok (.getfield index, 3))
    (kk : W p l e Rm s m args below meth c H locs cells slots Q (F0 m (pc + 3) ls (.ref (B + o2) :: rest))) : W p l e Rm s m args below meth c H locs cells slots Q (F0 m pc ls (.ref (B + o) :: rest)) := by
  refine rg_getN C0 hH hc hin hkN hlink ho hk hci hf hdg ?_
  have h1 : rg_fv B R M o k 2 = .ref (B + o2) := by simp [rg_fv, rg_B, hR, va_rf]
  rw [h1]
  exact kk
theorem rg_put (C0 : rg_Cx p m c cc nL s args own E B) (hH : rg_H E B n R M s H locs) {C : String} {T : u_T} {N ci index o k t : Nat} {R' : rg_Rfs} {M' : rg_Mem} {v : Value} (ty0 : Nat → FieldType) (hty : ∀ k, k < N → parseFieldDescriptor (T k).2.2.1 = some (ty0 k)) (hnm : ∀ a, a < N → ∀ b, b < N → a ≠ b → (T a).2.1 ≠ (T b).2.1) (hc : vwCl[ci]? = some (C, T, N)) (hin : ∀ w ∈ u_ws C T N, w ∈ rg_T) (hkN : k < N) (hlink : Cond.fieldLink own index (T k).1 (T k).2.1 (T k).2.2.1 ∈ rg_T) (ho : rg_hv n o) (hk : rg_kd o = ci) (hci : ci < 8) (hf : (rg_ft ci)[k]? = some t)
    (hfin : (T k).2.2.2 = false ∨ ((T k).2.2.2 = true ∧ meth.name = "<init>" ∧ (T k).1 = own)) (hn : narrow (ty0 k) v = v) (hfit : fits (ty0 k) v = true) (hv : v = rg_fv B R' M' o k t) (hs : ∀ j, j ≠ k → M'.1 o j = M.1 o j ∧ M'.2 o j = M.2 o j ∧ R' o j = R o j) (hd : ∀ d, d ≠ o → M'.1 d = M.1 d ∧ M'.2 d = M.2 d ∧ R' d = R d) (hdg : decode cc pc = .ok (.putfield index, 3))
    (kk : ∀ (H1 : Heap) (locs1 : List Loc), rg_H E B n R' M' s H1 locs1 → W p l e Rm s m args below meth c H1 locs1 cells slots Q (F0 m (pc + 3) ls rest)) : W p l e Rm s m args below meth c H locs cells slots Q (F0 m pc ls (v :: .ref (B + o) :: rest)) := by
  obtain ⟨⟨hx, hb, -, hown, hts⟩, hK, -⟩ := C0
  have he : (rg_WS E.2 B n R M)[rg_ps o]? = some (B + o, .inr (ci, rg_fs B R M o)) := by rw [rg_WS_get ho, rg_ent_o hk hci]
  have hl : k < (rg_fs B R M o).length := by rw [rg_fs_len, hk]; exact (List.getElem?_eq_some_iff.mp hf).1
  have hw : (rg_WS E.2 B n R M).set (rg_ps o) (B + o, .inr (ci, (rg_fs B R M o).set k v)) = rg_WS E.2 B n R' M' := by
    refine rg_WS_set ho ?_ (fun d hd2 => rg_ent_c (hd d hd2).1 (hd d hd2).2.1 (hd d hd2).2.2)
    rw [rg_ent_o hk hci, hv, rg_fs_set (by rw [hk]; exact hf) hs]
  rcases hfin with hfin | ⟨hfin, hini, hdecl⟩
  · refine va_put (ci := ci) hx hb hts hin ty0 hty hnm hown hK hH.1 rg_D hH.2 (rg_ps o) he hc k hkN (hts _ hlink) (fun _ h => h) hfin (hty k hkN) hn hfit hl hdg (fun H1 locs1 a1 _ a3 => ?_)
    rw [hw] at a1
    exact kk H1 locs1 ⟨a1, a3⟩
  · refine va_putF (ci := ci) hx hb hts hin ty0 hty hnm hown hK hH.1 rg_D hH.2 (rg_ps o) he hc k hkN (hts _ hlink) (fun _ h => h) hfin hini hdecl (hty k hkN) hn hfit hl hdg (fun H1 locs1 a1 _ a3 => ?_)
    rw [hw] at a1
    exact kk H1 locs1 ⟨a1, a3⟩
theorem rg_pI (C0 : rg_Cx p m c cc nL s args own E B) (hH : rg_H E B n R M s H locs) {C : String} {T : u_T} {N ci index o k : Nat} {v : Int32} (ty0 : Nat → FieldType) (hty : ∀ k, k < N → parseFieldDescriptor (T k).2.2.1 = some (ty0 k)) (hnm : ∀ a, a < N → ∀ b, b < N → a ≠ b → (T a).2.1 ≠ (T b).2.1) (hc : vwCl[ci]? = some (C, T, N)) (hin : ∀ w ∈ u_ws C T N, w ∈ rg_T) (hkN : k < N) (hlink : Cond.fieldLink own index (T k).1 (T k).2.1 (T k).2.2.1 ∈ rg_T) (ho : rg_hv n o) (hk : rg_kd o = ci) (hci : ci < 8) (hf : (rg_ft ci)[k]? = some 0)
    (hfin : (T k).2.2.2 = false) (hn : narrow (ty0 k) (.int v) = .int v) (hfit : fits (ty0 k) (.int v) = true) (hdg : decode cc pc = .ok (.putfield index, 3))
    (kk : ∀ (H1 : Heap) (locs1 : List Loc), rg_H E B n R (rg_I M o k v) s H1 locs1 → W p l e Rm s m args below meth c H1 locs1 cells slots Q (F0 m (pc + 3) ls rest)) : W p l e Rm s m args below meth c H locs cells slots Q (F0 m pc ls (.int v :: .ref (B + o) :: rest)) :=
  rg_put (R' := R) (M' := rg_I M o k v) C0 hH ty0 hty hnm hc hin hkN hlink ho hk hci hf (Or.inl hfin) hn hfit (by simp [rg_fv, rg_I]) (fun j hj => ⟨rg_I_slot hj, rfl, rfl⟩) (fun d hd => ⟨rg_I_cell hd, rfl, rfl⟩) hdg kk
theorem rg_pJ (C0 : rg_Cx p m c cc nL s args own E B) (hH : rg_H E B n R M s H locs) {C : String} {T : u_T} {N ci index o k : Nat} {v : Int64} (ty0 : Nat → FieldType) (hty : ∀ k, k < N → parseFieldDescriptor (T k).2.2.1 = some (ty0 k)) (hnm : ∀ a, a < N → ∀ b, b < N → a ≠ b → (T a).2.1 ≠ (T b).2.1) (hc : vwCl[ci]? = some (C, T, N)) (hin : ∀ w ∈ u_ws C T N, w ∈ rg_T) (hkN : k < N) (hlink : Cond.fieldLink own index (T k).1 (T k).2.1 (T k).2.2.1 ∈ rg_T) (ho : rg_hv n o) (hk : rg_kd o = ci) (hci : ci < 8) (hf : (rg_ft ci)[k]? = some 1)
    (hfin : (T k).2.2.2 = false) (hn : narrow (ty0 k) (.long v) = .long v) (hfit : fits (ty0 k) (.long v) = true) (hdg : decode cc pc = .ok (.putfield index, 3))
    (kk : ∀ (H1 : Heap) (locs1 : List Loc), rg_H E B n R (rg_J M o k v) s H1 locs1 → W p l e Rm s m args below meth c H1 locs1 cells slots Q (F0 m (pc + 3) ls rest)) : W p l e Rm s m args below meth c H locs cells slots Q (F0 m pc ls (.long v :: .ref (B + o) :: rest)) :=
  rg_put (R' := R) (M' := rg_J M o k v) C0 hH ty0 hty hnm hc hin hkN hlink ho hk hci hf (Or.inl hfin) hn hfit (by simp [rg_fv, rg_J]) (fun j hj => ⟨rfl, rg_J_slot hj, rfl⟩) (fun d hd => ⟨rfl, rg_J_cell hd, rfl⟩) hdg kk
theorem rg_pR (C0 : rg_Cx p m c cc nL s args own E B) (hH : rg_H E B n R M s H locs) {C : String} {T : u_T} {N ci index o k o2 : Nat} (ty0 : Nat → FieldType) (hty : ∀ k, k < N → parseFieldDescriptor (T k).2.2.1 = some (ty0 k)) (hnm : ∀ a, a < N → ∀ b, b < N → a ≠ b → (T a).2.1 ≠ (T b).2.1) (hc : vwCl[ci]? = some (C, T, N)) (hin : ∀ w ∈ u_ws C T N, w ∈ rg_T) (hkN : k < N) (hlink : Cond.fieldLink own index (T k).1 (T k).2.1 (T k).2.2.1 ∈ rg_T) (ho : rg_hv n o) (hk : rg_kd o = ci) (hci : ci < 8) (hf : (rg_ft ci)[k]? = some 2)
    (hfin : (T k).2.2.2 = true) (hini : meth.name = "<init>") (hdecl : (T k).1 = own) (hn : narrow (ty0 k) (.ref (B + o2)) = .ref (B + o2)) (hfit : fits (ty0 k) (.ref (B + o2)) = true) (hdg : decode cc pc = .ok (.putfield index, 3))
    (kk : ∀ (H1 : Heap) (locs1 : List Loc), rg_H E B n (rg_R R o k (some o2)) M s H1 locs1 → W p l e Rm s m args below meth c H1 locs1 cells slots Q (F0 m (pc + 3) ls rest)) : W p l e Rm s m args below meth c H locs cells slots Q (F0 m pc ls (.ref (B + o2) :: .ref (B + o) :: rest)) :=
  rg_put (R' := rg_R R o k (some o2)) (M' := M) C0 hH ty0 hty hnm hc hin hkN hlink ho hk hci hf (Or.inr ⟨hfin, hini, hdecl⟩) hn hfit (by simp [rg_fv, rg_B, rg_R, va_rf]) (fun j hj => ⟨rfl, rfl, by simp [rg_R, hj]⟩) (fun d hd => ⟨rfl, rfl, rg_R_cell hd⟩) hdg kk
theorem rg_iald (C0 : rg_Cx p m c cc nL s args own E B) (hH : rg_H E B n R M s H locs) {o : Nat} {i : Int32} (ho : rg_hv n o) (hk : rg_kd o = 8) (hin : vp_in i (rg_ln o)) (hdg : decode cc pc = .ok (.iaload, 1))
    (kk : W p l e Rm s m args below meth c H locs cells slots Q (F0 m (pc + 1) ls (.int (M.1 o i.toNatClampNeg) :: rest))) : W p l e Rm s m args below meth c H locs cells slots Q (F0 m pc ls (.int i :: .ref (B + o) :: rest)) := by
  obtain ⟨⟨hx, hb, -, hown, hts⟩, hK, -⟩ := C0
  exact va_iald hx hb hK hH.1 (rg_ps o) 0 (by rw [rg_WS_get ho, rg_ent_i hk]) rfl hin hdg kk
theorem rg_zald (C0 : rg_Cx p m c cc nL s args own E B) (hH : rg_H E B n R M s H locs) {o : Nat} {i : Int32} (ho : rg_hv n o) (hk : rg_kd o = 10) (hin : vp_in i (rg_ln o)) (hdg : decode cc pc = .ok (.baload, 1))
    (kk : W p l e Rm s m args below meth c H locs cells slots Q (F0 m (pc + 1) ls (.int (M.1 o i.toNatClampNeg) :: rest))) : W p l e Rm s m args below meth c H locs cells slots Q (F0 m pc ls (.int i :: .ref (B + o) :: rest)) := by
  obtain ⟨⟨hx, hb, -, hown, hts⟩, hK, -⟩ := C0
  exact va_zald hx hb hK hH.1 (rg_ps o) 2 (by rw [rg_WS_get ho, rg_ent_z hk]) rfl hin hdg kk
theorem rg_lald (C0 : rg_Cx p m c cc nL s args own E B) (hH : rg_H E B n R M s H locs) {o : Nat} {i : Int32} (ho : rg_hv n o) (hk : rg_kd o = 9) (hin : vp_in i (rg_ln o)) (hdg : decode cc pc = .ok (.laload, 1))
    (kk : W p l e Rm s m args below meth c H locs cells slots Q (F0 m (pc + 1) ls (.long (M.2 o i.toNatClampNeg) :: rest))) : W p l e Rm s m args below meth c H locs cells slots Q (F0 m pc ls (.int i :: .ref (B + o) :: rest)) := by
  obtain ⟨⟨hx, hb, -, hown, hts⟩, hK, -⟩ := C0
  exact va_lald hx hb hK hH.1 (rg_ps o) 1 (by rw [rg_WS_get ho, rg_ent_j hk]) rfl hin hdg kk
theorem rg_aald (C0 : rg_Cx p m c cc nL s args own E B) (hH : rg_H E B n R M s H locs) {o o2 k : Nat} {i : Int32} (hR : R o i.toNatClampNeg = some o2) (ho : rg_hv n o) (hk : rg_kd o = k) (hk2 : 10 < k ∧ k < 14) (hin : vp_in i (rg_ln o)) (hdg : decode cc pc = .ok (.aaload, 1))
    (kk : W p l e Rm s m args below meth c H locs cells slots Q (F0 m (pc + 1) ls (.ref (B + o2) :: rest))) : W p l e Rm s m args below meth c H locs cells slots Q (F0 m pc ls (.int i :: .ref (B + o) :: rest)) := by
  obtain ⟨⟨hx, hb, -, hown, hts⟩, hK, -⟩ := C0
  have hlt : i.toNatClampNeg < rg_ln o := Nat.not_le.mp fun q => hin (Or.inr q)
  have he := hH.1 (rg_ps o) _ (rg_WS_get ho)
  rw [rg_ent_q hk hk2.1] at he
  have hc : H[B + o]? = some (vp_cell (E.2 k) (rg_ln o, .inr (.inr (.inr (.inr (fun j => (R o j).map (fun x => B + x))))))) := he
  have ht : ∃ (t0 : Nat) (ty : FieldType), (rg_ty E.2)[t0]? = some (E.2 k, ty) ∧ ty.isReference = true := by
    rcases (show k = 11 ∨ k = 12 ∨ k = 13 by omega) with rfl | rfl | rfl
    · exact ⟨3, _, rfl, rfl⟩
    · exact ⟨4, _, rfl, rfl⟩
    · exact ⟨5, _, rfl, rfl⟩
  obtain ⟨t0, ty, ht1, ht2⟩ := ht
  refine W.aald (v := .ref (B + o2)) (ty := ty) hx hb hc ((hK.2 t0 _ ht1).1 (rg_ln o) (fun j => va_rf ((R o j).map (fun x => B + x)))) ht2 (fun q => by cases q) (by show ¬ (i < 0 ∨ (arrV _ _ _).slots.size ≤ _); rw [arrV_size]; exact hin) (by show (arrV _ _ _).slots[_]? = _; rw [arrV_read _ _ hlt]; show some (va_rf ((R o i.toNatClampNeg).map (fun x => B + x))) = _; rw [hR]; rfl) rfl rfl hdg kk
theorem rg_iast (C0 : rg_Cx p m c cc nL s args own E B) (hH : rg_H E B n R M s H locs) {o : Nat} {i x : Int32} (ho : rg_hv n o) (hk : rg_kd o = 8) (hin : vp_in i (rg_ln o)) (hdg : decode cc pc = .ok (.iastore, 1))
    (kk : ∀ (H1 : Heap) (locs1 : List Loc), rg_H E B n R (rg_I M o i.toNatClampNeg x) s H1 locs1 → W p l e Rm s m args below meth c H1 locs1 cells slots Q (F0 m (pc + 1) ls rest)) : W p l e Rm s m args below meth c H locs cells slots Q (F0 m pc ls (.int x :: .int i :: .ref (B + o) :: rest)) := by
  obtain ⟨⟨hx, hb, -, hown, hts⟩, hK, -⟩ := C0
  refine va_iast hx hb hK hH.1 rg_D hH.2 (rg_ps o) 0 (by rw [rg_WS_get ho, rg_ent_i hk]) rfl hin hdg (fun H1 locs1 a1 _ a3 => ?_)
  rw [rg_WS_set (M := M) (R := R) (M' := rg_I M o i.toNatClampNeg x) (R' := R) ho (by rw [rg_ent_i hk]; congr; funext j; simp [upd, rg_I]) (fun d hd => rg_ent_c (rg_I_cell hd) rfl rfl)] at a1
  exact kk H1 locs1 ⟨a1, a3⟩
theorem rg_zast (C0 : rg_Cx p m c cc nL s args own E B) (hH : rg_H E B n R M s H locs) {o : Nat} {i x : Int32} (ho : rg_hv n o) (hk : rg_kd o = 10) (hx1 : x = 0 ∨ x = 1) (hin : vp_in i (rg_ln o)) (hdg : decode cc pc = .ok (.bastore, 1))
    (kk : ∀ (H1 : Heap) (locs1 : List Loc), rg_H E B n R (rg_I M o i.toNatClampNeg x) s H1 locs1 → W p l e Rm s m args below meth c H1 locs1 cells slots Q (F0 m (pc + 1) ls rest)) : W p l e Rm s m args below meth c H locs cells slots Q (F0 m pc ls (.int x :: .int i :: .ref (B + o) :: rest)) := by
  obtain ⟨⟨hx, hb, -, hown, hts⟩, hK, -⟩ := C0
  have hb1 : vp_nar .boolean x = x := by rcases hx1 with rfl | rfl <;> rfl
  refine va_zast hx hb hK hH.1 rg_D hH.2 (rg_ps o) 2 (by rw [rg_WS_get ho, rg_ent_z hk]) rfl hin hdg (fun H1 locs1 a1 _ a3 => ?_)
  rw [rg_WS_set (M := M) (R := R) (M' := rg_I M o i.toNatClampNeg x) (R' := R) ho (by rw [rg_ent_z hk, hb1]; congr; funext j; simp [upd, rg_I]) (fun d hd => rg_ent_c (rg_I_cell hd) rfl rfl)] at a1
  exact kk H1 locs1 ⟨a1, a3⟩
theorem rg_last (C0 : rg_Cx p m c cc nL s args own E B) (hH : rg_H E B n R M s H locs) {o : Nat} {i : Int32} {x : Int64} (ho : rg_hv n o) (hk : rg_kd o = 9) (hin : vp_in i (rg_ln o)) (hdg : decode cc pc = .ok (.lastore, 1))
    (kk : ∀ (H1 : Heap) (locs1 : List Loc), rg_H E B n R (rg_J M o i.toNatClampNeg x) s H1 locs1 → W p l e Rm s m args below meth c H1 locs1 cells slots Q (F0 m (pc + 1) ls rest)) : W p l e Rm s m args below meth c H locs cells slots Q (F0 m pc ls (.long x :: .int i :: .ref (B + o) :: rest)) := by
  obtain ⟨⟨hx, hb, -, hown, hts⟩, hK, -⟩ := C0
  refine va_last hx hb hK hH.1 rg_D hH.2 (rg_ps o) 1 (by rw [rg_WS_get ho, rg_ent_j hk]) rfl hin hdg (fun H1 locs1 a1 _ a3 => ?_)
  rw [rg_WS_set (M := M) (R := R) (M' := rg_J M o i.toNatClampNeg x) (R' := R) ho (by rw [rg_ent_j hk]; congr; funext j; simp [vp_updL, rg_J]) (fun d hd => rg_ent_c rfl (rg_J_cell hd) rfl)] at a1
  exact kk H1 locs1 ⟨a1, a3⟩
theorem rg_vin {o n0 : Nat} {i : Int32} (hln : rg_ln o = n0) (h : vp_in i n0) : vp_in i (rg_ln o) := by rw [hln]; exact h
theorem rg_vinN {o n0 j : Nat} (hln : rg_ln o = n0) (hj : j < n0 ∧ n0 ≤ 100000) : vp_in (nI j) (rg_ln o) ∧ (nI j).toNatClampNeg = j := ⟨by rw [hln]; exact vp_in_nI hj.1 (by omega), nI_clamp (by omega)⟩
theorem rg_ialdN (C0 : rg_Cx p m c cc nL s args own E B) (hH : rg_H E B n R M s H locs) {o j n0 : Nat} (ho : rg_hv n o) (hk : rg_kd o = 8) (hln : rg_ln o = n0) (hj : j < n0 ∧ n0 ≤ 100000) (hdg : decode cc pc = .ok (.iaload, 1))
    (kk : W p l e Rm s m args below meth c H locs cells slots Q (F0 m (pc + 1) ls (.int (M.1 o j) :: rest))) : W p l e Rm s m args below meth c H locs cells slots Q (F0 m pc ls (.int (nI j) :: .ref (B + o) :: rest)) :=
  rg_iald C0 hH ho hk (rg_vinN hln hj).1 hdg (by rw [(rg_vinN hln hj).2]; exact kk)
theorem rg_zaldN (C0 : rg_Cx p m c cc nL s args own E B) (hH : rg_H E B n R M s H locs) {o j n0 : Nat} (ho : rg_hv n o) (hk : rg_kd o = 10) (hln : rg_ln o = n0) (hj : j < n0 ∧ n0 ≤ 100000) (hdg : decode cc pc = .ok (.baload, 1))
    (kk : W p l e Rm s m args below meth c H locs cells slots Q (F0 m (pc + 1) ls (.int (M.1 o j) :: rest))) : W p l e Rm s m args below meth c H locs cells slots Q (F0 m pc ls (.int (nI j) :: .ref (B + o) :: rest)) :=
  rg_zald C0 hH ho hk (rg_vinN hln hj).1 hdg (by rw [(rg_vinN hln hj).2]; exact kk)
theorem rg_laldN (C0 : rg_Cx p m c cc nL s args own E B) (hH : rg_H E B n R M s H locs) {o j n0 : Nat} (ho : rg_hv n o) (hk : rg_kd o = 9) (hln : rg_ln o = n0) (hj : j < n0 ∧ n0 ≤ 100000) (hdg : decode cc pc = .ok (.laload, 1))
    (kk : W p l e Rm s m args below meth c H locs cells slots Q (F0 m (pc + 1) ls (.long (M.2 o j) :: rest))) : W p l e Rm s m args below meth c H locs cells slots Q (F0 m pc ls (.int (nI j) :: .ref (B + o) :: rest)) :=
  rg_lald C0 hH ho hk (rg_vinN hln hj).1 hdg (by rw [(rg_vinN hln hj).2]; exact kk)
theorem rg_aaldN (C0 : rg_Cx p m c cc nL s args own E B) (hH : rg_H E B n R M s H locs) {o o2 k j n0 : Nat} (hR : R o j = some o2) (ho : rg_hv n o) (hk : rg_kd o = k) (hk2 : 10 < k ∧ k < 14) (hln : rg_ln o = n0) (hj : j < n0 ∧ n0 ≤ 100000) (hdg : decode cc pc = .ok (.aaload, 1))
    (kk : W p l e Rm s m args below meth c H locs cells slots Q (F0 m (pc + 1) ls (.ref (B + o2) :: rest))) : W p l e Rm s m args below meth c H locs cells slots Q (F0 m pc ls (.int (nI j) :: .ref (B + o) :: rest)) :=
  rg_aald C0 hH (by rw [(rg_vinN hln hj).2]; exact hR) ho hk hk2 (rg_vinN hln hj).1 hdg kk
theorem rg_iastN (C0 : rg_Cx p m c cc nL s args own E B) (hH : rg_H E B n R M s H locs) {o j n0 : Nat} {x : Int32} (ho : rg_hv n o) (hk : rg_kd o = 8) (hln : rg_ln o = n0) (hj : j < n0 ∧ n0 ≤ 100000) (hdg : decode cc pc = .ok (.iastore, 1))
    (kk : ∀ (H1 : Heap) (locs1 : List Loc), rg_H E B n R (rg_I M o j x) s H1 locs1 → W p l e Rm s m args below meth c H1 locs1 cells slots Q (F0 m (pc + 1) ls rest)) : W p l e Rm s m args below meth c H locs cells slots Q (F0 m pc ls (.int x :: .int (nI j) :: .ref (B + o) :: rest)) :=
  rg_iast C0 hH ho hk (rg_vinN hln hj).1 hdg (by rw [(rg_vinN hln hj).2]; exact kk)
theorem rg_zastN (C0 : rg_Cx p m c cc nL s args own E B) (hH : rg_H E B n R M s H locs) {o j n0 : Nat} {x : Int32} (ho : rg_hv n o) (hk : rg_kd o = 10) (hx1 : x = 0 ∨ x = 1) (hln : rg_ln o = n0) (hj : j < n0 ∧ n0 ≤ 100000) (hdg : decode cc pc = .ok (.bastore, 1))
    (kk : ∀ (H1 : Heap) (locs1 : List Loc), rg_H E B n R (rg_I M o j x) s H1 locs1 → W p l e Rm s m args below meth c H1 locs1 cells slots Q (F0 m (pc + 1) ls rest)) : W p l e Rm s m args below meth c H locs cells slots Q (F0 m pc ls (.int x :: .int (nI j) :: .ref (B + o) :: rest)) :=
  rg_zast C0 hH ho hk hx1 (rg_vinN hln hj).1 hdg (by rw [(rg_vinN hln hj).2]; exact kk)
theorem rg_lastN (C0 : rg_Cx p m c cc nL s args own E B) (hH : rg_H E B n R M s H locs) {o j n0 : Nat} {x : Int64} (ho : rg_hv n o) (hk : rg_kd o = 9) (hln : rg_ln o = n0) (hj : j < n0 ∧ n0 ≤ 100000) (hdg : decode cc pc = .ok (.lastore, 1))
    (kk : ∀ (H1 : Heap) (locs1 : List Loc), rg_H E B n R (rg_J M o j x) s H1 locs1 → W p l e Rm s m args below meth c H1 locs1 cells slots Q (F0 m (pc + 1) ls rest)) : W p l e Rm s m args below meth c H locs cells slots Q (F0 m pc ls (.long x :: .int (nI j) :: .ref (B + o) :: rest)) :=
  rg_last C0 hH ho hk (rg_vinN hln hj).1 hdg (by rw [(rg_vinN hln hj).2]; exact kk)
end RGR
