/-- an element of the script; its length -/
theorem rg_sld {p : Program} {l : Launch} {e : Env} {Rm : Room} {s : State} {m : MethodId} {args : Array Value} {below : List Frame} {meth : Method} {c : Code} {H : Heap} {locs : List Loc} {cells slots : Nat} {Q : State → Prop} {cc : ByteArray} {pc nL : Nat} {ls : Array Slot} {rest : List Value} {own : String} {E : rg_Env} {B n : Nat} {R : rg_Rfs} {M : rg_Mem} {b L j : Nat} {xs : Nat → Int32} (C0 : rg_Cx p m c cc nL s args own E B) (hX : va_X b L xs s s.heap) (hbl : b < s.heap.size) (hbB : b < B) (hH : rg_H E B n R M s H locs) (hj : j < L ∧ L ≤ 2560) (hdg : decode cc pc = .ok (.iaload, 1))
    (kk : W p l e Rm s m args below meth c H locs cells slots Q (F0 m (pc + 1) ls (.int (xs j) :: rest))) : W p l e Rm s m args below meth c H locs cells slots Q (F0 m pc ls (.int (nI j) :: .ref b :: rest)) := by
  have hc : (nI j).toNatClampNeg = j := nI_clamp (by omega)
  exact va_sld C0.1.1 C0.1.2.1 hX hbl (A := rg_A B) (by show ¬ B ≤ b; omega) hH.2 (vp_in_nI hj.1 (by omega)) hdg (by rw [hc]; exact kk)
theorem rg_slen {p : Program} {l : Launch} {e : Env} {Rm : Room} {s : State} {m : MethodId} {args : Array Value} {below : List Frame} {meth : Method} {c : Code} {H : Heap} {locs : List Loc} {cells slots : Nat} {Q : State → Prop} {cc : ByteArray} {pc nL : Nat} {ls : Array Slot} {rest : List Value} {own : String} {E : rg_Env} {B n : Nat} {R : rg_Rfs} {M : rg_Mem} {b L : Nat} {xs : Nat → Int32} (C0 : rg_Cx p m c cc nL s args own E B) (hX : va_X b L xs s s.heap) (hbl : b < s.heap.size) (hbB : b < B) (hH : rg_H E B n R M s H locs) (hdg : decode cc pc = .ok (.arraylength, 1))
    (kk : W p l e Rm s m args below meth c H locs cells slots Q (F0 m (pc + 1) ls (.int (nI L) :: rest))) : W p l e Rm s m args below meth c H locs cells slots Q (F0 m pc ls (.ref b :: rest)) :=
  va_slen C0.1.1 C0.1.2.1 hX hbl (A := rg_A B) (by show ¬ B ≤ b; omega) hH.2 hdg kk
set_option maxHeartbeats 4000000 in
set_option maxRecDepth 100000 in
theorem law_word {p : Program} {l : Launch} {e : Env} {s : State} {m : MethodId} {args : Array Value} {below : List Frame} {meth : Method} {c : Code} {H : Heap} {locs : List Loc} {cells slots : Nat} {Q : State → Prop} {ls : Array Slot} {E : rg_Env} {B : Nat} {M : rg_Mem} {b L i : Nat} {xs : Nat → Int32} (hst : l.stackTraces = false) (C0 : rg_Cx p m c cL_law 7 s args "RengaHallLaw" E B) (hX : va_X b L xs s s.heap) (hbl : b < s.heap.size) (hbB : b < B) (hL : L ≤ 2560) (hi : i + 5 ≤ L) (h : rg_Inv M) (hH : rg_H E B 433 rg_R0 M s H locs) (hl : lv_has ls 7 [(0, .ref b), (1, .ref (B + 0)), (2, .ref (B + 412)), (3, .ref (B + 432)), (4, .int (nI i))]) (hc : cells + 6 ≤ 601024 ∧ slots + 36 ≤ 7293033)
    (kk : ∀ (M1 : rg_Mem) (H1 : Heap) (locs1 : List Loc) (ls1 : Array Slot), rg_Inv M1 → rg_H E B 433 rg_R0 M1 s H1 locs1 → lv_has ls1 7 [(0, .ref b), (1, .ref (B + 0)), (2, .ref (B + 412)), (3, .ref (B + 432)), (4, .int (nI i))] → W p l e room_1 s m args below meth c H1 locs1 (cells + 6) (slots + 36) Q (F0 m 1539 ls1 [])) : W p l e room_1 s m args below meth c H locs cells slots Q (F0 m 152 ls []) := by
  have hx := C0.1.1
  have hb := C0.1.2.1
  refine lv_aload_n hx hb dL_law_152 rfl (lv_at hl 1 rfl) ?_
  refine lv_aload_n hx hb dL_law_153 rfl (lv_at hl 0 rfl) ?_
  refine lv_iload hx hb dL_law_154 (lv_at hl 4 rfl) ?_
  refine lv_iconst (v := 1) hx hb dL_law_156 (by decide) ?_
  refine lv_iadd hx hb dL_law_157 ?_
  refine rg_topi (y := nI (i + 1)) (by exact nI_add i 1) ?_
  refine rg_sld C0 hX hbl hbB hH (j := i + 1) ⟨by omega, hL⟩ dL_law_158 ?_
  refine lv_aload_n hx hb dL_law_159 rfl (lv_at hl 0 rfl) ?_
  refine lv_iload hx hb dL_law_160 (lv_at hl 4 rfl) ?_
  refine lv_iconst (v := 2) hx hb dL_law_162 (by decide) ?_
  refine lv_iadd hx hb dL_law_163 ?_
  refine rg_topi (y := nI (i + 2)) (by exact nI_add i 2) ?_
  refine rg_sld C0 hX hbl hbB hH (j := i + 2) ⟨by omega, hL⟩ dL_law_164 ?_
  refine lv_aload_n hx hb dL_law_165 rfl (lv_at hl 0 rfl) ?_
  refine lv_iload hx hb dL_law_166 (lv_at hl 4 rfl) ?_
  refine lv_iconst (v := 3) hx hb dL_law_168 (by decide) ?_
  refine lv_iadd hx hb dL_law_169 ?_
  refine rg_topi (y := nI (i + 3)) (by exact nI_add i 3) ?_
  refine rg_sld C0 hX hbl hbB hH (j := i + 3) ⟨by omega, hL⟩ dL_law_170 ?_
  refine lv_aload_n hx hb dL_law_171 rfl (lv_at hl 3 rfl) ?_
  refine rg_callSWi C0 hH (As := [.ref (B + 0), .int (xs (i + 1)), .int (xs (i + 2)), .int (xs (i + 3)), .ref (B + 432)]) (rest := []) (k_L_word l hst E B M (xs (i + 1)) (xs (i + 2)) (xs (i + 3)) (rg_Inv_ci h)) (rg_cwSW (hh := [(0, 12, 15, 13), (0, 12, 19, 15)]) 5 C0.1.2.2.2.2 tw_m_L_87 tw_s_L_word tw_n_L tw_c_L_word rfl rfl hd_L_word ⟨Nat.le_of_ble_eq_true rfl, Nat.le_of_ble_eq_true rfl⟩) rfl hl.1 rfl (Nat.le_of_ble_eq_true rfl) dL_law_172 ⟨by show _ ≤ (601024 : Nat); omega, by show _ ≤ (7293033 : Nat); omega⟩ (fun k9 Mw H locs e1 hH => ?_)
  have hC := pre_word h e1
  refine lv_istore (lv' := [(5, .int k9), (0, .ref b), (1, .ref (B + 0)), (2, .ref (B + 412)), (3, .ref (B + 432)), (4, .int (nI i))]) hx hb dL_law_175 hl (by decide) rfl (fun ls hl => ?_)
  refine lv_aload_n hx hb dL_law_177 rfl (lv_at hl 3 rfl) ?_
  refine lv_aload_n hx hb dL_law_178 rfl (lv_at hl 1 rfl) ?_
  refine lv_iload hx hb dL_law_179 (lv_at hl 5 rfl) ?_
  refine lv_iconst (v := 1) hx hb dL_law_181 (by decide) ?_
  refine lv_iadd hx hb dL_law_182 ?_
  refine rg_topi (y := nI (i + 1)) (by exact nI_add i 1) ?_
  refine rg_sld C0 hX hbl hbB hH (j := i + 1) ⟨by omega, hL⟩ dL_law_183 ?_
  refine lv_aload_n hx hb dL_law_184 rfl (lv_at hl 1 rfl) ?_
  refine lv_iload hx hb dL_law_185 (lv_at hl 5 rfl) ?_
  refine lv_iconst (v := 2) hx hb dL_law_187 (by decide) ?_
  refine lv_iadd hx hb dL_law_188 ?_
  refine rg_topi (y := nI (i + 2)) (by exact nI_add i 2) ?_
  refine rg_sld C0 hX hbl hbB hH (j := i + 2) ⟨by omega, hL⟩ dL_law_189 ?_
  refine lv_aload_n hx hb dL_law_190 rfl (lv_at hl 1 rfl) ?_
  refine lv_iload hx hb dL_law_191 (lv_at hl 5 rfl) ?_
  refine lv_iconst (v := 3) hx hb dL_law_193 (by decide) ?_
  refine lv_iadd hx hb dL_law_194 ?_
  refine rg_topi (y := nI (i + 3)) (by exact nI_add i 3) ?_
  refine rg_sld C0 hX hbl hbB hH (j := i + 3) ⟨by omega, hL⟩ dL_law_195 ?_
  refine rg_callWi C0 hH (As := [.int (xs (i + 1)), .int (xs (i + 2)), .int (xs (i + 3))]) (rest := []) (o := 412) (ci := 7) (k_X7_word l E B Mw (xs (i + 1)) (xs (i + 2)) (xs (i + 3)) hC) (rg_cw 3 C0.1.2.2.2.2 tw_m_L_92 tw_i_X7_word tw_v_X7_word tw_n_X7 tw_c_X7_word rfl rfl hd_X7_word ⟨Nat.le_of_ble_eq_true rfl, Nat.le_of_ble_eq_true rfl⟩) rfl (by decide) rfl (by decide) rfl hl.1 rfl (Nat.le_of_ble_eq_true rfl) dL_law_196 ⟨by show _ ≤ (601024 : Nat); omega, by show _ ≤ (7293033 : Nat); omega⟩ (fun r9 Mz H locs e2 hH => ?_)
  have hs := sim_word h e1 e2
  refine lv_istore (lv' := [(6, .int r9), (5, .int k9), (0, .ref b), (1, .ref (B + 0)), (2, .ref (B + 412)), (3, .ref (B + 432)), (4, .int (nI i))]) hx hb dL_law_199 hl (by decide) rfl (fun ls hl => ?_)
  refine lv_aload_n hx hb dL_law_201 rfl (lv_at hl 4 rfl) ?_
  refine rg_callGi C0 hH (As := []) (rest := []) (o := 412) (ci := 7) (k_X7_thrown l E B Mz) (rg_cw 0 C0.1.2.2.2.2 tw_m_L_93 tw_i_X7_thrown tw_v_X7_thrown tw_n_X7 tw_c_X7_thrown rfl rfl hd_X7_thrown ⟨Nat.le_of_ble_eq_true rfl, Nat.le_of_ble_eq_true rfl⟩) rfl (by decide) rfl (by decide) rfl hl.1 rfl (Nat.le_of_ble_eq_true rfl) dL_law_202 ⟨by show _ ≤ (601024 : Nat); omega, by show _ ≤ (7293033 : Nat); omega⟩ (fun H locs hH => ?_)
  refine lv_iload hx hb dL_law_205 (lv_at hl 1 rfl) ?_
  refine lv_icmp_eq (tgt := 212) hx hb dL_law_207 (by decide) (fun c_207 => ?_) (fun c_207 => ?_)
  · refine lv_iload hx hb dL_law_212 (lv_at hl 1 rfl) ?_
    refine lv_if_ne (tgt := 229) hx hb dL_law_214 (by decide) (fun c_214 => ?_) (fun c_214 => ?_)
    · refine lv_goto (tgt := 1539) hx hb dL_law_229 (by decide) ?_
      refine W.widen (k := cells + 6) (n := slots + 36) (by omega) (by omega) ?_
      exact kk _ _ _ _ hs.2.2 hH (lv_sub hl [2, 3, 4, 5, 6] rfl)
    · refine lv_aload_n hx hb dL_law_217 rfl (lv_at hl 5 rfl) ?_
      refine lv_iconst (v := 0) hx hb dL_law_218 (by decide) ?_
      refine rg_lald C0 hH (o := 432) (by decide) rfl (rg_vin rfl (by exact (vp_in_nI (Nat.zero_lt_one) (by omega) : vp_in (nI 0) 1))) dL_law_219 ?_
      refine rg_topl (y := Mz.2 432 0) (by exact rfl) ?_
      refine lv_iload hx hb dL_law_220 (lv_at hl 0 rfl) ?_
      refine lv_i2l hx hb dL_law_222 rfl ?_
      refine W.lcmp hx hb dL_law_223 ?_
      refine lv_if_eq (tgt := 229) hx hb dL_law_224 (by decide) (fun c_224 => ?_) (fun c_224 => ?_)
      · refine lv_goto (tgt := 1539) hx hb dL_law_229 (by decide) ?_
        refine W.widen (k := cells + 6) (n := slots + 36) (by omega) (by omega) ?_
        exact kk _ _ _ _ hs.2.2 hH (lv_sub hl [2, 3, 4, 5, 6] rfl)
      · exact absurd (rg_cmp0.mpr (hs.2.1 c_214)) c_224
  · exact absurd hs.1 c_207
set_option maxHeartbeats 4000000 in
set_option maxRecDepth 100000 in
theorem law_call {p : Program} {l : Launch} {e : Env} {s : State} {m : MethodId} {args : Array Value} {below : List Frame} {meth : Method} {c : Code} {H : Heap} {locs : List Loc} {cells slots : Nat} {Q : State → Prop} {ls : Array Slot} {E : rg_Env} {B : Nat} {M : rg_Mem} {b L i : Nat} {xs : Nat → Int32} (hst : l.stackTraces = false) (C0 : rg_Cx p m c cL_law 7 s args "RengaHallLaw" E B) (hX : va_X b L xs s s.heap) (hbl : b < s.heap.size) (hbB : b < B) (hL : L ≤ 2560) (hi : i + 5 ≤ L) (h : rg_Inv M) (hH : rg_H E B 433 rg_R0 M s H locs) (hl : lv_has ls 7 [(0, .ref b), (1, .ref (B + 0)), (2, .ref (B + 412)), (3, .ref (B + 432)), (4, .int (nI i))]) (hc : cells + 6 ≤ 601024 ∧ slots + 36 ≤ 7293033)
    (kk : ∀ (M1 : rg_Mem) (H1 : Heap) (locs1 : List Loc) (ls1 : Array Slot), rg_Inv M1 → rg_H E B 433 rg_R0 M1 s H1 locs1 → lv_has ls1 7 [(0, .ref b), (1, .ref (B + 0)), (2, .ref (B + 412)), (3, .ref (B + 432)), (4, .int (nI i))] → W p l e room_1 s m args below meth c H1 locs1 (cells + 6) (slots + 36) Q (F0 m 1539 ls1 [])) : W p l e room_1 s m args below meth c H locs cells slots Q (F0 m 232 ls []) := by
  have hx := C0.1.1
  have hb := C0.1.2.1
  refine lv_aload_n hx hb dL_law_232 rfl (lv_at hl 1 rfl) ?_
  refine lv_aload_n hx hb dL_law_233 rfl (lv_at hl 0 rfl) ?_
  refine lv_iload hx hb dL_law_234 (lv_at hl 4 rfl) ?_
  refine lv_iconst (v := 1) hx hb dL_law_236 (by decide) ?_
  refine lv_iadd hx hb dL_law_237 ?_
  refine rg_topi (y := nI (i + 1)) (by exact nI_add i 1) ?_
  refine rg_sld C0 hX hbl hbB hH (j := i + 1) ⟨by omega, hL⟩ dL_law_238 ?_
  refine lv_aload_n hx hb dL_law_239 rfl (lv_at hl 0 rfl) ?_
  refine lv_iload hx hb dL_law_240 (lv_at hl 4 rfl) ?_
  refine lv_iconst (v := 2) hx hb dL_law_242 (by decide) ?_
  refine lv_iadd hx hb dL_law_243 ?_
  refine rg_topi (y := nI (i + 2)) (by exact nI_add i 2) ?_
  refine rg_sld C0 hX hbl hbB hH (j := i + 2) ⟨by omega, hL⟩ dL_law_244 ?_
  refine lv_aload_n hx hb dL_law_245 rfl (lv_at hl 3 rfl) ?_
  refine rg_callSWi C0 hH (As := [.ref (B + 0), .int (xs (i + 1)), .int (xs (i + 2)), .ref (B + 432)]) (rest := []) (k_L_call l hst E B M (xs (i + 1)) (xs (i + 2)) (rg_Inv_ci h)) (rg_cwSW (hh := [(0, 17, 20, 21), (0, 17, 24, 13)]) 4 C0.1.2.2.2.2 tw_m_L_96 tw_s_L_call tw_n_L tw_c_L_call rfl rfl hd_L_call ⟨Nat.le_of_ble_eq_true rfl, Nat.le_of_ble_eq_true rfl⟩) rfl hl.1 rfl (Nat.le_of_ble_eq_true rfl) dL_law_246 ⟨by show _ ≤ (601024 : Nat); omega, by show _ ≤ (7293033 : Nat); omega⟩ (fun k9 Mw H locs e1 hH => ?_)
  have hC := pre_call h e1
  refine lv_istore (lv' := [(5, .int k9), (0, .ref b), (1, .ref (B + 0)), (2, .ref (B + 412)), (3, .ref (B + 432)), (4, .int (nI i))]) hx hb dL_law_249 hl (by decide) rfl (fun ls hl => ?_)
  refine lv_aload_n hx hb dL_law_251 rfl (lv_at hl 3 rfl) ?_
  refine lv_aload_n hx hb dL_law_252 rfl (lv_at hl 1 rfl) ?_
  refine lv_iload hx hb dL_law_253 (lv_at hl 5 rfl) ?_
  refine lv_iconst (v := 1) hx hb dL_law_255 (by decide) ?_
  refine lv_iadd hx hb dL_law_256 ?_
  refine rg_topi (y := nI (i + 1)) (by exact nI_add i 1) ?_
  refine rg_sld C0 hX hbl hbB hH (j := i + 1) ⟨by omega, hL⟩ dL_law_257 ?_
  refine lv_aload_n hx hb dL_law_258 rfl (lv_at hl 1 rfl) ?_
  refine lv_iload hx hb dL_law_259 (lv_at hl 5 rfl) ?_
  refine lv_iconst (v := 2) hx hb dL_law_261 (by decide) ?_
  refine lv_iadd hx hb dL_law_262 ?_
  refine rg_topi (y := nI (i + 2)) (by exact nI_add i 2) ?_
  refine rg_sld C0 hX hbl hbB hH (j := i + 2) ⟨by omega, hL⟩ dL_law_263 ?_
  refine rg_callWi C0 hH (As := [.int (xs (i + 1)), .int (xs (i + 2))]) (rest := []) (o := 412) (ci := 7) (k_X7_call l E B Mw (xs (i + 1)) (xs (i + 2)) hC) (rg_cw 2 C0.1.2.2.2.2 tw_m_L_99 tw_i_X7_call tw_v_X7_call tw_n_X7 tw_c_X7_call rfl rfl hd_X7_call ⟨Nat.le_of_ble_eq_true rfl, Nat.le_of_ble_eq_true rfl⟩) rfl (by decide) rfl (by decide) rfl hl.1 rfl (Nat.le_of_ble_eq_true rfl) dL_law_264 ⟨by show _ ≤ (601024 : Nat); omega, by show _ ≤ (7293033 : Nat); omega⟩ (fun r9 Mz H locs e2 hH => ?_)
  have hs := sim_call h e1 e2
  refine lv_istore (lv' := [(6, .int r9), (5, .int k9), (0, .ref b), (1, .ref (B + 0)), (2, .ref (B + 412)), (3, .ref (B + 432)), (4, .int (nI i))]) hx hb dL_law_267 hl (by decide) rfl (fun ls hl => ?_)
  refine lv_aload_n hx hb dL_law_269 rfl (lv_at hl 4 rfl) ?_
  refine rg_callGi C0 hH (As := []) (rest := []) (o := 412) (ci := 7) (k_X7_thrown l E B Mz) (rg_cw 0 C0.1.2.2.2.2 tw_m_L_93 tw_i_X7_thrown tw_v_X7_thrown tw_n_X7 tw_c_X7_thrown rfl rfl hd_X7_thrown ⟨Nat.le_of_ble_eq_true rfl, Nat.le_of_ble_eq_true rfl⟩) rfl (by decide) rfl (by decide) rfl hl.1 rfl (Nat.le_of_ble_eq_true rfl) dL_law_270 ⟨by show _ ≤ (601024 : Nat); omega, by show _ ≤ (7293033 : Nat); omega⟩ (fun H locs hH => ?_)
  refine lv_iload hx hb dL_law_273 (lv_at hl 1 rfl) ?_
  refine lv_icmp_eq (tgt := 280) hx hb dL_law_275 (by decide) (fun c_275 => ?_) (fun c_275 => ?_)
  · refine lv_iload hx hb dL_law_280 (lv_at hl 1 rfl) ?_
    refine lv_if_ne (tgt := 304) hx hb dL_law_282 (by decide) (fun c_282 => ?_) (fun c_282 => ?_)
    · refine lv_goto (tgt := 1539) hx hb dL_law_304 (by decide) ?_
      refine W.widen (k := cells + 6) (n := slots + 36) (by omega) (by omega) ?_
      exact kk _ _ _ _ hs.2.2 hH (lv_sub hl [2, 3, 4, 5, 6] rfl)
    · refine lv_aload_n hx hb dL_law_285 rfl (lv_at hl 5 rfl) ?_
      refine lv_iconst (v := 0) hx hb dL_law_286 (by decide) ?_
      refine rg_lald C0 hH (o := 432) (by decide) rfl (rg_vin rfl (by exact (vp_in_nI (Nat.zero_lt_one) (by omega) : vp_in (nI 0) 1))) dL_law_287 ?_
      refine rg_topl (y := Mz.2 432 0) (by exact rfl) ?_
      refine lv_iload hx hb dL_law_288 (lv_at hl 0 rfl) ?_
      refine lv_if_eq (tgt := 297) hx hb dL_law_290 (by decide) (fun c_290 => ?_) (fun c_290 => ?_)
      · refine lv_lconst (v := 0) hx hb dL_law_297 (by decide) ?_
        refine W.lcmp hx hb dL_law_298 ?_
        refine lv_if_eq (tgt := 304) hx hb dL_law_299 (by decide) (fun c_299 => ?_) (fun c_299 => ?_)
        · refine lv_goto (tgt := 1539) hx hb dL_law_304 (by decide) ?_
          refine W.widen (k := cells + 6) (n := slots + 36) (by omega) (by omega) ?_
          exact kk _ _ _ _ hs.2.2 hH (lv_sub hl [2, 3, 4, 5, 6] rfl)
        · exact absurd (rg_cmp0.mpr ((hs.2.1 c_282).trans (by rw [if_pos c_290]))) c_299
      · refine lv_lconst (v := 1) hx hb dL_law_293 (by decide) ?_
        refine lv_goto (tgt := 298) hx hb dL_law_294 (by decide) ?_
        refine W.lcmp hx hb dL_law_298 ?_
        refine lv_if_eq (tgt := 304) hx hb dL_law_299 (by decide) (fun c_299 => ?_) (fun c_299 => ?_)
        · refine lv_goto (tgt := 1539) hx hb dL_law_304 (by decide) ?_
          refine W.widen (k := cells + 6) (n := slots + 36) (by omega) (by omega) ?_
          exact kk _ _ _ _ hs.2.2 hH (lv_sub hl [2, 3, 4, 5, 6] rfl)
        · exact absurd (rg_cmp0.mpr ((hs.2.1 c_282).trans (by rw [if_neg c_290]))) c_299
  · exact absurd hs.1 c_275
set_option maxHeartbeats 4000000 in
set_option maxRecDepth 100000 in
theorem law_poet {p : Program} {l : Launch} {e : Env} {s : State} {m : MethodId} {args : Array Value} {below : List Frame} {meth : Method} {c : Code} {H : Heap} {locs : List Loc} {cells slots : Nat} {Q : State → Prop} {ls : Array Slot} {E : rg_Env} {B : Nat} {M : rg_Mem} {b L i : Nat} {xs : Nat → Int32} (hst : l.stackTraces = false) (C0 : rg_Cx p m c cL_law 7 s args "RengaHallLaw" E B) (hX : va_X b L xs s s.heap) (hbl : b < s.heap.size) (hbB : b < B) (hL : L ≤ 2560) (hi : i + 5 ≤ L) (h : rg_Inv M) (hH : rg_H E B 433 rg_R0 M s H locs) (hl : lv_has ls 7 [(0, .ref b), (1, .ref (B + 0)), (2, .ref (B + 412)), (3, .ref (B + 432)), (4, .int (nI i))]) (hc : cells + 6 ≤ 601024 ∧ slots + 36 ≤ 7293033)
    (kk : ∀ (M1 : rg_Mem) (H1 : Heap) (locs1 : List Loc) (ls1 : Array Slot), rg_Inv M1 → rg_H E B 433 rg_R0 M1 s H1 locs1 → lv_has ls1 7 [(0, .ref b), (1, .ref (B + 0)), (2, .ref (B + 412)), (3, .ref (B + 432)), (4, .int (nI i))] → W p l e room_1 s m args below meth c H1 locs1 (cells + 6) (slots + 36) Q (F0 m 1539 ls1 [])) : W p l e room_1 s m args below meth c H locs cells slots Q (F0 m 307 ls []) := by
  have hx := C0.1.1
  have hb := C0.1.2.1
  refine lv_aload_n hx hb dL_law_307 rfl (lv_at hl 1 rfl) ?_
  refine lv_aload_n hx hb dL_law_308 rfl (lv_at hl 3 rfl) ?_
  refine rg_callSWi C0 hH (As := [.ref (B + 0), .ref (B + 432)]) (rest := []) (k_L_poet l hst E B M (rg_Inv_ci h)) (rg_cwSW (hh := [(0, 8, 11, 15)]) 2 C0.1.2.2.2.2 tw_m_L_100 tw_s_L_poet tw_n_L tw_c_L_poet rfl rfl hd_L_poet ⟨Nat.le_of_ble_eq_true rfl, Nat.le_of_ble_eq_true rfl⟩) rfl hl.1 rfl (Nat.le_of_ble_eq_true rfl) dL_law_309 ⟨by show _ ≤ (601024 : Nat); omega, by show _ ≤ (7293033 : Nat); omega⟩ (fun k9 Mw H locs e1 hH => ?_)
  have hC := pre_poet h e1
  refine lv_istore (lv' := [(5, .int k9), (0, .ref b), (1, .ref (B + 0)), (2, .ref (B + 412)), (3, .ref (B + 432)), (4, .int (nI i))]) hx hb dL_law_312 hl (by decide) rfl (fun ls hl => ?_)
  refine lv_aload_n hx hb dL_law_314 rfl (lv_at hl 3 rfl) ?_
  refine rg_callWi C0 hH (As := []) (rest := []) (o := 412) (ci := 7) (k_X7_poet l E B Mw hC) (rg_cw 0 C0.1.2.2.2.2 tw_m_L_103 tw_i_X7_poet tw_v_X7_poet tw_n_X7 tw_c_X7_poet rfl rfl hd_X7_poet ⟨Nat.le_of_ble_eq_true rfl, Nat.le_of_ble_eq_true rfl⟩) rfl (by decide) rfl (by decide) rfl hl.1 rfl (Nat.le_of_ble_eq_true rfl) dL_law_315 ⟨by show _ ≤ (601024 : Nat); omega, by show _ ≤ (7293033 : Nat); omega⟩ (fun r9 Mz H locs e2 hH => ?_)
  have hs := sim_poet h e1 e2
  refine lv_istore (lv' := [(6, .int r9), (5, .int k9), (0, .ref b), (1, .ref (B + 0)), (2, .ref (B + 412)), (3, .ref (B + 432)), (4, .int (nI i))]) hx hb dL_law_318 hl (by decide) rfl (fun ls hl => ?_)
  refine lv_aload_n hx hb dL_law_320 rfl (lv_at hl 4 rfl) ?_
  refine rg_callGi C0 hH (As := []) (rest := []) (o := 412) (ci := 7) (k_X7_thrown l E B Mz) (rg_cw 0 C0.1.2.2.2.2 tw_m_L_93 tw_i_X7_thrown tw_v_X7_thrown tw_n_X7 tw_c_X7_thrown rfl rfl hd_X7_thrown ⟨Nat.le_of_ble_eq_true rfl, Nat.le_of_ble_eq_true rfl⟩) rfl (by decide) rfl (by decide) rfl hl.1 rfl (Nat.le_of_ble_eq_true rfl) dL_law_321 ⟨by show _ ≤ (601024 : Nat); omega, by show _ ≤ (7293033 : Nat); omega⟩ (fun H locs hH => ?_)
  refine lv_iload hx hb dL_law_324 (lv_at hl 1 rfl) ?_
  refine lv_icmp_eq (tgt := 331) hx hb dL_law_326 (by decide) (fun c_326 => ?_) (fun c_326 => ?_)
  · refine lv_iload hx hb dL_law_331 (lv_at hl 1 rfl) ?_
    refine lv_if_ne (tgt := 348) hx hb dL_law_333 (by decide) (fun c_333 => ?_) (fun c_333 => ?_)
    · refine lv_goto (tgt := 1539) hx hb dL_law_348 (by decide) ?_
      refine W.widen (k := cells + 6) (n := slots + 36) (by omega) (by omega) ?_
      exact kk _ _ _ _ hs.2.2 hH (lv_sub hl [2, 3, 4, 5, 6] rfl)
    · refine lv_aload_n hx hb dL_law_336 rfl (lv_at hl 5 rfl) ?_
      refine lv_iconst (v := 0) hx hb dL_law_337 (by decide) ?_
      refine rg_lald C0 hH (o := 432) (by decide) rfl (rg_vin rfl (by exact (vp_in_nI (Nat.zero_lt_one) (by omega) : vp_in (nI 0) 1))) dL_law_338 ?_
      refine rg_topl (y := Mz.2 432 0) (by exact rfl) ?_
      refine lv_iload hx hb dL_law_339 (lv_at hl 0 rfl) ?_
      refine lv_i2l hx hb dL_law_341 rfl ?_
      refine W.lcmp hx hb dL_law_342 ?_
      refine lv_if_eq (tgt := 348) hx hb dL_law_343 (by decide) (fun c_343 => ?_) (fun c_343 => ?_)
      · refine lv_goto (tgt := 1539) hx hb dL_law_348 (by decide) ?_
        refine W.widen (k := cells + 6) (n := slots + 36) (by omega) (by omega) ?_
        exact kk _ _ _ _ hs.2.2 hH (lv_sub hl [2, 3, 4, 5, 6] rfl)
      · exact absurd (rg_cmp0.mpr (hs.2.1 c_333)) c_343
  · exact absurd hs.1 c_326
set_option maxHeartbeats 4000000 in
set_option maxRecDepth 100000 in
theorem law_begin {p : Program} {l : Launch} {e : Env} {s : State} {m : MethodId} {args : Array Value} {below : List Frame} {meth : Method} {c : Code} {H : Heap} {locs : List Loc} {cells slots : Nat} {Q : State → Prop} {ls : Array Slot} {E : rg_Env} {B : Nat} {M : rg_Mem} {b L i : Nat} {xs : Nat → Int32} (hst : l.stackTraces = false) (C0 : rg_Cx p m c cL_law 7 s args "RengaHallLaw" E B) (hX : va_X b L xs s s.heap) (hbl : b < s.heap.size) (hbB : b < B) (hL : L ≤ 2560) (hi : i + 5 ≤ L) (h : rg_Inv M) (hH : rg_H E B 433 rg_R0 M s H locs) (hl : lv_has ls 7 [(0, .ref b), (1, .ref (B + 0)), (2, .ref (B + 412)), (3, .ref (B + 432)), (4, .int (nI i))]) (hc : cells + 6 ≤ 601024 ∧ slots + 36 ≤ 7293033)
    (kk : ∀ (M1 : rg_Mem) (H1 : Heap) (locs1 : List Loc) (ls1 : Array Slot), rg_Inv M1 → rg_H E B 433 rg_R0 M1 s H1 locs1 → lv_has ls1 7 [(0, .ref b), (1, .ref (B + 0)), (2, .ref (B + 412)), (3, .ref (B + 432)), (4, .int (nI i))] → W p l e room_1 s m args below meth c H1 locs1 (cells + 6) (slots + 36) Q (F0 m 1539 ls1 [])) : W p l e room_1 s m args below meth c H locs cells slots Q (F0 m 351 ls []) := by
  have hx := C0.1.1
  have hb := C0.1.2.1
  refine lv_aload_n hx hb dL_law_351 rfl (lv_at hl 1 rfl) ?_
  refine lv_aload_n hx hb dL_law_352 rfl (lv_at hl 0 rfl) ?_
  refine lv_iload hx hb dL_law_353 (lv_at hl 4 rfl) ?_
  refine lv_iconst (v := 1) hx hb dL_law_355 (by decide) ?_
  refine lv_iadd hx hb dL_law_356 ?_
  refine rg_topi (y := nI (i + 1)) (by exact nI_add i 1) ?_
  refine rg_sld C0 hX hbl hbB hH (j := i + 1) ⟨by omega, hL⟩ dL_law_357 ?_
  refine lv_aload_n hx hb dL_law_358 rfl (lv_at hl 0 rfl) ?_
  refine lv_iload hx hb dL_law_359 (lv_at hl 4 rfl) ?_
  refine lv_iconst (v := 2) hx hb dL_law_361 (by decide) ?_
  refine lv_iadd hx hb dL_law_362 ?_
  refine rg_topi (y := nI (i + 2)) (by exact nI_add i 2) ?_
  refine rg_sld C0 hX hbl hbB hH (j := i + 2) ⟨by omega, hL⟩ dL_law_363 ?_
  refine lv_aload_n hx hb dL_law_364 rfl (lv_at hl 0 rfl) ?_
  refine lv_iload hx hb dL_law_365 (lv_at hl 4 rfl) ?_
  refine lv_iconst (v := 3) hx hb dL_law_367 (by decide) ?_
  refine lv_iadd hx hb dL_law_368 ?_
  refine rg_topi (y := nI (i + 3)) (by exact nI_add i 3) ?_
  refine rg_sld C0 hX hbl hbB hH (j := i + 3) ⟨by omega, hL⟩ dL_law_369 ?_
  refine lv_aload_n hx hb dL_law_370 rfl (lv_at hl 0 rfl) ?_
  refine lv_iload hx hb dL_law_371 (lv_at hl 4 rfl) ?_
  refine lv_iconst (v := 4) hx hb dL_law_373 (by decide) ?_
  refine lv_iadd hx hb dL_law_374 ?_
  refine rg_topi (y := nI (i + 4)) (by exact nI_add i 4) ?_
  refine rg_sld C0 hX hbl hbB hH (j := i + 4) ⟨by omega, hL⟩ dL_law_375 ?_
  refine rg_callSWi C0 hH (As := [.ref (B + 0), .int (xs (i + 1)), .int (xs (i + 2)), .int (xs (i + 3)), .int (xs (i + 4))]) (rest := []) (k_L_begin l hst E B M (xs (i + 1)) (xs (i + 2)) (xs (i + 3)) (xs (i + 4))) (rg_cwSW (hh := [(0, 9, 12, 13), (0, 9, 16, 15)]) 5 C0.1.2.2.2.2 tw_m_L_104 tw_s_L_begin tw_n_L tw_c_L_begin rfl rfl hd_L_begin ⟨Nat.le_of_ble_eq_true rfl, Nat.le_of_ble_eq_true rfl⟩) rfl hl.1 rfl (Nat.le_of_ble_eq_true rfl) dL_law_376 ⟨by show _ ≤ (601024 : Nat); omega, by show _ ≤ (7293033 : Nat); omega⟩ (fun k9 Mw H locs e1 hH => ?_)
  have hC := pre_begin h e1
  refine lv_istore (lv' := [(5, .int k9), (0, .ref b), (1, .ref (B + 0)), (2, .ref (B + 412)), (3, .ref (B + 432)), (4, .int (nI i))]) hx hb dL_law_379 hl (by decide) rfl (fun ls hl => ?_)
  refine lv_aload_n hx hb dL_law_381 rfl (lv_at hl 3 rfl) ?_
  refine lv_aload_n hx hb dL_law_382 rfl (lv_at hl 1 rfl) ?_
  refine lv_iload hx hb dL_law_383 (lv_at hl 5 rfl) ?_
  refine lv_iconst (v := 1) hx hb dL_law_385 (by decide) ?_
  refine lv_iadd hx hb dL_law_386 ?_
  refine rg_topi (y := nI (i + 1)) (by exact nI_add i 1) ?_
  refine rg_sld C0 hX hbl hbB hH (j := i + 1) ⟨by omega, hL⟩ dL_law_387 ?_
  refine lv_aload_n hx hb dL_law_388 rfl (lv_at hl 1 rfl) ?_
  refine lv_iload hx hb dL_law_389 (lv_at hl 5 rfl) ?_
  refine lv_iconst (v := 2) hx hb dL_law_391 (by decide) ?_
  refine lv_iadd hx hb dL_law_392 ?_
  refine rg_topi (y := nI (i + 2)) (by exact nI_add i 2) ?_
  refine rg_sld C0 hX hbl hbB hH (j := i + 2) ⟨by omega, hL⟩ dL_law_393 ?_
  refine lv_aload_n hx hb dL_law_394 rfl (lv_at hl 1 rfl) ?_
  refine lv_iload hx hb dL_law_395 (lv_at hl 5 rfl) ?_
  refine lv_iconst (v := 3) hx hb dL_law_397 (by decide) ?_
  refine lv_iadd hx hb dL_law_398 ?_
  refine rg_topi (y := nI (i + 3)) (by exact nI_add i 3) ?_
  refine rg_sld C0 hX hbl hbB hH (j := i + 3) ⟨by omega, hL⟩ dL_law_399 ?_
  refine lv_aload_n hx hb dL_law_400 rfl (lv_at hl 1 rfl) ?_
  refine lv_iload hx hb dL_law_401 (lv_at hl 5 rfl) ?_
  refine lv_iconst (v := 4) hx hb dL_law_403 (by decide) ?_
  refine lv_iadd hx hb dL_law_404 ?_
  refine rg_topi (y := nI (i + 4)) (by exact nI_add i 4) ?_
  refine rg_sld C0 hX hbl hbB hH (j := i + 4) ⟨by omega, hL⟩ dL_law_405 ?_
  refine rg_callWv C0 hH (As := [.int (xs (i + 1)), .int (xs (i + 2)), .int (xs (i + 3)), .int (xs (i + 4))]) (rest := []) (o := 412) (ci := 7) (k_X7_begin l E B Mw (xs (i + 1)) (xs (i + 2)) (xs (i + 3)) (xs (i + 4)) hC) (rg_cw 4 C0.1.2.2.2.2 tw_m_L_107 tw_i_X7_begin tw_v_X7_begin tw_n_X7 tw_c_X7_begin rfl rfl hd_X7_begin ⟨Nat.le_of_ble_eq_true rfl, Nat.le_of_ble_eq_true rfl⟩) rfl (by decide) rfl (by decide) rfl hl.1 rfl (Nat.le_of_ble_eq_true rfl) dL_law_406 ⟨by show _ ≤ (601024 : Nat); omega, by show _ ≤ (7293033 : Nat); omega⟩ (fun Mz H locs e2 hH => ?_)
  have hs := sim_begin h e1 e2
  refine lv_aload_n hx hb dL_law_409 rfl (lv_at hl 3 rfl) ?_
  refine rg_callGi C0 hH (As := []) (rest := []) (o := 412) (ci := 7) (k_X7_thrown l E B Mz) (rg_cw 0 C0.1.2.2.2.2 tw_m_L_93 tw_i_X7_thrown tw_v_X7_thrown tw_n_X7 tw_c_X7_thrown rfl rfl hd_X7_thrown ⟨Nat.le_of_ble_eq_true rfl, Nat.le_of_ble_eq_true rfl⟩) rfl (by decide) rfl (by decide) rfl hl.1 rfl (Nat.le_of_ble_eq_true rfl) dL_law_410 ⟨by show _ ≤ (601024 : Nat); omega, by show _ ≤ (7293033 : Nat); omega⟩ (fun H locs hH => ?_)
  refine lv_iload hx hb dL_law_413 (lv_at hl 0 rfl) ?_
  refine lv_icmp_eq (tgt := 420) hx hb dL_law_415 (by decide) (fun c_415 => ?_) (fun c_415 => ?_)
  · refine lv_goto (tgt := 1539) hx hb dL_law_420 (by decide) ?_
    refine W.widen (k := cells + 6) (n := slots + 36) (by omega) (by omega) ?_
    exact kk _ _ _ _ hs.2 hH (lv_sub hl [1, 2, 3, 4, 5] rfl)
  · exact absurd hs.1 c_415
set_option maxHeartbeats 4000000 in
set_option maxRecDepth 100000 in
theorem law_seat {p : Program} {l : Launch} {e : Env} {s : State} {m : MethodId} {args : Array Value} {below : List Frame} {meth : Method} {c : Code} {H : Heap} {locs : List Loc} {cells slots : Nat} {Q : State → Prop} {ls : Array Slot} {E : rg_Env} {B : Nat} {M : rg_Mem} {b L i : Nat} {xs : Nat → Int32} (hst : l.stackTraces = false) (C0 : rg_Cx p m c cL_law 7 s args "RengaHallLaw" E B) (hX : va_X b L xs s s.heap) (hbl : b < s.heap.size) (hbB : b < B) (hL : L ≤ 2560) (hi : i + 5 ≤ L) (h : rg_Inv M) (hH : rg_H E B 433 rg_R0 M s H locs) (hl : lv_has ls 7 [(0, .ref b), (1, .ref (B + 0)), (2, .ref (B + 412)), (3, .ref (B + 432)), (4, .int (nI i))]) (hc : cells + 6 ≤ 601024 ∧ slots + 36 ≤ 7293033)
    (kk : ∀ (M1 : rg_Mem) (H1 : Heap) (locs1 : List Loc) (ls1 : Array Slot), rg_Inv M1 → rg_H E B 433 rg_R0 M1 s H1 locs1 → lv_has ls1 7 [(0, .ref b), (1, .ref (B + 0)), (2, .ref (B + 412)), (3, .ref (B + 432)), (4, .int (nI i))] → W p l e room_1 s m args below meth c H1 locs1 (cells + 6) (slots + 36) Q (F0 m 1539 ls1 [])) : W p l e room_1 s m args below meth c H locs cells slots Q (F0 m 423 ls []) := by
  have hx := C0.1.1
  have hb := C0.1.2.1
  refine lv_aload_n hx hb dL_law_423 rfl (lv_at hl 1 rfl) ?_
  refine lv_aload_n hx hb dL_law_424 rfl (lv_at hl 0 rfl) ?_
  refine lv_iload hx hb dL_law_425 (lv_at hl 4 rfl) ?_
  refine lv_iconst (v := 1) hx hb dL_law_427 (by decide) ?_
  refine lv_iadd hx hb dL_law_428 ?_
  refine rg_topi (y := nI (i + 1)) (by exact nI_add i 1) ?_
  refine rg_sld C0 hX hbl hbB hH (j := i + 1) ⟨by omega, hL⟩ dL_law_429 ?_
  refine lv_aload_n hx hb dL_law_430 rfl (lv_at hl 0 rfl) ?_
  refine lv_iload hx hb dL_law_431 (lv_at hl 4 rfl) ?_
  refine lv_iconst (v := 2) hx hb dL_law_433 (by decide) ?_
  refine lv_iadd hx hb dL_law_434 ?_
  refine rg_topi (y := nI (i + 2)) (by exact nI_add i 2) ?_
  refine rg_sld C0 hX hbl hbB hH (j := i + 2) ⟨by omega, hL⟩ dL_law_435 ?_
  refine lv_aload_n hx hb dL_law_436 rfl (lv_at hl 3 rfl) ?_
  refine rg_callSWi C0 hH (As := [.ref (B + 0), .int (xs (i + 1)), .int (xs (i + 2)), .ref (B + 432)]) (rest := []) (k_L_seat l hst E B M (xs (i + 1)) (xs (i + 2)) (rg_Inv_ci h)) (rg_cwSW (hh := [(0, 10, 13, 21), (0, 10, 17, 13), (0, 10, 21, 15)]) 4 C0.1.2.2.2.2 tw_m_L_108 tw_s_L_seat tw_n_L tw_c_L_seat rfl rfl hd_L_seat ⟨Nat.le_of_ble_eq_true rfl, Nat.le_of_ble_eq_true rfl⟩) rfl hl.1 rfl (Nat.le_of_ble_eq_true rfl) dL_law_437 ⟨by show _ ≤ (601024 : Nat); omega, by show _ ≤ (7293033 : Nat); omega⟩ (fun k9 Mw H locs e1 hH => ?_)
  have hC := pre_seat h e1
  refine lv_istore (lv' := [(5, .int k9), (0, .ref b), (1, .ref (B + 0)), (2, .ref (B + 412)), (3, .ref (B + 432)), (4, .int (nI i))]) hx hb dL_law_440 hl (by decide) rfl (fun ls hl => ?_)
  refine lv_aload_n hx hb dL_law_442 rfl (lv_at hl 3 rfl) ?_
  refine lv_aload_n hx hb dL_law_443 rfl (lv_at hl 1 rfl) ?_
  refine lv_iload hx hb dL_law_444 (lv_at hl 5 rfl) ?_
  refine lv_iconst (v := 1) hx hb dL_law_446 (by decide) ?_
  refine lv_iadd hx hb dL_law_447 ?_
  refine rg_topi (y := nI (i + 1)) (by exact nI_add i 1) ?_
  refine rg_sld C0 hX hbl hbB hH (j := i + 1) ⟨by omega, hL⟩ dL_law_448 ?_
  refine lv_aload_n hx hb dL_law_449 rfl (lv_at hl 1 rfl) ?_
  refine lv_iload hx hb dL_law_450 (lv_at hl 5 rfl) ?_
  refine lv_iconst (v := 2) hx hb dL_law_452 (by decide) ?_
  refine lv_iadd hx hb dL_law_453 ?_
  refine rg_topi (y := nI (i + 2)) (by exact nI_add i 2) ?_
  refine rg_sld C0 hX hbl hbB hH (j := i + 2) ⟨by omega, hL⟩ dL_law_454 ?_
  refine rg_callWi C0 hH (As := [.int (xs (i + 1)), .int (xs (i + 2))]) (rest := []) (o := 412) (ci := 7) (k_X7_seat l E B Mw (xs (i + 1)) (xs (i + 2)) hC) (rg_cw 2 C0.1.2.2.2.2 tw_m_L_110 tw_i_X7_seat tw_v_X7_seat tw_n_X7 tw_c_X7_seat rfl rfl hd_X7_seat ⟨Nat.le_of_ble_eq_true rfl, Nat.le_of_ble_eq_true rfl⟩) rfl (by decide) rfl (by decide) rfl hl.1 rfl (Nat.le_of_ble_eq_true rfl) dL_law_455 ⟨by show _ ≤ (601024 : Nat); omega, by show _ ≤ (7293033 : Nat); omega⟩ (fun r9 Mz H locs e2 hH => ?_)
  have hs := sim_seat h e1 e2
  refine lv_istore (lv' := [(6, .int r9), (5, .int k9), (0, .ref b), (1, .ref (B + 0)), (2, .ref (B + 412)), (3, .ref (B + 432)), (4, .int (nI i))]) hx hb dL_law_458 hl (by decide) rfl (fun ls hl => ?_)
  refine lv_aload_n hx hb dL_law_460 rfl (lv_at hl 4 rfl) ?_
  refine rg_callGi C0 hH (As := []) (rest := []) (o := 412) (ci := 7) (k_X7_thrown l E B Mz) (rg_cw 0 C0.1.2.2.2.2 tw_m_L_93 tw_i_X7_thrown tw_v_X7_thrown tw_n_X7 tw_c_X7_thrown rfl rfl hd_X7_thrown ⟨Nat.le_of_ble_eq_true rfl, Nat.le_of_ble_eq_true rfl⟩) rfl (by decide) rfl (by decide) rfl hl.1 rfl (Nat.le_of_ble_eq_true rfl) dL_law_461 ⟨by show _ ≤ (601024 : Nat); omega, by show _ ≤ (7293033 : Nat); omega⟩ (fun H locs hH => ?_)
  refine lv_iload hx hb dL_law_464 (lv_at hl 1 rfl) ?_
  refine lv_icmp_eq (tgt := 471) hx hb dL_law_466 (by decide) (fun c_466 => ?_) (fun c_466 => ?_)
  · refine lv_iload hx hb dL_law_471 (lv_at hl 1 rfl) ?_
    refine lv_if_ne (tgt := 488) hx hb dL_law_473 (by decide) (fun c_473 => ?_) (fun c_473 => ?_)
    · refine lv_goto (tgt := 1539) hx hb dL_law_488 (by decide) ?_
      refine W.widen (k := cells + 6) (n := slots + 36) (by omega) (by omega) ?_
      exact kk _ _ _ _ hs.2.2 hH (lv_sub hl [2, 3, 4, 5, 6] rfl)
    · refine lv_aload_n hx hb dL_law_476 rfl (lv_at hl 5 rfl) ?_
      refine lv_iconst (v := 0) hx hb dL_law_477 (by decide) ?_
      refine rg_lald C0 hH (o := 432) (by decide) rfl (rg_vin rfl (by exact (vp_in_nI (Nat.zero_lt_one) (by omega) : vp_in (nI 0) 1))) dL_law_478 ?_
      refine rg_topl (y := Mz.2 432 0) (by exact rfl) ?_
      refine lv_iload hx hb dL_law_479 (lv_at hl 0 rfl) ?_
      refine lv_i2l hx hb dL_law_481 rfl ?_
      refine W.lcmp hx hb dL_law_482 ?_
      refine lv_if_eq (tgt := 488) hx hb dL_law_483 (by decide) (fun c_483 => ?_) (fun c_483 => ?_)
      · refine lv_goto (tgt := 1539) hx hb dL_law_488 (by decide) ?_
        refine W.widen (k := cells + 6) (n := slots + 36) (by omega) (by omega) ?_
        exact kk _ _ _ _ hs.2.2 hH (lv_sub hl [2, 3, 4, 5, 6] rfl)
      · exact absurd (rg_cmp0.mpr (hs.2.1 c_473)) c_483
  · exact absurd hs.1 c_466
set_option maxHeartbeats 4000000 in
set_option maxRecDepth 100000 in
theorem law_add {p : Program} {l : Launch} {e : Env} {s : State} {m : MethodId} {args : Array Value} {below : List Frame} {meth : Method} {c : Code} {H : Heap} {locs : List Loc} {cells slots : Nat} {Q : State → Prop} {ls : Array Slot} {E : rg_Env} {B : Nat} {M : rg_Mem} {b L i : Nat} {xs : Nat → Int32} (hst : l.stackTraces = false) (C0 : rg_Cx p m c cL_law 7 s args "RengaHallLaw" E B) (hX : va_X b L xs s s.heap) (hbl : b < s.heap.size) (hbB : b < B) (hL : L ≤ 2560) (hi : i + 5 ≤ L) (h : rg_Inv M) (hH : rg_H E B 433 rg_R0 M s H locs) (hl : lv_has ls 7 [(0, .ref b), (1, .ref (B + 0)), (2, .ref (B + 412)), (3, .ref (B + 432)), (4, .int (nI i))]) (hc : cells + 6 ≤ 601024 ∧ slots + 36 ≤ 7293033)
    (kk : ∀ (M1 : rg_Mem) (H1 : Heap) (locs1 : List Loc) (ls1 : Array Slot), rg_Inv M1 → rg_H E B 433 rg_R0 M1 s H1 locs1 → lv_has ls1 7 [(0, .ref b), (1, .ref (B + 0)), (2, .ref (B + 412)), (3, .ref (B + 432)), (4, .int (nI i))] → W p l e room_1 s m args below meth c H1 locs1 (cells + 6) (slots + 36) Q (F0 m 1539 ls1 [])) : W p l e room_1 s m args below meth c H locs cells slots Q (F0 m 491 ls []) := by
  have hx := C0.1.1
  have hb := C0.1.2.1
  refine lv_aload_n hx hb dL_law_491 rfl (lv_at hl 1 rfl) ?_
  refine lv_aload_n hx hb dL_law_492 rfl (lv_at hl 0 rfl) ?_
  refine lv_iload hx hb dL_law_493 (lv_at hl 4 rfl) ?_
  refine lv_iconst (v := 1) hx hb dL_law_495 (by decide) ?_
  refine lv_iadd hx hb dL_law_496 ?_
  refine rg_topi (y := nI (i + 1)) (by exact nI_add i 1) ?_
  refine rg_sld C0 hX hbl hbB hH (j := i + 1) ⟨by omega, hL⟩ dL_law_497 ?_
  refine lv_aload_n hx hb dL_law_498 rfl (lv_at hl 3 rfl) ?_
  refine rg_callSWi C0 hH (As := [.ref (B + 0), .int (xs (i + 1)), .ref (B + 432)]) (rest := []) (k_L_add l hst E B M (xs (i + 1)) (rg_Inv_ci h)) (rg_cwSW (hh := [(0, 9, 12, 21), (0, 9, 15, 15)]) 3 C0.1.2.2.2.2 tw_m_L_111 tw_s_L_add tw_n_L tw_c_L_add rfl rfl hd_L_add ⟨Nat.le_of_ble_eq_true rfl, Nat.le_of_ble_eq_true rfl⟩) rfl hl.1 rfl (Nat.le_of_ble_eq_true rfl) dL_law_499 ⟨by show _ ≤ (601024 : Nat); omega, by show _ ≤ (7293033 : Nat); omega⟩ (fun k9 Mw H locs e1 hH => ?_)
  have hC := pre_add h e1
  refine lv_istore (lv' := [(5, .int k9), (0, .ref b), (1, .ref (B + 0)), (2, .ref (B + 412)), (3, .ref (B + 432)), (4, .int (nI i))]) hx hb dL_law_502 hl (by decide) rfl (fun ls hl => ?_)
  refine lv_aload_n hx hb dL_law_504 rfl (lv_at hl 3 rfl) ?_
  refine lv_aload_n hx hb dL_law_505 rfl (lv_at hl 1 rfl) ?_
  refine lv_iload hx hb dL_law_506 (lv_at hl 5 rfl) ?_
  refine lv_iconst (v := 1) hx hb dL_law_508 (by decide) ?_
  refine lv_iadd hx hb dL_law_509 ?_
  refine rg_topi (y := nI (i + 1)) (by exact nI_add i 1) ?_
  refine rg_sld C0 hX hbl hbB hH (j := i + 1) ⟨by omega, hL⟩ dL_law_510 ?_
  refine rg_callWi C0 hH (As := [.int (xs (i + 1))]) (rest := []) (o := 412) (ci := 7) (k_X7_add l E B Mw (xs (i + 1)) hC) (rg_cw 1 C0.1.2.2.2.2 tw_m_L_114 tw_i_X7_add tw_v_X7_add tw_n_X7 tw_c_X7_add rfl rfl hd_X7_add ⟨Nat.le_of_ble_eq_true rfl, Nat.le_of_ble_eq_true rfl⟩) rfl (by decide) rfl (by decide) rfl hl.1 rfl (Nat.le_of_ble_eq_true rfl) dL_law_511 ⟨by show _ ≤ (601024 : Nat); omega, by show _ ≤ (7293033 : Nat); omega⟩ (fun r9 Mz H locs e2 hH => ?_)
  have hs := sim_add h e1 e2
  refine lv_istore (lv' := [(6, .int r9), (5, .int k9), (0, .ref b), (1, .ref (B + 0)), (2, .ref (B + 412)), (3, .ref (B + 432)), (4, .int (nI i))]) hx hb dL_law_514 hl (by decide) rfl (fun ls hl => ?_)
  refine lv_aload_n hx hb dL_law_516 rfl (lv_at hl 4 rfl) ?_
  refine rg_callGi C0 hH (As := []) (rest := []) (o := 412) (ci := 7) (k_X7_thrown l E B Mz) (rg_cw 0 C0.1.2.2.2.2 tw_m_L_93 tw_i_X7_thrown tw_v_X7_thrown tw_n_X7 tw_c_X7_thrown rfl rfl hd_X7_thrown ⟨Nat.le_of_ble_eq_true rfl, Nat.le_of_ble_eq_true rfl⟩) rfl (by decide) rfl (by decide) rfl hl.1 rfl (Nat.le_of_ble_eq_true rfl) dL_law_517 ⟨by show _ ≤ (601024 : Nat); omega, by show _ ≤ (7293033 : Nat); omega⟩ (fun H locs hH => ?_)
  refine lv_iload hx hb dL_law_520 (lv_at hl 1 rfl) ?_
  refine lv_icmp_eq (tgt := 527) hx hb dL_law_522 (by decide) (fun c_522 => ?_) (fun c_522 => ?_)
  · refine lv_iload hx hb dL_law_527 (lv_at hl 1 rfl) ?_
    refine lv_if_ne (tgt := 544) hx hb dL_law_529 (by decide) (fun c_529 => ?_) (fun c_529 => ?_)
    · refine lv_goto (tgt := 1539) hx hb dL_law_544 (by decide) ?_
      refine W.widen (k := cells + 6) (n := slots + 36) (by omega) (by omega) ?_
      exact kk _ _ _ _ hs.2.2 hH (lv_sub hl [2, 3, 4, 5, 6] rfl)
    · refine lv_aload_n hx hb dL_law_532 rfl (lv_at hl 5 rfl) ?_
      refine lv_iconst (v := 0) hx hb dL_law_533 (by decide) ?_
      refine rg_lald C0 hH (o := 432) (by decide) rfl (rg_vin rfl (by exact (vp_in_nI (Nat.zero_lt_one) (by omega) : vp_in (nI 0) 1))) dL_law_534 ?_
      refine rg_topl (y := Mz.2 432 0) (by exact rfl) ?_
      refine lv_iload hx hb dL_law_535 (lv_at hl 0 rfl) ?_
      refine lv_i2l hx hb dL_law_537 rfl ?_
      refine W.lcmp hx hb dL_law_538 ?_
      refine lv_if_eq (tgt := 544) hx hb dL_law_539 (by decide) (fun c_539 => ?_) (fun c_539 => ?_)
      · refine lv_goto (tgt := 1539) hx hb dL_law_544 (by decide) ?_
        refine W.widen (k := cells + 6) (n := slots + 36) (by omega) (by omega) ?_
        exact kk _ _ _ _ hs.2.2 hH (lv_sub hl [2, 3, 4, 5, 6] rfl)
      · exact absurd (rg_cmp0.mpr (hs.2.1 c_529)) c_539
  · exact absurd hs.1 c_522
set_option maxHeartbeats 4000000 in
set_option maxRecDepth 100000 in
theorem law_clear {p : Program} {l : Launch} {e : Env} {s : State} {m : MethodId} {args : Array Value} {below : List Frame} {meth : Method} {c : Code} {H : Heap} {locs : List Loc} {cells slots : Nat} {Q : State → Prop} {ls : Array Slot} {E : rg_Env} {B : Nat} {M : rg_Mem} {b L i : Nat} {xs : Nat → Int32} (hst : l.stackTraces = false) (C0 : rg_Cx p m c cL_law 7 s args "RengaHallLaw" E B) (hX : va_X b L xs s s.heap) (hbl : b < s.heap.size) (hbB : b < B) (hL : L ≤ 2560) (hi : i + 5 ≤ L) (h : rg_Inv M) (hH : rg_H E B 433 rg_R0 M s H locs) (hl : lv_has ls 7 [(0, .ref b), (1, .ref (B + 0)), (2, .ref (B + 412)), (3, .ref (B + 432)), (4, .int (nI i))]) (hc : cells + 6 ≤ 601024 ∧ slots + 36 ≤ 7293033)
    (kk : ∀ (M1 : rg_Mem) (H1 : Heap) (locs1 : List Loc) (ls1 : Array Slot), rg_Inv M1 → rg_H E B 433 rg_R0 M1 s H1 locs1 → lv_has ls1 7 [(0, .ref b), (1, .ref (B + 0)), (2, .ref (B + 412)), (3, .ref (B + 432)), (4, .int (nI i))] → W p l e room_1 s m args below meth c H1 locs1 (cells + 6) (slots + 36) Q (F0 m 1539 ls1 [])) : W p l e room_1 s m args below meth c H locs cells slots Q (F0 m 547 ls []) := by
  have hx := C0.1.1
  have hb := C0.1.2.1
  refine lv_aload_n hx hb dL_law_547 rfl (lv_at hl 1 rfl) ?_
  refine rg_callGi C0 hH (As := []) (rest := []) (o := 0) (ci := 6) (k_X6_clear l E B M) (rg_cw 0 C0.1.2.2.2.2 tw_m_L_115 tw_i_X6_clear tw_v_X6_clear tw_n_X6 tw_c_X6_clear rfl rfl hd_X6_clear ⟨Nat.le_of_ble_eq_true rfl, Nat.le_of_ble_eq_true rfl⟩) rfl (by decide) rfl (by decide) rfl hl.1 rfl (Nat.le_of_ble_eq_true rfl) dL_law_548 ⟨by show _ ≤ (601024 : Nat); omega, by show _ ≤ (7293033 : Nat); omega⟩ (fun H locs hH => ?_)
  have hC := pre_clear h
  refine lv_aload_n hx hb dL_law_551 rfl (lv_at hl 2 rfl) ?_
  refine rg_callRi C0 hH (As := []) (rest := [.int (M.1 90 1)]) (o := 412) (ci := 7) (k_X7_clear l E B (rg_J (rg_I (rg_I (rg_I (rg_I M 90 1 0) 90 2 0) 90 3 (-1)) 90 4 0) 90 5 0)) (rg_cw 0 C0.1.2.2.2.2 tw_m_L_118 tw_i_X7_clear tw_v_X7_clear tw_n_X7 tw_c_X7_clear rfl rfl hd_X7_clear ⟨Nat.le_of_ble_eq_true rfl, Nat.le_of_ble_eq_true rfl⟩) rfl (by decide) rfl (by decide) rfl hl.1 rfl (Nat.le_of_ble_eq_true rfl) dL_law_552 ⟨by show _ ≤ (601024 : Nat); omega, by show _ ≤ (7293033 : Nat); omega⟩ (fun r2 H locs e2 hH => ?_)
  have hs := sim_clear h (rfl : _ = (M.1 90 1)) e2
  refine lv_icmp_eq (tgt := 1539) hx hb dL_law_555 (by decide) (fun c_555 => ?_) (fun c_555 => ?_)
  · refine W.widen (k := cells + 6) (n := slots + 36) (by omega) (by omega) ?_
    exact kk _ _ _ _ hs.2 hH (lv_sub hl [0, 1, 2, 3, 4] rfl)
  · exact absurd hs.1 c_555
set_option maxHeartbeats 4000000 in
set_option maxRecDepth 100000 in
theorem law_offer {p : Program} {l : Launch} {e : Env} {s : State} {m : MethodId} {args : Array Value} {below : List Frame} {meth : Method} {c : Code} {H : Heap} {locs : List Loc} {cells slots : Nat} {Q : State → Prop} {ls : Array Slot} {E : rg_Env} {B : Nat} {M : rg_Mem} {b L i : Nat} {xs : Nat → Int32} (hst : l.stackTraces = false) (C0 : rg_Cx p m c cL_law 7 s args "RengaHallLaw" E B) (hX : va_X b L xs s s.heap) (hbl : b < s.heap.size) (hbB : b < B) (hL : L ≤ 2560) (hi : i + 5 ≤ L) (h : rg_Inv M) (hH : rg_H E B 433 rg_R0 M s H locs) (hl : lv_has ls 7 [(0, .ref b), (1, .ref (B + 0)), (2, .ref (B + 412)), (3, .ref (B + 432)), (4, .int (nI i))]) (hc : cells + 6 ≤ 601024 ∧ slots + 36 ≤ 7293033)
    (kk : ∀ (M1 : rg_Mem) (H1 : Heap) (locs1 : List Loc) (ls1 : Array Slot), rg_Inv M1 → rg_H E B 433 rg_R0 M1 s H1 locs1 → lv_has ls1 7 [(0, .ref b), (1, .ref (B + 0)), (2, .ref (B + 412)), (3, .ref (B + 432)), (4, .int (nI i))] → W p l e room_1 s m args below meth c H1 locs1 (cells + 6) (slots + 36) Q (F0 m 1539 ls1 [])) : W p l e room_1 s m args below meth c H locs cells slots Q (F0 m 560 ls []) := by
  have hx := C0.1.1
  have hb := C0.1.2.1
  refine lv_aload_n hx hb dL_law_560 rfl (lv_at hl 1 rfl) ?_
  refine lv_aload_n hx hb dL_law_561 rfl (lv_at hl 0 rfl) ?_
  refine lv_iload hx hb dL_law_562 (lv_at hl 4 rfl) ?_
  refine lv_iconst (v := 1) hx hb dL_law_564 (by decide) ?_
  refine lv_iadd hx hb dL_law_565 ?_
  refine rg_topi (y := nI (i + 1)) (by exact nI_add i 1) ?_
  refine rg_sld C0 hX hbl hbB hH (j := i + 1) ⟨by omega, hL⟩ dL_law_566 ?_
  refine lv_aload_n hx hb dL_law_567 rfl (lv_at hl 3 rfl) ?_
  refine rg_callSWi C0 hH (As := [.ref (B + 0), .int (xs (i + 1)), .ref (B + 432)]) (rest := []) (k_L_offer l hst E B M (xs (i + 1)) (rg_Inv_ci h)) (rg_cwSW (hh := [(0, 9, 12, 21), (0, 9, 15, 15)]) 3 C0.1.2.2.2.2 tw_m_L_119 tw_s_L_offer tw_n_L tw_c_L_offer rfl rfl hd_L_offer ⟨Nat.le_of_ble_eq_true rfl, Nat.le_of_ble_eq_true rfl⟩) rfl hl.1 rfl (Nat.le_of_ble_eq_true rfl) dL_law_568 ⟨by show _ ≤ (601024 : Nat); omega, by show _ ≤ (7293033 : Nat); omega⟩ (fun k9 Mw H locs e1 hH => ?_)
  have hC := pre_offer h e1
  refine lv_istore (lv' := [(5, .int k9), (0, .ref b), (1, .ref (B + 0)), (2, .ref (B + 412)), (3, .ref (B + 432)), (4, .int (nI i))]) hx hb dL_law_571 hl (by decide) rfl (fun ls hl => ?_)
  refine lv_aload_n hx hb dL_law_573 rfl (lv_at hl 3 rfl) ?_
  refine lv_aload_n hx hb dL_law_574 rfl (lv_at hl 1 rfl) ?_
  refine lv_iload hx hb dL_law_575 (lv_at hl 5 rfl) ?_
  refine lv_iconst (v := 1) hx hb dL_law_577 (by decide) ?_
  refine lv_iadd hx hb dL_law_578 ?_
  refine rg_topi (y := nI (i + 1)) (by exact nI_add i 1) ?_
  refine rg_sld C0 hX hbl hbB hH (j := i + 1) ⟨by omega, hL⟩ dL_law_579 ?_
  refine rg_callWi C0 hH (As := [.int (xs (i + 1))]) (rest := []) (o := 412) (ci := 7) (k_X7_offer l E B Mw (xs (i + 1)) hC) (rg_cw 1 C0.1.2.2.2.2 tw_m_L_121 tw_i_X7_offer tw_v_X7_offer tw_n_X7 tw_c_X7_offer rfl rfl hd_X7_offer ⟨Nat.le_of_ble_eq_true rfl, Nat.le_of_ble_eq_true rfl⟩) rfl (by decide) rfl (by decide) rfl hl.1 rfl (Nat.le_of_ble_eq_true rfl) dL_law_580 ⟨by show _ ≤ (601024 : Nat); omega, by show _ ≤ (7293033 : Nat); omega⟩ (fun r9 Mz H locs e2 hH => ?_)
  have hs := sim_offer h e1 e2
  refine lv_istore (lv' := [(6, .int r9), (5, .int k9), (0, .ref b), (1, .ref (B + 0)), (2, .ref (B + 412)), (3, .ref (B + 432)), (4, .int (nI i))]) hx hb dL_law_583 hl (by decide) rfl (fun ls hl => ?_)
  refine lv_aload_n hx hb dL_law_585 rfl (lv_at hl 4 rfl) ?_
  refine rg_callGi C0 hH (As := []) (rest := []) (o := 412) (ci := 7) (k_X7_thrown l E B Mz) (rg_cw 0 C0.1.2.2.2.2 tw_m_L_93 tw_i_X7_thrown tw_v_X7_thrown tw_n_X7 tw_c_X7_thrown rfl rfl hd_X7_thrown ⟨Nat.le_of_ble_eq_true rfl, Nat.le_of_ble_eq_true rfl⟩) rfl (by decide) rfl (by decide) rfl hl.1 rfl (Nat.le_of_ble_eq_true rfl) dL_law_586 ⟨by show _ ≤ (601024 : Nat); omega, by show _ ≤ (7293033 : Nat); omega⟩ (fun H locs hH => ?_)
  refine lv_iload hx hb dL_law_589 (lv_at hl 1 rfl) ?_
  refine lv_icmp_eq (tgt := 596) hx hb dL_law_591 (by decide) (fun c_591 => ?_) (fun c_591 => ?_)
  · refine lv_iload hx hb dL_law_596 (lv_at hl 1 rfl) ?_
    refine lv_if_ne (tgt := 613) hx hb dL_law_598 (by decide) (fun c_598 => ?_) (fun c_598 => ?_)
    · refine lv_goto (tgt := 1539) hx hb dL_law_613 (by decide) ?_
      refine W.widen (k := cells + 6) (n := slots + 36) (by omega) (by omega) ?_
      exact kk _ _ _ _ hs.2.2 hH (lv_sub hl [2, 3, 4, 5, 6] rfl)
    · refine lv_aload_n hx hb dL_law_601 rfl (lv_at hl 5 rfl) ?_
      refine lv_iconst (v := 0) hx hb dL_law_602 (by decide) ?_
      refine rg_lald C0 hH (o := 432) (by decide) rfl (rg_vin rfl (by exact (vp_in_nI (Nat.zero_lt_one) (by omega) : vp_in (nI 0) 1))) dL_law_603 ?_
      refine rg_topl (y := Mz.2 432 0) (by exact rfl) ?_
      refine lv_iload hx hb dL_law_604 (lv_at hl 0 rfl) ?_
      refine lv_i2l hx hb dL_law_606 rfl ?_
      refine W.lcmp hx hb dL_law_607 ?_
      refine lv_if_eq (tgt := 613) hx hb dL_law_608 (by decide) (fun c_608 => ?_) (fun c_608 => ?_)
      · refine lv_goto (tgt := 1539) hx hb dL_law_613 (by decide) ?_
        refine W.widen (k := cells + 6) (n := slots + 36) (by omega) (by omega) ?_
        exact kk _ _ _ _ hs.2.2 hH (lv_sub hl [2, 3, 4, 5, 6] rfl)
      · exact absurd (rg_cmp0.mpr (hs.2.1 c_598)) c_608
  · exact absurd hs.1 c_591
set_option maxHeartbeats 4000000 in
set_option maxRecDepth 100000 in
theorem law_why {p : Program} {l : Launch} {e : Env} {s : State} {m : MethodId} {args : Array Value} {below : List Frame} {meth : Method} {c : Code} {H : Heap} {locs : List Loc} {cells slots : Nat} {Q : State → Prop} {ls : Array Slot} {E : rg_Env} {B : Nat} {M : rg_Mem} {b L i : Nat} {xs : Nat → Int32} (hst : l.stackTraces = false) (C0 : rg_Cx p m c cL_law 7 s args "RengaHallLaw" E B) (hX : va_X b L xs s s.heap) (hbl : b < s.heap.size) (hbB : b < B) (hL : L ≤ 2560) (hi : i + 5 ≤ L) (h : rg_Inv M) (hH : rg_H E B 433 rg_R0 M s H locs) (hl : lv_has ls 7 [(0, .ref b), (1, .ref (B + 0)), (2, .ref (B + 412)), (3, .ref (B + 432)), (4, .int (nI i))]) (hc : cells + 6 ≤ 601024 ∧ slots + 36 ≤ 7293033)
    (kk : ∀ (M1 : rg_Mem) (H1 : Heap) (locs1 : List Loc) (ls1 : Array Slot), rg_Inv M1 → rg_H E B 433 rg_R0 M1 s H1 locs1 → lv_has ls1 7 [(0, .ref b), (1, .ref (B + 0)), (2, .ref (B + 412)), (3, .ref (B + 432)), (4, .int (nI i))] → W p l e room_1 s m args below meth c H1 locs1 (cells + 6) (slots + 36) Q (F0 m 1539 ls1 [])) : W p l e room_1 s m args below meth c H locs cells slots Q (F0 m 616 ls []) := by
  have hx := C0.1.1
  have hb := C0.1.2.1
  refine lv_aload_n hx hb dL_law_616 rfl (lv_at hl 1 rfl) ?_
  refine rg_callGi C0 hH (As := []) (rest := []) (o := 0) (ci := 6) (k_X6_why l E B M) (rg_cw 0 C0.1.2.2.2.2 tw_m_L_122 tw_i_X6_why tw_v_X6_why tw_n_X6 tw_c_X6_why rfl rfl hd_X6_why ⟨Nat.le_of_ble_eq_true rfl, Nat.le_of_ble_eq_true rfl⟩) rfl (by decide) rfl (by decide) rfl hl.1 rfl (Nat.le_of_ble_eq_true rfl) dL_law_617 ⟨by show _ ≤ (601024 : Nat); omega, by show _ ≤ (7293033 : Nat); omega⟩ (fun H locs hH => ?_)
  have hC := pre_why h
  refine lv_aload_n hx hb dL_law_620 rfl (lv_at hl 2 rfl) ?_
  refine rg_callRi C0 hH (As := []) (rest := [.int (M.1 0 12)]) (o := 412) (ci := 7) (k_X7_why l E B M) (rg_cw 0 C0.1.2.2.2.2 tw_m_L_125 tw_i_X7_why tw_v_X7_why tw_n_X7 tw_c_X7_why rfl rfl hd_X7_why ⟨Nat.le_of_ble_eq_true rfl, Nat.le_of_ble_eq_true rfl⟩) rfl (by decide) rfl (by decide) rfl hl.1 rfl (Nat.le_of_ble_eq_true rfl) dL_law_621 ⟨by show _ ≤ (601024 : Nat); omega, by show _ ≤ (7293033 : Nat); omega⟩ (fun r2 H locs e2 hH => ?_)
  have hs := sim_why h (rfl : _ = (M.1 0 12)) e2
  refine lv_icmp_eq (tgt := 1539) hx hb dL_law_624 (by decide) (fun c_624 => ?_) (fun c_624 => ?_)
  · refine W.widen (k := cells + 6) (n := slots + 36) (by omega) (by omega) ?_
    exact kk _ _ _ _ hs.2 hH (lv_sub hl [0, 1, 2, 3, 4] rfl)
  · exact absurd hs.1 c_624
set_option maxHeartbeats 4000000 in
set_option maxRecDepth 100000 in
theorem law_choose {p : Program} {l : Launch} {e : Env} {s : State} {m : MethodId} {args : Array Value} {below : List Frame} {meth : Method} {c : Code} {H : Heap} {locs : List Loc} {cells slots : Nat} {Q : State → Prop} {ls : Array Slot} {E : rg_Env} {B : Nat} {M : rg_Mem} {b L i : Nat} {xs : Nat → Int32} (hst : l.stackTraces = false) (C0 : rg_Cx p m c cL_law 7 s args "RengaHallLaw" E B) (hX : va_X b L xs s s.heap) (hbl : b < s.heap.size) (hbB : b < B) (hL : L ≤ 2560) (hi : i + 5 ≤ L) (h : rg_Inv M) (hH : rg_H E B 433 rg_R0 M s H locs) (hl : lv_has ls 7 [(0, .ref b), (1, .ref (B + 0)), (2, .ref (B + 412)), (3, .ref (B + 432)), (4, .int (nI i))]) (hc : cells + 6 ≤ 601024 ∧ slots + 36 ≤ 7293033)
    (kk : ∀ (M1 : rg_Mem) (H1 : Heap) (locs1 : List Loc) (ls1 : Array Slot), rg_Inv M1 → rg_H E B 433 rg_R0 M1 s H1 locs1 → lv_has ls1 7 [(0, .ref b), (1, .ref (B + 0)), (2, .ref (B + 412)), (3, .ref (B + 432)), (4, .int (nI i))] → W p l e room_1 s m args below meth c H1 locs1 (cells + 6) (slots + 36) Q (F0 m 1539 ls1 [])) : W p l e room_1 s m args below meth c H locs cells slots Q (F0 m 629 ls []) := by
  have hx := C0.1.1
  have hb := C0.1.2.1
  refine lv_aload_n hx hb dL_law_629 rfl (lv_at hl 1 rfl) ?_
  refine lv_aload_n hx hb dL_law_630 rfl (lv_at hl 0 rfl) ?_
  refine lv_iload hx hb dL_law_631 (lv_at hl 4 rfl) ?_
  refine lv_iconst (v := 1) hx hb dL_law_633 (by decide) ?_
  refine lv_iadd hx hb dL_law_634 ?_
  refine rg_topi (y := nI (i + 1)) (by exact nI_add i 1) ?_
  refine rg_sld C0 hX hbl hbB hH (j := i + 1) ⟨by omega, hL⟩ dL_law_635 ?_
  refine lv_aload_n hx hb dL_law_636 rfl (lv_at hl 3 rfl) ?_
  refine rg_callSWi C0 hH (As := [.ref (B + 0), .int (xs (i + 1)), .ref (B + 432)]) (rest := []) (k_L_choose l hst E B M (xs (i + 1)) (rg_Inv_ci h) (rg_Inv_o h)) (rg_cwSW (hh := [(0, 9, 12, 21)]) 3 C0.1.2.2.2.2 tw_m_L_126 tw_s_L_choose tw_n_L tw_c_L_choose rfl rfl hd_L_choose ⟨Nat.le_of_ble_eq_true rfl, Nat.le_of_ble_eq_true rfl⟩) rfl hl.1 rfl (Nat.le_of_ble_eq_true rfl) dL_law_637 ⟨by show _ ≤ (601024 : Nat); omega, by show _ ≤ (7293033 : Nat); omega⟩ (fun k9 Mw H locs e1 hH => ?_)
  have hC := pre_choose h e1
  refine lv_istore (lv' := [(5, .int k9), (0, .ref b), (1, .ref (B + 0)), (2, .ref (B + 412)), (3, .ref (B + 432)), (4, .int (nI i))]) hx hb dL_law_640 hl (by decide) rfl (fun ls hl => ?_)
  refine lv_aload_n hx hb dL_law_642 rfl (lv_at hl 3 rfl) ?_
  refine lv_aload_n hx hb dL_law_643 rfl (lv_at hl 1 rfl) ?_
  refine lv_iload hx hb dL_law_644 (lv_at hl 5 rfl) ?_
  refine lv_iconst (v := 1) hx hb dL_law_646 (by decide) ?_
  refine lv_iadd hx hb dL_law_647 ?_
  refine rg_topi (y := nI (i + 1)) (by exact nI_add i 1) ?_
  refine rg_sld C0 hX hbl hbB hH (j := i + 1) ⟨by omega, hL⟩ dL_law_648 ?_
  refine rg_callWi C0 hH (As := [.int (xs (i + 1))]) (rest := []) (o := 412) (ci := 7) (k_X7_choose l E B Mw (xs (i + 1)) hC) (rg_cw 1 C0.1.2.2.2.2 tw_m_L_128 tw_i_X7_choose tw_v_X7_choose tw_n_X7 tw_c_X7_choose rfl rfl hd_X7_choose ⟨Nat.le_of_ble_eq_true rfl, Nat.le_of_ble_eq_true rfl⟩) rfl (by decide) rfl (by decide) rfl hl.1 rfl (Nat.le_of_ble_eq_true rfl) dL_law_649 ⟨by show _ ≤ (601024 : Nat); omega, by show _ ≤ (7293033 : Nat); omega⟩ (fun r9 Mz H locs e2 hH => ?_)
  have hs := sim_choose h e1 e2
  refine lv_istore (lv' := [(6, .int r9), (5, .int k9), (0, .ref b), (1, .ref (B + 0)), (2, .ref (B + 412)), (3, .ref (B + 432)), (4, .int (nI i))]) hx hb dL_law_652 hl (by decide) rfl (fun ls hl => ?_)
  refine lv_aload_n hx hb dL_law_654 rfl (lv_at hl 4 rfl) ?_
  refine rg_callGi C0 hH (As := []) (rest := []) (o := 412) (ci := 7) (k_X7_thrown l E B Mz) (rg_cw 0 C0.1.2.2.2.2 tw_m_L_93 tw_i_X7_thrown tw_v_X7_thrown tw_n_X7 tw_c_X7_thrown rfl rfl hd_X7_thrown ⟨Nat.le_of_ble_eq_true rfl, Nat.le_of_ble_eq_true rfl⟩) rfl (by decide) rfl (by decide) rfl hl.1 rfl (Nat.le_of_ble_eq_true rfl) dL_law_655 ⟨by show _ ≤ (601024 : Nat); omega, by show _ ≤ (7293033 : Nat); omega⟩ (fun H locs hH => ?_)
  refine lv_iload hx hb dL_law_658 (lv_at hl 1 rfl) ?_
  refine lv_icmp_eq (tgt := 665) hx hb dL_law_660 (by decide) (fun c_660 => ?_) (fun c_660 => ?_)
  · refine lv_iload hx hb dL_law_665 (lv_at hl 1 rfl) ?_
    refine lv_if_ne (tgt := 682) hx hb dL_law_667 (by decide) (fun c_667 => ?_) (fun c_667 => ?_)
    · refine lv_goto (tgt := 1539) hx hb dL_law_682 (by decide) ?_
      refine W.widen (k := cells + 6) (n := slots + 36) (by omega) (by omega) ?_
      exact kk _ _ _ _ hs.2.2 hH (lv_sub hl [2, 3, 4, 5, 6] rfl)
    · refine lv_aload_n hx hb dL_law_670 rfl (lv_at hl 5 rfl) ?_
      refine lv_iconst (v := 0) hx hb dL_law_671 (by decide) ?_
      refine rg_lald C0 hH (o := 432) (by decide) rfl (rg_vin rfl (by exact (vp_in_nI (Nat.zero_lt_one) (by omega) : vp_in (nI 0) 1))) dL_law_672 ?_
      refine rg_topl (y := Mz.2 432 0) (by exact rfl) ?_
      refine lv_iload hx hb dL_law_673 (lv_at hl 0 rfl) ?_
      refine lv_i2l hx hb dL_law_675 rfl ?_
      refine W.lcmp hx hb dL_law_676 ?_
      refine lv_if_eq (tgt := 682) hx hb dL_law_677 (by decide) (fun c_677 => ?_) (fun c_677 => ?_)
      · refine lv_goto (tgt := 1539) hx hb dL_law_682 (by decide) ?_
        refine W.widen (k := cells + 6) (n := slots + 36) (by omega) (by omega) ?_
        exact kk _ _ _ _ hs.2.2 hH (lv_sub hl [2, 3, 4, 5, 6] rfl)
      · exact absurd (rg_cmp0.mpr (hs.2.1 c_667)) c_677
  · exact absurd hs.1 c_660
set_option maxHeartbeats 4000000 in
set_option maxRecDepth 100000 in
theorem law_mend {p : Program} {l : Launch} {e : Env} {s : State} {m : MethodId} {args : Array Value} {below : List Frame} {meth : Method} {c : Code} {H : Heap} {locs : List Loc} {cells slots : Nat} {Q : State → Prop} {ls : Array Slot} {E : rg_Env} {B : Nat} {M : rg_Mem} {b L i : Nat} {xs : Nat → Int32} (hst : l.stackTraces = false) (C0 : rg_Cx p m c cL_law 7 s args "RengaHallLaw" E B) (hX : va_X b L xs s s.heap) (hbl : b < s.heap.size) (hbB : b < B) (hL : L ≤ 2560) (hi : i + 5 ≤ L) (h : rg_Inv M) (hH : rg_H E B 433 rg_R0 M s H locs) (hl : lv_has ls 7 [(0, .ref b), (1, .ref (B + 0)), (2, .ref (B + 412)), (3, .ref (B + 432)), (4, .int (nI i))]) (hc : cells + 6 ≤ 601024 ∧ slots + 36 ≤ 7293033)
    (kk : ∀ (M1 : rg_Mem) (H1 : Heap) (locs1 : List Loc) (ls1 : Array Slot), rg_Inv M1 → rg_H E B 433 rg_R0 M1 s H1 locs1 → lv_has ls1 7 [(0, .ref b), (1, .ref (B + 0)), (2, .ref (B + 412)), (3, .ref (B + 432)), (4, .int (nI i))] → W p l e room_1 s m args below meth c H1 locs1 (cells + 6) (slots + 36) Q (F0 m 1539 ls1 [])) : W p l e room_1 s m args below meth c H locs cells slots Q (F0 m 685 ls []) := by
  have hx := C0.1.1
  have hb := C0.1.2.1
  refine lv_aload_n hx hb dL_law_685 rfl (lv_at hl 1 rfl) ?_
  refine lv_aload_n hx hb dL_law_686 rfl (lv_at hl 0 rfl) ?_
  refine lv_iload hx hb dL_law_687 (lv_at hl 4 rfl) ?_
  refine lv_iconst (v := 1) hx hb dL_law_689 (by decide) ?_
  refine lv_iadd hx hb dL_law_690 ?_
  refine rg_topi (y := nI (i + 1)) (by exact nI_add i 1) ?_
  refine rg_sld C0 hX hbl hbB hH (j := i + 1) ⟨by omega, hL⟩ dL_law_691 ?_
  refine lv_aload_n hx hb dL_law_692 rfl (lv_at hl 0 rfl) ?_
  refine lv_iload hx hb dL_law_693 (lv_at hl 4 rfl) ?_
  refine lv_iconst (v := 2) hx hb dL_law_695 (by decide) ?_
  refine lv_iadd hx hb dL_law_696 ?_
  refine rg_topi (y := nI (i + 2)) (by exact nI_add i 2) ?_
  refine rg_sld C0 hX hbl hbB hH (j := i + 2) ⟨by omega, hL⟩ dL_law_697 ?_
  refine lv_aload_n hx hb dL_law_698 rfl (lv_at hl 3 rfl) ?_
  refine rg_callSWi C0 hH (As := [.ref (B + 0), .int (xs (i + 1)), .int (xs (i + 2)), .ref (B + 432)]) (rest := []) (k_L_mend l hst E B M (xs (i + 1)) (xs (i + 2)) (rg_Inv_ci h)) (rg_cwSW (hh := [(0, 10, 13, 21), (0, 10, 17, 15)]) 4 C0.1.2.2.2.2 tw_m_L_129 tw_s_L_mend tw_n_L tw_c_L_mend rfl rfl hd_L_mend ⟨Nat.le_of_ble_eq_true rfl, Nat.le_of_ble_eq_true rfl⟩) rfl hl.1 rfl (Nat.le_of_ble_eq_true rfl) dL_law_699 ⟨by show _ ≤ (601024 : Nat); omega, by show _ ≤ (7293033 : Nat); omega⟩ (fun k9 Mw H locs e1 hH => ?_)
  have hC := pre_mend h e1
  refine lv_istore (lv' := [(5, .int k9), (0, .ref b), (1, .ref (B + 0)), (2, .ref (B + 412)), (3, .ref (B + 432)), (4, .int (nI i))]) hx hb dL_law_702 hl (by decide) rfl (fun ls hl => ?_)
  refine lv_aload_n hx hb dL_law_704 rfl (lv_at hl 3 rfl) ?_
  refine lv_aload_n hx hb dL_law_705 rfl (lv_at hl 1 rfl) ?_
  refine lv_iload hx hb dL_law_706 (lv_at hl 5 rfl) ?_
  refine lv_iconst (v := 1) hx hb dL_law_708 (by decide) ?_
  refine lv_iadd hx hb dL_law_709 ?_
  refine rg_topi (y := nI (i + 1)) (by exact nI_add i 1) ?_
  refine rg_sld C0 hX hbl hbB hH (j := i + 1) ⟨by omega, hL⟩ dL_law_710 ?_
  refine lv_aload_n hx hb dL_law_711 rfl (lv_at hl 1 rfl) ?_
  refine lv_iload hx hb dL_law_712 (lv_at hl 5 rfl) ?_
  refine lv_iconst (v := 2) hx hb dL_law_714 (by decide) ?_
  refine lv_iadd hx hb dL_law_715 ?_
  refine rg_topi (y := nI (i + 2)) (by exact nI_add i 2) ?_
  refine rg_sld C0 hX hbl hbB hH (j := i + 2) ⟨by omega, hL⟩ dL_law_716 ?_
  refine rg_callWi C0 hH (As := [.int (xs (i + 1)), .int (xs (i + 2))]) (rest := []) (o := 412) (ci := 7) (k_X7_mend l E B Mw (xs (i + 1)) (xs (i + 2)) hC) (rg_cw 2 C0.1.2.2.2.2 tw_m_L_131 tw_i_X7_mend tw_v_X7_mend tw_n_X7 tw_c_X7_mend rfl rfl hd_X7_mend ⟨Nat.le_of_ble_eq_true rfl, Nat.le_of_ble_eq_true rfl⟩) rfl (by decide) rfl (by decide) rfl hl.1 rfl (Nat.le_of_ble_eq_true rfl) dL_law_717 ⟨by show _ ≤ (601024 : Nat); omega, by show _ ≤ (7293033 : Nat); omega⟩ (fun r9 Mz H locs e2 hH => ?_)
  have hs := sim_mend h e1 e2
  refine lv_istore (lv' := [(6, .int r9), (5, .int k9), (0, .ref b), (1, .ref (B + 0)), (2, .ref (B + 412)), (3, .ref (B + 432)), (4, .int (nI i))]) hx hb dL_law_720 hl (by decide) rfl (fun ls hl => ?_)
  refine lv_aload_n hx hb dL_law_722 rfl (lv_at hl 4 rfl) ?_
  refine rg_callGi C0 hH (As := []) (rest := []) (o := 412) (ci := 7) (k_X7_thrown l E B Mz) (rg_cw 0 C0.1.2.2.2.2 tw_m_L_93 tw_i_X7_thrown tw_v_X7_thrown tw_n_X7 tw_c_X7_thrown rfl rfl hd_X7_thrown ⟨Nat.le_of_ble_eq_true rfl, Nat.le_of_ble_eq_true rfl⟩) rfl (by decide) rfl (by decide) rfl hl.1 rfl (Nat.le_of_ble_eq_true rfl) dL_law_723 ⟨by show _ ≤ (601024 : Nat); omega, by show _ ≤ (7293033 : Nat); omega⟩ (fun H locs hH => ?_)
  refine lv_iload hx hb dL_law_726 (lv_at hl 1 rfl) ?_
  refine lv_icmp_eq (tgt := 733) hx hb dL_law_728 (by decide) (fun c_728 => ?_) (fun c_728 => ?_)
  · refine lv_iload hx hb dL_law_733 (lv_at hl 1 rfl) ?_
    refine lv_if_ne (tgt := 750) hx hb dL_law_735 (by decide) (fun c_735 => ?_) (fun c_735 => ?_)
    · refine lv_goto (tgt := 1539) hx hb dL_law_750 (by decide) ?_
      refine W.widen (k := cells + 6) (n := slots + 36) (by omega) (by omega) ?_
      exact kk _ _ _ _ hs.2.2 hH (lv_sub hl [2, 3, 4, 5, 6] rfl)
    · refine lv_aload_n hx hb dL_law_738 rfl (lv_at hl 5 rfl) ?_
      refine lv_iconst (v := 0) hx hb dL_law_739 (by decide) ?_
      refine rg_lald C0 hH (o := 432) (by decide) rfl (rg_vin rfl (by exact (vp_in_nI (Nat.zero_lt_one) (by omega) : vp_in (nI 0) 1))) dL_law_740 ?_
      refine rg_topl (y := Mz.2 432 0) (by exact rfl) ?_
      refine lv_iload hx hb dL_law_741 (lv_at hl 0 rfl) ?_
      refine lv_i2l hx hb dL_law_743 rfl ?_
      refine W.lcmp hx hb dL_law_744 ?_
      refine lv_if_eq (tgt := 750) hx hb dL_law_745 (by decide) (fun c_745 => ?_) (fun c_745 => ?_)
      · refine lv_goto (tgt := 1539) hx hb dL_law_750 (by decide) ?_
        refine W.widen (k := cells + 6) (n := slots + 36) (by omega) (by omega) ?_
        exact kk _ _ _ _ hs.2.2 hH (lv_sub hl [2, 3, 4, 5, 6] rfl)
      · exact absurd (rg_cmp0.mpr (hs.2.1 c_735)) c_745
  · exact absurd hs.1 c_728
set_option maxHeartbeats 4000000 in
set_option maxRecDepth 100000 in
theorem law_give {p : Program} {l : Launch} {e : Env} {s : State} {m : MethodId} {args : Array Value} {below : List Frame} {meth : Method} {c : Code} {H : Heap} {locs : List Loc} {cells slots : Nat} {Q : State → Prop} {ls : Array Slot} {E : rg_Env} {B : Nat} {M : rg_Mem} {b L i : Nat} {xs : Nat → Int32} (hst : l.stackTraces = false) (C0 : rg_Cx p m c cL_law 7 s args "RengaHallLaw" E B) (hX : va_X b L xs s s.heap) (hbl : b < s.heap.size) (hbB : b < B) (hL : L ≤ 2560) (hi : i + 5 ≤ L) (h : rg_Inv M) (hH : rg_H E B 433 rg_R0 M s H locs) (hl : lv_has ls 7 [(0, .ref b), (1, .ref (B + 0)), (2, .ref (B + 412)), (3, .ref (B + 432)), (4, .int (nI i))]) (hc : cells + 6 ≤ 601024 ∧ slots + 36 ≤ 7293033)
    (kk : ∀ (M1 : rg_Mem) (H1 : Heap) (locs1 : List Loc) (ls1 : Array Slot), rg_Inv M1 → rg_H E B 433 rg_R0 M1 s H1 locs1 → lv_has ls1 7 [(0, .ref b), (1, .ref (B + 0)), (2, .ref (B + 412)), (3, .ref (B + 432)), (4, .int (nI i))] → W p l e room_1 s m args below meth c H1 locs1 (cells + 6) (slots + 36) Q (F0 m 1539 ls1 [])) : W p l e room_1 s m args below meth c H locs cells slots Q (F0 m 753 ls []) := by
  have hx := C0.1.1
  have hb := C0.1.2.1
  refine lv_aload_n hx hb dL_law_753 rfl (lv_at hl 1 rfl) ?_
  refine lv_aload_n hx hb dL_law_754 rfl (lv_at hl 0 rfl) ?_
  refine lv_iload hx hb dL_law_755 (lv_at hl 4 rfl) ?_
  refine lv_iconst (v := 1) hx hb dL_law_757 (by decide) ?_
  refine lv_iadd hx hb dL_law_758 ?_
  refine rg_topi (y := nI (i + 1)) (by exact nI_add i 1) ?_
  refine rg_sld C0 hX hbl hbB hH (j := i + 1) ⟨by omega, hL⟩ dL_law_759 ?_
  refine lv_aload_n hx hb dL_law_760 rfl (lv_at hl 0 rfl) ?_
  refine lv_iload hx hb dL_law_761 (lv_at hl 4 rfl) ?_
  refine lv_iconst (v := 2) hx hb dL_law_763 (by decide) ?_
  refine lv_iadd hx hb dL_law_764 ?_
  refine rg_topi (y := nI (i + 2)) (by exact nI_add i 2) ?_
  refine rg_sld C0 hX hbl hbB hH (j := i + 2) ⟨by omega, hL⟩ dL_law_765 ?_
  refine lv_aload_n hx hb dL_law_766 rfl (lv_at hl 0 rfl) ?_
  refine lv_iload hx hb dL_law_767 (lv_at hl 4 rfl) ?_
  refine lv_iconst (v := 3) hx hb dL_law_769 (by decide) ?_
  refine lv_iadd hx hb dL_law_770 ?_
  refine rg_topi (y := nI (i + 3)) (by exact nI_add i 3) ?_
  refine rg_sld C0 hX hbl hbB hH (j := i + 3) ⟨by omega, hL⟩ dL_law_771 ?_
  refine lv_aload_n hx hb dL_law_772 rfl (lv_at hl 3 rfl) ?_
  refine rg_callSWi C0 hH (As := [.ref (B + 0), .int (xs (i + 1)), .int (xs (i + 2)), .int (xs (i + 3)), .ref (B + 432)]) (rest := []) (k_L_give l hst E B M (xs (i + 1)) (xs (i + 2)) (xs (i + 3)) (rg_Inv_ci h)) (rg_cwSW (hh := [(0, 12, 15, 21), (0, 12, 19, 13)]) 5 C0.1.2.2.2.2 tw_m_L_132 tw_s_L_give tw_n_L tw_c_L_give rfl rfl hd_L_give ⟨Nat.le_of_ble_eq_true rfl, Nat.le_of_ble_eq_true rfl⟩) rfl hl.1 rfl (Nat.le_of_ble_eq_true rfl) dL_law_773 ⟨by show _ ≤ (601024 : Nat); omega, by show _ ≤ (7293033 : Nat); omega⟩ (fun k9 Mw H locs e1 hH => ?_)
  have hC := pre_give h e1
  refine lv_istore (lv' := [(5, .int k9), (0, .ref b), (1, .ref (B + 0)), (2, .ref (B + 412)), (3, .ref (B + 432)), (4, .int (nI i))]) hx hb dL_law_776 hl (by decide) rfl (fun ls hl => ?_)
  refine lv_aload_n hx hb dL_law_778 rfl (lv_at hl 3 rfl) ?_
  refine lv_aload_n hx hb dL_law_779 rfl (lv_at hl 1 rfl) ?_
  refine lv_iload hx hb dL_law_780 (lv_at hl 5 rfl) ?_
  refine lv_iconst (v := 1) hx hb dL_law_782 (by decide) ?_
  refine lv_iadd hx hb dL_law_783 ?_
  refine rg_topi (y := nI (i + 1)) (by exact nI_add i 1) ?_
  refine rg_sld C0 hX hbl hbB hH (j := i + 1) ⟨by omega, hL⟩ dL_law_784 ?_
  refine lv_aload_n hx hb dL_law_785 rfl (lv_at hl 1 rfl) ?_
  refine lv_iload hx hb dL_law_786 (lv_at hl 5 rfl) ?_
  refine lv_iconst (v := 2) hx hb dL_law_788 (by decide) ?_
  refine lv_iadd hx hb dL_law_789 ?_
  refine rg_topi (y := nI (i + 2)) (by exact nI_add i 2) ?_
  refine rg_sld C0 hX hbl hbB hH (j := i + 2) ⟨by omega, hL⟩ dL_law_790 ?_
  refine lv_aload_n hx hb dL_law_791 rfl (lv_at hl 1 rfl) ?_
  refine lv_iload hx hb dL_law_792 (lv_at hl 5 rfl) ?_
  refine lv_iconst (v := 3) hx hb dL_law_794 (by decide) ?_
  refine lv_iadd hx hb dL_law_795 ?_
  refine rg_topi (y := nI (i + 3)) (by exact nI_add i 3) ?_
  refine rg_sld C0 hX hbl hbB hH (j := i + 3) ⟨by omega, hL⟩ dL_law_796 ?_
  refine rg_callWi C0 hH (As := [.int (xs (i + 1)), .int (xs (i + 2)), .int (xs (i + 3))]) (rest := []) (o := 412) (ci := 7) (k_X7_give l E B Mw (xs (i + 1)) (xs (i + 2)) (xs (i + 3)) hC) (rg_cw 3 C0.1.2.2.2.2 tw_m_L_134 tw_i_X7_give tw_v_X7_give tw_n_X7 tw_c_X7_give rfl rfl hd_X7_give ⟨Nat.le_of_ble_eq_true rfl, Nat.le_of_ble_eq_true rfl⟩) rfl (by decide) rfl (by decide) rfl hl.1 rfl (Nat.le_of_ble_eq_true rfl) dL_law_797 ⟨by show _ ≤ (601024 : Nat); omega, by show _ ≤ (7293033 : Nat); omega⟩ (fun r9 Mz H locs e2 hH => ?_)
  have hs := sim_give h e1 e2
  refine lv_istore (lv' := [(6, .int r9), (5, .int k9), (0, .ref b), (1, .ref (B + 0)), (2, .ref (B + 412)), (3, .ref (B + 432)), (4, .int (nI i))]) hx hb dL_law_800 hl (by decide) rfl (fun ls hl => ?_)
  refine lv_aload_n hx hb dL_law_802 rfl (lv_at hl 4 rfl) ?_
  refine rg_callGi C0 hH (As := []) (rest := []) (o := 412) (ci := 7) (k_X7_thrown l E B Mz) (rg_cw 0 C0.1.2.2.2.2 tw_m_L_93 tw_i_X7_thrown tw_v_X7_thrown tw_n_X7 tw_c_X7_thrown rfl rfl hd_X7_thrown ⟨Nat.le_of_ble_eq_true rfl, Nat.le_of_ble_eq_true rfl⟩) rfl (by decide) rfl (by decide) rfl hl.1 rfl (Nat.le_of_ble_eq_true rfl) dL_law_803 ⟨by show _ ≤ (601024 : Nat); omega, by show _ ≤ (7293033 : Nat); omega⟩ (fun H locs hH => ?_)
  refine lv_iload hx hb dL_law_806 (lv_at hl 1 rfl) ?_
  refine lv_icmp_eq (tgt := 813) hx hb dL_law_808 (by decide) (fun c_808 => ?_) (fun c_808 => ?_)
  · refine lv_iload hx hb dL_law_813 (lv_at hl 1 rfl) ?_
    refine lv_if_ne (tgt := 830) hx hb dL_law_815 (by decide) (fun c_815 => ?_) (fun c_815 => ?_)
    · refine lv_goto (tgt := 1539) hx hb dL_law_830 (by decide) ?_
      refine W.widen (k := cells + 6) (n := slots + 36) (by omega) (by omega) ?_
      exact kk _ _ _ _ hs.2.2 hH (lv_sub hl [2, 3, 4, 5, 6] rfl)
    · refine lv_aload_n hx hb dL_law_818 rfl (lv_at hl 5 rfl) ?_
      refine lv_iconst (v := 0) hx hb dL_law_819 (by decide) ?_
      refine rg_lald C0 hH (o := 432) (by decide) rfl (rg_vin rfl (by exact (vp_in_nI (Nat.zero_lt_one) (by omega) : vp_in (nI 0) 1))) dL_law_820 ?_
      refine rg_topl (y := Mz.2 432 0) (by exact rfl) ?_
      refine lv_iload hx hb dL_law_821 (lv_at hl 0 rfl) ?_
      refine lv_i2l hx hb dL_law_823 rfl ?_
      refine W.lcmp hx hb dL_law_824 ?_
      refine lv_if_eq (tgt := 830) hx hb dL_law_825 (by decide) (fun c_825 => ?_) (fun c_825 => ?_)
      · refine lv_goto (tgt := 1539) hx hb dL_law_830 (by decide) ?_
        refine W.widen (k := cells + 6) (n := slots + 36) (by omega) (by omega) ?_
        exact kk _ _ _ _ hs.2.2 hH (lv_sub hl [2, 3, 4, 5, 6] rfl)
      · exact absurd (rg_cmp0.mpr (hs.2.1 c_815)) c_825
  · exact absurd hs.1 c_808
set_option maxHeartbeats 4000000 in
set_option maxRecDepth 100000 in
theorem law_copy {p : Program} {l : Launch} {e : Env} {s : State} {m : MethodId} {args : Array Value} {below : List Frame} {meth : Method} {c : Code} {H : Heap} {locs : List Loc} {cells slots : Nat} {Q : State → Prop} {ls : Array Slot} {E : rg_Env} {B : Nat} {M : rg_Mem} {b L i : Nat} {xs : Nat → Int32} (hst : l.stackTraces = false) (C0 : rg_Cx p m c cL_law 7 s args "RengaHallLaw" E B) (hX : va_X b L xs s s.heap) (hbl : b < s.heap.size) (hbB : b < B) (hL : L ≤ 2560) (hi : i + 5 ≤ L) (h : rg_Inv M) (hH : rg_H E B 433 rg_R0 M s H locs) (hl : lv_has ls 7 [(0, .ref b), (1, .ref (B + 0)), (2, .ref (B + 412)), (3, .ref (B + 432)), (4, .int (nI i))]) (hc : cells + 6 ≤ 601024 ∧ slots + 36 ≤ 7293033)
    (kk : ∀ (M1 : rg_Mem) (H1 : Heap) (locs1 : List Loc) (ls1 : Array Slot), rg_Inv M1 → rg_H E B 433 rg_R0 M1 s H1 locs1 → lv_has ls1 7 [(0, .ref b), (1, .ref (B + 0)), (2, .ref (B + 412)), (3, .ref (B + 432)), (4, .int (nI i))] → W p l e room_1 s m args below meth c H1 locs1 (cells + 6) (slots + 36) Q (F0 m 1539 ls1 [])) : W p l e room_1 s m args below meth c H locs cells slots Q (F0 m 833 ls []) := by
  have hx := C0.1.1
  have hb := C0.1.2.1
  refine lv_aload_n hx hb dL_law_833 rfl (lv_at hl 1 rfl) ?_
  refine lv_aload_n hx hb dL_law_834 rfl (lv_at hl 0 rfl) ?_
  refine lv_iload hx hb dL_law_835 (lv_at hl 4 rfl) ?_
  refine lv_iconst (v := 1) hx hb dL_law_837 (by decide) ?_
  refine lv_iadd hx hb dL_law_838 ?_
  refine rg_topi (y := nI (i + 1)) (by exact nI_add i 1) ?_
  refine rg_sld C0 hX hbl hbB hH (j := i + 1) ⟨by omega, hL⟩ dL_law_839 ?_
  refine lv_aload_n hx hb dL_law_840 rfl (lv_at hl 3 rfl) ?_
  refine rg_callSWi C0 hH (As := [.ref (B + 0), .int (xs (i + 1)), .ref (B + 432)]) (rest := []) (k_L_copy l hst E B M (xs (i + 1)) (rg_Inv_ci h)) (rg_cwSW (hh := [(0, 9, 12, 21), (0, 9, 15, 15)]) 3 C0.1.2.2.2.2 tw_m_L_135 tw_s_L_copy tw_n_L tw_c_L_copy rfl rfl hd_L_copy ⟨Nat.le_of_ble_eq_true rfl, Nat.le_of_ble_eq_true rfl⟩) rfl hl.1 rfl (Nat.le_of_ble_eq_true rfl) dL_law_841 ⟨by show _ ≤ (601024 : Nat); omega, by show _ ≤ (7293033 : Nat); omega⟩ (fun k9 Mw H locs e1 hH => ?_)
  have hC := pre_copy h e1
  refine lv_istore (lv' := [(5, .int k9), (0, .ref b), (1, .ref (B + 0)), (2, .ref (B + 412)), (3, .ref (B + 432)), (4, .int (nI i))]) hx hb dL_law_844 hl (by decide) rfl (fun ls hl => ?_)
  refine lv_aload_n hx hb dL_law_846 rfl (lv_at hl 3 rfl) ?_
  refine lv_aload_n hx hb dL_law_847 rfl (lv_at hl 1 rfl) ?_
  refine lv_iload hx hb dL_law_848 (lv_at hl 5 rfl) ?_
  refine lv_iconst (v := 1) hx hb dL_law_850 (by decide) ?_
  refine lv_iadd hx hb dL_law_851 ?_
  refine rg_topi (y := nI (i + 1)) (by exact nI_add i 1) ?_
  refine rg_sld C0 hX hbl hbB hH (j := i + 1) ⟨by omega, hL⟩ dL_law_852 ?_
  refine rg_callWi C0 hH (As := [.int (xs (i + 1))]) (rest := []) (o := 412) (ci := 7) (k_X7_copy l E B Mw (xs (i + 1)) hC) (rg_cw 1 C0.1.2.2.2.2 tw_m_L_137 tw_i_X7_copy tw_v_X7_copy tw_n_X7 tw_c_X7_copy rfl rfl hd_X7_copy ⟨Nat.le_of_ble_eq_true rfl, Nat.le_of_ble_eq_true rfl⟩) rfl (by decide) rfl (by decide) rfl hl.1 rfl (Nat.le_of_ble_eq_true rfl) dL_law_853 ⟨by show _ ≤ (601024 : Nat); omega, by show _ ≤ (7293033 : Nat); omega⟩ (fun r9 Mz H locs e2 hH => ?_)
  have hs := sim_copy h e1 e2
  refine lv_istore (lv' := [(6, .int r9), (5, .int k9), (0, .ref b), (1, .ref (B + 0)), (2, .ref (B + 412)), (3, .ref (B + 432)), (4, .int (nI i))]) hx hb dL_law_856 hl (by decide) rfl (fun ls hl => ?_)
  refine lv_aload_n hx hb dL_law_858 rfl (lv_at hl 4 rfl) ?_
  refine rg_callGi C0 hH (As := []) (rest := []) (o := 412) (ci := 7) (k_X7_thrown l E B Mz) (rg_cw 0 C0.1.2.2.2.2 tw_m_L_93 tw_i_X7_thrown tw_v_X7_thrown tw_n_X7 tw_c_X7_thrown rfl rfl hd_X7_thrown ⟨Nat.le_of_ble_eq_true rfl, Nat.le_of_ble_eq_true rfl⟩) rfl (by decide) rfl (by decide) rfl hl.1 rfl (Nat.le_of_ble_eq_true rfl) dL_law_859 ⟨by show _ ≤ (601024 : Nat); omega, by show _ ≤ (7293033 : Nat); omega⟩ (fun H locs hH => ?_)
  refine lv_iload hx hb dL_law_862 (lv_at hl 1 rfl) ?_
  refine lv_icmp_eq (tgt := 869) hx hb dL_law_864 (by decide) (fun c_864 => ?_) (fun c_864 => ?_)
  · refine lv_iload hx hb dL_law_869 (lv_at hl 1 rfl) ?_
    refine lv_if_ne (tgt := 886) hx hb dL_law_871 (by decide) (fun c_871 => ?_) (fun c_871 => ?_)
    · refine lv_goto (tgt := 1539) hx hb dL_law_886 (by decide) ?_
      refine W.widen (k := cells + 6) (n := slots + 36) (by omega) (by omega) ?_
      exact kk _ _ _ _ hs.2.2 hH (lv_sub hl [2, 3, 4, 5, 6] rfl)
    · refine lv_aload_n hx hb dL_law_874 rfl (lv_at hl 5 rfl) ?_
      refine lv_iconst (v := 0) hx hb dL_law_875 (by decide) ?_
      refine rg_lald C0 hH (o := 432) (by decide) rfl (rg_vin rfl (by exact (vp_in_nI (Nat.zero_lt_one) (by omega) : vp_in (nI 0) 1))) dL_law_876 ?_
      refine rg_topl (y := Mz.2 432 0) (by exact rfl) ?_
      refine lv_iload hx hb dL_law_877 (lv_at hl 0 rfl) ?_
      refine lv_i2l hx hb dL_law_879 rfl ?_
      refine W.lcmp hx hb dL_law_880 ?_
      refine lv_if_eq (tgt := 886) hx hb dL_law_881 (by decide) (fun c_881 => ?_) (fun c_881 => ?_)
      · refine lv_goto (tgt := 1539) hx hb dL_law_886 (by decide) ?_
        refine W.widen (k := cells + 6) (n := slots + 36) (by omega) (by omega) ?_
        exact kk _ _ _ _ hs.2.2 hH (lv_sub hl [2, 3, 4, 5, 6] rfl)
      · exact absurd (rg_cmp0.mpr (hs.2.1 c_871)) c_881
  · exact absurd hs.1 c_864
set_option maxHeartbeats 4000000 in
set_option maxRecDepth 100000 in
theorem law_write {p : Program} {l : Launch} {e : Env} {s : State} {m : MethodId} {args : Array Value} {below : List Frame} {meth : Method} {c : Code} {H : Heap} {locs : List Loc} {cells slots : Nat} {Q : State → Prop} {ls : Array Slot} {E : rg_Env} {B : Nat} {M : rg_Mem} {b L i : Nat} {xs : Nat → Int32} (hst : l.stackTraces = false) (C0 : rg_Cx p m c cL_law 7 s args "RengaHallLaw" E B) (hX : va_X b L xs s s.heap) (hbl : b < s.heap.size) (hbB : b < B) (hL : L ≤ 2560) (hi : i + 5 ≤ L) (h : rg_Inv M) (hH : rg_H E B 433 rg_R0 M s H locs) (hl : lv_has ls 7 [(0, .ref b), (1, .ref (B + 0)), (2, .ref (B + 412)), (3, .ref (B + 432)), (4, .int (nI i))]) (hc : cells + 6 ≤ 601024 ∧ slots + 36 ≤ 7293033)
    (kk : ∀ (M1 : rg_Mem) (H1 : Heap) (locs1 : List Loc) (ls1 : Array Slot), rg_Inv M1 → rg_H E B 433 rg_R0 M1 s H1 locs1 → lv_has ls1 7 [(0, .ref b), (1, .ref (B + 0)), (2, .ref (B + 412)), (3, .ref (B + 432)), (4, .int (nI i))] → W p l e room_1 s m args below meth c H1 locs1 (cells + 6) (slots + 36) Q (F0 m 1539 ls1 [])) : W p l e room_1 s m args below meth c H locs cells slots Q (F0 m 889 ls []) := by
  have hx := C0.1.1
  have hb := C0.1.2.1
  refine lv_aload_n hx hb dL_law_889 rfl (lv_at hl 1 rfl) ?_
  refine lv_aload_n hx hb dL_law_890 rfl (lv_at hl 0 rfl) ?_
  refine lv_iload hx hb dL_law_891 (lv_at hl 4 rfl) ?_
  refine lv_iconst (v := 1) hx hb dL_law_893 (by decide) ?_
  refine lv_iadd hx hb dL_law_894 ?_
  refine rg_topi (y := nI (i + 1)) (by exact nI_add i 1) ?_
  refine rg_sld C0 hX hbl hbB hH (j := i + 1) ⟨by omega, hL⟩ dL_law_895 ?_
  refine lv_aload_n hx hb dL_law_896 rfl (lv_at hl 0 rfl) ?_
  refine lv_iload hx hb dL_law_897 (lv_at hl 4 rfl) ?_
  refine lv_iconst (v := 2) hx hb dL_law_899 (by decide) ?_
  refine lv_iadd hx hb dL_law_900 ?_
  refine rg_topi (y := nI (i + 2)) (by exact nI_add i 2) ?_
  refine rg_sld C0 hX hbl hbB hH (j := i + 2) ⟨by omega, hL⟩ dL_law_901 ?_
  refine lv_aload_n hx hb dL_law_902 rfl (lv_at hl 0 rfl) ?_
  refine lv_iload hx hb dL_law_903 (lv_at hl 4 rfl) ?_
  refine lv_iconst (v := 3) hx hb dL_law_905 (by decide) ?_
  refine lv_iadd hx hb dL_law_906 ?_
  refine rg_topi (y := nI (i + 3)) (by exact nI_add i 3) ?_
  refine rg_sld C0 hX hbl hbB hH (j := i + 3) ⟨by omega, hL⟩ dL_law_907 ?_
  refine lv_aload_n hx hb dL_law_908 rfl (lv_at hl 0 rfl) ?_
  refine lv_iload hx hb dL_law_909 (lv_at hl 4 rfl) ?_
  refine lv_iconst (v := 4) hx hb dL_law_911 (by decide) ?_
  refine lv_iadd hx hb dL_law_912 ?_
  refine rg_topi (y := nI (i + 4)) (by exact nI_add i 4) ?_
  refine rg_sld C0 hX hbl hbB hH (j := i + 4) ⟨by omega, hL⟩ dL_law_913 ?_
  refine lv_aload_n hx hb dL_law_914 rfl (lv_at hl 3 rfl) ?_
  refine rg_callSWi C0 hH (As := [.ref (B + 0), .int (xs (i + 1)), .int (xs (i + 2)), .int (xs (i + 3)), .int (xs (i + 4)), .ref (B + 432)]) (rest := []) (k_L_write l hst E B M (xs (i + 1)) (xs (i + 2)) (xs (i + 3)) (xs (i + 4)) (rg_Inv_ci h)) (rg_cwSW (hh := [(0, 14, 17, 21)]) 6 C0.1.2.2.2.2 tw_m_L_138 tw_s_L_write tw_n_L tw_c_L_write rfl rfl hd_L_write ⟨Nat.le_of_ble_eq_true rfl, Nat.le_of_ble_eq_true rfl⟩) rfl hl.1 rfl (Nat.le_of_ble_eq_true rfl) dL_law_915 ⟨by show _ ≤ (601024 : Nat); omega, by show _ ≤ (7293033 : Nat); omega⟩ (fun k9 Mw H locs e1 hH => ?_)
  have hC := pre_write h e1
  refine lv_istore (lv' := [(5, .int k9), (0, .ref b), (1, .ref (B + 0)), (2, .ref (B + 412)), (3, .ref (B + 432)), (4, .int (nI i))]) hx hb dL_law_918 hl (by decide) rfl (fun ls hl => ?_)
  refine lv_aload_n hx hb dL_law_920 rfl (lv_at hl 3 rfl) ?_
  refine lv_aload_n hx hb dL_law_921 rfl (lv_at hl 1 rfl) ?_
  refine lv_iload hx hb dL_law_922 (lv_at hl 5 rfl) ?_
  refine lv_iconst (v := 1) hx hb dL_law_924 (by decide) ?_
  refine lv_iadd hx hb dL_law_925 ?_
  refine rg_topi (y := nI (i + 1)) (by exact nI_add i 1) ?_
  refine rg_sld C0 hX hbl hbB hH (j := i + 1) ⟨by omega, hL⟩ dL_law_926 ?_
  refine lv_aload_n hx hb dL_law_927 rfl (lv_at hl 1 rfl) ?_
  refine lv_iload hx hb dL_law_928 (lv_at hl 5 rfl) ?_
  refine lv_iconst (v := 2) hx hb dL_law_930 (by decide) ?_
  refine lv_iadd hx hb dL_law_931 ?_
  refine rg_topi (y := nI (i + 2)) (by exact nI_add i 2) ?_
  refine rg_sld C0 hX hbl hbB hH (j := i + 2) ⟨by omega, hL⟩ dL_law_932 ?_
  refine lv_aload_n hx hb dL_law_933 rfl (lv_at hl 1 rfl) ?_
  refine lv_iload hx hb dL_law_934 (lv_at hl 5 rfl) ?_
  refine lv_iconst (v := 3) hx hb dL_law_936 (by decide) ?_
  refine lv_iadd hx hb dL_law_937 ?_
  refine rg_topi (y := nI (i + 3)) (by exact nI_add i 3) ?_
  refine rg_sld C0 hX hbl hbB hH (j := i + 3) ⟨by omega, hL⟩ dL_law_938 ?_
  refine lv_aload_n hx hb dL_law_939 rfl (lv_at hl 1 rfl) ?_
  refine lv_iload hx hb dL_law_940 (lv_at hl 5 rfl) ?_
  refine lv_iconst (v := 4) hx hb dL_law_942 (by decide) ?_
  refine lv_iadd hx hb dL_law_943 ?_
  refine rg_topi (y := nI (i + 4)) (by exact nI_add i 4) ?_
  refine rg_sld C0 hX hbl hbB hH (j := i + 4) ⟨by omega, hL⟩ dL_law_944 ?_
  refine rg_callWi C0 hH (As := [.int (xs (i + 1)), .int (xs (i + 2)), .int (xs (i + 3)), .int (xs (i + 4))]) (rest := []) (o := 412) (ci := 7) (k_X7_write l E B Mw (xs (i + 1)) (xs (i + 2)) (xs (i + 3)) (xs (i + 4)) hC) (rg_cw 4 C0.1.2.2.2.2 tw_m_L_141 tw_i_X7_write tw_v_X7_write tw_n_X7 tw_c_X7_write rfl rfl hd_X7_write ⟨Nat.le_of_ble_eq_true rfl, Nat.le_of_ble_eq_true rfl⟩) rfl (by decide) rfl (by decide) rfl hl.1 rfl (Nat.le_of_ble_eq_true rfl) dL_law_945 ⟨by show _ ≤ (601024 : Nat); omega, by show _ ≤ (7293033 : Nat); omega⟩ (fun r9 Mz H locs e2 hH => ?_)
  have hs := sim_write h e1 e2
  refine lv_istore (lv' := [(6, .int r9), (5, .int k9), (0, .ref b), (1, .ref (B + 0)), (2, .ref (B + 412)), (3, .ref (B + 432)), (4, .int (nI i))]) hx hb dL_law_948 hl (by decide) rfl (fun ls hl => ?_)
  refine lv_aload_n hx hb dL_law_950 rfl (lv_at hl 4 rfl) ?_
  refine rg_callGi C0 hH (As := []) (rest := []) (o := 412) (ci := 7) (k_X7_thrown l E B Mz) (rg_cw 0 C0.1.2.2.2.2 tw_m_L_93 tw_i_X7_thrown tw_v_X7_thrown tw_n_X7 tw_c_X7_thrown rfl rfl hd_X7_thrown ⟨Nat.le_of_ble_eq_true rfl, Nat.le_of_ble_eq_true rfl⟩) rfl (by decide) rfl (by decide) rfl hl.1 rfl (Nat.le_of_ble_eq_true rfl) dL_law_951 ⟨by show _ ≤ (601024 : Nat); omega, by show _ ≤ (7293033 : Nat); omega⟩ (fun H locs hH => ?_)
  refine lv_iload hx hb dL_law_954 (lv_at hl 1 rfl) ?_
  refine lv_icmp_eq (tgt := 961) hx hb dL_law_956 (by decide) (fun c_956 => ?_) (fun c_956 => ?_)
  · refine lv_iload hx hb dL_law_961 (lv_at hl 1 rfl) ?_
    refine lv_if_ne (tgt := 978) hx hb dL_law_963 (by decide) (fun c_963 => ?_) (fun c_963 => ?_)
    · refine lv_goto (tgt := 1539) hx hb dL_law_978 (by decide) ?_
      refine W.widen (k := cells + 6) (n := slots + 36) (by omega) (by omega) ?_
      exact kk _ _ _ _ hs.2.2 hH (lv_sub hl [2, 3, 4, 5, 6] rfl)
    · refine lv_aload_n hx hb dL_law_966 rfl (lv_at hl 5 rfl) ?_
      refine lv_iconst (v := 0) hx hb dL_law_967 (by decide) ?_
      refine rg_lald C0 hH (o := 432) (by decide) rfl (rg_vin rfl (by exact (vp_in_nI (Nat.zero_lt_one) (by omega) : vp_in (nI 0) 1))) dL_law_968 ?_
      refine rg_topl (y := Mz.2 432 0) (by exact rfl) ?_
      refine lv_iload hx hb dL_law_969 (lv_at hl 0 rfl) ?_
      refine lv_i2l hx hb dL_law_971 rfl ?_
      refine W.lcmp hx hb dL_law_972 ?_
      refine lv_if_eq (tgt := 978) hx hb dL_law_973 (by decide) (fun c_973 => ?_) (fun c_973 => ?_)
      · refine lv_goto (tgt := 1539) hx hb dL_law_978 (by decide) ?_
        refine W.widen (k := cells + 6) (n := slots + 36) (by omega) (by omega) ?_
        exact kk _ _ _ _ hs.2.2 hH (lv_sub hl [2, 3, 4, 5, 6] rfl)
      · exact absurd (rg_cmp0.mpr (hs.2.1 c_963)) c_973
  · exact absurd hs.1 c_956
set_option maxHeartbeats 4000000 in
set_option maxRecDepth 100000 in
theorem law_hide {p : Program} {l : Launch} {e : Env} {s : State} {m : MethodId} {args : Array Value} {below : List Frame} {meth : Method} {c : Code} {H : Heap} {locs : List Loc} {cells slots : Nat} {Q : State → Prop} {ls : Array Slot} {E : rg_Env} {B : Nat} {M : rg_Mem} {b L i : Nat} {xs : Nat → Int32} (hst : l.stackTraces = false) (C0 : rg_Cx p m c cL_law 7 s args "RengaHallLaw" E B) (hX : va_X b L xs s s.heap) (hbl : b < s.heap.size) (hbB : b < B) (hL : L ≤ 2560) (hi : i + 5 ≤ L) (h : rg_Inv M) (hH : rg_H E B 433 rg_R0 M s H locs) (hl : lv_has ls 7 [(0, .ref b), (1, .ref (B + 0)), (2, .ref (B + 412)), (3, .ref (B + 432)), (4, .int (nI i))]) (hc : cells + 6 ≤ 601024 ∧ slots + 36 ≤ 7293033)
    (kk : ∀ (M1 : rg_Mem) (H1 : Heap) (locs1 : List Loc) (ls1 : Array Slot), rg_Inv M1 → rg_H E B 433 rg_R0 M1 s H1 locs1 → lv_has ls1 7 [(0, .ref b), (1, .ref (B + 0)), (2, .ref (B + 412)), (3, .ref (B + 432)), (4, .int (nI i))] → W p l e room_1 s m args below meth c H1 locs1 (cells + 6) (slots + 36) Q (F0 m 1539 ls1 [])) : W p l e room_1 s m args below meth c H locs cells slots Q (F0 m 981 ls []) := by
  have hx := C0.1.1
  have hb := C0.1.2.1
  refine lv_aload_n hx hb dL_law_981 rfl (lv_at hl 1 rfl) ?_
  refine lv_aload_n hx hb dL_law_982 rfl (lv_at hl 0 rfl) ?_
  refine lv_iload hx hb dL_law_983 (lv_at hl 4 rfl) ?_
  refine lv_iconst (v := 1) hx hb dL_law_985 (by decide) ?_
  refine lv_iadd hx hb dL_law_986 ?_
  refine rg_topi (y := nI (i + 1)) (by exact nI_add i 1) ?_
  refine rg_sld C0 hX hbl hbB hH (j := i + 1) ⟨by omega, hL⟩ dL_law_987 ?_
  refine lv_aload_n hx hb dL_law_988 rfl (lv_at hl 0 rfl) ?_
  refine lv_iload hx hb dL_law_989 (lv_at hl 4 rfl) ?_
  refine lv_iconst (v := 2) hx hb dL_law_991 (by decide) ?_
  refine lv_iadd hx hb dL_law_992 ?_
  refine rg_topi (y := nI (i + 2)) (by exact nI_add i 2) ?_
  refine rg_sld C0 hX hbl hbB hH (j := i + 2) ⟨by omega, hL⟩ dL_law_993 ?_
  have cut_1002 : ∀ (H : Heap) (locs : List Loc) (ls : Array Slot), rg_H E B 433 rg_R0 M s H locs → lv_has ls 7 [(0, .ref b), (1, .ref (B + 0)), (2, .ref (B + 412)), (3, .ref (B + 432)), (4, .int (nI i))] → W p l e room_1 s m args below meth c H locs cells slots Q (F0 m 1002 ls [.int (rg_b (¬ xs (i + 2) = 0)), .int (xs (i + 1)), .ref (B + 0)]) := by
    intro H locs ls hH hl
    refine lv_aload_n hx hb dL_law_1002 rfl (lv_at hl 3 rfl) ?_
    refine rg_callSWi C0 hH (As := [.ref (B + 0), .int (xs (i + 1)), .int (rg_b (¬ xs (i + 2) = 0)), .ref (B + 432)]) (rest := []) (k_L_hide l hst E B M (xs (i + 1)) (rg_b (¬ xs (i + 2) = 0)) (rg_Inv_ci h) rg_b_01) (rg_cwSW (hh := [(0, 17, 20, 21)]) 4 C0.1.2.2.2.2 tw_m_L_142 tw_s_L_hide tw_n_L tw_c_L_hide rfl rfl hd_L_hide ⟨Nat.le_of_ble_eq_true rfl, Nat.le_of_ble_eq_true rfl⟩) rfl hl.1 rfl (Nat.le_of_ble_eq_true rfl) dL_law_1003 ⟨by show _ ≤ (601024 : Nat); omega, by show _ ≤ (7293033 : Nat); omega⟩ (fun k9 Mw H locs e1 hH => ?_)
    have hC := pre_hide h rg_b_01 e1
    refine lv_istore (lv' := [(5, .int k9), (0, .ref b), (1, .ref (B + 0)), (2, .ref (B + 412)), (3, .ref (B + 432)), (4, .int (nI i))]) hx hb dL_law_1006 hl (by decide) rfl (fun ls hl => ?_)
    refine lv_aload_n hx hb dL_law_1008 rfl (lv_at hl 3 rfl) ?_
    refine lv_aload_n hx hb dL_law_1009 rfl (lv_at hl 1 rfl) ?_
    refine lv_iload hx hb dL_law_1010 (lv_at hl 5 rfl) ?_
    refine lv_iconst (v := 1) hx hb dL_law_1012 (by decide) ?_
    refine lv_iadd hx hb dL_law_1013 ?_
    refine rg_topi (y := nI (i + 1)) (by exact nI_add i 1) ?_
    refine rg_sld C0 hX hbl hbB hH (j := i + 1) ⟨by omega, hL⟩ dL_law_1014 ?_
    refine lv_aload_n hx hb dL_law_1015 rfl (lv_at hl 1 rfl) ?_
    refine lv_iload hx hb dL_law_1016 (lv_at hl 5 rfl) ?_
    refine lv_iconst (v := 2) hx hb dL_law_1018 (by decide) ?_
    refine lv_iadd hx hb dL_law_1019 ?_
    refine rg_topi (y := nI (i + 2)) (by exact nI_add i 2) ?_
    refine rg_sld C0 hX hbl hbB hH (j := i + 2) ⟨by omega, hL⟩ dL_law_1020 ?_
    have cut_1029 : ∀ (H : Heap) (locs : List Loc) (ls : Array Slot), rg_H E B 433 rg_R0 Mw s H locs → lv_has ls 7 [(5, .int k9), (0, .ref b), (1, .ref (B + 0)), (2, .ref (B + 412)), (3, .ref (B + 432)), (4, .int (nI i))] → W p l e room_1 s m args below meth c H locs (cells + 1) (slots + 6) Q (F0 m 1029 ls [.int (rg_b (¬ xs (i + 2) = 0)), .int (xs (i + 1)), .ref (B + 412)]) := by
      intro H locs ls hH hl
      refine rg_callWi C0 hH (As := [.int (xs (i + 1)), .int (rg_b (¬ xs (i + 2) = 0))]) (rest := []) (o := 412) (ci := 7) (k_X7_hide l E B Mw (xs (i + 1)) (rg_b (¬ xs (i + 2) = 0)) hC rg_b_01) (rg_cw 2 C0.1.2.2.2.2 tw_m_L_145 tw_i_X7_hide tw_v_X7_hide tw_n_X7 tw_c_X7_hide rfl rfl hd_X7_hide ⟨Nat.le_of_ble_eq_true rfl, Nat.le_of_ble_eq_true rfl⟩) rfl (by decide) rfl (by decide) rfl hl.1 rfl (Nat.le_of_ble_eq_true rfl) dL_law_1029 ⟨by show _ ≤ (601024 : Nat); omega, by show _ ≤ (7293033 : Nat); omega⟩ (fun r9 Mz H locs e2 hH => ?_)
      have hs := sim_hide h rg_b_01 e1 e2
      refine lv_istore (lv' := [(6, .int r9), (5, .int k9), (0, .ref b), (1, .ref (B + 0)), (2, .ref (B + 412)), (3, .ref (B + 432)), (4, .int (nI i))]) hx hb dL_law_1032 hl (by decide) rfl (fun ls hl => ?_)
      refine lv_aload_n hx hb dL_law_1034 rfl (lv_at hl 4 rfl) ?_
      refine rg_callGi C0 hH (As := []) (rest := []) (o := 412) (ci := 7) (k_X7_thrown l E B Mz) (rg_cw 0 C0.1.2.2.2.2 tw_m_L_93 tw_i_X7_thrown tw_v_X7_thrown tw_n_X7 tw_c_X7_thrown rfl rfl hd_X7_thrown ⟨Nat.le_of_ble_eq_true rfl, Nat.le_of_ble_eq_true rfl⟩) rfl (by decide) rfl (by decide) rfl hl.1 rfl (Nat.le_of_ble_eq_true rfl) dL_law_1035 ⟨by show _ ≤ (601024 : Nat); omega, by show _ ≤ (7293033 : Nat); omega⟩ (fun H locs hH => ?_)
      refine lv_iload hx hb dL_law_1038 (lv_at hl 1 rfl) ?_
      refine lv_icmp_eq (tgt := 1045) hx hb dL_law_1040 (by decide) (fun c_1040 => ?_) (fun c_1040 => ?_)
      · refine lv_iload hx hb dL_law_1045 (lv_at hl 1 rfl) ?_
        refine lv_if_ne (tgt := 1069) hx hb dL_law_1047 (by decide) (fun c_1047 => ?_) (fun c_1047 => ?_)
        · refine lv_goto (tgt := 1539) hx hb dL_law_1069 (by decide) ?_
          refine W.widen (k := cells + 6) (n := slots + 36) (by omega) (by omega) ?_
          exact kk _ _ _ _ hs.2.2 hH (lv_sub hl [2, 3, 4, 5, 6] rfl)
        · refine lv_aload_n hx hb dL_law_1050 rfl (lv_at hl 5 rfl) ?_
          refine lv_iconst (v := 0) hx hb dL_law_1051 (by decide) ?_
          refine rg_lald C0 hH (o := 432) (by decide) rfl (rg_vin rfl (by exact (vp_in_nI (Nat.zero_lt_one) (by omega) : vp_in (nI 0) 1))) dL_law_1052 ?_
          refine rg_topl (y := Mz.2 432 0) (by exact rfl) ?_
          refine lv_iload hx hb dL_law_1053 (lv_at hl 0 rfl) ?_
          refine lv_if_eq (tgt := 1062) hx hb dL_law_1055 (by decide) (fun c_1055 => ?_) (fun c_1055 => ?_)
          · refine lv_lconst (v := 0) hx hb dL_law_1062 (by decide) ?_
            refine W.lcmp hx hb dL_law_1063 ?_
            refine lv_if_eq (tgt := 1069) hx hb dL_law_1064 (by decide) (fun c_1064 => ?_) (fun c_1064 => ?_)
            · refine lv_goto (tgt := 1539) hx hb dL_law_1069 (by decide) ?_
              refine W.widen (k := cells + 6) (n := slots + 36) (by omega) (by omega) ?_
              exact kk _ _ _ _ hs.2.2 hH (lv_sub hl [2, 3, 4, 5, 6] rfl)
            · exact absurd (rg_cmp0.mpr ((hs.2.1 c_1047).trans (by rw [if_pos c_1055]))) c_1064
          · refine lv_lconst (v := 1) hx hb dL_law_1058 (by decide) ?_
            refine lv_goto (tgt := 1063) hx hb dL_law_1059 (by decide) ?_
            refine W.lcmp hx hb dL_law_1063 ?_
            refine lv_if_eq (tgt := 1069) hx hb dL_law_1064 (by decide) (fun c_1064 => ?_) (fun c_1064 => ?_)
            · refine lv_goto (tgt := 1539) hx hb dL_law_1069 (by decide) ?_
              refine W.widen (k := cells + 6) (n := slots + 36) (by omega) (by omega) ?_
              exact kk _ _ _ _ hs.2.2 hH (lv_sub hl [2, 3, 4, 5, 6] rfl)
            · exact absurd (rg_cmp0.mpr ((hs.2.1 c_1047).trans (by rw [if_neg c_1055]))) c_1064
      · exact absurd hs.1 c_1040
    refine lv_if_eq (tgt := 1028) hx hb dL_law_1021 (by decide) (fun c_1021 => ?_) (fun c_1021 => ?_)
    · refine lv_iconst (v := 0) hx hb dL_law_1028 (by decide) ?_
      refine rg_topi (y := rg_b (¬ xs (i + 2) = 0)) (by exact rg_b_f (fun q => q c_1021)) ?_
      exact cut_1029 _ _ _ hH (lv_sub hl [0, 1, 2, 3, 4, 5] rfl)
    · refine lv_iconst (v := 1) hx hb dL_law_1024 (by decide) ?_
      refine lv_goto (tgt := 1029) hx hb dL_law_1025 (by decide) ?_
      refine rg_topi (y := rg_b (¬ xs (i + 2) = 0)) (by exact rg_b_t c_1021) ?_
      exact cut_1029 _ _ _ hH (lv_sub hl [0, 1, 2, 3, 4, 5] rfl)
  refine lv_if_eq (tgt := 1001) hx hb dL_law_994 (by decide) (fun c_994 => ?_) (fun c_994 => ?_)
  · refine lv_iconst (v := 0) hx hb dL_law_1001 (by decide) ?_
    refine rg_topi (y := rg_b (¬ xs (i + 2) = 0)) (by exact rg_b_f (fun q => q c_994)) ?_
    exact cut_1002 _ _ _ hH (lv_sub hl [0, 1, 2, 3, 4] rfl)
  · refine lv_iconst (v := 1) hx hb dL_law_997 (by decide) ?_
    refine lv_goto (tgt := 1002) hx hb dL_law_998 (by decide) ?_
    refine rg_topi (y := rg_b (¬ xs (i + 2) = 0)) (by exact rg_b_t c_994) ?_
    exact cut_1002 _ _ _ hH (lv_sub hl [0, 1, 2, 3, 4] rfl)
set_option maxHeartbeats 4000000 in
set_option maxRecDepth 100000 in
theorem law_links {p : Program} {l : Launch} {e : Env} {s : State} {m : MethodId} {args : Array Value} {below : List Frame} {meth : Method} {c : Code} {H : Heap} {locs : List Loc} {cells slots : Nat} {Q : State → Prop} {ls : Array Slot} {E : rg_Env} {B : Nat} {M : rg_Mem} {b L i : Nat} {xs : Nat → Int32} (hst : l.stackTraces = false) (C0 : rg_Cx p m c cL_law 7 s args "RengaHallLaw" E B) (hX : va_X b L xs s s.heap) (hbl : b < s.heap.size) (hbB : b < B) (hL : L ≤ 2560) (hi : i + 5 ≤ L) (h : rg_Inv M) (hH : rg_H E B 433 rg_R0 M s H locs) (hl : lv_has ls 7 [(0, .ref b), (1, .ref (B + 0)), (2, .ref (B + 412)), (3, .ref (B + 432)), (4, .int (nI i))]) (hc : cells + 6 ≤ 601024 ∧ slots + 36 ≤ 7293033)
    (kk : ∀ (M1 : rg_Mem) (H1 : Heap) (locs1 : List Loc) (ls1 : Array Slot), rg_Inv M1 → rg_H E B 433 rg_R0 M1 s H1 locs1 → lv_has ls1 7 [(0, .ref b), (1, .ref (B + 0)), (2, .ref (B + 412)), (3, .ref (B + 432)), (4, .int (nI i))] → W p l e room_1 s m args below meth c H1 locs1 (cells + 6) (slots + 36) Q (F0 m 1539 ls1 [])) : W p l e room_1 s m args below meth c H locs cells slots Q (F0 m 1072 ls []) := by
  have hx := C0.1.1
  have hb := C0.1.2.1
  refine lv_aload_n hx hb dL_law_1072 rfl (lv_at hl 1 rfl) ?_
  refine rg_callGi C0 hH (As := []) (rest := []) (o := 0) (ci := 6) (k_X6_links l E B M) (rg_cw 0 C0.1.2.2.2.2 tw_m_L_146 tw_i_X6_links tw_v_X6_links tw_n_X6 tw_c_X6_links rfl rfl hd_X6_links ⟨Nat.le_of_ble_eq_true rfl, Nat.le_of_ble_eq_true rfl⟩) rfl (by decide) rfl (by decide) rfl hl.1 rfl (Nat.le_of_ble_eq_true rfl) dL_law_1073 ⟨by show _ ≤ (601024 : Nat); omega, by show _ ≤ (7293033 : Nat); omega⟩ (fun H locs hH => ?_)
  have hC := pre_links h
  refine lv_aload_n hx hb dL_law_1076 rfl (lv_at hl 2 rfl) ?_
  refine rg_callRi C0 hH (As := []) (rest := [.int (M.1 6 4)]) (o := 412) (ci := 7) (k_X7_links l E B M) (rg_cw 0 C0.1.2.2.2.2 tw_m_L_149 tw_i_X7_links tw_v_X7_links tw_n_X7 tw_c_X7_links rfl rfl hd_X7_links ⟨Nat.le_of_ble_eq_true rfl, Nat.le_of_ble_eq_true rfl⟩) rfl (by decide) rfl (by decide) rfl hl.1 rfl (Nat.le_of_ble_eq_true rfl) dL_law_1077 ⟨by show _ ≤ (601024 : Nat); omega, by show _ ≤ (7293033 : Nat); omega⟩ (fun r2 H locs e2 hH => ?_)
  have hs := sim_links h (rfl : _ = (M.1 6 4)) e2
  refine lv_icmp_eq (tgt := 1539) hx hb dL_law_1080 (by decide) (fun c_1080 => ?_) (fun c_1080 => ?_)
  · refine W.widen (k := cells + 6) (n := slots + 36) (by omega) (by omega) ?_
    exact kk _ _ _ _ hs.2 hH (lv_sub hl [0, 1, 2, 3, 4] rfl)
  · exact absurd hs.1 c_1080
set_option maxHeartbeats 4000000 in
set_option maxRecDepth 100000 in
theorem law_offers {p : Program} {l : Launch} {e : Env} {s : State} {m : MethodId} {args : Array Value} {below : List Frame} {meth : Method} {c : Code} {H : Heap} {locs : List Loc} {cells slots : Nat} {Q : State → Prop} {ls : Array Slot} {E : rg_Env} {B : Nat} {M : rg_Mem} {b L i : Nat} {xs : Nat → Int32} (hst : l.stackTraces = false) (C0 : rg_Cx p m c cL_law 7 s args "RengaHallLaw" E B) (hX : va_X b L xs s s.heap) (hbl : b < s.heap.size) (hbB : b < B) (hL : L ≤ 2560) (hi : i + 5 ≤ L) (h : rg_Inv M) (hH : rg_H E B 433 rg_R0 M s H locs) (hl : lv_has ls 7 [(0, .ref b), (1, .ref (B + 0)), (2, .ref (B + 412)), (3, .ref (B + 432)), (4, .int (nI i))]) (hc : cells + 6 ≤ 601024 ∧ slots + 36 ≤ 7293033)
    (kk : ∀ (M1 : rg_Mem) (H1 : Heap) (locs1 : List Loc) (ls1 : Array Slot), rg_Inv M1 → rg_H E B 433 rg_R0 M1 s H1 locs1 → lv_has ls1 7 [(0, .ref b), (1, .ref (B + 0)), (2, .ref (B + 412)), (3, .ref (B + 432)), (4, .int (nI i))] → W p l e room_1 s m args below meth c H1 locs1 (cells + 6) (slots + 36) Q (F0 m 1539 ls1 [])) : W p l e room_1 s m args below meth c H locs cells slots Q (F0 m 1085 ls []) := by
  have hx := C0.1.1
  have hb := C0.1.2.1
  refine lv_aload_n hx hb dL_law_1085 rfl (lv_at hl 1 rfl) ?_
  refine rg_callGi C0 hH (As := []) (rest := []) (o := 0) (ci := 6) (k_X6_offers l E B M) (rg_cw 0 C0.1.2.2.2.2 tw_m_L_150 tw_i_X6_offers tw_v_X6_offers tw_n_X6 tw_c_X6_offers rfl rfl hd_X6_offers ⟨Nat.le_of_ble_eq_true rfl, Nat.le_of_ble_eq_true rfl⟩) rfl (by decide) rfl (by decide) rfl hl.1 rfl (Nat.le_of_ble_eq_true rfl) dL_law_1086 ⟨by show _ ≤ (601024 : Nat); omega, by show _ ≤ (7293033 : Nat); omega⟩ (fun H locs hH => ?_)
  have hC := pre_offers h
  refine lv_aload_n hx hb dL_law_1089 rfl (lv_at hl 2 rfl) ?_
  refine rg_callRi C0 hH (As := []) (rest := [.int (M.1 0 10)]) (o := 412) (ci := 7) (k_X7_offers l E B M) (rg_cw 0 C0.1.2.2.2.2 tw_m_L_153 tw_i_X7_offers tw_v_X7_offers tw_n_X7 tw_c_X7_offers rfl rfl hd_X7_offers ⟨Nat.le_of_ble_eq_true rfl, Nat.le_of_ble_eq_true rfl⟩) rfl (by decide) rfl (by decide) rfl hl.1 rfl (Nat.le_of_ble_eq_true rfl) dL_law_1090 ⟨by show _ ≤ (601024 : Nat); omega, by show _ ≤ (7293033 : Nat); omega⟩ (fun r2 H locs e2 hH => ?_)
  have hs := sim_offers h (rfl : _ = (M.1 0 10)) e2
  refine lv_icmp_eq (tgt := 1539) hx hb dL_law_1093 (by decide) (fun c_1093 => ?_) (fun c_1093 => ?_)
  · refine W.widen (k := cells + 6) (n := slots + 36) (by omega) (by omega) ?_
    exact kk _ _ _ _ hs.2 hH (lv_sub hl [0, 1, 2, 3, 4] rfl)
  · exact absurd hs.1 c_1093
set_option maxHeartbeats 4000000 in
set_option maxRecDepth 100000 in
theorem law_ofLink {p : Program} {l : Launch} {e : Env} {s : State} {m : MethodId} {args : Array Value} {below : List Frame} {meth : Method} {c : Code} {H : Heap} {locs : List Loc} {cells slots : Nat} {Q : State → Prop} {ls : Array Slot} {E : rg_Env} {B : Nat} {M : rg_Mem} {b L i : Nat} {xs : Nat → Int32} (hst : l.stackTraces = false) (C0 : rg_Cx p m c cL_law 7 s args "RengaHallLaw" E B) (hX : va_X b L xs s s.heap) (hbl : b < s.heap.size) (hbB : b < B) (hL : L ≤ 2560) (hi : i + 5 ≤ L) (h : rg_Inv M) (hH : rg_H E B 433 rg_R0 M s H locs) (hl : lv_has ls 7 [(0, .ref b), (1, .ref (B + 0)), (2, .ref (B + 412)), (3, .ref (B + 432)), (4, .int (nI i))]) (hc : cells + 6 ≤ 601024 ∧ slots + 36 ≤ 7293033)
    (kk : ∀ (M1 : rg_Mem) (H1 : Heap) (locs1 : List Loc) (ls1 : Array Slot), rg_Inv M1 → rg_H E B 433 rg_R0 M1 s H1 locs1 → lv_has ls1 7 [(0, .ref b), (1, .ref (B + 0)), (2, .ref (B + 412)), (3, .ref (B + 432)), (4, .int (nI i))] → W p l e room_1 s m args below meth c H1 locs1 (cells + 6) (slots + 36) Q (F0 m 1539 ls1 [])) : W p l e room_1 s m args below meth c H locs cells slots Q (F0 m 1098 ls []) := by
  have hx := C0.1.1
  have hb := C0.1.2.1
  refine lv_aload_n hx hb dL_law_1098 rfl (lv_at hl 1 rfl) ?_
  refine lv_aload_n hx hb dL_law_1099 rfl (lv_at hl 0 rfl) ?_
  refine lv_iload hx hb dL_law_1100 (lv_at hl 4 rfl) ?_
  refine lv_iconst (v := 1) hx hb dL_law_1102 (by decide) ?_
  refine lv_iadd hx hb dL_law_1103 ?_
  refine rg_topi (y := nI (i + 1)) (by exact nI_add i 1) ?_
  refine rg_sld C0 hX hbl hbB hH (j := i + 1) ⟨by omega, hL⟩ dL_law_1104 ?_
  refine lv_aload_n hx hb dL_law_1105 rfl (lv_at hl 0 rfl) ?_
  refine lv_iload hx hb dL_law_1106 (lv_at hl 4 rfl) ?_
  refine lv_iconst (v := 2) hx hb dL_law_1108 (by decide) ?_
  refine lv_iadd hx hb dL_law_1109 ?_
  refine rg_topi (y := nI (i + 2)) (by exact nI_add i 2) ?_
  refine rg_sld C0 hX hbl hbB hH (j := i + 2) ⟨by omega, hL⟩ dL_law_1110 ?_
  refine lv_aload_n hx hb dL_law_1111 rfl (lv_at hl 3 rfl) ?_
  refine rg_callSWi C0 hH (As := [.ref (B + 0), .int (xs (i + 1)), .int (xs (i + 2)), .ref (B + 432)]) (rest := []) (k_L_ofLink l hst E B M (xs (i + 1)) (xs (i + 2)) (rg_Inv_ci h)) (rg_cwSW (hh := [(0, 10, 13, 21), (0, 10, 17, 13)]) 4 C0.1.2.2.2.2 tw_m_L_154 tw_s_L_ofLink tw_n_L tw_c_L_ofLink rfl rfl hd_L_ofLink ⟨Nat.le_of_ble_eq_true rfl, Nat.le_of_ble_eq_true rfl⟩) rfl hl.1 rfl (Nat.le_of_ble_eq_true rfl) dL_law_1112 ⟨by show _ ≤ (601024 : Nat); omega, by show _ ≤ (7293033 : Nat); omega⟩ (fun k9 Mw H locs e1 hH => ?_)
  have hC := pre_ofLink h e1
  refine lv_istore (lv' := [(5, .int k9), (0, .ref b), (1, .ref (B + 0)), (2, .ref (B + 412)), (3, .ref (B + 432)), (4, .int (nI i))]) hx hb dL_law_1115 hl (by decide) rfl (fun ls hl => ?_)
  refine lv_aload_n hx hb dL_law_1117 rfl (lv_at hl 3 rfl) ?_
  refine lv_aload_n hx hb dL_law_1118 rfl (lv_at hl 1 rfl) ?_
  refine lv_iload hx hb dL_law_1119 (lv_at hl 5 rfl) ?_
  refine lv_iconst (v := 1) hx hb dL_law_1121 (by decide) ?_
  refine lv_iadd hx hb dL_law_1122 ?_
  refine rg_topi (y := nI (i + 1)) (by exact nI_add i 1) ?_
  refine rg_sld C0 hX hbl hbB hH (j := i + 1) ⟨by omega, hL⟩ dL_law_1123 ?_
  refine lv_aload_n hx hb dL_law_1124 rfl (lv_at hl 1 rfl) ?_
  refine lv_iload hx hb dL_law_1125 (lv_at hl 5 rfl) ?_
  refine lv_iconst (v := 2) hx hb dL_law_1127 (by decide) ?_
  refine lv_iadd hx hb dL_law_1128 ?_
  refine rg_topi (y := nI (i + 2)) (by exact nI_add i 2) ?_
  refine rg_sld C0 hX hbl hbB hH (j := i + 2) ⟨by omega, hL⟩ dL_law_1129 ?_
  refine rg_callWi C0 hH (As := [.int (xs (i + 1)), .int (xs (i + 2))]) (rest := []) (o := 412) (ci := 7) (k_X7_ofLink l E B Mw (xs (i + 1)) (xs (i + 2)) hC) (rg_cw 2 C0.1.2.2.2.2 tw_m_L_156 tw_i_X7_ofLink tw_v_X7_ofLink tw_n_X7 tw_c_X7_ofLink rfl rfl hd_X7_ofLink ⟨Nat.le_of_ble_eq_true rfl, Nat.le_of_ble_eq_true rfl⟩) rfl (by decide) rfl (by decide) rfl hl.1 rfl (Nat.le_of_ble_eq_true rfl) dL_law_1130 ⟨by show _ ≤ (601024 : Nat); omega, by show _ ≤ (7293033 : Nat); omega⟩ (fun r9 Mz H locs e2 hH => ?_)
  have hs := sim_ofLink h e1 e2
  refine lv_istore (lv' := [(6, .int r9), (5, .int k9), (0, .ref b), (1, .ref (B + 0)), (2, .ref (B + 412)), (3, .ref (B + 432)), (4, .int (nI i))]) hx hb dL_law_1133 hl (by decide) rfl (fun ls hl => ?_)
  refine lv_aload_n hx hb dL_law_1135 rfl (lv_at hl 4 rfl) ?_
  refine rg_callGi C0 hH (As := []) (rest := []) (o := 412) (ci := 7) (k_X7_thrown l E B Mz) (rg_cw 0 C0.1.2.2.2.2 tw_m_L_93 tw_i_X7_thrown tw_v_X7_thrown tw_n_X7 tw_c_X7_thrown rfl rfl hd_X7_thrown ⟨Nat.le_of_ble_eq_true rfl, Nat.le_of_ble_eq_true rfl⟩) rfl (by decide) rfl (by decide) rfl hl.1 rfl (Nat.le_of_ble_eq_true rfl) dL_law_1136 ⟨by show _ ≤ (601024 : Nat); omega, by show _ ≤ (7293033 : Nat); omega⟩ (fun H locs hH => ?_)
  refine lv_iload hx hb dL_law_1139 (lv_at hl 1 rfl) ?_
  refine lv_icmp_eq (tgt := 1146) hx hb dL_law_1141 (by decide) (fun c_1141 => ?_) (fun c_1141 => ?_)
  · refine lv_iload hx hb dL_law_1146 (lv_at hl 1 rfl) ?_
    refine lv_if_ne (tgt := 1163) hx hb dL_law_1148 (by decide) (fun c_1148 => ?_) (fun c_1148 => ?_)
    · refine lv_goto (tgt := 1539) hx hb dL_law_1163 (by decide) ?_
      refine W.widen (k := cells + 6) (n := slots + 36) (by omega) (by omega) ?_
      exact kk _ _ _ _ hs.2.2 hH (lv_sub hl [2, 3, 4, 5, 6] rfl)
    · refine lv_aload_n hx hb dL_law_1151 rfl (lv_at hl 5 rfl) ?_
      refine lv_iconst (v := 0) hx hb dL_law_1152 (by decide) ?_
      refine rg_lald C0 hH (o := 432) (by decide) rfl (rg_vin rfl (by exact (vp_in_nI (Nat.zero_lt_one) (by omega) : vp_in (nI 0) 1))) dL_law_1153 ?_
      refine rg_topl (y := Mz.2 432 0) (by exact rfl) ?_
      refine lv_iload hx hb dL_law_1154 (lv_at hl 0 rfl) ?_
      refine lv_i2l hx hb dL_law_1156 rfl ?_
      refine W.lcmp hx hb dL_law_1157 ?_
      refine lv_if_eq (tgt := 1163) hx hb dL_law_1158 (by decide) (fun c_1158 => ?_) (fun c_1158 => ?_)
      · refine lv_goto (tgt := 1539) hx hb dL_law_1163 (by decide) ?_
        refine W.widen (k := cells + 6) (n := slots + 36) (by omega) (by omega) ?_
        exact kk _ _ _ _ hs.2.2 hH (lv_sub hl [2, 3, 4, 5, 6] rfl)
      · exact absurd (rg_cmp0.mpr (hs.2.1 c_1148)) c_1158
  · exact absurd hs.1 c_1141
set_option maxHeartbeats 4000000 in
set_option maxRecDepth 100000 in
theorem law_wordAt {p : Program} {l : Launch} {e : Env} {s : State} {m : MethodId} {args : Array Value} {below : List Frame} {meth : Method} {c : Code} {H : Heap} {locs : List Loc} {cells slots : Nat} {Q : State → Prop} {ls : Array Slot} {E : rg_Env} {B : Nat} {M : rg_Mem} {b L i : Nat} {xs : Nat → Int32} (hst : l.stackTraces = false) (C0 : rg_Cx p m c cL_law 7 s args "RengaHallLaw" E B) (hX : va_X b L xs s s.heap) (hbl : b < s.heap.size) (hbB : b < B) (hL : L ≤ 2560) (hi : i + 5 ≤ L) (h : rg_Inv M) (hH : rg_H E B 433 rg_R0 M s H locs) (hl : lv_has ls 7 [(0, .ref b), (1, .ref (B + 0)), (2, .ref (B + 412)), (3, .ref (B + 432)), (4, .int (nI i))]) (hc : cells + 6 ≤ 601024 ∧ slots + 36 ≤ 7293033)
    (kk : ∀ (M1 : rg_Mem) (H1 : Heap) (locs1 : List Loc) (ls1 : Array Slot), rg_Inv M1 → rg_H E B 433 rg_R0 M1 s H1 locs1 → lv_has ls1 7 [(0, .ref b), (1, .ref (B + 0)), (2, .ref (B + 412)), (3, .ref (B + 432)), (4, .int (nI i))] → W p l e room_1 s m args below meth c H1 locs1 (cells + 6) (slots + 36) Q (F0 m 1539 ls1 [])) : W p l e room_1 s m args below meth c H locs cells slots Q (F0 m 1166 ls []) := by
  have hx := C0.1.1
  have hb := C0.1.2.1
  refine lv_aload_n hx hb dL_law_1166 rfl (lv_at hl 1 rfl) ?_
  refine lv_aload_n hx hb dL_law_1167 rfl (lv_at hl 0 rfl) ?_
  refine lv_iload hx hb dL_law_1168 (lv_at hl 4 rfl) ?_
  refine lv_iconst (v := 1) hx hb dL_law_1170 (by decide) ?_
  refine lv_iadd hx hb dL_law_1171 ?_
  refine rg_topi (y := nI (i + 1)) (by exact nI_add i 1) ?_
  refine rg_sld C0 hX hbl hbB hH (j := i + 1) ⟨by omega, hL⟩ dL_law_1172 ?_
  refine lv_aload_n hx hb dL_law_1173 rfl (lv_at hl 0 rfl) ?_
  refine lv_iload hx hb dL_law_1174 (lv_at hl 4 rfl) ?_
  refine lv_iconst (v := 2) hx hb dL_law_1176 (by decide) ?_
  refine lv_iadd hx hb dL_law_1177 ?_
  refine rg_topi (y := nI (i + 2)) (by exact nI_add i 2) ?_
  refine rg_sld C0 hX hbl hbB hH (j := i + 2) ⟨by omega, hL⟩ dL_law_1178 ?_
  refine lv_aload_n hx hb dL_law_1179 rfl (lv_at hl 3 rfl) ?_
  refine rg_callSWi C0 hH (As := [.ref (B + 0), .int (xs (i + 1)), .int (xs (i + 2)), .ref (B + 432)]) (rest := []) (k_L_wordAt l hst E B M (xs (i + 1)) (xs (i + 2)) (rg_Inv_ci h)) (rg_cwSW (hh := [(0, 10, 13, 21)]) 4 C0.1.2.2.2.2 tw_m_L_157 tw_s_L_wordAt tw_n_L tw_c_L_wordAt rfl rfl hd_L_wordAt ⟨Nat.le_of_ble_eq_true rfl, Nat.le_of_ble_eq_true rfl⟩) rfl hl.1 rfl (Nat.le_of_ble_eq_true rfl) dL_law_1180 ⟨by show _ ≤ (601024 : Nat); omega, by show _ ≤ (7293033 : Nat); omega⟩ (fun k9 Mw H locs e1 hH => ?_)
  have hC := pre_wordAt h e1
  refine lv_istore (lv' := [(5, .int k9), (0, .ref b), (1, .ref (B + 0)), (2, .ref (B + 412)), (3, .ref (B + 432)), (4, .int (nI i))]) hx hb dL_law_1183 hl (by decide) rfl (fun ls hl => ?_)
  refine lv_aload_n hx hb dL_law_1185 rfl (lv_at hl 3 rfl) ?_
  refine lv_aload_n hx hb dL_law_1186 rfl (lv_at hl 1 rfl) ?_
  refine lv_iload hx hb dL_law_1187 (lv_at hl 5 rfl) ?_
  refine lv_iconst (v := 1) hx hb dL_law_1189 (by decide) ?_
  refine lv_iadd hx hb dL_law_1190 ?_
  refine rg_topi (y := nI (i + 1)) (by exact nI_add i 1) ?_
  refine rg_sld C0 hX hbl hbB hH (j := i + 1) ⟨by omega, hL⟩ dL_law_1191 ?_
  refine lv_aload_n hx hb dL_law_1192 rfl (lv_at hl 1 rfl) ?_
  refine lv_iload hx hb dL_law_1193 (lv_at hl 5 rfl) ?_
  refine lv_iconst (v := 2) hx hb dL_law_1195 (by decide) ?_
  refine lv_iadd hx hb dL_law_1196 ?_
  refine rg_topi (y := nI (i + 2)) (by exact nI_add i 2) ?_
  refine rg_sld C0 hX hbl hbB hH (j := i + 2) ⟨by omega, hL⟩ dL_law_1197 ?_
  refine rg_callWi C0 hH (As := [.int (xs (i + 1)), .int (xs (i + 2))]) (rest := []) (o := 412) (ci := 7) (k_X7_wordAt l E B Mw (xs (i + 1)) (xs (i + 2)) hC) (rg_cw 2 C0.1.2.2.2.2 tw_m_L_159 tw_i_X7_wordAt tw_v_X7_wordAt tw_n_X7 tw_c_X7_wordAt rfl rfl hd_X7_wordAt ⟨Nat.le_of_ble_eq_true rfl, Nat.le_of_ble_eq_true rfl⟩) rfl (by decide) rfl (by decide) rfl hl.1 rfl (Nat.le_of_ble_eq_true rfl) dL_law_1198 ⟨by show _ ≤ (601024 : Nat); omega, by show _ ≤ (7293033 : Nat); omega⟩ (fun r9 Mz H locs e2 hH => ?_)
  have hs := sim_wordAt h e1 e2
  refine lv_istore (lv' := [(6, .int r9), (5, .int k9), (0, .ref b), (1, .ref (B + 0)), (2, .ref (B + 412)), (3, .ref (B + 432)), (4, .int (nI i))]) hx hb dL_law_1201 hl (by decide) rfl (fun ls hl => ?_)
  refine lv_aload_n hx hb dL_law_1203 rfl (lv_at hl 4 rfl) ?_
  refine rg_callGi C0 hH (As := []) (rest := []) (o := 412) (ci := 7) (k_X7_thrown l E B Mz) (rg_cw 0 C0.1.2.2.2.2 tw_m_L_93 tw_i_X7_thrown tw_v_X7_thrown tw_n_X7 tw_c_X7_thrown rfl rfl hd_X7_thrown ⟨Nat.le_of_ble_eq_true rfl, Nat.le_of_ble_eq_true rfl⟩) rfl (by decide) rfl (by decide) rfl hl.1 rfl (Nat.le_of_ble_eq_true rfl) dL_law_1204 ⟨by show _ ≤ (601024 : Nat); omega, by show _ ≤ (7293033 : Nat); omega⟩ (fun H locs hH => ?_)
  refine lv_iload hx hb dL_law_1207 (lv_at hl 1 rfl) ?_
  refine lv_icmp_eq (tgt := 1214) hx hb dL_law_1209 (by decide) (fun c_1209 => ?_) (fun c_1209 => ?_)
  · refine lv_iload hx hb dL_law_1214 (lv_at hl 1 rfl) ?_
    refine lv_if_ne (tgt := 1231) hx hb dL_law_1216 (by decide) (fun c_1216 => ?_) (fun c_1216 => ?_)
    · refine lv_goto (tgt := 1539) hx hb dL_law_1231 (by decide) ?_
      refine W.widen (k := cells + 6) (n := slots + 36) (by omega) (by omega) ?_
      exact kk _ _ _ _ hs.2.2 hH (lv_sub hl [2, 3, 4, 5, 6] rfl)
    · refine lv_aload_n hx hb dL_law_1219 rfl (lv_at hl 5 rfl) ?_
      refine lv_iconst (v := 0) hx hb dL_law_1220 (by decide) ?_
      refine rg_lald C0 hH (o := 432) (by decide) rfl (rg_vin rfl (by exact (vp_in_nI (Nat.zero_lt_one) (by omega) : vp_in (nI 0) 1))) dL_law_1221 ?_
      refine rg_topl (y := Mz.2 432 0) (by exact rfl) ?_
      refine lv_iload hx hb dL_law_1222 (lv_at hl 0 rfl) ?_
      refine lv_i2l hx hb dL_law_1224 rfl ?_
      refine W.lcmp hx hb dL_law_1225 ?_
      refine lv_if_eq (tgt := 1231) hx hb dL_law_1226 (by decide) (fun c_1226 => ?_) (fun c_1226 => ?_)
      · refine lv_goto (tgt := 1539) hx hb dL_law_1231 (by decide) ?_
        refine W.widen (k := cells + 6) (n := slots + 36) (by omega) (by omega) ?_
        exact kk _ _ _ _ hs.2.2 hH (lv_sub hl [2, 3, 4, 5, 6] rfl)
      · exact absurd (rg_cmp0.mpr (hs.2.1 c_1216)) c_1226
  · exact absurd hs.1 c_1209
set_option maxHeartbeats 4000000 in
set_option maxRecDepth 100000 in
theorem law_faultAnew {p : Program} {l : Launch} {e : Env} {s : State} {m : MethodId} {args : Array Value} {below : List Frame} {meth : Method} {c : Code} {H : Heap} {locs : List Loc} {cells slots : Nat} {Q : State → Prop} {ls : Array Slot} {E : rg_Env} {B : Nat} {M : rg_Mem} {b L i : Nat} {xs : Nat → Int32} (hst : l.stackTraces = false) (C0 : rg_Cx p m c cL_law 7 s args "RengaHallLaw" E B) (hX : va_X b L xs s s.heap) (hbl : b < s.heap.size) (hbB : b < B) (hL : L ≤ 2560) (hi : i + 5 ≤ L) (h : rg_Inv M) (hH : rg_H E B 433 rg_R0 M s H locs) (hl : lv_has ls 7 [(0, .ref b), (1, .ref (B + 0)), (2, .ref (B + 412)), (3, .ref (B + 432)), (4, .int (nI i))]) (hc : cells + 6 ≤ 601024 ∧ slots + 36 ≤ 7293033)
    (kk : ∀ (M1 : rg_Mem) (H1 : Heap) (locs1 : List Loc) (ls1 : Array Slot), rg_Inv M1 → rg_H E B 433 rg_R0 M1 s H1 locs1 → lv_has ls1 7 [(0, .ref b), (1, .ref (B + 0)), (2, .ref (B + 412)), (3, .ref (B + 432)), (4, .int (nI i))] → W p l e room_1 s m args below meth c H1 locs1 (cells + 6) (slots + 36) Q (F0 m 1539 ls1 [])) : W p l e room_1 s m args below meth c H locs cells slots Q (F0 m 1234 ls []) := by
  have hx := C0.1.1
  have hb := C0.1.2.1
  refine lv_aload_n hx hb dL_law_1234 rfl (lv_at hl 1 rfl) ?_
  refine lv_aload_n hx hb dL_law_1235 rfl (lv_at hl 0 rfl) ?_
  refine lv_iload hx hb dL_law_1236 (lv_at hl 4 rfl) ?_
  refine lv_iconst (v := 1) hx hb dL_law_1238 (by decide) ?_
  refine lv_iadd hx hb dL_law_1239 ?_
  refine rg_topi (y := nI (i + 1)) (by exact nI_add i 1) ?_
  refine rg_sld C0 hX hbl hbB hH (j := i + 1) ⟨by omega, hL⟩ dL_law_1240 ?_
  refine lv_aload_n hx hb dL_law_1241 rfl (lv_at hl 3 rfl) ?_
  refine rg_callSWi C0 hH (As := [.ref (B + 0), .int (xs (i + 1)), .ref (B + 432)]) (rest := []) (k_L_faultAnew l hst E B M (xs (i + 1)) (rg_Inv_ci h)) (rg_cwSW (hh := [(0, 9, 12, 21)]) 3 C0.1.2.2.2.2 tw_m_L_160 tw_s_L_faultAnew tw_n_L tw_c_L_faultAnew rfl rfl hd_L_faultAnew ⟨Nat.le_of_ble_eq_true rfl, Nat.le_of_ble_eq_true rfl⟩) rfl hl.1 rfl (Nat.le_of_ble_eq_true rfl) dL_law_1242 ⟨by show _ ≤ (601024 : Nat); omega, by show _ ≤ (7293033 : Nat); omega⟩ (fun k9 Mw H locs e1 hH => ?_)
  have hC := pre_faultAnew h e1
  refine lv_istore (lv' := [(5, .int k9), (0, .ref b), (1, .ref (B + 0)), (2, .ref (B + 412)), (3, .ref (B + 432)), (4, .int (nI i))]) hx hb dL_law_1245 hl (by decide) rfl (fun ls hl => ?_)
  refine lv_aload_n hx hb dL_law_1247 rfl (lv_at hl 3 rfl) ?_
  refine lv_aload_n hx hb dL_law_1248 rfl (lv_at hl 1 rfl) ?_
  refine lv_iload hx hb dL_law_1249 (lv_at hl 5 rfl) ?_
  refine lv_iconst (v := 1) hx hb dL_law_1251 (by decide) ?_
  refine lv_iadd hx hb dL_law_1252 ?_
  refine rg_topi (y := nI (i + 1)) (by exact nI_add i 1) ?_
  refine rg_sld C0 hX hbl hbB hH (j := i + 1) ⟨by omega, hL⟩ dL_law_1253 ?_
  refine rg_callWi C0 hH (As := [.int (xs (i + 1))]) (rest := []) (o := 412) (ci := 7) (k_X7_faultAnew l E B Mw (xs (i + 1)) hC) (rg_cw 1 C0.1.2.2.2.2 tw_m_L_162 tw_i_X7_faultAnew tw_v_X7_faultAnew tw_n_X7 tw_c_X7_faultAnew rfl rfl hd_X7_faultAnew ⟨Nat.le_of_ble_eq_true rfl, Nat.le_of_ble_eq_true rfl⟩) rfl (by decide) rfl (by decide) rfl hl.1 rfl (Nat.le_of_ble_eq_true rfl) dL_law_1254 ⟨by show _ ≤ (601024 : Nat); omega, by show _ ≤ (7293033 : Nat); omega⟩ (fun r9 Mz H locs e2 hH => ?_)
  have hs := sim_faultAnew h e1 e2
  refine lv_istore (lv' := [(6, .int r9), (5, .int k9), (0, .ref b), (1, .ref (B + 0)), (2, .ref (B + 412)), (3, .ref (B + 432)), (4, .int (nI i))]) hx hb dL_law_1257 hl (by decide) rfl (fun ls hl => ?_)
  refine lv_aload_n hx hb dL_law_1259 rfl (lv_at hl 4 rfl) ?_
  refine rg_callGi C0 hH (As := []) (rest := []) (o := 412) (ci := 7) (k_X7_thrown l E B Mz) (rg_cw 0 C0.1.2.2.2.2 tw_m_L_93 tw_i_X7_thrown tw_v_X7_thrown tw_n_X7 tw_c_X7_thrown rfl rfl hd_X7_thrown ⟨Nat.le_of_ble_eq_true rfl, Nat.le_of_ble_eq_true rfl⟩) rfl (by decide) rfl (by decide) rfl hl.1 rfl (Nat.le_of_ble_eq_true rfl) dL_law_1260 ⟨by show _ ≤ (601024 : Nat); omega, by show _ ≤ (7293033 : Nat); omega⟩ (fun H locs hH => ?_)
  refine lv_iload hx hb dL_law_1263 (lv_at hl 1 rfl) ?_
  refine lv_icmp_eq (tgt := 1270) hx hb dL_law_1265 (by decide) (fun c_1265 => ?_) (fun c_1265 => ?_)
  · refine lv_iload hx hb dL_law_1270 (lv_at hl 1 rfl) ?_
    refine lv_if_ne (tgt := 1287) hx hb dL_law_1272 (by decide) (fun c_1272 => ?_) (fun c_1272 => ?_)
    · refine lv_goto (tgt := 1539) hx hb dL_law_1287 (by decide) ?_
      refine W.widen (k := cells + 6) (n := slots + 36) (by omega) (by omega) ?_
      exact kk _ _ _ _ hs.2.2 hH (lv_sub hl [2, 3, 4, 5, 6] rfl)
    · refine lv_aload_n hx hb dL_law_1275 rfl (lv_at hl 5 rfl) ?_
      refine lv_iconst (v := 0) hx hb dL_law_1276 (by decide) ?_
      refine rg_lald C0 hH (o := 432) (by decide) rfl (rg_vin rfl (by exact (vp_in_nI (Nat.zero_lt_one) (by omega) : vp_in (nI 0) 1))) dL_law_1277 ?_
      refine rg_topl (y := Mz.2 432 0) (by exact rfl) ?_
      refine lv_iload hx hb dL_law_1278 (lv_at hl 0 rfl) ?_
      refine lv_i2l hx hb dL_law_1280 rfl ?_
      refine W.lcmp hx hb dL_law_1281 ?_
      refine lv_if_eq (tgt := 1287) hx hb dL_law_1282 (by decide) (fun c_1282 => ?_) (fun c_1282 => ?_)
      · refine lv_goto (tgt := 1539) hx hb dL_law_1287 (by decide) ?_
        refine W.widen (k := cells + 6) (n := slots + 36) (by omega) (by omega) ?_
        exact kk _ _ _ _ hs.2.2 hH (lv_sub hl [2, 3, 4, 5, 6] rfl)
      · exact absurd (rg_cmp0.mpr (hs.2.1 c_1272)) c_1282
  · exact absurd hs.1 c_1265
set_option maxHeartbeats 4000000 in
set_option maxRecDepth 100000 in
theorem law_chances {p : Program} {l : Launch} {e : Env} {s : State} {m : MethodId} {args : Array Value} {below : List Frame} {meth : Method} {c : Code} {H : Heap} {locs : List Loc} {cells slots : Nat} {Q : State → Prop} {ls : Array Slot} {E : rg_Env} {B : Nat} {M : rg_Mem} {b L i : Nat} {xs : Nat → Int32} (hst : l.stackTraces = false) (C0 : rg_Cx p m c cL_law 7 s args "RengaHallLaw" E B) (hX : va_X b L xs s s.heap) (hbl : b < s.heap.size) (hbB : b < B) (hL : L ≤ 2560) (hi : i + 5 ≤ L) (h : rg_Inv M) (hH : rg_H E B 433 rg_R0 M s H locs) (hl : lv_has ls 7 [(0, .ref b), (1, .ref (B + 0)), (2, .ref (B + 412)), (3, .ref (B + 432)), (4, .int (nI i))]) (hc : cells + 6 ≤ 601024 ∧ slots + 36 ≤ 7293033)
    (kk : ∀ (M1 : rg_Mem) (H1 : Heap) (locs1 : List Loc) (ls1 : Array Slot), rg_Inv M1 → rg_H E B 433 rg_R0 M1 s H1 locs1 → lv_has ls1 7 [(0, .ref b), (1, .ref (B + 0)), (2, .ref (B + 412)), (3, .ref (B + 432)), (4, .int (nI i))] → W p l e room_1 s m args below meth c H1 locs1 (cells + 6) (slots + 36) Q (F0 m 1539 ls1 [])) : W p l e room_1 s m args below meth c H locs cells slots Q (F0 m 1290 ls []) := by
  have hx := C0.1.1
  have hb := C0.1.2.1
  refine lv_aload_n hx hb dL_law_1290 rfl (lv_at hl 1 rfl) ?_
  refine lv_aload_n hx hb dL_law_1291 rfl (lv_at hl 0 rfl) ?_
  refine lv_iload hx hb dL_law_1292 (lv_at hl 4 rfl) ?_
  refine lv_iconst (v := 1) hx hb dL_law_1294 (by decide) ?_
  refine lv_iadd hx hb dL_law_1295 ?_
  refine rg_topi (y := nI (i + 1)) (by exact nI_add i 1) ?_
  refine rg_sld C0 hX hbl hbB hH (j := i + 1) ⟨by omega, hL⟩ dL_law_1296 ?_
  refine lv_aload_n hx hb dL_law_1297 rfl (lv_at hl 3 rfl) ?_
  refine rg_callSWi C0 hH (As := [.ref (B + 0), .int (xs (i + 1)), .ref (B + 432)]) (rest := []) (k_L_chances l hst E B M (xs (i + 1)) (rg_Inv_ci h)) (rg_cwSW (hh := [(0, 9, 12, 21)]) 3 C0.1.2.2.2.2 tw_m_L_163 tw_s_L_chances tw_n_L tw_c_L_chances rfl rfl hd_L_chances ⟨Nat.le_of_ble_eq_true rfl, Nat.le_of_ble_eq_true rfl⟩) rfl hl.1 rfl (Nat.le_of_ble_eq_true rfl) dL_law_1298 ⟨by show _ ≤ (601024 : Nat); omega, by show _ ≤ (7293033 : Nat); omega⟩ (fun k9 Mw H locs e1 hH => ?_)
  have hC := pre_chances h e1
  refine lv_istore (lv' := [(5, .int k9), (0, .ref b), (1, .ref (B + 0)), (2, .ref (B + 412)), (3, .ref (B + 432)), (4, .int (nI i))]) hx hb dL_law_1301 hl (by decide) rfl (fun ls hl => ?_)
  refine lv_aload_n hx hb dL_law_1303 rfl (lv_at hl 3 rfl) ?_
  refine lv_aload_n hx hb dL_law_1304 rfl (lv_at hl 1 rfl) ?_
  refine lv_iload hx hb dL_law_1305 (lv_at hl 5 rfl) ?_
  refine lv_iconst (v := 1) hx hb dL_law_1307 (by decide) ?_
  refine lv_iadd hx hb dL_law_1308 ?_
  refine rg_topi (y := nI (i + 1)) (by exact nI_add i 1) ?_
  refine rg_sld C0 hX hbl hbB hH (j := i + 1) ⟨by omega, hL⟩ dL_law_1309 ?_
  refine rg_callWi C0 hH (As := [.int (xs (i + 1))]) (rest := []) (o := 412) (ci := 7) (k_X7_chances l E B Mw (xs (i + 1)) hC) (rg_cw 1 C0.1.2.2.2.2 tw_m_L_165 tw_i_X7_chances tw_v_X7_chances tw_n_X7 tw_c_X7_chances rfl rfl hd_X7_chances ⟨Nat.le_of_ble_eq_true rfl, Nat.le_of_ble_eq_true rfl⟩) rfl (by decide) rfl (by decide) rfl hl.1 rfl (Nat.le_of_ble_eq_true rfl) dL_law_1310 ⟨by show _ ≤ (601024 : Nat); omega, by show _ ≤ (7293033 : Nat); omega⟩ (fun r9 Mz H locs e2 hH => ?_)
  have hs := sim_chances h e1 e2
  refine lv_istore (lv' := [(6, .int r9), (5, .int k9), (0, .ref b), (1, .ref (B + 0)), (2, .ref (B + 412)), (3, .ref (B + 432)), (4, .int (nI i))]) hx hb dL_law_1313 hl (by decide) rfl (fun ls hl => ?_)
  refine lv_aload_n hx hb dL_law_1315 rfl (lv_at hl 4 rfl) ?_
  refine rg_callGi C0 hH (As := []) (rest := []) (o := 412) (ci := 7) (k_X7_thrown l E B Mz) (rg_cw 0 C0.1.2.2.2.2 tw_m_L_93 tw_i_X7_thrown tw_v_X7_thrown tw_n_X7 tw_c_X7_thrown rfl rfl hd_X7_thrown ⟨Nat.le_of_ble_eq_true rfl, Nat.le_of_ble_eq_true rfl⟩) rfl (by decide) rfl (by decide) rfl hl.1 rfl (Nat.le_of_ble_eq_true rfl) dL_law_1316 ⟨by show _ ≤ (601024 : Nat); omega, by show _ ≤ (7293033 : Nat); omega⟩ (fun H locs hH => ?_)
  refine lv_iload hx hb dL_law_1319 (lv_at hl 1 rfl) ?_
  refine lv_icmp_eq (tgt := 1326) hx hb dL_law_1321 (by decide) (fun c_1321 => ?_) (fun c_1321 => ?_)
  · refine lv_iload hx hb dL_law_1326 (lv_at hl 1 rfl) ?_
    refine lv_if_ne (tgt := 1343) hx hb dL_law_1328 (by decide) (fun c_1328 => ?_) (fun c_1328 => ?_)
    · refine lv_goto (tgt := 1539) hx hb dL_law_1343 (by decide) ?_
      refine W.widen (k := cells + 6) (n := slots + 36) (by omega) (by omega) ?_
      exact kk _ _ _ _ hs.2.2 hH (lv_sub hl [2, 3, 4, 5, 6] rfl)
    · refine lv_aload_n hx hb dL_law_1331 rfl (lv_at hl 5 rfl) ?_
      refine lv_iconst (v := 0) hx hb dL_law_1332 (by decide) ?_
      refine rg_lald C0 hH (o := 432) (by decide) rfl (rg_vin rfl (by exact (vp_in_nI (Nat.zero_lt_one) (by omega) : vp_in (nI 0) 1))) dL_law_1333 ?_
      refine rg_topl (y := Mz.2 432 0) (by exact rfl) ?_
      refine lv_iload hx hb dL_law_1334 (lv_at hl 0 rfl) ?_
      refine lv_i2l hx hb dL_law_1336 rfl ?_
      refine W.lcmp hx hb dL_law_1337 ?_
      refine lv_if_eq (tgt := 1343) hx hb dL_law_1338 (by decide) (fun c_1338 => ?_) (fun c_1338 => ?_)
      · refine lv_goto (tgt := 1539) hx hb dL_law_1343 (by decide) ?_
        refine W.widen (k := cells + 6) (n := slots + 36) (by omega) (by omega) ?_
        exact kk _ _ _ _ hs.2.2 hH (lv_sub hl [2, 3, 4, 5, 6] rfl)
      · exact absurd (rg_cmp0.mpr (hs.2.1 c_1328)) c_1338
  · exact absurd hs.1 c_1321
set_option maxHeartbeats 4000000 in
set_option maxRecDepth 100000 in
theorem law_prize {p : Program} {l : Launch} {e : Env} {s : State} {m : MethodId} {args : Array Value} {below : List Frame} {meth : Method} {c : Code} {H : Heap} {locs : List Loc} {cells slots : Nat} {Q : State → Prop} {ls : Array Slot} {E : rg_Env} {B : Nat} {M : rg_Mem} {b L i : Nat} {xs : Nat → Int32} (hst : l.stackTraces = false) (C0 : rg_Cx p m c cL_law 7 s args "RengaHallLaw" E B) (hX : va_X b L xs s s.heap) (hbl : b < s.heap.size) (hbB : b < B) (hL : L ≤ 2560) (hi : i + 5 ≤ L) (h : rg_Inv M) (hH : rg_H E B 433 rg_R0 M s H locs) (hl : lv_has ls 7 [(0, .ref b), (1, .ref (B + 0)), (2, .ref (B + 412)), (3, .ref (B + 432)), (4, .int (nI i))]) (hc : cells + 6 ≤ 601024 ∧ slots + 36 ≤ 7293033)
    (kk : ∀ (M1 : rg_Mem) (H1 : Heap) (locs1 : List Loc) (ls1 : Array Slot), rg_Inv M1 → rg_H E B 433 rg_R0 M1 s H1 locs1 → lv_has ls1 7 [(0, .ref b), (1, .ref (B + 0)), (2, .ref (B + 412)), (3, .ref (B + 432)), (4, .int (nI i))] → W p l e room_1 s m args below meth c H1 locs1 (cells + 6) (slots + 36) Q (F0 m 1539 ls1 [])) : W p l e room_1 s m args below meth c H locs cells slots Q (F0 m 1346 ls []) := by
  have hx := C0.1.1
  have hb := C0.1.2.1
  refine lv_aload_n hx hb dL_law_1346 rfl (lv_at hl 1 rfl) ?_
  refine rg_callGi C0 hH (As := []) (rest := []) (o := 0) (ci := 6) (k_X6_prize l E B M (rg_Inv_ci h)) (rg_cw 0 C0.1.2.2.2.2 tw_m_L_166 tw_i_X6_prize tw_v_X6_prize tw_n_X6 tw_c_X6_prize rfl rfl hd_X6_prize ⟨Nat.le_of_ble_eq_true rfl, Nat.le_of_ble_eq_true rfl⟩) rfl (by decide) rfl (by decide) rfl hl.1 rfl (Nat.le_of_ble_eq_true rfl) dL_law_1347 ⟨by show _ ≤ (601024 : Nat); omega, by show _ ≤ (7293033 : Nat); omega⟩ (fun H locs hH => ?_)
  have hC := pre_prize h
  refine lv_aload_n hx hb dL_law_1350 rfl (lv_at hl 2 rfl) ?_
  refine rg_callRi C0 hH (As := []) (rest := [.int (rg_gr ((rg_pl M (rg_nl M)).1 95) ((rg_pl M (rg_nl M)).1 96) 6)]) (o := 412) (ci := 7) (k_X7_prize l E B (rg_pl M (rg_nl M)) hC) (rg_cw 0 C0.1.2.2.2.2 tw_m_L_169 tw_i_X7_prize tw_v_X7_prize tw_n_X7 tw_c_X7_prize rfl rfl hd_X7_prize ⟨Nat.le_of_ble_eq_true rfl, Nat.le_of_ble_eq_true rfl⟩) rfl (by decide) rfl (by decide) rfl hl.1 rfl (Nat.le_of_ble_eq_true rfl) dL_law_1351 ⟨by show _ ≤ (601024 : Nat); omega, by show _ ≤ (7293033 : Nat); omega⟩ (fun r2 H locs e2 hH => ?_)
  have hs := sim_prize h (rfl : _ = (rg_gr ((rg_pl M (rg_nl M)).1 95) ((rg_pl M (rg_nl M)).1 96) 6)) e2
  refine lv_icmp_eq (tgt := 1539) hx hb dL_law_1354 (by decide) (fun c_1354 => ?_) (fun c_1354 => ?_)
  · refine W.widen (k := cells + 6) (n := slots + 36) (by omega) (by omega) ?_
    exact kk _ _ _ _ hs.2 hH (lv_sub hl [0, 1, 2, 3, 4] rfl)
  · exact absurd hs.1 c_1354
set_option maxHeartbeats 4000000 in
set_option maxRecDepth 100000 in
theorem law_far {p : Program} {l : Launch} {e : Env} {s : State} {m : MethodId} {args : Array Value} {below : List Frame} {meth : Method} {c : Code} {H : Heap} {locs : List Loc} {cells slots : Nat} {Q : State → Prop} {ls : Array Slot} {E : rg_Env} {B : Nat} {M : rg_Mem} {b L i : Nat} {xs : Nat → Int32} (hst : l.stackTraces = false) (C0 : rg_Cx p m c cL_law 7 s args "RengaHallLaw" E B) (hX : va_X b L xs s s.heap) (hbl : b < s.heap.size) (hbB : b < B) (hL : L ≤ 2560) (hi : i + 5 ≤ L) (h : rg_Inv M) (hH : rg_H E B 433 rg_R0 M s H locs) (hl : lv_has ls 7 [(0, .ref b), (1, .ref (B + 0)), (2, .ref (B + 412)), (3, .ref (B + 432)), (4, .int (nI i))]) (hc : cells + 6 ≤ 601024 ∧ slots + 36 ≤ 7293033)
    (kk : ∀ (M1 : rg_Mem) (H1 : Heap) (locs1 : List Loc) (ls1 : Array Slot), rg_Inv M1 → rg_H E B 433 rg_R0 M1 s H1 locs1 → lv_has ls1 7 [(0, .ref b), (1, .ref (B + 0)), (2, .ref (B + 412)), (3, .ref (B + 432)), (4, .int (nI i))] → W p l e room_1 s m args below meth c H1 locs1 (cells + 6) (slots + 36) Q (F0 m 1539 ls1 [])) : W p l e room_1 s m args below meth c H locs cells slots Q (F0 m 1359 ls []) := by
  have hx := C0.1.1
  have hb := C0.1.2.1
  refine lv_aload_n hx hb dL_law_1359 rfl (lv_at hl 1 rfl) ?_
  refine lv_aload_n hx hb dL_law_1360 rfl (lv_at hl 0 rfl) ?_
  refine lv_iload hx hb dL_law_1361 (lv_at hl 4 rfl) ?_
  refine lv_iconst (v := 1) hx hb dL_law_1363 (by decide) ?_
  refine lv_iadd hx hb dL_law_1364 ?_
  refine rg_topi (y := nI (i + 1)) (by exact nI_add i 1) ?_
  refine rg_sld C0 hX hbl hbB hH (j := i + 1) ⟨by omega, hL⟩ dL_law_1365 ?_
  refine lv_aload_n hx hb dL_law_1366 rfl (lv_at hl 0 rfl) ?_
  refine lv_iload hx hb dL_law_1367 (lv_at hl 4 rfl) ?_
  refine lv_iconst (v := 2) hx hb dL_law_1369 (by decide) ?_
  refine lv_iadd hx hb dL_law_1370 ?_
  refine rg_topi (y := nI (i + 2)) (by exact nI_add i 2) ?_
  refine rg_sld C0 hX hbl hbB hH (j := i + 2) ⟨by omega, hL⟩ dL_law_1371 ?_
  refine lv_aload_n hx hb dL_law_1372 rfl (lv_at hl 3 rfl) ?_
  refine rg_callSWi C0 hH (As := [.ref (B + 0), .int (xs (i + 1)), .int (xs (i + 2)), .ref (B + 432)]) (rest := []) (k_L_far l hst E B M (xs (i + 1)) (xs (i + 2)) (rg_Inv_ci h)) (rg_cwSW (hh := [(0, 10, 13, 21), (0, 10, 17, 15)]) 4 C0.1.2.2.2.2 tw_m_L_170 tw_s_L_far tw_n_L tw_c_L_far rfl rfl hd_L_far ⟨Nat.le_of_ble_eq_true rfl, Nat.le_of_ble_eq_true rfl⟩) rfl hl.1 rfl (Nat.le_of_ble_eq_true rfl) dL_law_1373 ⟨by show _ ≤ (601024 : Nat); omega, by show _ ≤ (7293033 : Nat); omega⟩ (fun k9 Mw H locs e1 hH => ?_)
  have hC := pre_far h e1
  refine lv_istore (lv' := [(5, .int k9), (0, .ref b), (1, .ref (B + 0)), (2, .ref (B + 412)), (3, .ref (B + 432)), (4, .int (nI i))]) hx hb dL_law_1376 hl (by decide) rfl (fun ls hl => ?_)
  refine lv_aload_n hx hb dL_law_1378 rfl (lv_at hl 3 rfl) ?_
  refine lv_aload_n hx hb dL_law_1379 rfl (lv_at hl 1 rfl) ?_
  refine lv_iload hx hb dL_law_1380 (lv_at hl 5 rfl) ?_
  refine lv_iconst (v := 1) hx hb dL_law_1382 (by decide) ?_
  refine lv_iadd hx hb dL_law_1383 ?_
  refine rg_topi (y := nI (i + 1)) (by exact nI_add i 1) ?_
  refine rg_sld C0 hX hbl hbB hH (j := i + 1) ⟨by omega, hL⟩ dL_law_1384 ?_
  refine lv_aload_n hx hb dL_law_1385 rfl (lv_at hl 1 rfl) ?_
  refine lv_iload hx hb dL_law_1386 (lv_at hl 5 rfl) ?_
  refine lv_iconst (v := 2) hx hb dL_law_1388 (by decide) ?_
  refine lv_iadd hx hb dL_law_1389 ?_
  refine rg_topi (y := nI (i + 2)) (by exact nI_add i 2) ?_
  refine rg_sld C0 hX hbl hbB hH (j := i + 2) ⟨by omega, hL⟩ dL_law_1390 ?_
  refine rg_callWi C0 hH (As := [.int (xs (i + 1)), .int (xs (i + 2))]) (rest := []) (o := 412) (ci := 7) (k_X7_far l E B Mw (xs (i + 1)) (xs (i + 2)) hC) (rg_cw 2 C0.1.2.2.2.2 tw_m_L_172 tw_i_X7_far tw_v_X7_far tw_n_X7 tw_c_X7_far rfl rfl hd_X7_far ⟨Nat.le_of_ble_eq_true rfl, Nat.le_of_ble_eq_true rfl⟩) rfl (by decide) rfl (by decide) rfl hl.1 rfl (Nat.le_of_ble_eq_true rfl) dL_law_1391 ⟨by show _ ≤ (601024 : Nat); omega, by show _ ≤ (7293033 : Nat); omega⟩ (fun r9 Mz H locs e2 hH => ?_)
  have hs := sim_far h e1 e2
  refine lv_istore (lv' := [(6, .int r9), (5, .int k9), (0, .ref b), (1, .ref (B + 0)), (2, .ref (B + 412)), (3, .ref (B + 432)), (4, .int (nI i))]) hx hb dL_law_1394 hl (by decide) rfl (fun ls hl => ?_)
  refine lv_aload_n hx hb dL_law_1396 rfl (lv_at hl 4 rfl) ?_
  refine rg_callGi C0 hH (As := []) (rest := []) (o := 412) (ci := 7) (k_X7_thrown l E B Mz) (rg_cw 0 C0.1.2.2.2.2 tw_m_L_93 tw_i_X7_thrown tw_v_X7_thrown tw_n_X7 tw_c_X7_thrown rfl rfl hd_X7_thrown ⟨Nat.le_of_ble_eq_true rfl, Nat.le_of_ble_eq_true rfl⟩) rfl (by decide) rfl (by decide) rfl hl.1 rfl (Nat.le_of_ble_eq_true rfl) dL_law_1397 ⟨by show _ ≤ (601024 : Nat); omega, by show _ ≤ (7293033 : Nat); omega⟩ (fun H locs hH => ?_)
  refine lv_iload hx hb dL_law_1400 (lv_at hl 1 rfl) ?_
  refine lv_icmp_eq (tgt := 1407) hx hb dL_law_1402 (by decide) (fun c_1402 => ?_) (fun c_1402 => ?_)
  · refine lv_iload hx hb dL_law_1407 (lv_at hl 1 rfl) ?_
    refine lv_if_ne (tgt := 1424) hx hb dL_law_1409 (by decide) (fun c_1409 => ?_) (fun c_1409 => ?_)
    · refine lv_goto (tgt := 1539) hx hb dL_law_1424 (by decide) ?_
      refine W.widen (k := cells + 6) (n := slots + 36) (by omega) (by omega) ?_
      exact kk _ _ _ _ hs.2.2 hH (lv_sub hl [2, 3, 4, 5, 6] rfl)
    · refine lv_aload_n hx hb dL_law_1412 rfl (lv_at hl 5 rfl) ?_
      refine lv_iconst (v := 0) hx hb dL_law_1413 (by decide) ?_
      refine rg_lald C0 hH (o := 432) (by decide) rfl (rg_vin rfl (by exact (vp_in_nI (Nat.zero_lt_one) (by omega) : vp_in (nI 0) 1))) dL_law_1414 ?_
      refine rg_topl (y := Mz.2 432 0) (by exact rfl) ?_
      refine lv_iload hx hb dL_law_1415 (lv_at hl 0 rfl) ?_
      refine lv_i2l hx hb dL_law_1417 rfl ?_
      refine W.lcmp hx hb dL_law_1418 ?_
      refine lv_if_eq (tgt := 1424) hx hb dL_law_1419 (by decide) (fun c_1419 => ?_) (fun c_1419 => ?_)
      · refine lv_goto (tgt := 1539) hx hb dL_law_1424 (by decide) ?_
        refine W.widen (k := cells + 6) (n := slots + 36) (by omega) (by omega) ?_
        exact kk _ _ _ _ hs.2.2 hH (lv_sub hl [2, 3, 4, 5, 6] rfl)
      · exact absurd (rg_cmp0.mpr (hs.2.1 c_1409)) c_1419
  · exact absurd hs.1 c_1402
set_option maxHeartbeats 4000000 in
set_option maxRecDepth 100000 in
theorem law_source {p : Program} {l : Launch} {e : Env} {s : State} {m : MethodId} {args : Array Value} {below : List Frame} {meth : Method} {c : Code} {H : Heap} {locs : List Loc} {cells slots : Nat} {Q : State → Prop} {ls : Array Slot} {E : rg_Env} {B : Nat} {M : rg_Mem} {b L i : Nat} {xs : Nat → Int32} (hst : l.stackTraces = false) (C0 : rg_Cx p m c cL_law 7 s args "RengaHallLaw" E B) (hX : va_X b L xs s s.heap) (hbl : b < s.heap.size) (hbB : b < B) (hL : L ≤ 2560) (hi : i + 5 ≤ L) (h : rg_Inv M) (hH : rg_H E B 433 rg_R0 M s H locs) (hl : lv_has ls 7 [(0, .ref b), (1, .ref (B + 0)), (2, .ref (B + 412)), (3, .ref (B + 432)), (4, .int (nI i))]) (hc : cells + 6 ≤ 601024 ∧ slots + 36 ≤ 7293033)
    (kk : ∀ (M1 : rg_Mem) (H1 : Heap) (locs1 : List Loc) (ls1 : Array Slot), rg_Inv M1 → rg_H E B 433 rg_R0 M1 s H1 locs1 → lv_has ls1 7 [(0, .ref b), (1, .ref (B + 0)), (2, .ref (B + 412)), (3, .ref (B + 432)), (4, .int (nI i))] → W p l e room_1 s m args below meth c H1 locs1 (cells + 6) (slots + 36) Q (F0 m 1539 ls1 [])) : W p l e room_1 s m args below meth c H locs cells slots Q (F0 m 1427 ls []) := by
  have hx := C0.1.1
  have hb := C0.1.2.1
  refine lv_aload_n hx hb dL_law_1427 rfl (lv_at hl 1 rfl) ?_
  refine lv_aload_n hx hb dL_law_1428 rfl (lv_at hl 0 rfl) ?_
  refine lv_iload hx hb dL_law_1429 (lv_at hl 4 rfl) ?_
  refine lv_iconst (v := 1) hx hb dL_law_1431 (by decide) ?_
  refine lv_iadd hx hb dL_law_1432 ?_
  refine rg_topi (y := nI (i + 1)) (by exact nI_add i 1) ?_
  refine rg_sld C0 hX hbl hbB hH (j := i + 1) ⟨by omega, hL⟩ dL_law_1433 ?_
  refine lv_aload_n hx hb dL_law_1434 rfl (lv_at hl 3 rfl) ?_
  refine rg_callSWi C0 hH (As := [.ref (B + 0), .int (xs (i + 1)), .ref (B + 432)]) (rest := []) (k_L_source l hst E B M (xs (i + 1)) (rg_Inv_ci h)) (rg_cwSW (hh := [(0, 9, 12, 21)]) 3 C0.1.2.2.2.2 tw_m_L_173 tw_s_L_source tw_n_L tw_c_L_source rfl rfl hd_L_source ⟨Nat.le_of_ble_eq_true rfl, Nat.le_of_ble_eq_true rfl⟩) rfl hl.1 rfl (Nat.le_of_ble_eq_true rfl) dL_law_1435 ⟨by show _ ≤ (601024 : Nat); omega, by show _ ≤ (7293033 : Nat); omega⟩ (fun k9 Mw H locs e1 hH => ?_)
  have hC := pre_source h e1
  refine lv_istore (lv' := [(5, .int k9), (0, .ref b), (1, .ref (B + 0)), (2, .ref (B + 412)), (3, .ref (B + 432)), (4, .int (nI i))]) hx hb dL_law_1438 hl (by decide) rfl (fun ls hl => ?_)
  refine lv_aload_n hx hb dL_law_1440 rfl (lv_at hl 3 rfl) ?_
  refine lv_aload_n hx hb dL_law_1441 rfl (lv_at hl 1 rfl) ?_
  refine lv_iload hx hb dL_law_1442 (lv_at hl 5 rfl) ?_
  refine lv_iconst (v := 1) hx hb dL_law_1444 (by decide) ?_
  refine lv_iadd hx hb dL_law_1445 ?_
  refine rg_topi (y := nI (i + 1)) (by exact nI_add i 1) ?_
  refine rg_sld C0 hX hbl hbB hH (j := i + 1) ⟨by omega, hL⟩ dL_law_1446 ?_
  refine rg_callWi C0 hH (As := [.int (xs (i + 1))]) (rest := []) (o := 412) (ci := 7) (k_X7_source l E B Mw (xs (i + 1)) hC) (rg_cw 1 C0.1.2.2.2.2 tw_m_L_175 tw_i_X7_source tw_v_X7_source tw_n_X7 tw_c_X7_source rfl rfl hd_X7_source ⟨Nat.le_of_ble_eq_true rfl, Nat.le_of_ble_eq_true rfl⟩) rfl (by decide) rfl (by decide) rfl hl.1 rfl (Nat.le_of_ble_eq_true rfl) dL_law_1447 ⟨by show _ ≤ (601024 : Nat); omega, by show _ ≤ (7293033 : Nat); omega⟩ (fun r9 Mz H locs e2 hH => ?_)
  have hs := sim_source h e1 e2
  refine lv_istore (lv' := [(6, .int r9), (5, .int k9), (0, .ref b), (1, .ref (B + 0)), (2, .ref (B + 412)), (3, .ref (B + 432)), (4, .int (nI i))]) hx hb dL_law_1450 hl (by decide) rfl (fun ls hl => ?_)
  refine lv_aload_n hx hb dL_law_1452 rfl (lv_at hl 4 rfl) ?_
  refine rg_callGi C0 hH (As := []) (rest := []) (o := 412) (ci := 7) (k_X7_thrown l E B Mz) (rg_cw 0 C0.1.2.2.2.2 tw_m_L_93 tw_i_X7_thrown tw_v_X7_thrown tw_n_X7 tw_c_X7_thrown rfl rfl hd_X7_thrown ⟨Nat.le_of_ble_eq_true rfl, Nat.le_of_ble_eq_true rfl⟩) rfl (by decide) rfl (by decide) rfl hl.1 rfl (Nat.le_of_ble_eq_true rfl) dL_law_1453 ⟨by show _ ≤ (601024 : Nat); omega, by show _ ≤ (7293033 : Nat); omega⟩ (fun H locs hH => ?_)
  refine lv_iload hx hb dL_law_1456 (lv_at hl 1 rfl) ?_
  refine lv_icmp_eq (tgt := 1463) hx hb dL_law_1458 (by decide) (fun c_1458 => ?_) (fun c_1458 => ?_)
  · refine lv_iload hx hb dL_law_1463 (lv_at hl 1 rfl) ?_
    refine lv_if_ne (tgt := 1480) hx hb dL_law_1465 (by decide) (fun c_1465 => ?_) (fun c_1465 => ?_)
    · refine lv_goto (tgt := 1539) hx hb dL_law_1480 (by decide) ?_
      refine W.widen (k := cells + 6) (n := slots + 36) (by omega) (by omega) ?_
      exact kk _ _ _ _ hs.2.2 hH (lv_sub hl [2, 3, 4, 5, 6] rfl)
    · refine lv_aload_n hx hb dL_law_1468 rfl (lv_at hl 5 rfl) ?_
      refine lv_iconst (v := 0) hx hb dL_law_1469 (by decide) ?_
      refine rg_lald C0 hH (o := 432) (by decide) rfl (rg_vin rfl (by exact (vp_in_nI (Nat.zero_lt_one) (by omega) : vp_in (nI 0) 1))) dL_law_1470 ?_
      refine rg_topl (y := Mz.2 432 0) (by exact rfl) ?_
      refine lv_iload hx hb dL_law_1471 (lv_at hl 0 rfl) ?_
      refine lv_i2l hx hb dL_law_1473 rfl ?_
      refine W.lcmp hx hb dL_law_1474 ?_
      refine lv_if_eq (tgt := 1480) hx hb dL_law_1475 (by decide) (fun c_1475 => ?_) (fun c_1475 => ?_)
      · refine lv_goto (tgt := 1539) hx hb dL_law_1480 (by decide) ?_
        refine W.widen (k := cells + 6) (n := slots + 36) (by omega) (by omega) ?_
        exact kk _ _ _ _ hs.2.2 hH (lv_sub hl [2, 3, 4, 5, 6] rfl)
      · exact absurd (rg_cmp0.mpr (hs.2.1 c_1465)) c_1475
  · exact absurd hs.1 c_1458
set_option maxHeartbeats 4000000 in
set_option maxRecDepth 100000 in
theorem law_hand {p : Program} {l : Launch} {e : Env} {s : State} {m : MethodId} {args : Array Value} {below : List Frame} {meth : Method} {c : Code} {H : Heap} {locs : List Loc} {cells slots : Nat} {Q : State → Prop} {ls : Array Slot} {E : rg_Env} {B : Nat} {M : rg_Mem} {b L i : Nat} {xs : Nat → Int32} (hst : l.stackTraces = false) (C0 : rg_Cx p m c cL_law 7 s args "RengaHallLaw" E B) (hX : va_X b L xs s s.heap) (hbl : b < s.heap.size) (hbB : b < B) (hL : L ≤ 2560) (hi : i + 5 ≤ L) (h : rg_Inv M) (hH : rg_H E B 433 rg_R0 M s H locs) (hl : lv_has ls 7 [(0, .ref b), (1, .ref (B + 0)), (2, .ref (B + 412)), (3, .ref (B + 432)), (4, .int (nI i))]) (hc : cells + 6 ≤ 601024 ∧ slots + 36 ≤ 7293033)
    (kk : ∀ (M1 : rg_Mem) (H1 : Heap) (locs1 : List Loc) (ls1 : Array Slot), rg_Inv M1 → rg_H E B 433 rg_R0 M1 s H1 locs1 → lv_has ls1 7 [(0, .ref b), (1, .ref (B + 0)), (2, .ref (B + 412)), (3, .ref (B + 432)), (4, .int (nI i))] → W p l e room_1 s m args below meth c H1 locs1 (cells + 6) (slots + 36) Q (F0 m 1539 ls1 [])) : W p l e room_1 s m args below meth c H locs cells slots Q (F0 m 1483 ls []) := by
  have hx := C0.1.1
  have hb := C0.1.2.1
  refine lv_aload_n hx hb dL_law_1483 rfl (lv_at hl 1 rfl) ?_
  refine lv_aload_n hx hb dL_law_1484 rfl (lv_at hl 0 rfl) ?_
  refine lv_iload hx hb dL_law_1485 (lv_at hl 4 rfl) ?_
  refine lv_iconst (v := 1) hx hb dL_law_1487 (by decide) ?_
  refine lv_iadd hx hb dL_law_1488 ?_
  refine rg_topi (y := nI (i + 1)) (by exact nI_add i 1) ?_
  refine rg_sld C0 hX hbl hbB hH (j := i + 1) ⟨by omega, hL⟩ dL_law_1489 ?_
  refine lv_aload_n hx hb dL_law_1490 rfl (lv_at hl 3 rfl) ?_
  refine rg_callSWi C0 hH (As := [.ref (B + 0), .int (xs (i + 1)), .ref (B + 432)]) (rest := []) (k_L_hand l hst E B M (xs (i + 1)) (rg_Inv_ci h)) (rg_cwSW (hh := [(0, 9, 12, 21)]) 3 C0.1.2.2.2.2 tw_m_L_176 tw_s_L_hand tw_n_L tw_c_L_hand rfl rfl hd_L_hand ⟨Nat.le_of_ble_eq_true rfl, Nat.le_of_ble_eq_true rfl⟩) rfl hl.1 rfl (Nat.le_of_ble_eq_true rfl) dL_law_1491 ⟨by show _ ≤ (601024 : Nat); omega, by show _ ≤ (7293033 : Nat); omega⟩ (fun k9 Mw H locs e1 hH => ?_)
  have hC := pre_hand h e1
  refine lv_istore (lv' := [(5, .int k9), (0, .ref b), (1, .ref (B + 0)), (2, .ref (B + 412)), (3, .ref (B + 432)), (4, .int (nI i))]) hx hb dL_law_1494 hl (by decide) rfl (fun ls hl => ?_)
  refine lv_aload_n hx hb dL_law_1496 rfl (lv_at hl 3 rfl) ?_
  refine lv_aload_n hx hb dL_law_1497 rfl (lv_at hl 1 rfl) ?_
  refine lv_iload hx hb dL_law_1498 (lv_at hl 5 rfl) ?_
  refine lv_iconst (v := 1) hx hb dL_law_1500 (by decide) ?_
  refine lv_iadd hx hb dL_law_1501 ?_
  refine rg_topi (y := nI (i + 1)) (by exact nI_add i 1) ?_
  refine rg_sld C0 hX hbl hbB hH (j := i + 1) ⟨by omega, hL⟩ dL_law_1502 ?_
  refine rg_callWi C0 hH (As := [.int (xs (i + 1))]) (rest := []) (o := 412) (ci := 7) (k_X7_hand l E B Mw (xs (i + 1)) hC) (rg_cw 1 C0.1.2.2.2.2 tw_m_L_178 tw_i_X7_hand tw_v_X7_hand tw_n_X7 tw_c_X7_hand rfl rfl hd_X7_hand ⟨Nat.le_of_ble_eq_true rfl, Nat.le_of_ble_eq_true rfl⟩) rfl (by decide) rfl (by decide) rfl hl.1 rfl (Nat.le_of_ble_eq_true rfl) dL_law_1503 ⟨by show _ ≤ (601024 : Nat); omega, by show _ ≤ (7293033 : Nat); omega⟩ (fun r9 Mz H locs e2 hH => ?_)
  have hs := sim_hand h e1 e2
  refine lv_istore (lv' := [(6, .int r9), (5, .int k9), (0, .ref b), (1, .ref (B + 0)), (2, .ref (B + 412)), (3, .ref (B + 432)), (4, .int (nI i))]) hx hb dL_law_1506 hl (by decide) rfl (fun ls hl => ?_)
  refine lv_aload_n hx hb dL_law_1508 rfl (lv_at hl 4 rfl) ?_
  refine rg_callGi C0 hH (As := []) (rest := []) (o := 412) (ci := 7) (k_X7_thrown l E B Mz) (rg_cw 0 C0.1.2.2.2.2 tw_m_L_93 tw_i_X7_thrown tw_v_X7_thrown tw_n_X7 tw_c_X7_thrown rfl rfl hd_X7_thrown ⟨Nat.le_of_ble_eq_true rfl, Nat.le_of_ble_eq_true rfl⟩) rfl (by decide) rfl (by decide) rfl hl.1 rfl (Nat.le_of_ble_eq_true rfl) dL_law_1509 ⟨by show _ ≤ (601024 : Nat); omega, by show _ ≤ (7293033 : Nat); omega⟩ (fun H locs hH => ?_)
  refine lv_iload hx hb dL_law_1512 (lv_at hl 1 rfl) ?_
  refine lv_icmp_eq (tgt := 1519) hx hb dL_law_1514 (by decide) (fun c_1514 => ?_) (fun c_1514 => ?_)
  · refine lv_iload hx hb dL_law_1519 (lv_at hl 1 rfl) ?_
    refine lv_if_ne (tgt := 1536) hx hb dL_law_1521 (by decide) (fun c_1521 => ?_) (fun c_1521 => ?_)
    · refine lv_goto (tgt := 1539) hx hb dL_law_1536 (by decide) ?_
      refine W.widen (k := cells + 6) (n := slots + 36) (by omega) (by omega) ?_
      exact kk _ _ _ _ hs.2.2 hH (lv_sub hl [2, 3, 4, 5, 6] rfl)
    · refine lv_aload_n hx hb dL_law_1524 rfl (lv_at hl 5 rfl) ?_
      refine lv_iconst (v := 0) hx hb dL_law_1525 (by decide) ?_
      refine rg_lald C0 hH (o := 432) (by decide) rfl (rg_vin rfl (by exact (vp_in_nI (Nat.zero_lt_one) (by omega) : vp_in (nI 0) 1))) dL_law_1526 ?_
      refine rg_topl (y := Mz.2 432 0) (by exact rfl) ?_
      refine lv_iload hx hb dL_law_1527 (lv_at hl 0 rfl) ?_
      refine lv_i2l hx hb dL_law_1529 rfl ?_
      refine W.lcmp hx hb dL_law_1530 ?_
      refine lv_if_eq (tgt := 1536) hx hb dL_law_1531 (by decide) (fun c_1531 => ?_) (fun c_1531 => ?_)
      · refine lv_goto (tgt := 1539) hx hb dL_law_1536 (by decide) ?_
        refine W.widen (k := cells + 6) (n := slots + 36) (by omega) (by omega) ?_
        exact kk _ _ _ _ hs.2.2 hH (lv_sub hl [2, 3, 4, 5, 6] rfl)
      · exact absurd (rg_cmp0.mpr (hs.2.1 c_1521)) c_1531
  · exact absurd hs.1 c_1514
