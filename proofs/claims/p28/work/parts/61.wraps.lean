theorem rp_begun {M : rg_Mem} (h : rp_Inv M) (hc : 0 < rg_nc M) : ¬ M.1 6 0 ≤ 0 := by
  have ht := rg_CI_t (rp_ci h)
  rw [ht.1, lw_le0 (by omega)]
  have h1 := (rp_n h).2.2.2.2 hc
  have h2 := rp_nl h
  omega
theorem a_links (l : Launch) (E : rg_Env) (B : Nat) (M : rg_Mem) (hI : rp_Inv M) (hst : l.stackTraces = false) : Met l yX6_links (rg_w yX6_links cX6_links 1 (some (FieldType.int))) ({ frames := 0, cells := 0, slots := 0, locals := 0 } : Room) (va_Pc [.ref (B + 0)] (rg_Pre E B 422 rg_R0 M)) (rg_Ri E B 422 rg_R0 (M) (fun r => r = M.1 417 3)) 0 0 (rg_A B) := by
  exact rg_RG (k_X6_links l E B M) (fun r q => q.trans (rp_m hI).2.2.2.1.symm)

theorem a_offers (l : Launch) (E : rg_Env) (B : Nat) (M : rg_Mem) (hI : rp_Inv M) (hst : l.stackTraces = false) : Met l yX6_offers (rg_w yX6_offers cX6_offers 1 (some (FieldType.int))) ({ frames := 0, cells := 0, slots := 0, locals := 0 } : Room) (va_Pc [.ref (B + 0)] (rg_Pre E B 422 rg_R0 M)) (rg_Ri E B 422 rg_R0 (M) (fun r => r = M.1 417 5)) 0 0 (rg_A B) := by
  exact rg_RG (k_X6_offers l E B M) (fun r q => q.trans (rp_m hI).2.2.2.2.2.1.symm)

theorem a_why (l : Launch) (E : rg_Env) (B : Nat) (M : rg_Mem) (hI : rp_Inv M) (hst : l.stackTraces = false) : Met l yX6_why (rg_w yX6_why cX6_why 1 (some (FieldType.int))) ({ frames := 0, cells := 0, slots := 0, locals := 0 } : Room) (va_Pc [.ref (B + 0)] (rg_Pre E B 422 rg_R0 M)) (rg_Ri E B 422 rg_R0 (M) (fun r => r = M.1 417 6)) 0 0 (rg_A B) := by
  exact rg_RG (k_X6_why l E B M) (fun r q => q.trans (rp_m hI).2.2.2.2.2.2.1.symm)

theorem a_prize (l : Launch) (E : rg_Env) (B : Nat) (M : rg_Mem) (hI : rp_Inv M) (hst : l.stackTraces = false) : Met l yX6_prize (rg_w yX6_prize cX6_prize 4 (some (FieldType.int))) ({ frames := 2, cells := 0, slots := 0, locals := 44 } : Room) (va_Pc [.ref (B + 0)] (rg_Pre E B 422 rg_R0 M)) (rg_Wi E B 422 rg_R0 (fun r M1 => rp_Inv M1 ∧ rp_eqv M M1 ∧ r = (lw_pz M1 (3 - (0)) (0)).1)) 0 0 (rg_A B) := by
  refine rg_RW (k_X6_prize l E B M (rp_ci hI)) (fun r q => ?_)
  have g : rp_eqv M (rg_pl M (rg_nl M)) := rp_eqv_mean (fun c h1 h2 => rg_pl_off (rg_nl M) h1 h2)
  refine ⟨rp_Inv_eqv hI (rg_CI_mean (rp_ci hI) (fun c h1 h2 => rg_pl_off (rg_nl M) h1 h2)) g, g, ?_⟩
  rw [q, rp_prize hI, lw_pz_c (g 415 (by omega)).1 (g 416 (by omega)).1]

theorem a_of0 (l : Launch) (E : rg_Env) (B : Nat) (M : rg_Mem) (j : Nat) (hI : rp_Inv M) (hj : j < rg_nl M) (hst : l.stackTraces = false) : Met l yX6_ofLink (rg_w yX6_ofLink cX6_ofLink 3 (some (FieldType.int))) ({ frames := 7, cells := 2, slots := 12, locals := 113 } : Room) (va_Pc [.ref (B + 0), .int (nI j), .int (0)] (rg_Pre E B 422 rg_R0 M)) (rg_Ri E B 422 rg_R0 (M) (fun r => r = if M.1 415 (4 * j + 2) = 1 then -1 else M.1 415 (4 * j))) 2 12 (rg_A B) := by
  have hl := rg_hl_k (rg_CI_l (rp_ci hI)).1 (rg_CI_l (rp_ci hI)).2 hj
  have hl2 := rp_nl hI
  refine rg_RG (rg_noX (k_X6_ofLink l hst E B M (nI j) 0 (rp_ci hI)) (fun X q => ?_)) (fun r q => ?_)
  · rcases q with q | q
    · exact q.1 hl
    · exact q.2.1 (by decide)
  · rw [q.2, nI_clamp (by omega), show (0 : Int32).toNatClampNeg = 0 from by decide]
    exact rp_ol0 hI hj

theorem a_of1 (l : Launch) (E : rg_Env) (B : Nat) (M : rg_Mem) (j : Nat) (hI : rp_Inv M) (hj : j < rg_nl M) (hst : l.stackTraces = false) : Met l yX6_ofLink (rg_w yX6_ofLink cX6_ofLink 3 (some (FieldType.int))) ({ frames := 7, cells := 2, slots := 12, locals := 113 } : Room) (va_Pc [.ref (B + 0), .int (nI j), .int (1)] (rg_Pre E B 422 rg_R0 M)) (rg_Ri E B 422 rg_R0 (M) (fun r => r = lw_sea M j)) 2 12 (rg_A B) := by
  have hl := rg_hl_k (rg_CI_l (rp_ci hI)).1 (rg_CI_l (rp_ci hI)).2 hj
  have hl2 := rp_nl hI
  refine rg_RG (rg_noX (k_X6_ofLink l hst E B M (nI j) 1 (rp_ci hI)) (fun X q => ?_)) (fun r q => ?_)
  · rcases q with q | q
    · exact q.1 hl
    · exact q.2.1 (by decide)
  · rw [q.2, nI_clamp (by omega), show (1 : Int32).toNatClampNeg = 1 from by decide]
    exact rp_sea_j hI hj

theorem a_of2 (l : Launch) (E : rg_Env) (B : Nat) (M : rg_Mem) (j : Nat) (hI : rp_Inv M) (hj : j < rg_nl M) (hst : l.stackTraces = false) : Met l yX6_ofLink (rg_w yX6_ofLink cX6_ofLink 3 (some (FieldType.int))) ({ frames := 7, cells := 2, slots := 12, locals := 113 } : Room) (va_Pc [.ref (B + 0), .int (nI j), .int (2)] (rg_Pre E B 422 rg_R0 M)) (rg_Ri E B 422 rg_R0 (M) (fun r => r = lw_sgn M j)) 2 12 (rg_A B) := by
  have hl := rg_hl_k (rg_CI_l (rp_ci hI)).1 (rg_CI_l (rp_ci hI)).2 hj
  have hl2 := rp_nl hI
  refine rg_RG (rg_noX (k_X6_ofLink l hst E B M (nI j) 2 (rp_ci hI)) (fun X q => ?_)) (fun r q => ?_)
  · rcases q with q | q
    · exact q.1 hl
    · exact q.2.1 (by decide)
  · rw [q.2, nI_clamp (by omega), show (2 : Int32).toNatClampNeg = 2 from by decide]
    exact rp_sgn_j hI hj

theorem a_of3 (l : Launch) (E : rg_Env) (B : Nat) (M : rg_Mem) (j : Nat) (hI : rp_Inv M) (hj : j < rg_nl M) (hst : l.stackTraces = false) : Met l yX6_ofLink (rg_w yX6_ofLink cX6_ofLink 3 (some (FieldType.int))) ({ frames := 7, cells := 2, slots := 12, locals := 113 } : Room) (va_Pc [.ref (B + 0), .int (nI j), .int (3)] (rg_Pre E B 422 rg_R0 M)) (rg_Ri E B 422 rg_R0 (M) (fun r => r = nI (lw_ct (rp_nz M j) 6))) 2 12 (rg_A B) := by
  have hl := rg_hl_k (rg_CI_l (rp_ci hI)).1 (rg_CI_l (rp_ci hI)).2 hj
  have hl2 := rp_nl hI
  refine rg_RG (rg_noX (k_X6_ofLink l hst E B M (nI j) 3 (rp_ci hI)) (fun X q => ?_)) (fun r q => ?_)
  · rcases q with q | q
    · exact q.1 hl
    · exact q.2.1 (by decide)
  · rw [q.2, nI_clamp (by omega), show (3 : Int32).toNatClampNeg = 3 from by decide]
    exact rp_ol3 hI hj

theorem a_of4 (l : Launch) (E : rg_Env) (B : Nat) (M : rg_Mem) (j : Nat) (hI : rp_Inv M) (hj : j < rg_nl M) (hst : l.stackTraces = false) : Met l yX6_ofLink (rg_w yX6_ofLink cX6_ofLink 3 (some (FieldType.int))) ({ frames := 7, cells := 2, slots := 12, locals := 113 } : Room) (va_Pc [.ref (B + 0), .int (nI j), .int (4)] (rg_Pre E B 422 rg_R0 M)) (rg_Ri E B 422 rg_R0 (M) (fun r => r = lw_run M j)) 2 12 (rg_A B) := by
  have hl := rg_hl_k (rg_CI_l (rp_ci hI)).1 (rg_CI_l (rp_ci hI)).2 hj
  have hl2 := rp_nl hI
  refine rg_RG (rg_noX (k_X6_ofLink l hst E B M (nI j) 4 (rp_ci hI)) (fun X q => ?_)) (fun r q => ?_)
  · rcases q with q | q
    · exact q.1 hl
    · exact q.2.1 (by decide)
  · rw [q.2, nI_clamp (by omega), show (4 : Int32).toNatClampNeg = 4 from by decide]
    exact rp_ol4 hI hj

theorem a_of5 (l : Launch) (E : rg_Env) (B : Nat) (M : rg_Mem) (j : Nat) (hI : rp_Inv M) (hj : j < rg_nl M) (hst : l.stackTraces = false) : Met l yX6_ofLink (rg_w yX6_ofLink cX6_ofLink 3 (some (FieldType.int))) ({ frames := 7, cells := 2, slots := 12, locals := 113 } : Room) (va_Pc [.ref (B + 0), .int (nI j), .int (5)] (rg_Pre E B 422 rg_R0 M)) (rg_Ri E B 422 rg_R0 (M) (fun r => r = M.1 415 (4 * j + 3))) 2 12 (rg_A B) := by
  have hl := rg_hl_k (rg_CI_l (rp_ci hI)).1 (rg_CI_l (rp_ci hI)).2 hj
  have hl2 := rp_nl hI
  refine rg_RG (rg_noX (k_X6_ofLink l hst E B M (nI j) 5 (rp_ci hI)) (fun X q => ?_)) (fun r q => ?_)
  · rcases q with q | q
    · exact q.1 hl
    · exact q.2.1 (by decide)
  · rw [q.2, nI_clamp (by omega), show (5 : Int32).toNatClampNeg = 5 from by decide]
    exact rp_ol5 hI hj

theorem a_wordAt (l : Launch) (E : rg_Env) (B : Nat) (M : rg_Mem) (j : Nat) (p : Nat) (hI : rp_Inv M) (hj : j < rg_nl M) (hp : p < lw_ct (rp_nz M j) 6) (hst : l.stackTraces = false) : Met l yX6_wordAt (rg_w yX6_wordAt cX6_wordAt 3 (some (FieldType.int))) ({ frames := 7, cells := 2, slots := 12, locals := 112 } : Room) (va_Pc [.ref (B + 0), .int (nI j), .int (nI p)] (rg_Pre E B 422 rg_R0 M)) (rg_Ri E B 422 rg_R0 (M) (fun r => r = M.1 414 (6 * j + p) - 1)) 2 12 (rg_A B) := by
  have hw := rp_wordAt hI hj hp
  refine rg_RG (rg_noX (k_X6_wordAt l hst E B M (nI j) (nI p) (rp_ci hI)) (fun X q => q.1 ⟨hw.1, hw.2.1⟩)) (fun r q => q.2.trans hw.2.2)

theorem a_faultAnew (l : Launch) (E : rg_Env) (B : Nat) (M : rg_Mem) (j : Nat) (hI : rp_Inv M) (hj : j < rg_nl M) (hst : l.stackTraces = false) : Met l yX6_faultAnew (rg_w yX6_faultAnew cX6_faultAnew 2 (some (FieldType.int))) ({ frames := 7, cells := 1, slots := 6, locals := 138 } : Room) (va_Pc [.ref (B + 0), .int (nI j)] (rg_Pre E B 422 rg_R0 M)) (rg_Ri E B 422 rg_R0 (M) (fun r => r = (lw_fl (lw_cs M j (rg_sp M) (M.1 415 (4 * j)))) / 100)) 1 6 (rg_A B) := by
  have hl := rg_hl_k (rg_CI_l (rp_ci hI)).1 (rg_CI_l (rp_ci hI)).2 hj
  have hl2 := rp_nl hI
  refine rg_RG (rg_noX (k_X6_faultAnew l hst E B M (nI j) (rp_ci hI)) (fun X q => q.1 hl)) (fun r q => ?_)
  rw [q.2, nI_clamp (by omega)]
  exact rp_anew hI hj

theorem a_hand (l : Launch) (E : rg_Env) (B : Nat) (M : rg_Mem) (j : Nat) (hI : rp_Inv M) (hj : j < rg_nl M) (hst : l.stackTraces = false) : Met l yX6_hand (rg_w yX6_hand cX6_hand 3 (some (FieldType.int))) ({ frames := 7, cells := 1, slots := 6, locals := 111 } : Room) (va_Pc [.ref (B + 0), .int (nI j)] (rg_Pre E B 422 rg_R0 M)) (rg_Wi E B 422 rg_R0 (fun r M1 => rp_Inv M1 ∧ rp_eqv M M1 ∧ r = (lw_hz M1 j (rg_nl M1) (3 - (0)) (0)).1)) 1 6 (rg_A B) := by
  have hl := rg_hl_k (rg_CI_l (rp_ci hI)).1 (rg_CI_l (rp_ci hI)).2 hj
  have hl2 := rp_nl hI
  refine rg_RW (rg_noX (k_X6_hand l hst E B M (nI j) (rp_ci hI)) (fun X q => q.1 hl)) (fun r q => ?_)
  rw [nI_clamp (by omega)] at q ⊢
  have g : rp_eqv M (rg_hd M j (rg_nl M)) := rp_eqv_mean (fun c h1 h2 => rg_hd_off (rg_nl M) h1 h2)
  refine ⟨rp_Inv_eqv hI (rg_CI_mean (rp_ci hI) (fun c h1 h2 => rg_hd_off (rg_nl M) h1 h2)) g, g, ?_⟩
  rw [q.2, rp_hand hI hj, lw_hz_c g, rp_eqv_nl g]

theorem a_far0 (l : Launch) (E : rg_Env) (B : Nat) (M : rg_Mem) (hI : rp_Inv M) (hc : 0 < rg_nc M) (hst : l.stackTraces = false) : Met l yX6_far (rg_w yX6_far cX6_far 3 (some (FieldType.int))) ({ frames := 8, cells := 3, slots := 18, locals := 132 } : Room) (va_Pc [.ref (B + 0), .int (0), .int ((-1))] (rg_Pre E B 422 rg_R0 M)) (rg_Ri E B 422 rg_R0 (M) (fun r => r = nI (lw_cd (M.1 420) (M.1 414) 60))) 3 18 (rg_A B) := by
  have hn := rg_CI_c (rp_ci hI)
  have h0 : rg_tx M 0 := Or.inr ⟨by decide, by rw [hn.1]; exact (lw_nlt (a := 0) (by omega) (by omega)).mpr (by omega)⟩
  have h1 : rg_tx M (-1) := Or.inl rfl
  have hb : ¬ M.1 6 0 ≤ 0 := rp_begun hI (by omega)
  refine rg_RG (rg_noX (k_X6_far l hst E B M 0 (-1) (rp_ci hI)) (fun X q => ?_)) (fun r q => ?_)
  · rcases q with q | q
    · exact q.1 ⟨h0, h1⟩
    · exact q.2.1 hb
  · rw [q.2]
    exact rp_far (t := nI 0) (u := -1) (rp_TX_c hI (c := 0) (by omega)) (rp_TX_m hI)

theorem a_far1 (l : Launch) (E : rg_Env) (B : Nat) (M : rg_Mem) (hI : rp_Inv M) (hc : 1 < rg_nc M) (hst : l.stackTraces = false) : Met l yX6_far (rg_w yX6_far cX6_far 3 (some (FieldType.int))) ({ frames := 8, cells := 3, slots := 18, locals := 132 } : Room) (va_Pc [.ref (B + 0), .int (0), .int (1)] (rg_Pre E B 422 rg_R0 M)) (rg_Ri E B 422 rg_R0 (M) (fun r => r = nI (lw_cd (M.1 420) (M.1 421) 60))) 3 18 (rg_A B) := by
  have hn := rg_CI_c (rp_ci hI)
  have h0 : rg_tx M 0 := Or.inr ⟨by decide, by rw [hn.1]; exact (lw_nlt (a := 0) (by omega) (by omega)).mpr (by omega)⟩
  have h1 : rg_tx M 1 := Or.inr ⟨by decide, by rw [hn.1]; exact (lw_nlt (a := 1) (by omega) (by omega)).mpr (by omega)⟩
  have hb : ¬ M.1 6 0 ≤ 0 := rp_begun hI (by omega)
  refine rg_RG (rg_noX (k_X6_far l hst E B M 0 1 (rp_ci hI)) (fun X q => ?_)) (fun r q => ?_)
  · rcases q with q | q
    · exact q.1 ⟨h0, h1⟩
    · exact q.2.1 hb
  · rw [q.2]
    exact rp_far (t := nI 0) (u := nI 1) (rp_TX_c hI (c := 0) (by omega)) (rp_TX_c hI (c := 1) (by omega))

theorem a_src0 (l : Launch) (E : rg_Env) (B : Nat) (M : rg_Mem) (hI : rp_Inv M) (hc : 0 < rg_nc M) (hst : l.stackTraces = false) : Met l yX6_source (rg_w yX6_source cX6_source 6 (some (FieldType.int))) ({ frames := 7, cells := 1, slots := 6, locals := 111 } : Room) (va_Pc [.ref (B + 0), .int (0)] (rg_Pre E B 422 rg_R0 M)) (rg_Ri E B 422 rg_R0 (M) (fun r => r = if 1 < rg_nc M ∧ lw_cd (M.1 420) (M.1 421) 60 < lw_cd (M.1 420) (M.1 414) 60 then 1 else -1)) 1 6 (rg_A B) := by
  have hn := rg_CI_c (rp_ci hI)
  refine rg_RG (rg_noX (k_X6_source l hst E B M 0 (rp_ci hI)) (fun X q => q.1 ⟨by decide, by rw [hn.1]; exact (lw_nlt (a := 0) (by omega) (by omega)).mpr (by omega)⟩)) (fun r q => ?_)
  rw [q.2]
  exact rp_src0 hI hc

theorem a_src1 (l : Launch) (E : rg_Env) (B : Nat) (M : rg_Mem) (hI : rp_Inv M) (hc : rg_nc M = 2) (hst : l.stackTraces = false) : Met l yX6_source (rg_w yX6_source cX6_source 6 (some (FieldType.int))) ({ frames := 7, cells := 1, slots := 6, locals := 111 } : Room) (va_Pc [.ref (B + 0), .int (1)] (rg_Pre E B 422 rg_R0 M)) (rg_Ri E B 422 rg_R0 (M) (fun r => r = if lw_cd (M.1 421) (M.1 420) 60 < lw_cd (M.1 421) (M.1 414) 60 then 0 else -1)) 1 6 (rg_A B) := by
  have hn := rg_CI_c (rp_ci hI)
  refine rg_RG (rg_noX (k_X6_source l hst E B M 1 (rp_ci hI)) (fun X q => q.1 ⟨by decide, by rw [hn.1]; exact (lw_nlt (a := 1) (by omega) (by omega)).mpr (by omega)⟩)) (fun r q => ?_)
  rw [q.2]
  exact rp_src1 hI hc

theorem a_chances (l : Launch) (E : rg_Env) (B : Nat) (M : rg_Mem) (p : Nat) (hI : rp_Inv M) (hp : p < 3) (hst : l.stackTraces = false) : Met l yX6_chances (rg_w yX6_chances cX6_chances 5 (some (FieldType.int))) ({ frames := 7, cells := 1, slots := 6, locals := 161 } : Room) (va_Pc [.ref (B + 0), .int (nI p)] (rg_Pre E B 422 rg_R0 M)) (rg_Wi E B 422 rg_R0 (fun r M1 => rp_Inv M1 ∧ rp_eqv M M1 ∧ r = if rg_nl M1 < rg_nt M1 then lw_ch (lw_ok M1 (rg_nl M1) (rg_sp M1) (nI p)) (-1) 272 0 0 else 0)) 1 6 (rg_A B) := by
  have hnp := rg_CI_p (rp_ci hI)
  have hnp3 : rg_np M = 3 := by unfold rg_np; rw [(rp_n hI).1.2, nI_clamp (by omega)]
  refine rg_WW (rg_noX (k_X6_chances l hst E B M (nI p) (rp_ci hI)) (fun X q => q.1 ⟨nI_pos (by omega), by rw [hnp.1]; exact (lw_nlt (by omega) (by omega)).mpr (by omega)⟩)) (fun r M1 q => ?_)
  have g := rp_eqv_off q.2.1
  refine ⟨rp_Inv_eqv hI (rg_CI_off (rp_ci hI) q.2.1) g, g, ?_⟩
  have hl := rg_CI_l (rp_ci hI)
  have ht := rg_CI_t (rp_ci hI)
  have hl2 := rp_nl hI
  have e6 := (g 6 (by omega)).1
  rw [q.2.2, hl.1, ht.1, show rg_nl M1 = rg_nl M from rp_eqv_nl g, show rg_nt M1 = rg_nt M by unfold rg_nt; rw [e6], show rg_sp M1 = rg_sp M by unfold rg_sp; rw [e6], lw_ok_c g]
  by_cases c : rg_nl M < rg_nt M
  · rw [if_pos c, if_pos (by rw [lw_nle (by omega) (by omega)]; omega), rp_nw hI, rp_c1 hI (by omega) (Or.inr ⟨p, by omega, rfl⟩) 16 (by omega)]
    exact (rp_ch0 272 0 (by omega)).symm
  · rw [if_neg c, if_neg (by rw [lw_nle (by omega) (by omega)]; omega)]
