theorem rg_CI_draft {M F : rg_Mem} {n : Nat} (h : rg_CI M) (f0 : ∀ c, c ≠ 90 → c ≠ 91 → F.1 c = M.1 c) (f2 : ∀ c, c ≠ 90 → c ≠ 91 → F.2 c = M.2 c) (v : rg_VS F 90 n) : rg_CI F := by
  have hl := (rg_CI_l h).2
  have ho := (rg_CI_o h).2
  have esz : rg_sz F 90 = n := by
    have := v.2.1
    exact rp_cl v.1 (by omega)
  refine rg_CI_mk (nw := rg_nw M) (np := rg_np M) (nl := rg_nl M) (nt := rg_nt M) (no := rg_no M) (nc := rg_nc M) (sp := rg_sp M) ?_ (rg_CI_w h).2 ?_ (rg_CI_p h).2 ?_ h.2.2.1.2 ?_ (rg_CI_t h).2 ?_ ho ?_ (rg_CI_c h).2 ?_ (rg_CI_s h).2 (by rw [esz]; exact v) (fun k hk => rg_VS_z (rg_CI_v h k hk) (fun c hc => f0 c (by omega) (by omega)) (f2 _ (by omega) (by omega))) (fun k hk => rg_VS_z (rg_CI_vo h k hk) (fun c hc => f0 c (by omega) (by omega)) (f2 _ (by omega) (by omega))) ?_ ?_ ?_
  · rw [f0 1 (by omega) (by omega)]; exact (rg_CI_w h).1
  · rw [f0 0 (by omega) (by omega)]; exact (rg_CI_p h).1
  · rw [f0 6 (by omega) (by omega)]; exact (rg_CI_l h).1
  · rw [f0 6 (by omega) (by omega)]; exact (rg_CI_t h).1
  · rw [f0 0 (by omega) (by omega)]; exact (rg_CI_o h).1
  · rw [f0 0 (by omega) (by omega)]; exact (rg_CI_c h).1
  · rw [f0 6 (by omega) (by omega)]; exact (rg_CI_s h).1
  · rw [f0 9 (by omega) (by omega)]; exact rg_CI_m h
  · rw [f0 97 (by omega) (by omega)]; exact rg_CI_mo h
  · rw [f0 10 (by omega) (by omega), f0 11 (by omega) (by omega)]; exact rg_CI_h h
theorem rp_dz {M : rg_Mem} (h : rp_Inv M) {k : Nat} (hk : k < 6) : M.1 418 k = 0 ↔ ¬ k < rg_sz M 90 := by
  rw [rp_d h k hk]
  by_cases c : k < rg_sz M 90
  · rw [if_pos c]
    obtain ⟨a, h1, h2⟩ := rp_VSw h (rg_CI_d (rp_ci h)) k c
    have h2 : M.1 91 k = nI a := h2
    rw [h2, ← nI_succ]
    exact ⟨fun q => absurd q (nI_ne0 (by omega) (by omega)), fun q => absurd c q⟩
  · rw [if_neg c]; exact ⟨fun _ => c, fun _ => rfl⟩
def rp_dn (q : Nat) : Nat := if q % 20 = 0 ∨ 16 < q % 20 then 1 else 2
def rp_dw (q : Nat) : Nat → Int32 := fun k => if k = 0 then nI (q / 20) else nI (q % 20 - 1)
def rp_dr (q : Nat) : Nat → Int32 := fun k => if k = 0 then nI (q / 20 + 1) else if k = 1 ∧ q % 20 < 17 then nI (q % 20) else 0
theorem rp_drw {q k : Nat} (hk : k < 6) : rp_dr q k = if k < rp_dn q then rp_dw q k + 1 else 0 := by
  unfold rp_dr rp_dn rp_dw
  by_cases c0 : k = 0
  · subst c0
    rw [if_pos rfl, if_pos rfl, if_pos (by split <;> omega), nI_succ]
  · rw [if_neg c0, if_neg c0]
    by_cases d : q % 20 = 0 ∨ 16 < q % 20
    · rw [if_pos d, if_neg (by omega : ¬ k < 1)]
      by_cases e : k = 1 ∧ q % 20 < 17
      · rw [if_pos e, show q % 20 = 0 by omega]; rfl
      · rw [if_neg e]
    · rw [if_neg d]
      by_cases e : k = 1
      · subst e
        rw [if_pos (by omega), if_pos (by omega), ← nI_succ, show q % 20 - 1 + 1 = q % 20 by omega]
      · rw [if_neg (by omega), if_neg (by omega)]
def lw_d6 (M : rg_Mem) (r : Nat → Int32) (i : Nat) : rg_Mem := (fun c k => if c = 418 ∧ k < i then r k else M.1 c k, M.2)
theorem lw_d6_0 {M : rg_Mem} {r : Nat → Int32} : M = lw_d6 M r 0 := by
  refine Prod.ext ?_ rfl
  funext c k
  show _ = if _ then _ else _
  rw [if_neg (by omega)]
theorem lw_d6_s {M : rg_Mem} {r : Nat → Int32} {i : Nat} {x : Int32} (h : x = r i) : rg_I (lw_d6 M r i) 418 i x = lw_d6 M r (i + 1) := by
  subst h
  refine Prod.ext ?_ rfl
  funext c k
  show (if c = 418 ∧ k = i then r i else if c = 418 ∧ k < i then r k else M.1 c k) = if c = 418 ∧ k < i + 1 then r k else M.1 c k
  by_cases h1 : c = 418 ∧ k = i
  · rw [if_pos h1, if_pos (by omega), h1.2]
  · rw [if_neg h1]
    by_cases h2 : c = 418 ∧ k < i
    · rw [if_pos h2, if_pos (by omega)]
    · rw [if_neg h2, if_neg (by omega)]
theorem lw_d6_c {M : rg_Mem} {r : Nat → Int32} {i c : Nat} (h : c ≠ 418) : (lw_d6 M r i).1 c = M.1 c := by
  funext k
  show (if _ then _ else _) = _
  rw [if_neg (fun q => h q.1)]
/-- the law's rows while an offer is written down -/
def lw_fo (M : rg_Mem) (no pt i : Nat) : rg_Mem := (fun c k => if c = 419 ∧ 7 * no + 1 ≤ k ∧ k < 7 * no + 1 + i then M.1 418 (k - (7 * no + 1)) else if c = 418 ∧ k < i then 0 else if c = 419 ∧ k = 7 * no then nI pt else M.1 c k, M.2)
theorem lw_fo_at {M : rg_Mem} {no pt i c k : Nat} : (lw_fo M no pt i).1 c k = if c = 419 ∧ 7 * no + 1 ≤ k ∧ k < 7 * no + 1 + i then M.1 418 (k - (7 * no + 1)) else if c = 418 ∧ k < i then 0 else if c = 419 ∧ k = 7 * no then nI pt else M.1 c k := rfl
theorem lw_fo_0 {M : rg_Mem} {no pt : Nat} : rg_I M 419 (7 * no) (nI pt) = lw_fo M no pt 0 := by
  refine Prod.ext ?_ rfl
  funext c k
  have a : ¬ (c = 419 ∧ 7 * no + 1 ≤ k ∧ k < 7 * no + 1 + 0) := by omega
  have b : ¬ (c = 418 ∧ k < 0) := by omega
  rw [lw_fo_at, if_neg a, if_neg b]
  rfl
theorem lw_fo_s {M : rg_Mem} {no pt i : Nat} : rg_I (rg_I (lw_fo M no pt i) 419 (7 * no + 1 + i) (M.1 418 i)) 418 i 0 = lw_fo M no pt (i + 1) := by
  refine Prod.ext ?_ rfl
  funext c k
  show (if c = 418 ∧ k = i then (0 : Int32) else if c = 419 ∧ k = 7 * no + 1 + i then M.1 418 i else (lw_fo M no pt i).1 c k) = (lw_fo M no pt (i + 1)).1 c k
  rw [lw_fo_at, lw_fo_at]
  by_cases h1 : c = 418 ∧ k = i
  · have a : ¬ (c = 419 ∧ 7 * no + 1 ≤ k ∧ k < 7 * no + 1 + (i + 1)) := by omega
    have b : c = 418 ∧ k < i + 1 := by omega
    rw [if_pos h1, if_neg a, if_pos b]
  · rw [if_neg h1]
    by_cases h2 : c = 419 ∧ k = 7 * no + 1 + i
    · have a : c = 419 ∧ 7 * no + 1 ≤ k ∧ k < 7 * no + 1 + (i + 1) := by omega
      rw [if_pos h2, if_pos a, h2.2, show 7 * no + 1 + i - (7 * no + 1) = i by omega]
    · rw [if_neg h2]
      by_cases h3 : c = 419 ∧ 7 * no + 1 ≤ k ∧ k < 7 * no + 1 + i
      · have a : c = 419 ∧ 7 * no + 1 ≤ k ∧ k < 7 * no + 1 + (i + 1) := by omega
        rw [if_pos h3, if_pos a]
      · have a : ¬ (c = 419 ∧ 7 * no + 1 ≤ k ∧ k < 7 * no + 1 + (i + 1)) := by omega
        rw [if_neg h3, if_neg a]
        by_cases h4 : c = 418 ∧ k < i
        · have b : c = 418 ∧ k < i + 1 := by omega
          rw [if_pos h4, if_pos b]
        · have b : ¬ (c = 418 ∧ k < i + 1) := by omega
          rw [if_neg h4, if_neg b]
theorem lw_fo_c {M : rg_Mem} {no pt i c k : Nat} (h : c ≠ 418 ∧ c ≠ 419) : (lw_fo M no pt i).1 c k = M.1 c k := by
  have a : ¬ (c = 419 ∧ 7 * no + 1 ≤ k ∧ k < 7 * no + 1 + i) := by omega
  have b : ¬ (c = 418 ∧ k < i) := by omega
  have d : ¬ (c = 419 ∧ k = 7 * no) := by omega
  rw [lw_fo_at, if_neg a, if_neg b, if_neg d]
theorem lw_fo_d {M : rg_Mem} {no pt i : Nat} : (lw_fo M no pt i).1 418 i = M.1 418 i := by
  have a : ¬ (418 = 419 ∧ 7 * no + 1 ≤ i ∧ i < 7 * no + 1 + i) := by omega
  have b : ¬ (418 = 418 ∧ i < i) := by omega
  have d : ¬ (418 = 419 ∧ i = 7 * no) := by omega
  rw [lw_fo_at, if_neg a, if_neg b, if_neg d]
theorem lw_fo_X {M X : rg_Mem} {no pt : Nat} (eX : rg_I (lw_fo M no pt 6) 417 5 (nI (no + 1)) = X) : (∀ c, c ≠ 417 → c ≠ 418 → c ≠ 419 → X.1 c = M.1 c) ∧ X.2 = M.2 ∧ (∀ k, X.1 417 k = if k = 5 then nI (no + 1) else M.1 417 k) ∧ (∀ k, k < 6 → X.1 418 k = 0) ∧ ∀ k, k < 28 → X.1 419 k = if 7 * no + 1 ≤ k ∧ k < 7 * no + 7 then M.1 418 (k - (7 * no + 1)) else if k = 7 * no then nI pt else M.1 419 k := by
  subst eX
  refine ⟨fun c h1 h2 h3 => by rw [rg_I_cell h1]; exact funext fun k => lw_fo_c ⟨h2, h3⟩, rfl, fun k => by rw [rg_I_at, lw_fo_c (by omega)], fun k hk => ?_, fun k hk => ?_⟩
  · have a : ¬ (418 = 419 ∧ 7 * no + 1 ≤ k ∧ k < 7 * no + 1 + 6) := by omega
    have b : 418 = 418 ∧ k < 6 := ⟨rfl, hk⟩
    rw [rg_I_cell (by omega), lw_fo_at, if_neg a, if_pos b]
  · rw [rg_I_cell (by omega), lw_fo_at]
    have b : ¬ (419 = 418 ∧ k < 6) := by omega
    by_cases h1 : 7 * no + 1 ≤ k ∧ k < 7 * no + 7
    · have a : 419 = 419 ∧ 7 * no + 1 ≤ k ∧ k < 7 * no + 1 + 6 := by omega
      rw [if_pos a, if_pos h1]
    · have a : ¬ (419 = 419 ∧ 7 * no + 1 ≤ k ∧ k < 7 * no + 1 + 6) := by omega
      rw [if_neg a, if_neg b, if_neg h1]
      by_cases h2 : k = 7 * no
      · rw [if_pos ⟨rfl, h2⟩, if_pos h2]
      · rw [if_neg (fun q => h2 q.2), if_neg h2]
/-- what offer makes of the class's state M -/
def rp_OX (Mo M : rg_Mem) (pt : Nat) (r : Int32) (M1 : rg_Mem) : Prop := (∃ k, 1 ≤ k ∧ k ≤ 8 ∧ rg_f8 (rg_cq Mo (Mo.1 91) (rg_sz Mo 90) (rg_nl Mo) (rg_sp Mo) (nI pt)) 8 1 = nI k ∧ r = -nI k ∧ M1 = rg_I M 0 12 (rg_cq Mo (Mo.1 91) (rg_sz Mo 90) (rg_nl Mo) (rg_sp Mo) (nI pt) k)) ∨ (rg_f8 (rg_cq Mo (Mo.1 91) (rg_sz Mo 90) (rg_nl Mo) (rg_sp Mo) (nI pt)) 8 1 = 0 ∧ r = nI (rg_no Mo) ∧ rp_OF M pt M1)
theorem rp_OX_f {Mo M M1 : rg_Mem} {pt t : Nat} {r : Int32} (h : rp_OX Mo M pt r M1) (ht : 1 ≤ t ∧ t ≤ 8) (hf : rg_f8 (rg_cq Mo (Mo.1 91) (rg_sz Mo 90) (rg_nl Mo) (rg_sp Mo) (nI pt)) 8 1 = nI t) : r = -nI t ∧ M1 = rg_I M 0 12 (rg_cq Mo (Mo.1 91) (rg_sz Mo 90) (rg_nl Mo) (rg_sp Mo) (nI pt) t) := by
  rcases h with ⟨k, h1, h2, h3, h4, h5⟩ | ⟨h1, _⟩
  · rw [hf] at h3
    have e : t = k := (nI_eq (by omega) (by omega)).mp h3
    subst e
    exact ⟨h4, h5⟩
  · rw [hf] at h1
    exact absurd h1 (nI_ne0 (by omega) (by omega))
theorem rp_OX_0 {Mo M M1 : rg_Mem} {pt : Nat} {r : Int32} (h : rp_OX Mo M pt r M1) (hf : rg_f8 (rg_cq Mo (Mo.1 91) (rg_sz Mo 90) (rg_nl Mo) (rg_sp Mo) (nI pt)) 8 1 = 0) : r = nI (rg_no Mo) ∧ rp_OF M pt M1 := by
  rcases h with ⟨k, h1, h2, h3, h4, h5⟩ | ⟨_, h2, h3⟩
  · rw [hf] at h3
    exact absurd h3.symm (nI_ne0 (by omega) (by omega))
  · exact ⟨h2, h3⟩
theorem rp_OF_417 {M F : rg_Mem} {pt : Nat} (hno : rg_no M < 100) (h : rp_OF M pt F) : F.1 417 = M.1 417 := by
  obtain ⟨M2, ⟨_, _, v3⟩, rfl⟩ := h
  rw [(rg_emp_c (by omega)).1, rg_I_cell (by omega), rg_I_cell (by omega)]
  exact (v3 417 (by omega) (by omega)).1
theorem a_clear (l : Launch) (E : rg_Env) (B : Nat) (M : rg_Mem) (hC : rg_CI M) (hst : l.stackTraces = false) : Met l yX6_clear (rg_w yX6_clear cX6_clear 2 (some (FieldType.int))) ({ frames := 1, cells := 0, slots := 0, locals := 20 } : Room) (va_Pc [.ref (B + 0)] (rg_Pre E B 422 rg_R0 M)) (rg_Wi E B 422 rg_R0 (fun r M1 => r = nI (rg_sz M 90) ∧ M1 = rg_emp M)) 0 0 (rg_A B) := by
  exact rg_RW (k_X6_clear l E B M) (fun r q => ⟨q.trans (rg_CI_d hC).1, rfl⟩)

theorem a_add (l : Launch) (E : rg_Env) (B : Nat) (M : rg_Mem) (wd : Nat) (hC : rg_CI M) (hw : rg_has M (nI wd)) (hn : rg_sz M 90 < 6) (hst : l.stackTraces = false) : Met l yX6_add (rg_w yX6_add cX6_add 2 (some (FieldType.int))) ({ frames := 7, cells := 2, slots := 12, locals := 111 } : Room) (va_Pc [.ref (B + 0), .int (nI wd)] (rg_Pre E B 422 rg_R0 M)) (rg_Wi E B 422 rg_R0 (fun r M1 => r = nI (rg_sz M 90 + 1) ∧ rg_VS M1 90 (rg_sz M 90 + 1) ∧ M1.1 91 (rg_sz M 90) = nI wd ∧ (∀ k, k < rg_sz M 90 → M1.1 91 k = M.1 91 k) ∧ rg_off M M1 90)) 2 12 (rg_A B) := by
  have h6 : M.1 90 1 < 6 := by
    rw [(rg_CI_d hC).1]
    exact (lw_nlt (b := 6) (by omega) (by omega)).mpr hn
  refine rg_WW (rg_noX (k_X6_add l hst E B M (nI wd) hC) (fun X q => ?_)) (fun r M1 q => q.2)
  rcases q with q | q
  · exact q.1 hw
  · exact q.2.1 h6

theorem a_offer (l : Launch) (E : rg_Env) (B : Nat) (M : rg_Mem) (Mo : rg_Mem) (pt : Nat) (hI : rp_Inv Mo) (hx : ∀ c, c < 412 → M.1 c = Mo.1 c) (hx2 : M.2 = Mo.2) (hpt : pt < 3) (hlt : rg_nl Mo < rg_nt Mo) (hno : rg_no Mo < 4) (hst : l.stackTraces = false) : Met l yX6_offer (rg_w yX6_offer cX6_offer 3 (some (FieldType.int))) ({ frames := 7, cells := 2, slots := 12, locals := 138 } : Room) (va_Pc [.ref (B + 0), .int (nI pt)] (rg_Pre E B 422 rg_R0 M)) (rg_Wi E B 422 rg_R0 (fun r M1 => rp_OX Mo M pt r M1)) 2 12 (rg_A B) := by
  have hC : rg_CI M := rg_CI_c2 (rp_ci hI) (fun c hc => hx c (by omega)) (fun c hc => by rw [hx2])
  have hl2 := rp_nl hI
  have e1 : rg_nl M = rg_nl Mo := by unfold rg_nl; rw [hx 6 (by omega)]
  have e2 : rg_sz M 90 = rg_sz Mo 90 := by unfold rg_sz; rw [hx _ (by omega)]
  have e3 : rg_sp M = rg_sp Mo := by unfold rg_sp; rw [hx 6 (by omega)]
  have e4 : rg_no M = rg_no Mo := by unfold rg_no; rw [hx 0 (by omega)]
  have hp : rg_pt M (nI pt) := ⟨nI_pos (by omega), by rw [hx 0 (by omega), (rp_n hI).1.2]; exact (lw_nlt (by omega) (by omega)).mpr hpt⟩
  have hq : ¬ M.1 6 0 ≤ M.1 6 4 ∧ M.1 0 10 < 4 := by
    rw [hx 6 (by omega), hx 0 (by omega), (rg_CI_l (rp_ci hI)).1, (rg_CI_t (rp_ci hI)).1, (rg_CI_o (rp_ci hI)).1, lw_nle (by omega) (by omega)]
    exact ⟨by omega, (lw_nlt (b := 4) (by omega) (by omega)).mpr hno⟩
  have ecq : rg_co M 90 (rg_sz M 90) (rg_nl M) (rg_sp M) (nI pt) = rg_cq Mo (Mo.1 91) (rg_sz Mo 90) (rg_nl Mo) (rg_sp Mo) (nI pt) := by
    rw [rg_co_cq (rg_CI_d hC), e1, e2, e3]
    exact rg_cq_c (fun c hc => ⟨hx c (by omega), by rw [hx2]⟩) (by omega) (fun k _ => by rw [hx 91 (by omega)])
  refine rg_WW (rg_noX (k_X6_offer l hst E B M (nI pt) hC) (fun X q => ?_)) (fun r M1 q => ?_)
  · rcases q with q | q
    · exact q.1 hp
    · exact q.2.1 hq
  · obtain ⟨_, q⟩ := q
    rw [ecq] at q
    rcases q with q | ⟨q1, q2, q3⟩
    · exact Or.inl q
    · exact Or.inr ⟨q1, by rw [q2, e4], q3⟩
