theorem rm_bit {x : Int32} : ∀ {k : Nat}, k < 32 → ((x >>> (nI k &&& 31)) &&& 1 = 0 ↔ x.toBitVec.getLsbD k = false) := by
  intro k hk
  have h1 : (nI k &&& 31).toBitVec.smod 32#32 = BitVec.ofNat 32 k := by
    have : ∀ k, k < 32 → (nI k &&& 31).toBitVec.smod 32#32 = BitVec.ofNat 32 k := by decide +kernel
    exact this k hk
  rw [← Int32.toBitVec_inj, Int32.toBitVec_and, Int32.toBitVec_shiftRight]
  show BitVec.sshiftRight' x.toBitVec ((nI k &&& 31).toBitVec.smod 32#32) &&& 1#32 = 0#32 ↔ _
  unfold BitVec.sshiftRight'
  rw [h1, BitVec.and_one_eq_setWidth_ofBool_getLsbD, BitVec.getLsbD_sshiftRight, BitVec.toNat_ofNat, Nat.mod_eq_of_lt (by omega)]
  simp only [Nat.add_zero, show k < 32 from hk, if_true]
  cases x.toBitVec.getLsbD k <;> decide
theorem rg_ff_none {p : Nat → Bool} : ∀ n k, k + n < 1000 → rg_ff p n k = -1 → ∀ i, k ≤ i → i < k + n → p i = false
  | 0, k, _, _, i, h1, h2 => absurd h2 (by omega)
  | n + 1, k, hk, h, i, h1, h2 => by
    rw [rg_ff] at h
    by_cases q : p k = true
    · rw [if_pos q] at h
      exact absurd h (rg_nIm (by omega))
    · rw [if_neg q] at h
      rcases Nat.eq_or_lt_of_le h1 with e | e
      · subst e; exact Bool.eq_false_iff.mpr q
      · exact rg_ff_none n (k + 1) (by omega) h i e (by omega)
theorem rm_bits {x : Int32} (h : rg_ff (rg_lw x) 8 0 = -1) : x &&& 255 = 0 := by
  have hb : ∀ k, k < 8 → x.toBitVec.getLsbD k = false := fun k hk => (rm_bit (by omega)).mp (Decidable.not_not.mp (of_decide_eq_false (rg_ff_none 8 0 (by omega) h k (by omega) (by omega))))
  rw [← Int32.toBitVec_inj, Int32.toBitVec_and]
  show x.toBitVec &&& 255#32 = 0#32
  apply BitVec.eq_of_getLsbD_eq
  intro i hi
  rw [BitVec.getLsbD_and, BitVec.getLsbD_zero]
  rcases Nat.lt_or_ge i 8 with q | q
  · rw [hb i q, Bool.false_and]
  · have : ∀ i, i < 32 → 8 ≤ i → (255#32).getLsbD i = false := by decide +kernel
    rw [this i hi q, Bool.and_false]
theorem rm_low {y : Int32} (h : ¬ y &&& 255 = 0) : ¬ rg_ff (rg_lw (y &&& 255)) 8 0 = -1 := fun q => h (by
  have := rm_bits q
  rwa [Int32.and_assoc, show (255 &&& 255 : Int32) = 255 from rfl] at this)
theorem rm_mod : ∀ v, v ≤ 36 → nI v - nI v / 2 * 2 = nI v &&& 1 := by decide +kernel
def rm_mu (M : rg_Mem) (v : Nat) : Int32 := if nI v &&& 1 = 0 then M.1 412 9 else M.1 412 10
def rm_cm (M : rg_Mem) (w : Nat → Int32) (n v : Nat) : Int32 := if 2 ≤ v then (rg_og (M.1 415) w n &&& rm_sgn M (v - 2)) &&& 255 else 0
/-- the fault and its cause -/
def rm_fo (M : rg_Mem) (w : Nat → Int32) (n v : Nat) (po : Int32) : Int32 × Int32 :=
  if ¬ rg_sm (M.1 413) w n = rm_mu M v then (1, rg_sm (M.1 413) w n) else
  if ¬ rg_ff (rm_dm M w n) n 0 = -1 then (2, rg_ff (rm_dm M w n) n 0) else
  if ¬ rg_ff (rm_dp M w v) n 0 = -1 then (3, rg_ff (rm_dp M w v) n 0) else
  if 0 < v ∧ ¬ po = -1 ∧ M.1 419 (v - 1) = po then (4, po) else
  if 0 < v ∧ ¬ rm_jo M w n v = true then (5, nI v - 1) else
  if ¬ rm_cm M w n v = 0 then (6, rg_ff (rg_lw (rm_cm M w n v)) 8 0) else
  if ¬ rm_lf M w n v = -1 then (7, rm_lf M w n v) else
  if ¬ rg_wst (rg_og (M.1 415) w n) (M.1 420 v) = -1 then (8, rg_wst (rg_og (M.1 415) w n) (M.1 420 v)) else (0, rg_wst (rg_og (M.1 415) w n) (M.1 420 v))
theorem rm_pos0 {v : Nat} (h : v ≤ 1000) : nI v ≤ 0 ↔ v = 0 := (nI_leI (b := 0) (by omega) (by omega)).trans (by omega)
theorem rm_pos1 {v : Nat} (h : v ≤ 1000) : nI v ≤ 1 ↔ v ≤ 1 := nI_leI (b := 1) (by omega) (by omega)
theorem rm_ea {M M' : rg_Mem} (g : rm_eq M M') {c : Nat} (h1 : 412 < c) (h2 : c ≠ 431) : M'.1 c = M.1 c := (g.1 c h1 h2).1
theorem rm_eb {M M' : rg_Mem} (g : rm_eq M M') {c : Nat} (h1 : 412 < c) (h2 : c ≠ 431) : M'.2 c = M.2 c := (g.1 c h1 h2).2
theorem rm_z_e {M M' : rg_Mem} (g : rm_eq M M') : rm_z M' = rm_z M := by funext k; unfold rm_z; rw [rm_ea g (by omega) (by omega)]
theorem rm_w_e {M M' : rg_Mem} (g : rm_eq M M') : rm_w M' = rm_w M := by funext v k; unfold rm_w; rw [rm_ea g (by omega) (by omega)]
theorem rm_son_e {M M' : rg_Mem} (g : rm_eq M M') : rm_son M' = rm_son M := by funext v; unfold rm_son; rw [rm_z_e g, rm_w_e g, rm_ea g (by omega) (by omega)]
theorem rm_sgn_e {M M' : rg_Mem} (g : rm_eq M M') : rm_sgn M' = rm_sgn M := by funext v; unfold rm_sgn; rw [rm_z_e g, rm_w_e g, rm_ea g (by omega) (by omega)]
theorem rm_rn_e {M M' : rg_Mem} (g : rm_eq M M') : rm_rn M' = rm_rn M := by funext v; unfold rm_rn; rw [rm_son_e g]
theorem rm_sp_e {M M' : rg_Mem} (g : rm_eq M M') : rm_sp M' = rm_sp M := by unfold rm_sp; rw [g.2 8 (by omega)]
theorem rm_dm_e {M M' : rg_Mem} (g : rm_eq M M') : rm_dm M' = rm_dm M := by funext w n k; unfold rm_dm; rw [rm_ea g (by omega) (by omega)]
theorem rm_dC_e {M M' : rg_Mem} (g : rm_eq M M') : rm_dC M' = rm_dC M := by funext w k v i; unfold rm_dC; rw [rm_ea g (by omega) (by omega)]
theorem rm_dB_e {M M' : rg_Mem} (g : rm_eq M M') : rm_dB M' = rm_dB M := by funext w v k d; unfold rm_dB; rw [rm_dC_e g, rm_z_e g]
theorem rm_dp_e {M M' : rg_Mem} (g : rm_eq M M') : rm_dp M' = rm_dp M := by funext w v k; unfold rm_dp; rw [rm_dB_e g, rm_sp_e g]
theorem rm_jQ_e {M M' : rg_Mem} (g : rm_eq M M') : rm_jQ M' = rm_jQ M := by funext w v k i; unfold rm_jQ; rw [rm_ea g (by omega) (by omega), rm_eb g (by omega) (by omega)]
theorem rm_jP_e {M M' : rg_Mem} (g : rm_eq M M') : rm_jP M' = rm_jP M := by funext w v k; unfold rm_jP; rw [rm_jQ_e g, rm_z_e g]
theorem rm_jo_e {M M' : rg_Mem} (g : rm_eq M M') : rm_jo M' = rm_jo M := by funext w n v; unfold rm_jo rm_jG; rw [rm_jP_e g, rm_sgn_e g, rm_ea g (by omega) (by omega)]
theorem rm_dL_e {M M' : rg_Mem} (g : rm_eq M M') : rm_dL M' = rm_dL M := by funext v x d; unfold rm_dL; rw [rm_son_e g]
theorem rm_lf_e {M M' : rg_Mem} (g : rm_eq M M') : rm_lf M' = rm_lf M := by funext w n v; unfold rm_lf; rw [rm_son_e g, rm_rn_e g, rm_dL_e g, rm_ea g (by omega) (by omega)]
theorem rm_mu_e {M M' : rg_Mem} (g : rm_eq M M') : rm_mu M' = rm_mu M := by funext v; unfold rm_mu; rw [g.2 9 (by omega), g.2 10 (by omega)]
theorem rm_cm_e {M M' : rg_Mem} (g : rm_eq M M') : rm_cm M' = rm_cm M := by funext w n v; unfold rm_cm; rw [rm_sgn_e g, rm_ea g (by omega) (by omega)]
theorem rm_fo_e {M M' : rg_Mem} (g : rm_eq M M') : rm_fo M' = rm_fo M := by funext w n v po; unfold rm_fo; rw [rm_mu_e g, rm_dm_e g, rm_dp_e g, rm_jo_e g, rm_cm_e g, rm_lf_e g, rm_ea g (c := 413) (by omega) (by omega), rm_ea g (c := 415) (by omega) (by omega), rm_ea g (c := 419) (by omega) (by omega), rm_ea g (c := 420) (by omega) (by omega)]
theorem rm_row {M : rg_Mem} {k : Nat} {x : Int32} : (rg_I M 412 k x).1 431 = M.1 431 := by funext j; simp [rg_I]
theorem rm_sl {M : rg_Mem} {k j : Nat} {x : Int32} (h : j ≠ k) : (rg_I M 412 k x).1 412 j = M.1 412 j := by simp [rg_I, h]
theorem rm_iw_e {M M' : rg_Mem} (g : rm_eq M M') : rm_iw M' = rm_iw M := by funext x; unfold rm_iw; rw [g.2 4 (by omega)]
theorem rm_get {M : rg_Mem} {o k : Nat} {x : Int32} : (rg_I M o k x).1 o k = x := by simp [rg_I]
theorem rm_cml {M : rg_Mem} {w : Nat → Int32} {n v : Nat} (h : ¬ rm_cm M w n v = 0) : ¬ rg_ff (rg_lw (rm_cm M w n v)) 8 0 = -1 := by
  unfold rm_cm at h ⊢
  by_cases q : 2 ≤ v
  · rw [if_pos q] at h ⊢
    exact rm_low h
  · rw [if_neg q] at h
    exact absurd rfl h
theorem rm_nl_e {M M' : rg_Mem} (g : rm_eq M M') : rm_nl M' = rm_nl M := by unfold rm_nl; rw [g.2 11 (by omega)]
