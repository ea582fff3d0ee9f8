/-! the world: one memory of ints and longs by cell number, cell c at address B + c -/
abbrev rg_Mem : Type := (Nat → Nat → Int32) × (Nat → Nat → Int64)
abbrev rg_Rfs : Type := Nat → Nat → Option Nat
abbrev rg_Env : Type := va_G × (Nat → ClassId)
def rg_I (M : rg_Mem) (o k : Nat) (v : Int32) : rg_Mem := (fun c j => if c = o ∧ j = k then v else M.1 c j, M.2)
def rg_J (M : rg_Mem) (o k : Nat) (v : Int64) : rg_Mem := (M.1, fun c j => if c = o ∧ j = k then v else M.2 c j)
def rg_R (R : rg_Rfs) (o k : Nat) (v : Option Nat) : rg_Rfs := fun c j => if c = o ∧ j = k then v else R c j
/-- the kind of a cell: 0..7 objects of vwCl, 8 int[], 9 long[], 10 boolean[], 11 Sheet[], 12 Verse[], 13 int[][]; from 412 on the law's rows: w c t l q m d f x y, and one more, int[6] -/
def rg_kd (c : Nat) : Nat :=
  if c < 17 then [6, 4, 8, 8, 8, 9, 1, 8, 12, 8, 10, 10, 13, 8, 8, 8, 8].getD c 99
  else if c < 89 then (if c % 2 = 1 then 5 else 8)
  else if c < 99 then [2, 5, 8, 5, 8, 0, 8, 8, 8, 12].getD (c - 89) 99
  else if c < 107 then (if c % 2 = 1 then 5 else 8)
  else if c = 107 then 11
  else if c < 412 then (if (c - 108) % 38 = 0 then 3 else if (c - 108) % 38 = 1 then 13 else 8)
  else 8
def rg_ln (c : Nat) : Nat :=
  if c < 17 then [0, 0, 40, 40, 40, 40, 0, 36, 36, 36, 36, 36, 4, 36, 36, 36, 36].getD c 0
  else if c < 89 then 6
  else if c < 99 then [0, 0, 6, 0, 6, 0, 6, 6, 4, 4].getD (c - 89) 0
  else if c < 107 then 6
  else if c = 107 then 8
  else if c < 412 then (if (c - 108) % 38 = 1 then 36 else 6)
  else if c < 422 then [16, 16, 64, 44, 40, 9, 6, 28, 60, 60].getD (c - 412) 0
  else 6
def rg_R0 (c k : Nat) : Option Nat :=
  if c = 0 then [some 1, some 6, some 89, some 90, some 98, some 97, some 107, some 92, some 94].getD k none
  else if c = 1 then [some 2, some 3, some 4, some 5].getD k none
  else if c = 6 then [none, none, none, none, none, some 7, some 8, some 9, some 10, some 11, some 12].getD k none
  else if c = 8 then (if k < 36 then some (17 + 2 * k) else none)
  else if c = 12 then (if k < 4 then some (13 + k) else none)
  else if rg_kd c = 5 then (if k = 0 then some (c + 1) else none)
  else if c = 89 then [some 1, some 6].getD k none
  else if c = 94 then [some 95, some 96].getD k none
  else if c = 98 then (if k < 4 then some (99 + 2 * k) else none)
  else if c = 107 then (if k < 8 then some (108 + 38 * k) else none)
  else if rg_kd c = 3 then (if k = 0 then some (c + 1) else none)
  else if rg_kd c = 13 then (if k < 36 then some (c + 1 + k) else none)
  else none
/-- the kinds of the fields: 0 int, 1 long, 2 reference -/
def rg_ft (k : Nat) : List Nat := [[2, 2], [0, 0, 0, 0, 0, 2, 2, 2, 2, 2, 2], [2, 2], [2], [2, 2, 2, 2, 0], [2, 0, 0, 0, 0, 1], [2, 2, 2, 2, 2, 2, 2, 2, 2, 0, 0, 0, 0]].getD k []
def rg_B (B : Nat) (o : Option Nat) : Value := va_rf (o.map (fun x => B + x))
def rg_fv (B : Nat) (R : rg_Rfs) (M : rg_Mem) (c k t : Nat) : Value := if t = 0 then .int (M.1 c k) else if t = 1 then .long (M.2 c k) else rg_B B (R c k)
def rg_fs (B : Nat) (R : rg_Rfs) (M : rg_Mem) (c : Nat) : List Value := (rg_ft (rg_kd c)).zipIdx.map (fun q => rg_fv B R M c q.2 q.1)
theorem rg_fs_get {B : Nat} {R : rg_Rfs} {M : rg_Mem} {c k t : Nat} (h : (rg_ft (rg_kd c))[k]? = some t) : (rg_fs B R M c)[k]? = some (rg_fv B R M c k t) := by
  unfold rg_fs
  rw [List.getElem?_map, List.getElem?_zipIdx, h]
  simp
theorem rg_fs_len {B : Nat} {R : rg_Rfs} {M : rg_Mem} {c : Nat} : (rg_fs B R M c).length = (rg_ft (rg_kd c)).length := by
  unfold rg_fs
  simp
theorem rg_fs_set {B : Nat} {R R' : rg_Rfs} {M M' : rg_Mem} {c k t : Nat} (h : (rg_ft (rg_kd c))[k]? = some t) (ho : ∀ j, j ≠ k → M'.1 c j = M.1 c j ∧ M'.2 c j = M.2 c j ∧ R' c j = R c j) : (rg_fs B R M c).set k (rg_fv B R' M' c k t) = rg_fs B R' M' c := by
  apply List.ext_getElem?
  intro i
  have hl := (List.getElem?_eq_some_iff.mp h).1
  rw [List.getElem?_set]
  by_cases hi : k = i
  · subst hi
    rw [if_pos rfl, if_pos (by rw [rg_fs_len]; exact hl), rg_fs_get h]
  · rw [if_neg hi]
    cases hq : (rg_ft (rg_kd c))[i]? with
    | none =>
      have h1 : (rg_ft (rg_kd c)).length ≤ i := List.getElem?_eq_none_iff.mp hq
      rw [List.getElem?_eq_none (by rw [rg_fs_len]; exact h1), List.getElem?_eq_none (by rw [rg_fs_len]; exact h1)]
    | some t2 =>
      rw [rg_fs_get hq, rg_fs_get hq]
      obtain ⟨h1, h2, h3⟩ := ho i (fun e => hi e.symm)
      unfold rg_fv
      rw [h1, h2, h3]
def rg_ent (cy : Nat → ClassId) (B : Nat) (R : rg_Rfs) (M : rg_Mem) (c : Nat) : va_E :=
  if rg_kd c < 8 then .inr (rg_kd c, rg_fs B R M c)
  else if rg_kd c = 9 then .inl (cy 9, rg_ln c, .inr (.inl (M.2 c)))
  else if rg_kd c ≤ 10 then .inl (cy (rg_kd c), rg_ln c, .inl (M.1 c))
  else .inl (cy (rg_kd c), rg_ln c, .inr (.inr (.inr (.inr (fun j => (R c j).map (fun x => B + x))))))
theorem rg_ent_o {cy : Nat → ClassId} {B : Nat} {R : rg_Rfs} {M : rg_Mem} {c ci : Nat} (h : rg_kd c = ci) (h8 : ci < 8) : rg_ent cy B R M c = .inr (ci, rg_fs B R M c) := by
  unfold rg_ent
  rw [h, if_pos h8]
theorem rg_ent_i {cy : Nat → ClassId} {B : Nat} {R : rg_Rfs} {M : rg_Mem} {c : Nat} (h : rg_kd c = 8) : rg_ent cy B R M c = .inl (cy 8, rg_ln c, .inl (M.1 c)) := by simp [rg_ent, h]
theorem rg_ent_j {cy : Nat → ClassId} {B : Nat} {R : rg_Rfs} {M : rg_Mem} {c : Nat} (h : rg_kd c = 9) : rg_ent cy B R M c = .inl (cy 9, rg_ln c, .inr (.inl (M.2 c))) := by simp [rg_ent, h]
theorem rg_ent_z {cy : Nat → ClassId} {B : Nat} {R : rg_Rfs} {M : rg_Mem} {c : Nat} (h : rg_kd c = 10) : rg_ent cy B R M c = .inl (cy 10, rg_ln c, .inl (M.1 c)) := by simp [rg_ent, h]
theorem rg_ent_q {cy : Nat → ClassId} {B : Nat} {R : rg_Rfs} {M : rg_Mem} {c k : Nat} (h : rg_kd c = k) (hk : 10 < k) : rg_ent cy B R M c = .inl (cy k, rg_ln c, .inr (.inr (.inr (.inr (fun j => (R c j).map (fun x => B + x)))))) := by
  unfold rg_ent
  rw [h, if_neg (by omega), if_neg (by omega), if_neg (by omega)]
theorem rg_ent_c {cy : Nat → ClassId} {B : Nat} {R R' : rg_Rfs} {M M' : rg_Mem} {c : Nat} (h1 : M'.1 c = M.1 c) (h2 : M'.2 c = M.2 c) (h3 : R' c = R c) : rg_ent cy B R' M' c = rg_ent cy B R M c := by
  unfold rg_ent rg_fs rg_fv
  rw [h1, h2, h3]
/-- the cells that are held: the first n; or the first 422 and the cell n - 1 -/
def rg_cl (n : Nat) : List Nat := if n ≤ 422 then List.range n else List.range 422 ++ [n - 1]
abbrev rg_hv (n c : Nat) : Prop := c < n ∧ (c < 422 ∨ c + 1 = n)
def rg_ps (c : Nat) : Nat := if c < 422 then c else 422
theorem rg_cl_at {n c : Nat} (h : rg_hv n c) : (rg_cl n)[rg_ps c]? = some c := by
  unfold rg_cl rg_ps
  by_cases hn : n ≤ 422
  · rw [if_pos hn, if_pos (by omega), List.getElem?_range h.1]
  · rw [if_neg hn]
    by_cases hc : c < 422
    · rw [if_pos hc, List.getElem?_append_left (by simp; exact hc), List.getElem?_range hc]
    · rw [if_neg hc, List.getElem?_append_right (by simp)]
      simp
      omega
theorem rg_cl_of {n i c : Nat} (h : (rg_cl n)[i]? = some c) : rg_hv n c ∧ i = rg_ps c := by
  unfold rg_cl at h
  unfold rg_ps
  by_cases hn : n ≤ 422
  · rw [if_pos hn] at h
    obtain ⟨h1, h2⟩ := List.getElem?_eq_some_iff.mp h
    simp at h1 h2
    subst h2
    exact ⟨⟨h1, by omega⟩, by rw [if_pos (by omega)]⟩
  · rw [if_neg hn] at h
    by_cases hi : i < 422
    · rw [List.getElem?_append_left (by simp; exact hi), List.getElem?_range hi] at h
      cases h
      exact ⟨⟨by omega, Or.inl hi⟩, by rw [if_pos hi]⟩
    · rw [List.getElem?_append_right (by simp; omega)] at h
      simp at h
      obtain ⟨h1, h2⟩ := List.getElem?_eq_some_iff.mp h
      simp at h1 h2
      exact ⟨by omega, by rw [if_neg (by omega)]; omega⟩
def rg_WS (cy : Nat → ClassId) (B n : Nat) (R : rg_Rfs) (M : rg_Mem) : va_W := (rg_cl n).map (fun c => (B + c, rg_ent cy B R M c))
theorem rg_WS_get {cy : Nat → ClassId} {B n : Nat} {R : rg_Rfs} {M : rg_Mem} {c : Nat} (h : rg_hv n c) : (rg_WS cy B n R M)[rg_ps c]? = some (B + c, rg_ent cy B R M c) := by
  unfold rg_WS
  rw [List.getElem?_map, rg_cl_at h]
  rfl
theorem rg_WS_of {cy : Nat → ClassId} {B n : Nat} {R : rg_Rfs} {M : rg_Mem} {i : Nat} {p : Nat × va_E} (h : (rg_WS cy B n R M)[i]? = some p) : ∃ c, rg_hv n c ∧ i = rg_ps c ∧ p = (B + c, rg_ent cy B R M c) := by
  unfold rg_WS at h
  rw [List.getElem?_map] at h
  cases hc : (rg_cl n)[i]? with
  | none => rw [hc] at h; cases h
  | some c =>
    rw [hc] at h
    cases h
    exact ⟨c, (rg_cl_of hc).1, (rg_cl_of hc).2, rfl⟩
theorem rg_WS_set {cy : Nat → ClassId} {B n : Nat} {R R' : rg_Rfs} {M M' : rg_Mem} {c : Nat} {e : va_E} (hn : rg_hv n c) (he : e = rg_ent cy B R' M' c) (ho : ∀ d, d ≠ c → rg_ent cy B R' M' d = rg_ent cy B R M d) : (rg_WS cy B n R M).set (rg_ps c) (B + c, e) = rg_WS cy B n R' M' := by
  unfold rg_WS
  apply List.ext_getElem?
  intro i
  rw [List.getElem?_set, List.getElem?_map, List.getElem?_map]
  have hc := rg_cl_at hn
  by_cases hi : rg_ps c = i
  · subst hi
    have hl := (List.getElem?_eq_some_iff.mp hc).1
    rw [if_pos rfl, if_pos (by rw [List.length_map]; exact hl), hc, he]
    rfl
  · rw [if_neg hi]
    cases hd : (rg_cl n)[i]? with
    | none => rfl
    | some d =>
      have h2 := (rg_cl_of hd).2
      show some (B + d, _) = some (B + d, _)
      rw [ho d (fun q => hi (by rw [h2, q]))]
def rg_A (B : Nat) : Nat → Prop := fun q => B ≤ q
theorem rg_D {cy : Nat → ClassId} {B n : Nat} {R : rg_Rfs} {M : rg_Mem} : va_D (rg_A B) (rg_WS cy B n R M) := by
  refine ⟨fun i j p q hi hj e => ?_, fun k q h => ?_⟩
  · obtain ⟨c, _, h1, rfl⟩ := rg_WS_of hi
    obtain ⟨d, _, h2, rfl⟩ := rg_WS_of hj
    have e : B + c = B + d := e
    have e2 : c = d := by omega
    rw [h1, h2, e2]
  · obtain ⟨c, _, _, rfl⟩ := rg_WS_of h
    exact Nat.le_add_right _ _
def rg_ty (cy : Nat → ClassId) : List (ClassId × FieldType) := [(cy 8, .int), (cy 9, .long), (cy 10, .boolean), (cy 11, .object "RengaHall$Sheet"), (cy 12, .object "RengaHall$Verse"), (cy 13, .array .int)]
/-- the texts of the throws -/
def rg_strs : List (Nat × String) := [(78, "there are 40 words already"), (93, "a word does not call itself to mind"), (103, "there are 6 poets already"), (111, "the poem is not finished"), (128, "there is no such link to come"), (145, "the draft has 6 words already"), (157, "there is no poem with a link to come"), (159, "4 offers are kept already"), (173, "there is no such offer"), (195, "there is no such judge"), (207, "there are 8 copies already"), (219, "the copy has no such link or place"), (271, "an argument is out of its range"), (277, "there is no such word"), (279, "there is no such poet"), (282, "there is no such link"), (284, "the link has no such place"), (286, "there is no such copy"), (291, "there is no poem"), (293, "offers are kept")]
/-- nest mates' fields and constructors, by their places in the class files -/
def rg_nf : List (String × Nat × String × String × String) := [("RengaHall", 246, "RengaHall$Stock", "count", "I"), ("RengaHall$Scribe", 72, "RengaHall$Verse", "size", "I"), ("RengaHall", 142, "RengaHall$Verse", "size", "I"), ("RengaHall$Scribe", 23, "RengaHall$Verse", "sounds", "I"), ("RengaHall$Scribe", 59, "RengaHall$Verse", "season", "I"), ("RengaHall$Poem", 61, "RengaHall$Verse", "season", "I"), ("RengaHall$Scribe", 50, "RengaHall$Verse", "signs", "I"), ("RengaHall$Poem", 64, "RengaHall$Verse", "signs", "I"), ("RengaHall$Poem", 67, "RengaHall$Verse", "wordSet", "J"), ("RengaHall", 123, "RengaHall$Poem", "length", "I"), ("RengaHall$Scribe", 83, "RengaHall$Poem", "span", "I"), ("RengaHall", 108, "RengaHall$Poem", "made", "I"), ("RengaHall", 185, "RengaHall$Poem", "verses", "[LRengaHall$Verse;"), ("RengaHall", 223, "RengaHall$Poem", "hidden", "[Z"), ("RengaHall", 239, "RengaHall$Poem", "mended", "[Z"), ("RengaHall", 197, "RengaHall$Poem", "points", "[[I")]
def rg_nm : List (String × Nat × MethodName) := [("RengaHall", 9, yX4_init), ("RengaHall$Poem", 36, yX5_init), ("RengaHall", 34, yX5_init), ("RengaHall", 44, yX0_init), ("RengaHall", 63, yX3_init)]
def rg_xs : List String := ["java/lang/IllegalArgumentException", "java/lang/IllegalStateException", "java/lang/IndexOutOfBoundsException"]
def rg_ds : List MethodName := [⟨"java/lang/RuntimeException", "<init>", "(Ljava/lang/String;)V"⟩, ⟨"java/lang/Exception", "<init>", "(Ljava/lang/String;)V"⟩, ⟨"java/lang/Throwable", "<init>", "(Ljava/lang/String;)V"⟩]
def rg_Sw (U : State) : Prop := (∀ q ∈ rg_strs, ∃ a, vk_R "RengaHall" q.1 q.2 a U) ∧ (∀ q ∈ rg_nf, va_Nw (.fieldLinkNest q.1 q.2.1 q.2.2.1 q.2.2.2.1 q.2.2.2.2 "RengaHall") U) ∧ (∀ q ∈ rg_nm, va_Nw (.methodLinkNest q.1 q.2.1 q.2.2 "RengaHall") U) ∧ (∀ X ∈ rg_xs, va_Nw (.castable X X) U) ∧ (∀ y ∈ rg_ds, va_Nw (.declares y) U) ∧ ∀ X ∈ rg_xs, ∀ Y ∈ rg_xs, X ≠ Y → va_Nc X Y U
theorem rg_Sw_warm {s U : State} (hW : s.WarmedH U.vm) (h : rg_Sw s) : rg_Sw U := by
  obtain ⟨h1, h2, h3, h4, h6, h5⟩ := h
  exact ⟨fun q hq => by
    obtain ⟨a, ha⟩ := h1 q hq
    exact ⟨a, vk_R.warm hW ha⟩, fun q hq => va_Nw.warmF hW (h2 q hq), fun q hq => va_Nw.warmM hW (h3 q hq), fun q hq => va_Nw.warmC hW (h4 q hq), fun q hq => va_Nw.warmD hW (h6 q hq), fun X hX Y hY hn => va_Nc.moved hW.alike (h5 X hX Y hY hn)⟩
theorem rg_Sw_same {u U : State} (hv : U.vm = u.vm) (h : rg_Sw u) : rg_Sw U := by
  obtain ⟨h1, h2, h3, h4, h6, h5⟩ := h
  exact ⟨fun q hq => by
    obtain ⟨a, ha⟩ := h1 q hq
    exact ⟨a, vk_R.same hv ha⟩, fun q hq => va_Nw.same rfl hv.symm (h2 q hq), fun q hq => va_Nw.same rfl hv.symm (h3 q hq), fun q hq => va_Nw.same rfl hv.symm (h4 q hq), fun q hq => va_Nw.same rfl hv.symm (h6 q hq), fun X hX Y hY hn => va_Nc.moved (by rw [hv]; exact Vm.Alike.refl _) (h5 X hX Y hY hn)⟩
def rg_St (B : Nat) (U : State) (H : Heap) : Prop := vx_Zq Bundle.tN "UNASSIGNED_STACK" Bundle.steD (rg_A B) U H ∧ vx_Zq Bundle.tN "SUPPRESSED_SENTINEL" Bundle.listD (rg_A B) U H ∧ rg_Sw U
def rg_Pre (E : rg_Env) (B n : Nat) (R : rg_Rfs) (M : rg_Mem) (U : State) : Prop := va_P E.1 vwCl (rg_WS E.2 B n R M) U.heap ∧ va_K E.1 vwCl (rg_ty E.2) U ∧ rg_St B U U.heap
def rg_Po (E : rg_Env) (B n : Nat) (R : rg_Rfs) (M : rg_Mem) (t : State) : Prop := va_P E.1 vwCl (rg_WS E.2 B n R M) t.heap
def rg_Cx (p : Program) (m : MethodId) (c : Code) (cc : ByteArray) (nL : Nat) (s : State) (args : Array Value) (own : String) (E : rg_Env) (B : Nat) : Prop := CallFix p m c cc nL s args rg_T own ∧ va_K E.1 vwCl (rg_ty E.2) s ∧ rg_St B s s.heap
def rg_H (E : rg_Env) (B n : Nat) (R : rg_Rfs) (M : rg_Mem) (s : State) (H : Heap) (locs : List Loc) : Prop := va_P E.1 vwCl (rg_WS E.2 B n R M) H ∧ va_S (rg_A B) s.heap H locs
theorem rg_St_kept {B : Nat} {s U : State} {H : Heap} {locs : List Loc} (h : rg_St B s s.heap) (hS : va_S (rg_A B) s.heap H locs) (hU : U.heap = H) (hW : s.WarmedH U.vm) : rg_St B U U.heap := by
  obtain ⟨h1, h2, h3⟩ := h
  rw [hU]
  exact ⟨(h1.kept hS.2.1).moved hW.alike, (h2.kept hS.2.1).moved hW.alike, rg_Sw_warm hW h3⟩
theorem rg_blind {av : List Value} {E : rg_Env} {B n : Nat} {R : rg_Rfs} {M : rg_Mem} : FrameBlind (va_Pc av (rg_Pre E B n R M)) := by
  intro a U g mk q
  obtain ⟨q1, q2, q3, q4, q5, q6⟩ := q
  exact ⟨q1, q2, va_K.moved (u := U) (U := U.calling g mk a) (Vm.Alike.refl U.vm) q3, vx_Zq.moved (u := U) (U := U.calling g mk a) (Vm.Alike.refl U.vm) q4, vx_Zq.moved (u := U) (U := U.calling g mk a) (Vm.Alike.refl U.vm) q5, rg_Sw_same (u := U) (U := U.calling g mk a) rfl q6⟩
theorem rg_pre {E : rg_Env} {B n : Nat} {R : rg_Rfs} {M : rg_Mem} {s : State} {H : Heap} {locs : List Loc} {av : List Value} (hK : va_K E.1 vwCl (rg_ty E.2) s) (hSt : rg_St B s s.heap) (hH : rg_H E B n R M s H locs) : ∀ U : State, U.heap = H → s.WarmedH U.vm → va_Pc av (rg_Pre E B n R M) av.toArray U := fun U hU hW => ⟨rfl, by rw [hU]; exact hH.1, va_K.moved hW.alike hK, rg_St_kept hSt hH.2 hU hW⟩
