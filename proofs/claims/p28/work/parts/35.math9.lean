theorem rg_goodSX {own : String} {idx maxL : Nat} {y : MethodName} {bytes : ByteArray} {ret : Option FieldType} (hm : Cond.methodLink own idx y ∈ rg_T) (hi : Cond.static y ∈ rg_T) (hn : Cond.initialized y.cls ∈ rg_T) (hcode : Cond.code y bytes maxL ret ∈ rg_T) : GoodIn rg_T (va_wsS own idx y (rg_w y bytes maxL ret)) := by
  intro w hw
  have h1 : w ∈ rg_T := by
    simp only [va_wsS, rg_w, List.cons_append, List.nil_append, List.mem_cons] at hw
    rcases hw with rfl | rfl | rfl | rfl | hw
    · exact hm
    · exact hi
    · exact hn
    · exact hcode
    · exact hw
  exact ⟨h1, good_of_word (List.mem_filter.mp h1).2⟩
theorem rg_cwSX {Rm : Room} {s : State} {args : Array Value} {own : String} {idx maxL mc ms : Nat} {y : MethodName} {bytes : ByteArray} {ret : Option FieldType} {rm : Room} {C : String} (na : Nat) (hts : ∀ w ∈ rg_T, w.before args s = true) (hm : Cond.methodLink own idx y ∈ rg_T) (hi : Cond.static y ∈ rg_T) (hn : Cond.initialized y.cls ∈ rg_T) (hcode : Cond.code y bytes maxL ret ∈ rg_T) (hrc : rm.cells = mc) (hrs : rm.slots = ms)
    (hd : y.cls = C ∧ y.cls ≠ "java/lang/invoke/MethodHandle" ∧ y.cls ≠ "java/lang/invoke/VarHandle" ∧ (parseMethodDescriptor y.desc).map (fun d => d.parameters.length) = some na) (hR : rm.frames + 1 ≤ Rm.frames ∧ 8 + (maxL + 11) + rm.locals ≤ Rm.locals) : CallB Rm s args own idx y bytes maxL ret (rg_w y bytes maxL ret) rm mc ms na ∧ (Cond.static y).before args s = true := va_cwS na hts (rg_goodSX hm hi hn hcode) rfl hrc hrs hd.2 hR
theorem rg_fil_lo {M : rg_Mem} {q : Nat} {t : Int32} {i k : Nat} : ∀ c, c < 108 → (rg_fil M q t i k).1 c = M.1 c ∧ (rg_fil M q t i k).2 c = M.2 c := by
  intro c hc
  refine ⟨?_, rfl⟩
  funext z
  show (if _ then _ else _) = _
  rw [if_neg (by omega)]
theorem rg_fil_tw {M : rg_Mem} {q : Nat} {t : Int32} {i k : Nat} {x y : Int32} (hI : rg_CI M) (ht : t = -1 ∨ (rg_cp M t ∧ ¬ t.toNatClampNeg = q)) (hi : i ≤ 36) : rg_tw (rg_fil M q t i k) t x y = rg_tw M t x y := by
  refine rg_tw_cong hI (fun c hc => (rg_fil_lo c hc).1) (fun h1 h2 r hr => ?_)
  funext z
  show (if _ then _ else _) = _
  have h3 := ht.resolve_left h1
  rw [if_neg (by omega)]
theorem rg_ltI {n a : Nat} {m : Int32} (h : nI a < m) (hm : m.toInt = n) (ha : a ≤ 100000) : a < n := by
  rw [rg_lt, nI_toInt (by omega), hm] at h
  omega
theorem rg_cp_ne {M : rg_Mem} {t : Int32} (h : rg_CI M) (hc : rg_cp M t) (e : t.toNatClampNeg = rg_nc M) : False := by
  have h1 := rg_in_lt (rg_lt_in (rg_CI_c h).1 (by have := (rg_CI_c h).2; omega) hc.1 hc.2)
  omega
