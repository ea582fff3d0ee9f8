/-! calls that don't throw, out of contracts that tell when they do -/
theorem rg_noX {l : Launch} {y : MethodName} {ws : List Cond} {rm : Room} {Pc : Array Value → State → Prop} {Qc : Array Value → State → Outcome → State → Prop} {E : rg_Env} {B n mc ms : Nat} {R : rg_Rfs} {M : rg_Mem} {xp : String → Prop} {free : Addr → Prop} (h : vx_Met l y ws rm Pc Qc (rg_X E B n R M xp) mc ms free) (hx : ∀ X, ¬ xp X) : Met l y ws rm Pc Qc mc ms free :=
  MetFree.mono h (fun _ _ q => q) (fun _ _ _ _ _ k => k) (fun a st o t _ q => by
    rcases q with q | ⟨q, _, E9, ce, L, ⟨u, _, hb, _⟩, _⟩
    · exact q
    · exact absurd hb.1 (hx _))
theorem rg_RG {l : Launch} {y : MethodName} {ws : List Cond} {rm : Room} {Pc : Array Value → State → Prop} {E : rg_Env} {B n mc ms : Nat} {R : rg_Rfs} {g : rg_Mem} {post : Int32 → Prop} {f : Int32} {free : Addr → Prop} (h : Met l y ws rm Pc (rg_Ri E B n R g post) mc ms free) (hx : ∀ r, post r → r = f) : Met l y ws rm Pc (rg_Ri E B n R g (fun r => r = f)) mc ms free :=
  MetFree.mono h (fun _ _ q => q) (fun _ _ _ _ _ k => k) (fun a st o t _ q => ⟨by
    obtain ⟨⟨r, u, h1, h2, h3⟩, h4⟩ := q.1
    exact ⟨⟨r, u, h1, hx r h2, h3⟩, h4⟩, q.2⟩)
theorem rg_WW {l : Launch} {y : MethodName} {ws : List Cond} {rm : Room} {Pc : Array Value → State → Prop} {E : rg_Env} {B n mc ms : Nat} {R : rg_Rfs} {post post2 : Int32 → rg_Mem → Prop} {free : Addr → Prop} (h : Met l y ws rm Pc (rg_Wi E B n R post) mc ms free) (hx : ∀ r M, post r M → post2 r M) : Met l y ws rm Pc (rg_Wi E B n R post2) mc ms free :=
  MetFree.mono h (fun _ _ q => q) (fun _ _ _ _ _ k => k) (fun a st o t _ q => ⟨by
    obtain ⟨⟨r, u, h1, h2, h3⟩, h4⟩ := q.1
    exact ⟨⟨r, u, h1, hx r u h2, h3⟩, h4⟩, q.2⟩)
theorem rg_RW {l : Launch} {y : MethodName} {ws : List Cond} {rm : Room} {Pc : Array Value → State → Prop} {E : rg_Env} {B n mc ms : Nat} {R : rg_Rfs} {g : rg_Mem} {post : Int32 → Prop} {post2 : Int32 → rg_Mem → Prop} {free : Addr → Prop} (h : Met l y ws rm Pc (rg_Ri E B n R g post) mc ms free) (hx : ∀ r, post r → post2 r g) : Met l y ws rm Pc (rg_Wi E B n R post2) mc ms free :=
  MetFree.mono h (fun _ _ q => q) (fun _ _ _ _ _ k => k) (fun a st o t _ q => ⟨by
    obtain ⟨⟨r, u, h1, h2, h3⟩, h4⟩ := q.1
    exact ⟨⟨r, g, h1, hx r h2, h3⟩, h4⟩, q.2⟩)
theorem rg_RWv {l : Launch} {y : MethodName} {ws : List Cond} {rm : Room} {Pc : Array Value → State → Prop} {E : rg_Env} {B n mc ms : Nat} {R : rg_Rfs} {g : rg_Mem} {post : Prop} {post2 : rg_Mem → Prop} {free : Addr → Prop} (h : Met l y ws rm Pc (rg_Rv E B n R g post) mc ms free) (hx : post → post2 g) : Met l y ws rm Pc (rg_Wv E B n R post2) mc ms free :=
  MetFree.mono h (fun _ _ q => q) (fun _ _ _ _ _ k => k) (fun a st o t _ q => ⟨by
    obtain ⟨⟨u, h1, h2, h3⟩, h4⟩ := q.1
    exact ⟨⟨g, h1, hx h2, h3⟩, h4⟩, q.2⟩)
