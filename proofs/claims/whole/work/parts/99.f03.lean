/-! the same for methods that throw -/
theorem vx_Met_c {l : Launch} {y : MethodName} {ws : List Cond} {rm : Room} {P P' : Array Value → State → Prop} {Q Q' : Array Value → State → Outcome → State → Prop} {X X' : String → State → State → Prop} {mc ms : Nat} {fr fr' : Addr → Prop} (h : vx_Met l y ws rm P Q X mc ms fr) (hp : ∀ a s, P' a s → P a s) (hq : ∀ a s o t, P' a s → s.WarmedH t.vm → Q a s o t → Q' a s o t) (hx : ∀ a s E t, P' a s → s.WarmedH t.vm → X E s t → X' E s t) (hf : ∀ q, fr q → fr' q) : vx_Met l y ws rm P' Q' X' mc ms fr' := by
  intro p e ha hc hk s m args below hf0 happ hP hK
  obtain ⟨n, o, h1, h2, h3, h4⟩ := h p e ha hc hk s m args below hf0 happ (hp _ _ hP) hK
  refine ⟨n, o, h1, h2, h3, ?_⟩
  rcases h4 with ⟨h4, L, h5, h6⟩ | ⟨q, h4, E, ce, L, x1, x2, x3, x4, x5, x6, x7⟩
  · exact Or.inl ⟨hq _ _ _ _ hP h5.2.1 h4, L, h5, fun q hq' => hf _ (h6 q hq')⟩
  · exact Or.inr ⟨q, h4, E, ce, L, hx _ _ _ _ hP x5 x1, x2, x3, x4, x5, x6, fun z hz => hf _ (x7 z hz)⟩
