/-! the same for methods that throw -/
theorem vx_Met_c {l : Launch} {y : MethodName} {ws : List Cond} {rm : Room} {P P' : Array Value → State → Prop} {Q Q' : Array Value → State → Outcome → State → Prop} {X X' : String → State → State → Prop} {mc ms : Nat} {fr fr' : Addr → Prop} (h : vx_Met l y ws rm P Q X mc ms fr) (hp : ∀ a s, P' a s → P a s) (hq : ∀ a s o t, P' a s → s.WarmedH t.vm → Q a s o t → Q' a s o t) (hx : ∀ a s E t, P' a s → s.WarmedH t.vm → X E s t → X' E s t) (hf : ∀ q, fr q → fr' q) : vx_Met l y ws rm P' Q' X' mc ms fr' := by
  intro p e ha hc hk s m args below hf0 happ hP hK
  obtain ⟨n, o, h1, h2, h3, h4⟩ := h p e ha hc hk s m args below hf0 happ (hp _ _ hP) hK
  refine ⟨n, o, h1, h2, h3, ?_⟩
  rcases h4 with ⟨h4, L, h5, h6⟩ | ⟨q, h4, E, ce, L, x1, x2, x3, x4, x5, x6, x7⟩
  · exact Or.inl ⟨hq _ _ _ _ hP h5.2.1 h4, L, h5, fun q hq' => hf _ (h6 q hq')⟩
  · exact Or.inr ⟨q, h4, E, ce, L, hx _ _ _ _ hP x5 x1, x2, x3, x4, x5, x6, fun z hz => hf _ (x7 z hz)⟩
theorem jXN_fst {l : Launch} {D : va_G} {cl : List vw_C} {tys tys' : List (ClassId × FieldType)} {cy : Nat → ClassId} {ad : Nat → Nat} {ft ft' : Nat → List (Nat × Nat)} {ks ks' : List (Nat × Nat)} {Xt Xt' : (Nat → Prop) → State → Prop} {y : MethodName} {ws : List Cond} {rm : Room} {rk mc ms : Nat} {Wp : (Int → MM → Prop) → (String → MM → Prop) → List Value → MM → Prop} (hF : jFst ft ft' ks ks') (hin : jIn ad ks'.length) (hX : ∀ sz U, Xt' (jA ad ks'.length sz) U → Xt (jA ad ks.length sz) U) (hT : ∀ U, va_K D cl tys' U → va_K D cl tys U) (hM : jXN l D cl tys cy ad ft ks Xt y ws rm rk mc ms Wp) : jXN l D cl tys' cy ad ft' ks' Xt' y ws rm rk mc ms (fun Q X av M => Wp (fun r C => Q r (jUp ks.length C M)) (fun E C => X E (jUp ks.length C M)) av (jCut ks.length M)) := by
  intro post xpost av M sz hR hP
  refine vx_Met_c (hM _ _ av (jCut ks.length M) sz (jRg_fst hF hR) hP) (fun a s hp => ?_) (fun a s o t hp hW hq => ?_) (fun a s E t hp hW hx => ?_) (fun q z => jA_w hF.2.2 q z)
  · obtain ⟨h0, h1, h2, h3⟩ := hp
    refine ⟨h0, h1, hX sz s h2, fun c q hq => ?_, hT s h3.2⟩
    have hc := (jcs_q hq).2
    rw [← jcs_fst hF (M := M) c hc (by unfold jCut jUp; rw [if_pos hc])] at hq
    exact h3.1 c q hq
  · obtain ⟨h0, h1, h2, h3⟩ := hp
    rw [← h1] at hq ⊢
    exact jQ_fst hF hin hR h3 hW hq
  · obtain ⟨h0, h1, h2, h3⟩ := hp
    rw [← h1] at hx ⊢
    obtain ⟨u, u1, u2, u3⟩ := hx
    exact ⟨jUp ks.length u M, jRg_up2 hF u1 hR, ⟨u2.1, jWo_fst hF hin h3 u2.2 u3 hW⟩, va_F_w u3 (jA_w hF.2.2)⟩
