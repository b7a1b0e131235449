/-! contracts lifted, with any memory that agrees, and weaker ends -/
theorem jQ_mono {D : va_G} {cl : List vw_C} {tys : List (ClassId × FieldType)} {cy : Nat → ClassId} {ad : Nat → Nat} {ft : Nat → List (Nat × Nat)} {ks : List (Nat × Nat)} {rk : Nat} {P P' : Int → MM → Prop} {A : Nat → Prop} {a : Array Value} {st t : State} {o : Outcome} (h : jQ D cl tys cy ad ft ks rk P A a st o t) (hP : ∀ r u, jRg ft ks u → P r u → P' r u) : jQ D cl tys cy ad ft ks rk P' A a st o t := by
  unfold jQ at h ⊢
  split at h
  · obtain ⟨⟨u, h1, h2, h3⟩, h4⟩ := h
    exact ⟨⟨u, h1, ⟨h2.1, hP _ _ h2.1 h2.2⟩, h3⟩, h4⟩
  · obtain ⟨⟨r, u, h1, h2, h3⟩, h4⟩ := h
    exact ⟨⟨r, u, h1, ⟨h2.1, h2.2.1, hP _ _ h2.2.1 h2.2.2⟩, h3⟩, h4⟩
  · obtain ⟨⟨r, u, h1, h2, h3⟩, h4⟩ := h
    exact ⟨⟨r, u, h1, ⟨h2.1, h2.2.1, hP _ _ h2.2.1 h2.2.2⟩, h3⟩, h4⟩
  · obtain ⟨⟨r, u, h1, h2, h3⟩, h4⟩ := h
    exact ⟨⟨r, u, h1, ⟨h2.1, h2.2.1, hP _ _ h2.2.1 h2.2.2⟩, h3⟩, h4⟩
  · obtain ⟨⟨r, u, h1, h2, h3⟩, h4⟩ := h
    exact ⟨⟨r, u, h1, ⟨h2.1, h2.2.1, hP _ _ h2.2.1 h2.2.2⟩, h3⟩, h4⟩
theorem jCN_C {l : Launch} {D : va_G} {cl : List vw_C} {tys tys' : List (ClassId × FieldType)} {cy : Nat → ClassId} {ad : Nat → Nat} {ft ft' : Nat → List (Nat × Nat)} {ks ks' : List (Nat × Nat)} {Xt Xt' : (Nat → Prop) → State → Prop} {y : MethodName} {ws : List Cond} {rm : Room} {rk : Nat} {Wp : (Int → MM → Prop) → List Value → MM → Prop} (hF : jFst ft ft' ks ks') (hin : jIn ad ks'.length) (hX : ∀ sz U, Xt' (jA ad ks'.length sz) U → Xt (jA ad ks.length sz) U) (hT : ∀ U, va_K D cl tys' U → va_K D cl tys U) (hM : jCN l D cl tys cy ad ft ks Xt y ws rm rk Wp) : jCN l D cl tys' cy ad ft' ks' Xt' y ws rm rk (fun Q av M => ∃ (C : MM) (Q0 : Int → MM → Prop), (∀ c, c < ks.length → C c = M c) ∧ jRg ft ks C ∧ Wp Q0 av C ∧ ∀ r C', jRg ft ks C' → Q0 r C' → Q r (jUp ks.length C' M)) := by
  intro post av M sz hR hP
  obtain ⟨C, Q0, hC, hRC, hP, hQ⟩ := hP
  refine Met_c (hM _ av C sz hRC hP) (fun a s hp => ?_) (fun a s o t hp hW hq => ?_) (fun q z => jA_w hF.2.2 q z)
  · obtain ⟨h0, h1, h2, h3⟩ := hp
    refine ⟨h0, h1, hX sz s h2, fun c q hq => ?_, hT s h3.2⟩
    have hc := (jcs_q hq).2
    rw [← jcs_fst hF (M := M) c hc (hC c hc).symm] at hq
    exact h3.1 c q hq
  · obtain ⟨h0, h1, h2, h3⟩ := hp
    rw [← h1] at hq ⊢
    exact jQ_fst hF hin hR h3 hW (jQ_mono hq hQ)
theorem jXN_C {l : Launch} {D : va_G} {cl : List vw_C} {tys tys' : List (ClassId × FieldType)} {cy : Nat → ClassId} {ad : Nat → Nat} {ft ft' : Nat → List (Nat × Nat)} {ks ks' : List (Nat × Nat)} {Xt Xt' : (Nat → Prop) → State → Prop} {y : MethodName} {ws : List Cond} {rm : Room} {rk mc ms : Nat} {ns : List String} {Wp : (Int → MM → Prop) → (String → MM → Prop) → List Value → MM → Prop} (hF : jFst ft ft' ks ks') (hin : jIn ad ks'.length) (hX : ∀ sz U, Xt' (jA ad ks'.length sz) U → Xt (jA ad ks.length sz) U) (hT : ∀ U, va_K D cl tys' U → va_K D cl tys U) (hM : jXN l D cl tys cy ad ft ks Xt y ws rm rk mc ms ns Wp) : jXN l D cl tys' cy ad ft' ks' Xt' y ws rm rk mc ms ns (fun Q X av M => ∃ (C : MM) (Q0 : Int → MM → Prop) (X0 : String → MM → Prop), (∀ c, c < ks.length → C c = M c) ∧ jRg ft ks C ∧ Wp Q0 X0 av C ∧ (∀ r C', jRg ft ks C' → Q0 r C' → Q r (jUp ks.length C' M)) ∧ ∀ E C', jRg ft ks C' → E ∈ ns → X0 E C' → X E (jUp ks.length C' M)) := by
  intro post xpost av M sz hR hP
  obtain ⟨C, Q0, X0, hC, hRC, hP, hQ, hX0⟩ := hP
  refine vx_Met_c (hM _ _ av C sz hRC hP) (fun a s hp => ?_) (fun a s o t hp hW hq => ?_) (fun a s E t hp hW hx => ?_) (fun q z => jA_w hF.2.2 q z)
  · obtain ⟨h0, h1, h2, h3⟩ := hp
    refine ⟨h0, h1, hX sz s h2, fun c q hq => ?_, hT s h3.2⟩
    have hc := (jcs_q hq).2
    rw [← jcs_fst hF (M := M) c hc (hC c hc).symm] at hq
    exact h3.1 c q hq
  · obtain ⟨h0, h1, h2, h3⟩ := hp
    rw [← h1] at hq ⊢
    exact jQ_fst hF hin hR h3 hW (jQ_mono hq hQ)
  · obtain ⟨h0, h1, h2, h3⟩ := hp
    rw [← h1] at hx ⊢
    obtain ⟨u, u1, u2, u3⟩ := hx
    exact ⟨jUp ks.length u M, jRg_up2 hF u1 hR, ⟨⟨u2.1.1, hX0 _ _ u1 u2.1.1 u2.1.2⟩, jWo_fst hF hin h3 u2.2 u3 hW⟩, va_F_w u3 (jA_w hF.2.2)⟩
theorem jCN_R {l : Launch} {D : va_G} {cl : List vw_C} {tys tys' : List (ClassId × FieldType)} {cy : Nat → ClassId} {ad : Nat → Nat} {ft ft' : Nat → List (Nat × Nat)} {ks ks' : List (Nat × Nat)} {Xt Xt' : (Nat → Prop) → State → Prop} {y : MethodName} {ws : List Cond} {rm : Room} {rk d : Nat} {Wp : (Int → MM → Prop) → List Value → MM → Prop} (hF : jOfs d ft ft' ks ks') (hin : jIn ad ks'.length) (hX : ∀ sz U, Xt' (jA ad ks'.length sz) U → Xt (jA (fun c => ad (d + c)) ks.length sz) U) (hT : ∀ U, va_K D cl tys' U → va_K D cl tys U) (hM : jCN l D cl tys cy (fun c => ad (d + c)) ft ks Xt y ws rm rk Wp) : jCN l D cl tys' cy ad ft' ks' Xt' y ws rm rk (fun Q av M => ∃ (C : MM) (Q0 : Int → MM → Prop), (∀ c, c < ks.length → C c = M (d + c)) ∧ jRg ft ks C ∧ Wp Q0 av C ∧ ∀ r C', jRg ft ks C' → Q0 r C' → Q r (jUpO d ks.length C' M)) := by
  intro post av M sz hR hP
  obtain ⟨C, Q0, hC, hRC, hP, hQ⟩ := hP
  refine Met_c (hM _ av C sz hRC hP) (fun a s hp => ?_) (fun a s o t hp hW hq => ?_) (fun q z => jA_ofs hF.2 q z)
  · obtain ⟨h0, h1, h2, h3⟩ := hp
    refine ⟨h0, h1, hX sz s h2, fun c q hq => ?_, hT s h3.2⟩
    have hc := (jcs_q hq).2
    rw [← jcs_ofs hF (M := M) c hc (hC c hc).symm] at hq
    exact h3.1 (d + c) q hq
  · obtain ⟨h0, h1, h2, h3⟩ := hp
    rw [← h1] at hq ⊢
    exact jQ_ofs hF hin hR h3 hW (jQ_mono hq hQ)
