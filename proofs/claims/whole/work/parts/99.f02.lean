/-! a contract over the first cells of a world is one over all -/
theorem jcs_q {cy : Nat → ClassId} {ad : Nat → Nat} {ft : Nat → List (Nat × Nat)} {ks : List (Nat × Nat)} {M : MM} {c : Nat} {q : Nat × va_E} (h : (jcs cy ad ft ks M)[c]? = some q) : q.1 = ad c ∧ c < ks.length := by
  unfold jcs at h
  rw [List.getElem?_mapIdx] at h
  cases hk : ks[c]? with
  | none => rw [hk] at h; simp at h
  | some k =>
    rw [hk] at h
    simp only [Option.map_some] at h
    refine ⟨?_, (List.getElem?_eq_some_iff.mp hk).1⟩
    have := Option.some.inj h
    rw [← this]
theorem jWo_fst {D : va_G} {cl : List vw_C} {tys tys' : List (ClassId × FieldType)} {cy : Nat → ClassId} {ad : Nat → Nat} {ft ft' : Nat → List (Nat × Nat)} {ks ks' : List (Nat × Nat)} (hF : jFst ft ft' ks ks') (hin : jIn ad ks'.length) {C M : MM} {st t : State} (w0 : jWo D cl tys' cy ad ft' ks' M st) (w1 : jWo D cl tys cy ad ft ks C t) (hf : va_F (jA ad ks.length st.heap.size) st t) (hW : st.WarmedH t.vm) : jWo D cl tys' cy ad ft' ks' (jUp ks.length C M) t := by
  refine ⟨fun c q hq => ?_, va_K.moved hW.alike w0.2⟩
  by_cases hc : c < ks.length
  · rw [jcs_fst hF c hc (M' := C) (by unfold jUp; rw [if_pos hc])] at hq
    exact w1.1 c q hq
  · have e : (jcs cy ad ft' ks' (jUp ks.length C M))[c]? = (jcs cy ad ft' ks' M)[c]? := by
      unfold jcs
      rw [List.getElem?_mapIdx, List.getElem?_mapIdx]
      unfold jUp
      rw [if_neg hc]
    rw [e] at hq
    have a0 := w0.1 c q hq
    obtain ⟨q1, q2⟩ := jcs_q hq
    refine a0.kept (hf.2 q.1 a0.lt (fun z => ?_))
    rcases z with ⟨k, k1, k2⟩ | z
    · have := hin c k q2 (by have := hF.2.2; omega) (by rw [← q1]; exact k2)
      omega
    · have := a0.lt; omega
theorem va_F_w {A A' : Nat → Prop} {st t : State} (h : va_F A st t) (hA : ∀ q, A q → A' q) : va_F A' st t := ⟨h.1, fun q a b => h.2 q a (fun z => b (hA q z))⟩
theorem jA_w {ad : Nat → Nat} {n n' sz : Nat} (h : n ≤ n') : ∀ q, jA ad n sz q → jA ad n' sz q := fun q z => z.imp (fun ⟨k, a, b⟩ => ⟨k, by omega, b⟩) id
theorem jQ_fst {D : va_G} {cl : List vw_C} {tys tys' : List (ClassId × FieldType)} {cy : Nat → ClassId} {ad : Nat → Nat} {ft ft' : Nat → List (Nat × Nat)} {ks ks' : List (Nat × Nat)} (hF : jFst ft ft' ks ks') (hin : jIn ad ks'.length) {M : MM} (hR : jRg ft' ks' M) {rk : Nat} {post : Int → MM → Prop} {a : Array Value} {st t : State} {o : Outcome} (w0 : jWo D cl tys' cy ad ft' ks' M st) (hW : st.WarmedH t.vm) (h : jQ D cl tys cy ad ft ks rk (fun r C => post r (jUp ks.length C M)) (jA ad ks.length st.heap.size) a st o t) : jQ D cl tys' cy ad ft' ks' rk post (jA ad ks'.length st.heap.size) a st o t := by
  have w := fun (x : va_F (jA ad ks.length st.heap.size) st t) => va_F_w x (jA_w hF.2.2)
  unfold jQ at h ⊢
  split at h
  · obtain ⟨⟨u, h1, h2, h3⟩, h4⟩ := h
    exact ⟨⟨jUp ks.length u M, h1, ⟨jRg_up2 hF h2.1 hR, h2.2⟩, jWo_fst hF hin w0 h3 h4 hW⟩, w h4⟩
  · obtain ⟨⟨r, u, h1, h2, h3⟩, h4⟩ := h
    exact ⟨⟨r, (u.1, jUp ks.length u.2 M), h1, ⟨h2.1, jRg_up2 hF h2.2.1 hR, h2.2.2⟩, jWo_fst hF hin w0 h3 h4 hW⟩, w h4⟩
  · obtain ⟨⟨r, u, h1, h2, h3⟩, h4⟩ := h
    exact ⟨⟨r, (u.1, jUp ks.length u.2 M), h1, ⟨h2.1, jRg_up2 hF h2.2.1 hR, h2.2.2⟩, jWo_fst hF hin w0 h3 h4 hW⟩, w h4⟩
  · obtain ⟨⟨r, u, h1, h2, h3⟩, h4⟩ := h
    exact ⟨⟨r, (u.1, jUp ks.length u.2 M), h1, ⟨h2.1, jRg_up2 hF h2.2.1 hR, h2.2.2⟩, jWo_fst hF hin w0 h3 h4 hW⟩, w h4⟩
  · obtain ⟨⟨r, u, h1, h2, h3⟩, h4⟩ := h
    exact ⟨⟨r, (u.1, jUp ks.length u.2 M), h1, ⟨h2.1, jRg_up2 hF h2.2.1 hR, h2.2.2⟩, jWo_fst hF hin w0 h3 h4 hW⟩, w h4⟩
theorem jCN_fst {l : Launch} {D : va_G} {cl : List vw_C} {tys tys' : List (ClassId × FieldType)} {cy : Nat → ClassId} {ad : Nat → Nat} {ft ft' : Nat → List (Nat × Nat)} {ks ks' : List (Nat × Nat)} {Xt Xt' : (Nat → Prop) → State → Prop} {y : MethodName} {ws : List Cond} {rm : Room} {rk : Nat} {Wp : (Int → MM → Prop) → List Value → MM → Prop} (hF : jFst ft ft' ks ks') (hin : jIn ad ks'.length) (hX : ∀ sz U, Xt' (jA ad ks'.length sz) U → Xt (jA ad ks.length sz) U) (hT : ∀ U, va_K D cl tys' U → va_K D cl tys U) (hM : jCN l D cl tys cy ad ft ks Xt y ws rm rk Wp) : jCN l D cl tys' cy ad ft' ks' Xt' y ws rm rk (fun Q av M => Wp (fun r C => Q r (jUp ks.length C M)) av (jCut ks.length M)) := by
  intro post av M sz hR hP
  refine Met_c (hM _ av (jCut ks.length M) sz (jRg_fst hF hR) hP) (fun a s hp => ?_) (fun a s o t hp hW hq => ?_) (fun q z => jA_w hF.2.2 q z)
  · obtain ⟨h0, h1, h2, h3⟩ := hp
    refine ⟨h0, h1, hX sz s h2, fun c q hq => ?_, hT s h3.2⟩
    have hc := (jcs_q hq).2
    rw [← jcs_fst hF (M := M) c hc (by unfold jCut jUp; rw [if_pos hc])] at hq
    exact h3.1 c q hq
  · obtain ⟨h0, h1, h2, h3⟩ := hp
    rw [← h1] at hq ⊢
    exact jQ_fst hF hin hR h3 hW hq
