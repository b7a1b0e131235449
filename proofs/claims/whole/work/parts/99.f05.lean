/-! a contract over a world that lies further on -/
theorem jRg_ofs {ft ft' : Nat → List (Nat × Nat)} {ks ks' : List (Nat × Nat)} {d : Nat} (h : jOfs d ft ft' ks ks') {M : MM} (hR : jRg ft' ks' M) : jRg ft ks (jCutO d ks.length M) := by
  intro c i
  unfold jCutO
  by_cases hc : c < ks.length
  · rw [if_pos hc]
    have := hR (d + c) i
    have hk : ks[c]? = some ks[c] := List.getElem?_eq_getElem hc
    obtain ⟨h1, h2, -⟩ := h.1 c _ hk
    rw [jso_ft i hk h1 h2] at this
    exact this
  · rw [if_neg hc]
    have hk : ks[c]? = none := List.getElem?_eq_none_iff.mpr (by omega)
    unfold jso
    rw [hk]
    show ri_ 0
    unfold ri_; omega
theorem jRg_upO {ft ft' : Nat → List (Nat × Nat)} {ks ks' : List (Nat × Nat)} {d : Nat} (h : jOfs d ft ft' ks ks') {C M : MM} (hC : jRg ft ks C) (hR : jRg ft' ks' M) : jRg ft' ks' (jUpO d ks.length C M) := by
  intro c i
  unfold jUpO
  by_cases hc : d ≤ c ∧ c < d + ks.length
  · rw [if_pos hc]
    obtain ⟨b, rfl⟩ : ∃ b, c = d + b := ⟨c - d, by omega⟩
    rw [show d + b - d = b from by omega]
    have := hC b i
    have hk : ks[b]? = some ks[b] := List.getElem?_eq_getElem (by omega)
    obtain ⟨h1, h2, -⟩ := h.1 b _ hk
    rw [jso_ft i hk h1 h2]
    exact this
  · rw [if_neg hc]; exact hR c i
theorem jWo_ofs {D : va_G} {cl : List vw_C} {tys tys' : List (ClassId × FieldType)} {cy : Nat → ClassId} {ad : Nat → Nat} {ft ft' : Nat → List (Nat × Nat)} {ks ks' : List (Nat × Nat)} {d : Nat} (hF : jOfs d ft ft' ks ks') (hin : jIn ad ks'.length) {C M : MM} {st t : State} (w0 : jWo D cl tys' cy ad ft' ks' M st) (w1 : jWo D cl tys cy (fun c => ad (d + c)) ft ks C t) (hf : va_F (jA (fun c => ad (d + c)) ks.length st.heap.size) st t) (hW : st.WarmedH t.vm) : jWo D cl tys' cy ad ft' ks' (jUpO d ks.length C M) t := by
  refine ⟨fun c q hq => ?_, va_K.moved hW.alike w0.2⟩
  by_cases hc : d ≤ c ∧ c < d + ks.length
  · obtain ⟨b, rfl⟩ : ∃ b, c = d + b := ⟨c - d, by omega⟩
    rw [jcs_ofs hF b (by omega) (M' := C) (by unfold jUpO; rw [if_pos hc, show d + b - d = b from by omega])] at hq
    exact w1.1 b q hq
  · have e : (jcs cy ad ft' ks' (jUpO d ks.length C M))[c]? = (jcs cy ad ft' ks' M)[c]? := by
      unfold jcs
      rw [List.getElem?_mapIdx, List.getElem?_mapIdx]
      unfold jUpO
      rw [if_neg hc]
    rw [e] at hq
    have a0 := w0.1 c q hq
    obtain ⟨q1, q2⟩ := jcs_q hq
    refine a0.kept (hf.2 q.1 a0.lt (fun z => ?_))
    rcases z with ⟨k, k1, k2⟩ | z
    · have := hin c (d + k) q2 (by have := hF.2; omega) (by rw [← q1]; exact k2)
      omega
    · have := a0.lt; omega
theorem jA_ofs {ad : Nat → Nat} {d n n' sz : Nat} (h : d + n ≤ n') : ∀ q, jA (fun c => ad (d + c)) n sz q → jA ad n' sz q := fun q z => z.imp (fun ⟨k, a, b⟩ => ⟨d + k, by omega, b⟩) id
theorem jQ_ofs {D : va_G} {cl : List vw_C} {tys tys' : List (ClassId × FieldType)} {cy : Nat → ClassId} {ad : Nat → Nat} {ft ft' : Nat → List (Nat × Nat)} {ks ks' : List (Nat × Nat)} {d : Nat} (hF : jOfs d ft ft' ks ks') (hin : jIn ad ks'.length) {M : MM} (hR : jRg ft' ks' M) {rk : Nat} {post : Int → MM → Prop} {a : Array Value} {st t : State} {o : Outcome} (w0 : jWo D cl tys' cy ad ft' ks' M st) (hW : st.WarmedH t.vm) (h : jQ D cl tys cy (fun c => ad (d + c)) ft ks rk (fun r C => post r (jUpO d ks.length C M)) (jA (fun c => ad (d + c)) ks.length st.heap.size) a st o t) : jQ D cl tys' cy ad ft' ks' rk post (jA ad ks'.length st.heap.size) a st o t := by
  have w := fun (x : va_F (jA (fun c => ad (d + c)) ks.length st.heap.size) st t) => va_F_w x (jA_ofs hF.2)
  unfold jQ at h ⊢
  split at h
  · obtain ⟨⟨u, h1, h2, h3⟩, h4⟩ := h
    exact ⟨⟨jUpO d ks.length u M, h1, ⟨jRg_upO hF h2.1 hR, h2.2⟩, jWo_ofs hF hin w0 h3 h4 hW⟩, w h4⟩
  · obtain ⟨⟨r, u, h1, h2, h3⟩, h4⟩ := h
    exact ⟨⟨r, (u.1, jUpO d ks.length u.2 M), h1, ⟨h2.1, jRg_upO hF h2.2.1 hR, h2.2.2⟩, jWo_ofs hF hin w0 h3 h4 hW⟩, w h4⟩
  · obtain ⟨⟨r, u, h1, h2, h3⟩, h4⟩ := h
    exact ⟨⟨r, (u.1, jUpO d ks.length u.2 M), h1, ⟨h2.1, jRg_upO hF h2.2.1 hR, h2.2.2⟩, jWo_ofs hF hin w0 h3 h4 hW⟩, w h4⟩
  · obtain ⟨⟨r, u, h1, h2, h3⟩, h4⟩ := h
    exact ⟨⟨r, (u.1, jUpO d ks.length u.2 M), h1, ⟨h2.1, jRg_upO hF h2.2.1 hR, h2.2.2⟩, jWo_ofs hF hin w0 h3 h4 hW⟩, w h4⟩
  · obtain ⟨⟨r, u, h1, h2, h3⟩, h4⟩ := h
    exact ⟨⟨r, (u.1, jUpO d ks.length u.2 M), h1, ⟨h2.1, jRg_upO hF h2.2.1 hR, h2.2.2⟩, jWo_ofs hF hin w0 h3 h4 hW⟩, w h4⟩
theorem jCN_ofs {l : Launch} {D : va_G} {cl : List vw_C} {tys tys' : List (ClassId × FieldType)} {cy : Nat → ClassId} {ad : Nat → Nat} {ft ft' : Nat → List (Nat × Nat)} {ks ks' : List (Nat × Nat)} {d : Nat} {Xt Xt' : (Nat → Prop) → State → Prop} {y : MethodName} {ws : List Cond} {rm : Room} {rk : Nat} {Wp : (Int → MM → Prop) → List Value → MM → Prop} (hF : jOfs d ft ft' ks ks') (hin : jIn ad ks'.length) (hX : ∀ sz U, Xt' (jA ad ks'.length sz) U → Xt (jA (fun c => ad (d + c)) ks.length sz) U) (hT : ∀ U, va_K D cl tys' U → va_K D cl tys U) (hM : jCN l D cl tys cy (fun c => ad (d + c)) ft ks Xt y ws rm rk Wp) : jCN l D cl tys' cy ad ft' ks' Xt' y ws rm rk (fun Q av M => Wp (fun r C => Q r (jUpO d ks.length C M)) av (jCutO d ks.length M)) := by
  intro post av M sz hR hP
  refine Met_c (hM _ av (jCutO d ks.length M) sz (jRg_ofs hF hR) hP) (fun a s hp => ?_) (fun a s o t hp hW hq => ?_) (fun q z => jA_ofs hF.2 q z)
  · obtain ⟨h0, h1, h2, h3⟩ := hp
    refine ⟨h0, h1, hX sz s h2, fun c q hq => ?_, hT s h3.2⟩
    have hc := (jcs_q hq).2
    rw [← jcs_ofs hF (M := M) c hc (by unfold jCutO; rw [if_pos hc])] at hq
    exact h3.1 (d + c) q hq
  · obtain ⟨h0, h1, h2, h3⟩ := hp
    rw [← h1] at hq ⊢
    exact jQ_ofs hF hin hR h3 hW hq
