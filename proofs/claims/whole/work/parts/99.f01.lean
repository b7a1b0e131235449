/-! a contract over the first cells of a world -/
theorem Met_c {l : Launch} {y : MethodName} {ws : List Cond} {rm : Room} {P P' : Array Value → State → Prop} {Q Q' : Array Value → State → Outcome → State → Prop} {mc ms : Nat} {fr fr' : Addr → Prop} (h : Met l y ws rm P Q mc ms fr) (hp : ∀ a s, P' a s → P a s) (hq : ∀ a s o t, P' a s → s.WarmedH t.vm → Q a s o t → Q' a s o t) (hf : ∀ q, fr q → fr' q) : Met l y ws rm P' Q' mc ms fr' := by
  intro p e ha hc hk s m args below hf0 happ hP hK
  obtain ⟨n, o, h1, h2, h3, h4, L, h5, h6⟩ := h p e ha hc hk s m args below hf0 happ (hp _ _ hP) hK
  exact ⟨n, o, h1, h2, h3, hq _ _ _ _ hP h5.2.1 h4, L, h5, fun q hq' => hf _ (h6 q hq')⟩
/-- the first cells of a world -/
def jFst (ft ft' : Nat → List (Nat × Nat)) (ks ks' : List (Nat × Nat)) : Prop := (∀ (c : Nat) (k : Nat × Nat), ks[c]? = some k → ks'[c]? = some k) ∧ (∀ (c : Nat) (k : Nat × Nat), ks[c]? = some k → ft' k.2 = ft k.2) ∧ ks.length ≤ ks'.length
def jUp (n : Nat) (C M : MM) : MM := fun c => if c < n then C c else M c
def jCut (n : Nat) (M : MM) : MM := jUp n M (fun _ _ => 0)
theorem jcs_fst {cy : Nat → ClassId} {ad : Nat → Nat} {ft ft' : Nat → List (Nat × Nat)} {ks ks' : List (Nat × Nat)} (h : jFst ft ft' ks ks') {M M' : MM} (c : Nat) (hc : c < ks.length) (e : M c = M' c) : (jcs cy ad ft' ks' M)[c]? = (jcs cy ad ft ks M')[c]? := by
  unfold jcs
  rw [List.getElem?_mapIdx, List.getElem?_mapIdx]
  cases hk : ks[c]? with
  | none => rw [List.getElem?_eq_none_iff] at hk; omega
  | some k =>
    rw [h.1 c k hk]
    simp only [Option.map_some]
    have e' := h.2.1 c k hk
    unfold jce
    rw [e', e]
theorem jRg_fst {ft ft' : Nat → List (Nat × Nat)} {ks ks' : List (Nat × Nat)} (h : jFst ft ft' ks ks') {M : MM} (hR : jRg ft' ks' M) : jRg ft ks (jCut ks.length M) := by
  intro c i
  unfold jCut jUp
  by_cases hc : c < ks.length
  · rw [if_pos hc]
    have := hR c i
    have hk : ks[c]? = some ks[c] := List.getElem?_eq_getElem hc
    unfold jso at this ⊢
    rw [h.1 c _ hk] at this
    rw [hk]
    simp only [h.2.1 c _ hk] at this
    exact this
  · rw [if_neg hc]
    have hk : ks[c]? = none := List.getElem?_eq_none_iff.mpr (by omega)
    unfold jso
    rw [hk]
    show ri_ 0
    unfold ri_; omega
theorem jRg_up2 {ft ft' : Nat → List (Nat × Nat)} {ks ks' : List (Nat × Nat)} (h : jFst ft ft' ks ks') {C M : MM} (hC : jRg ft ks C) (hR : jRg ft' ks' M) : jRg ft' ks' (jUp ks.length C M) := by
  intro c i
  unfold jUp
  by_cases hc : c < ks.length
  · rw [if_pos hc]
    have := hC c i
    have hk : ks[c]? = some ks[c] := List.getElem?_eq_getElem hc
    unfold jso at this ⊢
    rw [h.1 c _ hk]
    rw [hk] at this
    simp only [h.2.1 c _ hk]
    exact this
  · rw [if_neg hc]; exact hR c i
