/-! a contract over the first cells of a world -/
theorem Met_c {l : Launch} {y : MethodName} {ws : List Cond} {rm : Room} {P P' : Array Value → State → Prop} {Q Q' : Array Value → State → Outcome → State → Prop} {mc ms : Nat} {fr fr' : Addr → Prop} (h : Met l y ws rm P Q mc ms fr) (hp : ∀ a s, P' a s → P a s) (hq : ∀ a s o t, P' a s → s.WarmedH t.vm → Q a s o t → Q' a s o t) (hf : ∀ q, fr q → fr' q) : Met l y ws rm P' Q' mc ms fr' := by
  intro p e ha hc hk s m args below hf0 happ hP hK
  obtain ⟨n, o, h1, h2, h3, h4, L, h5, h6⟩ := h p e ha hc hk s m args below hf0 happ (hp _ _ hP) hK
  exact ⟨n, o, h1, h2, h3, hq _ _ _ _ hP h5.2.1 h4, L, h5, fun q hq' => hf _ (h6 q hq')⟩
/-- the first cells of a world -/
def jFst (ft ft' : Nat → List (Nat × Nat)) (ks ks' : List (Nat × Nat)) : Prop := (∀ (c : Nat) (k : Nat × Nat), ks[c]? = some k → ks'[c]? = some k) ∧ (∀ (c : Nat) (k : Nat × Nat), ks[c]? = some k → 6 ≤ k.1 → ft' k.2 = ft k.2) ∧ ks.length ≤ ks'.length
def jUp (n : Nat) (C M : MM) : MM := fun c => if c < n then C c else M c
def jCut (n : Nat) (M : MM) : MM := jUp n M (fun _ _ => 0)
theorem jce_ft {cy : Nat → ClassId} {ad : Nat → Nat} {ft ft' : Nat → List (Nat × Nat)} {c : Nat} {k : Nat × Nat} {r : Int → Int} (e : 6 ≤ k.1 → ft' k.2 = ft k.2) : jce cy ad ft' k c r = jce cy ad ft k c r := by
  obtain ⟨k1, k2⟩ := k
  match k1, e with
  | 0, _ => rfl
  | 1, _ => rfl
  | 2, _ => rfl
  | 3, _ => rfl
  | 4, _ => rfl
  | 5, _ => rfl
  | n + 6, e =>
    have e' : ft' k2 = ft k2 := e (by simp)
    show Sum.inr (k2, (ft' k2).mapIdx (jfv ad c r)) = Sum.inr (k2, (ft k2).mapIdx (jfv ad c r))
    rw [e']
theorem jso_ft {ft ft' : Nat → List (Nat × Nat)} {ks ks' : List (Nat × Nat)} {c c' : Nat} {k : Nat × Nat} (i : Int) (h : ks[c]? = some k) (h' : ks'[c']? = some k) (e : 6 ≤ k.1 → ft' k.2 = ft k.2) : jso ft' ks' c' i = jso ft ks c i := by
  unfold jso
  rw [h, h']
  obtain ⟨k1, k2⟩ := k
  match k1, e with
  | 0, _ => rfl
  | 1, _ => rfl
  | 2, _ => rfl
  | 3, _ => rfl
  | 4, _ => rfl
  | 5, _ => rfl
  | n + 6, e =>
    have e' : ft' k2 = ft k2 := e (by simp)
    simp only [e']
theorem jcs_fst {cy : Nat → ClassId} {ad : Nat → Nat} {ft ft' : Nat → List (Nat × Nat)} {ks ks' : List (Nat × Nat)} (h : jFst ft ft' ks ks') {M M' : MM} (c : Nat) (hc : c < ks.length) (e : M c = M' c) : (jcs cy ad ft' ks' M)[c]? = (jcs cy ad ft ks M')[c]? := by
  unfold jcs
  rw [List.getElem?_mapIdx, List.getElem?_mapIdx]
  cases hk : ks[c]? with
  | none => rw [List.getElem?_eq_none_iff] at hk; omega
  | some k =>
    rw [h.1 c k hk]
    simp only [Option.map_some]
    rw [e, jce_ft (h.2.1 c k hk)]
theorem jRg_fst {ft ft' : Nat → List (Nat × Nat)} {ks ks' : List (Nat × Nat)} (h : jFst ft ft' ks ks') {M : MM} (hR : jRg ft' ks' M) : jRg ft ks (jCut ks.length M) := by
  intro c i
  unfold jCut jUp
  by_cases hc : c < ks.length
  · rw [if_pos hc]
    have := hR c i
    have hk : ks[c]? = some ks[c] := List.getElem?_eq_getElem hc
    rw [jso_ft i hk (h.1 c _ hk) (h.2.1 c _ hk)] at this
    exact this
  · rw [if_neg hc]
    have hk : ks[c]? = none := List.getElem?_eq_none_iff.mpr (by omega)
    unfold jso
    rw [hk]
    show ri_ 0
    unfold ri_; omega
theorem jRg_up2 {ft ft' : Nat → List (Nat × Nat)} {ks ks' : List (Nat × Nat)} (h : jFst ft ft' ks ks') {C M : MM} (hC : jRg ft ks C) (hR : jRg ft' ks' M) : jRg ft' ks' (jUp ks.length C M) := by
  intro c i
  unfold jUp
  by_cases hc : c < ks.length
  · rw [if_pos hc]
    have := hC c i
    have hk : ks[c]? = some ks[c] := List.getElem?_eq_getElem hc
    rw [jso_ft i hk (h.1 c _ hk) (h.2.1 c _ hk)]
    exact this
  · rw [if_neg hc]; exact hR c i
