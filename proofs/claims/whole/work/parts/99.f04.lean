/-! a world that lies further on in a longer one -/
def jOfs (d : Nat) (ft ft' : Nat → List (Nat × Nat)) (ks ks' : List (Nat × Nat)) : Prop := (∀ (c : Nat) (k : Nat × Nat), ks[c]? = some k → ks'[d + c]? = some k ∧ (6 ≤ k.1 → ft' k.2 = ft k.2) ∧ k.1 ≠ 4 ∧ k.1 ≠ 5 ∧ (6 ≤ k.1 → ∀ f ∈ ft k.2, f.1 ≠ 3 ∧ f.1 < 5)) ∧ d + ks.length ≤ ks'.length
def jUpO (d n : Nat) (C M : MM) : MM := fun c => if d ≤ c ∧ c < d + n then C (c - d) else M c
def jCutO (d n : Nat) (M : MM) : MM := fun c => if c < n then M (d + c) else fun _ => 0
theorem jce_ofs {cy : Nat → ClassId} {ad : Nat → Nat} {ft ft' : Nat → List (Nat × Nat)} {d c : Nat} {k : Nat × Nat} {r : Int → Int} (e : 6 ≤ k.1 → ft' k.2 = ft k.2) (k4 : k.1 ≠ 4) (k5 : k.1 ≠ 5) (hf : 6 ≤ k.1 → ∀ f ∈ ft k.2, f.1 ≠ 3 ∧ f.1 < 5) : jce cy ad ft' k (d + c) r = jce cy (fun c => ad (d + c)) ft k c r := by
  obtain ⟨k1, k2⟩ := k
  match k1, k4, k5, e, hf with
  | 0, _, _, _, _ => rfl
  | 1, _, _, _, _ => rfl
  | 2, _, _, _, _ => rfl
  | 3, _, _, _, _ => rfl
  | n + 6, _, _, e, hf =>
    show Sum.inr (k2, (ft' k2).mapIdx (jfv ad (d + c) r)) = Sum.inr (k2, (ft k2).mapIdx (jfv (fun c => ad (d + c)) c r))
    have e' : ft' k2 = ft k2 := e (by simp)
    rw [e']
    have : (ft k2).mapIdx (jfv ad (d + c) r) = (ft k2).mapIdx (jfv (fun c => ad (d + c)) c r) := by
      apply List.ext_getElem?
      intro j
      rw [List.getElem?_mapIdx, List.getElem?_mapIdx]
      cases hj : (ft k2)[j]? with
      | none => rfl
      | some f =>
        simp only [Option.map_some]
        congr 1
        have := hf (by simp) f (List.mem_of_getElem? hj)
        obtain ⟨f1, f2⟩ := f
        simp only at this
        match f1, this with
        | 0, _ => rfl
        | 1, _ => rfl
        | 2, _ => rfl
        | 4, _ =>
          show Value.ref (ad (d + c + f2)) = Value.ref (ad (d + (c + f2)))
          rw [Nat.add_assoc]
        | 3, h => exact absurd rfl h.1
        | n + 5, h => omega
    rw [this]
theorem jcs_ofs {cy : Nat → ClassId} {ad : Nat → Nat} {ft ft' : Nat → List (Nat × Nat)} {ks ks' : List (Nat × Nat)} {d : Nat} (h : jOfs d ft ft' ks ks') {M M' : MM} (c : Nat) (hc : c < ks.length) (e : M (d + c) = M' c) : (jcs cy ad ft' ks' M)[d + c]? = (jcs cy (fun c => ad (d + c)) ft ks M')[c]? := by
  unfold jcs
  rw [List.getElem?_mapIdx, List.getElem?_mapIdx]
  have hk : ks[c]? = some ks[c] := List.getElem?_eq_getElem hc
  obtain ⟨h1, h2, h3, h4, h5⟩ := h.1 c _ hk
  rw [h1, hk]
  simp only [Option.map_some]
  rw [e, jce_ofs h2 h3 h4 h5]
