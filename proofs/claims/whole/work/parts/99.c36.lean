/-! a text begins: the class -/
def Fstq (c : Nat) (M C0 : MM) : Prop := (∀ k, k ≠ 1 → k ≠ 4 → k ≠ 5 → k ≠ 6 → k ≠ c → C0 k = M k) ∧ (∀ i, i ∉ ([4, 8, 9, 10, 11] : List Int) → C0 1 i = M 1 i) ∧ ∀ i, i ∉ ([5, 6, 7, 8, 9, 10, 11, 12, 13, 16, 18] : List Int) → C0 c i = M c i
theorem c_start {c : Nat} {M : MM} {Q : Int → MM → Prop} (hc : 211 ≤ c) (hT : okT M) (hq : ∀ C0 E L, Fstq c M C0 → TKS C0 E L → C0 c 6 = 0 → C0 c 7 = -1 → (∀ nm sf wq, SC c C0 0 0 0 0 0 0 0 0 nm sf wq C0) → Q 0 C0) : w_X6_start c Q M := by
  unfold w_X6_start
  intro M1 e1 M2 e2 M3 e3 M4 e4 M5 e5 M6 e6 M7 e7 M8 e8 M9 e9 M10 e10 M11 e11
  have o : ∀ k, k ≠ c → M11 k = M k := fun k hk => by rw [e11, ux_g _ _ _ hk, e10, ux_g _ _ _ hk, e9, ux_g _ _ _ hk, e8, ux_g _ _ _ hk, e7, ux_g _ _ _ hk, e6, ux_g _ _ _ hk, e5, ux_g _ _ _ hk, e4, ux_g _ _ _ hk, e3, ux_g _ _ _ hk, e2, ux_g _ _ _ hk, e1, ux_g _ _ _ hk]
  have v : ∀ i, M11 c i = if i = 18 then 0 else if i = 16 then 0 else if i = 13 then 0 else if i = 12 then 0 else if i = 11 then 0 else if i = 10 then 0 else if i = 9 then 0 else if i = 8 then 0 else if i = 7 then -1 else if i = 6 then 0 else if i = 5 then 0 else M c i := fun i => by
    rw [e11, e10, e9, e8, e7, e6, e5, e4, e3, e2, e1]
    unfold ux_
    simp only [true_and]
  refine p_startWords (by unfold okT at hT ⊢; rw [o 1 (by omega), o 2 (by omega)]; exact hT) (fun C0 E L hF hP => ?_)
  obtain ⟨p1, p2, p3, p4, p5, p6⟩ := hP
  have oc : C0 c = M11 c := hF.1 c (by omega) (by omega) (by omega) (by omega)
  have vv : ∀ i x, M11 c i = x → C0 c i = x := fun i x h => by rw [oc]; exact h
  refine hq C0 E L ⟨fun k a1 a4 a5 a6 ac => by rw [hF.1 k a1 a4 a5 a6, o k ac], fun i hi => by rw [hF.2 i hi, o 1 (by omega)], fun i hi => ?_⟩ p1 (vv 6 0 (by rw [v]; rfl)) (vv 7 (-1) (by rw [v]; rfl)) (fun nm sf wq => ⟨⟨hc, fun _ _ _ => rfl, fun _ _ => rfl, fun _ _ => rfl⟩, ⟨p3, p4, p5, p6⟩, ⟨vv 10 0 (by rw [v]; rfl), vv 11 0 (by rw [v]; rfl), vv 12 0 (by rw [v]; rfl), vv 13 0 (by rw [v]; rfl), vv 16 0 (by rw [v]; rfl), vv 18 0 (by rw [v]; rfl), vv 5 0 (by rw [v]; rfl)⟩, ⟨fun i i0 i1 => by omega, fun i i0 i1 => by omega⟩, Or.inl (vv 8 0 (by rw [v]; rfl)), Or.inl (vv 9 0 (by rw [v]; rfl)), vv 6 0 (by rw [v]; rfl), fun i i0 i1 => by omega⟩)
  simp only [List.mem_cons, List.not_mem_nil, or_false] at hi
  rw [oc, v, if_neg (by omega), if_neg (by omega), if_neg (by omega), if_neg (by omega), if_neg (by omega), if_neg (by omega), if_neg (by omega), if_neg (by omega), if_neg (by omega), if_neg (by omega), if_neg (by omega)]
