/-! walks: a list of what was met, in order -/
def mt (L : List Int) (v : Int) : List Int := if v < 0 ∨ v ∈ L then L else L ++ [v]
def ix (L : List Int) (o : Int) : Int := if o ∈ L then (L.idxOf o : Int) else -1
/-- meet the values of the first places of a row -/
def fm (f : Nat → Int) : Nat → List Int → List Int
  | 0, L => L
  | k + 1, L => mt (fm f k L) (f k)
/-- and the places of what was met, in order -/
def bf (sl : Int → Nat → Int) (len : Int → Nat) : Nat → Nat → List Int → List Int
  | 0, _, L => L
  | n + 1, k, L => if k < L.length then bf sl len n (k + 1) (fm (sl (L.getD k 0)) (len (L.getD k 0)) L) else L
def wl (n : Int) (L : List Int) : Prop := L.Nodup ∧ ∀ o ∈ L, 0 ≤ o ∧ o < n
theorem nd_len (n : Nat) : ∀ L : List Int, L.Nodup → (∀ o ∈ L, 0 ≤ o ∧ o < (n : Int)) → L.length ≤ n := by
  induction n with
  | zero =>
    intro L _ h
    cases L with
    | nil => exact Nat.le_refl _
    | cons a l => have := h a (List.mem_cons_self ..); omega
  | succ n ih =>
    intro L hd h
    by_cases z : (n : Int) ∈ L
    · have h1 := ih (L.erase (n : Int)) (hd.erase _) (fun o ho => by
        have := (hd.mem_erase_iff).mp ho
        have := h o this.2
        omega)
      rw [List.length_erase_of_mem z] at h1
      omega
    · have := ih L hd (fun o ho => by
        have q := h o ho
        have : o ≠ n := fun e => z (by rw [← e]; exact ho)
        omega)
      omega
theorem wl_len {n : Int} {L : List Int} (h : wl n L) (n0 : 0 ≤ n) : (L.length : Int) ≤ n := by
  have := nd_len n.toNat L h.1 (fun o ho => by have := h.2 o ho; omega)
  omega
theorem wl_lt {n : Int} {L : List Int} {v : Int} (h : wl n L) (v0 : 0 ≤ v) (v1 : v < n) (hv : v ∉ L) : (L.length : Int) < n := by
  have := nd_len n.toNat (v :: L) (List.nodup_cons.mpr ⟨hv, h.1⟩) (fun o ho => by
    rcases List.mem_cons.mp ho with e | e
    · rw [e]; omega
    · have := h.2 o e; omega)
  rw [List.length_cons] at this
  omega
theorem mt_neg {L : List Int} {v : Int} (h : v < 0) : mt L v = L := by unfold mt; rw [if_pos (Or.inl h)]
theorem mt_in {L : List Int} {v : Int} (h : v ∈ L) : mt L v = L := by unfold mt; rw [if_pos (Or.inr h)]
theorem mt_new {L : List Int} {v : Int} (h : 0 ≤ v) (h2 : v ∉ L) : mt L v = L ++ [v] := by
  unfold mt
  rw [if_neg (fun q => by rcases q with q | q; omega; exact h2 q)]
theorem mt_wl {n : Int} {L : List Int} {v : Int} (h : wl n L) (hv : v < n) : wl n (mt L v) := by
  by_cases z : v < 0
  · rw [mt_neg z]; exact h
  · by_cases z2 : v ∈ L
    · rw [mt_in z2]; exact h
    · rw [mt_new (by omega) z2]
      refine ⟨?_, fun o ho => ?_⟩
      · rw [List.nodup_append]
        refine ⟨h.1, List.nodup_cons.mpr ⟨by simp, List.nodup_nil⟩, fun a ha b hb e => ?_⟩
        rw [List.mem_singleton] at hb
        exact z2 (by rw [← hb, ← e]; exact ha)
      · rw [List.mem_append, List.mem_singleton] at ho
        rcases ho with q | q
        · exact h.2 o q
        · omega
theorem mt_len {L : List Int} {v : Int} : L.length ≤ (mt L v).length := by
  unfold mt
  by_cases z : v < 0 ∨ v ∈ L
  · rw [if_pos z]; omega
  · rw [if_neg z, List.length_append]; omega
theorem mt_sub {L : List Int} {v o : Int} (h : o ∈ L) : o ∈ mt L v := by
  unfold mt
  by_cases z : v < 0 ∨ v ∈ L
  · rw [if_pos z]; exact h
  · rw [if_neg z]; exact List.mem_append_left _ h
theorem mt_has {L : List Int} {v : Int} (h : 0 ≤ v) : v ∈ mt L v := by
  by_cases z : v ∈ L
  · rw [mt_in z]; exact z
  · rw [mt_new h z]; exact List.mem_append_right _ (List.mem_singleton.mpr rfl)
theorem gD_app {L : List Int} {v : Int} {k : Nat} (h : k < L.length) : (L ++ [v]).getD k 0 = L.getD k 0 := by
  rw [List.getD_eq_getElem?_getD, List.getD_eq_getElem?_getD, List.getElem?_append_left h]
theorem gD_last {L : List Int} {v : Int} : (L ++ [v]).getD L.length 0 = v := by
  rw [List.getD_eq_getElem?_getD, List.getElem?_append_right (Nat.le_refl _)]
  simp
theorem mt_gD {L : List Int} {v : Int} {k : Nat} (h : k < L.length) : (mt L v).getD k 0 = L.getD k 0 := by
  unfold mt
  by_cases z : v < 0 ∨ v ∈ L
  · rw [if_pos z]
  · rw [if_neg z]; exact gD_app h
theorem ix_in {L : List Int} {o : Int} (h : o ∈ L) : ix L o = (L.idxOf o : Int) := by unfold ix; rw [if_pos h]
theorem ix_out {L : List Int} {o : Int} (h : o ∉ L) : ix L o = -1 := by unfold ix; rw [if_neg h]
theorem ix_m {L : List Int} {o : Int} : ix L o = -1 ↔ o ∉ L := by
  constructor
  · intro h q; rw [ix_in q] at h; omega
  · exact ix_out
theorem ix_lt {L : List Int} {o : Int} : -1 ≤ ix L o ∧ ix L o < L.length := by
  by_cases z : o ∈ L
  · rw [ix_in z]
    have := List.idxOf_lt_length_of_mem z
    omega
  · rw [ix_out z]; omega
theorem gD_ix {L : List Int} {o : Int} (h : o ∈ L) : L.getD (ix L o).toNat 0 = o := by
  rw [ix_in h, List.getD_eq_getElem?_getD]
  have := List.idxOf_lt_length_of_mem h
  rw [show ((L.idxOf o : Nat) : Int).toNat = L.idxOf o from by omega, List.getElem?_eq_getElem this]
  simp
theorem gD_mem {L : List Int} {k : Nat} (h : k < L.length) : L.getD k 0 ∈ L := by
  rw [List.getD_eq_getElem?_getD, List.getElem?_eq_getElem h]
  simp
theorem ix_app {L : List Int} {v o : Int} (h : v ∉ L) : ix (L ++ [v]) o = if o = v then (L.length : Int) else ix L o := by
  by_cases e : o = v
  · subst e
    rw [if_pos rfl, ix_in (List.mem_append_right _ (List.mem_singleton.mpr rfl)), List.idxOf_append, if_neg h]
    simp
  · rw [if_neg e]
    by_cases z : o ∈ L
    · rw [ix_in z, ix_in (List.mem_append_left _ z), List.idxOf_append, if_pos z]
    · rw [ix_out z, ix_out (by rw [List.mem_append, List.mem_singleton]; rintro (q | q); exact z q; exact e q)]
theorem fm_wl {n : Int} {f : Nat → Int} {L : List Int} (h : wl n L) (k : Nat) (hf : ∀ j, j < k → f j < n) : wl n (fm f k L) := by
  induction k with
  | zero => exact h
  | succ k ih => exact mt_wl (ih fun j hj => hf j (by omega)) (hf k (by omega))
theorem fm_len {f : Nat → Int} {L : List Int} (k : Nat) : L.length ≤ (fm f k L).length := by
  induction k with
  | zero => exact Nat.le_refl _
  | succ k ih => exact Nat.le_trans ih mt_len
theorem fm_sub {f : Nat → Int} {L : List Int} {o : Int} (h : o ∈ L) (k : Nat) : o ∈ fm f k L := by
  induction k with
  | zero => exact h
  | succ k ih => exact mt_sub ih
theorem fm_gD {f : Nat → Int} {L : List Int} {j : Nat} (h : j < L.length) (k : Nat) : (fm f k L).getD j 0 = L.getD j 0 := by
  induction k with
  | zero => rfl
  | succ k ih =>
    show (mt (fm f k L) (f k)).getD j 0 = _
    rw [mt_gD (Nat.lt_of_lt_of_le h (fm_len k)), ih]
theorem fm_has {f : Nat → Int} {L : List Int} (k j : Nat) (hj : j < k) (h : 0 ≤ f j) : f j ∈ fm f k L := by
  induction k with
  | zero => omega
  | succ k ih =>
    by_cases e : j = k
    · subst e; exact mt_has h
    · exact mt_sub (ih (by omega))
theorem fm_only {f : Nat → Int} {L : List Int} {o : Int} (k : Nat) (h : o ∈ fm f k L) : o ∈ L ∨ ∃ j, j < k ∧ f j = o ∧ 0 ≤ o := by
  induction k with
  | zero => exact Or.inl h
  | succ k ih =>
    have h' : o ∈ mt (fm f k L) (f k) := h
    unfold mt at h'
    by_cases z : f k < 0 ∨ f k ∈ fm f k L
    · rw [if_pos z] at h'
      rcases ih h' with q | ⟨j, a, b⟩
      · exact Or.inl q
      · exact Or.inr ⟨j, by omega, b⟩
    · rw [if_neg z, List.mem_append, List.mem_singleton] at h'
      rcases h' with q | q
      · rcases ih q with q | ⟨j, a, b⟩
        · exact Or.inl q
        · exact Or.inr ⟨j, by omega, b⟩
      · exact Or.inr ⟨k, by omega, q.symm, by omega⟩
theorem bf_wl {n : Int} {sl : Int → Nat → Int} {len : Int → Nat} (hs : ∀ o, 0 ≤ o → o < n → ∀ j, j < len o → sl o j < n) (m : Nat) : ∀ k L, wl n L → wl n (bf sl len m k L) := by
  induction m with
  | zero => intro k L h; exact h
  | succ m ih =>
    intro k L h
    show wl n (if k < L.length then bf sl len m (k + 1) (fm (sl (L.getD k 0)) (len (L.getD k 0)) L) else L)
    by_cases z : k < L.length
    · rw [if_pos z]
      have hm := h.2 _ (gD_mem z)
      exact ih _ _ (fm_wl h _ (hs _ hm.1 hm.2))
    · rw [if_neg z]; exact h
theorem bf_sub {sl : Int → Nat → Int} {len : Int → Nat} {o : Int} (m : Nat) : ∀ k L, o ∈ L → o ∈ bf sl len m k L := by
  induction m with
  | zero => intro k L h; exact h
  | succ m ih =>
    intro k L h
    show o ∈ (if k < L.length then bf sl len m (k + 1) (fm (sl (L.getD k 0)) (len (L.getD k 0)) L) else L)
    by_cases z : k < L.length
    · rw [if_pos z]; exact ih _ _ (fm_sub h _)
    · rw [if_neg z]; exact h
theorem bf_len {sl : Int → Nat → Int} {len : Int → Nat} (m : Nat) : ∀ k L, L.length ≤ (bf sl len m k L).length := by
  induction m with
  | zero => intro k L; exact Nat.le_refl _
  | succ m ih =>
    intro k L
    show _ ≤ (if k < L.length then bf sl len m (k + 1) (fm (sl (L.getD k 0)) (len (L.getD k 0)) L) else L).length
    by_cases z : k < L.length
    · rw [if_pos z]; exact Nat.le_trans (fm_len _) (ih _ _)
    · rw [if_neg z]; exact Nat.le_refl _
theorem bf_gD {sl : Int → Nat → Int} {len : Int → Nat} {j : Nat} (m : Nat) : ∀ k L, j < L.length → (bf sl len m k L).getD j 0 = L.getD j 0 := by
  induction m with
  | zero => intro k L _; rfl
  | succ m ih =>
    intro k L h
    show (if k < L.length then bf sl len m (k + 1) (fm (sl (L.getD k 0)) (len (L.getD k 0)) L) else L).getD j 0 = _
    by_cases z : k < L.length
    · rw [if_pos z, ih _ _ (Nat.lt_of_lt_of_le h (fm_len _)), fm_gD h]
    · rw [if_neg z]
/-- a walk of enough steps is closed -/
theorem bf_end {n : Int} {sl : Int → Nat → Int} {len : Int → Nat} (n0 : 0 ≤ n) (hs : ∀ o, 0 ≤ o → o < n → ∀ j, j < len o → sl o j < n) (m : Nat) : ∀ (k : Nat) (L : List Int), wl n L → n < (m : Int) + (k : Int) → (∀ j : Nat, j < k → j < L.length → ∀ i, i < len (L.getD j 0) → 0 ≤ sl (L.getD j 0) i → sl (L.getD j 0) i ∈ L) → ∀ j : Nat, j < (bf sl len m k L).length → ∀ i : Nat, i < len ((bf sl len m k L).getD j 0) → 0 ≤ sl ((bf sl len m k L).getD j 0) i → sl ((bf sl len m k L).getD j 0) i ∈ bf sl len m k L := by
  induction m with
  | zero =>
    intro k L h hk hc j hj i hi h0
    have := wl_len h n0
    have hj' : j < L.length := hj
    exact hc j (by omega) hj i hi h0
  | succ m ih =>
    intro k L h hk hc
    have e : bf sl len (m + 1) k L = if k < L.length then bf sl len m (k + 1) (fm (sl (L.getD k 0)) (len (L.getD k 0)) L) else L := rfl
    by_cases z : k < L.length
    · rw [if_pos z] at e
      rw [e]
      have hm := h.2 _ (gD_mem z)
      refine ih _ _ (fm_wl h _ (hs _ hm.1 hm.2)) (by omega) fun j hj hjl i hi h0 => ?_
      have jl : j < L.length := by omega
      rw [fm_gD jl] at hi h0 ⊢
      by_cases ej : j = k
      · rw [ej] at hi h0 ⊢
        exact fm_has _ i hi h0
      · exact fm_sub (hc j (by omega) jl i hi h0) _
    · rw [if_neg z] at e
      rw [e]
      exact fun j hj i hi h0 => hc j (by omega) hj i hi h0
theorem bf_closed {n : Int} {sl : Int → Nat → Int} {len : Int → Nat} (n0 : 0 ≤ n) (hs : ∀ o, 0 ≤ o → o < n → ∀ j, j < len o → sl o j < n) {m : Nat} {L : List Int} (h : wl n L) (hm : n < m) {o : Int} (ho : o ∈ bf sl len m 0 L) {i : Nat} (hi : i < len o) (h0 : 0 ≤ sl o i) : sl o i ∈ bf sl len m 0 L := by
  have hx := gD_ix ho
  have hlt := (ix_lt (L := bf sl len m 0 L) (o := o)).2
  have h1 : (ix (bf sl len m 0 L) o).toNat < (bf sl len m 0 L).length := by
    have : ix (bf sl len m 0 L) o ≠ -1 := fun q => (ix_m.mp q) ho
    have := (ix_lt (L := bf sl len m 0 L) (o := o)).1
    omega
  have := bf_end n0 hs m 0 L h (by omega) (fun j hj => by omega) _ h1 i (by rw [hx]; exact hi) (by rw [hx]; exact h0)
  rw [hx] at this
  exact this
/-- what is met is a beginning of the walk, or linked to from one that was met -/
theorem bf_only {sl : Int → Nat → Int} {len : Int → Nat} {o : Int} (m : Nat) : ∀ k L, o ∈ bf sl len m k L → o ∈ L ∨ ∃ x i, x ∈ bf sl len m k L ∧ i < len x ∧ sl x i = o ∧ 0 ≤ o := by
  induction m with
  | zero => intro k L h; exact Or.inl h
  | succ m ih =>
    intro k L h
    have e : bf sl len (m + 1) k L = if k < L.length then bf sl len m (k + 1) (fm (sl (L.getD k 0)) (len (L.getD k 0)) L) else L := rfl
    by_cases z : k < L.length
    · rw [if_pos z] at e
      rw [e] at h ⊢
      rcases ih _ _ h with q | q
      · rcases fm_only _ q with q2 | ⟨j, a, b, c⟩
        · exact Or.inl q2
        · exact Or.inr ⟨_, j, bf_sub _ _ _ (fm_sub (gD_mem z) _), a, b, c⟩
      · exact Or.inr q
    · rw [if_neg z] at e
      rw [e] at h
      exact Or.inl h
