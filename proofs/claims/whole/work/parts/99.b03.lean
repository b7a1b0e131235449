/-! a picture is taken: the class, whole -/
def xRt (C : MM) : Nat → List (Int × Int)
  | 0 => []
  | k + 1 => mx (fm (fun k => C 33 k) k []) (xRt C k) (C 33 k) (-1) k
def xS (C : MM) : Nat → List (Int × Int)
  | 0 => xRt C (C 26 11).toNat
  | f + 1 => mx (fm (stv C) f (fm (fun k => C 33 k) (C 26 11).toNat [])) (xS C f) (stv C f) (-1) (C 26 11 + nS C f)
def xf (sl : Nat → Int) (t : Int) (L : List Int) (X : List (Int × Int)) : Nat → List (Int × Int)
  | 0 => X
  | k + 1 => mx (fm sl k L) (xf sl t L X k) (sl k) t k
def xb (C : MM) : Nat → Nat → List Int → List (Int × Int) → List (Int × Int)
  | 0, _, _, X => X
  | n + 1, k, L, X => if k < L.length then xb C n (k + 1) (fm (slk C (L.getD k 0)) (lnN C (L.getD k 0)) L) (xf (slk C (L.getD k 0)) k L X (lnN C (L.getD k 0))) else X
def wkX (C : MM) : List (Int × Int) := xb C 401 0 (rtL C) (xS C (6 * C 8 0).toNat)
def rtX (C : MM) : List (Int × Int) := rS C (6 * C 8 0).toNat
theorem mx_neg {L : List Int} {X : List (Int × Int)} {v f s : Int} (h : v < 0) : mx L X v f s = X := mx_eq (Or.inl h)
/-- what a picture's cells hold, so that it can be emptied -/
def PF (C : MM) (c : Nat) : Prop := 0 ≤ C c 0 ∧ C c 0 ≤ 400 ∧ C (c + 4) 0 = 0 ∧ (∀ t, 0 ≤ t → t < C c 0 → 0 ≤ C (c + 1) t ∧ C (c + 1) t < 400) ∧ (∀ o, 0 ≤ o → o < 400 → C (c + 8) o = -1 ∨ ∃ t, 0 ≤ t ∧ t < C c 0 ∧ C (c + 1) t = o) ∧ (∀ t, C c 0 ≤ t → t < 400 → C (c + 13) t = 0)
def EM (C M : MM) (c : Nat) : Prop := (∀ q, q ≠ c → q ≠ c + 8 → q ≠ c + 13 → q ≠ c + 18 → M q = C q) ∧ (∀ i, i ≠ 0 → i ≠ 11 → i ≠ 16 → M c i = C c i) ∧ M c 0 = 0 ∧ M c 11 = 0 ∧ M c 16 = 0 ∧ (∀ o, 0 ≤ o → o < 400 → M (c + 8) o = -1) ∧ (∀ t, 0 ≤ t → t < 400 → M (c + 13) t = 0) ∧ M (c + 18) 1 = 0 ∧ (∀ i, i ≠ 1 → M (c + 18) i = C (c + 18) i)
theorem p_forget {Q : Int → MM → Prop} {C : MM} {c : Nat} (h : PF C c) (hq : ∀ M, EM C M c → Q 0 M) : w_X5_forget c Q C := by
  obtain ⟨h1, h2, h3, h4, h5, h6⟩ := h
  unfold w_X5_forget
  refine loop2 _ (fun t M => 0 ≤ t ∧ t ≤ C c 0 ∧ (∀ q, q ≠ c + 8 → q ≠ c + 13 → M q = C q) ∧ (∀ o, 0 ≤ o → o < 400 → M (c + 8) o = -1 ∨ ∃ t', t ≤ t' ∧ t' < C c 0 ∧ C (c + 1) t' = o) ∧ (∀ i, M (c + 13) i = if 0 ≤ i ∧ i < t then 0 else C (c + 13) i)) (fun t _ => (C c 0 - t).toNat) ?_ _ _ ⟨by omega, h1, fun _ _ _ => rfl, h5, fun i => by rw [if_neg (by omega)]⟩
  rintro t M f ⟨t0, t1, k1, k2, k3⟩ ih
  have kc : M c = C c := k1 c (by omega) (by omega)
  unfold wb_X5_forget_b2
  intro v1 e1 _
  rw [kc] at e1
  subst e1
  refine ⟨fun z M3 e3 M4 e4 M5 e5 M6 e6 => hq M6 ⟨fun q a b d e => ?_, fun i a b d => ?_, ?_, ?_, ?_, fun o o0 o1 => ?_, fun i i0 i1 => ?_, ?_, fun i hi => ?_⟩, fun z => ⟨t0, by omega, fun v7 e7 _ => ?_⟩⟩
  · funext i
    rw [e6, e5, e4, e3, ux_c _ _ _ _ e, ux_c _ _ _ _ a, ux_c _ _ _ _ a, ux_c _ _ _ _ a, k1 q b d]
  · rw [e6, ux_c _ _ _ _ (by omega), e5, ux_i _ _ _ d, e4, ux_i _ _ _ b, e3, ux_i _ _ _ a, kc]
  · rw [e6, ux_c _ _ _ _ (by omega), e5, ux_i _ _ _ (by decide), e4, ux_i _ _ _ (by decide), e3, ux_s]
  · rw [e6, ux_c _ _ _ _ (by omega), e5, ux_i _ _ _ (by decide), e4, ux_s]
  · rw [e6, ux_c _ _ _ _ (by omega), e5, ux_s]
  · rw [e6, e5, e4, e3, ux_c _ _ _ _ (by omega), ux_c _ _ _ _ (by omega), ux_c _ _ _ _ (by omega), ux_c _ _ _ _ (by omega)]
    rcases k2 o o0 o1 with q | ⟨t', a, b, -⟩
    · exact q
    · omega
  · rw [e6, e5, e4, e3, ux_c _ _ _ _ (by omega), ux_c _ _ _ _ (by omega), ux_c _ _ _ _ (by omega), ux_c _ _ _ _ (by omega), k3]
    by_cases y : 0 ≤ i ∧ i < t
    · rw [if_pos y]
    · rw [if_neg y]; exact h6 i (by omega) i1
  · rw [e6, ux_s]
  · rw [e6, ux_i _ _ _ hi, e5, e4, e3, ux_c _ _ _ _ (by omega), ux_c _ _ _ _ (by omega), ux_c _ _ _ _ (by omega), k1 _ (by omega) (by omega)]
  · rw [k1 (c + 1) (by omega) (by omega)] at e7
    subst e7
    obtain ⟨a1, a2⟩ := h4 t t0 (by omega)
    refine ⟨a1, a2, fun M8 e8 => ⟨t0, by omega, fun M9 e9 => ⟨by unfold ri_; omega, ih _ _ ⟨by omega, by omega, fun q a b => ?_, fun o o0 o1 => ?_, fun i => ?_⟩ (by omega)⟩⟩⟩
    · funext i
      rw [e9, e8, ux_c _ _ _ _ b, ux_c _ _ _ _ a, k1 q a b]
    · rw [e9, ux_c _ _ _ _ (by omega), e8]
      by_cases y : o = C (c + 1) t
      · rw [y, ux_s]; exact Or.inl rfl
      · rw [ux_i _ _ _ y]
        rcases k2 o o0 o1 with q | ⟨t', a, b, d⟩
        · exact Or.inl q
        · have : t' ≠ t := fun e => y (by rw [← d, e])
          exact Or.inr ⟨t', by omega, b, d⟩
    · rw [e9]
      by_cases y : i = t
      · rw [y, ux_s, if_pos (by omega)]
      · rw [ux_i _ _ _ y, e8, ux_c _ _ _ _ (by omega), k3]
        by_cases y2 : 0 ≤ i ∧ i < t
        · rw [if_pos y2, if_pos (by omega)]
        · rw [if_neg y2, if_neg (by omega)]
theorem p_paddRoot {Q : Int → MM → Prop} {C M : MM} {c : Nat} {L : List Int} {X rs : List (Int × Int)} {v n x : Int} (h : TC C M c L X rs) (hr : (rs.length : Int) < 108) (hv : v ∈ L) (hx : x = ix L v) (hq : ∀ M', TC C M' c L X (rs ++ [(n, v)]) → (∀ q, q ≠ c → q ≠ c + 11 → q ≠ c + 12 → M' q = M q) → Q 0 M') : w_X5_addRoot c Q n x M := by
  obtain ⟨h1, h2, h3, h4, h5, h6, h7, h8, h9, h10, h11, h12, h13, h14⟩ := h
  unfold w_X5_addRoot
  intro v1 e1 _
  rw [h12] at e1
  subst e1
  refine ⟨by omega, hr, fun M2 e2 v3 e3 _ => ?_⟩
  rw [e2, ux_c _ _ _ _ (by omega), h12] at e3
  subst e3
  refine ⟨by omega, hr, fun M4 e4 v5 e5 _ => ?_⟩
  rw [e4, e2, ux_c _ _ _ _ (by omega), ux_c _ _ _ _ (by omega), h12] at e5
  subst e5
  refine ⟨by unfold ri_; omega, fun M7 e7 => ?_⟩
  have k0 : ∀ q, q ≠ c → q ≠ c + 11 → q ≠ c + 12 → M7 q = M q := fun q a b d => funext fun i => by rw [e7, e4, e2, ux_c _ _ _ _ a, ux_c _ _ _ _ d, ux_c _ _ _ _ b]
  have kc : ∀ i, i ≠ 11 → M7 c i = M c i := fun i hi => by rw [e7, ux_i _ _ _ hi, e4, e2, ux_c _ _ _ _ (by omega), ux_c _ _ _ _ (by omega)]
  refine hq M7 ⟨fun q hq2 => ?_, fun i i0 i1 => ?_, h3, h4, h5, h6, ?_, fun t ht => ?_, fun t ht => ?_, fun o o0 o1 => ?_, fun t ht => ?_, ?_, ?_, fun r hr2 => ?_⟩ k0
  · rw [k0 q (by omega) (by omega) (by omega), h1 q hq2]
  · rw [kc i i1, h2 i i0 i1]
  · rw [kc 0 (by decide), h7]
  · rw [k0 (c + 1) (by omega) (by omega) (by omega), k0 (c + 2) (by omega) (by omega) (by omega), k0 (c + 3) (by omega) (by omega) (by omega)]; exact h8 t ht
  · rw [k0 (c + 4) (by omega) (by omega) (by omega)]; exact h9 t ht
  · rw [k0 (c + 8) (by omega) (by omega) (by omega)]; exact h10 o o0 o1
  · rw [k0 (c + 5) (by omega) (by omega) (by omega), k0 (c + 6) (by omega) (by omega) (by omega), k0 (c + 7) (by omega) (by omega) (by omega)]; exact h11 t ht
  · rw [e7, ux_s, List.length_append]; simp
  · rw [List.length_append]; simp; omega
  · rw [List.length_append] at hr2
    simp at hr2
    rw [e7, ux_c _ _ _ _ (by omega), ux_c _ _ _ _ (by omega), e4]
    by_cases y : r = rs.length
    · rw [ux_c _ _ _ _ (by omega), e2, y, ux_s, ux_s, xg_last]
      exact ⟨rfl, hx, hv⟩
    · rw [ux_c _ _ _ _ (by omega), ux_i _ _ _ (by omega), e2, ux_i _ _ _ (by omega), ux_c _ _ _ _ (by omega), xg_app (by omega)]
      exact h14 r (by omega)
theorem p_pmeetRoot {Q : Int → MM → Prop} {C R R0 M : MM} {c : Nat} {L : List Int} {X rs : List (Int × Int)} {v n : Int} (hc : pB c) (hY : Rty C R0) (hH : Rhp C R) (h : TC C M c L X rs) (hr : (rs.length : Int) < 108) (hv : v = -1 ∨ hOk C v) (hq : ∀ M', TC C M' c (mt L v) (mx L X v (-1) n) (if v = -1 then rs else rs ++ [(n, v)]) → Q 0 M') : w_X5_meetRoot c Q v n M := by
  unfold w_X5_meetRoot
  refine ⟨fun z => hq M (by rw [if_pos z, mt_neg (by omega), mx_neg (by omega)]; exact h), fun z => ?_⟩
  have ho : hOk C v := by
    rcases hv with q | q
    · exact absurd q z
    · exact q
  have h0 := ho.1
  have h1 := ho.2.1
  have n4 := hH.2.2.1
  rw [if_neg z] at hq
  exact ⟨by unfold ri_; omega, p_pmeet hc hY hH h ho (Or.inl rfl) (fun M' hm _ _ => p_paddRoot hm hr (mt_has h0) rfl (fun M2 h2 _ => hq M2 h2))⟩
