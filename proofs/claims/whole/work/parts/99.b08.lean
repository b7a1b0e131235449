/-! how things were met first: lists -/
def lx (a b : Int × Int) : Prop := a.1 < b.1 ∨ (a.1 = b.1 ∧ a.2 < b.2)
theorem lx_t {a b d : Int × Int} (h : lx a b) (h' : lx b d) : lx a d := by unfold lx at *; omega
/-- after some roots -/
def RX (L : List Int) (X rs : List (Int × Int)) (n : Int) : Prop := X.length = L.length ∧ (∀ r, r < rs.length → (rs.getD r (0, 0)).2 ∈ L ∧ 0 ≤ (rs.getD r (0, 0)).1 ∧ (rs.getD r (0, 0)).1 < n) ∧ (∀ r, r + 1 < rs.length → (rs.getD r (0, 0)).1 < (rs.getD (r + 1) (0, 0)).1) ∧ (∀ t, t < L.length → (X.getD t (0, 0)).1 = -1 ∧ (X.getD t (0, 0)).2 < n ∧ ∃ r, r < rs.length ∧ rs.getD r (0, 0) = ((X.getD t (0, 0)).2, L.getD t 0) ∧ ∀ r', r' < r → (rs.getD r' (0, 0)).2 ≠ L.getD t 0) ∧ ∀ t, t + 1 < L.length → lx (X.getD t (0, 0)) (X.getD (t + 1) (0, 0))
theorem RX_w {L : List Int} {X rs : List (Int × Int)} {n m : Int} (h : RX L X rs n) (hm : n ≤ m) : RX L X rs m := by
  obtain ⟨h1, h2, h3, h4, h5⟩ := h
  exact ⟨h1, fun r hr => ⟨(h2 r hr).1, (h2 r hr).2.1, by have := (h2 r hr).2.2; omega⟩, h3, fun t ht => ⟨(h4 t ht).1, by have := (h4 t ht).2.1; omega, (h4 t ht).2.2⟩, h5⟩
theorem RX_s {L : List Int} {X rs : List (Int × Int)} {n v : Int} (h : RX L X rs n) (n0 : 0 ≤ n) (hd : L.Nodup) (hv : v = -1 ∨ 0 ≤ v) : RX (mt L v) (mx L X v (-1) n) (if v = -1 then rs else rs ++ [(n, v)]) (n + 1) := by
  by_cases z : v = -1
  · rw [mt_neg (by omega), mx_neg (by omega), if_pos z]; exact RX_w h (by omega)
  rw [if_neg z]
  have v0 : 0 ≤ v := by omega
  obtain ⟨h1, h2, h3, h4, h5⟩ := h
  have hsub : ∀ o, o ∈ L → o ∈ mt L v := fun o ho => mt_sub ho
  have hlen : (rs ++ [(n, v)]).length = rs.length + 1 := by rw [List.length_append]; rfl
  have inc : ∀ r, r + 1 < (rs ++ [(n, v)]).length → ((rs ++ [(n, v)]).getD r (0, 0)).1 < ((rs ++ [(n, v)]).getD (r + 1) (0, 0)).1 := by
    intro r hr
    rw [hlen] at hr
    rw [xg_app (by omega)]
    by_cases e : r + 1 = rs.length
    · rw [e, xg_last]; exact (h2 r (by omega)).2.2
    · rw [xg_app (by omega)]; exact h3 r (by omega)
  have nums : ∀ r, r < (rs ++ [(n, v)]).length → ((rs ++ [(n, v)]).getD r (0, 0)).2 ∈ mt L v ∧ 0 ≤ ((rs ++ [(n, v)]).getD r (0, 0)).1 ∧ ((rs ++ [(n, v)]).getD r (0, 0)).1 < n + 1 := by
    intro r hr
    rw [hlen] at hr
    by_cases e : r = rs.length
    · rw [e, xg_last]; exact ⟨mt_has v0, n0, by show n < n + 1; omega⟩
    · rw [xg_app (by omega)]
      have := h2 r (by omega)
      exact ⟨hsub _ this.1, this.2.1, by omega⟩
  have old : ∀ t, t < L.length → (mx L X v (-1) n).getD t (0, 0) = X.getD t (0, 0) ∧ (mt L v).getD t 0 = L.getD t 0 := fun t ht => ⟨mx_gD (by omega), mt_gD ht⟩
  have oldw : ∀ t, t < L.length → ((mx L X v (-1) n).getD t (0, 0)).1 = -1 ∧ ((mx L X v (-1) n).getD t (0, 0)).2 < n + 1 ∧ ∃ r, r < (rs ++ [(n, v)]).length ∧ (rs ++ [(n, v)]).getD r (0, 0) = (((mx L X v (-1) n).getD t (0, 0)).2, (mt L v).getD t 0) ∧ ∀ r', r' < r → ((rs ++ [(n, v)]).getD r' (0, 0)).2 ≠ (mt L v).getD t 0 := by
    intro t ht
    obtain ⟨o1, o2⟩ := old t ht
    obtain ⟨a1, a2, r, a3, a4, a5⟩ := h4 t ht
    rw [o1, o2]
    exact ⟨a1, by omega, r, by rw [hlen]; omega, by rw [xg_app a3]; exact a4, fun r' hr' => by rw [xg_app (by omega)]; exact a5 r' hr'⟩
  by_cases zi : v ∈ L
  · refine ⟨mx_len h1, nums, inc, fun t ht => oldw t (by rw [mt_in zi] at ht; exact ht), fun t ht => ?_⟩
    rw [mt_in zi] at ht
    rw [(old t (by omega)).1, (old (t + 1) ht).1]
    exact h5 t ht
  · have em := mt_new v0 zi
    have ex : mx L X v (-1) n = X ++ [(-1, n)] := mx_new (fun q => by rcases q with q | q; omega; exact zi q)
    have el : (mt L v).length = L.length + 1 := by rw [em, List.length_append]; rfl
    refine ⟨mx_len h1, nums, inc, fun t ht => ?_, fun t ht => ?_⟩
    · rw [el] at ht
      by_cases e : t = L.length
      · rw [e, em, gD_last, ex, ← h1, xg_last]
        refine ⟨rfl, by show n < n + 1; omega, rs.length, by rw [hlen]; omega, xg_last, fun r' hr' q => ?_⟩
        rw [xg_app hr'] at q
        exact zi (by rw [← q]; exact (h2 r' hr').1)
      · exact oldw t (by omega)
    · rw [el] at ht
      by_cases e : t + 1 = L.length
      · rw [(old t (by omega)).1, ex, show t + 1 = X.length from by omega, xg_last]
        have := h4 t (by omega)
        exact Or.inr ⟨this.1, this.2.1⟩
      · rw [(old t (by omega)).1, (old (t + 1) (by omega)).1]
        exact h5 t (by omega)
theorem RX_told {C R R0 : MM} (hY : Rty C R0) (hH : Rhp C R) (k : Nat) (hk : (k : Int) ≤ C 26 11) : RX (fm (fun k => C 33 k) k []) (xRt C k) (rT C k) k ∧ wl (C 26 1) (fm (fun k => C 33 k) k []) := by
  obtain ⟨g1, g2, g3, g4, g5⟩ := hH.2.2.2.2.2.2.2.2.2.2.2.1
  induction k with
  | zero => exact ⟨⟨rfl, fun r hr => by simp [rT] at hr, fun r hr => by simp [rT] at hr, fun t ht => by simp [fm] at ht, fun t ht => by simp [fm] at ht⟩, ⟨List.nodup_nil, fun o ho => by simp [fm] at ho⟩⟩
  | succ k ih =>
    obtain ⟨i1, i2⟩ := ih (by omega)
    have ho := (g4 k (by omega) (by omega)).2
    have := RX_s (v := C 33 k) i1 (by omega) i2.1 (Or.inr ho.1)
    rw [if_neg (by have := ho.1; omega)] at this
    refine ⟨?_, mt_wl i2 ho.2.1⟩
    rw [show (((k + 1 : Nat)) : Int) = (k : Int) + 1 from by omega]
    exact this
theorem RX_st {C R R0 : MM} (hY : Rty C R0) (hH : Rhp C R) (f : Nat) (hf : (f : Int) ≤ 6 * C 8 0) : RX (fm (stv C) f (fm (fun k => C 33 k) (C 26 11).toNat [])) (xS C f) (rS C f) (C 26 11 + nS C f) ∧ wl (C 26 1) (fm (stv C) f (fm (fun k => C 33 k) (C 26 11).toNat [])) := by
  obtain ⟨g1, g2, g3, g4, g5⟩ := hH.2.2.2.2.2.2.2.2.2.2.2.1
  have n0 := hH.2.1
  induction f with
  | zero =>
    obtain ⟨i1, i2⟩ := RX_told hY hH (C 26 11).toNat (by omega)
    refine ⟨?_, i2⟩
    show RX _ (xRt C (C 26 11).toNat) (rT C (C 26 11).toNat) (C 26 11 + 0)
    exact RX_w i1 (by omega)
  | succ f ih =>
    obtain ⟨i1, i2⟩ := ih (by omega)
    have hb := stv_lt hY hH (f := f) (by omega)
    have nb := nS_bd C f
    have hlt : stv C f < C 26 1 := by rcases hb with q | q; omega; exact q.2.1
    refine ⟨?_, mt_wl i2 hlt⟩
    by_cases z : stv C f = -1
    · show RX (mt _ (stv C f)) (mx _ (xS C f) (stv C f) (-1) _) (if stv C f = -1 then _ else _) _
      rw [z, mt_neg (by omega), mx_neg (by omega), if_pos rfl]
      refine RX_w i1 ?_
      rw [nS_s]
      by_cases y : C 21 f = 0
      · rw [if_pos y]; omega
      · rw [if_neg y]
        by_cases y2 : C 19 f = 5
        · rw [if_pos y2]; omega
        · rw [if_neg y2]; omega
    · have en : nS C (f + 1) = nS C f + 1 := by
        rw [nS_s]
        unfold stv at z
        by_cases y : C 21 f = 0
        · rw [if_pos y] at z; exact absurd rfl z
        · rw [if_neg y] at z ⊢
          by_cases y2 : C 19 f = 5
          · rw [if_pos y2]
          · rw [if_neg y2] at z; exact absurd rfl z
      have := RX_s (v := stv C f) i1 (by omega) i2.1 (by rcases hb with q | q; exact Or.inl q; exact Or.inr q.1)
      rw [en, show C 26 11 + (nS C f + 1) = C 26 11 + nS C f + 1 from by omega]
      exact this
/-- slots before a place -/
def sb (F S T K : Nat) : Prop := F < T ∨ (F = T ∧ S < K)
/-- after the roots and some slots -/
def SX (C : MM) (L : List Int) (X rs : List (Int × Int)) (T K : Nat) : Prop := X.length = L.length ∧ (∀ r, r < rs.length → (rs.getD r (0, 0)).2 ∈ L) ∧ (∀ t, t < L.length → ((X.getD t (0, 0)).1 = -1 ∧ ∃ r, r < rs.length ∧ rs.getD r (0, 0) = ((X.getD t (0, 0)).2, L.getD t 0) ∧ ∀ r', r' < r → (rs.getD r' (0, 0)).2 ≠ L.getD t 0) ∨ (∃ F S : Nat, X.getD t (0, 0) = ((F : Int), (S : Int)) ∧ F < t ∧ sb F S T K ∧ S < lnN C (L.getD F 0) ∧ slk C (L.getD F 0) S = L.getD t 0 ∧ (∀ r, r < rs.length → (rs.getD r (0, 0)).2 ≠ L.getD t 0) ∧ ∀ F' S', sb F' S' F S → S' < lnN C (L.getD F' 0) → slk C (L.getD F' 0) S' ≠ L.getD t 0)) ∧ (∀ t, t + 1 < L.length → lx (X.getD t (0, 0)) (X.getD (t + 1) (0, 0))) ∧ (∀ F S, sb F S T K → F < L.length → S < lnN C (L.getD F 0) → 0 ≤ slk C (L.getD F 0) S → slk C (L.getD F 0) S ∈ L)
theorem SX_0 {C : MM} {L : List Int} {X rs : List (Int × Int)} {n : Int} (h : RX L X rs n) : SX C L X rs 0 0 := by
  obtain ⟨h1, h2, h3, h4, h5⟩ := h
  exact ⟨h1, fun r hr => (h2 r hr).1, fun t ht => Or.inl ⟨(h4 t ht).1, (h4 t ht).2.2⟩, h5, fun F S hs => by unfold sb at hs; omega⟩
theorem SX_s {C : MM} {L : List Int} {X rs : List (Int × Int)} {T K : Nat} {v : Int} (h : SX C L X rs T K) (hT : T < L.length) (hK : K < lnN C (L.getD T 0)) (hv : slk C (L.getD T 0) K = v) (hv0 : v = -1 ∨ 0 ≤ v) : SX C (mt L v) (mx L X v T K) rs T (K + 1) := by
  obtain ⟨h1, h2, h3, h4, h5⟩ := h
  have old : ∀ t, t < L.length → (mx L X v T K).getD t (0, 0) = X.getD t (0, 0) ∧ (mt L v).getD t 0 = L.getD t 0 := fun t ht => ⟨mx_gD (by omega), mt_gD ht⟩
  have cl : ∀ F S, sb F S T (K + 1) → F < (mt L v).length → S < lnN C ((mt L v).getD F 0) → 0 ≤ slk C ((mt L v).getD F 0) S → slk C ((mt L v).getD F 0) S ∈ mt L v := by
    intro F S hs hF hS h0
    have hF' : F < L.length := by unfold sb at hs; omega
    rw [(old F hF').2] at hS h0 ⊢
    by_cases e : F = T ∧ S = K
    · rw [e.1, e.2, hv] at h0 ⊢
      exact mt_has h0
    · exact mt_sub (h5 F S (by unfold sb at hs ⊢; omega) hF' hS h0)
  have way : ∀ t, t < L.length → (((mx L X v T K).getD t (0, 0)).1 = -1 ∧ ∃ r, r < rs.length ∧ rs.getD r (0, 0) = (((mx L X v T K).getD t (0, 0)).2, (mt L v).getD t 0) ∧ ∀ r', r' < r → (rs.getD r' (0, 0)).2 ≠ (mt L v).getD t 0) ∨ (∃ F S : Nat, (mx L X v T K).getD t (0, 0) = ((F : Int), (S : Int)) ∧ F < t ∧ sb F S T (K + 1) ∧ S < lnN C ((mt L v).getD F 0) ∧ slk C ((mt L v).getD F 0) S = (mt L v).getD t 0 ∧ (∀ r, r < rs.length → (rs.getD r (0, 0)).2 ≠ (mt L v).getD t 0) ∧ ∀ F' S', sb F' S' F S → S' < lnN C ((mt L v).getD F' 0) → slk C ((mt L v).getD F' 0) S' ≠ (mt L v).getD t 0) := by
    intro t ht
    obtain ⟨o1, o2⟩ := old t ht
    rw [o1, o2]
    rcases h3 t ht with q | ⟨F, S, a1, a2, a3, a4, a5, a6, a7⟩
    · exact Or.inl q
    · refine Or.inr ⟨F, S, a1, a2, by unfold sb at a3 ⊢; omega, by rw [(old F (by omega)).2]; exact a4, by rw [(old F (by omega)).2]; exact a5, a6, fun F' S' hs hl => ?_⟩
      have hF' : F' < L.length := by unfold sb at hs; omega
      rw [(old F' hF').2] at hl ⊢
      exact a7 F' S' hs hl
  by_cases z : v < 0 ∨ v ∈ L
  · have e1 := mt_eq z
    have e2 : mx L X v T K = X := mx_eq z
    refine ⟨by rw [e1, e2]; exact h1, fun r hr => mt_sub (h2 r hr), fun t ht => way t (by rw [e1] at ht; exact ht), fun t ht => ?_, cl⟩
    rw [e1] at ht
    rw [e2]; exact h4 t ht
  · have zi : v ∉ L := fun q => z (Or.inr q)
    have v0 : 0 ≤ v := by omega
    have em := mt_new v0 zi
    have ex : mx L X v T K = X ++ [((T : Int), (K : Int))] := mx_new z
    have el : (mt L v).length = L.length + 1 := by rw [em, List.length_append]; rfl
    refine ⟨mx_len h1, fun r hr => mt_sub (h2 r hr), fun t ht => ?_, fun t ht => ?_, cl⟩
    · rw [el] at ht
      by_cases e : t = L.length
      · refine Or.inr ⟨T, K, by rw [ex, e, ← h1, xg_last], by omega, by unfold sb; omega, by rw [(old T hT).2]; exact hK, by rw [(old T hT).2, hv, e, em, gD_last], fun r hr q => ?_, fun F' S' hs hl q => ?_⟩
        · rw [e, em, gD_last] at q
          exact zi (by rw [← q]; exact h2 r hr)
        · have hF' : F' < L.length := by unfold sb at hs; omega
          rw [(old F' hF').2] at hl q
          rw [e, em, gD_last] at q
          exact zi (by rw [← q]; exact h5 F' S' hs hF' hl (by rw [q]; exact v0))
      · exact way t (by omega)
    · rw [el] at ht
      by_cases e : t + 1 = L.length
      · rw [(old t (by omega)).1, ex, show t + 1 = X.length from by omega, xg_last]
        rcases h3 t (by omega) with q | ⟨F, S, a1, a2, a3, -⟩
        · exact Or.inl (by rw [q.1]; show (-1 : Int) < (T : Int); omega)
        · rw [a1]
          unfold sb at a3
          unfold lx
          simp
          omega
      · rw [(old t (by omega)).1, (old (t + 1) (by omega)).1]
        exact h4 t (by omega)
theorem SX_f {C R R0 : MM} (hY : Rty C R0) (hH : Rhp C R) {L : List Int} {X rs : List (Int × Int)} {T : Nat} (h : SX C L X rs T 0) (hok : ∀ o ∈ L, hOk C o) (hT : T < L.length) (k : Nat) (hk : k ≤ lnN C (L.getD T 0)) : SX C (fm (slk C (L.getD T 0)) k L) (xf (slk C (L.getD T 0)) T L X k) rs T k := by
  induction k with
  | zero => exact h
  | succ k ih =>
    have := SX_s (v := slk C (L.getD T 0) k) (ih (by omega)) (Nat.lt_of_lt_of_le hT (fm_len _)) (by rw [fm_gD hT]; omega) (by rw [fm_gD hT]) (slk_sg hY hH (hok _ (gD_mem hT)) k (by omega))
    exact this
theorem SX_n {C : MM} {L : List Int} {X rs : List (Int × Int)} {T : Nat} (h : SX C L X rs T (lnN C (L.getD T 0))) : SX C L X rs (T + 1) 0 := by
  obtain ⟨h1, h2, h3, h4, h5⟩ := h
  refine ⟨h1, h2, fun t ht => ?_, h4, fun F S hs hF hS h0 => ?_⟩
  · rcases h3 t ht with q | ⟨F, S, a1, a2, a3, a4⟩
    · exact Or.inl q
    · exact Or.inr ⟨F, S, a1, a2, by unfold sb at a3 ⊢; omega, a4⟩
  · refine h5 F S ?_ hF hS h0
    unfold sb at hs ⊢
    by_cases e : F = T
    · subst e; exact Or.inr ⟨rfl, hS⟩
    · omega
theorem SX_b {C R R0 : MM} (hY : Rty C R0) (hH : Rhp C R) {rs : List (Int × Int)} (m : Nat) : ∀ (k : Nat) (L : List Int) (X : List (Int × Int)), SX C L X rs k 0 → (∀ o ∈ L, hOk C o) → ∃ k', SX C (bf (slk C) (lnN C) m k L) (xb C m k L X) rs k' 0 := by
  induction m with
  | zero => intro k L X h _; exact ⟨k, h⟩
  | succ m ih =>
    intro k L X h hok
    show ∃ k', SX C (if k < L.length then bf (slk C) (lnN C) m (k + 1) (fm (slk C (L.getD k 0)) (lnN C (L.getD k 0)) L) else L) (if k < L.length then xb C m (k + 1) (fm (slk C (L.getD k 0)) (lnN C (L.getD k 0)) L) (xf (slk C (L.getD k 0)) k L X (lnN C (L.getD k 0))) else X) rs k' 0
    by_cases z : k < L.length
    · rw [if_pos z, if_pos z]
      have hf := SX_f hY hH h hok z (lnN C (L.getD k 0)) (Nat.le_refl _)
      have ho := hok _ (gD_mem z)
      refine ih _ _ _ (SX_n ?_) (fm_ok _ hok (fun j hj => slk_lt hY hH ho hj))
      rw [fm_gD z]; exact hf
    · rw [if_neg z, if_neg z]; exact ⟨k, h⟩
theorem SX_wk {C R R0 : MM} (hY : Rty C R0) (hH : Rhp C R) : (∃ k, SX C (wkL C) (wkX C) (rtX C) k 0) ∧ (∀ r, r < (rtX C).length → (rtX C).getD r (0, 0) = (rtX C).getD r (0, 0) ∧ 0 ≤ ((rtX C).getD r (0, 0)).1 ∧ ((rtX C).getD r (0, 0)).1 < 108) ∧ ∀ r, r + 1 < (rtX C).length → ((rtX C).getD r (0, 0)).1 < ((rtX C).getD (r + 1) (0, 0)).1 := by
  obtain ⟨g1, g2, g3, g4, g5⟩ := hH.2.2.2.2.2.2.2.2.2.2.2.1
  have h0 := hY.2.1
  have h16 := hY.2.2.1
  obtain ⟨i1, i2⟩ := RX_st hY hH (6 * C 8 0).toNat (by omega)
  have nb := nS_bd C (6 * C 8 0).toNat
  refine ⟨SX_b hY hH 401 0 (rtL C) (xS C (6 * C 8 0).toNat) (SX_0 i1) (rtL_wl hY hH).2, fun r hr => ⟨rfl, (i1.2.1 r hr).2.1, ?_⟩, i1.2.2.1⟩
  have := (i1.2.1 r hr).2.2
  have e : rS C (6 * C 8 0).toNat = rtX C := rfl
  rw [e] at this
  omega
