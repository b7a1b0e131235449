/-! names and numbers -/
def kw (M : MM) (x W : Int) : Prop := (W = 2 ∧ ∀ j, 0 ≤ j → j < 29 → M 7 j ≠ x) ∨ ∃ k, 0 ≤ k ∧ k < 29 ∧ W = 30 + k ∧ M 7 k = x ∧ ∀ j, 0 ≤ j → j < k → M 7 j ≠ x
theorem fr_s (f : Int → Int → Int) (s : Int → Int) (a d b : Int) (h : a ≤ b) : fr f s a d (b + 1 - a).toNat = f (fr f s a d (b - a).toNat) (s b) := by
  rw [show (b + 1 - a).toNat = (b - a).toNat + 1 from by omega]
  show f _ (s (a + ((b - a).toNat : Nat))) = _
  rw [show a + (((b - a).toNat : Nat) : Int) = b from by omega]
theorem fr_0 (f : Int → Int → Int) (s : Int → Int) (a d : Int) : fr f s a d (a - a).toNat = d := by
  rw [show (a - a).toNat = 0 from by omega]
  rfl
set_option maxHeartbeats 400000 in
theorem p_scanName {Q : Int → MM → Prop} {M : MM} {a w p d : Int} (hT : okT M) (ha : 0 ≤ a) (ha2 : a ≤ M 1 1) (hp : 0 ≤ p) (hp2 : p ≤ a)
    (h : ∀ e W, span isY (M 2) (M 1 1) a e → ((10 < e - p ∧ W = 1) ∨ (e - p ≤ 10 ∧ kw M (fr f64 (M 2) a d (e - a).toNat) W)) → Q 0 (sc M e W p (fr f64 (M 2) a d (e - a).toNat))) : w_X9_scanName Q (sc M a w p d) := by
  obtain ⟨t1, t2, t3⟩ := hT
  have H65 : ∀ e, span isY (M 2) (M 1 1) a e → w_X9_scanName_b65 Q (sc M e w p (fr f64 (M 2) a d (e - a).toNat)) := by
    intro e he
    unfold w_X9_scanName_b65
    intro v1 e1 g1 v2 e2 g2
    rw [sc_at] at e1
    rw [sc_p] at e2
    subst e1 e2
    have he1 := he.1
    have he2 := he.2.1
    refine ⟨by unfold ri_; omega, fun z v5 e5 g5 => ?_, fun z M9 e9 => ?_⟩
    · rw [sc_d] at e5
      subst e5
      refine p_keyword (fun k k0 k1 k2 k3 g => ⟨fun _ => ?_, fun q => by omega⟩) (fun k0 g => ⟨fun q => absurd rfl q, fun _ => ?_⟩)
      · unfold w_X9_scanName_b105
        intro M1 e6
        rw [e6, sc_u9]
        refine h v1 _ he (Or.inr ⟨z, Or.inr ⟨k, k0, k1, rfl, ?_, ?_⟩⟩)
        · rw [← k2, sc_o _ _ _ _ _ (by decide)]
        · intro j j0 j1; have := k3 j j0 j1; rwa [sc_o _ _ _ _ _ (by decide)] at this
      · unfold w_X9_scanName_b105
        intro M1 e6
        rw [e6, sc_u9]
        refine h v1 _ he (Or.inr ⟨z, Or.inl ⟨rfl, ?_⟩⟩)
        intro j j0 j1; have := k0 j j0 j1; rwa [sc_o _ _ _ _ _ (by decide)] at this
    · rw [e9, sc_u9]
      exact h v1 1 he (Or.inl ⟨by omega, rfl⟩)
  have H : ∀ (m : Nat) (b : Int), a ≤ b → b ≤ M 1 1 → M 1 1 - b < m → (∀ i, a ≤ i → i < b → isY (M 2 i)) → jit (fun _ => False) (wb_X9_scanName_b0 Q) m (sc M b w p (fr f64 (M 2) a d (b - a).toNat)) := by
    intro m
    induction m with
    | zero => intro k h0 h4 hn hf; omega
    | succ m ih =>
      intro b b0 b1 hm hf
      show wb_X9_scanName_b0 Q (jit (fun _ => False) (wb_X9_scanName_b0 Q) m) (sc M b w p (fr f64 (M 2) a d (b - a).toNat))
      unfold wb_X9_scanName_b0
      intro v1 e1 g1 v2 e2 g2
      rw [sc_at] at e1
      rw [sc_1] at e2
      subst e1 e2
      refine ⟨fun z => H65 v1 ⟨b0, by omega, hf, fun q => by omega⟩, fun z v4 e4 g4 => ?_⟩
      rw [sc_at] at e4
      subst e4
      refine ⟨by omega, by omega, fun v5 e5 g5 => ?_⟩
      rw [sc_o _ _ _ _ _ (by decide)] at e5
      subst e5
      refine p_sym g5 fun _ => ⟨fun z2 => H65 v4 ⟨b0, by omega, hf, fun _ q => by have := sy_pos.mpr q; omega⟩, fun z2 v9 e9 g9 v10 e10 g10 => ?_⟩
      rw [sc_d] at e9
      rw [sc_at] at e10
      subst e9 e10
      refine ⟨by omega, by omega, fun v11 e11 g11 => ?_⟩
      rw [sc_o _ _ _ _ _ (by decide)] at e11
      subst e11
      refine p_sym g11 fun _ M14 e14 v15 e15 g15 => ?_
      rw [sc_u11] at e14
      subst e14
      rw [sc_at] at e15
      subst e15
      refine ⟨by unfold ri_; omega, fun M17 e17 => ?_⟩
      rw [sc_u4] at e17
      subst e17
      have := ih (v15 + 1) (by omega) (by omega) (by omega) (fun i i0 i1 => by
        by_cases q : i = v15
        · rw [q]; exact sy_pos.mp (by omega)
        · exact hf i i0 (by omega))
      rw [fr_s _ _ _ _ _ b0] at this
      exact this
  have := H (M 1 1 - a + 1).toNat a (by omega) ha2 (by omega) (fun i i0 i1 => by omega)
  rw [fr_0] at this
  exact ⟨_, this⟩
set_option maxHeartbeats 400000 in
theorem p_scanNumber {Q : Int → MM → Prop} {M : MM} {a w p d : Int} (hT : okT M) (ha : 0 ≤ a) (ha2 : a ≤ M 1 1) (hp : 0 ≤ p) (hp2 : p ≤ a)
    (h : ∀ e, span isD (M 2) (M 1 1) a e → Q 0 (sc M e (if 18 < e - p then 1 else 3) p (fr f10 (M 2) a d (e - a).toNat))) : w_X9_scanNumber Q (sc M a w p d) := by
  obtain ⟨t1, t2, t3⟩ := hT
  have H66 : ∀ e, span isD (M 2) (M 1 1) a e → w_X9_scanNumber_b66 Q (sc M e w p (fr f10 (M 2) a d (e - a).toNat)) := by
    intro e he
    unfold w_X9_scanNumber_b66 w_X9_scanNumber_b86
    intro v1 e1 g1 v2 e2 g2
    rw [sc_at] at e1
    rw [sc_p] at e2
    subst e1 e2
    have he1 := he.1
    have he2 := he.2.1
    have hh := h v1 he
    refine ⟨by unfold ri_; omega, fun z M1 e3 => ?_, fun z M1 e3 => ?_⟩
    · rw [if_neg (by omega)] at hh
      rw [e3, sc_u9]; exact hh
    · rw [if_pos (by omega)] at hh
      rw [e3, sc_u9]; exact hh
  have H : ∀ (m : Nat) (b : Int), a ≤ b → b ≤ M 1 1 → M 1 1 - b < m → (∀ i, a ≤ i → i < b → isD (M 2 i)) → jit (fun _ => False) (wb_X9_scanNumber_b0 Q) m (sc M b w p (fr f10 (M 2) a d (b - a).toNat)) := by
    intro m
    induction m with
    | zero => intro k h0 h4 hn hf; omega
    | succ m ih =>
      intro b b0 b1 hm hf
      show wb_X9_scanNumber_b0 Q (jit (fun _ => False) (wb_X9_scanNumber_b0 Q) m) (sc M b w p (fr f10 (M 2) a d (b - a).toNat))
      unfold wb_X9_scanNumber_b0
      intro v1 e1 g1 v2 e2 g2
      rw [sc_at] at e1
      rw [sc_1] at e2
      subst e1 e2
      refine ⟨fun z => H66 v1 ⟨b0, by omega, hf, fun q => by omega⟩, fun z v4 e4 g4 => ?_⟩
      rw [sc_at] at e4
      subst e4
      refine ⟨by omega, by omega, fun v5 e5 g5 => ?_⟩
      rw [sc_o _ _ _ _ _ (by decide)] at e5
      subst e5
      refine p_dig (fun zd _ => ⟨fun q => by omega, fun z2 v9 e9 g9 v10 e10 g10 => ?_⟩) (fun zd _ => ⟨fun _ => H66 v4 ⟨b0, by omega, hf, fun _ => zd⟩, fun q => by omega⟩)
      rw [sc_d] at e9
      rw [sc_at] at e10
      subst e9 e10
      refine ⟨by omega, by omega, fun v11 e11 g11 M12 e12 v13 e13 g13 => ?_⟩
      rw [sc_o _ _ _ _ _ (by decide)] at e11
      subst e11
      rw [sc_u11] at e12
      subst e12
      rw [sc_at] at e13
      subst e13
      refine ⟨by unfold ri_; omega, fun M15 e15 => ?_⟩
      rw [sc_u4] at e15
      subst e15
      have := ih (v13 + 1) (by omega) (by omega) (by omega) (fun i i0 i1 => by
        by_cases q : i = v13
        · rw [q]; exact zd
        · exact hf i i0 (by omega))
      rw [fr_s _ _ _ _ _ b0] at this
      exact this
  have := H (M 1 1 - a + 1).toNat a (by omega) ha2 (by omega) (fun i i0 i1 => by omega)
  rw [fr_0] at this
  exact ⟨_, this⟩
