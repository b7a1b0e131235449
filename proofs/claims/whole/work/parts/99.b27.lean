/-! dominators: the class, whole -/
def FG (C M : MM) (c : Nat) (b : Int) (S : Nat → Prop) : Prop := (∀ k, k ≠ c + 18 → ¬ S k → M k = C k) ∧ (∀ i, i ≠ 1 → M (c + 18) i = C (c + 18) i) ∧ M (c + 18) 1 = jor (C (c + 18) 1) b
theorem HD_hs {C : MM} {c : Nat} (h : HD C c) (t : Nat) (ht : (t : Int) ≤ C c 0) : C (c + 19) t = hs C c t := by
  induction t with
  | zero => exact h.1
  | succ t ih =>
    have := (h.2 t (by omega) (by omega)).1
    rw [show (((t + 1 : Nat)) : Int) = (t : Int) + 1 from by omega, this, ih (by omega), hs_s]
theorem sk_bd {P : Int → Prop} {w : Int → Int} (n : Nat) (h : ∀ t : Int, 0 ≤ t → t < n → 0 ≤ w t ∧ w t ≤ 8000) : 0 ≤ sk P w n ∧ sk P w n ≤ 8000 * n := by
  induction n with
  | zero => exact ⟨Int.le_refl _, Int.le_refl _⟩
  | succ n ih =>
    have i := ih fun t a b => h t a (by omega)
    have hn := h n (by omega) (by omega)
    by_cases z : P n
    · rw [(sk_s n).1 z]; omega
    · rw [(sk_s n).2 z]; omega
theorem sk_or {P P1 P2 : Int → Prop} {w : Int → Int} (n : Nat) (h : ∀ t : Int, 0 ≤ t → t < n → (P t ↔ P1 t ∨ P2 t) ∧ ¬ (P1 t ∧ P2 t)) : sk P w n = sk P1 w n + sk P2 w n := by
  induction n with
  | zero => rfl
  | succ n ih =>
    have i := ih fun t a b => h t a (by omega)
    obtain ⟨h1, h2⟩ := h n (by omega) (by omega)
    by_cases z1 : P1 n
    · have z2 : ¬ P2 n := fun q => h2 ⟨z1, q⟩
      rw [(sk_s n).1 (h1.mpr (Or.inl z1)), (sk_s n).1 z1, (sk_s n).2 z2, i]; omega
    · by_cases z2 : P2 n
      · rw [(sk_s n).1 (h1.mpr (Or.inr z2)), (sk_s n).2 z1, (sk_s n).1 z2, i]; omega
      · rw [(sk_s n).2 (fun q => by rcases h1.mp q with y | y; exact z1 y; exact z2 y), (sk_s n).2 z1, (sk_s n).2 z2, i]
theorem sk_one {P : Int → Prop} {w : Int → Int} (x : Int) (n : Nat) (h : ∀ t : Int, 0 ≤ t → t < n → (P t ↔ t = x)) : sk P w n = if 0 ≤ x ∧ x < n then w x else 0 := by
  induction n with
  | zero => rw [if_neg (by omega)]; rfl
  | succ n ih =>
    have i := ih fun t a b => h t a (by omega)
    have hn := h n (by omega) (by omega)
    by_cases z : x = n
    · rw [(sk_s n).1 (hn.mpr z.symm), i, if_neg (by omega), if_pos (by omega), z]; omega
    · rw [(sk_s n).2 (fun q => z (hn.mp q).symm), i]
      by_cases y : 0 ≤ x ∧ x < n
      · rw [if_pos y, if_pos (by omega)]
      · rw [if_neg y, if_neg (by omega)]
theorem rk_sk (P : Int → Prop) (n : Nat) : rk P n = sk P (fun _ => 1) n := by
  induction n with
  | zero => rfl
  | succ n ih =>
    by_cases z : P n
    · rw [(rk_s n).1 z, (sk_s n).1 z, ih]
    · rw [(rk_s n).2 z, (sk_s n).2 z, ih]
/-- what has been handed up, down to τ -/
def up_ (δ : Int → Int) (τ x y : Int) : Prop := ca δ y x ∧ ∀ z, ca δ y z → x < z → τ < z
theorem up_1 {δ : Int → Int} {n τ x y : Int} (hw : oW δ n) (ha : ∀ t, 0 ≤ t → t < n → δ t ≠ -2) (t0 : 0 ≤ τ) (t1 : τ < n) (y0 : 0 ≤ y) (y1 : y < n) (hx : x ≠ δ τ) (x0 : 0 ≤ x) : up_ δ (τ - 1) x y ↔ up_ δ τ x y := by
  have hy : oS_ δ n y := Or.inr ⟨y0, y1, ha y y0 y1⟩
  have ht : oS_ δ n τ := Or.inr ⟨t0, t1, ha τ t0 t1⟩
  constructor
  · rintro ⟨a, b⟩
    refine ⟨a, fun z hz hxz => ?_⟩
    have := b z hz hxz
    by_cases e : z = τ
    · exfalso
      rw [e] at hz hxz
      have q := ca_o hw (y + 1).toNat y x τ hy (by omega) a hz (by omega)
      rw [ca_c t0] at q
      rcases q with q | q
      · omega
      · have hm : oS_ δ n (δ τ) ∧ δ τ < τ := by
          rcases hw τ t0 t1 with q' | ⟨q1, q2, q3⟩
          · exact absurd q' (ha τ t0 t1)
          · refine ⟨?_, q2⟩
            by_cases z : δ τ = -1
            · exact Or.inl z
            · exact Or.inr ⟨by omega, by omega, q3 (by omega)⟩
        have h1 := (ca_l hw hm.1 q).2
        have h2 := b (δ τ) (ca_t hz ((ca_c t0).mpr (Or.inr (ca_r _ _)))) (by omega)
        omega
    · omega
  · rintro ⟨a, b⟩
    exact ⟨a, fun z hz hxz => by have := b z hz hxz; omega⟩
theorem up_2 {δ : Int → Int} {n τ y : Int} (hw : oW δ n) (ha : ∀ t, 0 ≤ t → t < n → δ t ≠ -2) (t0 : 0 ≤ τ) (t1 : τ < n) (y0 : 0 ≤ y) (y1 : y < n) (hm0 : 0 ≤ δ τ) : (up_ δ (τ - 1) (δ τ) y ↔ up_ δ τ (δ τ) y ∨ up_ δ τ τ y) ∧ ¬ (up_ δ τ (δ τ) y ∧ up_ δ τ τ y) := by
  have hy : oS_ δ n y := Or.inr ⟨y0, y1, ha y y0 y1⟩
  have hm : oS_ δ n (δ τ) ∧ δ τ < τ := by
    rcases hw τ t0 t1 with q' | ⟨q1, q2, q3⟩
    · exact absurd q' (ha τ t0 t1)
    · exact ⟨Or.inr ⟨by omega, by omega, q3 (by omega)⟩, q2⟩
  refine ⟨⟨?_, ?_⟩, ?_⟩
  · rintro ⟨a, b⟩
    by_cases h : ca δ y τ
    · exact Or.inr ⟨h, fun z _ q => q⟩
    · refine Or.inl ⟨a, fun z hz hxz => ?_⟩
      have := b z hz hxz
      by_cases e : z = τ
      · rw [e] at hz; exact absurd hz h
      · omega
  · rintro (⟨a, b⟩ | ⟨a, -⟩)
    · exact ⟨a, fun z hz hxz => by have := b z hz hxz; omega⟩
    · refine ⟨ca_t a ((ca_c t0).mpr (Or.inr (ca_r _ _))), fun z hz hxz => ?_⟩
      by_cases q : z < τ
      · have := ca_o hw (y + 1).toNat y z τ hy (by omega) hz a (by omega)
        rw [ca_c t0] at this
        rcases this with w | w
        · omega
        · have := (ca_l hw hm.1 w).2; omega
      · omega
  · rintro ⟨⟨-, b⟩, a, -⟩
    have := b τ a hm.2
    omega
set_option maxHeartbeats 1000000 in
theorem p_needDominators {Q : Int → MM → Prop} {C R0 : MM} {c : Nat} (hY : Rty C R0) (hwp : PW C c) (hc : 25 < c) (hH : HD C c) (h0 : jand (C (c + 18) 1) 2 ≠ 0 → Q 0 C) (h1 : jand (C (c + 18) 1) 2 = 0 → ∀ M, FG C M c 2 (fun k => k = c + 22 ∨ k = c + 23 ∨ k = c + 24) → DTf C c (M (c + 22)) (M (c + 23)) (M (c + 24)) → Q 0 M) : w_X8_needDominators (c + 18) c Q C := by
  have n0 := hwp.1
  have n4 := hwp.2.1
  unfold w_X8_needDominators
  intro v1 g1 _
  rw [g1]
  refine ⟨fun z => ?_, h0⟩
  intro v3 g3 _ M4 e4 v5 g5 _
  have f4 : ∀ k, k ≠ c + 18 → M4 k = C k := fun k hk => funext fun i => by rw [e4, ux_c _ _ _ _ hk]
  have s4 : (∀ i, i ≠ 1 → M4 (c + 18) i = C (c + 18) i) ∧ M4 (c + 18) 1 = jor (C (c + 18) 1) 2 := ⟨fun i hi => by rw [e4, ux_i _ _ _ hi], by rw [e4, ux_s, g3]⟩
  rw [f4 c (by omega)] at g5
  subst g5
  have hE : ∀ u v, pE C c u v → 0 ≤ u ∧ u < C c 0 ∧ 0 ≤ v ∧ v < C c 0 := fun u v h => ⟨h.1, h.2.1, (pE_in hwp h).1, (pE_in hwp h).2⟩
  have hZ : ∀ v, pZ C c v → 0 ≤ v ∧ v < C c 0 := fun v h => pZ_in hwp h
  -- a way: a root, or a holder that comes ahead
  have way : ∀ t, 0 ≤ t → t < C c 0 → pZ C c t ∨ ∃ h, pE C c h t ∧ 0 ≤ h ∧ h < t := by
    intro t t0 t1
    obtain ⟨a1, -, -, a4⟩ := hwp.2.2.2.2.2.2.2.2.2.2.2.2.1 t t0 t1
    rcases a1 with ⟨-, r, b1, b2, b3, -⟩ | ⟨b1, b2, b3, b4, b5, -⟩
    · exact Or.inl ⟨r, b1, b2, b3⟩
    · exact Or.inr ⟨_, ⟨b1, b2, t0, _, b3, b4, b5⟩, b1, by omega⟩
  -- the tables of holders stand
  have hh : ∀ M, FG C M c 2 (fun k => k = c + 22 ∨ k = c + 23 ∨ k = c + 24) → M (c + 19) = C (c + 19) ∧ M (c + 20) = C (c + 20) ∧ (∀ k, k ≤ c + 12 → M k = C k) := fun M h => ⟨h.1 _ (by omega) (by omega), h.1 _ (by omega) (by omega), fun k hk => h.1 k (by omega) (by omega)⟩
  have hsb := hs_bd hY hwp
  -- kept and dominated are summed up
  have fin : ∀ M, FG C M c 2 (fun k => k = c + 22 ∨ k = c + 23 ∨ k = c + 24) → oW (M (c + 22)) (C c 0) → (∀ t, 0 ≤ t → t < C c 0 → M (c + 22) t ≠ -2) → (∀ x d, 0 ≤ x → x < C c 0 → 0 ≤ d → (ca (M (c + 22)) x d ↔ dm C c d x)) → w_X8_needDominators_b105 (c + 18) c Q M := by
    intro M hF hw ha hd
    have hm : ∀ t, 0 ≤ t → t < C c 0 → oS_ (M (c + 22)) (C c 0) (M (c + 22) t) ∧ M (c + 22) t < t := by
      intro t t0 t1
      rcases hw t t0 t1 with q | ⟨q1, q2, q3⟩
      · exact absurd q (ha t t0 t1)
      · refine ⟨?_, q2⟩
        by_cases z : M (c + 22) t = -1
        · exact Or.inl z
        · exact Or.inr ⟨by omega, by omega, q3 (by omega)⟩
    have szb : ∀ t : Int, 0 ≤ t → t < C c 0 → 0 ≤ szt C c t ∧ szt C c t ≤ 8000 := fun t t0 t1 => by
      obtain ⟨-, -, a3, -, a5, a6, -⟩ := hwp.2.2.2.1 t t0 t1
      exact sz_bd hY a3 a5 a6
    have nn : (((C c 0).toNat : Nat) : Int) = C c 0 := by omega
    have last : ∀ M1, FG C M1 c 2 (fun k => k = c + 22 ∨ k = c + 23 ∨ k = c + 24) → M1 (c + 22) = M (c + 22) → (∀ t, 0 ≤ t → t < C c 0 → M1 (c + 23) t = szt C c t ∧ M1 (c + 24) t = 1) → w_X8_needDominators_b160 (c + 18) c Q (C c 0 - 1) M1 := by
      intro M1 hF1 e22 hk
      refine loop2 _ (fun (τ : Int) M2 => -1 ≤ τ ∧ τ < C c 0 ∧ FG C M2 c 2 (fun k => k = c + 22 ∨ k = c + 23 ∨ k = c + 24) ∧ M2 (c + 22) = M (c + 22) ∧ ∀ t, 0 ≤ t → t < C c 0 → M2 (c + 23) t = sk (up_ (M (c + 22)) τ t) (szt C c) (C c 0).toNat ∧ M2 (c + 24) t = sk (up_ (M (c + 22)) τ t) (fun _ => 1) (C c 0).toNat) (fun (τ : Int) _ => (τ + 1).toNat) ?_ _ _ ⟨by omega, by omega, hF1, e22, fun t t0 t1 => ?_⟩
      · rintro τ M2 f ⟨τ0, τ1, hF2, e2, k2⟩ ih
        unfold wb_X8_needDominators_b160
        refine ⟨fun z2 => ?_, fun z2 => ⟨by omega, by omega, fun v2 g2 _ => ?_⟩⟩
        · refine h1 z M2 hF2 fun t t0 t1 => ?_
          have et : τ = -1 := by omega
          rw [et] at k2
          have key : ∀ y : Int, 0 ≤ y → y < ((C c 0).toNat : Nat) → (up_ (M (c + 22)) (-1) t y ↔ dm C c t y) := fun y y0 y1 => by
            rw [← hd y t y0 (by omega) t0]
            exact ⟨fun q => q.1, fun q => ⟨q, fun z _ hz => by omega⟩⟩
          refine ⟨?_, ?_, ?_⟩
          · rw [e2]
            obtain ⟨m1, m2⟩ := hm t t0 t1
            by_cases y : M (c + 22) t = -1
            · rw [y]
              refine Or.inl ⟨rfl, fun d d0 d1 d2 q => ?_⟩
              rw [← hd t d t0 t1 d0, ca_c t0, y, ca_n] at q
              rcases q with q | q
              · exact d2 q
              · omega
            · have m0 : 0 ≤ M (c + 22) t := by rcases m1 with q | q <;> omega
              refine Or.inr ⟨m0, by omega, by omega, (hd t _ t0 t1 m0).mp ((ca_c t0).mpr (Or.inr (ca_r _ _))), fun d d0 d1 d2 q => ?_⟩
              rw [← hd t d t0 t1 d0, ca_c t0] at q
              rcases q with q | q
              · exact absurd q d2
              · by_cases e : d = M (c + 22) t
                · rw [e]; exact Or.inr ⟨rfl, Int.le_refl _⟩
                · refine Or.inl ?_
                  have hlt := ca_s hw m1 q e
                  have c1 : ∀ x, 0 ≤ x → cD C c x = rk (fun y => ca (M (c + 22)) y x) (C c 0).toNat := fun x x0 => rk_c _ fun y y0 y1 => (hd y x y0 (by omega) x0).symm
                  rw [c1 _ m0, c1 _ d0]
                  refine (rk_lt (P := fun y => ca (M (c + 22)) y (M (c + 22) t)) (P' := fun y => ca (M (c + 22)) y d) _ (fun y hy => ca_t hy q)).2 d d0 (by omega) (ca_r _ _) fun hy => ?_
                  have := (ca_l hw (Or.inr ⟨d0, d1, ha d d0 d1⟩) hy).2
                  omega
          · rw [(k2 t t0 t1).1]
            exact sk_c _ fun y y0 y1 => ⟨key y y0 y1, rfl⟩
          · rw [(k2 t t0 t1).2, ← rk_sk]
            exact rk_c _ fun y y0 y1 => key y y0 y1
        · have g2' : v2 = M (c + 22) τ := by rw [← e2]; exact g2
          have τ00 : 0 ≤ τ := by omega
          obtain ⟨m1, m2⟩ := hm τ τ00 τ1
          refine ⟨fun z3 => ?_, fun z3 => ⟨by omega, by omega, fun v4 g4 _ => ?_⟩⟩
          · unfold w_X8_needDominators_b213
            refine ⟨by unfold ri_; omega, ih _ _ ⟨by omega, by omega, hF2, e2, fun t t0 t1 => ?_⟩ (by omega)⟩
            rw [show τ + (-1) = τ - 1 from by omega, (k2 t t0 t1).1, (k2 t t0 t1).2]
            exact ⟨(sk_c _ fun y y0 y1 => ⟨(up_1 hw ha τ00 τ1 y0 (by omega) (by omega) t0).symm, rfl⟩), (sk_c _ fun y y0 y1 => ⟨(up_1 hw ha τ00 τ1 y0 (by omega) (by omega) t0).symm, rfl⟩)⟩
          · have g4' : v4 = M (c + 22) τ := by rw [← e2]; exact g4
            have m0 : 0 ≤ v4 := by rw [g4', ← g2']; omega
            have bs : ∀ P, 0 ≤ sk P (szt C c) (C c 0).toNat ∧ sk P (szt C c) (C c 0).toNat ≤ 3200000 := fun P => by
              have := sk_bd (P := P) (w := szt C c) (C c 0).toNat (fun t a b => szb t a (by omega))
              omega
            have bk : ∀ P, 0 ≤ sk P (fun _ => 1) (C c 0).toNat ∧ sk P (fun _ => 1) (C c 0).toNat ≤ 400 := fun P => by
              have := rk_bd P (C c 0).toNat
              rw [rk_sk] at this
              omega
            have a1 := k2 v4 m0 (by omega)
            have a2 := k2 τ τ00 τ1
            refine ⟨m0, by omega, fun v5 g5 _ => ⟨τ00, by omega, fun v6 g6 _ => ?_⟩⟩
            have g5' : v5 = sk (up_ (M (c + 22)) τ v4) (szt C c) (C c 0).toNat := by rw [← a1.1]; exact g5
            have g6' : v6 = sk (up_ (M (c + 22)) τ τ) (szt C c) (C c 0).toNat := by rw [← a2.1]; exact g6
            have b5 := bs (up_ (M (c + 22)) τ v4)
            have b6 := bs (up_ (M (c + 22)) τ τ)
            refine ⟨by unfold ri_; omega, m0, by omega, fun M8 e8 => ⟨τ00, by omega, fun v9 g9 _ => ?_⟩⟩
            have g9' : v9 = v4 := by rw [g9, e8, ux_c _ _ _ _ (by omega)]; exact g4.symm
            subst g9'
            refine ⟨m0, by omega, fun v10 g10 _ => ⟨τ00, by omega, fun v11 g11 _ => ?_⟩⟩
            have g10' : v10 = sk (up_ (M (c + 22)) τ v9) (fun _ => 1) (C c 0).toNat := by rw [← a1.2, g10, e8, ux_c _ _ _ _ (by omega)]
            have g11' : v11 = sk (up_ (M (c + 22)) τ τ) (fun _ => 1) (C c 0).toNat := by rw [← a2.2, g11, e8, ux_c _ _ _ _ (by omega)]
            have b10 := bk (up_ (M (c + 22)) τ v9)
            have b11 := bk (up_ (M (c + 22)) τ τ)
            refine ⟨by unfold ri_; omega, m0, by omega, fun M13 e13 => ?_⟩
            unfold w_X8_needDominators_b213
            refine ⟨by unfold ri_; omega, ih _ _ ⟨by omega, by omega, ⟨fun k p1 p2 => funext fun i => by rw [e13, e8, ux_c _ _ _ _ (by omega), ux_c _ _ _ _ (by omega), hF2.1 k p1 p2], fun i hi => by rw [e13, e8, ux_c _ _ _ _ (by omega), ux_c _ _ _ _ (by omega), hF2.2.1 i hi], by rw [e13, e8, ux_c _ _ _ _ (by omega), ux_c _ _ _ _ (by omega), hF2.2.2]⟩, funext fun i => by rw [e13, e8, ux_c _ _ _ _ (by omega), ux_c _ _ _ _ (by omega), e2], fun t t0 t1 => ?_⟩ (by omega)⟩
            rw [show τ + (-1) = τ - 1 from by omega]
            have y23 : M13 (c + 23) t = if t = v9 then v5 + v6 else M2 (c + 23) t := by
              rw [e13, ux_c _ _ _ _ (by omega), e8, show c + 18 + 5 = c + 23 from by omega]
              by_cases y : t = v9
              · rw [if_pos y, y, ux_s]
              · rw [if_neg y, ux_i _ _ _ y]
            have y24 : M13 (c + 24) t = if t = v9 then v10 + v11 else M2 (c + 24) t := by
              rw [e13, show c + 18 + 6 = c + 24 from by omega]
              by_cases y : t = v9
              · rw [if_pos y, y, ux_s]
              · rw [if_neg y, ux_i _ _ _ y, e8, ux_c _ _ _ _ (by omega)]
            rw [y23, y24]
            by_cases y : t = v9
            · rw [if_pos y, if_pos y, y, g5', g6', g10', g11', g4']
              have u2 : ∀ x : Int, 0 ≤ x → x < ((C c 0).toNat : Nat) → _ := fun x x0 x1 => up_2 hw ha τ00 τ1 (y := x) x0 (by omega) (by rw [← g4']; exact m0)
              exact ⟨(sk_or _ u2).symm, (sk_or _ u2).symm⟩
            · rw [if_neg y, if_neg y, (k2 t t0 t1).1, (k2 t t0 t1).2]
              exact ⟨(sk_c _ fun x x0 x1 => ⟨(up_1 hw ha τ00 τ1 x0 (by omega) (by rw [← g4']; exact y) t0).symm, rfl⟩), (sk_c _ fun x x0 x1 => ⟨(up_1 hw ha τ00 τ1 x0 (by omega) (by rw [← g4']; exact y) t0).symm, rfl⟩)⟩
      · have key : ∀ y : Int, 0 ≤ y → y < ((C c 0).toNat : Nat) → (up_ (M (c + 22)) (C c 0 - 1) t y ↔ y = t) := fun y y0 y1 => by
          constructor
          · rintro ⟨a, b⟩
            have q := (ca_l hw (Or.inr ⟨y0, by omega, ha y y0 (by omega)⟩) a).2
            by_cases e : y = t
            · exact e
            · have := b y (ca_r _ _) (by omega); omega
          · rintro rfl
            refine ⟨ca_r _ _, fun w hw' hlt => ?_⟩
            have q := (ca_l hw (Or.inr ⟨y0, by omega, ha y y0 (by omega)⟩) hw').2
            omega
        rw [sk_one t _ key, sk_one t _ key, if_pos (by omega), if_pos (by omega)]
        exact hk t t0 t1
    unfold w_X8_needDominators_b105
    refine loop2 _ (fun (x : Int) M1 => 0 ≤ x ∧ x ≤ C c 0 ∧ FG C M1 c 2 (fun k => k = c + 22 ∨ k = c + 23 ∨ k = c + 24) ∧ M1 (c + 22) = M (c + 22) ∧ ∀ t, 0 ≤ t → t < x → M1 (c + 23) t = szt C c t ∧ M1 (c + 24) t = 1) (fun (x : Int) _ => (C c 0 - x).toNat) ?_ _ _ ⟨by omega, n0, hF, rfl, fun t a b => by omega⟩
    rintro x M1 f ⟨x0, x1, hF1, e1, k1⟩ ih
    have hb := (hh M1 hF1).2.2
    unfold wb_X8_needDominators_b107
    intro v1 g1 _
    rw [hb c (by omega)] at g1
    subst g1
    refine ⟨fun z2 => ?_, fun z2 => ⟨x0, by omega, fun v5 g5 _ => ⟨x0, by omega, fun v6 g6 _ => ?_⟩⟩⟩
    · intro v3 g3 _
      rw [hb c (by omega)] at g3
      rw [g3]
      exact ⟨by unfold ri_; omega, last M1 hF1 e1 fun t t0 t1 => k1 t t0 (by omega)⟩
    · rw [hb (c + 2) (by omega)] at g5
      rw [hb (c + 3) (by omega)] at g6
      obtain ⟨-, -, a3, -, a5, a6, -⟩ := hwp.2.2.2.1 x x0 (by omega)
      have hY1 : Rty M1 R0 := Rty_C hY fun k a b => hb k (by omega)
      have es : sz M1 v5 v6 = szt C c x := by
        unfold szt sz kA
        rw [g5, g6, hb 17 (by omega), hb 24 (by omega)]
      refine p_sizeOf hY1 (by rw [g5, hb 8 (by omega)]; exact a3) (by rw [g6]; exact a5) (by rw [g6]; exact a6) ?_
      rw [es]
      refine fun _ => ⟨x0, by omega, fun M9 e9 => ⟨x0, by omega, fun M10 e10 => ⟨by unfold ri_; omega, ih _ _ ⟨by omega, by omega, ⟨fun k p1 p2 => funext fun i => by rw [e10, e9, ux_c _ _ _ _ (by omega), ux_c _ _ _ _ (by omega), hF1.1 k p1 p2], fun i hi => by rw [e10, e9, ux_c _ _ _ _ (by omega), ux_c _ _ _ _ (by omega), hF1.2.1 i hi], by rw [e10, e9, ux_c _ _ _ _ (by omega), ux_c _ _ _ _ (by omega), hF1.2.2]⟩, funext fun i => by rw [e10, e9, ux_c _ _ _ _ (by omega), ux_c _ _ _ _ (by omega), e1], fun t t0 t1 => ?_⟩ (by omega)⟩⟩⟩
      have y23 : M10 (c + 23) t = if t = x then szt C c x else M1 (c + 23) t := by
        rw [e10, ux_c _ _ _ _ (by omega), e9, show c + 18 + 5 = c + 23 from by omega]
        by_cases y : t = x
        · rw [if_pos y, y, ux_s]
        · rw [if_neg y, ux_i _ _ _ y]
      have y24 : M10 (c + 24) t = if t = x then 1 else M1 (c + 24) t := by
        rw [e10, show c + 18 + 6 = c + 24 from by omega]
        by_cases y : t = x
        · rw [if_pos y, y, ux_s]
        · rw [if_neg y, ux_i _ _ _ y, e9, ux_c _ _ _ _ (by omega)]
      rw [y23, y24]
      by_cases y : t = x
      · rw [if_pos y, if_pos y, y]; exact ⟨rfl, rfl⟩
      · rw [if_neg y, if_neg y]; exact k1 t t0 (by omega)
  -- the passes
  refine p_fillR (by omega) (by omega) n0 (by omega) ?_
  have fF : FG C (filled M4 (c + 18 + 4) 0 (C c 0) (-2)) c 2 (fun k => k = c + 22 ∨ k = c + 23 ∨ k = c + 24) := ⟨fun k p1 p2 => funext fun i => by unfold filled; rw [if_neg (by omega), f4 k p1], fun i hi => by unfold filled; rw [if_neg (by omega)]; exact s4.1 i hi, by unfold filled; rw [if_neg (by omega)]; exact s4.2⟩
  have f22 : ∀ t, 0 ≤ t → t < C c 0 → filled M4 (c + 18 + 4) 0 (C c 0) (-2) (c + 22) t = -2 := fun t t0 t1 => by unfold filled; rw [if_pos (by omega)]
  refine loop3 _ (fun (ch k : Int) M1 => 0 ≤ k ∧ k ≤ 1000000 ∧ FG C M1 c 2 (fun k => k = c + 22 ∨ k = c + 23 ∨ k = c + 24) ∧ (k = 0 → ch = 1) ∧ (0 < k → ∀ t, 0 ≤ t → t < C c 0 → M1 (c + 22) t ≠ -2) ∧ (ch = 0 → ∀ t, 0 ≤ t → t < C c 0 → (pZ C c t → M1 (c + 22) t = -1) ∧ ∀ h, pE C c h t → h ≠ t → M1 (c + 22) h ≠ -2 → ca (M1 (c + 22)) h (M1 (c + 22) t)) ∧ ∃ D, dJ (pE C c) (pZ C c) (C c 0) (M1 (c + 22)) D ∧ dK (pE C c) (pZ C c) (C c 0) D k.toNat) (fun (ch k : Int) _ => (1000000 - k).toNat) ?_ _ _ _ ⟨by omega, by omega, fF, fun _ => rfl, fun q => by omega, fun q => by omega, fun x d => 0 ≤ d ∧ d < x, ?_, fun x d _ _ _ i hi => by omega⟩
  · rintro ch k M1 f ⟨k0, k1, hF1, c0, ks, cf, D, hJ, hK⟩ ih
    unfold wb_X8_needDominators_b38
    refine ⟨fun z2 => ?_, fun z2 => ⟨fun z3 => ?_, fun z3 => ?_⟩⟩
    · refine fin M1 hF1 hJ.w (ks (by omega)) fun x d x0 x1 d0 => ⟨fun q => ?_, fun q => hJ.lo x d x0 x1 (ks (by omega) x x0 x1) q⟩
      by_cases e : d = x
      · rw [e]; exact fun y => rc_s y rfl
      · intro y
        have hD := hJ.j x d x0 x1 (ks (by omega) x x0 x1) q d0 e
        exact hK x d x0 x1 hD (C c 0).toNat (by omega) (rch_all (fun u v h => ⟨(hE u v h).2.2.1, by have := (hE u v h).2.2.2; omega⟩) (fun v h => ⟨(hZ v h).1, by have := (hZ v h).2; omega⟩) y)
    · have k00 : 0 < k := by
        by_cases e : k = 0
        · have := c0 e; omega
        · omega
      refine fin M1 hF1 hJ.w (ks k00) fun x d x0 x1 d0 => ⟨fun q => ?_, fun q => hJ.lo x d x0 x1 (ks k00 x x0 x1) q⟩
      exact dJ_fix hJ.w hE hZ (fun t t0 t1 => ⟨ks k00 t t0 t1, (cf z3 t t0 t1).1, fun h h1 h2 => (cf z3 t t0 t1).2 h h1 h2 (ks k00 h (hE h t h1).1 (hE h t h1).2.1)⟩) d0 q
    · -- one pass
      refine loop4 _ (fun (ch2 k2 τ : Int) M2 => k = k2 ∧ 0 ≤ τ ∧ τ ≤ C c 0 ∧ FG C M2 c 2 (fun k => k = c + 22 ∨ k = c + 23 ∨ k = c + 24) ∧ (ch2 = 0 ∨ ch2 = 1) ∧ (0 < k → ∀ t, 0 ≤ t → t < C c 0 → M2 (c + 22) t ≠ -2) ∧ (∀ t, 0 ≤ t → t < τ → M2 (c + 22) t ≠ -2) ∧ (ch2 = 0 → ∀ t, 0 ≤ t → t < τ → (pZ C c t → M2 (c + 22) t = -1) ∧ ∀ h, pE C c h t → h ≠ t → M2 (c + 22) h ≠ -2 → ca (M2 (c + 22)) h (M2 (c + 22) t)) ∧ ∃ D, dJ (pE C c) (pZ C c) (C c 0) (M2 (c + 22)) D ∧ dK (pE C c) (pZ C c) (C c 0) D k.toNat ∧ ∀ x d, 0 ≤ x → x < τ → D x d → ∀ i, i < k.toNat + 1 → ¬ rch (pE C c) (pZ C c) (fun y => y ≠ d) i x) (fun (ch2 k2 τ : Int) _ => (C c 0 - τ).toNat) ?_ _ _ _ _ ⟨rfl, by omega, n0, hF1, Or.inl rfl, ks, fun t a b => by omega, fun _ t a b => by omega, D, hJ, hK, fun x d a b => by omega⟩
      rintro ch2 k2 τ M2 g ⟨rfl, τ0, τ1, hF2, hch, ks2, kt, cf2, D2, hJ2, hK2, hT2⟩ ih2
      obtain ⟨e19, e20, hb⟩ := hh M2 hF2
      unfold wb_X8_needDominators_b53
      intro v1 g1 _
      rw [hb c (by omega)] at g1
      subst g1
      refine ⟨fun z4 => ?_, fun z4 => ?_⟩
      · have eτ : τ = C c 0 := by omega
        refine ⟨by unfold ri_; omega, ih _ _ _ ⟨by omega, by omega, hF2, fun q => by omega, fun _ t a b => kt t a (by omega), fun q t a b => cf2 q t a (by omega), D2, hJ2, ?_⟩ (by omega)⟩
        rw [show (k + 1).toNat = k.toNat + 1 from by omega]
        intro x d x0 x1 hD i hi
        exact hT2 x d x0 (by omega) hD i hi
      · have τ2 : τ < C c 0 := by omega
        have hv : pZ C c τ ∨ ∃ h, pE C c h τ ∧ h ≠ τ ∧ M2 (c + 22) h ≠ -2 := by
          rcases way τ τ0 τ2 with q | ⟨h, q1, q2, q3⟩
          · exact Or.inl q
          · exact Or.inr ⟨h, q1, by omega, kt h q2 q3⟩
        have hD := hH.2 τ τ0 τ2
        have s1 := HD_hs hH τ.toNat (by omega)
        have s2 := HD_hs hH (τ.toNat + 1) (by omega)
        rw [show ((τ.toNat : Nat) : Int) = τ from by omega] at s1
        rw [show ((τ.toNat + 1 : Nat) : Int) = τ + 1 from by omega] at s2
        have m0 := hs_m C c 0 τ.toNat (by omega)
        have m1 := hs_m C c (τ.toNat + 1) (C c 0).toNat (by omega)
        have z0 : hs C c 0 = 0 := rfl
        refine p_commonDominator hwp τ0 τ2 hJ2.w (by rw [e19]; exact hD.1) (fun j hj => by rw [e19, e20]; exact (hD.2 j hj).1) (by rw [e19]; omega) (by rw [e19]; omega) hv fun m w1 w2 w3 w4 => ?_
        have hmt : m < τ := by
          rcases way τ τ0 τ2 with q | ⟨h, q1, q2, q3⟩
          · have := w2 q; omega
          · have := (ca_l hJ2.w (Or.inr ⟨q2, by omega, kt h q2 q3⟩) (w3 h q1 (by omega) (kt h q2 q3))).2
            omega
        have hJ3 := dJ_up hE hJ2 τ0 τ2 w1 hmt kt w2 w3 w4 hv
        have hK3 := dK_up hE hJ2 τ0 τ2 hK2 hT2
        have m2 : m ≠ -2 := by rcases w1 with q | q <;> omega
        refine fun _ => ⟨τ0, by omega, fun v6 g6 _ => ?_⟩
        have g6' : v6 = M2 (c + 22) τ := g6
        unfold w_X8_needDominators_b93
        refine ⟨fun e => ⟨by unfold ri_; omega, ?_⟩, fun e => ⟨τ0, by omega, fun M8 e8 => ⟨by unfold ri_; omega, ?_⟩⟩⟩
        · have em : m = M2 (c + 22) τ := by rw [e]; exact g6'
          have eu : upD (M2 (c + 22)) τ m = M2 (c + 22) := funext fun x => by
            by_cases y : x = τ
            · rw [y, upD_s, em]
            · rw [upD_o _ _ _ _ y]
          rw [eu] at hJ3
          refine ih2 _ _ _ _ ⟨rfl, by omega, by omega, hF2, hch, ks2, fun t a b => ?_, fun q t a b => ?_, _, hJ3, hK3.1, hK3.2⟩ (by omega)
          · by_cases y : t = τ
            · rw [y, ← em]; exact m2
            · exact kt t a (by omega)
          · by_cases y : t = τ
            · rw [y, ← em]; exact ⟨w2, w3⟩
            · exact cf2 q t a (by omega)
        · have eu : M8 (c + 22) = upD (M2 (c + 22)) τ m := funext fun x => by
            rw [e8, show c + 18 + 4 = c + 22 from by omega]
            by_cases y : x = τ
            · rw [y, upD_s, ux_s]
            · rw [upD_o _ _ _ _ y, ux_i _ _ _ y]
          have st : ∀ t, (t = τ ∨ M2 (c + 22) t ≠ -2) → M8 (c + 22) t ≠ -2 := fun t h => by
            rw [eu]
            by_cases y : t = τ
            · rw [y, upD_s]; exact m2
            · rw [upD_o _ _ _ _ y]
              rcases h with q | q
              · exact absurd q y
              · exact q
          refine ih2 _ _ _ _ ⟨rfl, by omega, by omega, ⟨fun k p1 p2 => funext fun i => by rw [e8, ux_c _ _ _ _ (by omega), hF2.1 k p1 p2], fun i hi => by rw [e8, ux_c _ _ _ _ (by omega), hF2.2.1 i hi], by rw [e8, ux_c _ _ _ _ (by omega), hF2.2.2]⟩, Or.inr rfl, fun q t a b => st t (Or.inr (ks2 q t a b)), fun t a b => st t (by by_cases y : t = τ; exact Or.inl y; exact Or.inr (kt t a (by omega))), fun q => by omega, _, by rw [eu]; exact hJ3, hK3.1, hK3.2⟩ (by omega)
  · have hw0 : oW (filled M4 (c + 18 + 4) 0 (C c 0) (-2) (c + 22)) (C c 0) := fun t t0 t1 => Or.inl (f22 t t0 t1)
    refine ⟨hw0, fun x d x0 x1 q => absurd (f22 x x0 x1) q, fun x e x0 x1 q => absurd (f22 x x0 x1) q, fun x d x0 x1 q => absurd (f22 x x0 x1) q, fun x y d a b => ⟨b.1, by omega⟩, fun x d q => q, fun x d _ _ _ a b _ => ⟨a, b⟩, fun x d _ _ _ a b => ⟨a, b⟩⟩
