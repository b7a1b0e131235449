/-! rings: the class, whole -/
theorem p_linksItself {Q : Int → MM → Prop} {C R0 M : MM} {c : Nat} {t : Int} (hY : Rty C R0) (hw : PW C c) (fb : ∀ k, c ≤ k → k ≤ c + 12 → M k = C k) (t0 : 0 ≤ t) (t1 : t < C c 0) (q1 : pE C c t t → Q 1 M) (q0 : ¬ pE C c t t → Q 0 M) : w_X8_linksItself c Q t M := by
  have n4 := hw.2.1
  have hpc := pw_bd hY hw t0 t1
  have ht1 := (hw.2.2.2.1 t t0 t1).2.2.2.2.2.2.1
  have hf := pw_f hY hw t0 (by omega)
  have hf2 := pw_f hY hw (t := t + 1) (by omega) (by omega)
  have hmx := hw.2.2.2.2.1
  unfold w_X8_linksItself w_X8_linksItself_b7
  refine ⟨t0, by omega, fun v1 g1 _ => ?_⟩
  rw [fb (c + 4) (by omega) (by omega)] at g1
  refine loop3 _ (fun (x a : Int) M1 => t = x ∧ M1 = M ∧ C (c + 4) t ≤ a ∧ a ≤ C (c + 4) (t + 1) ∧ ∀ k, 0 ≤ k → C (c + 4) t + k < a → lv C c t k ≠ t) (fun (_ a : Int) _ => (C (c + 4) (t + 1) - a).toNat) ?_ _ _ _ ⟨rfl, rfl, by omega, by omega, fun k a b => by omega⟩
  rintro x a M1 f ⟨rfl, rfl, a0, a1, hk⟩ ih
  unfold wb_X8_linksItself_b7
  refine ⟨by unfold ri_; omega, by omega, by omega, fun v2 g2 _ => ?_⟩
  rw [fb (c + 4) (by omega) (by omega)] at g2
  refine ⟨fun z => q0 fun h => ?_, fun z => ⟨by omega, by omega, fun v4 g4 _ => ?_⟩⟩
  · obtain ⟨-, -, -, k, k0, k1, e⟩ := h
    exact hk k k0 (by omega) e
  · rw [fb (c + 10) (by omega) (by omega)] at g4
    have elv : lv C c t (a - C (c + 4) t) = if C (c + 10) a = 0 then -1 else C (c + 9) a := by
      unfold lv
      rw [show C (c + 4) t + (a - C (c + 4) t) = a from by omega]
    have nxt : lv C c t (a - C (c + 4) t) ≠ t → w_X8_linksItself_b42 c Q f t a M1 := fun e => by
      unfold w_X8_linksItself_b42
      refine ⟨by unfold ri_; omega, ih _ _ _ ⟨rfl, rfl, by omega, by omega, fun k p q => ?_⟩ (by omega)⟩
      by_cases y : C (c + 4) t + k < a
      · exact hk k p y
      · rw [show k = a - C (c + 4) t from by omega]; exact e
    refine ⟨fun z4 => nxt (by rw [elv, if_pos (by rw [← g4]; exact z4)]; omega), fun z4 => ⟨by omega, by omega, fun v6 g6 _ => ?_⟩⟩
    rw [fb (c + 9) (by omega) (by omega)] at g6
    rw [if_neg (by rw [← g4]; exact z4), ← g6] at elv
    refine ⟨fun z6 => nxt (by rw [elv]; exact z6), fun z6 => q1 ⟨t0, t1, t0, a - C (c + 4) t, by omega, by omega, by rw [elv]; exact z6⟩⟩
theorem rk_two {P : Int → Prop} {n : Nat} {t : Int} (t0 : 0 ≤ t) (t1 : t < n) (ht : P t) : (1 < rk P n ↔ ∃ u, 0 ≤ u ∧ u < (n : Int) ∧ u ≠ t ∧ P u) ∧ 1 ≤ rk P n := by
  have e1 : rk (fun u => u = t) n = 1 := by
    rw [rk_sk, sk_one t n (fun _ _ _ => Iff.rfl), if_pos ⟨t0, t1⟩]
  have le := rk_lt (P := fun u => u = t) (P' := P) n (fun u h => by rw [h]; exact ht)
  refine ⟨⟨fun h => ?_, fun ⟨u, u0, u1, ne, hu⟩ => by have := le.2 u u0 u1 hu ne; omega⟩, by have := le.1; omega⟩
  apply Classical.byContradiction
  intro q
  have : rk P n = rk (fun u => u = t) n := rk_c n fun u u0 u1 => ⟨fun hu => Classical.byContradiction fun ne => q ⟨u, u0, u1, ne, hu⟩, fun e => by show P u; rw [show u = t from e]; exact ht⟩
  omega
def FGr (C M : MM) (c : Nat) : Prop := (∀ k, k ≠ c + 18 → ¬ tC c k → M k = C k) ∧ (∀ i, i ≠ 1 → i ≠ 9 → M (c + 18) i = C (c + 18) i) ∧ M (c + 18) 1 = jor (C (c + 18) 1) 4
theorem FGr_u {C M : MM} {c : Nat} (h : FGr C M c) {k : Nat} (hk : tC c k) (i v : Int) : FGr C (ux_ M k i v) c := by
  have hk2 : c + 18 ≠ k := by unfold tC at hk; omega
  exact ⟨fun q a d => by rw [ux_g _ _ _ (fun e => d (by rw [e]; exact hk)), h.1 q a d], fun j hj hj' => by rw [ux_c _ _ _ _ hk2, h.2.1 j hj hj'], by rw [ux_c _ _ _ _ hk2, h.2.2]⟩
theorem FGr_9 {C M : MM} {c : Nat} (h : FGr C M c) (v : Int) : FGr C (ux_ M (c + 18) 9 v) c := ⟨fun q a d => by rw [ux_g _ _ _ a, h.1 q a d], fun j hj hj' => by rw [ux_i _ _ _ hj', h.2.1 j hj hj'], by rw [ux_i _ _ _ (by decide), h.2.2]⟩
theorem rr_1 {C : MM} {c : Nat} {t u : Int} (h : rr C c t u) : ∃ v, pE C c t v ∧ (v = u ∨ rr C c v u) := by
  refine rc_i (P := fun x => ∃ v, pE C c t v ∧ (v = x ∨ rr C c v x)) (fun x a _ => ⟨x, a, Or.inl rfl⟩) (fun x y q e s => ?_) u h
  obtain ⟨v, q1, q2⟩ := q
  refine ⟨v, q1, Or.inr ?_⟩
  rcases q2 with q2 | q2
  · rw [q2]; exact rc_z e s
  · exact rc_e q2 e s
set_option maxHeartbeats 1000000 in
theorem p_numberRings {Q : Int → MM → Prop} {C R0 M : MM} {c : Nat} (hY : Rty C R0) (hw : PW C c) (hF : FGr C M c) (h1 : ∀ u, 0 ≤ u → u < C c 0 → 0 ≤ M (c + 25) u ∧ M (c + 25) u < C c 0 ∧ (u = M (c + 25) u ∨ sym_ C c u (M (c + 25) u))) (h2 : ∀ u v, 0 ≤ u → u < C c 0 → 0 ≤ v → v < C c 0 → sym_ C c u v → M (c + 25) u = M (c + 25) v) (hq : ∀ M', FGr C M' c → RGf C c (M' (c + 25)) (M' (c + 18) 9) → Q 0 M') : w_X8_numberRings (c + 18) c Q M := by
  have n0 := hw.1
  have n4 := hw.2.1
  have nn : (((C c 0).toNat : Nat) : Int) = C c 0 := by omega
  have fbs : ∀ M1, FGr C M1 c → ∀ k, c ≤ k → k ≤ c + 12 → M1 k = C k := fun M1 h k a b => h.1 k (by omega) (by unfold tC; omega)
  have h3 : ∀ u v, 0 ≤ u → u < C c 0 → 0 ≤ v → v < C c 0 → M (c + 25) u = M (c + 25) v → u = v ∨ sym_ C c u v := by
    intro u v u0 u1 v0 v1 e
    rcases (h1 u u0 u1).2.2 with a | a
    · rcases (h1 v v0 v1).2.2 with b | b
      · exact Or.inl (by rw [a, b, e])
      · rw [← e, ← a] at b; exact Or.inr (sym_s b)
    · rcases (h1 v v0 v1).2.2 with b | b
      · rw [e, ← b] at a; exact Or.inr a
      · rw [e] at a; exact Or.inr (sym_t a (sym_s b))
  -- the sets get their numbers
  have third : ∀ M1, FGr C M1 c → M1 (c + 25) = M (c + 25) → (∀ s, 0 ≤ s → s < C c 0 → M1 (c + 28) s = rk (fun u => M (c + 25) u = s) (C c 0).toNat ∧ M1 (c + 30) s = -2) → M1 (c + 18) 9 = 0 → w_X8_numberRings_b65 (c + 18) c Q 0 M1 := by
    intro M1 F1 e1 k1 z1
    refine loop2 _ (fun (x : Int) M2 => 0 ≤ x ∧ x ≤ C c 0 ∧ FGr C M2 c ∧ M2 (c + 28) = M1 (c + 28) ∧ M2 (c + 18) 9 = rk (rp C c) x.toNat ∧ (∀ u, x ≤ u → u < C c 0 → M2 (c + 25) u = M (c + 25) u) ∧ (∀ s, 0 ≤ s → s < C c 0 → (M2 (c + 30) s = -2 ∧ ∀ u, 0 ≤ u → u < x → M (c + 25) u ≠ s) ∨ (∃ u0, 0 ≤ u0 ∧ u0 < x ∧ M (c + 25) u0 = s ∧ (∀ u, 0 ≤ u → u < u0 → M (c + 25) u ≠ s) ∧ (sym_ C c u0 u0 → M2 (c + 30) s = rk (rp C c) u0.toNat) ∧ (¬ sym_ C c u0 u0 → M2 (c + 30) s = -1))) ∧ ∀ u, 0 ≤ u → u < x → (M2 (c + 25) u = -1 ∧ ∀ r, 0 ≤ r → r < C c 0 → rp C c r → ¬ sym_ C c r u) ∨ (∃ r, 0 ≤ r ∧ r < C c 0 ∧ rp C c r ∧ sym_ C c r u ∧ M2 (c + 25) u = rk (rp C c) r.toNat)) (fun (x : Int) _ => (C c 0 - x).toNat) ?_ _ _ ⟨by omega, n0, F1, rfl, by rw [z1]; rfl, fun u _ _ => by rw [e1], fun s s0 s1 => Or.inl ⟨(k1 s s0 s1).2, fun u a b => by omega⟩, fun u a b => by omega⟩
    rintro x M2 f ⟨x0, x1, F2, l2, r2, g2, p2, d2⟩ ih
    have fb := fbs M2 F2
    unfold wb_X8_numberRings_b65
    intro v1 y1 _
    rw [fb c (by omega) (by omega)] at y1
    subst y1
    refine ⟨fun z => hq M2 F2 ⟨?_, fun u u0 u1 => d2 u u0 (by omega)⟩, fun z => ⟨x0, by omega, fun v3 y3 _ => ?_⟩⟩
    · rw [r2, show x = C c 0 from by omega]
    have xn : x < C c 0 := by omega
    have xx : ((x.toNat : Nat) : Int) = x := by omega
    have y3' : v3 = M (c + 25) x := by rw [← g2 x (Int.le_refl _) xn]; exact y3
    obtain ⟨s0, s1, s2⟩ := h1 x x0 xn
    rw [← y3'] at s0 s1 s2
    have rkb := rk_bd (rp C c) x.toNat
    -- behind it
    have fin : ∀ M3, FGr C M3 c → M3 (c + 28) = M1 (c + 28) → M3 (c + 18) 9 = rk (rp C c) (x.toNat + 1) → M3 (c + 25) = M2 (c + 25) → (∀ s, s ≠ v3 → M3 (c + 30) s = M2 (c + 30) s) → (∃ u0, 0 ≤ u0 ∧ u0 ≤ x ∧ M (c + 25) u0 = v3 ∧ (∀ u, 0 ≤ u → u < u0 → M (c + 25) u ≠ v3) ∧ (sym_ C c u0 u0 → M3 (c + 30) v3 = rk (rp C c) u0.toNat) ∧ (¬ sym_ C c u0 u0 → M3 (c + 30) v3 = -1)) → w_X8_numberRings_b136 (c + 18) c Q f x v3 M3 := by
      intro M3 F3 l3 r3 g3 q3 ⟨u0, a1, a2, a3, a4, a5, a6⟩
      unfold w_X8_numberRings_b136
      refine ⟨s0, by omega, fun w1 k1 _ => ⟨x0, by omega, fun M5 e5 => ⟨by unfold ri_; omega, ih _ _ ⟨by omega, by omega, by rw [e5]; exact FGr_u F3 (by unfold tC; omega) _ _, by rw [e5, ux_g _ _ _ (by omega)]; exact l3, by rw [e5, ux_c _ _ _ _ (by omega), r3, show (x + 1).toNat = x.toNat + 1 from by omega], fun u a b => ?_, fun s b0 b1 => ?_, fun u a b => ?_⟩ (by omega)⟩⟩⟩
      · rw [e5, show c + 18 + 7 = c + 25 from by omega, ux_i _ _ _ (by omega), g3]; exact g2 u (by omega) b
      · rw [e5, ux_c _ _ _ _ (by omega)]
        by_cases y : s = v3
        · rw [y]; exact Or.inr ⟨u0, a1, by omega, a3, a4, a5, a6⟩
        · rw [q3 s y]
          rcases p2 s b0 b1 with ⟨q, q'⟩ | ⟨w0, q, q', q''⟩
          · refine Or.inl ⟨q, fun u c0 c1 => ?_⟩
            by_cases e : u = x
            · rw [e, ← y3']; exact fun q => y q.symm
            · exact q' u c0 (by omega)
          · exact Or.inr ⟨w0, q, by omega, q''⟩
      · rw [e5, show c + 18 + 7 = c + 25 from by omega]
        by_cases e : u = x
        · rw [e, ux_s]
          have k1' : w1 = M3 (c + 30) v3 := k1
          rw [k1']
          by_cases hs : sym_ C c u0 u0
          · refine Or.inr ⟨u0, a1, by omega, ⟨hs, fun v b0 b1 q => a4 v b0 b1 ?_⟩, ?_, a5 hs⟩
            · rw [← a3]; exact h2 v u0 b0 (by omega) a1 (by omega) q
            · rcases h3 u0 x a1 (by omega) x0 xn (by rw [a3, y3']) with q | q
              · rw [← q]; exact hs
              · exact q
          · refine Or.inl ⟨a6 hs, fun r b0 b1 b2 q => hs ?_⟩
            have er : M (c + 25) r = M (c + 25) u0 := by rw [h2 r x b0 b1 x0 xn q, a3, y3']
            rcases h3 r u0 b0 b1 a1 (by omega) er with w | w
            · rw [← w]; exact b2.1
            · exact sym_t (sym_s w) w
        · rw [ux_i _ _ _ e, g3]; exact d2 u a (by omega)
    have nrp : ∀ u0, 0 ≤ u0 → u0 < x → M (c + 25) u0 = v3 → ¬ rp C c x := fun u0 a b e q => by
      rcases h3 u0 x a (by omega) x0 xn (by rw [e, y3']) with w | w
      · omega
      · exact q.2 u0 a b w
    refine ⟨s0, by omega, fun v4 y4 _ => ⟨fun z4 => ?_, fun z4 => ⟨s0, by omega, fun M6 e6 => ⟨s0, by omega, fun v7 y7 _ => ?_⟩⟩⟩⟩
    · rcases p2 v3 s0 s1 with ⟨q, -⟩ | ⟨u0, q1, q2, q3, q4⟩
      · exact absurd (by rw [y4]; exact q) z4
      · refine fin M2 F2 l2 ?_ rfl (fun _ _ => rfl) ⟨u0, q1, by omega, q3, q4⟩
        rw [(rk_s x.toNat).2 (by rw [xx]; exact nrp u0 q1 q2 q3), r2]
    · have first : ∀ u, 0 ≤ u → u < x → M (c + 25) u ≠ v3 := by
        rcases p2 v3 s0 s1 with ⟨-, q⟩ | ⟨u0, q1, q2, q3, q4, q5, q6⟩
        · exact q
        · exfalso
          have y4' : v4 = M2 (c + 30) v3 := y4
          have b := rk_bd (rp C c) u0.toNat
          by_cases hs : sym_ C c u0 u0
          · rw [q5 hs] at y4'; omega
          · rw [q6 hs] at y4'; omega
      have rpx : rp C c x ↔ sym_ C c x x := ⟨fun q => q.1, fun q => ⟨q, fun v b0 b1 w => first v b0 b1 (by rw [y3']; exact h2 v x b0 (by omega) x0 xn w)⟩⟩
      have F6 : FGr C M6 c := by rw [e6]; exact FGr_u F2 (by unfold tC; omega) _ _
      have f6 : ∀ k, k ≠ c + 30 → M6 k = M2 k := fun k hk => by rw [e6, ux_g _ _ _ (by omega)]
      have p6 : M6 (c + 30) v3 = -1 := by rw [e6, show c + 18 + 12 = c + 30 from by omega, ux_s]
      have p6o : ∀ s, s ≠ v3 → M6 (c + 30) s = M2 (c + 30) s := fun s hs => by rw [e6, show c + 18 + 12 = c + 30 from by omega, ux_i _ _ _ hs]
      have y7' : v7 = rk (fun u => M (c + 25) u = v3) (C c 0).toNat := by
        rw [← (k1 v3 s0 s1).1, ← l2, ← f6 (c + 28) (by omega)]; exact y7
      have two := (rk_two (P := fun u => M (c + 25) u = v3) (n := (C c 0).toNat) x0 (by omega) y3'.symm).1
      rw [← y7', nn] at two
      have yes : sym_ C c x x → w_X8_numberRings_b116 (c + 18) c Q f x v3 M6 := by
        intro hs
        unfold w_X8_numberRings_b116
        intro v1 b1 _
        rw [f6 (c + 18) (by omega), r2] at b1
        refine ⟨s0, by omega, fun M7 e7 v8 b8 _ => ?_⟩
        rw [e7, ux_c _ _ _ _ (by omega), f6 (c + 18) (by omega), r2] at b8
        refine ⟨by unfold ri_; omega, fun M9 e9 => fin M9 ?_ ?_ ?_ ?_ (fun s hs => ?_) ⟨x, x0, Int.le_refl _, y3'.symm, first, fun _ => ?_, fun q => absurd hs q⟩⟩
        · rw [e9, e7]; exact FGr_9 (FGr_u F6 (by unfold tC; omega) _ _) _
        · rw [e9, ux_g _ _ _ (by omega), e7, ux_g _ _ _ (by omega), f6 (c + 28) (by omega), l2]
        · rw [e9, ux_s, b8, (rk_s x.toNat).1 (by rw [xx]; exact rpx.mpr hs)]
        · rw [e9, ux_g _ _ _ (by omega), e7, ux_g _ _ _ (by omega), f6 (c + 25) (by omega)]
        · rw [e9, ux_c _ _ _ _ (by omega), e7, show c + 18 + 12 = c + 30 from by omega, ux_i _ _ _ hs, p6o s hs]
        · rw [e9, ux_c _ _ _ _ (by omega), e7, show c + 18 + 12 = c + 30 from by omega, ux_s, b1]
      have no : ¬ sym_ C c x x → w_X8_numberRings_b136 (c + 18) c Q f x v3 M6 := fun hs =>
        fin M6 F6 (by rw [f6 (c + 28) (by omega), l2]) (by rw [f6 (c + 18) (by omega), r2, (rk_s x.toNat).2 (by rw [xx]; exact fun q => hs q.1)]) (f6 (c + 25) (by omega)) p6o ⟨x, x0, Int.le_refl _, y3'.symm, first, fun q => absurd q hs, fun _ => p6⟩
      refine ⟨fun z7 => yes ?_, fun z7 => p_linksItself hY hw (fbs M6 F6) x0 xn (fun q => ?_) (fun q => ?_)⟩
      · obtain ⟨u, b0, b1, b2, b3⟩ := two.mp z7
        rcases h3 x u x0 xn b0 b1 (by rw [b3, y3']) with w | w
        · exact absurd w.symm b2
        · exact sym_t w (sym_s w)
      · refine fun _ => ⟨fun w => absurd w (by decide), fun _ => yes ⟨pE_rr hw q, pE_rr hw q⟩⟩
      · refine fun _ => ⟨fun _ => no fun hs => ?_, fun w => absurd rfl w⟩
        obtain ⟨v, a1, a2⟩ := rr_1 hs.1
        have vi := pE_in hw a1
        by_cases e : v = x
        · rw [e] at a1; exact q a1
        · rcases a2 with a2 | a2
          · exact e a2
          · have := h2 x v x0 xn vi.1 vi.2 ⟨pE_rr hw a1, a2⟩
            exact z7 (two.mpr ⟨v, vi.1, vi.2, e, by rw [y3', this]⟩)
  unfold w_X8_numberRings
  intro v1 y1 _
  rw [fbs M hF c (by omega) (by omega)] at y1
  subst y1
  refine p_fillR (by omega) (by omega) n0 (by omega) ?_
  intro v4 y4 _
  have y4' : v4 = C c 0 := by rw [y4]; unfold filled; rw [if_neg (by omega), fbs M hF c (by omega) (by omega)]
  subst y4'
  refine p_fillR (by omega) (by omega) n0 (by omega) ?_
  obtain ⟨M6, e6⟩ : ∃ M6, M6 = filled (filled M (c + 18 + 10) 0 (C c 0) 0) (c + 18 + 12) 0 (C c 0) (-2) := ⟨_, rfl⟩
  rw [← e6]
  have f6 : ∀ k, k ≠ c + 28 → k ≠ c + 30 → M6 k = M k := fun k a b => funext fun i => by rw [e6]; unfold filled; rw [if_neg (by omega), if_neg (by omega)]
  have F6 : FGr C M6 c := ⟨fun k a b => by rw [f6 k (by unfold tC at b; omega) (by unfold tC at b; omega), hF.1 k a b], fun i a b => by rw [f6 _ (by omega) (by omega), hF.2.1 i a b], by rw [f6 _ (by omega) (by omega), hF.2.2]⟩
  refine loop2 _ (fun (x : Int) M2 => 0 ≤ x ∧ x ≤ C c 0 ∧ FGr C M2 c ∧ M2 (c + 25) = M (c + 25) ∧ (∀ s, 0 ≤ s → s < C c 0 → M2 (c + 28) s = rk (fun u => M (c + 25) u = s) x.toNat ∧ M2 (c + 30) s = -2)) (fun (x : Int) _ => (C c 0 - x).toNat) ?_ _ _ ⟨by omega, n0, F6, f6 (c + 25) (by omega) (by omega), fun s s0 s1 => ⟨?_, ?_⟩⟩
  · rintro x M2 f ⟨x0, x1, F2, g2, k2⟩ ih
    have fb := fbs M2 F2
    unfold wb_X8_numberRings_b29
    intro v1 y1 _
    rw [fb c (by omega) (by omega)] at y1
    subst y1
    refine ⟨fun z M3 e3 => third M3 ?_ ?_ (fun s s0 s1 => ?_) (by rw [e3, ux_s]), fun z => ⟨x0, by omega, fun v4 y4 _ => ?_⟩⟩
    · rw [e3]; exact FGr_9 F2 _
    · rw [e3, ux_g _ _ _ (by omega), g2]
    · have := k2 s s0 s1
      rw [show x = C c 0 from by omega] at this
      rw [e3, ux_c _ _ _ _ (by omega), ux_c _ _ _ _ (by omega)]; exact this
    · have y4' : v4 = M (c + 25) x := by rw [← g2]; exact y4
      obtain ⟨s0, s1, -⟩ := h1 x x0 (by omega)
      rw [← y4'] at s0 s1
      refine ⟨s0, by omega, fun v5 y5 _ => ?_⟩
      have y5' : v5 = rk (fun u => M (c + 25) u = v4) x.toNat := by rw [← (k2 v4 s0 s1).1]; exact y5
      have b := rk_bd (fun u => M (c + 25) u = v4) x.toNat
      refine ⟨by unfold ri_; omega, s0, by omega, fun M7 e7 => ⟨by unfold ri_; omega, ih _ _ ⟨by omega, by omega, by rw [e7]; exact FGr_u F2 (by unfold tC; omega) _ _, by rw [e7, ux_g _ _ _ (by omega), g2], fun s a0 a1 => ⟨?_, by rw [e7, ux_c _ _ _ _ (by omega)]; exact (k2 s a0 a1).2⟩⟩ (by omega)⟩⟩
      rw [e7, show c + 18 + 10 = c + 28 from by omega, show (x + 1).toNat = x.toNat + 1 from by omega]
      by_cases y : s = v4
      · rw [y, ux_s, (rk_s x.toNat).1 (by show M (c + 25) ((x.toNat : Nat) : Int) = v4; rw [show ((x.toNat : Nat) : Int) = x from by omega, y4']), y5']
      · rw [ux_i _ _ _ y, (rk_s x.toNat).2 (by show ¬ M (c + 25) ((x.toNat : Nat) : Int) = s; rw [show ((x.toNat : Nat) : Int) = x from by omega, ← y4']; exact fun q => y q.symm), (k2 s a0 a1).1]
  · rw [e6]; unfold filled; rw [if_neg (by omega), if_pos (by omega)]; rfl
  · rw [e6]; unfold filled; rw [if_pos (by omega)]
theorem p_needRings {Q : Int → MM → Prop} {C R0 : MM} {c : Nat} (hY : Rty C R0) (hw : PW C c) (h0 : jand (C (c + 18) 1) 4 ≠ 0 → Q 0 C) (h1 : jand (C (c + 18) 1) 4 = 0 → ∀ M, FGr C M c → RGf C c (M (c + 25)) (M (c + 18) 9) → Q 0 M) : w_X8_needRings (c + 18) c Q C := by
  have n0 := hw.1
  have n4 := hw.2.1
  unfold w_X8_needRings
  intro v1 g1 _
  rw [g1]
  refine ⟨fun z => ?_, h0⟩
  intro v3 g3 _ M4 e4
  have fbs : ∀ M1, FG C M1 c 4 (tC c) → ∀ k, c ≤ k → k ≤ c + 12 → M1 k = C k := fun M1 h k a b => h.1 k (by omega) (by unfold tC; omega)
  have F4 : FG C M4 c 4 (tC c) := ⟨fun k a b => by rw [e4, ux_g _ _ _ a], fun i hi => by rw [e4, ux_i _ _ _ hi], by rw [e4, ux_s, g3]⟩
  have second : ∀ M, FG C M c 4 (tC c) → (∀ t, 0 ≤ t → t < C c 0 → M (c + 27) t = -1 ∧ M (c + 25) t = -1 ∧ M (c + 31) t = C (c + 4) t) → w_X8_needRings_b66 (c + 18) c Q 0 0 M := by
    intro M hF k
    have T0 : TM C c M 0 0 0 := by
      have np : ∀ u v, ¬ Pm C c M u v := by
        rintro u v ⟨a1, a2, a3, j, a4, a5, a6, a7⟩
        rw [(k u a1 a2).2.2] at a6; omega
      have no : ∀ t, 0 ≤ t → t < C c 0 → M (c + 27) t ≠ -1 → False := fun t a b q => q (k t a b).1
      have nr : ∀ t, 0 ≤ t → t < C c 0 → M (c + 25) t ≠ -1 → False := fun t a b q => q (k t a b).2.1
      refine ⟨by omega, ?_, fun t a b => Or.inl (k t a b).1, fun u v a b _ _ q => (no u a b q).elim, fun i a b => by omega, fun t a b q => (no t a b q).elim, fun i j a b e => by omega, fun i a b => by omega, fun i j a b e => by omega, fun i a b => by omega, fun t a b q => (no t a b q).elim, fun u v q => absurd q (np u v), fun u v _ _ _ => np u v, fun u v a b q => (no u a b q).elim, fun u v q => absurd q (np u v), fun u a b q => (nr u a b q).elim, fun u v a b _ _ q => (nr u a b q).elim, fun i t a b => by omega, fun t a b q => (no t a b q).elim, fun t a b q => (no t a b q).elim, fun i u v a b => by omega⟩
      have : rk (fun t => M (c + 27) t ≠ -1) (C c 0).toNat = rk (fun _ => False) (C c 0).toNat := rk_c _ fun t a b => ⟨fun q => no t a (by omega) q, fun q => q.elim⟩
      rw [this]
      have : ∀ m, rk (fun _ => False) m = 0 := by
        intro m
        induction m with
        | zero => rfl
        | succ m ih => rw [(rk_s m).2 id, ih]
      rw [this]
    refine loop3 _ (fun (nw x : Int) M1 => 0 ≤ x ∧ x ≤ C c 0 ∧ FG C M1 c 4 (tC c) ∧ TM C c M1 0 0 nw ∧ cuB C c M1 ∧ ∀ u, 0 ≤ u → u < x → M1 (c + 27) u ≠ -1) (fun (_ x : Int) _ => (C c 0 - x).toNat) ?_ _ _ _ ⟨by omega, n0, hF, T0, fun t a b => by
      have ht1 := (hw.2.2.2.1 t a b).2.2.2.2.2.2.1
      have hpc := pw_bd hY hw a b
      rw [(k t a b).2.2]; omega, fun u a b => by omega⟩
    rintro nw x M1 f ⟨x0, x1, F1, T1, cu1, m1⟩ ih
    unfold wb_X8_needRings_b66
    intro v1 y1 _
    rw [fbs M1 F1 c (by omega) (by omega)] at y1
    subst y1
    refine ⟨fun z2 => ?_, fun z2 => ⟨x0, by omega, fun v5 y5 _ => ⟨fun z5 => ?_, fun z5 => ?_⟩⟩⟩
    · have cl : ∀ u, 0 ≤ u → u < C c 0 → M1 (c + 25) u ≠ -1 := fun u a b q => by
        have := (T1.pf u a b (m1 u a (by omega)) q).1; omega
      refine p_numberRings hY hw ⟨F1.1, fun i a _ => F1.2.1 i a, F1.2.2⟩ (fun u a b => ?_) (fun u v a b d e q => T1.c3 u v a b d e (cl u a b) (cl v d e) q) fun M' r1 r2 => h1 z M' r1 r2
      obtain ⟨-, q2, q3, -, q5, -⟩ := T1.c1 u a b (cl u a b)
      exact ⟨q2, q3, q5⟩
    · unfold w_X8_needRings_b92
      refine ⟨by unfold ri_; omega, ih _ _ _ ⟨by omega, by omega, F1, T1, cu1, fun u a b => ?_⟩ (by omega)⟩
      by_cases e : u = x
      · rw [e]; intro q; exact z5 (by rw [y5]; exact q)
      · exact m1 u a (by omega)
    · refine p_explore hY hw F1 x0 (by omega) T1 cu1 (by rw [← z5]; exact y5.symm) fun M' nw' r1 r2 r3 r4 r5 => ?_
      unfold w_X8_needRings_b92
      refine fun _ => ⟨by unfold ri_; omega, ih _ _ _ ⟨by omega, by omega, r1, r2, r3, fun u a b => ?_⟩ (by omega)⟩
      by_cases e : u = x
      · rw [e]; exact r4
      · exact r5 u a (by omega) (m1 u a (by omega))
  refine loop2 _ (fun (x : Int) M1 => 0 ≤ x ∧ x ≤ C c 0 ∧ FG C M1 c 4 (tC c) ∧ ∀ t, 0 ≤ t → t < x → M1 (c + 27) t = -1 ∧ M1 (c + 25) t = -1 ∧ M1 (c + 31) t = C (c + 4) t) (fun (x : Int) _ => (C c 0 - x).toNat) ?_ _ _ ⟨by omega, n0, F4, fun t a b => by omega⟩
  rintro x M1 f ⟨x0, x1, F1, k1⟩ ih
  have fb := fbs M1 F1
  unfold wb_X8_needRings_b22
  intro v1 y1 _
  rw [fb c (by omega) (by omega)] at y1
  subst y1
  refine ⟨fun z2 => second M1 F1 fun t a b => k1 t a (by omega), fun z2 => ⟨x0, by omega, fun M3 e3 => ⟨x0, by omega, fun M5 e5 => ⟨x0, by omega, fun v5 y5 _ => ⟨x0, by omega, fun M6 e6 => ⟨by unfold ri_; omega, ih _ _ ⟨by omega, by omega, ?_, fun t a b => ?_⟩ (by omega)⟩⟩⟩⟩⟩⟩
  · rw [e6]
    refine FG_u ?_ (by unfold tC; omega) (by omega) _ _
    rw [e5]
    refine FG_u ?_ (by unfold tC; omega) (by omega) _ _
    rw [e3]
    exact FG_u F1 (by unfold tC; omega) (by omega) _ _
  · have y5' : v5 = C (c + 4) x := by rw [y5, e5, ux_c _ _ _ _ (by omega), e3, ux_c _ _ _ _ (by omega), fb (c + 4) (by omega) (by omega)]
    by_cases e : t = x
    · rw [e]
      refine ⟨?_, ?_, ?_⟩
      · rw [e6, ux_c _ _ _ _ (by omega), e5, ux_c _ _ _ _ (by omega), e3, show c + 18 + 9 = c + 27 from by omega, ux_s]
      · rw [e6, ux_c _ _ _ _ (by omega), e5, show c + 18 + 7 = c + 25 from by omega, ux_s]
      · rw [e6, show c + 18 + 13 = c + 31 from by omega, ux_s, y5']
    · obtain ⟨q1, q2, q3⟩ := k1 t a (by omega)
      refine ⟨?_, ?_, ?_⟩
      · rw [e6, ux_c _ _ _ _ (by omega), e5, ux_c _ _ _ _ (by omega), e3, show c + 18 + 9 = c + 27 from by omega, ux_i _ _ _ e, q1]
      · rw [e6, ux_c _ _ _ _ (by omega), e5, show c + 18 + 7 = c + 25 from by omega, ux_i _ _ _ e, e3, ux_c _ _ _ _ (by omega), q2]
      · rw [e6, show c + 18 + 13 = c + 31 from by omega, ux_i _ _ _ e, e5, ux_c _ _ _ _ (by omega), e3, ux_c _ _ _ _ (by omega), q3]
