/-! ways, in the reference -/
theorem Rpb_take {C R R0 C0 M A : MM} {c : Nat} {p : Int} (hc : pB c) (hY : Rty C R0) (hH : Rhp C R) (hE : EM C C0 c) (hT : TC C0 M c (wkL C) (wkX C) (rtX C)) (hS : SD C0 M c (wkL C) (wkL C).length 0) (hA : RP C A p) : Rpb M A c p := by
  obtain ⟨hw, eM, f4, h7⟩ := PW_take hc hY hH hE hT hS
  unfold pB at hc
  have e0 : ∀ q, q < 46 → C0 q = C q := fun q hq2 => hE.1 q (by omega) (by omega) (by omega) (by omega)
  obtain ⟨h1, h2, h3, h4, h5, h6, -, h8, h9, h10, h11, h12, h13, h14⟩ := hT
  obtain ⟨a1, ⟨a2, a3, a4⟩, a5, a6⟩ := hA
  obtain ⟨w1, w2, w3, w4⟩ := wkL_ok hY hH
  have cN : ∀ t : Int, 0 ≤ t → ∃ t' : Nat, t = t' := fun t ht => ⟨t.toNat, by omega⟩
  have esL : ∀ k, sL C0 (wkL C) k = sL C (wkL C) k := by
    intro k
    induction k with
    | zero => rfl
    | succ k ih =>
      show sL C0 (wkL C) k + ln C0 _ = sL C (wkL C) k + ln C _
      rw [ih, ln_eq (e0 16 (by omega)) (e0 27 (by omega)) (e0 28 (by omega))]
  refine ⟨by rw [h7, a1], fun t t0 t1 => ?_, fun t k t0 t1 k0 k1 => ?_, by rw [h12, a2], fun r r0 r1 => ?_⟩
  · obtain ⟨t, rfl⟩ := cN t t0
    rw [h7] at t1
    obtain ⟨b1, b2, b3⟩ := h8 t (by omega)
    rw [e0 27 (by omega)] at b2
    rw [e0 28 (by omega)] at b3
    obtain ⟨d1, d2, d3, d4⟩ := a5 t (by omega) (Or.inl (by omega))
    rw [b1, b2, b3, d1, d2, d3, d4, f4 t (by rw [h7]; omega)]
    exact ⟨rfl, rfl, rfl, rfl⟩
  · obtain ⟨t, rfl⟩ := cN t t0
    obtain ⟨k, rfl⟩ := cN k k0
    rw [h7] at t1
    have ht : t < (wkL C).length := by omega
    obtain ⟨b1, b2, b3⟩ := h8 t ht
    rw [e0 27 (by omega)] at b2
    rw [e0 28 (by omega)] at b3
    have ep : pcn M c t = ln C ((wkL C).getD t 0) := by
      unfold pcn ln
      rw [b2, b3, so_eq (eM 16 (by omega))]
    rw [ep] at k1
    have hk : k < lnN C ((wkL C).getD t 0) := by unfold lnN; omega
    have eln : lnN C0 = lnN C := by funext o; unfold lnN; rw [ln_eq (e0 16 (by omega)) (e0 27 (by omega)) (e0 28 (by omega))]
    have := (hS t k (Or.inl ht) ht (by rw [eln]; exact hk)).1
    rw [esL] at this
    have e := a6 t k ht (Or.inl ht) hk
    rw [f4 t (by rw [h7]; omega), this, show 4000 * p + (sL C (wkL C) t + k) = 4000 * p + sL C (wkL C) t + k from by omega, e]
    unfold pv
    rw [kA_eq (e0 24 (by omega)), e0 27 (by omega), e0 29 (by omega), e0 30 (by omega)]
  · obtain ⟨r, rfl⟩ := cN r r0
    rw [h12] at r1
    rw [(h14 r (by omega)).1, (h14 r (by omega)).2.1, (a4 r (by omega)).1, (a4 r (by omega)).2]
    exact ⟨rfl, rfl⟩
/-- the reference looks at a picture -/
theorem p_slotsIn {Q : Int → MM → Prop} {C M : MM} {c : Nat} {p t : Int} (hY : Rty C M) (hw : PW C c) (hb : Rpb C M c p) (p0 : 0 ≤ p) (p5 : p < 5) (t0 : 0 ≤ t) (t1 : t < C c 0) (h : Q (pcn C c t) M) : w_X12_slotsIn Q p t M := by
  have n4 := hw.2.1
  obtain ⟨b1, b2, b3, b4⟩ := hb.2.1 t t0 t1
  obtain ⟨-, -, a3, -⟩ := hw.2.2.2.1 t t0 t1
  unfold w_X12_slotsIn
  refine p_at p0 p5 t0 (by omega) fun _ => ⟨by omega, by omega, fun v3 e3 _ => p_at p0 p5 t0 (by omega) fun _ => ⟨by omega, by omega, fun v6 e6 _ => ?_⟩⟩
  rw [← b2] at e3
  rw [← b3] at e6
  subst e3 e6
  exact p_R_so hY a3 fun _ => h
theorem pcn_c {C : MM} {c : Nat} {t k : Int} (h : k < pcn C c t) (q : C (c + 2) t < 20) : k < C 16 (C (c + 2) t) := by
  unfold pcn so at h
  rw [if_neg (by omega)] at h
  exact h
theorem p_linksIn {Q : Int → MM → Prop} {C M : MM} {c : Nat} {p t k : Int} (hY : Rty C M) (hw : PW C c) (hb : Rpb C M c p) (p0 : 0 ≤ p) (p5 : p < 5) (t0 : 0 ≤ t) (t1 : t < C c 0) (k0 : 0 ≤ k) (k1 : k < pcn C c t) (h1 : kA C (C (c + 2) t) k = 5 → Q 1 M) (h0 : kA C (C (c + 2) t) k ≠ 5 → Q 0 M) : w_X12_linksIn Q p t k M := by
  have n4 := hw.2.1
  obtain ⟨b1, b2, b3, b4⟩ := hb.2.1 t t0 t1
  obtain ⟨-, -, a3, -⟩ := hw.2.2.2.1 t t0 t1
  unfold w_X12_linksIn
  refine p_at p0 p5 t0 (by omega) fun _ => ⟨by omega, by omega, fun v3 e3 _ => ?_⟩
  rw [← b2] at e3
  subst e3
  exact p_R_kA hY a3 k0 (pcn_c k1) fun _ => ⟨fun z => h0 z, fun z => h1 z⟩
theorem p_valueIn {Q : Int → MM → Prop} {C M : MM} {c : Nat} {p t k : Int} (hY : Rty C M) (hw : PW C c) (hb : Rpb C M c p) (p0 : 0 ≤ p) (p5 : p < 5) (t0 : 0 ≤ t) (t1 : t < C c 0) (k0 : 0 ≤ k) (k1 : k < pcn C c t) (h : rl_ (C (c + 9) (C (c + 4) t + k)) → Q (C (c + 9) (C (c + 4) t + k)) M) : w_X12_valueIn Q p t k M := by
  have n4 := hw.2.1
  obtain ⟨b1, b2, b3, b4⟩ := hb.2.1 t t0 t1
  have ha := pw_at hY hw t0 t1 k0 k1
  unfold w_X12_valueIn
  refine ⟨by unfold ri_; omega, p_at p0 p5 t0 (by omega) fun _ => ⟨by omega, by omega, fun v4 e4 _ => ?_⟩⟩
  rw [← b4] at e4
  subst e4
  refine ⟨by unfold ri_; omega, by unfold ri_; omega, by omega, by omega, fun v7 e7 g7 => ?_⟩
  rw [show 4000 * p + C (c + 4) t + k = 4000 * p + (C (c + 4) t + k) from by omega, ← hb.2.2.1 t k t0 t1 k0 k1] at e7
  rw [e7] at g7 ⊢
  exact h g7
/-- what other rows leave of the base -/
theorem Rpb_M {C M M' : MM} {c : Nat} {p : Int} (h : Rpb C M c p) (e : ∀ k, k ∈ [38, 39, 40, 41, 42, 55, 56, 57, 58] → M' k = M k) : Rpb C M' c p := by
  unfold Rpb at h ⊢
  rw [e 38 (by decide), e 39 (by decide), e 40 (by decide), e 41 (by decide), e 42 (by decide), e 55 (by decide), e 56 (by decide), e 57 (by decide), e 58 (by decide)]
  exact h
def oR (C : MM) (c : Nat) (r : Int) (t : Int) : Prop := ∃ q, 0 ≤ q ∧ q < r ∧ C (c + 12) q = t
def oS (C : MM) (c : Nat) (T K : Int) (t : Int) : Prop := ∃ f s, 0 ≤ f ∧ (f < T ∨ (f = T ∧ s < K)) ∧ 0 ≤ s ∧ s < pcn C c f ∧ lv C c f s = t
def WI (C M : MM) (c : Nat) (p : Int) (occ : Int → Prop) : Prop := ∀ t, 0 ≤ t → t < C c 0 → (M 60 t = 1 ∧ M 43 (400 * p + t) = C (c + 5) t ∧ M 44 (400 * p + t) = C (c + 6) t ∧ M 45 (400 * p + t) = C (c + 7) t) ∨ (M 60 t = 0 ∧ ¬ occ t)
def WF (A M : MM) (p : Int) : Prop := (∀ k, k ∉ [43, 44, 45, 60] → M k = A k) ∧ ∀ k i, (k = 43 ∨ k = 44 ∨ k = 45) → ¬ (400 * p ≤ i ∧ i < 400 * p + 400) → M k i = A k i
theorem WI_c {C M : MM} {c : Nat} {p : Int} {o o' : Int → Prop} (h : WI C M c p o) (hh : ∀ t, 0 ≤ t → t < C c 0 → M 60 t = 0 → o' t → o t) : WI C M c p o' := by
  intro t t0 t1
  rcases h t t0 t1 with q | ⟨q1, q2⟩
  · exact Or.inl q
  · exact Or.inr ⟨q1, fun q3 => q2 (hh t t0 t1 q1 q3)⟩
theorem WF_Y {C A M : MM} {p : Int} (hY : Rty C A) (h : WF A M p) : Rty C M := Rty_R hY (fun k a b _ => h.1 k (by simp; omega)) (by rw [h.1 0 (by decide)])
theorem WF_b {C A M : MM} {c : Nat} {p : Int} (hb : Rpb C A c p) (h : WF A M p) : Rpb C M c p := Rpb_M hb (fun k hk => h.1 k (by intro q; simp at q hk; omega))
/-- a thing is met: its row is set -/
theorem WI_set {C A M M' : MM} {c : Nat} {p : Int} {o o' : Int → Prop} {u d f s : Int} (h : WI C M c p o) (hF : WF A M p) (u0 : 0 ≤ u) (u1 : u < C c 0) (n4 : C c 0 ≤ 400) (e : M' = ux_ (ux_ (ux_ (ux_ M 60 u 1) 43 (400 * p + u) d) 44 (400 * p + u) f) 45 (400 * p + u) s) (hd : d = C (c + 5) u) (hf : f = C (c + 6) u) (hs : s = C (c + 7) u) (hh : ∀ t, 0 ≤ t → t < C c 0 → t ≠ u → o' t → o t) : WI C M' c p o' ∧ WF A M' p := by
  constructor
  · intro t t0 t1
    rw [e]
    by_cases z : t = u
    · subst z
      refine Or.inl ⟨?_, ?_, ?_, ?_⟩
      · rw [ux_c _ _ _ _ (by decide), ux_c _ _ _ _ (by decide), ux_c _ _ _ _ (by decide), ux_s]
      · rw [ux_c _ _ _ _ (by decide), ux_c _ _ _ _ (by decide), ux_s, hd]
      · rw [ux_c _ _ _ _ (by decide), ux_s, hf]
      · rw [ux_s, hs]
    · have e60 : ux_ (ux_ (ux_ (ux_ M 60 u 1) 43 (400 * p + u) d) 44 (400 * p + u) f) 45 (400 * p + u) s 60 t = M 60 t := by rw [ux_c _ _ _ _ (by decide), ux_c _ _ _ _ (by decide), ux_c _ _ _ _ (by decide), ux_i _ _ _ z]
      have e43 : ux_ (ux_ (ux_ (ux_ M 60 u 1) 43 (400 * p + u) d) 44 (400 * p + u) f) 45 (400 * p + u) s 43 (400 * p + t) = M 43 (400 * p + t) := by rw [ux_c _ _ _ _ (by decide), ux_c _ _ _ _ (by decide), ux_i _ _ _ (by omega), ux_c _ _ _ _ (by decide)]
      have e44 : ux_ (ux_ (ux_ (ux_ M 60 u 1) 43 (400 * p + u) d) 44 (400 * p + u) f) 45 (400 * p + u) s 44 (400 * p + t) = M 44 (400 * p + t) := by rw [ux_c _ _ _ _ (by decide), ux_i _ _ _ (by omega), ux_c _ _ _ _ (by decide), ux_c _ _ _ _ (by decide)]
      have e45 : ux_ (ux_ (ux_ (ux_ M 60 u 1) 43 (400 * p + u) d) 44 (400 * p + u) f) 45 (400 * p + u) s 45 (400 * p + t) = M 45 (400 * p + t) := by rw [ux_i _ _ _ (by omega), ux_c _ _ _ _ (by decide), ux_c _ _ _ _ (by decide), ux_c _ _ _ _ (by decide)]
      rw [e60, e43, e44, e45]
      rcases h t t0 t1 with q | ⟨q1, q2⟩
      · exact Or.inl q
      · exact Or.inr ⟨q1, fun q3 => q2 (hh t t0 t1 z q3)⟩
  · refine ⟨fun k hk => ?_, fun k i hk hi => ?_⟩
    · simp at hk
      funext i
      rw [e, ux_c _ _ _ _ (by omega), ux_c _ _ _ _ (by omega), ux_c _ _ _ _ (by omega), ux_c _ _ _ _ (by omega), hF.1 k (by simp; omega)]
    · rw [e]
      rcases hk with rfl | rfl | rfl
      · rw [ux_c _ _ _ _ (by decide), ux_c _ _ _ _ (by decide), ux_i _ _ _ (by omega), ux_c _ _ _ _ (by decide)]; exact hF.2 43 i (by omega) hi
      · rw [ux_c _ _ _ _ (by decide), ux_i _ _ _ (by omega), ux_c _ _ _ _ (by decide), ux_c _ _ _ _ (by decide)]; exact hF.2 44 i (by omega) hi
      · rw [ux_i _ _ _ (by omega), ux_c _ _ _ _ (by decide), ux_c _ _ _ _ (by decide), ux_c _ _ _ _ (by decide)]; exact hF.2 45 i (by omega) hi
set_option maxHeartbeats 1000000 in
theorem p_R_findWays {Q : Int → MM → Prop} {C A : MM} {c : Nat} {p : Int} (hY : Rty C A) (hw : PW C c) (hb : Rpb C A c p) (p0 : 0 ≤ p) (p5 : p < 5) (hq : ∀ M, WF A M p → (∀ t, 0 ≤ t → t < C c 0 → M 43 (400 * p + t) = C (c + 5) t ∧ M 44 (400 * p + t) = C (c + 6) t ∧ M 45 (400 * p + t) = C (c + 7) t) → Q 0 M) : w_X12_findWays Q p A := by
  obtain ⟨n0, n4, -, -, -, -, -, r0, r1, hr, -, -, hz, -⟩ := id hw
  -- the slots
  have third : ∀ M, WF A M p → WI C M c p (oR C c (C c 11)) → w_X12_findWays_b124 Q p 0 M := by
    intro M hF hI
    refine loop3 _ (fun (a t : Int) M1 => p = a ∧ 0 ≤ t ∧ t ≤ C c 0 ∧ WF A M1 p ∧ WI C M1 c p (fun u => oR C c (C c 11) u ∨ oS C c t 0 u)) (fun _ (t : Int) _ => (C c 0 - t).toNat) ?_ _ _ _ ⟨rfl, by omega, n0, hF, WI_c hI (fun t _ _ _ q => by rcases q with q | ⟨f, s, a1, a2, a3, -⟩; exact q; omega)⟩
    rintro _ t M1 f ⟨rfl, t0, t1, hF1, hI1⟩ ih
    unfold wb_X12_findWays_b124
    refine ⟨p0, p5, fun v1 e1 _ => ?_⟩
    rw [← (WF_b hb hF1).1] at e1
    subst e1
    refine ⟨fun z => hq M1 hF1 fun u u0 u1 => ?_, fun z => ?_⟩
    · rcases hI1 u u0 u1 with q | ⟨-, q⟩
      · exact q.2
      · exfalso
        refine q ?_
        rcases (hz u u0 u1).1 with ⟨-, r, a1, a2, a3, -⟩ | ⟨a1, a2, a3, a4, a5, -⟩
        · exact Or.inl ⟨r, a1, a2, a3⟩
        · exact Or.inr ⟨_, _, a1, Or.inl (by omega), a3, a4, a5⟩
    · have t2 : t < C c 0 := by omega
      have hpc := pw_bd hY hw t0 t2
      refine loop4 _ (fun (a b k : Int) M2 => p = a ∧ t = b ∧ 0 ≤ k ∧ k ≤ pcn C c t ∧ WF A M2 p ∧ WI C M2 c p (fun u => oR C c (C c 11) u ∨ oS C c t k u)) (fun _ _ (k : Int) _ => (pcn C c t - k).toNat) ?_ _ _ _ _ ⟨rfl, rfl, by omega, hpc.1, hF1, hI1⟩
      rintro _ _ k M2 g ⟨rfl, rfl, k0, k1, hF2, hI2⟩ ih2
      have hY2 := WF_Y hY hF2
      have hb2 := WF_b hb hF2
      unfold wb_X12_findWays_b136
      refine p_slotsIn hY2 hw hb2 p0 p5 t0 t2 fun _ => ⟨fun z2 => ⟨by unfold ri_; omega, ih _ _ _ ⟨rfl, by omega, by omega, hF2, WI_c hI2 fun u _ _ _ q => ?_⟩ (by omega)⟩, fun z2 => ?_⟩
      · rcases q with q | ⟨f', s', a1, a2, a3, a4, a5⟩
        · exact Or.inl q
        · refine Or.inr ⟨f', s', a1, ?_, a3, a4, a5⟩
          by_cases y : f' = t
          · subst y; exact Or.inr ⟨rfl, by omega⟩
          · exact Or.inl (by omega)
      · have k2 : k < pcn C c t := by omega
        obtain ⟨l1, l2, l3⟩ := pw_lv hw t0 t2 k0 k2
        have nxt : ∀ M3, WF A M3 p → WI C M3 c p (fun u => oR C c (C c 11) u ∨ oS C c t (k + 1) u) → w_X12_findWays_b248 Q f g p t k M3 := fun M3 q1 q2 => by
          unfold w_X12_findWays_b248
          exact ⟨by unfold ri_; omega, ih2 _ _ _ _ ⟨rfl, rfl, by omega, by omega, q1, q2⟩ (by omega)⟩
        have step : ∀ u, (fun u => oR C c (C c 11) u ∨ oS C c t (k + 1) u) u → u ≠ lv C c t k → (fun u => oR C c (C c 11) u ∨ oS C c t k u) u := by
          intro u hu hne
          rcases hu with q | ⟨f', s', a1, a2, a3, a4, a5⟩
          · exact Or.inl q
          · refine Or.inr ⟨f', s', a1, ?_, a3, a4, a5⟩
            by_cases y : f' = t ∧ s' = k
            · exfalso; rw [y.1, y.2] at a5; exact hne a5.symm
            · omega
        have go : ∀ u, u = lv C c t k → w_X12_findWays_b168 Q f g p t k u M2 := by
          intro u hu
          unfold w_X12_findWays_b168
          refine ⟨fun z3 => nxt M2 hF2 (WI_c hI2 fun x x0 _ _ q => step x q (by omega)), fun z3 => ?_⟩
          have u01 : 0 ≤ u ∧ u < C c 0 := by rcases l1 with q | q; omega; omega
          refine ⟨u01.1, by omega, fun v2 e2 _ => ⟨fun z4 => ⟨u01.1, by omega, fun M4 e4 => ?_⟩, fun z4 => nxt M2 hF2 (WI_c hI2 fun x x0 _ xm q => step x q (fun y => z4 (by rw [e2, hu, ← y]; exact xm)))⟩⟩
          have hno : ¬ (oR C c (C c 11) u ∨ oS C c t k u) := by
            rcases hI2 u u01.1 u01.2 with q | q
            · rw [← e2] at q; omega
            · exact q.2
          have hFO : FO C c u t k := Or.inr ⟨t0, t2, k0, k2, hu.symm, fun r r0 r1 q => hno (Or.inl ⟨r, r0, r1, q⟩), fun f' s' a1 a2 a3 a4 q => hno (Or.inr ⟨f', s', a1, a2, a3, a4, q⟩)⟩
          obtain ⟨hz1, hz2, hz3, hz4⟩ := hz u u01.1 u01.2
          obtain ⟨w1, w2⟩ := FO_inj hFO hz1
          -- the finder's own row stands
          have hdt : M2 43 (400 * p + t) = C (c + 5) t := by
            rcases hI2 t t0 t2 with q | ⟨-, q⟩
            · exact q.2.1
            · exfalso
              refine q ?_
              obtain ⟨y1, y2, y3, y4⟩ := hz t t0 t2
              rcases y1 with ⟨-, r, a1, a2, a3, -⟩ | ⟨a1, a2, a3, a4, a5, -⟩
              · exact Or.inl ⟨r, a1, a2, a3⟩
              · exact Or.inr ⟨_, _, a1, Or.inl (by omega), a3, a4, a5⟩
          refine p_at p0 p5 u01.1 (by omega) fun _ => p_at p0 p5 t0 (by omega) fun _ => ⟨by omega, by omega, fun v9 e9 _ => ?_⟩
          rw [e4, ux_c _ _ _ _ (by decide), hdt] at e9
          obtain ⟨-, y2, y3, -⟩ := hz t t0 t2
          refine ⟨by unfold ri_; omega, by omega, by omega, fun M11 e11 => p_at p0 p5 u01.1 (by omega) fun _ => ⟨by omega, by omega, fun M14 e14 => p_at p0 p5 u01.1 (by omega) fun _ => ⟨by omega, by omega, fun M17 e17 => ?_⟩⟩⟩
          obtain ⟨s1, s2⟩ := WI_set (M' := M17) (d := v9 + 1) (f := t) (s := k) (u := u) (o' := fun u => oR C c (C c 11) u ∨ oS C c t (k + 1) u) hI2 hF2 u01.1 u01.2 n4 (by rw [e17, e14, e11, e4]) (by rw [e9]; rcases hz4 with q | q; omega; rw [q.2.2, ← w1]) w1 w2 (fun x _ _ y q => step x q (by rw [← hu]; exact y))
          exact nxt M17 s2 s1
        refine p_linksIn hY2 hw hb2 p0 p5 t0 t2 k0 k2 (fun zk _ => ⟨fun q => by omega, fun _ => p_valueIn hY2 hw hb2 p0 p5 t0 t2 k0 k2 fun _ _ => ?_⟩) (fun zk _ => ⟨fun _ => go (-1) (l3 zk).symm, fun q => absurd rfl q⟩)
        rw [← l2 zk]
        exact ⟨by unfold ri_; omega, go _ rfl⟩
  -- the roots
  have second : ∀ M, WF A M p → WI C M c p (fun _ => False) → w_X12_findWays_b27 Q p 0 M := by
    intro M hF hI
    refine loop3 _ (fun (a r : Int) M1 => p = a ∧ 0 ≤ r ∧ r ≤ C c 11 ∧ WF A M1 p ∧ WI C M1 c p (oR C c r)) (fun _ (r : Int) _ => (C c 11 - r).toNat) ?_ _ _ _ ⟨rfl, by omega, r0, hF, WI_c hI (fun t _ _ _ q => by obtain ⟨q, a, b, -⟩ := q; omega)⟩
    rintro _ r M1 f ⟨rfl, k0, k1, hF1, hI1⟩ ih
    have hb1 := WF_b hb hF1
    unfold wb_X12_findWays_b27
    refine ⟨p0, p5, fun v1 e1 _ => ?_⟩
    rw [← hb1.2.2.2.1] at e1
    subst e1
    refine ⟨fun z => third M1 hF1 (by rw [show r = C c 11 from by omega] at hI1; exact hI1), fun z => ⟨by unfold ri_; omega, by unfold ri_; omega, by omega, by omega, fun v5 e5 _ => ?_⟩⟩
    obtain ⟨x1, x2⟩ := hb1.2.2.2.2 r k0 (by omega)
    rw [← x2] at e5
    obtain ⟨y1, y2, y3, y4⟩ := hr r k0 (by omega)
    rw [← e5] at y1 y2
    have nxt : ∀ M3, WF A M3 p → WI C M3 c p (oR C c (r + 1)) → w_X12_findWays_b116 Q f p r M3 := fun M3 q1 q2 => by
      unfold w_X12_findWays_b116
      exact ⟨by unfold ri_; omega, ih _ _ _ ⟨rfl, by omega, by omega, q1, q2⟩ (by omega)⟩
    have step : ∀ u, oR C c (r + 1) u → u ≠ v5 → oR C c r u := by
      rintro u ⟨q, a1, a2, a3⟩ hne
      refine ⟨q, a1, ?_, a3⟩
      by_cases y : q = r
      · exfalso; rw [y, ← e5] at a3; exact hne a3.symm
      · omega
    refine ⟨y1, by omega, fun v6 e6 _ => ⟨fun z6 => ⟨y1, by omega, fun M8 e8 => ?_⟩, fun z6 => nxt M1 hF1 (WI_c hI1 fun x x0 _ xm q => step x q (fun y => z6 (by rw [e6, ← y]; exact xm)))⟩⟩
    have hno : ¬ oR C c r v5 := by
      rcases hI1 v5 y1 y2 with q | q
      · rw [← e6] at q; omega
      · exact q.2
    have hFO : FO C c v5 (-1) (C (c + 11) r) := Or.inl ⟨rfl, r, k0, by omega, e5.symm, rfl, fun r' a b q => hno ⟨r', a, b, q⟩⟩
    obtain ⟨hz1, hz2, hz3, hz4⟩ := hz v5 y1 y2
    obtain ⟨w1, w2⟩ := FO_inj hFO hz1
    refine p_at p0 p5 y1 (by omega) fun _ => ⟨by omega, by omega, fun M11 e11 => p_at p0 p5 y1 (by omega) fun _ => ⟨by omega, by omega, fun M14 e14 => p_at p0 p5 y1 (by omega) fun _ => ⟨by unfold ri_; omega, by unfold ri_; omega, by omega, by omega, fun v19 e19 _ => ⟨by omega, by omega, fun M20 e20 => ?_⟩⟩⟩⟩
    rw [e14, e11, e8, ux_c _ _ _ _ (by decide), ux_c _ _ _ _ (by decide), ux_c _ _ _ _ (by decide), ← x1] at e19
    obtain ⟨s1, s2⟩ := WI_set (M' := M20) (d := 0) (f := -1) (s := v19) (u := v5) (o' := oR C c (r + 1)) hI1 hF1 y1 y2 n4 (by rw [e20, e14, e11, e8]) (by rcases hz4 with q | q; exact q.2.symm; omega) w1 (by rw [e19]; exact w2) (fun x _ _ y q => step x q y)
    exact nxt M20 s2 s1
  unfold w_X12_findWays
  refine loop3 _ (fun (a t : Int) M1 => p = a ∧ 0 ≤ t ∧ t ≤ C c 0 ∧ (∀ k, k ≠ 60 → M1 k = A k) ∧ ∀ u, 0 ≤ u → u < t → M1 60 u = 0) (fun _ (t : Int) _ => (C c 0 - t).toNat) ?_ _ _ _ ⟨rfl, by omega, n0, fun _ _ => rfl, fun u a b => by omega⟩
  rintro _ t M1 f ⟨rfl, t0, t1, hk, hm⟩ ih
  unfold wb_X12_findWays_b2
  refine ⟨p0, p5, fun v1 e1 _ => ?_⟩
  rw [hk 38 (by decide), ← hb.1] at e1
  subst e1
  refine ⟨fun z => second M1 ⟨fun k hk2 => hk k (fun q => hk2 (by rw [q]; decide)), fun k i hk2 _ => by rw [hk k (by omega)]⟩ (fun u u0 u1 => Or.inr ⟨hm u u0 (by omega), fun q => q⟩), fun z => ⟨t0, by omega, fun M3 e3 => ⟨by unfold ri_; omega, ih _ _ _ ⟨rfl, by omega, by omega, fun k hk2 => funext fun i => by rw [e3, ux_c _ _ _ _ hk2, hk k hk2], fun u u0 u1 => ?_⟩ (by omega)⟩⟩⟩
  rw [e3]
  by_cases y : u = t
  · rw [y, ux_s]
  · rw [ux_i _ _ _ y]; exact hm u u0 (by omega)
