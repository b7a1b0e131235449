/-! typeLook, apart, root -/
/-- how many of the first n things are of type t -/
def cto (C : MM) (t : Int) : Nat → Int
  | 0 => 0
  | n + 1 => cto C t n + (if C 27 n = t then 1 else 0)
theorem cto_bd (C : MM) (t : Int) (n : Nat) : 0 ≤ cto C t n ∧ cto C t n ≤ n := by
  induction n with
  | zero => exact ⟨by show (0 : Int) ≤ 0; omega, by show (0 : Int) ≤ 0; omega⟩
  | succ n ih =>
    show 0 ≤ cto C t n + (if C 27 n = t then 1 else 0) ∧ cto C t n + (if C 27 n = t then 1 else 0) ≤ _
    by_cases z : C 27 n = t
    · rw [if_pos z]; omega
    · rw [if_neg z]; omega
theorem cto_s (C : MM) (t : Int) {k : Int} (h : 0 ≤ k) : cto C t (k + 1).toNat = cto C t k.toNat + (if C 27 k = t then 1 else 0) := by
  rw [show (k + 1).toNat = k.toNat + 1 from by omega]
  show cto C t k.toNat + (if C 27 ((k.toNat : Nat) : Int) = t then 1 else 0) = _
  rw [show ((k.toNat : Nat) : Int) = k from by omega]
theorem p_countOf {Q : Int → MM → Prop} {t : Int} {M : MM} (h0 : 0 ≤ M 26 1) (h1 : M 26 1 ≤ 400) (h : Q (cto M t (M 26 1).toNat) M) : w_X2_countOf Q t M := by
  unfold w_X2_countOf
  refine loop4 _ (fun a n k M1 => t = a ∧ M = M1 ∧ 0 ≤ k ∧ k ≤ M 26 1 ∧ n = cto M t k.toNat) (fun _ _ k _ => (M 26 1 - k).toNat) ?_ _ _ _ _ ⟨rfl, rfl, by omega, h0, rfl⟩
  rintro _ n k _ f ⟨rfl, rfl, k0, k1, hn⟩ ih
  have hb := cto_bd M t k.toNat
  have hs := cto_s M t k0
  unfold wb_X2_countOf_b4
  intro v e g
  subst e
  refine ⟨fun z => ?_, fun z => ⟨k0, by omega, fun v3 e3 g3 => ⟨fun z3 => ⟨by unfold ri_; omega, ih _ _ _ _ ⟨rfl, rfl, by omega, by omega, ?_⟩ (by omega)⟩, fun z3 => ⟨by unfold ri_; omega, by unfold ri_; omega, ih _ _ _ _ ⟨rfl, rfl, by omega, by omega, ?_⟩ (by omega)⟩⟩⟩⟩
  · have : k = M 26 1 := by omega
    rw [hn, this]; exact h
  · rw [hs, if_neg (by rw [← e3]; exact z3)]; omega
  · rw [hs, if_pos (by rw [← e3]; exact z3)]; omega
/-- in the reference, what typeLook adds up -/
theorem p_R_typeLook {Q : Int → MM → Prop} {c w : Int} {C R : MM} (hY : Rty C R) (hH : Rhp C R) (c0 : 0 ≤ c) (c1 : c < C 8 0) (h : w_X12_typeLook_b66 Q c w (C 15 c) (cto C c (C 26 1).toNat) (C 26 1) R) : w_X12_typeLook_b23 Q c w 0 0 0 R := by
  have h16 := hY.2.2.1
  obtain ⟨⟨a1, a2, a3, a4, a5, a6, a7, a8, a9, a10, a11, a12, a13⟩, ⟨l1, l2, l3, l4⟩, sC, fl⟩ := hY.2.2.2.1 c c0 c1
  have H66 : w_X12_typeLook_b66 Q c w (C 15 c) 0 0 R := by
    have hm := hH.1
    have hm0 := hH.2.1
    have hm4 := hH.2.2.1
    obtain ⟨N, hN⟩ := h
    have K : ∀ (m : Nat) (k : Int), 0 ≤ k → k ≤ C 26 1 → C 26 1 - k = m → ∃ n, jit (fun _ _ _ _ _ _ => False) (wb_X12_typeLook_b66 Q) n c w (C 15 c) (cto C c k.toNat) k R := by
      intro m
      induction m with
      | zero => intro k k0 k1 hk; have : k = C 26 1 := by omega
                subst this; exact ⟨N, hN⟩
      | succ m ih =>
        intro k k0 k1 hk
        obtain ⟨n, hn⟩ := ih (k + 1) (by omega) (by omega) (by omega)
        refine ⟨n + 1, ?_⟩
        show wb_X12_typeLook_b66 Q (jit (fun _ _ _ _ _ _ => False) (wb_X12_typeLook_b66 Q) n) c w (C 15 c) (cto C c k.toNat) k R
        have hb := cto_bd C c k.toNat
        have hs := cto_s C c k0
        have ho := hH.2.2.2.2.2.2.2.2.2.1 k k0 (by omega)
        unfold wb_X12_typeLook_b66
        intro v e g
        rw [← hm] at e
        have hno : C 27 k ≠ c → w_X12_typeLook_b102 Q (jit (fun _ _ _ _ _ _ => False) (wb_X12_typeLook_b66 Q) n) c w (C 15 c) k (cto C c k.toNat) R := by
          intro q
          unfold w_X12_typeLook_b102 w_X12_typeLook_b103
          rw [if_neg q] at hs
          rw [hs] at hn
          exact ⟨by unfold ri_; omega, by unfold ri_; omega, hn⟩
        refine ⟨fun z => by omega, fun z => ⟨k0, by omega, fun v20 e20 g20 => ?_⟩⟩
        rw [ho.1] at e20
        refine ⟨fun z2 => hno ?_, fun z2 => ⟨k0, by omega, fun v22 e22 g22 => ?_⟩⟩
        · by_cases zz : C 27 k = -1
          · omega
          · rw [if_neg zz] at e20; omega
        · have zz : C 27 k ≠ -1 := by
            intro q; rw [if_pos q] at e20; exact z2 e20
          rw [← (ho.2 zz).1] at e22
          refine ⟨fun z3 => hno (by rw [← e22]; exact z3), fun z3 => ?_⟩
          unfold w_X12_typeLook_b103
          rw [if_pos (by rw [← e22]; exact z3)] at hs
          rw [hs] at hn
          exact ⟨by unfold ri_; omega, by unfold ri_; omega, hn⟩
    exact K (C 26 1).toNat 0 (by omega) (by omega) (by omega)
  refine loop6 _ (fun a b s t k M1 => c = a ∧ w = b ∧ t = 0 ∧ R = M1 ∧ 0 ≤ k ∧ k ≤ C 14 c ∧ s = k - ns (C 21) (6 * c) k.toNat) (fun _ _ _ _ k _ => (C 14 c - k).toNat) ?_ _ _ _ _ _ _ ⟨rfl, rfl, rfl, rfl, by omega, a9, rfl⟩
  rintro _ _ s _ k _ f ⟨rfl, rfl, rfl, rfl, k0, k1, hs⟩ ih
  have hb := ns_bd (C 21) (6 * c) k.toNat
  have hss : ns (C 21) (6 * c) (k + 1).toNat = ns (C 21) (6 * c) k.toNat + (if C 21 (6 * c + k) = 0 then 1 else 0) := by
    rw [show (k + 1).toNat = k.toNat + 1 from by omega]
    show ns (C 21) (6 * c) k.toNat + (if C 21 (6 * c + ((k.toNat : Nat) : Int)) = 0 then 1 else 0) = _
    rw [show ((k.toNat : Nat) : Int) = k from by omega]
  unfold wb_X12_typeLook_b23
  refine ⟨c0, by omega, fun v e g => ?_⟩
  rw [← a8] at e
  subst e
  refine ⟨fun z => ?_, fun z => ⟨by unfold ri_; omega, by unfold ri_; omega, by omega, by omega, fun v5 e5 g5 => ?_⟩⟩
  · have : k = C 14 c := by omega
    rw [hs, this, ← l1]; exact H66
  · rw [← (fl k k0 (by omega)).2.2.2.2.2.1] at e5
    unfold w_X12_typeLook_b55
    refine ⟨fun z5 => ⟨by unfold ri_; omega, by unfold ri_; omega, ih _ _ _ _ _ _ ⟨rfl, rfl, rfl, rfl, by omega, by omega, ?_⟩ (by omega)⟩, fun z5 => ⟨by unfold ri_; omega, by unfold ri_; omega, ih _ _ _ _ _ _ ⟨rfl, rfl, rfl, rfl, by omega, by omega, ?_⟩ (by omega)⟩⟩
    · rw [hss, if_pos (by rw [← e5]; exact z5)]; omega
    · rw [hss, if_neg (by rw [← e5]; exact z5)]; omega
theorem t_typeLook {C R : MM} {c w : Int} (h : RB C R) : w_X11_typeLook (fun r C' => C' = C ∧ w_X12_typeLook (fun r' R' => r = r' ∧ R' = ux_ R 0 0 0) c w R) c w C := by
  have hB := RB_00 h 0
  obtain ⟨hA, hL, hH⟩ := h
  obtain ⟨hA', hL', hH'⟩ := hB
  have hY := hA.2.2.2.2
  have hY' := hA'.2.2.2.2
  have h16 := hY.2.2.1
  have e20 : ux_ R 0 0 0 0 20 = C 8 0 := hY'.1.symm
  unfold w_X11_typeLook
  refine p_isClass (fun c0 c1 _ => ⟨fun _ => ?_, fun q => by omega⟩) (fun hno _ => ⟨fun q => absurd rfl q, fun _ => ⟨rfl, ?_⟩⟩)
  · obtain ⟨⟨a1, a2, a3, a4, a5, a6, a7, a8, a9, a10, a11, a12, a13⟩, -⟩ := hY'.2.2.2.1 c c0 c1
    have key : ∀ r, (w = 0 → r = C 11 c) → (w = 1 → r = C 10 c) → (w = 2 → r = C 14 c) → (w = 3 → r = C 16 c) → (w = 4 → r = sz C c 0) → (w = 5 → r = (if C 12 c = 0 then 0 else 1)) → (w = 6 → r = C 15 c) → (w = 7 → r = cto C c (C 26 1).toNat) → (¬ (0 ≤ w ∧ w ≤ 7) → r = -1) → C = C ∧ w_X12_typeLook (fun r' R' => r = r' ∧ R' = ux_ R 0 0 0) c w R := by
      intro r k0 k1 k2 k3 k4 k5 k6 k7 k8
      refine ⟨rfl, ?_⟩
      unfold w_X12_typeLook
      intro M1 e1
      subst e1
      refine p_R_isClass (fun _ _ _ => ⟨fun _ => p_R_typeLook hY' hH' c0 c1 ?_, fun q => by omega⟩) (fun q => absurd ⟨c0, by rw [e20]; exact c1⟩ q)
      refine ⟨1, ?_⟩
      show wb_X12_typeLook_b66 _ _ c w (C 15 c) (cto C c (C 26 1).toNat) (C 26 1) (ux_ R 0 0 0)
      unfold wb_X12_typeLook_b66
      intro v e g
      rw [← hH'.1] at e
      refine ⟨fun _ => ⟨fun z => ⟨c0, by omega, fun v e g => ⟨by rw [e, ← a3]; exact k0 z, rfl⟩⟩, fun z => ⟨c0, by omega, fun v e g => ⟨by rw [e, ← a2]; exact k1 z, rfl⟩⟩, fun z => ⟨c0, by omega, fun v e g => ⟨by rw [e, ← a8]; exact k2 z, rfl⟩⟩, fun z => ⟨c0, by omega, fun v e g => ⟨by rw [e, ← a11]; exact k3 z, rfl⟩⟩, fun z => ?_, fun z => ⟨c0, by omega, fun v e g => ?_⟩, fun z => ⟨k6 z, rfl⟩, fun z => ⟨k7 z, rfl⟩, fun z => ⟨k8 (by omega), rfl⟩⟩, fun q => by omega⟩
      · have := ty_bd hY c c0 c1
        have k4' := k4 z
        unfold sz at k4'
        rw [if_neg (by omega)] at k4'
        unfold w_X12_sizeOf
        refine ⟨c0, by omega, fun v e g => ?_⟩
        rw [← a12] at e
        subst e
        rw [Int.tdiv_eq_ediv_of_nonneg (by omega)]
        exact ⟨by unfold ri_; omega, by unfold ri_; omega, by unfold ri_; omega, fun _ => ⟨k4', rfl⟩⟩
      · have := k5 z
        rw [a6, ← e] at this
        exact ⟨fun z2 => ⟨by rw [if_pos z2] at this; exact this, rfl⟩, fun z2 => ⟨by rw [if_neg z2] at this; exact this, rfl⟩⟩
    refine ⟨fun z => ⟨c0, by omega, fun v e g => ?_⟩, fun z => ⟨c0, by omega, fun v e g => ?_⟩, fun z => ⟨c0, by omega, fun v e g => ?_⟩, fun z => ⟨c0, by omega, fun v e g => ?_⟩, fun z => p_sizeOf hY (Or.inl ⟨c0, c1⟩) (by omega) (by omega) fun _ => ?_, fun z => ⟨c0, by omega, fun v e g => ?_⟩, fun z => ⟨c0, by omega, fun v e g => ?_⟩, fun z => p_countOf hH.2.1 hH.2.2.1 fun _ => ?_, fun z => ?_⟩
    · exact key v (fun _ => e) (fun q => by omega) (fun q => by omega) (fun q => by omega) (fun q => by omega) (fun q => by omega) (fun q => by omega) (fun q => by omega) (fun q => by omega)
    · exact key v (fun q => by omega) (fun _ => e) (fun q => by omega) (fun q => by omega) (fun q => by omega) (fun q => by omega) (fun q => by omega) (fun q => by omega) (fun q => by omega)
    · exact key v (fun q => by omega) (fun q => by omega) (fun _ => e) (fun q => by omega) (fun q => by omega) (fun q => by omega) (fun q => by omega) (fun q => by omega) (fun q => by omega)
    · exact key v (fun q => by omega) (fun q => by omega) (fun q => by omega) (fun _ => e) (fun q => by omega) (fun q => by omega) (fun q => by omega) (fun q => by omega) (fun q => by omega)
    · exact key _ (fun q => by omega) (fun q => by omega) (fun q => by omega) (fun q => by omega) (fun _ => rfl) (fun q => by omega) (fun q => by omega) (fun q => by omega) (fun q => by omega)
    · subst e
      exact ⟨fun z2 => key 0 (fun q => by omega) (fun q => by omega) (fun q => by omega) (fun q => by omega) (fun q => by omega) (fun _ => by rw [if_pos z2]) (fun q => by omega) (fun q => by omega) (fun q => by omega), fun z2 => key 1 (fun q => by omega) (fun q => by omega) (fun q => by omega) (fun q => by omega) (fun q => by omega) (fun _ => by rw [if_neg z2]) (fun q => by omega) (fun q => by omega) (fun q => by omega)⟩
    · exact key v (fun q => by omega) (fun q => by omega) (fun q => by omega) (fun q => by omega) (fun q => by omega) (fun q => by omega) (fun _ => e) (fun q => by omega) (fun q => by omega)
    · exact key _ (fun q => by omega) (fun q => by omega) (fun q => by omega) (fun q => by omega) (fun q => by omega) (fun q => by omega) (fun q => by omega) (fun _ => rfl) (fun q => by omega)
    · exact key (-1) (fun q => by omega) (fun q => by omega) (fun q => by omega) (fun q => by omega) (fun q => by omega) (fun q => by omega) (fun q => by omega) (fun q => by omega) (fun _ => rfl)
  · unfold w_X12_typeLook
    intro M1 e1
    subst e1
    exact p_R_isClass (fun c0 c1 => absurd ⟨c0, by rw [e20] at c1; exact c1⟩ hno) (fun _ _ => ⟨fun q => absurd rfl q, fun _ => ⟨rfl, rfl⟩⟩)
/-- apart: both put it down -/
theorem t_apart {C R : MM} {c b : Int} (h : RB C R) : w_X11_apart (fun r C' => w_X12_apart (fun r' R' => r = r' ∧ ((C' = C ∧ R' = ux_ R 0 0 0) ∨ (0 ≤ c ∧ c < C 8 0 ∧ C' = ux_ C 13 c b ∧ R' = ux_ (ux_ R 0 0 0) 18 c b))) c b R) c b C := by
  obtain ⟨hA, hL, hH⟩ := h
  have hY := hA.2.2.2.2
  have h16 := hY.2.2.1
  have e20 : ux_ R 0 0 0 0 20 = C 8 0 := by rw [ux_i _ _ _ (by decide)]; exact hY.1.symm
  unfold w_X11_apart w_X12_apart
  refine p_isClass (fun c0 c1 _ => ⟨fun _ => ⟨c0, by omega, fun M4 e4 M1 e1 => ?_⟩, fun q => by omega⟩) (fun hno _ => ⟨fun q => absurd rfl q, fun _ M1 e1 => ?_⟩)
  · subst e1
    exact p_R_isClass (fun _ _ _ => ⟨fun _ => ⟨c0, by omega, fun M5 e5 => ⟨rfl, Or.inr ⟨c0, c1, e4, e5⟩⟩⟩, fun q => by omega⟩) (fun q => absurd ⟨c0, by rw [e20]; exact c1⟩ q)
  · subst e1
    exact p_R_isClass (fun c0 c1 => absurd ⟨c0, by rw [e20] at c1; exact c1⟩ hno) (fun _ _ => ⟨fun q => absurd rfl q, fun _ => ⟨rfl, Or.inl ⟨rfl, rfl⟩⟩⟩)
theorem Rty_13 {C R : MM} {c b x : Int} (h : Rty C R) (c1 : c < C 8 0) : Rty (ux_ C 13 c b) (ux_ (ux_ R 0 0 x) 18 c b) := by
  have a : ∀ k, k ≠ 13 → ux_ C 13 c b k = C k := fun k hk => funext fun i => ux_c _ _ _ _ hk
  have d : ∀ k, k ≠ 0 → k ≠ 18 → ux_ (ux_ R 0 0 x) 18 c b k = R k := fun k hk h2 => funext fun i => by rw [ux_c _ _ _ _ h2, ux_c _ _ _ _ hk]
  have d0 : ux_ (ux_ R 0 0 x) 18 c b 0 20 = R 0 20 := by rw [ux_c _ _ _ _ (by decide), ux_i _ _ _ (by decide)]
  have hup := fun e m => upn_eq (C := C) (C' := ux_ C 13 c b) (a 11 (by decide)) e m
  obtain ⟨h1, h2, h3, h4, h5, h6⟩ := h
  refine ⟨by rw [a 8 (by decide), d0]; exact h1, by rw [a 8 (by decide)]; exact h2, by rw [a 8 (by decide)]; exact h3, ?_, ?_, ?_⟩
  · intro e e0 e1
    rw [a 8 (by decide)] at e1
    have := h4 e e0 e1
    unfold Rcls Rlay Rfld slC bsC enC at this ⊢
    simp only [hup, a 9 (by decide), a 10 (by decide), a 11 (by decide), a 12 (by decide), a 14 (by decide), a 15 (by decide), a 16 (by decide), a 17 (by decide), a 18 (by decide), a 19 (by decide), a 20 (by decide), a 21 (by decide), a 22 (by decide), a 23 (by decide), a 24 (by decide), a 25 (by decide), d 4 (by decide) (by decide), d 5 (by decide) (by decide), d 7 (by decide) (by decide), d 8 (by decide) (by decide), d 9 (by decide) (by decide), d 10 (by decide) (by decide), d 11 (by decide) (by decide), d 12 (by decide) (by decide), d 13 (by decide) (by decide), d 14 (by decide) (by decide), d 15 (by decide) (by decide), d 16 (by decide) (by decide), d 17 (by decide) (by decide)]
    obtain ⟨⟨a1, a2, a3, a4, a5, a6, a7, a8⟩, q⟩ := this
    refine ⟨⟨a1, a2, a3, a4, a5, a6, ?_, a8⟩, q⟩
    by_cases z : e = c
    · rw [z, ux_s, ux_s]
    · rw [ux_i _ _ _ z, ux_i _ _ _ z, ux_c _ _ _ _ (by decide)]; exact a7
  · intro e e0 e1
    rw [a 8 (by decide)] at e0
    rw [a 12 (by decide), a 14 (by decide), a 15 (by decide), a 16 (by decide), ux_i _ _ _ (by omega), ux_i _ _ _ (by omega), ux_c _ _ _ _ (by decide)]
    exact h5 e e0 e1
  · rw [a 14 (by decide), a 21 (by decide)]; exact h6
/-- roots -/
theorem p_rootPlace {Q : Int → MM → Prop} {o : Int} {M : MM} (h0 : 0 ≤ M 26 11) (h1 : M 26 11 ≤ 12) (h : ∀ k, 0 ≤ k → k < M 26 11 → M 33 k = o → Q k M) (hn : (∀ k, 0 ≤ k → k < M 26 11 → M 33 k ≠ o) → Q (-1) M) : w_X2_rootPlace Q o M := by
  unfold w_X2_rootPlace
  refine loop3 _ (fun a k M1 => o = a ∧ M = M1 ∧ 0 ≤ k ∧ k ≤ M 26 11 ∧ ∀ j, 0 ≤ j → j < k → M 33 j ≠ o) (fun _ k _ => (M 26 11 - k).toNat) ?_ _ _ _ ⟨rfl, rfl, by omega, h0, fun j j0 j1 => by omega⟩
  rintro _ k _ f ⟨rfl, rfl, k0, k1, hj⟩ ih
  unfold wb_X2_rootPlace_b2
  intro v e g
  subst e
  refine ⟨fun z => hn fun j j0 j1 => hj j j0 (by omega), fun z => ⟨k0, by omega, fun v3 e3 g3 => ⟨fun z3 => ⟨by unfold ri_; omega, ih _ _ _ ⟨rfl, rfl, by omega, by omega, fun j j0 j1 => ?_⟩ (by omega)⟩, fun z3 => h k k0 (by omega) (by rw [← e3]; exact z3)⟩⟩⟩
  by_cases e : j = k
  · rw [e, ← e3]; exact z3
  · exact hj j j0 (by omega)
theorem p_R_rootAt {Q : Int → MM → Prop} {o : Int} {R : MM} (h0 : 0 ≤ R 0 31) (h1 : R 0 31 ≤ 12) (h : ∀ k, 0 ≤ k → k < R 0 31 → R 24 k = o → Q k R) (hn : (∀ k, 0 ≤ k → k < R 0 31 → R 24 k ≠ o) → Q (-1) R) : w_X12_rootAt Q o R := by
  unfold w_X12_rootAt
  refine loop4 _ (fun a g k M1 => o = a ∧ R = M1 ∧ 0 ≤ k ∧ k ≤ R 0 31 ∧ ((0 ≤ g ∧ g < k ∧ R 24 g = o) ∨ (g = -1 ∧ ∀ j, 0 ≤ j → j < k → R 24 j ≠ o))) (fun _ _ k _ => (R 0 31 - k).toNat) ?_ _ _ _ _ ⟨rfl, rfl, by omega, h0, Or.inr ⟨rfl, fun j j0 j1 => by omega⟩⟩
  rintro _ g k _ f ⟨rfl, rfl, k0, k1, hj⟩ ih
  unfold wb_X12_rootAt_b4 w_X12_rootAt_b27
  intro v e g'
  subst e
  refine ⟨fun z => ?_, fun z => ⟨k0, by omega, fun v3 e3 g3 => ⟨fun z3 => ⟨by unfold ri_; omega, ih _ _ _ _ ⟨rfl, rfl, by omega, by omega, ?_⟩ (by omega)⟩, fun z3 => ⟨by unfold ri_; omega, ih _ _ _ _ ⟨rfl, rfl, by omega, by omega, Or.inl ⟨k0, by omega, by rw [← e3]; exact z3⟩⟩ (by omega)⟩⟩⟩⟩
  · rcases hj with ⟨a, b, c⟩ | ⟨rfl, b⟩
    · exact h g a (by omega) c
    · exact hn fun j j0 j1 => b j j0 (by omega)
  · rcases hj with ⟨a, b, c⟩ | ⟨a, b⟩
    · exact Or.inl ⟨a, by omega, c⟩
    · refine Or.inr ⟨a, fun j j0 j1 => ?_⟩
      by_cases e : j = k
      · rw [e, ← e3]; exact z3
      · exact b j j0 (by omega)
/-- a row moved up by one from p on to n -/
def shf (M : MM) (c : Nat) (p n : Int) : MM := fun k i => if k = c ∧ p ≤ i ∧ i < n then M c (i + 1) else M k i
theorem shf_step (M : MM) (c : Nat) (p k : Int) (h : p ≤ k) : ux_ (shf M c p k) c k (shf M c p k c (k + 1)) = shf M c p (k + 1) := by
  funext d i
  unfold ux_ shf
  by_cases z1 : d = c ∧ i = k
  · rw [if_pos z1, if_neg (by omega), if_pos ⟨z1.1, by omega, by omega⟩, z1.2]
  · rw [if_neg z1]
    by_cases z2 : d = c ∧ p ≤ i ∧ i < k
    · rw [if_pos z2, if_pos ⟨z2.1, z2.2.1, by omega⟩]
    · rw [if_neg z2, if_neg (by omega)]
theorem shf_0 (M : MM) (c : Nat) (p : Int) : shf M c p p = M := by
  funext d i
  unfold shf
  rw [if_neg (by omega)]
theorem p_dropRoot {Q : Int → MM → Prop} {p : Int} {M : MM} (p0 : 0 ≤ p) (p1 : p < M 26 11) (p2 : M 26 11 ≤ 12) (h : Q 0 (shf (ux_ M 26 11 (M 26 11 - 1)) 33 p (M 26 11 - 1))) : w_X2_dropRoot Q p M := by
  unfold w_X2_dropRoot
  intro v e g
  subst e
  refine ⟨by unfold ri_; omega, fun M3 e3 => ?_⟩
  refine loop2 _ (fun k M1 => p ≤ k ∧ k ≤ M 26 11 - 1 ∧ M1 = shf M3 33 p k) (fun k _ => (M 26 11 - k).toNat) ?_ _ _ ⟨by omega, by omega, ?_⟩
  · rintro k M1 f ⟨k0, k1, hM⟩ ih
    unfold wb_X2_dropRoot_b12
    intro v e g
    have ev : v = M 26 11 - 1 := by rw [e, hM]; simp [shf]; rw [e3, ux_s]
    refine ⟨fun z => ?_, fun z => ⟨by unfold ri_; omega, by omega, by omega, fun v4 e4 g4 => ⟨by omega, by omega, fun M5 e5 => ⟨by unfold ri_; omega, ih _ _ ⟨by omega, by omega, ?_⟩ (by omega)⟩⟩⟩⟩
    · have : k = M 26 11 - 1 := by omega
      rw [hM, this, e3]; exact h
    · rw [e5, e4, hM]; exact shf_step _ _ _ _ k0
  · exact (shf_0 _ _ _).symm
