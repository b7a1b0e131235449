/-! a new thing, on both sides -/
def fv (k : Int) : Int := if k = 5 then -1 else 0
def lf (k : Int) : Int := if k = 5 then 1 else 0
/-- the class's memory with one thing more -/
def crt (C : MM) (t n : Int) : MM := fun k i =>
  if k = 26 ∧ i = 1 then C 26 1 + 1 else if k = 26 ∧ i = 2 then C 26 2 + 1 else if k = 26 ∧ i = 3 then C 26 3 + so C t n else if k = 27 ∧ i = C 26 1 then t else if k = 28 ∧ i = C 26 1 then n else if k = 29 ∧ i = C 26 1 then C 26 3 else if k = 12 ∧ i = t ∧ 0 ≤ t ∧ t < C 8 0 then 1 else if k = 30 ∧ C 26 3 ≤ i ∧ i < C 26 3 + so C t n then fv (kA C t (i - C 26 3)) else if k = 31 ∧ C 26 3 ≤ i ∧ i < C 26 3 + so C t n then lf (kA C t (i - C 26 3)) else C k i
/-- the same, in the midst of its slots -/
def crk (C : MM) (t n j : Int) : MM := fun k i =>
  if k = 26 ∧ i = 1 then C 26 1 + 1 else if k = 26 ∧ i = 2 then C 26 2 + 1 else if k = 26 ∧ i = 3 then C 26 3 + j else if k = 27 ∧ i = C 26 1 then t else if k = 28 ∧ i = C 26 1 then n else if k = 29 ∧ i = C 26 1 then C 26 3 else if k = 12 ∧ i = t ∧ 0 ≤ t ∧ t < C 8 0 then 1 else if k = 30 ∧ C 26 3 ≤ i ∧ i < C 26 3 + j then fv (kA C t (i - C 26 3)) else if k = 31 ∧ C 26 3 ≤ i ∧ i < C 26 3 + j then lf (kA C t (i - C 26 3)) else C k i
theorem crk_end (C : MM) (t n : Int) : crk C t n (so C t n) = crt C t n := rfl
theorem crk_o (C : MM) (t n j : Int) {k : Nat} (h : k ∉ [12, 26, 27, 28, 29, 30, 31]) : crk C t n j k = C k := by
  funext i
  simp at h
  unfold crk
  rw [if_neg (by omega), if_neg (by omega), if_neg (by omega), if_neg (by omega), if_neg (by omega), if_neg (by omega), if_neg (by omega), if_neg (by omega), if_neg (by omega)]
theorem crt_o (C : MM) (t n : Int) {k : Nat} (h : k ∉ [12, 26, 27, 28, 29, 30, 31]) : crt C t n k = C k := crk_o C t n _ h
theorem crk_s (C : MM) (t n j : Int) (h : 0 ≤ j) : ux_ (ux_ (ux_ (crk C t n j) 31 (C 26 3 + j) (lf (kA C t j))) 30 (C 26 3 + j) (fv (kA C t j))) 26 3 (C 26 3 + j + 1) = crk C t n (j + 1) := by
  funext k i
  unfold ux_ crk
  by_cases a : k = 26
  · subst a; simp; by_cases b : i = 3
    · subst b; simp; omega
    · simp [b]
  · by_cases a2 : k = 30
    · subst a2
      simp
      by_cases b : i = C 26 3 + j
      · rw [if_pos b, if_pos (by omega), b, show C 26 3 + j - C 26 3 = j from by omega]
      · rw [if_neg b]
        by_cases c : C 26 3 ≤ i ∧ i < C 26 3 + j
        · rw [if_pos c, if_pos (by omega)]
        · rw [if_neg c, if_neg (by omega)]
    · by_cases a3 : k = 31
      · subst a3
        simp
        by_cases b : i = C 26 3 + j
        · rw [if_pos b, if_pos (by omega), b, show C 26 3 + j - C 26 3 = j from by omega]
        · rw [if_neg b]
          by_cases c : C 26 3 ≤ i ∧ i < C 26 3 + j
          · rw [if_pos c, if_pos (by omega)]
          · rw [if_neg c, if_neg (by omega)]
      · simp [a, a2, a3]
theorem so_bd {C R : MM} (hY : Rty C R) {t n : Int} (ht : vT (C 8 0) t) (n0 : 0 ≤ n) (n1 : n ≤ 60) : 0 ≤ so C t n ∧ so C t n ≤ 96 := by
  have h16 := hY.2.2.1
  unfold vT at ht
  unfold so
  by_cases z : 20 ≤ t
  · rw [if_pos z]; omega
  · rw [if_neg z]
    have := ty_bd hY t (by omega) (by omega)
    omega
theorem so_cl {C R : MM} (hY : Rty C R) {t n s : Int} (ht : vT (C 8 0) t) (h : s < so C t n) (q : t < 20) : s < C 16 t ∧ s < 96 := by
  have h16 := hY.2.2.1
  unfold vT at ht
  unfold so at h
  rw [if_neg (by omega)] at h
  have := ty_bd hY t (by omega) (by omega)
  omega
set_option maxHeartbeats 400000 in
theorem p_create {Q : Int → MM → Prop} {t n : Int} {C R : MM} (hY : Rty C R) (ht : vT (C 8 0) t) (n0 : 0 ≤ n) (n1 : n ≤ 60) (m0 : 0 ≤ C 26 1) (m1 : C 26 1 < 400) (d0 : 0 ≤ C 26 2) (d1 : C 26 2 ≤ 400) (s0 : 0 ≤ C 26 3) (s1 : C 26 3 + so C t n ≤ 4000) (h : Q (C 26 1) (crt C t n)) : w_X2_create Q t n C := by
  have h16 := hY.2.2.1
  have hso := so_bd hY ht n0 n1
  unfold w_X2_create
  intro v1 e1 g1 v2 e2 g2
  subst e1 e2
  refine ⟨by unfold ri_; omega, fun M4 e4 v5 e5 g5 => ?_⟩
  have r5 : v5 = C 26 2 := by rw [e5, e4, ux_i _ _ _ (by decide)]
  subst r5
  refine ⟨by unfold ri_; omega, fun M7 e7 => ⟨m0, m1, fun M8 e8 => ⟨m0, m1, fun M9 e9 v10 e10 g10 => ?_⟩⟩⟩
  have r10 : v10 = C 26 3 := by rw [e10, e9, e8, e7, e4, ux_c _ _ _ _ (by decide), ux_c _ _ _ _ (by decide), ux_i _ _ _ (by decide), ux_i _ _ _ (by decide)]
  subst r10
  refine ⟨m0, m1, fun M11 e11 => ?_⟩
  have hst : ∀ M13, M13 = crk C t n 0 → w_X10_slotsOf (fun r14 M15 => ri_ r14 → w_X2_create_b71 Q t (C 26 1) r14 0 M15) t n M13 := by
    intro M13 e13
    have q8 : M13 8 = C 8 := by rw [e13]; exact crk_o C t n 0 (by decide)
    have q16 : M13 16 = C 16 := by rw [e13]; exact crk_o C t n 0 (by decide)
    refine p_so (by rw [q8]; exact h16) (by rw [q8]; exact ht) fun _ => ?_
    rw [so_eq q16]
    subst e13
    refine loop5 _ (fun a b c j M1 => t = a ∧ C 26 1 = b ∧ so C t n = c ∧ 0 ≤ j ∧ j ≤ so C t n ∧ crk C t n j = M1) (fun _ _ _ j _ => (so C t n - j).toNat) ?_ _ _ _ _ _ ⟨rfl, rfl, rfl, by omega, hso.1, rfl⟩
    rintro _ _ _ j _ f ⟨rfl, rfl, rfl, j0, j1, rfl⟩ ih
    unfold wb_X2_create_b71
    refine ⟨fun z => ?_, fun z => ?_⟩
    · have : j = so C t n := by omega
      rw [this]; exact h
    · have q8 : crk C t n j 8 = C 8 := crk_o C t n j (by decide)
      have q24 : crk C t n j 24 = C 24 := crk_o C t n j (by decide)
      have q263 : crk C t n j 26 3 = C 26 3 + j := by simp [crk]
      refine p_kA (by rw [q8]; exact h16) (by rw [q8]; exact ht) j0 (fun q => (so_cl (n := n) (s := j) hY ht (by omega) q).2) fun _ v4 e4 g4 => ?_
      rw [kA_eq q24]
      rw [q263] at e4
      subst e4
      have fin : ∀ s, s = lf (kA C t j) → w_X2_create_b109 Q f t (C 26 1) (so C t n) j (kA C t j) s (C 26 3 + j) (crk C t n j) := by
        intro s hs
        unfold w_X2_create_b109
        refine ⟨by omega, by omega, ?_, fun M1 e1 v2 e2 g2 => ?_⟩
        · rw [hs]; unfold lf
          by_cases z5 : kA C t j = 5
          · rw [if_pos z5]; exact Or.inr rfl
          · rw [if_neg z5]; exact Or.inl rfl
        have r2 : v2 = C 26 3 + j := by rw [e2, e1, ux_c _ _ _ _ (by decide), q263]
        subst r2
        have hv : ∀ r3, r3 = fv (kA C t j) → rl_ r3 → 0 ≤ C 26 3 + j ∧ C 26 3 + j < 4000 ∧ (∀ M5, M5 = ux_ M1 30 (C 26 3 + j) r3 → (∀ v6, v6 = M5 26 3 → ri_ v6 → ri_ (v6 + 1) ∧ ((∀ M8, M8 = ux_ M5 26 3 (v6 + 1) → ri_ (j + 1) ∧ (f t (C 26 1) (so C t n) (j + 1) M8))))) := by
          intro r3 hr3 _
          refine ⟨by omega, by omega, fun M5 e5 v6 e6 g6 => ?_⟩
          have r6 : v6 = C 26 3 + j := by rw [e6, e5, ux_c _ _ _ _ (by decide), e1, ux_c _ _ _ _ (by decide), q263]
          subst r6
          refine ⟨by unfold ri_; omega, fun M8 e8 => ⟨by unfold ri_; omega, ih _ _ _ _ _ ⟨rfl, rfl, rfl, by omega, by omega, ?_⟩ (by omega)⟩⟩
          rw [e8, e5, e1, hr3, hs]; exact (crk_s C t n j j0).symm
        unfold w_X10_firstValue
        exact ⟨fun z5 => hv 0 (by unfold fv; rw [if_neg z5]), fun z5 => hv (-1) (by unfold fv; rw [if_pos z5])⟩
      exact ⟨fun z5 => fin 0 (by unfold lf; rw [if_neg z5]), fun z5 => fin 1 (by unfold lf; rw [if_pos z5])⟩
  have hM : M11 = ux_ (ux_ (ux_ (ux_ (ux_ C 26 1 (C 26 1 + 1)) 26 2 (C 26 2 + 1)) 27 (C 26 1) t) 28 (C 26 1) n) 29 (C 26 1) (C 26 3) := by rw [e11, e9, e8, e7, e4]
  have q8 : M11 8 0 = C 8 0 := by rw [hM]; simp [ux_]
  have core : ∀ k i, ¬ (k = 12) → M11 k i = crk C t n 0 k i := by
    intro k i hk
    rw [hM]
    unfold ux_ crk
    by_cases a : k = 26 ∨ k = 27 ∨ k = 28 ∨ k = 29 ∨ k = 30 ∨ k = 31
    · rcases a with rfl | rfl | rfl | rfl | rfl | rfl
      · simp
        by_cases b1 : i = 1
        · subst b1; simp
        · by_cases b2 : i = 2
          · subst b2; simp
          · by_cases b3 : i = 3
            · subst b3; simp
            · simp [b1, b2, b3]
      · simp
      · simp
      · simp
      · simp; intro a b; omega
      · simp; intro a b; omega
    · rw [if_neg (by omega), if_neg (by omega), if_neg (by omega), if_neg (by omega), if_neg (by omega), if_neg (by omega), if_neg (by omega), if_neg (by omega), if_neg (by omega), if_neg (by omega), if_neg (by omega), if_neg (by omega), if_neg (by omega), if_neg (by omega)]
  have c12 : ∀ i, M11 12 i = C 12 i := fun i => by rw [hM]; simp [ux_]
  unfold w_X10_use
  refine p_isClass (fun c0 c1 _ => ⟨fun q => by omega, fun _ => ⟨c0, by omega, fun M12 e12 => hst M12 ?_⟩⟩) (fun c0 _ => ⟨fun _ => hst M11 ?_, fun q => absurd rfl q⟩)
  · rw [q8] at c1
    rw [e12]
    funext k i
    by_cases z : k = 12
    · subst z
      unfold crk
      by_cases z2 : i = t
      · subst z2; rw [ux_s]; simp [c0, c1]
      · rw [ux_i _ _ _ z2, c12]; simp [z2]
    · rw [ux_c _ _ _ _ z, core k i z]
  · rw [q8] at c0
    funext k i
    by_cases z : k = 12
    · subst z
      rw [c12]
      unfold crk
      rw [if_neg (by omega), if_neg (by omega), if_neg (by omega), if_neg (by omega), if_neg (by omega), if_neg (by omega), if_neg (by omega), if_neg (by omega), if_neg (by omega)]
    · rw [core k i z]
/-- the reference's memory with one thing more -/
def rdk (C R : MM) (t n j : Int) : MM := fun k i =>
  if k = 0 ∧ i = 26 then R 0 26 + 1 else if k = 19 ∧ i = R 0 26 then t else if k = 20 ∧ i = R 0 26 then (if 20 ≤ t then n else 0) else if k = 21 ∧ i = R 0 26 then R 0 27 else if k = 22 ∧ i = R 0 26 then 1 else if k = 23 ∧ R 0 27 ≤ i ∧ i < R 0 27 + j then fv (kA C t (i - R 0 27)) else R k i
def rdd (C R : MM) (t n : Int) : MM := ux_ (ux_ (rdk C R t n (so C t n)) 0 27 (R 0 27 + so C t n)) 0 28 (R 0 28 + so C t n)
theorem rdk_o (C R : MM) (t n j : Int) {k : Nat} (h : k ∉ [0, 19, 20, 21, 22, 23]) : rdk C R t n j k = R k := by
  funext i
  simp at h
  unfold rdk
  rw [if_neg (by omega), if_neg (by omega), if_neg (by omega), if_neg (by omega), if_neg (by omega), if_neg (by omega)]
theorem rdk_0 (C R : MM) (t n j : Int) {i : Int} (h : i ≠ 26) : rdk C R t n j 0 i = R 0 i := by
  unfold rdk
  rw [if_neg (by omega), if_neg (by omega), if_neg (by omega), if_neg (by omega), if_neg (by omega), if_neg (by omega)]
theorem rdd_o (C R : MM) (t n : Int) {k : Nat} (h : k ∉ [0, 19, 20, 21, 22, 23]) : rdd C R t n k = R k := by
  have : k ≠ 0 := fun q => h (by rw [q]; decide)
  unfold rdd
  funext i
  rw [ux_c _ _ _ _ this, ux_c _ _ _ _ this, rdk_o C R t n _ h]
theorem rdk_Y {C R : MM} (hY : Rty C R) (t n j : Int) : Rty C (rdk C R t n j) := Rty_R hY (fun k a b _ => rdk_o C R t n j (by simp; omega)) (rdk_0 C R t n j (by decide))
set_option maxHeartbeats 400000 in
theorem p_R_add {Q : Int → MM → Prop} {t n : Int} {C R : MM} (hY : Rty C R) (ht : vT (C 8 0) t) (n0 : 20 ≤ t → 0 ≤ n) (n1 : 20 ≤ t → n ≤ 60) (m0 : 0 ≤ R 0 26) (m1 : R 0 26 < 400) (u0 : 0 ≤ R 0 27) (u1 : R 0 27 + so C t n ≤ 38500) (s0 : 0 ≤ R 0 28) (s1 : R 0 28 + so C t n ≤ 4000) (h : Q (R 0 26) (rdd C R t n)) : w_X12_add Q t n R := by
  have h16 := hY.2.2.1
  have hso : 0 ≤ so C t n ∧ so C t n ≤ 96 := by
    by_cases q : 20 ≤ t
    · exact so_bd hY ht (n0 q) (n1 q)
    · have := so_bd hY ht (n := 0) (by omega) (by omega)
      unfold so at this ⊢
      rw [if_neg q] at this ⊢; exact this
  have hend : w_X12_add_b69 Q t (R 0 26) (so C t n) 0 (rdk C R t n 0) := by
    refine loop5 _ (fun a b c j M1 => t = a ∧ R 0 26 = b ∧ so C t n = c ∧ 0 ≤ j ∧ j ≤ so C t n ∧ rdk C R t n j = M1) (fun _ _ _ j _ => (so C t n - j).toNat) ?_ _ _ _ _ _ ⟨rfl, rfl, rfl, by omega, hso.1, rfl⟩
    rintro _ _ _ j _ f ⟨rfl, rfl, rfl, j0, j1, rfl⟩ ih
    have q27 : rdk C R t n j 0 27 = R 0 27 := rdk_0 C R t n j (by decide)
    have q28 : rdk C R t n j 0 28 = R 0 28 := rdk_0 C R t n j (by decide)
    unfold wb_X12_add_b69
    refine ⟨fun z v2 e2 g2 => ?_, fun z v8 e8 g8 => ?_⟩
    · rw [q27] at e2
      subst e2
      refine ⟨by unfold ri_; omega, fun M4 e4 v5 e5 g5 => ?_⟩
      rw [e4, ux_i _ _ _ (by decide), q28] at e5
      subst e5
      refine ⟨by unfold ri_; omega, fun M7 e7 => ?_⟩
      have : j = so C t n := by omega
      rw [e7, e4, this]; exact h
    · rw [q27] at e8
      subst e8
      refine ⟨by unfold ri_; omega, p_R_kA (rdk_Y hY t n j) ht j0 (fun q => by unfold so at z; rw [if_neg (by omega)] at z; omega) fun _ => ?_⟩
      have fin : ∀ s, s = fv (kA C t j) → w_X12_add_b105 Q f t (R 0 26) (so C t n) j s (R 0 27 + j) (rdk C R t n j) := by
        intro s hs
        unfold w_X12_add_b105
        refine ⟨by omega, by omega, fun M1 e1 => ⟨by unfold ri_; omega, ih _ _ _ _ _ ⟨rfl, rfl, rfl, by omega, by omega, ?_⟩ (by omega)⟩⟩
        rw [e1, hs]
        funext k i
        unfold ux_ rdk
        by_cases a : k = 23
        · subst a
          simp
          by_cases b : i = R 0 27 + j
          · rw [if_pos (by omega), if_pos b, b, show R 0 27 + j - R 0 27 = j from by omega]
          · rw [if_neg b]
            by_cases c : R 0 27 ≤ i ∧ i < R 0 27 + j
            · rw [if_pos c, if_pos (by omega)]
            · rw [if_neg c, if_neg (by omega)]
        · simp [a]
      exact ⟨fun z5 => fin 0 (by unfold fv; rw [if_neg z5]), fun z5 => fin (-1) (by unfold fv; rw [if_pos z5])⟩
  have hmid : ∀ s M5, s = (if 20 ≤ t then n else 0) → M5 = ux_ (ux_ R 0 26 (R 0 26 + 1)) 19 (R 0 26) t → w_X12_add_b40 Q t n (R 0 26) s (R 0 26) M5 := by
    intro s M5 hs e5
    unfold w_X12_add_b40
    refine ⟨m0, m1, fun M1 e1 v2 e2 g2 => ?_⟩
    have r2 : v2 = R 0 27 := by rw [e2, e1, e5, ux_c _ _ _ _ (by decide), ux_c _ _ _ _ (by decide), ux_i _ _ _ (by decide)]
    subst r2
    refine ⟨m0, m1, fun M3 e3 => ⟨m0, m1, fun M4 e4 => ?_⟩⟩
    have fin : M4 = rdk C R t n 0 := by
      rw [e4, e3, e1, e5, hs]
      funext k i
      unfold ux_ rdk
      by_cases a : k = 0 ∨ k = 19 ∨ k = 20 ∨ k = 21 ∨ k = 22 ∨ k = 23
      · rcases a with rfl | rfl | rfl | rfl | rfl | rfl
        · simp
        · simp
        · simp
        · simp
        · simp
        · simp; intro a b; omega
      · rw [if_neg (by omega), if_neg (by omega), if_neg (by omega), if_neg (by omega), if_neg (by omega), if_neg (by omega), if_neg (by omega), if_neg (by omega), if_neg (by omega), if_neg (by omega), if_neg (by omega)]
    rw [fin]
    exact p_R_so (rdk_Y hY t n 0) ht fun _ => hend
  unfold w_X12_add
  intro v1 e1 g1 v2 e2 g2
  subst e1 e2
  refine ⟨by unfold ri_; omega, fun M4 e4 => ⟨m0, m1, fun M5 e5 => ?_⟩⟩
  have q20 : M5 0 20 = C 8 0 := by rw [e5, e4, ux_c _ _ _ _ (by decide), ux_i _ _ _ (by decide)]; exact hY.1.symm
  unfold vT at ht
  refine p_R_isClass (fun c0 c1 _ => ⟨fun q => by omega, fun _ => hmid 0 M5 (by rw [if_neg (by omega)]) (by rw [e5, e4])⟩) (fun c0 _ => ⟨fun _ => hmid n M5 (by rw [if_pos (by omega)]) (by rw [e5, e4]), fun q => absurd rfl q⟩)
