/-! a new thing: the relation holds behind it; make, on both sides -/
theorem Rty_12 {C R C' R' : MM} (h : Rty C R) (c : ∀ k, 8 ≤ k → k ≤ 25 → k ≠ 12 → C' k = C k) (r : ∀ k, 4 ≤ k → k ≤ 18 → k ≠ 6 → k ≠ 16 → R' k = R k) (r20 : R' 0 20 = R 0 20) (u : ∀ i, 0 ≤ i → i < C 8 0 → C' 12 i = R' 16 i ∧ (C 12 i = 1 → C' 12 i = 1)) (v : ∀ i, C 8 0 ≤ i → i < 16 → C' 12 i = C 12 i) : Rty C' R' := by
  have hup := fun e m => upn_eq (C := C) (C' := C') (c 11 (by decide) (by decide) (by decide)) e m
  obtain ⟨h1, h2, h3, h4, h5, h6⟩ := h
  refine ⟨by rw [c 8 (by decide) (by decide) (by decide), r20]; exact h1, by rw [c 8 (by decide) (by decide) (by decide)]; exact h2, by rw [c 8 (by decide) (by decide) (by decide)]; exact h3, ?_, ?_, ?_⟩
  · intro e e0 e1
    rw [c 8 (by decide) (by decide) (by decide)] at e1
    have := h4 e e0 e1
    unfold Rcls Rlay Rfld slC bsC enC at this ⊢
    simp only [hup, c 9 (by decide) (by decide) (by decide), c 10 (by decide) (by decide) (by decide), c 11 (by decide) (by decide) (by decide), c 13 (by decide) (by decide) (by decide), c 14 (by decide) (by decide) (by decide), c 15 (by decide) (by decide) (by decide), c 16 (by decide) (by decide) (by decide), c 17 (by decide) (by decide) (by decide), c 18 (by decide) (by decide) (by decide), c 19 (by decide) (by decide) (by decide), c 20 (by decide) (by decide) (by decide), c 21 (by decide) (by decide) (by decide), c 22 (by decide) (by decide) (by decide), c 23 (by decide) (by decide) (by decide), c 24 (by decide) (by decide) (by decide), c 25 (by decide) (by decide) (by decide), r 4 (by decide) (by decide) (by decide) (by decide), r 5 (by decide) (by decide) (by decide) (by decide), r 7 (by decide) (by decide) (by decide) (by decide), r 8 (by decide) (by decide) (by decide) (by decide), r 9 (by decide) (by decide) (by decide) (by decide), r 10 (by decide) (by decide) (by decide) (by decide), r 11 (by decide) (by decide) (by decide) (by decide), r 12 (by decide) (by decide) (by decide) (by decide), r 13 (by decide) (by decide) (by decide) (by decide), r 14 (by decide) (by decide) (by decide) (by decide), r 15 (by decide) (by decide) (by decide) (by decide), r 17 (by decide) (by decide) (by decide) (by decide), r 18 (by decide) (by decide) (by decide) (by decide)]
    obtain ⟨⟨a1, a2, a3, a4, a5, a6, a7, a8, a9, a10, a11, a12, a13⟩, q⟩ := this
    refine ⟨⟨a1, a2, a3, a4, a5, (u e e0 e1).1, a7, a8, a9, a10, a11, a12, ?_⟩, q⟩
    by_cases z : C 11 e = -1
    · exact Or.inl z
    · rcases a13 with q | q
      · exact absurd q z
      · exact Or.inr ((u _ (by omega) (by omega)).2 q)
  · intro e e0 e1
    rw [c 8 (by decide) (by decide) (by decide)] at e0
    rw [v e e0 e1, c 13 (by decide) (by decide) (by decide), c 14 (by decide) (by decide) (by decide), c 15 (by decide) (by decide) (by decide), c 16 (by decide) (by decide) (by decide), r 18 (by decide) (by decide) (by decide) (by decide)]
    exact h5 e e0 e1
  · rw [c 14 (by decide) (by decide) (by decide), c 21 (by decide) (by decide) (by decide)]; exact h6
theorem sm_cong {C C' : MM} (n : Nat) (h : ∀ o : Int, 0 ≤ o → o < n → C' 27 o = C 27 o ∧ (C 27 o ≠ -1 → ln C' o = ln C o)) : sm C' n = sm C n := by
  induction n with
  | zero => rfl
  | succ n ih =>
    show sm C' n + (if C' 27 n = -1 then 0 else ln C' n) = sm C n + (if C 27 n = -1 then 0 else ln C n)
    rw [ih (fun o a b => h o a (by omega)), (h n (by omega) (by omega)).1]
    by_cases z : C 27 n = -1
    · rw [if_pos z, if_pos z]
    · rw [if_neg z, if_neg z, (h n (by omega) (by omega)).2 z]
theorem ct_cong {C C' : MM} (n : Nat) (h : ∀ o : Int, 0 ≤ o → o < n → C' 27 o = C 27 o) : ct C' n = ct C n := by
  induction n with
  | zero => rfl
  | succ n ih =>
    show ct C' n + (if C' 27 n = -1 then 0 else 1) = ct C n + (if C 27 n = -1 then 0 else 1)
    rw [ih (fun o a b => h o a (by omega)), h n (by omega) (by omega)]
theorem ct_bd (C : MM) (n : Nat) : 0 ≤ ct C n ∧ ct C n ≤ n := by
  induction n with
  | zero => exact ⟨Int.le_refl _, Int.le_refl _⟩
  | succ n ih =>
    show 0 ≤ ct C n + (if C 27 n = -1 then 0 else 1) ∧ ct C n + (if C 27 n = -1 then 0 else 1) ≤ _
    by_cases z : C 27 n = -1
    · rw [if_pos z]; omega
    · rw [if_neg z]; omega
theorem vL_mono {C C' : MM} (ho : ∀ v, hOk C v → hOk C' v ∧ C' 27 v = C 27 v ∧ ∀ w, ft C (C 27 v) w → ft C' (C 27 v) w) {v w : Int} (h : vL C v w) : vL C' v w := by
  rcases h with h | ⟨h1, h2⟩
  · exact Or.inl h
  · obtain ⟨a, b, c⟩ := ho v h1
    exact Or.inr ⟨a, by rw [b]; exact c w h2⟩
theorem vK_mono {C C' : MM} (ho : ∀ v, hOk C v → hOk C' v ∧ C' 27 v = C 27 v ∧ ∀ w, ft C (C 27 v) w → ft C' (C 27 v) w) {k w v : Int} (h : vK C k w v) : vK C' k w v := by
  rcases h with ⟨h1, h2⟩ | h
  · exact Or.inl ⟨h1, vL_mono ho h2⟩
  · exact Or.inr h
theorem vK_fv (C : MM) (k w : Int) (h0 : 0 ≤ k) (h5 : k ≤ 5) : vK C k w (fv k) := by
  unfold vK fv
  by_cases z : k = 5
  · rw [if_pos z]; exact Or.inl ⟨z, Or.inl rfl⟩
  · rw [if_neg z]; refine Or.inr ⟨z, ?_⟩; unfold vN; omega
theorem crt_27 (C : MM) (t n i : Int) : crt C t n 27 i = if i = C 26 1 then t else C 27 i := by unfold crt; simp
theorem crt_28 (C : MM) (t n i : Int) : crt C t n 28 i = if i = C 26 1 then n else C 28 i := by unfold crt; simp
theorem crt_29 (C : MM) (t n i : Int) : crt C t n 29 i = if i = C 26 1 then C 26 3 else C 29 i := by unfold crt; simp
theorem crt_30 (C : MM) (t n i : Int) : crt C t n 30 i = if C 26 3 ≤ i ∧ i < C 26 3 + so C t n then fv (kA C t (i - C 26 3)) else C 30 i := by unfold crt; simp
theorem crt_31 (C : MM) (t n i : Int) : crt C t n 31 i = if C 26 3 ≤ i ∧ i < C 26 3 + so C t n then lf (kA C t (i - C 26 3)) else C 31 i := by unfold crt; simp
theorem crt_12 (C : MM) (t n i : Int) : crt C t n 12 i = if i = t ∧ 0 ≤ t ∧ t < C 8 0 then 1 else C 12 i := by unfold crt; simp
theorem crt_26 (C : MM) (t n i : Int) (h1 : i ≠ 1) (h2 : i ≠ 2) (h3 : i ≠ 3) : crt C t n 26 i = C 26 i := by unfold crt; simp [h1, h2, h3]
theorem rdd_19 (C R : MM) (t n i : Int) : rdd C R t n 19 i = if i = R 0 26 then t else R 19 i := by unfold rdd rdk; simp [ux_]
theorem rdd_20 (C R : MM) (t n i : Int) : rdd C R t n 20 i = if i = R 0 26 then (if 20 ≤ t then n else 0) else R 20 i := by unfold rdd rdk; simp [ux_]
theorem rdd_21 (C R : MM) (t n i : Int) : rdd C R t n 21 i = if i = R 0 26 then R 0 27 else R 21 i := by unfold rdd rdk; simp [ux_]
theorem rdd_22 (C R : MM) (t n i : Int) : rdd C R t n 22 i = if i = R 0 26 then 1 else R 22 i := by unfold rdd rdk; simp [ux_]
theorem rdd_23 (C R : MM) (t n i : Int) : rdd C R t n 23 i = if R 0 27 ≤ i ∧ i < R 0 27 + so C t n then fv (kA C t (i - R 0 27)) else R 23 i := by unfold rdd rdk; simp [ux_]
theorem rdd_0 (C R : MM) (t n i : Int) (h1 : i ≠ 26) (h2 : i ≠ 27) (h3 : i ≠ 28) : rdd C R t n 0 i = R 0 i := by unfold rdd rdk; simp [ux_, h1, h2, h3]
theorem rdd_n {C R : MM} {t n n' : Int} (h : 20 ≤ t → n' = n) : rdd C R t n' = rdd C R t n := by
  by_cases z : 20 ≤ t
  · rw [h z]
  · have : so C t n' = so C t n := by unfold so; rw [if_neg z, if_neg z]
    unfold rdd
    rw [this]
    unfold rdk
    simp only [if_neg z]
set_option maxHeartbeats 800000 in
theorem hp_new {C R R0 : MM} {t n : Int} (hY : Rty C R0) (hH : Rhp C R) (ht : vT (C 8 0) t) (n0 : 0 ≤ n) (n1 : n ≤ 60) (hn : t < 20 → n = 0) (m1 : C 26 1 < 400) (s1 : C 26 3 + so C t n ≤ 4000) : Rhp (crt C t n) (rdd C R t n) := by
  have hH' := hH
  have h16 := hY.2.2.1
  have hso := so_bd hY ht n0 n1
  obtain ⟨h1, h2, h3, h4, h5, h6, h7, h8, h9, h10, h11, h12, h13, h14⟩ := hH
  have tne : t ≠ -1 := by unfold vT at ht; omega
  have c1 : crt C t n 26 1 = C 26 1 + 1 := by simp [crt]
  have c2 : crt C t n 26 2 = C 26 2 + 1 := by simp [crt]
  have c3 : crt C t n 26 3 = C 26 3 + so C t n := by simp [crt]
  have e16 := crt_o C t n (k := 16) (by decide)
  have e24 := kA_fe (crt_o C t n (k := 24) (by decide))
  have e25 := lA_fe (crt_o C t n (k := 25) (by decide))
  have e11 := crt_o C t n (k := 11) (by decide)
  have e8 := crt_o C t n (k := 8) (by decide)
  have k27 : ∀ o, o < C 26 1 → crt C t n 27 o = C 27 o := fun o q => by rw [crt_27, if_neg (by omega)]
  have l1 : ∀ o, o < C 26 1 → ln (crt C t n) o = ln C o := fun o q => by
    unfold ln; rw [so_eq e16, crt_27, crt_28, if_neg (by omega), if_neg (by omega)]
  have l2 : ln (crt C t n) (C 26 1) = so C t n := by unfold ln; rw [so_eq e16, crt_27, crt_28, if_pos rfl, if_pos rfl]
  have hs : ∀ k : Nat, (k : Int) ≤ C 26 1 → sm (crt C t n) k = sm C k := fun k hk => sm_cong k fun o a b => ⟨k27 o (by omega), fun _ => l1 o (by omega)⟩
  have hc : ∀ k : Nat, (k : Int) ≤ C 26 1 → ct (crt C t n) k = ct C k := fun k hk => ct_cong k fun o a b => k27 o (by omega)
  have hN : ((C 26 1).toNat : Int) = C 26 1 := by omega
  have tN : (C 26 1 + 1).toNat = (C 26 1).toNat + 1 := by omega
  have s2 : sm (crt C t n) ((C 26 1).toNat + 1) = C 26 3 + so C t n := by
    show sm (crt C t n) (C 26 1).toNat + (if crt C t n 27 ((C 26 1).toNat : Int) = -1 then 0 else ln (crt C t n) ((C 26 1).toNat : Int)) = _
    rw [hN, hs _ (by omega), ← h6, crt_27, if_pos rfl, if_neg tne, l2]
  have t2 : ct (crt C t n) ((C 26 1).toNat + 1) = C 26 2 + 1 := by
    show ct (crt C t n) (C 26 1).toNat + (if crt C t n 27 ((C 26 1).toNat : Int) = -1 then 0 else 1) = _
    rw [hN, hc _ (by omega), ← h4, crt_27, if_pos rfl, if_neg tne]
  have hok : ∀ o, hOk C o → hOk (crt C t n) o := fun o ho => ⟨ho.1, by rw [c1]; have := ho.2.1; omega, by rw [k27 o ho.2.1]; exact ho.2.2⟩
  have mono : ∀ v, hOk C v → hOk (crt C t n) v ∧ crt C t n 27 v = C 27 v ∧ ∀ w, ft C (C 27 v) w → ft (crt C t n) (C 27 v) w := fun v hv => ⟨hok v hv, k27 v hv.2.1, fun w hw => (ft_eq e11 _ _).mpr hw⟩
  have r27 : rdd C R t n 0 27 = R 0 27 + so C t n := by unfold rdd; rw [ux_i _ _ _ (by decide), ux_s]
  have r28 : rdd C R t n 0 28 = R 0 28 + so C t n := by unfold rdd; rw [ux_s]
  have r26 : rdd C R t n 0 26 = R 0 26 + 1 := by unfold rdd rdk; simp [ux_]
  refine ⟨by rw [c1, r26, h1], by rw [c1]; omega, by rw [c1]; omega, by rw [c2, c1, tN, t2], by rw [c3, r28, h5], by rw [c3, c1, tN, s2], by rw [c3]; exact s1, by rw [r27]; omega, by rw [r27, c1]; omega, ?_, ?_, ?_, ?_, ?_⟩
  · intro o o0 o1
    rw [c1] at o1
    by_cases z : o = C 26 1
    · subst z
      unfold Rob
      rw [l2, r27, e24, e25, rdd_19, rdd_20, rdd_21, rdd_22, crt_27, crt_28, crt_29, e8, if_pos rfl, if_pos rfl, if_pos rfl, if_pos h1, if_pos h1, if_pos h1, if_pos h1, if_neg tne]
      refine ⟨rfl, fun _ => ⟨rfl, ht, fun q => ⟨?_, hn q⟩, ?_, n0, n1, ?_, h8, by omega, fun k k0 k1 => ?_⟩⟩
      · unfold vT at ht
        rw [crt_12, if_pos ⟨rfl, by omega, by omega⟩]
      · by_cases q : 20 ≤ t
        · rw [if_pos q]
        · rw [if_neg q]; exact hn (by omega)
      · rw [hs _ (by omega)]; exact h6
      · rw [crt_30, crt_31, rdd_23, if_pos (by omega), if_pos (by omega), if_pos (by omega), show C 26 3 + k - C 26 3 = k from by omega, show R 0 27 + k - R 0 27 = k from by omega]
        have hb := kA_bd hY ht k0 (fun q => (so_cl hY ht k1 q).1)
        exact ⟨rfl, rfl, vK_fv _ _ _ hb.1 hb.2⟩
    · have o2 : o < C 26 1 := by omega
      obtain ⟨q1, q2⟩ := h10 o o0 o2
      unfold Rob
      have zR : ¬ o = R 0 26 := by omega
      rw [l1 o o2, r27, e24, e25, rdd_19, rdd_20, rdd_21, rdd_22, crt_27, crt_28, crt_29, e8, if_neg z, if_neg z, if_neg z, if_neg zR, if_neg zR, if_neg zR, if_neg zR]
      refine ⟨q1, fun hne => ?_⟩
      obtain ⟨a1, a2, a3, a4, a5, a6, a7, a8, a9, a10⟩ := q2 hne
      have hat := hp_at hY hH' (o := o) ⟨o0, o2, hne⟩
      refine ⟨a1, a2, fun q => ⟨?_, (a3 q).2⟩, a4, a5, a6, ?_, a8, by omega, fun k k0 k1 => ?_⟩
      · rw [crt_12]
        by_cases z2 : C 27 o = t ∧ 0 ≤ t ∧ t < C 8 0
        · rw [if_pos z2]
        · rw [if_neg z2]; exact (a3 q).1
      · rw [hs _ (by omega)]; exact a7
      · have x1 : ¬ (C 26 3 ≤ C 29 o + k ∧ C 29 o + k < C 26 3 + so C t n) := by omega
        have x2 : ¬ (R 0 27 ≤ R 21 o + k ∧ R 21 o + k < R 0 27 + so C t n) := by omega
        rw [crt_30, crt_31, rdd_23, if_neg x1, if_neg x1, if_neg x2]
        obtain ⟨b1, b2, b3⟩ := a10 k k0 k1
        exact ⟨b1, b2, vK_mono mono b3⟩
  · intro o o' o0 oo o1 ne ne'
    rw [c1] at o1
    rw [l1 o (by omega), rdd_21, rdd_21, if_neg (by omega)]
    rw [k27 o (by omega)] at ne
    by_cases z : o' = C 26 1
    · rw [if_pos (by omega)]
      obtain ⟨-, q2⟩ := h10 o o0 (by omega)
      exact (q2 ne).2.2.2.2.2.2.2.2.1
    · rw [if_neg (by omega)]
      rw [k27 o' (by omega)] at ne'
      exact h11 o o' o0 oo (by omega) ne ne'
  · obtain ⟨g1, g2, g3, g4, g5⟩ := h12
    have e1 : crt C t n 26 11 = C 26 11 := crt_26 C t n 11 (by decide) (by decide) (by decide)
    have e2 : crt C t n 33 = C 33 := crt_o C t n (by decide)
    have e3 : rdd C R t n 0 31 = R 0 31 := rdd_0 C R t n 31 (by decide) (by decide) (by decide)
    have e4 : rdd C R t n 24 = R 24 := rdd_o C R t n (by decide)
    unfold Rrt
    rw [e1, e2, e3, e4]
    exact ⟨g1, g2, g3, fun k k0 k1 => ⟨(g4 k k0 k1).1, hok _ (g4 k k0 k1).2⟩, g5⟩
  · unfold Rst
    rw [crt_o C t n (by decide), rdd_o C R t n (by decide)]
    exact h13
  · unfold Rsv
    rw [e8, crt_o C t n (k := 14) (by decide), crt_o C t n (k := 19) (by decide), crt_o C t n (k := 20) (by decide), crt_o C t n (k := 21) (by decide), crt_o C t n (k := 32) (by decide)]
    exact fun c k c0 c1 k0 k1 k2 k5 => vL_mono mono (h14 c k c0 c1 k0 k1 k2 k5)
