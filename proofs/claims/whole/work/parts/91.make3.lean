/-! make, on both sides -/
theorem ux_id {M : MM} {c : Nat} {i v : Int} (h : M c i = v) : ux_ M c i v = M := by
  funext k j
  unfold ux_
  by_cases z : k = c ∧ j = i
  · rw [if_pos z, z.1, z.2]; exact h.symm
  · rw [if_neg z]
theorem p_R_mk99 {Q : Int → MM → Prop} {t n : Int} {C R : MM} (hY : Rty C R) (t0 : 0 ≤ t) (t1 : t < C 8 0) (h : w_X12_make_b121 Q t n (ux_ R 16 t 1)) : w_X12_make_b99 Q t n t R := by
  have h16 := hY.2.2.1
  refine loop4 _ (fun a b x M1 => t = a ∧ n = b ∧ ((x = t ∧ R = M1) ∨ (ux_ R 16 t 1 = M1 ∧ (x = -1 ∨ (0 ≤ x ∧ x < t ∧ C 12 x = 1))))) (fun _ _ x _ => (x + 1).toNat) ?_ _ _ _ _ ⟨rfl, rfl, Or.inl ⟨rfl, rfl⟩⟩
  rintro _ _ x M1 f ⟨rfl, rfl, hx⟩ ih
  have up : ∀ y, 0 ≤ y → y < C 8 0 → R 8 y = -1 ∨ (0 ≤ R 8 y ∧ R 8 y < y ∧ C 12 (R 8 y) = 1) := by
    intro y y0 y1
    obtain ⟨-, -, a3, a4, a5, -, -, -, -, -, -, -, a13⟩ := (hY.2.2.2.1 y y0 y1).1
    rw [← a3]
    rcases a13 with q | q
    · exact Or.inl q
    · by_cases z : C 11 y = -1
      · exact Or.inl z
      · exact Or.inr ⟨by omega, a5, q⟩
  unfold wb_X12_make_b99
  rcases hx with ⟨rfl, rfl⟩ | ⟨rfl, hx⟩
  · refine ⟨fun q => by omega, fun _ => ⟨t0, by omega, fun M2 e2 => ⟨t0, by omega, fun v3 e3 g3 => ?_⟩⟩⟩
    rw [e2, ux_c _ _ _ _ (by decide)] at e3
    have := up x t0 t1
    rw [← e3] at this
    exact ih _ _ _ _ ⟨rfl, rfl, Or.inr ⟨e2.symm, this⟩⟩ (by omega)
  · refine ⟨fun _ => h, fun z => ?_⟩
    rcases hx with hx | ⟨x0, x1, x2⟩
    · exact absurd hx z
    · refine ⟨x0, by omega, fun M2 e2 => ⟨x0, by omega, fun v3 e3 g3 => ?_⟩⟩
      have hu : (ux_ R 16 t 1) 16 x = 1 := by
        rw [ux_i _ _ _ (by omega), ← (hY.2.2.2.1 x x0 (by omega)).1.2.2.2.2.2.1]; exact x2
      rw [ux_id hu] at e2
      rw [e2, ux_c _ _ _ _ (by decide)] at e3
      have := up x x0 (by omega)
      rw [← e3] at this
      exact ih _ _ _ _ ⟨rfl, rfl, Or.inr ⟨e2.symm, by omega⟩⟩ (by omega)
theorem p_R_isArr {Q : Int → MM → Prop} {t : Int} {R : MM} (gt : ri_ t) (h16 : R 0 20 ≤ 16) (h1 : 20 ≤ t → vT (R 0 20) t → Q 1 R) (h0 : ¬ (20 ≤ t ∧ vT (R 0 20) t) → Q 0 R) : w_X12_isArrayType Q t R := by
  unfold ri_ at gt
  have hb : ¬ (20 ≤ t ∧ t ≤ 24) → w_X12_isArrayType_b12 Q t R := by
    intro hn
    unfold w_X12_isArrayType_b12
    refine ⟨fun z => h1 (by omega) (by unfold vT; omega), fun z => ⟨fun z2 => h0 (by unfold vT; omega), fun z2 => ⟨by unfold ri_; omega, ?_⟩⟩⟩
    exact p_R_isClass (fun a b _ => ⟨fun q => by omega, fun _ => h1 (by omega) (by unfold vT; omega)⟩) (fun a _ => ⟨fun _ => h0 (by unfold vT; omega), fun q => absurd rfl q⟩)
  unfold w_X12_isArrayType
  exact ⟨fun z => hb (by omega), fun z => ⟨fun z2 => h1 (by omega) (by unfold vT; omega), fun z2 => hb (by omega)⟩⟩
theorem sm_nn {C R R0 : MM} (hY : Rty C R0) (hH : Rhp C R) : 0 ≤ C 26 3 := by
  obtain ⟨g1, g2, g3, g4, g5, g6, g7, g8, g9, g10, -⟩ := hH
  have hnn : ∀ o : Int, 0 ≤ o → o < ((C 26 1).toNat : Nat) → C 27 o ≠ -1 → 0 ≤ ln C o := fun o a b c => by
    obtain ⟨-, r⟩ := g10 o a (by omega)
    obtain ⟨r1, r2, r3, r4, r5, r6, -⟩ := r c
    exact (ln_bd hY r2 r5 r6).1
  have := sm_mono hnn 0 (C 26 1).toNat (by omega) (by omega)
  have m0 : sm C 0 = 0 := rfl
  omega
/-- what make asks of its numbers -/
def mkA (C : MM) (t n : Int) : Prop := vT (C 8 0) t ∧ (20 ≤ t → 0 ≤ n ∧ n ≤ 60)
def mkR (C : MM) (t n : Int) : Prop := C 26 1 < 400 ∧ C 26 3 + so C t n ≤ 4000
theorem p_R_make {Q : Int → MM → Prop} {t n : Int} {C R : MM} (gt : ri_ t) (hB : RB C R)
    (hA : ¬ mkA C t n → Q 0 (ux_ R 0 0 1)) (hR : mkA C t n → ¬ mkR C t n → Q 0 (ux_ R 0 0 2))
    (h1 : mkA C t n → mkR C t n → Q (C 26 1) (rdd C (if t < 20 then ux_ (ux_ R 0 0 0) 16 t 1 else ux_ R 0 0 0) t n)) : w_X12_make Q t n R := by
  obtain ⟨hRA, hL, hH⟩ := hB
  have hY := hRA.2.2.2.2
  have h16 := hY.2.2.1
  have h20 := hY.1
  have hn : mkA C t n → 0 ≤ so C t n ∧ so C t n ≤ 96 := by
    rintro ⟨a1, a2⟩
    by_cases q : 20 ≤ t
    · exact so_bd hY a1 (a2 q).1 (a2 q).2
    · have := so_bd hY a1 (n := 0) (by omega) (by omega)
      unfold so at this ⊢
      rw [if_neg q] at this ⊢; exact this
  have g3' := sm_nn hY hH
  obtain ⟨g1, g2, g3, g4, g5, g6, g7, g8, g9, -⟩ := hH
  have Y0 : ∀ x, Rty C (ux_ R 0 0 x) := fun x => Rty_R hY (fun k a b _ => funext fun i => ux_c _ _ _ _ (by omega)) (ux_i _ _ _ (by decide))
  have e0 : ∀ x i, i ≠ 0 → ux_ R 0 0 x 0 i = R 0 i := fun x i hi => ux_i _ _ _ hi
  have bad : ¬ mkA C t n → w_X12_make_b27 Q t n R := by
    intro hq
    unfold w_X12_make_b27 w_X12_make_b32
    intro M1 e1 v2 e2 _
    have : v2 = 1 := by rw [e2, e1, ux_s]
    exact ⟨fun q => by omega, fun _ => by rw [e1]; exact hA hq⟩
  have add : mkA C t n → mkR C t n → ∀ R1, R1 = (if t < 20 then ux_ (ux_ R 0 0 0) 16 t 1 else ux_ R 0 0 0) → w_X12_make_b121 Q t n R1 := by
    intro ha hr R1 e1
    have hs := hn ha
    obtain ⟨r1, r2⟩ := hr
    have q0 : ∀ i, i ≠ 0 → R1 0 i = R 0 i := by
      intro i hi
      rw [e1]
      by_cases z : t < 20
      · rw [if_pos z, ux_c _ _ _ _ (by decide), e0 _ _ hi]
      · rw [if_neg z, e0 _ _ hi]
    have qk : ∀ k, k ≠ 0 → k ≠ 16 → R1 k = R k := by
      intro k hk hk2
      funext i
      rw [e1]
      by_cases z : t < 20
      · rw [if_pos z, ux_c _ _ _ _ hk2, ux_c _ _ _ _ hk]
      · rw [if_neg z, ux_c _ _ _ _ hk]
    -- the class's memory with the type marked, for the reference's own walk
    have hY1 : Rty (if t < 20 then ux_ C 12 t 1 else C) R1 := by
      by_cases z : t < 20
      · have tc : 0 ≤ t ∧ t < C 8 0 := by have := ha.1; unfold vT at this; omega
        rw [if_pos z]
        rw [if_pos z] at e1
        refine Rty_12 hY (fun k _ _ hk => funext fun i => ux_c _ _ _ _ hk) (fun k a _ _ hk => qk k (by omega) hk) (q0 20 (by decide)) (fun i i0 i1 => ?_) (fun i i0 i1 => ux_i _ _ _ (by omega))
        rw [e1]
        by_cases z2 : i = t
        · subst z2; rw [ux_s, ux_s]; exact ⟨rfl, fun _ => rfl⟩
        · rw [ux_i _ _ _ z2, ux_i _ _ _ z2, ux_c _ _ _ _ (by decide)]
          exact ⟨(hY.2.2.2.1 i i0 i1).1.2.2.2.2.2.1, fun q => q⟩
      · rw [if_neg z]
        rw [if_neg z] at e1
        rw [e1]; exact Y0 0
    have hC : ∀ k, k ≠ 12 → (if t < 20 then ux_ C 12 t 1 else C) k = C k := by
      intro k hk
      by_cases z : t < 20
      · rw [if_pos z]; exact funext fun i => ux_c _ _ _ _ hk
      · rw [if_neg z]
    have hkA := kA_fe (hC 24 (by decide))
    have hso : ∀ a b, so (if t < 20 then ux_ C 12 t 1 else C) a b = so C a b := fun a b => so_eq (hC 16 (by decide)) a b
    have hrd : rdd (if t < 20 then ux_ C 12 t 1 else C) R1 t n = rdd C R1 t n := by
      unfold rdd rdk
      rw [hkA, hso]
    unfold w_X12_make_b121
    refine p_R_add hY1 (by rw [hC 8 (by decide)]; exact ha.1) (fun q => (ha.2 q).1) (fun q => (ha.2 q).2) (by rw [q0 26 (by decide)]; omega) (by rw [q0 26 (by decide)]; omega) (by rw [q0 27 (by decide)]; exact g8) (by rw [q0 27 (by decide), hso]; omega) (by rw [q0 28 (by decide)]; omega) (by rw [q0 28 (by decide), hso]; omega) fun _ => ?_
    rw [hrd, q0 26 (by decide), ← g1, e1]
    exact h1 ha ⟨r1, r2⟩
  have good : mkA C t n → w_X12_make_b31 Q t n R := by
    intro ha
    have hs := hn ha
    have full : ¬ mkR C t n → w_X12_make_b72 Q t n (ux_ R 0 0 0) := by
      intro hr
      unfold w_X12_make_b72 w_X12_make_b77
      intro M1 e1 v2 e2 _
      rw [uu00] at e1
      have : v2 = 2 := by rw [e2, e1, ux_s]
      exact ⟨fun q => by omega, fun _ => by rw [e1]; exact hR ha hr⟩
    unfold w_X12_make_b31 w_X12_make_b32
    intro M1 e1 v2 e2 _
    have : v2 = 0 := by rw [e2, e1, ux_s]
    refine ⟨fun _ v4 e4 g4 => ?_, fun q => by omega⟩
    subst e1
    rw [e0 0 26 (by decide), ← g1] at e4
    subst e4
    refine ⟨fun z => full (fun q => by have := q.1; omega), fun z v6 e6 g6 => ?_⟩
    rw [e0 0 28 (by decide), ← g5] at e6
    subst e6
    refine p_R_so (Y0 0) ha.1 fun _ => ⟨by unfold ri_; omega, fun z7 => ?_, fun z7 => full (fun q => by have := q.2; omega)⟩
    have hr : mkR C t n := ⟨by omega, z7⟩
    unfold w_X12_make_b77
    intro M1 e1 v2 e2 _
    rw [uu00] at e1
    have : v2 = 0 := by rw [e2, e1, ux_s]
    refine ⟨fun _ => ?_, fun q => by omega⟩
    subst e1
    have hv := ha.1
    unfold vT at hv
    refine p_R_isClass (fun c0 c1 _ => ⟨fun q => by omega, fun _ => ?_⟩) (fun c0 _ => ⟨fun _ => ?_, fun q => absurd rfl q⟩)
    · rw [e0 0 20 (by decide), ← h20] at c1
      refine p_R_mk99 (Y0 0) c0 c1 (add ha hr _ ?_)
      rw [if_pos (by omega)]
    · rw [e0 0 20 (by decide), ← h20] at c0
      refine add ha hr _ ?_
      rw [if_neg (by omega)]
  unfold w_X12_make
  refine p_R_isClass (fun c0 c1 _ => ⟨fun _ => good ⟨by unfold vT; omega, fun q => by omega⟩, fun q => by omega⟩) (fun c0 _ => ⟨fun q => absurd rfl q, fun _ => ?_⟩)
  rw [← h20] at c0
  refine p_R_isArr gt (by omega) (fun a b _ => ⟨fun q => by omega, fun _ => ⟨fun z => bad (fun q => by have := q.2 a; omega), fun z => ⟨fun z2 => good ⟨by rw [h20]; exact b, fun _ => ⟨by omega, z2⟩⟩, fun z2 => bad (fun q => by have := q.2 a; omega)⟩⟩⟩) (fun a _ => ⟨fun _ => bad (fun q => a ?_), fun q => absurd rfl q⟩)
  have := q.1
  rw [← h20]
  refine ⟨?_, this⟩
  unfold vT at this
  omega
theorem p_hasRoom {Q : Int → MM → Prop} {a b : Int} {M : MM} (m0 : 0 ≤ M 26 1) (m1 : M 26 1 ≤ 400) (s0 : 0 ≤ M 26 3) (s1 : M 26 3 ≤ 4000) (a0 : 0 ≤ a) (a1 : a ≤ 400) (b0 : 0 ≤ b) (b1 : b ≤ 40000) (h1 : M 26 1 + a ≤ 400 → M 26 3 + b ≤ 4000 → Q 1 M) (h0 : ¬ (M 26 1 + a ≤ 400 ∧ M 26 3 + b ≤ 4000) → Q 0 M) : w_X2_hasRoom Q a b M := by
  unfold w_X2_hasRoom
  intro v1 e1 _
  subst e1
  refine ⟨by unfold ri_; omega, fun z => h0 (by omega), fun z v4 e4 _ => ?_⟩
  subst e4
  exact ⟨by unfold ri_; omega, fun z2 => h0 (by omega), fun z2 => h1 (by omega) (by omega)⟩
/-- the relation behind a new thing -/
theorem RB_new {C R R1 : MM} {t n n' : Int} (hB : RB C R) (ha : vT (C 8 0) t) (n0 : 0 ≤ n) (n1 : n ≤ 60) (hn : t < 20 → n = 0) (hn' : 20 ≤ t → n' = n) (m1 : C 26 1 < 400) (s1 : C 26 3 + so C t n ≤ 4000) (q0 : ∀ i, i ≠ 0 → R1 0 i = R 0 i) (qk : ∀ k, k ≠ 0 → k ≠ 16 → R1 k = R k) (q16 : ∀ i, 0 ≤ i → i < C 8 0 → R1 16 i = if i = t then 1 else R 16 i) : RB (crt C t n) (rdd C R1 t n') := by
  obtain ⟨⟨h1, h2, h3, h4, hY⟩, hL, hH⟩ := hB
  have hH1 : Rhp C R1 := Rhp_R hH (fun k hk => qk k (by intro q; rw [q] at hk; revert hk; decide) (by intro q; rw [q] at hk; revert hk; decide)) (fun i hi => q0 i (by intro q; rw [q] at hi; revert hi; decide))
  rw [rdd_n hn']
  have hY2 : Rty (crt C t n) (rdd C R1 t n) := by
    refine Rty_12 hY (fun k a b hk => crt_o C t n (by simp; omega)) (fun k a b _ hk => by rw [rdd_o C R1 t n (by simp; omega)]; exact qk k (by omega) hk) (by rw [rdd_0 _ _ _ _ _ (by decide) (by decide) (by decide)]; exact q0 20 (by decide)) (fun i i0 i1 => ?_) (fun i i0 i1 => by rw [crt_12, if_neg (by omega)])
    rw [rdd_o C R1 t n (k := 16) (by decide), q16 i i0 i1, crt_12]
    by_cases z : i = t
    · rw [if_pos ⟨z, by omega, by omega⟩, if_pos z]; exact ⟨rfl, fun _ => rfl⟩
    · rw [if_neg (by omega), if_neg z]; exact ⟨(hY.2.2.2.1 i i0 i1).1.2.2.2.2.2.1, fun q => q⟩
  -- the heap's half sees the types without their marks
  have hp : Rhp (crt C t n) (rdd C R1 t n) := by
    exact hp_new hY hH1 ha n0 n1 hn m1 s1
  refine ⟨⟨?_, ?_, ?_, ?_, hY2⟩, ?_, hp⟩
  · unfold Rtape at h1 ⊢
    rw [rdd_0 _ _ _ _ _ (by decide) (by decide) (by decide), rdd_o C R1 t n (k := 1) (by decide), rdd_o C R1 t n (k := 2) (by decide), q0 3 (by decide), qk 1 (by decide) (by decide), qk 2 (by decide) (by decide), crt_o C t n (k := 1) (by decide), crt_o C t n (k := 2) (by decide), crt_o C t n (k := 3) (by decide)]
    exact h1
  · rw [rdd_o C R1 t n (k := 1) (by decide), qk 1 (by decide) (by decide)]; exact h2
  · rw [rdd_o C R1 t n (k := 2) (by decide), qk 2 (by decide) (by decide)]; exact h3
  · unfold Rkey at h4 ⊢
    rw [rdd_o C R1 t n (k := 3) (by decide), qk 3 (by decide) (by decide), crt_o C t n (k := 7) (by decide)]; exact h4
  · exact Rlk_of hL (by rw [crt_o C t n (by decide)]) (crt_o C t n (by decide)) (crt_o C t n (by decide)) (crt_o C t n (by decide))
set_option maxHeartbeats 400000 in
theorem t_make {C R : MM} {t n : Int} (gt : ri_ t) (h : RB C R) : w_X11_make (fun r C' => w_X12_make (fun r' R' => r = r' ∧ R' 0 0 = 0 ∧ RB C' R' ∧ (∃ m, C' = crt C t m) ∧ (∀ k, k ∉ [0, 16, 19, 20, 21, 22, 23] → R' k = R k) ∧ (∀ i, i ∉ ([0, 26, 27, 28] : List Int) → R' 0 i = R 0 i)) t n R) (fun E C' => C' = C ∧ w_X12_make (fun r' R' => R' = ux_ R 0 0 (if E = "java/lang/IllegalStateException" then 2 else 1)) t n R) t n C := by
  have hB := h
  obtain ⟨hA, hL, hH⟩ := h
  have hY := hA.2.2.2.2
  have h16 := hY.2.2.1
  have hnn := sm_nn hY hH
  have bad : ¬ mkA C t n → w_X12_make (fun r' R' => R' = ux_ R 0 0 1) t n R := fun q => p_R_make gt hB (fun _ => rfl) (fun a => absurd a q) (fun a => absurd a q)
  have go : mkA C t n → ∀ m, (20 ≤ t → n = m) → (t < 20 → m = 0) → 0 ≤ m → m ≤ 60 → w_X11_make_b48 (fun r C' => w_X12_make (fun r' R' => r = r' ∧ R' 0 0 = 0 ∧ RB C' R' ∧ (∃ m, C' = crt C t m) ∧ (∀ k, k ∉ [0, 16, 19, 20, 21, 22, 23] → R' k = R k) ∧ (∀ i, i ∉ ([0, 26, 27, 28] : List Int) → R' 0 i = R 0 i)) t n R) (fun E C' => C' = C ∧ w_X12_make (fun r' R' => R' = ux_ R 0 0 (if E = "java/lang/IllegalStateException" then 2 else 1)) t n R) t m C := by
    intro ha m hm hm2 m0 m1
    have hs := so_bd hY ha.1 m0 m1
    have hso : so C t n = so C t m := by
      by_cases q : 20 ≤ t
      · rw [hm q]
      · unfold so; rw [if_neg q, if_neg q]
    unfold w_X11_make_b48
    refine p_so h16 ha.1 fun _ => ?_
    refine p_hasRoom hH.2.1 hH.2.2.1 hnn hH.2.2.2.2.2.2.1 (by omega) (by omega) hs.1 (by omega) (fun r1 r2 _ => ⟨fun _ => ?_, fun q => by omega⟩) (fun hr _ => ⟨fun q => absurd rfl q, fun _ => ⟨rfl, ?_⟩⟩)
    · have hc := ct_bd C (C 26 1).toNat
      have h2 := hH.2.2.2.1
      have hm0 := hH.2.1
      refine p_create hY ha.1 m0 m1 hH.2.1 (by omega) (by omega) (by omega) hnn (by omega) fun _ => ?_
      refine p_R_make gt hB (fun q => absurd ha q) (fun _ q => absurd ⟨by omega, by rw [hso]; omega⟩ q) fun _ _ => ?_
      have q0 : ∀ i, i ≠ 0 → (if t < 20 then ux_ (ux_ R 0 0 0) 16 t 1 else ux_ R 0 0 0) 0 i = R 0 i := by
        intro i hi
        by_cases z : t < 20
        · rw [if_pos z, ux_c _ _ _ _ (by decide), ux_i _ _ _ hi]
        · rw [if_neg z, ux_i _ _ _ hi]
      have q00 : (if t < 20 then ux_ (ux_ R 0 0 0) 16 t 1 else ux_ R 0 0 0) 0 0 = 0 := by
        by_cases z : t < 20
        · rw [if_pos z, ux_c _ _ _ _ (by decide), ux_s]
        · rw [if_neg z, ux_s]
      have qk : ∀ k, k ≠ 0 → k ≠ 16 → (if t < 20 then ux_ (ux_ R 0 0 0) 16 t 1 else ux_ R 0 0 0) k = R k := by
        intro k hk hk2
        funext i
        by_cases z : t < 20
        · rw [if_pos z, ux_c _ _ _ _ hk2, ux_c _ _ _ _ hk]
        · rw [if_neg z, ux_c _ _ _ _ hk]
      have q16 : ∀ i, 0 ≤ i → i < C 8 0 → (if t < 20 then ux_ (ux_ R 0 0 0) 16 t 1 else ux_ R 0 0 0) 16 i = if i = t then 1 else R 16 i := by
        intro i i0 i1
        by_cases z : t < 20
        · rw [if_pos z]
          by_cases z2 : i = t
          · rw [if_pos z2, z2, ux_s]
          · rw [if_neg z2, ux_i _ _ _ z2, ux_c _ _ _ _ (by decide)]
        · rw [if_neg z, if_neg (by omega), ux_c _ _ _ _ (by decide)]
      refine ⟨rfl, ?_, RB_new hB ha.1 m0 m1 hm2 (fun q => hm q) (by omega) (by omega) q0 qk q16, ⟨m, rfl⟩, fun k hk => ?_, fun i hi => ?_⟩
      · rw [rdd_0 _ _ _ _ _ (by decide) (by decide) (by decide), q00]
      · rw [rdd_o _ _ _ _ (fun q => hk (by revert q; simp; omega))]
        exact qk k (fun q => hk (by rw [q]; decide)) (fun q => hk (by rw [q]; decide))
      · rw [rdd_0 _ _ _ _ _ (fun q => hi (by rw [q]; decide)) (fun q => hi (by rw [q]; decide)) (fun q => hi (by rw [q]; decide))]
        exact q0 i (fun q => hi (by rw [q]; decide))
    · exact p_R_make gt hB (fun q => absurd ha q) (fun _ _ => rfl) (fun _ q => absurd ⟨by have := q.1; omega, by have := q.2; rw [hso] at this; exact this⟩ hr)
  unfold w_X11_make
  refine p_isType gt (fun ht _ => ⟨fun q => by omega, fun _ => ?_⟩) (fun ht _ => ⟨fun _ => ⟨rfl, bad (fun q => ht q.1)⟩, fun q => absurd rfl q⟩)
  unfold w_X10_isArray
  refine ⟨fun z _ => ⟨fun _ => ?_, fun q => absurd rfl q⟩, fun z _ => ⟨fun q => by omega, fun _ => ⟨fun z2 => ⟨rfl, bad (fun q => by have := q.2 (by omega); omega)⟩, fun z2 => ⟨fun z3 => ?_, fun z3 => ⟨rfl, bad (fun q => by have := q.2 (by omega); omega)⟩⟩⟩⟩⟩
  · unfold w_X11_make_b36 w_X10_isArray
    exact ⟨fun _ _ => ⟨fun _ => go ⟨ht, fun q => by omega⟩ 0 (fun q => by omega) (fun _ => rfl) (by omega) (by omega), fun q => absurd rfl q⟩, fun q => absurd z q⟩
  · unfold w_X11_make_b36 w_X10_isArray
    exact ⟨fun q => absurd q z, fun _ _ => ⟨fun q => by omega, fun _ => go ⟨ht, fun _ => ⟨by omega, z3⟩⟩ n (fun _ => rfl) (fun q => by omega) (by omega) z3⟩⟩
