/-! field, on both sides, whole -/
def Rst (C R : MM) : Prop := ∀ f, 0 ≤ f → f < 96 → C 32 f = R 6 f
/-- the statics stay; a new field's begins empty -/
def Fst (C C' : MM) : Prop := ∀ d k, 0 ≤ d → d < C' 8 0 → 0 ≤ k → k < C' 14 d → (d < C 8 0 ∧ k < C 14 d ∧ C' 32 (6 * d + k) = C 32 (6 * d + k)) ∨ (C' 19 (6 * d + k) = 5 → C' 32 (6 * d + k) = -1)
def FC2 (C C' : MM) : Prop := (∀ k i, 26 ≤ k → k ≠ 32 → C' k i = C k i) ∧ (∀ i, C' 0 i = C 0 i) ∧ tyLe C C' ∧ (Rlk C → Rlk C') ∧ Fst C C'
def FR2 (R R' : MM) : Prop := (∀ k i, 19 ≤ k → R' k i = R k i) ∧ (∀ i, i ≠ 0 → i ≠ 3 → i ≠ 20 → R' 0 i = R 0 i)
theorem sc_F2 {C R C1 : MM} {x : Int} (h : RA C R) (hf : ∀ k i, ¬ (k = 1 ∧ (i = 4 ∨ i = 9 ∨ i = 10 ∨ i = 11)) → C1 k i = C k i) : RA C1 (ux_ R 0 0 x) ∧ FC2 C C1 ∧ FR2 R (ux_ R 0 0 x) ∧ (Rst C R → Rst C1 (ux_ R 0 0 x)) := by
  have ha := RA_sc (x := x) h hf
  refine ⟨ha.1, ⟨fun k i a b => hf k i (by omega), fun i => hf 0 i (by omega), ha.2.1.2.2.1, ha.2.1.2.2.2, fun d k d0 d1 k0 k1 => Or.inl ?_⟩, ⟨ha.2.2.1, ha.2.2.2.1⟩, fun hs f f0 f1 => ?_⟩
  · rw [hf 8 0 (by omega)] at d1
    rw [hf 14 d (by omega)] at k1
    exact ⟨d1, k1, hf 32 _ (by omega)⟩
  · rw [hf 32 f (by omega), ux_c _ _ _ _ (by decide)]; exact hs f f0 f1
set_option maxHeartbeats 2000000 in
theorem t_field {C R : MM} {c kd lk st : Int} (glk : ri_ lk) (hst : st = 0 ∨ st = 1) (h : RA C R) : w_X11_field (fun r C' => w_X12_field (fun r' R' => R' 0 0 = 0 ∧ r = r' ∧ RA C' R' ∧ FC2 C C' ∧ FR2 R R' ∧ (Rst C R → Rst C' R')) c kd lk st R) (fun E C' => w_X12_field (fun r' R' => R' 0 0 = xT E ∧ RA C' R' ∧ FC2 C C' ∧ FR2 R R' ∧ (Rst C R → Rst C' R')) c kd lk st R) c kd lk st C := by
  obtain ⟨hT, b1, b2, hK, hY⟩ := id h
  obtain ⟨y1, y2, y3, y4, y5, y6⟩ := id hY
  obtain ⟨t1, t2, t3, t4, t5⟩ := id hT
  have hown : ∀ d, 0 ≤ d → d < R 0 20 → 0 ≤ R 9 d ∧ R 9 d ≤ 6 := fun d d0 d1 => by
    obtain ⟨⟨-, -, -, -, -, -, -, a8, a9, a10, -⟩, -⟩ := y4 d d0 (by omega)
    omega
  unfold w_X11_field
  refine p_isClass (fun c0 c1 _ => ⟨fun _ => ?_, fun q => by omega⟩) (fun c0 _ => ⟨fun q => absurd rfl q, fun _ => ?_⟩)
  · -- a class
    obtain ⟨⟨a1, a2, a3, a4, a5, a6, a7, a8, a9, a10, a11, a12, a13⟩, ⟨l1, l2, l3, l4⟩, sC, fl⟩ := y4 c c0 c1
    refine p_wholeName (okT_of hT) fun C1 v hf hv _ => ?_
    have hnm : ∀ v', nmR R v' → nr v v' ∧ (v = 0 ↔ v' = 0) := fun v' h' => nm_rel hT b1 hK hv h'
    have hB : ∀ v', nmR R v' → ((v = 0 ∨ kd < 0 ∨ 5 < kd ∨ (kd = 5 ∧ ¬ (lk = -1 ∨ vT (C 8 0) lk))) ↔ fdB R kd lk v') := fun v' h' => by
      unfold fdB
      rw [(hnm v' h').2, y1]
    have hH : ∀ v', nmR R v' → ((¬ C 12 c = 0 ∨ C 14 c = 6 ∨ ∃ j, 0 ≤ j ∧ j < C 14 c ∧ C 18 (6 * c + j) = v) ↔ fdH R c v' (R 9 c)) := fun v' h' => by
      unfold fdH
      rw [a6, a8]
      constructor
      · rintro (q | q | ⟨j, j0, j1, j2⟩)
        · exact Or.inl q
        · exact Or.inr (Or.inl q)
        · exact Or.inr (Or.inr ⟨j, j0, j1, (nr_eq (fl j j0 (by omega)).1 (hnm v' h').1).mp j2⟩)
      · rintro (q | q | ⟨j, j0, j1, j2⟩)
        · exact Or.inl q
        · exact Or.inr (Or.inl q)
        · exact Or.inr (Or.inr ⟨j, j0, j1, (nr_eq (fl j j0 (by omega)).1 (hnm v' h').1).mpr j2⟩)
    have h65 : (v = 0 ∨ kd < 0 ∨ 5 < kd ∨ (kd = 5 ∧ ¬ (lk = -1 ∨ vT (C 8 0) lk))) → w_X11_field_b65 (fun r C' => w_X12_field (fun r' R' => R' 0 0 = 0 ∧ r = r' ∧ RA C' R' ∧ FC2 C C' ∧ FR2 R R' ∧ (Rst C R → Rst C' R')) c kd lk st R) (fun E C' => w_X12_field (fun r' R' => R' 0 0 = xT E ∧ RA C' R' ∧ FC2 C C' ∧ FR2 R R' ∧ (Rst C R → Rst C' R')) c kd lk st R) C1 := by
      intro hb
      unfold w_X11_field_b65
      refine R_field glk hst (by omega) (by omega) (by omega) (by omega) hown (fun q => absurd ⟨c0, by omega⟩ q) (fun v' h' _ _ _ => ⟨by rw [ux_s]; rfl, sc_F2 h hf⟩) (fun v' h' _ _ q => absurd ((hB v' h').mp hb) q) (fun v' h' _ _ q => absurd ((hB v' h').mp hb) q)
    have h112 : ¬ (v = 0 ∨ kd < 0 ∨ 5 < kd ∨ (kd = 5 ∧ ¬ (lk = -1 ∨ vT (C 8 0) lk))) → (¬ C 12 c = 0 ∨ C 14 c = 6 ∨ ∃ j, 0 ≤ j ∧ j < C 14 c ∧ C 18 (6 * c + j) = v) → w_X11_field_b112 (fun r C' => w_X12_field (fun r' R' => R' 0 0 = 0 ∧ r = r' ∧ RA C' R' ∧ FC2 C C' ∧ FR2 R R' ∧ (Rst C R → Rst C' R')) c kd lk st R) (fun E C' => w_X12_field (fun r' R' => R' 0 0 = xT E ∧ RA C' R' ∧ FC2 C C' ∧ FR2 R R' ∧ (Rst C R → Rst C' R')) c kd lk st R) C1 := by
      intro hg hh
      unfold w_X11_field_b112
      refine R_field glk hst (by omega) (by omega) (by omega) (by omega) hown (fun q => absurd ⟨c0, by omega⟩ q) (fun v' h' _ _ q => absurd ((hB v' h').mpr q) hg) (fun v' h' _ _ _ _ => ⟨by rw [ux_s]; rfl, sc_F2 h hf⟩) (fun v' h' _ _ _ q => absurd ((hH v' h').mp hh) q)
    have q12 : C1 12 c = C 12 c := hf 12 c (by omega)
    have q14 : C1 14 c = C 14 c := hf 14 c (by omega)
    have q18 : ∀ i, C1 18 i = C 18 i := fun i => hf 18 i (by omega)
    have h73 : ¬ (v = 0 ∨ kd < 0 ∨ 5 < kd ∨ (kd = 5 ∧ ¬ (lk = -1 ∨ vT (C 8 0) lk))) → w_X11_field_b73 (fun r C' => w_X12_field (fun r' R' => R' 0 0 = 0 ∧ r = r' ∧ RA C' R' ∧ FC2 C C' ∧ FR2 R R' ∧ (Rst C R → Rst C' R')) c kd lk st R) (fun E C' => w_X12_field (fun r' R' => R' 0 0 = xT E ∧ RA C' R' ∧ FC2 C C' ∧ FR2 R R' ∧ (Rst C R → Rst C' R')) c kd lk st R) c kd lk st v C1 := by
      intro hg
      unfold w_X11_field_b73
      refine ⟨c0, by omega, fun v1 e1 g1 => ?_⟩
      rw [q12] at e1
      subst e1
      refine ⟨fun z => h112 hg (Or.inl z), fun z => ⟨c0, by omega, fun v3 e3 g3 => ?_⟩⟩
      rw [q14] at e3
      subst e3
      refine ⟨fun z3 => h112 hg (Or.inr (Or.inl z3)), fun z3 => ?_⟩
      refine p_hasField c0 (by omega) (by omega) (by omega) (fun k k0 k1 k2 _ => ⟨fun q => by omega, fun _ => h112 hg (Or.inr (Or.inr ⟨k, k0, by omega, by rw [← q18]; exact k2⟩))⟩) (fun hno _ => ⟨fun _ M8 e8 => ?_, fun q => absurd rfl q⟩)
      have hno' : ∀ j, 0 ≤ j → j < C 14 c → C 18 (6 * c + j) ≠ v := fun j j0 j1 q => hno j j0 (by omega) (by rw [q18]; exact q)
      have m : ∀ k i, k ≠ 1 → M8 k i = C k i := fun k i hk => by rw [e8, ux_c _ _ _ _ hk]; exact hf k i (by omega)
      have mf : ∀ k, k ≠ 1 → M8 k = C k := fun k hk => funext fun i => m k i hk
      have m11 : M8 1 1 = 0 := by rw [e8, ux_s]
      have hkd0 : 0 ≤ kd ∧ kd ≤ 5 := by omega
      have hbdc := ty_bd hY c c0 c1
      have hns := ns_bd (C 21) (6 * c) (C 14 c).toNat
      have hen : 0 ≤ enC C c ∧ enC C c ≤ 8000 := by
        unfold enC
        by_cases z9 : C 11 c = -1
        · rw [if_pos z9]; omega
        · rw [if_neg z9]
          have := ty_bd hY (C 11 c) (by omega) (by omega)
          omega
      have hbs : 0 ≤ bsC C c ∧ bsC C c ≤ 200 := by
        unfold bsC
        by_cases z9 : C 11 c = -1
        · rw [if_pos z9]; omega
        · rw [if_neg z9]
          have := ty_bd hY (C 11 c) (by omega) (by omega)
          omega
      have hbs90 : bsC C c ≤ 90 := by
        unfold bsC
        by_cases z9 : C 11 c = -1
        · rw [if_pos z9]; omega
        · rw [if_neg z9]
          have := ty_bd hY (C 11 c) (by omega) (by omega)
          omega
      have key : w_X11_field_b146 (fun r C' => w_X12_field (fun r' R' => R' 0 0 = 0 ∧ r = r' ∧ RA C' R' ∧ FC2 C C' ∧ FR2 R R' ∧ (Rst C R → Rst C' R')) c kd lk st R) (fun E C' => w_X12_field (fun r' R' => R' 0 0 = xT E ∧ RA C' R' ∧ FC2 C C' ∧ FR2 R R' ∧ (Rst C R → Rst C' R')) c kd lk st R) c kd st (if kd = 5 then lk else -1) kd v c M8 := by
        unfold w_X11_field_b146
        have hfin : ∀ C2, (∀ k i, (k ≠ 17 ∨ i ≠ c) → C2 k i = aF M8 c v kd (if kd = 5 then lk else -1) st k i) → (C2 17 c = lb (C2 21) (C2 19) (6 * c) (enC C c) (C 14 c + 1).toNat 0) → ri_ (C 14 c) → ri_ (c * 6) ∧ (ri_ ((c * 6) + C 14 c) ∧ (w_X10_firstValue (fun r5 M6 => rl_ r5 → 0 ≤ ((c * 6) + C 14 c) ∧ ((c * 6) + C 14 c) < 96 ∧ (∀ M7, M7 = ux_ M6 32 ((c * 6) + C 14 c) r5 → w_X12_field (fun r' R' => R' 0 0 = 0 ∧ C 14 c = r' ∧ RA M7 R' ∧ FC2 C M7 ∧ FR2 R R' ∧ (Rst C R → Rst M7 R')) c kd lk st R)) kd C2)) := by
          intro C2 g g17 _
          have fst : ∀ r5, r5 = (if kd = 5 then -1 else 0) → ∀ M7, M7 = ux_ C2 32 (c * 6 + C 14 c) r5 → w_X12_field (fun r' R' => R' 0 0 = 0 ∧ C 14 c = r' ∧ RA M7 R' ∧ FC2 C M7 ∧ FR2 R R' ∧ (Rst C R → Rst M7 R')) c kd lk st R := by
            intro r5 hr5 M7 e7
            rw [show c * 6 + C 14 c = 6 * c + C 14 c from by omega] at e7
            have n7 : ∀ k, k ≠ 32 → M7 k = C2 k := fun k hk => funext fun i => by rw [e7, ux_c _ _ _ _ hk]
            have gO : ∀ k, k ≠ 14 → k ≠ 15 → k ≠ 16 → k ≠ 17 → k ≠ 18 → k ≠ 19 → k ≠ 20 → k ≠ 21 → k ≠ 22 → k ≠ 23 → k ≠ 24 → k ≠ 25 → C2 k = M8 k := by
              intro k z1 z2 z3 z4 z5 z6 z7 z8 z9 z10 z11 z12
              funext i
              rw [g k i (Or.inl z4)]
              unfold aF
              rw [if_neg (by omega), if_neg (by omega), if_neg (by omega), if_neg (by omega), if_neg (by omega), if_neg (by omega), if_neg (by omega), if_neg (by omega), if_neg (by omega), if_neg (by omega), if_neg (by omega)]
            have cO : ∀ k, k ≠ 1 → k ≠ 32 → k ≠ 14 → k ≠ 15 → k ≠ 16 → k ≠ 17 → k ≠ 18 → k ≠ 19 → k ≠ 20 → k ≠ 21 → k ≠ 22 → k ≠ 23 → k ≠ 24 → k ≠ 25 → M7 k = C k := fun k w1 w2 z1 z2 z3 z4 z5 z6 z7 z8 z9 z10 z11 z12 => by rw [n7 k w2, gO k z1 z2 z3 z4 z5 z6 z7 z8 z9 z10 z11 z12, mf k w1]
            have p14 : ∀ i, M7 14 i = if i = c then C 14 c + 1 else C 14 i := fun i => by rw [n7 14 (by decide), g 14 i (by omega)]; simp [aF]; rw [mf 14 (by decide)]
            have p15 : ∀ i, M7 15 i = if i = c ∧ st ≠ 0 then C 15 c + 1 else C 15 i := fun i => by rw [n7 15 (by decide), g 15 i (by omega)]; simp [aF]; rw [mf 15 (by decide)]
            have p16 : ∀ i, M7 16 i = if i = c ∧ st = 0 then C 16 c + 1 else C 16 i := fun i => by rw [n7 16 (by decide), g 16 i (by omega)]; simp [aF]; rw [mf 16 (by decide)]
            have p18 : ∀ i, M7 18 i = if i = 6 * c + C 14 c then v else C 18 i := fun i => by rw [n7 18 (by decide), g 18 i (by omega)]; simp [aF]; rw [mf 14 (by decide), mf 18 (by decide)]
            have p19 : ∀ i, M7 19 i = if i = 6 * c + C 14 c then kd else C 19 i := fun i => by rw [n7 19 (by decide), g 19 i (by omega)]; simp [aF]; rw [mf 14 (by decide), mf 19 (by decide)]
            have p20 : ∀ i, M7 20 i = if i = 6 * c + C 14 c then (if kd = 5 then lk else -1) else C 20 i := fun i => by rw [n7 20 (by decide), g 20 i (by omega)]; simp [aF]; rw [mf 14 (by decide), mf 20 (by decide)]
            have p21 : ∀ i, M7 21 i = if i = 6 * c + C 14 c then st else C 21 i := fun i => by rw [n7 21 (by decide), g 21 i (by omega)]; simp [aF]; rw [mf 14 (by decide), mf 21 (by decide)]
            have p22 : ∀ i, M7 22 i = if i = 6 * c + C 14 c then (if st = 0 then C 16 c else C 15 c) else C 22 i := fun i => by rw [n7 22 (by decide), g 22 i (by omega)]; simp [aF]; rw [mf 14 (by decide), mf 22 (by decide), mf 16 (by decide), mf 15 (by decide)]
            have p23 : ∀ i, M7 23 i = if st = 0 ∧ i = 96 * c + C 16 c then v else C 23 i := fun i => by rw [n7 23 (by decide), g 23 i (by omega)]; simp [aF]; rw [mf 16 (by decide), mf 23 (by decide)]
            have p24 : ∀ i, M7 24 i = if st = 0 ∧ i = 96 * c + C 16 c then kd else C 24 i := fun i => by rw [n7 24 (by decide), g 24 i (by omega)]; simp [aF]; rw [mf 16 (by decide), mf 24 (by decide)]
            have p25 : ∀ i, M7 25 i = if st = 0 ∧ i = 96 * c + C 16 c then (if kd = 5 then lk else -1) else C 25 i := fun i => by rw [n7 25 (by decide), g 25 i (by omega)]; simp [aF]; rw [mf 16 (by decide), mf 25 (by decide)]
            have p17 : ∀ i, M7 17 i = if i = c then lb (M7 21) (M7 19) (6 * c) (enC C c) (C 14 c + 1).toNat 0 else C 17 i := fun i => by
              by_cases zi : i = c
              · rw [if_pos zi, zi, n7 17 (by decide), n7 21 (by decide), n7 19 (by decide)]; exact g17
              · rw [if_neg zi, n7 17 (by decide), g 17 i (Or.inr zi)]; simp [aF]; rw [mf 17 (by decide)]
            refine R_field glk hst (by omega) (by omega) (by omega) (by omega) hown (fun q => absurd ⟨c0, by omega⟩ q) (fun v' h' _ _ q => absurd ((hB v' h').mpr q) hg) (fun v' h' _ _ _ q => ?_) (fun v' h' _ _ _ _ => ?_)
            · exfalso
              rcases (hH v' h').mpr q with q | q | ⟨j, j0, j1, j2⟩
              · exact q z
              · exact z3 q
              · exact hno' j j0 j1 j2
            have rO : ∀ k, k ≠ 0 → k ≠ 9 → k ≠ 5 → k ≠ 12 → k ≠ 13 → k ≠ 17 → k ≠ 6 → rF R c v' kd lk st k = R k := by
              intro k z1 z2 z3 z4 z5 z6 z7
              funext i
              unfold rF
              rw [if_neg (by omega), if_neg (by omega), if_neg (by omega), if_neg (by omega), if_neg (by omega), if_neg (by omega), if_neg (by omega)]
            have r9 : ∀ i, rF R c v' kd lk st 9 i = if i = c then C 14 c + 1 else R 9 i := fun i => by rw [a8]; simp [rF]
            have r5' : ∀ i, rF R c v' kd lk st 5 i = if i = 6 * c + C 14 c then v' else R 5 i := fun i => by rw [a8]; simp [rF]
            have r12 : ∀ i, rF R c v' kd lk st 12 i = if i = 6 * c + C 14 c then kd else R 12 i := fun i => by rw [a8]; simp [rF]
            have r13 : ∀ i, rF R c v' kd lk st 13 i = if i = 6 * c + C 14 c then (if kd = 5 then lk else -1) else R 13 i := fun i => by rw [a8]; simp [rF]
            have r17 : ∀ i, rF R c v' kd lk st 17 i = if i = 6 * c + C 14 c then st else R 17 i := fun i => by rw [a8]; simp [rF]
            have r6 : ∀ i, rF R c v' kd lk st 6 i = if i = 6 * c + C 14 c then (if kd = 5 then -1 else 0) else R 6 i := fun i => by rw [a8]; simp [rF]
            have hn1 : (((C 14 c + 1).toNat : Nat) : Int) = C 14 c + 1 := by omega
            have rst : ∀ j : Nat, j < (C 14 c + 1).toNat → rF R c v' kd lk st 17 (6 * c + j) = M7 21 (6 * c + j) ∧ rF R c v' kd lk st 12 (6 * c + j) = M7 19 (6 * c + j) := fun j j1 => by
              rw [r17, r12, p21, p19]
              by_cases zj : (j : Int) = C 14 c
              · rw [if_pos (by omega), if_pos (by omega), if_pos (by omega), if_pos (by omega)]; exact ⟨rfl, rfl⟩
              · rw [if_neg (by omega), if_neg (by omega), if_neg (by omega), if_neg (by omega)]
                have := fl j (by omega) (by omega)
                exact ⟨this.2.2.2.2.2.1.symm, this.2.1.symm⟩
            have hpR : R 8 c = C 11 c := a3.symm
            have hcl : C 11 c ≠ -1 → R 10 (C 11 c) = C 16 (C 11 c) ∧ R 11 (C 11 c) = C 17 (C 11 c) := fun zz => by
              obtain ⟨⟨-, -, -, -, -, -, -, -, -, -, x11, x12, -⟩, -⟩ := y4 (C 11 c) (by omega) (by omega)
              exact ⟨x11.symm, x12.symm⟩
            refine p_R_layOut (n := (C 14 c + 1).toNat) (base := bsC C c) (e := enC C c) c0 (by omega) (by omega) (by rw [r9, if_pos rfl, hn1]) ?_ (by rw [rO 8 (by decide) (by decide) (by decide) (by decide) (by decide) (by decide) (by decide), hpR]; omega) (by rw [rO 8 (by decide) (by decide) (by decide) (by decide) (by decide) (by decide) (by decide), hpR]; omega) ?_ (by rw [rO 8 (by decide) (by decide) (by decide) (by decide) (by decide) (by decide) (by decide), hpR]; omega) ?_ hbs.1 hbs.2 hen.1 hen.2 (fun M' g1 g2 g3 g4 g5 g6 M3 e3 => ?_)
            · intro j j1
              rw [(rst j j1).2, p19]
              by_cases zj : 6 * c + (j : Int) = 6 * c + C 14 c
              · rw [if_pos zj]; exact hkd0
              · rw [if_neg zj]
                have := fl j (by omega) (by omega)
                exact ⟨this.2.2.1, this.2.2.2.1⟩
            · rw [rO 8 (by decide) (by decide) (by decide) (by decide) (by decide) (by decide) (by decide), rO 10 (by decide) (by decide) (by decide) (by decide) (by decide) (by decide) (by decide), hpR]
              unfold bsC
              by_cases zz : C 11 c = -1
              · rw [if_pos zz, if_pos zz]
              · rw [if_neg zz, if_neg zz, (hcl zz).1]
            · rw [rO 8 (by decide) (by decide) (by decide) (by decide) (by decide) (by decide) (by decide), rO 11 (by decide) (by decide) (by decide) (by decide) (by decide) (by decide) (by decide), hpR]
              unfold enC
              by_cases zz : C 11 c = -1
              · rw [if_pos zz, if_pos zz]
              · rw [if_neg zz, if_neg zz, (hcl zz).2]
            have nM : ∀ k, k ≠ 0 → M3 k = M' k := fun k hk => funext fun i => by rw [e3, ux_c _ _ _ _ hk]
            have nM0 : ∀ i, i ≠ 3 → M3 0 i = M' 0 i := fun i hi => by rw [e3, ux_i _ _ _ hi]
            have gM : ∀ k, k ≠ 10 → k ≠ 11 → k ≠ 14 → k ≠ 15 → M' k = rF R c v' kd lk st k := fun k z1 z2 z3 z4 => funext fun i => g1 k i z1 z2 z3 z4
            have q0 : ∀ i, i ≠ 3 → M3 0 i = if i = 0 then 0 else R 0 i := fun i hi => by rw [nM0 i hi, gM 0 (by decide) (by decide) (by decide) (by decide)]; simp [rF]
            have qO : ∀ k, k ≠ 0 → k ≠ 9 → k ≠ 5 → k ≠ 12 → k ≠ 13 → k ≠ 17 → k ≠ 6 → k ≠ 10 → k ≠ 11 → k ≠ 14 → k ≠ 15 → M3 k = R k := fun k z1 z2 z3 z4 z5 z6 z7 z8 z9 z10 z11 => by rw [nM k z1, gM k z8 z9 z10 z11, rO k z1 z2 z3 z4 z5 z6 z7]
            have r9' : M3 9 c = C 14 c + 1 := by rw [nM 9 (by decide), gM 9 (by decide) (by decide) (by decide) (by decide), r9, if_pos rfl]
            refine ⟨c0, by omega, fun v5 e5 g5' => ?_⟩
            rw [r9'] at e5
            subst e5
            refine ⟨by unfold ri_; omega, ?_, by omega, ?_, ⟨?_, ?_, ?_, ?_, ?_⟩, ⟨?_, ?_⟩, ?_⟩
            · rw [q0 0 (by decide), if_pos rfl]
            · refine ⟨⟨?_, ?_, ?_, ?_, ?_⟩, ?_, ?_, ?_, ?_⟩
              · rw [n7 1 (by decide), gO 1 (by decide) (by decide) (by decide) (by decide) (by decide) (by decide) (by decide) (by decide) (by decide) (by decide) (by decide) (by decide), m11, e3, ux_s]
              · rw [n7 1 (by decide), gO 1 (by decide) (by decide) (by decide) (by decide) (by decide) (by decide) (by decide) (by decide) (by decide) (by decide) (by decide) (by decide), m11]; omega
              · rw [n7 1 (by decide), gO 1 (by decide) (by decide) (by decide) (by decide) (by decide) (by decide) (by decide) (by decide) (by decide) (by decide) (by decide) (by decide), m11]; omega
              · intro i i0 i1
                rw [n7 1 (by decide), gO 1 (by decide) (by decide) (by decide) (by decide) (by decide) (by decide) (by decide) (by decide) (by decide) (by decide) (by decide) (by decide), m11] at i1
                omega
              · intro i i0 i1
                rw [cO 3 (by decide) (by decide) (by decide) (by decide) (by decide) (by decide) (by decide) (by decide) (by decide) (by decide) (by decide) (by decide) (by decide) (by decide), qO 2 (by decide) (by decide) (by decide) (by decide) (by decide) (by decide) (by decide) (by decide) (by decide) (by decide) (by decide)]
                exact t5 i i0 i1
              · intro i; rw [qO 1 (by decide) (by decide) (by decide) (by decide) (by decide) (by decide) (by decide) (by decide) (by decide) (by decide) (by decide)]; exact b1 i
              · intro i; rw [qO 2 (by decide) (by decide) (by decide) (by decide) (by decide) (by decide) (by decide) (by decide) (by decide) (by decide) (by decide)]; exact b2 i
              · intro k k0 k1
                rw [cO 7 (by decide) (by decide) (by decide) (by decide) (by decide) (by decide) (by decide) (by decide) (by decide) (by decide) (by decide) (by decide) (by decide) (by decide), qO 3 (by decide) (by decide) (by decide) (by decide) (by decide) (by decide) (by decide) (by decide) (by decide) (by decide) (by decide)]
                exact hK k k0 k1
              · refine ty_field hY c0 c1 z (by omega) (hnm v' h').1 hkd0.1 hkd0.2 hst (fun k k0 k1 => cO k (by omega) (by omega) (by omega) (by omega) (by omega) (by omega) (by omega) (by omega) (by omega) (by omega) (by omega) (by omega) (by omega) (by omega)) p14 p15 p16 p17 p18 p19 p20 p21 p22 p23 p24 p25 (fun k hk => qO k (by omega) (by omega) (by omega) (by omega) (by omega) (by omega) (by omega) (by omega) (by omega) (by omega) (by omega)) (by rw [q0 20 (by decide), if_neg (by decide)]) (fun i => by rw [nM 9 (by decide), gM 9 (by decide) (by decide) (by decide) (by decide), r9]) (fun i => by rw [nM 5 (by decide), gM 5 (by decide) (by decide) (by decide) (by decide), r5']) (fun i => by rw [nM 12 (by decide), gM 12 (by decide) (by decide) (by decide) (by decide), r12]) (fun i => by rw [nM 13 (by decide), gM 13 (by decide) (by decide) (by decide) (by decide), r13]) (fun i => by rw [nM 17 (by decide), gM 17 (by decide) (by decide) (by decide) (by decide), r17]) ?_ ?_ ?_ ?_ ?_
                · intro i hi
                  rw [nM 10 (by decide), nM 11 (by decide), (g2 i hi).1, (g2 i hi).2, rO 10 (by decide) (by decide) (by decide) (by decide) (by decide) (by decide) (by decide), rO 11 (by decide) (by decide) (by decide) (by decide) (by decide) (by decide) (by decide)]
                  exact ⟨rfl, rfl⟩
                · rw [nM 10 (by decide), g4, ns_cong _ fun j j1 => (rst j j1).1]
                · rw [nM 11 (by decide), g5, lb_cong _ _ fun j j1 => rst j j1]
                · intro i hi
                  have := g3 i (by omega)
                  rw [nM 14 (by decide), nM 15 (by decide), this.1, this.2, rO 14 (by decide) (by decide) (by decide) (by decide) (by decide) (by decide) (by decide), rO 15 (by decide) (by decide) (by decide) (by decide) (by decide) (by decide) (by decide)]
                  exact ⟨rfl, rfl⟩
                · intro j j1
                  have := g6 j (by omega)
                  rw [nM 14 (by decide), nM 15 (by decide), this.1, sl_cong j fun i i1 => (rst i (by omega)).1]
                  refine ⟨rfl, fun qz => ?_⟩
                  rw [this.2 (by rw [(rst j (by omega)).1]; exact qz), lp_cong _ j (by omega) fun j j1 => rst j j1]
            · intro k i k0 k1
              rw [cO k (by omega) k1 (by omega) (by omega) (by omega) (by omega) (by omega) (by omega) (by omega) (by omega) (by omega) (by omega) (by omega) (by omega)]
            · intro i
              rw [cO 0 (by decide) (by decide) (by decide) (by decide) (by decide) (by decide) (by decide) (by decide) (by decide) (by decide) (by decide) (by decide) (by decide) (by decide)]
            · have x8 : M7 8 0 = C 8 0 := by rw [cO 8 (by decide) (by decide) (by decide) (by decide) (by decide) (by decide) (by decide) (by decide) (by decide) (by decide) (by decide) (by decide) (by decide) (by decide)]
              refine ⟨by omega, fun d d0 d1 => ⟨?_, ?_, fun uu => ?_, fun k k0 k1 => ⟨?_, fun q q0' q1' => ?_⟩⟩⟩
              · rw [cO 9 (by decide) (by decide) (by decide) (by decide) (by decide) (by decide) (by decide) (by decide) (by decide) (by decide) (by decide) (by decide) (by decide) (by decide)]
              · rw [cO 11 (by decide) (by decide) (by decide) (by decide) (by decide) (by decide) (by decide) (by decide) (by decide) (by decide) (by decide) (by decide) (by decide) (by decide)]
              · have hdc : d ≠ c := fun q => by rw [q, z] at uu; omega
                have hbd2 := ty_bd hY d d0 d1
                refine ⟨?_, by rw [p16, if_neg (fun q => hdc q.1)], by rw [p17, if_neg hdc], fun k j hk j0 j1 => ?_⟩
                · rw [cO 12 (by decide) (by decide) (by decide) (by decide) (by decide) (by decide) (by decide) (by decide) (by decide) (by decide) (by decide) (by decide) (by decide) (by decide)]; exact uu
                · rcases hk with rfl | rfl | rfl
                  · rw [p23, if_neg (by omega)]
                  · rw [p24, if_neg (by omega)]
                  · rw [p25, if_neg (by omega)]
              · rw [p14]
                by_cases zd : d = c
                · rw [if_pos zd]; rw [zd] at k1; omega
                · rw [if_neg zd]; exact k1
              · have hr : 6 * d + k ≠ 6 * c + C 14 c := by
                  intro qq
                  have := (y4 d d0 d1).1.2.2.2.2.2.2.2.2.2.1
                  have e : d = c := by omega
                  subst e; omega
                have : q = 18 ∨ q = 19 ∨ q = 20 ∨ q = 21 ∨ q = 22 := by omega
                rcases this with rfl | rfl | rfl | rfl | rfl
                · rw [p18, if_neg hr]
                · rw [p19, if_neg hr]
                · rw [p20, if_neg hr]
                · rw [p21, if_neg hr]
                · rw [p22, if_neg hr]
            · intro hL d k d0 d1 k0 k1
              rw [cO 8 (by decide) (by decide) (by decide) (by decide) (by decide) (by decide) (by decide) (by decide) (by decide) (by decide) (by decide) (by decide) (by decide) (by decide)] at d1 ⊢
              rw [p14] at k1
              rw [p19, p20]
              by_cases zz : 6 * d + k = 6 * c + C 14 c
              · rw [if_pos zz, if_pos zz]
                by_cases z5 : kd = 5
                · rw [if_pos z5]
                  refine Or.inl ⟨z5, ?_⟩
                  by_cases zl : lk = -1 ∨ vT (C 8 0) lk
                  · exact zl
                  · exact absurd (Or.inr (Or.inr (Or.inr ⟨z5, zl⟩))) hg
                · rw [if_neg z5]; exact Or.inr ⟨z5, rfl⟩
              · rw [if_neg zz, if_neg zz]
                refine hL d k d0 d1 k0 ?_
                by_cases zd : d = c
                · rw [if_pos zd] at k1; rw [zd]; rw [zd] at zz; omega
                · rw [if_neg zd] at k1; exact k1
            · intro d k d0 d1 k0 k1
              rw [cO 8 (by decide) (by decide) (by decide) (by decide) (by decide) (by decide) (by decide) (by decide) (by decide) (by decide) (by decide) (by decide) (by decide) (by decide)] at d1
              rw [p14] at k1
              by_cases zz : 6 * d + k = 6 * c + C 14 c
              · refine Or.inr fun q5 => ?_
                rw [p19, if_pos zz] at q5
                rw [e7, zz, ux_s, hr5, if_pos q5]
              · refine Or.inl ⟨d1, ?_, ?_⟩
                · by_cases zd : d = c
                  · rw [if_pos zd] at k1; rw [zd]; rw [zd] at zz; omega
                  · rw [if_neg zd] at k1; exact k1
                · rw [e7, ux_i _ _ _ zz, gO 32 (by decide) (by decide) (by decide) (by decide) (by decide) (by decide) (by decide) (by decide) (by decide) (by decide) (by decide) (by decide), mf 32 (by decide)]
            · intro k i hk
              rw [qO k (by omega) (by omega) (by omega) (by omega) (by omega) (by omega) (by omega) (by omega) (by omega) (by omega) (by omega)]
            · intro i i0 i1 i2
              rw [q0 i i1, if_neg i0]
            · intro hs f f0 f1
              rw [nM 6 (by decide), gM 6 (by decide) (by decide) (by decide) (by decide), r6, e7]
              by_cases zf : f = 6 * c + C 14 c
              · rw [if_pos zf, zf, ux_s, hr5]
              · rw [if_neg zf, ux_i _ _ _ zf, gO 32 (by decide) (by decide) (by decide) (by decide) (by decide) (by decide) (by decide) (by decide) (by decide) (by decide) (by decide) (by decide), mf 32 (by decide)]
                exact hs f f0 f1
          refine ⟨by unfold ri_; omega, by unfold ri_; omega, ?_⟩
          unfold w_X10_firstValue
          exact ⟨fun z5 _ => ⟨by omega, by omega, fun M7 e7 => fst 0 (by rw [if_neg z5]) M7 e7⟩, fun z5 _ => ⟨by omega, by omega, fun M7 e7 => fst (-1) (by rw [if_pos z5]) M7 e7⟩⟩
        have m14 : M8 14 c = C 14 c := m 14 c (by decide)
        have men : enC M8 c = enC C c := by unfold enC; rw [mf 11 (by decide), mf 17 (by decide)]
        refine ⟨hst, p_addField c0 (by omega) (by omega) (by omega) (by rw [mf 16 (by decide)]; omega) (by rw [mf 16 (by decide)]; omega) (by rw [mf 15 (by decide)]; omega) (by rw [mf 15 (by decide)]; omega) hkd0.1 hkd0.2 ?_ (by rw [mf 11 (by decide)]; omega) (by rw [mf 11 (by decide)]; omega) (by rw [men]; exact hen.1) (by rw [men]; exact hen.2) ?_ ?_⟩
        · intro j j1
          rw [mf 19 (by decide)]
          have := fl j (by omega) (by omega)
          exact ⟨this.2.2.1, this.2.2.2.1⟩
        · intro zs
          rw [m14]
          refine hfin _ (fun _ _ _ => rfl) ?_
          have e17 : aF M8 c v kd (if kd = 5 then lk else -1) st 17 c = C 17 c := by simp [aF]; rw [mf 17 (by decide)]
          have hnn : (C 14 c + 1).toNat = (C 14 c).toNat + 1 := by omega
          rw [e17, l3, hnn, lb_st (by
            rw [show (((C 14 c).toNat : Nat) : Int) = C 14 c from by omega]
            simp [aF, m14]; exact zs)]
          refine (lb_cong _ _ fun j j1 => ⟨?_, ?_⟩).symm
          · simp only [aF, m14]
            simp
            rw [if_neg (by omega), mf 21 (by decide)]
          · simp only [aF, m14]
            simp
            rw [if_neg (by omega), mf 19 (by decide)]
        · intro zs
          rw [m14]
          refine hfin _ (fun k i hk => ?_) ?_
          · by_cases zk : k = 17
            · subst zk; rw [ux_i _ _ _ (by omega)]
            · rw [ux_c _ _ _ _ zk]
          · rw [ux_s, men]
            have u21 : ∀ y, ux_ (aF M8 c v kd (if kd = 5 then lk else -1) st) 17 c y 21 = aF M8 c v kd (if kd = 5 then lk else -1) st 21 := fun y => funext fun i => ux_c _ _ _ _ (by decide)
            have u19 : ∀ y, ux_ (aF M8 c v kd (if kd = 5 then lk else -1) st) 17 c y 19 = aF M8 c v kd (if kd = 5 then lk else -1) st 19 := fun y => funext fun i => ux_c _ _ _ _ (by decide)
            rw [u21, u19]
      refine ⟨fun z5 => ?_, fun z5 => ?_⟩
      · rw [if_neg z5] at key; exact key
      · rw [if_pos z5] at key; exact key
    refine ⟨fun zv => h65 (Or.inl zv), fun zv => ⟨fun z1 => h65 (Or.inr (Or.inl z1)), fun z1 => ⟨fun z2 => h65 (Or.inr (Or.inr (Or.inl z2))), fun z2 => ⟨fun z3 => h73 ?_, fun z3 => ⟨fun z4 => h73 ?_, fun z4 => ?_⟩⟩⟩⟩⟩
    · rintro (q | q | q | q)
      · exact zv q
      · exact z1 q
      · exact z2 q
      · exact z3 q.1
    · rintro (q | q | q | q)
      · exact zv q
      · exact z1 q
      · exact z2 q
      · exact q.2 (Or.inl z4)
    · have q8 : C1 8 0 = C 8 0 := hf 8 0 (by omega)
      refine p_isType glk (fun hh _ => ⟨fun _ => h73 ?_, fun q => by omega⟩) (fun hh _ => ⟨fun q => absurd rfl q, fun _ => h65 (Or.inr (Or.inr (Or.inr ⟨z3, ?_⟩)))⟩)
      · rw [q8] at hh
        rintro (q | q | q | q)
        · exact zv q
        · exact z1 q
        · exact z2 q
        · exact q.2 (Or.inr hh)
      · rw [q8] at hh
        rintro (q | q)
        · exact z4 q
        · exact hh q
  · -- no class
    refine R_field glk hst (by omega) (by omega) (by omega) (by omega) hown (fun _ => ⟨by rw [ux_s]; rfl, sc_F2 h fun _ _ _ => rfl⟩) (fun v' h' q0 q1 => absurd ⟨q0, by omega⟩ c0) (fun v' h' q0 q1 => absurd ⟨q0, by omega⟩ c0) (fun v' h' q0 q1 => absurd ⟨q0, by omega⟩ c0)
