/-! questions worked out: acts over one value -/
theorem c_one {Q : Int → MM → Prop} {M : MM} {tp o d so v : Int} (h6 : M 219 6 = tp + 1) (hs : M 220 tp = so) (hv : M 221 tp = v) (t0 : 0 ≤ tp) (t1 : tp < 121)
    (H : ∀ M5, M5 = ux_ M 219 6 tp → (o = 12 → so = 0 → w_X4_push (fun _ M => Q 0 M) 0 (w64 (-v)) M5) ∧ (o = 13 → so = 1 → w_X4_pushTruth (fun _ M => Q 0 M) (if v = 0 then 1 else 0) M5) ∧ (o ≠ 12 → o ≠ 13 → so = 2 → ri_ v ∧ w_X4_lookAt (fun _ M => Q 0 M) o v d M5) ∧ ((o = 12 → so ≠ 0) → (o = 13 → so ≠ 1) → (o ≠ 12 → o ≠ 13 → so ≠ 2) → w_X4_push (fun _ M => Q 0 M) 4 0 M5)) : w_X4_doOne Q o d M := by
  unfold w_X4_doOne
  refine fun v1 e1 _ => ⟨fun z v3 e3 _ => ⟨by unfold ri_; omega, fun M5 e5 v6 e6 _ => ?_⟩, fun z => by omega⟩
  have a3 : v3 - 1 = tp := by omega
  rw [a3] at e5
  obtain ⟨H1, H2, H3, H4⟩ := H M5 e5
  have a6 : v6 = tp := by rw [e6, e5, ux_s]
  refine ⟨by omega, by omega, fun v7 e7 _ v8 e8 _ => ?_⟩
  have a7 : v7 = so := by rw [e7, a6, e5, ux_c _ _ _ _ (by decide), hs]
  have a8 : v8 = tp := by rw [e8, e5, ux_s]
  refine ⟨by omega, by omega, fun v9 e9 _ => ?_⟩
  have a9 : v9 = v := by rw [e9, a8, e5, ux_c _ _ _ _ (by decide), hv]
  rw [a7, a9]
  have no : (o = 12 → so ≠ 0) → (o = 13 → so ≠ 1) → (o ≠ 12 → o ≠ 13 → so ≠ 2) → w_X4_doOne_b123 Q M5 := fun x y w => by
    unfold w_X4_doOne_b123
    exact H4 x y w
  have b93 : (o = 12 → so ≠ 0) → (o = 13 → so ≠ 1) → w_X4_doOne_b93 Q o d so v M5 := fun x y => by
    unfold w_X4_doOne_b93
    exact ⟨fun z => no x y (fun w => absurd z w), fun z => ⟨fun z2 => no x y (fun _ w => absurd z2 w), fun z2 => ⟨fun z3 => no x y (fun _ _ => z3), fun z3 => H3 z z2 z3⟩⟩⟩
  have b62 : (o = 12 → so ≠ 0) → w_X4_doOne_b62 Q o d so v M5 := fun x => by
    unfold w_X4_doOne_b62 w_X4_doOne_b87
    refine ⟨fun z => b93 x (fun w => absurd w z), fun z => ⟨fun z2 => b93 x (fun _ => z2), fun z2 => ?_⟩⟩
    have h := H2 z z2
    refine ⟨fun z3 => ⟨Or.inl rfl, ?_⟩, fun z3 => ⟨Or.inr rfl, ?_⟩⟩
    · rw [if_neg z3] at h; exact h
    · rw [if_pos z3] at h; exact h
  exact ⟨fun z => b62 (fun w => absurd w z), fun z => ⟨fun z2 => b62 (fun _ => z2), fun z2 => H1 z z2⟩⟩
theorem vT_a {n t : Int} (h : vT n t) (n16 : n ≤ 16) : (20 ≤ t ↔ ¬ (0 ≤ t ∧ t < n)) ∧ (t < 20 ↔ 0 ≤ t ∧ t < n) := by unfold vT at h; omega
def rOne (G : Nat → (Int → MM → Prop) → List Int → MM → Prop) (y k : Int) (Q : Int → MM → Prop) (R : MM) : Prop := ∀ v7, v7 = R 0 99 → ri_ v7 → (¬ v7 = 2 → w_X12_workOne_b42 G Q y k (-1) R) ∧ (v7 = 2 → ∀ v9, v9 = R 0 102 → rl_ v9 → ri_ v9 ∧ (w_X12_workOne_b42 G Q y k v9 R))
/-- a slot's value as the questions see it -/
def sVal (M0 : MM) (pc : Nat) (t j so v : Int) : Prop := (M0 (pc + 10) (M0 (pc + 4) t + j) = 0 ∧ so = 0 ∧ v = M0 (pc + 9) (M0 (pc + 4) t + j)) ∨ (M0 (pc + 10) (M0 (pc + 4) t + j) ≠ 0 ∧ M0 (pc + 9) (M0 (pc + 4) t + j) = -1 ∧ so = 3 ∧ v = 0) ∨ (M0 (pc + 10) (M0 (pc + 4) t + j) ≠ 0 ∧ M0 (pc + 9) (M0 (pc + 4) t + j) ≠ -1 ∧ so = 2 ∧ v = M0 (pc + 9) (M0 (pc + 4) t + j))
theorem sVal_ex {M0 R0 : MM} {pc : Nat} {t j : Int} (hY : Rty M0 R0) (hw : PW M0 pc) (t0 : 0 ≤ t) (t1 : t < M0 pc 0) (j0 : 0 ≤ j) (j1 : j < pcn M0 pc t) : ∃ so v, VV (M0 pc 0) so v ∧ sVal M0 pc t j so v := by
  have pv := hw.2.2.2.2.2.1 t j t0 t1 j0 j1
  unfold PV pK lf at pv
  by_cases z : M0 (pc + 10) (M0 (pc + 4) t + j) = 0
  · exact ⟨0, _, Or.inl rfl, Or.inl ⟨z, rfl, rfl⟩⟩
  · by_cases z2 : M0 (pc + 9) (M0 (pc + 4) t + j) = -1
    · exact ⟨3, 0, Or.inr (Or.inr (Or.inr (Or.inl ⟨rfl, rfl⟩))), Or.inr (Or.inl ⟨z, z2, rfl, rfl⟩)⟩
    · refine ⟨2, _, Or.inr (Or.inr (Or.inl ⟨rfl, ?_⟩)), Or.inr (Or.inr ⟨z, z2, rfl, rfl⟩)⟩
      rcases pv.2 with ⟨_, pv2 | ⟨a, b, _⟩⟩ | ⟨a, _⟩
      · exact absurd pv2 z2
      · exact ⟨a, b⟩
      · rw [if_neg a] at pv; exact absurd pv.1 z
theorem pc_in {M0 R0 : MM} {pc : Nat} {t j : Int} (hY : Rty M0 R0) (hw : PW M0 pc) (t0 : 0 ≤ t) (t1 : t < M0 pc 0) (j0 : 0 ≤ j) (j1 : j < pcn M0 pc t) : 0 ≤ M0 (pc + 4) t + j ∧ M0 (pc + 4) t + j < 4000 := by
  have a := pw_at hY hw t0 t1 j0 j1
  have b := hw.2.2.2.2.1
  omega
theorem Y_c {M0 R0 M : MM} (hY : Rty M0 R0) (hC : CB M0 M) : Rty M R0 := Rty_C hY (fun k a b => hC.1 k (by omega))
theorem isN_c {M0 M : MM} (hC : CB M0 M) (t D : Int) : isN M t D ↔ isN M0 t D := by
  unfold isN
  rw [hC.1 9 (by omega)]
  constructor
  · rintro ⟨m, a, b⟩
    rw [upn_eq (hC.1 11 (by omega))] at a b
    exact ⟨m, a, b⟩
  · rintro ⟨m, a, b⟩
    refine ⟨m, ?_, ?_⟩
    · rw [upn_eq (hC.1 11 (by omega))]; exact a
    · rw [upn_eq (hC.1 11 (by omega))]; exact b
theorem c_pushSlot {Q : Int → MM → Prop} {c pc : Nat} {M0 R0 M : MM} {p B tp t j so v : Int} (hE : EnvQ c pc M0 R0 p B) (hC : CB M0 M) (h6 : M 219 6 = tp) (tp0 : 0 ≤ tp) (tp1 : tp < 121) (t0 : 0 ≤ t) (t1 : t < M0 pc 0) (hj : (j = -1 ∧ so = 4 ∧ v = 0) ∨ (0 ≤ j ∧ j < pcn M0 pc t ∧ sVal M0 pc t j so v)) (hq : ∀ M', Psh tp so v M M' → Q 0 M') : w_X4_pushSlot Q t j M := by
  obtain ⟨w1, w2, w3⟩ := q_pic hE hC
  have hY := hE.2.2.2.2.2.1
  have hw := hE.2.2.2.2.2.2.1
  have n4 := hw.2.1
  unfold w_X4_pushSlot
  rcases hj with ⟨rfl, rfl, rfl⟩ | ⟨j0, j1, hs⟩
  · exact ⟨fun z => absurd rfl z, fun _ => p_push h6 tp0 tp1 hq⟩
  · have bd := pc_in hY hw t0 t1 j0 j1
    refine ⟨fun _ => ⟨pc, w1, w2, by omega, by omega, fun v3 e3 _ => ?_⟩, fun z => by omega⟩
    rw [w3 4 (by omega)] at e3
    rw [e3]
    refine ⟨by unfold ri_; omega, pc, w1, w2, bd.1, bd.2, fun v6 e6 _ => ?_⟩
    rw [w3 10 (by omega)] at e6
    refine ⟨fun z => ⟨pc, w1, w2, bd.1, bd.2, fun v9 e9 _ => ?_⟩, fun z => ⟨pc, w1, w2, bd.1, bd.2, fun v18 e18 _ => ?_⟩⟩
    · rw [w3 9 (by omega)] at e9
      rcases hs with ⟨a1, a2, a3⟩ | ⟨a1, a2, rfl, rfl⟩ | ⟨a1, a2, rfl, rfl⟩
      · omega
      · exact ⟨fun z2 => by omega, fun _ => p_push h6 tp0 tp1 hq⟩
      · refine ⟨fun _ => ⟨pc, w1, w2, bd.1, bd.2, fun v12 e12 _ => ?_⟩, fun z2 => by omega⟩
        rw [w3 9 (by omega)] at e12
        rw [e12]
        exact p_push h6 tp0 tp1 hq
    · rw [w3 9 (by omega)] at e18
      rcases hs with ⟨a1, rfl, rfl⟩ | ⟨a1, -⟩ | ⟨a1, -⟩
      · rw [e18]; exact p_push h6 tp0 tp1 hq
      · omega
      · omega
theorem r_link {Q : Int → MM → Prop} {R : MM} {l x so v : Int} (h : (x = -1 ∧ so = 3 ∧ v = 0) ∨ (x ≠ -1 ∧ so = 2 ∧ v = x)) (hq : ∀ R', EWr l R R' → R' 0 98 = R 0 98 → R' 0 103 = R 0 103 → R' 0 99 = so → R' 0 102 = v → Q 0 R') : w_X12_link Q x R := by
  unfold w_X12_link
  rcases h with ⟨rfl, rfl, rfl⟩ | ⟨h, rfl, rfl⟩
  · exact ⟨fun z => absurd rfl z, fun _ => r_giv (l := l) hq⟩
  · exact ⟨fun _ => r_giv (l := l) hq, fun z => absurd z h⟩
theorem r_no {Q : Int → MM → Prop} {R : MM} {l : Int} (hq : ∀ R', EWr l R R' → R' 0 98 = R 0 98 → R' 0 103 = R 0 103 → R' 0 99 = 4 → R' 0 102 = 0 → Q 0 R') : w_X12_nothing Q R := by
  unfold w_X12_nothing
  exact r_giv (l := l) hq
theorem r_tru {Q : Int → MM → Prop} {R : MM} {l z : Int} (z01 : z = 0 ∨ z = 1) (hq : ∀ R', EWr l R R' → R' 0 98 = R 0 98 → R' 0 103 = R 0 103 → R' 0 99 = 1 → R' 0 102 = z → Q 0 R') : w_X12_truth Q z R := by
  unfold w_X12_truth w_X12_truth_b11
  refine ⟨fun e => r_giv (l := l) (fun R' a b d e' f => hq R' a b d e' (by rw [f, e])), fun e => r_giv (l := l) (fun R' a b d e' f => hq R' a b d e' ?_)⟩
  rcases z01 with y | y
  · exact absurd y e
  · rw [f, y]
/-- a slot's value, in the reference -/
theorem r_slotV {Q : Int → MM → Prop} {c pc : Nat} {M0 R0 R : MM} {p B l t j so v : Int} (hE : EnvQ c pc M0 R0 p B) (hR : RB0 p R0 R) (t0 : 0 ≤ t) (t1 : t < M0 pc 0) (j0 : 0 ≤ j) (j1 : j < pcn M0 pc t) (hs : sVal M0 pc t j so v) (hq : ∀ R', EWr l R R' → R' 0 98 = R 0 98 → R' 0 103 = R 0 103 → R' 0 99 = so → R' 0 102 = v → Q 0 R') : (kA M0 (M0 (pc + 2) t) j ≠ 5 → w_X12_valueIn (fun r6 M7 => rl_ r6 → w_X12_give (fun _ M9 => Q 0 M9) 0 r6 M7) p t j R) ∧ (kA M0 (M0 (pc + 2) t) j = 5 → w_X12_valueIn (fun r12 M13 => rl_ r12 → w_X12_link (fun _ M15 => Q 0 M15) r12 M13) p t j R) := by
  have hY := hE.2.2.2.2.2.1
  have hw := hE.2.2.2.2.2.2.1
  have hb := hE.2.2.2.2.2.2.2.1
  have p0 := hE.2.2.2.2.2.2.2.2.1
  have p5 := hE.2.2.2.2.2.2.2.2.2.1
  have pv := (hw.2.2.2.2.2.1 t j t0 t1 j0 j1).1
  unfold lf at pv
  refine ⟨fun z => p_valueIn (Y_r hY hR) hw (B_e hE hR) p0 p5 t0 t1 j0 j1 (fun _ _ => ?_), fun z => p_valueIn (Y_r hY hR) hw (B_e hE hR) p0 p5 t0 t1 j0 j1 (fun _ _ => ?_)⟩
  · rw [if_neg z] at pv
    rcases hs with ⟨a1, rfl, rfl⟩ | ⟨a1, -⟩ | ⟨a1, -⟩
    · exact r_giv (l := l) hq
    · exact absurd pv a1
    · exact absurd pv a1
  · rw [if_pos z] at pv
    rcases hs with ⟨a1, -⟩ | ⟨a1, a2, a3, a4⟩ | ⟨a1, a2, a3, a4⟩
    · omega
    · exact r_link (l := l) (Or.inl ⟨a2, a3, a4⟩) hq
    · exact r_link (l := l) (Or.inr ⟨a2, a3, a4⟩) hq
