/-! facts are counted -/
noncomputable def rwK (K : KK) (k : Int) (t : Nat) : Nat := cntB (fun j => @decide (K k t j) (Classical.propDecidable _)) 40
noncomputable def cnK (K : KK) (k : Int) : Nat → Nat
  | 0 => 0
  | m + 1 => cnK K k m + rwK K k m
noncomputable def toK (K : KK) (n : Nat) : Nat → Nat
  | 0 => 0
  | m + 1 => toK K n m + cnK K m n
theorem dcT (P : Prop) : @decide P (Classical.propDecidable _) = true ↔ P := @decide_eq_true_iff _ (Classical.propDecidable _)
theorem dcE {P P' : Prop} (h : P ↔ P') : @decide P (Classical.propDecidable _) = @decide P' (Classical.propDecidable _) := by
  rw [Bool.eq_iff_iff, dcT, dcT]; exact h
theorem rwK_e {K K' : KK} {k : Int} {t : Nat} (h : ∀ j : Nat, K k t j ↔ K' k t j) : rwK K k t = rwK K' k t := cntB_e fun j _ => dcE (h j)
theorem cnK_e {K K' : KK} {k : Int} (h : ∀ t j : Nat, K k t j ↔ K' k t j) : ∀ m, cnK K k m = cnK K' k m := by
  intro m
  induction m with
  | zero => rfl
  | succ m ih => unfold cnK; rw [ih, rwK_e (fun j => h m j)]
theorem toK_e {K K' : KK} {n : Nat} (h : ∀ (k t j : Nat), K k t j ↔ K' k t j) : ∀ m, toK K n m = toK K' n m := by
  intro m
  induction m with
  | zero => rfl
  | succ m ih => unfold toK; rw [ih, cnK_e (fun t j => h m t j)]
theorem cntB_0 {f : Nat → Bool} : ∀ {n : Nat}, (∀ j, j < n → f j = false) → cntB f n = 0 := by
  intro n
  induction n with
  | zero => intro _; rfl
  | succ n ih => intro h; unfold cntB; rw [ih (fun j hj => h j (by omega)), h n (by omega)]; rfl
theorem cntB_1 {a : Nat} {f : Nat → Bool} : ∀ {n : Nat}, (∀ j, j < n → j ≠ a → f j = false) → cntB f n = if a < n ∧ f a = true then 1 else 0 := by
  intro n
  induction n with
  | zero => intro _; rw [if_neg (by omega)]; rfl
  | succ n ih =>
    intro h
    unfold cntB
    rw [ih (fun j hj => h j (by omega))]
    by_cases e : a = n
    · rw [if_neg (by omega), e]
      by_cases y : f n = true
      · rw [if_pos y, if_pos ⟨by omega, y⟩]
      · rw [if_neg y, if_neg (fun q => y q.2)]
    · have z : ¬ f n = true := by rw [h n (by omega) (fun q => e q.symm)]; decide
      rw [if_neg z]
      by_cases y : a < n ∧ f a = true
      · rw [if_pos y, if_pos ⟨by omega, y.2⟩]
      · rw [if_neg y, if_neg (fun q => y ⟨by omega, q.2⟩)]
theorem rwK_le (K : KK) (k : Int) (t : Nat) : rwK K k t ≤ 40 := cntB_le _ _
theorem rwK_0 {K : KK} {k : Int} {t : Nat} (h : ∀ j : Nat, j < 40 → ¬ K k t j) : rwK K k t = 0 := cntB_0 fun j hj => by
  exact Bool.eq_false_iff.mpr (fun q => h j hj ((dcT (K k t j)).mp q))
theorem cnK_le (K : KK) (k : Int) : ∀ m, cnK K k m ≤ 40 * m := by
  intro m
  induction m with
  | zero => exact Nat.le_refl _
  | succ m ih => unfold cnK; have := rwK_le K k m; omega
theorem toK_le (K : KK) {n : Nat} (hn : n ≤ 40) : ∀ m, toK K n m ≤ 1600 * m := by
  intro m
  induction m with
  | zero => exact Nat.le_refl _
  | succ m ih => unfold toK; have := cnK_le K m n; omega
theorem cnK_40 {K : KK} {k : Int} {n : Nat} (h : ∀ t j : Nat, n ≤ t → ¬ K k t j) : ∀ d, cnK K k (n + d) = cnK K k n := by
  intro d
  induction d with
  | zero => rfl
  | succ d ih =>
    show cnK K k (n + d) + rwK K k (n + d) = cnK K k n
    rw [ih, rwK_0 (fun j _ => h (n + d) j (by omega))]; rfl
theorem p_cntC {C : MM} {K : KK} {k n : Int} (k0 : 0 ≤ k) (k9 : k < 9) (hn : C 274 1 = n) (n0 : 0 ≤ n) (n40 : n ≤ 40) (hx : ∀ a, 0 ≤ a → a < 40 → BS (C 275 (k * 40 + a)) (fun x => K k a x)) {Q : Int → MM → Prop} (hq : Q ((cnK K k n.toNat : Nat) : Int) C) : w_X1_countOf Q k C := by
  unfold w_X1_countOf w_X1_countOf_b4
  refine loop4 _ (fun (x1 x2 t : Int) M => k = x1 ∧ C = M ∧ 0 ≤ t ∧ t ≤ n ∧ x2 = ((cnK K k t.toNat : Nat) : Int)) (fun _ _ t _ => (n - t).toNat) ?_ _ _ _ _ ⟨rfl, rfl, by omega, n0, rfl⟩
  rintro _ x2 t _ f ⟨rfl, rfl, t0, t1, rfl⟩ ih
  unfold wb_X1_countOf_b4
  intro v1 e1 _
  rw [hn] at e1
  rw [e1]
  refine ⟨fun z => ?_, fun z => ⟨by unfold ri_; omega, by unfold ri_; omega, by omega, by omega, fun v5 e5 _ => ?_⟩⟩
  · have : t = n := by omega
    rw [this]; exact hq
  obtain ⟨m, em, hm, hb⟩ := hx t t0 (by omega)
  obtain ⟨u, rfl⟩ : ∃ u : Nat, t = u := ⟨t.toNat, by omega⟩
  rw [e5, em]
  have ec : cntB m.testBit 40 = rwK K k u := cntB_e fun j _ => by
    rw [Bool.eq_iff_iff, dcT]; exact hb j
  refine p_bitC hm ?_
  rw [ec]
  have l1 := cnK_le K k u
  have l2 := rwK_le K k u
  refine fun _ => ⟨by unfold ri_; simp only [Int.toNat_natCast]; omega, by unfold ri_; omega, ih _ _ _ _ ⟨rfl, rfl, by omega, by omega, ?_⟩ (by omega)⟩
  rw [show ((u : Int) + 1).toNat = u + 1 from by omega]
  show _ = ((cnK K k u + rwK K k u : Nat) : Int)
  simp only [Int.toNat_natCast]
  omega
/-- the facts that the reference has -/
def FcR (R : MM) : KK := fun k a b => R 83 k = 1 ∧ a = b ∧ R 94 (40 * k + a) = 1 ∨ R 83 k = 2 ∧ R 95 (1600 * k + 40 * a + b) = 1
theorem p_cntR {R : MM} {k : Int} (k0 : 0 ≤ k) (k6 : k < 6) {Q : Int → MM → Prop} (hq : Q ((cnK (FcR R) k 40 : Nat) : Int) R) : w_X12_count Q k R := by
  unfold w_X12_count w_X12_count_b4
  refine loop4 _ (fun (x1 x2 t : Int) M => k = x1 ∧ R = M ∧ 0 ≤ t ∧ t ≤ 40 ∧ x2 = ((cnK (FcR R) k t.toNat : Nat) : Int)) (fun _ _ t _ => (40 - t).toNat) ?_ _ _ _ _ ⟨rfl, rfl, by omega, by omega, rfl⟩
  rintro _ x2 t _ f ⟨rfl, rfl, t0, t1, rfl⟩ ih
  unfold wb_X12_count_b4
  refine ⟨fun z => ?_, fun z => ⟨k0, k6, fun v2 e2 _ => ?_⟩⟩
  · have : t = 40 := by omega
    rw [this]; exact hq
  obtain ⟨u, rfl⟩ : ∃ u : Nat, t = u := ⟨t.toNat, by omega⟩
  simp only [Int.toNat_natCast]
  have l1 := cnK_le (FcR R) k u
  have l2 := rwK_le (FcR R) k u
  have nx : ∀ x2 : Int, x2 = ((cnK (FcR R) k u + rwK (FcR R) k u : Nat) : Int) → w_X12_count_b97 Q f k x2 u R := fun x2 h => by
    unfold w_X12_count_b97
    refine ⟨by unfold ri_; omega, ih _ _ _ _ ⟨rfl, rfl, by omega, by omega, ?_⟩ (by omega)⟩
    rw [show ((u : Int) + 1).toNat = u + 1 from by omega]
    exact h
  have rw1 : R 83 k = 1 → rwK (FcR R) k u = if R 94 (40 * k + u) = 1 then 1 else 0 := fun h => by
    unfold rwK
    rw [cntB_1 (a := u) (fun j _ hj => Bool.eq_false_iff.mpr (fun q => ?_))]
    · by_cases y : R 94 (40 * k + u) = 1
      · rw [if_pos y, if_pos ⟨by omega, (dcT _).mpr (Or.inl ⟨h, rfl, y⟩)⟩]
      · rw [if_neg y, if_neg (fun q => ?_)]
        rcases (dcT _).mp q.2 with w | w
        · exact y w.2.2
        · omega
    · rcases (dcT _).mp q with w | w
      · have := w.2.1; omega
      · omega
  -- the second loop, for two
  have lp : ∀ x2 : Int, (R 83 k = 2 ∧ x2 = ((cnK (FcR R) k u : Nat) : Int) ∨ R 83 k ≠ 2 ∧ x2 = ((cnK (FcR R) k u + rwK (FcR R) k u : Nat) : Int)) → w_X12_count_b42 Q f k x2 u R := fun x2 hx => by
    unfold w_X12_count_b42 w_X12_count_b45
    refine loop5 _ (fun (x1 x2 x3 w : Int) M => k = x1 ∧ (u : Int) = x3 ∧ R = M ∧ 0 ≤ w ∧ w ≤ 40 ∧ (R 83 k = 2 ∧ x2 = ((cnK (FcR R) k u + cntB (fun j => @decide (FcR R k u j) (Classical.propDecidable _)) w.toNat : Nat) : Int) ∨ R 83 k ≠ 2 ∧ x2 = ((cnK (FcR R) k u + rwK (FcR R) k u : Nat) : Int))) (fun _ _ _ w _ => (40 - w).toNat) ?_ _ _ _ _ _ ⟨rfl, rfl, rfl, by omega, by omega, hx⟩
    rintro _ x2 _ w _ g ⟨rfl, rfl, rfl, w0, w1, hx⟩ ih2
    unfold wb_X12_count_b45
    refine ⟨fun y => nx x2 ?_, fun y => ⟨k0, k6, fun v2 e2 _ => ⟨fun y2 => nx x2 ?_, fun y2 => ⟨by unfold ri_; omega, by unfold ri_; omega, by unfold ri_; omega, by unfold ri_; omega, by omega, by omega, fun v8 e8 o8 => ?_⟩⟩⟩⟩
    · rcases hx with h | h
      · have : w = 40 := by omega
        rw [h.2, this]; rfl
      · exact h.2
    · rcases hx with h | h
      · exact absurd (by rw [e2]; exact h.1) y2
      · exact h.2
    have h2 : R 83 k = 2 := by rw [← e2]; exact y2
    obtain ⟨m, rfl⟩ : ∃ m : Nat, w = m := ⟨w.toNat, by omega⟩
    have hx' : x2 = ((cnK (FcR R) k u + cntB (fun j => @decide (FcR R k u j) (Classical.propDecidable _)) m : Nat) : Int) := by
      rcases hx with h | h
      · exact h.2
      · exact absurd h2 h.1
    have lm := cntB_le (fun j => @decide (FcR R k u j) (Classical.propDecidable _)) m
    have go : ∀ s0 : Int, (s0 = 1 ∧ FcR R k u m ∨ s0 = 0 ∧ ¬ FcR R k u m) → w_X12_count_b89 Q f g k u m s0 x2 R := fun s0 hs => by
      unfold w_X12_count_b89
      refine ⟨by unfold ri_; omega, by unfold ri_; omega, ih2 _ _ _ _ _ ⟨rfl, rfl, rfl, by omega, by omega, Or.inl ⟨h2, ?_⟩⟩ (by omega)⟩
      rw [show ((m : Int) + 1).toNat = m + 1 from by omega]
      show x2 + s0 = ((cnK (FcR R) k u + (cntB (fun j => @decide (FcR R k u j) (Classical.propDecidable _)) m + if @decide (FcR R k u m) (Classical.propDecidable _) = true then 1 else 0) : Nat) : Int)
      rcases hs with ⟨h, h'⟩ | ⟨h, h'⟩
      · rw [if_pos ((dcT _).mpr h')]; omega
      · rw [if_neg (fun q => h' ((dcT _).mp q))]; omega
    have fc : FcR R k u m ↔ R 95 (1600 * k + 40 * u + m) = 1 := ⟨fun q => q.elim (fun q => by omega) (fun q => q.2), fun q => Or.inr ⟨h2, q⟩⟩
    refine ⟨fun q => go 0 (Or.inr ⟨rfl, fun q' => ?_⟩), fun q => go 1 (Or.inl ⟨rfl, fc.mpr ?_⟩)⟩
    · have := fc.mp q'; omega
    · omega
  refine ⟨fun y => lp _ ?_, fun y => ⟨by unfold ri_; omega, by unfold ri_; omega, by omega, by omega, fun v6 e6 o6 => ?_⟩⟩
  · by_cases h2 : R 83 k = 2
    · exact Or.inl ⟨h2, rfl⟩
    · refine Or.inr ⟨h2, ?_⟩
      rw [rwK_0 (fun j _ q => ?_)]; rfl
      rcases q with q | q
      · have := q.1; omega
      · exact h2 q.1
  · have h1 : R 83 k = 1 := by omega
    unfold w_X12_count_b40
    have q := rw1 h1
    refine ⟨fun y6 => ⟨by unfold ri_; omega, lp _ (Or.inr ⟨by omega, ?_⟩)⟩, fun y6 => ⟨by unfold ri_; omega, lp _ (Or.inr ⟨by omega, ?_⟩)⟩⟩
    · rw [q, if_neg (by omega)]; omega
    · rw [q, if_pos (by omega)]; omega
