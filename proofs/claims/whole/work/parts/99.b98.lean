/-! names of classes and fields, looked up on both sides -/
def isN (C : MM) (t D : Int) : Prop := ∃ m : Nat, 0 ≤ upn C t m ∧ C 9 (upn C t m) = D
theorem p_isArr {Q : Int → MM → Prop} {t : Int} {M : MM} (h1 : 20 ≤ t → Q 1 M) (h0 : t < 20 → Q 0 M) : w_X10_isArray Q t M := by
  unfold w_X10_isArray
  exact ⟨fun z => h0 (by omega), fun z => h1 (by omega)⟩
theorem p_isNamed {Q : Int → MM → Prop} {t D : Int} {C R : MM} (hY : Rty C R) (ht : vT (C 8 0) t) (h1 : t < 20 → isN C t D → Q 1 C) (h0 : ¬ (t < 20 ∧ isN C t D) → Q 0 C) : w_X10_isNamed Q t D C := by
  have hp := pOk_of hY
  have h16 := hY.2.2.1
  unfold vT at ht
  unfold w_X10_isNamed w_X10_isNamed_b12 w_X10_isNamed_b17
  refine p_isArr (fun z _ => ⟨fun y => absurd y (by decide), fun _ => ⟨1, ?_⟩⟩) (fun z _ => ⟨fun _ => ?_, fun y => absurd rfl y⟩)
  · show wb_X10_isNamed_b17 Q _ D (-1) 0 C
    unfold wb_X10_isNamed_b17
    exact ⟨fun y => by omega, fun _ => ⟨fun _ => h0 (by omega), fun y => absurd rfl y⟩⟩
  · refine loop4 _ (fun (a x y : Int) M => D = a ∧ M = C ∧ 0 ≤ y ∧ ∃ m : Nat, y = m ∧ upn C t m = x ∧ ∀ j, j < m → 0 ≤ upn C t j ∧ C 9 (upn C t j) ≠ D) (fun _ (x : Int) _ _ => (x + 1).toNat) ?_ _ _ _ _ ⟨rfl, rfl, by omega, 0, rfl, rfl, fun j hj => absurd hj (by omega)⟩
    rintro _ x y M f ⟨rfl, rfl, y0, m, rfl, hm, hj⟩ ih
    have hin := upn_in hp (c := t) (by omega) (by omega) m
    rw [hm] at hin
    have hdn := upn_dn hp (t := t) (by omega) (by omega) m
    rw [hm] at hdn
    have none : x = -1 → Q 0 M := fun hx => h0 (fun ⟨_, k, k1, k2⟩ => by
      by_cases km : k < m
      · exact (hj k km).2 k2
      · have := upn_stay M t m (by rw [hm]; exact hx) (k - m)
        rw [show m + (k - m) = k from by omega] at this
        omega)
    unfold wb_X10_isNamed_b17
    refine ⟨fun z2 => none (by omega), fun z2 => ⟨fun z3 => none z3, fun z3 => ⟨by omega, by omega, fun v3 e3 _ => ⟨fun z4 => ⟨by omega, by omega, fun v5 e5 _ => ⟨by unfold ri_; omega, ih _ _ _ _ ⟨rfl, rfl, by omega, m + 1, by omega, by rw [upn_s, hm, if_neg z3, e5], fun j jm => ?_⟩ ?_⟩⟩, fun z4 => h1 z ⟨m, by omega, by rw [hm, ← e3]; exact z4⟩⟩⟩⟩⟩
    · by_cases e : j = m
      · rw [e, hm]; exact ⟨by omega, by rw [← e3]; exact z4⟩
      · exact hj j (by omega)
    · have := hp.2 x (by omega) hin.2
      omega
theorem p_R_isNm {Q : Int → MM → Prop} {t D w : Int} {C R : MM} (hY : Rty C R) (t0 : 0 ≤ t) (t1 : t < C 8 0) (hw : nr D w) (h1 : isN C t D → Q 1 R) (h0 : ¬ isN C t D → Q 0 R) : w_X12_isNamed Q t w 1 R := by
  have hp := pOk_of hY
  have h16 := hY.2.2.1
  have nm : ∀ x, 0 ≤ x → x < C 8 0 → (R 4 x = w ↔ C 9 x = D) := fun x x0 x1 => ((nr_eq (hY.2.2.2.1 x x0 x1).1.1 hw).symm)
  unfold w_X12_isNamed
  refine ⟨t0, by omega, fun v1 e1 _ => ?_⟩
  have go : ∀ z : Int, (z = 0 ∨ z = 1) → (z = 1 ↔ C 9 t = D) → w_X12_isNamed_b16 Q t w 1 z R := fun z z01 hz => by
    unfold w_X12_isNamed_b16 w_X12_isNamed_b26
    refine ⟨t0, by omega, fun v1 e1 _ => ?_⟩
    have e8 : ∀ x, 0 ≤ x → x < C 8 0 → R 8 x = C 11 x := fun x x0 x1 => (hY.2.2.2.1 x x0 x1).1.2.2.1.symm
    refine loop5 _ (fun (a h z x : Int) M => w = a ∧ h = 1 ∧ M = R ∧ (z = 0 ∨ z = 1) ∧ ∃ m : Nat, 0 < m ∧ upn C t m = x ∧ (z = 1 ↔ ∃ j, j < m ∧ 0 ≤ upn C t j ∧ C 9 (upn C t j) = D)) (fun _ _ _ (x : Int) _ => (x + 1).toNat) ?_ _ _ _ _ _ ⟨rfl, rfl, rfl, z01, 1, by omega, by rw [upn_s]; show (if t = -1 then -1 else C 11 t) = v1; rw [if_neg (by omega), e1, e8 t t0 t1], ⟨fun y => ⟨0, by omega, t0, hz.mp y⟩, fun ⟨j, j1, _, j3⟩ => hz.mpr (by rw [show j = 0 from by omega] at j3; exact j3)⟩⟩
    rintro _ _ z x M f ⟨rfl, rfl, rfl, z01, m, m0, hm, hz⟩ ih
    have hin := upn_in hp (c := t) (by omega) (by omega) m
    rw [hm] at hin
    have hdn := upn_dn hp (t := t) (by omega) (by omega) m
    rw [hm] at hdn
    have nxt : 0 ≤ x → ∀ s0, (s0 = 0 ∨ s0 = 1) → (s0 = 1 ↔ z = 1 ∨ C 9 x = D) → w_X12_isNamed_b59 Q f w 1 x s0 M := fun x0 s0 s01 hs => by
      unfold w_X12_isNamed_b59
      refine ⟨x0, by omega, fun v1 e1 _ => ih _ _ _ _ _ ⟨rfl, rfl, rfl, s01, m + 1, by omega, by rw [upn_s, hm, if_neg (by omega), e1, e8 x x0 hin.2], ⟨fun y => ?_, fun ⟨j, j1, j2, j3⟩ => hs.mpr ?_⟩⟩ ?_⟩
      · rcases hs.mp y with y | y
        · obtain ⟨j, j1, j2, j3⟩ := hz.mp y
          exact ⟨j, by omega, j2, j3⟩
        · exact ⟨m, by omega, by rw [hm]; exact x0, by rw [hm]; exact y⟩
      · by_cases e : j = m
        · rw [e, hm] at j3; exact Or.inr j3
        · exact Or.inl (hz.mpr ⟨j, by omega, j2, j3⟩)
      · rw [e8 x x0 hin.2] at e1
        have := hp.2 x x0 hin.2
        omega
    unfold wb_X12_isNamed_b26 w_X12_isNamed_b54
    have fin : x = -1 → (z = 0 ∨ z = 1) ∧ Q z M := fun hx => by
      refine ⟨z01, ?_⟩
      have key : isN C t D ↔ z = 1 := by
        rw [hz]
        constructor
        · rintro ⟨k, k1, k2⟩
          by_cases km : k < m
          · exact ⟨k, km, k1, k2⟩
          · have := upn_stay C t m (by rw [hm]; exact hx) (k - m)
            rw [show m + (k - m) = k from by omega] at this
            omega
        · rintro ⟨j, _, j2, j3⟩
          exact ⟨j, j2, j3⟩
      rcases z01 with e | e
      · rw [e]; exact h0 (fun y => by have := key.mp y; omega)
      · rw [e]; exact h1 (key.mpr e)
    refine ⟨fin, fun zx => ⟨fun y => absurd y (by decide), fun _ => ⟨fun zz => nxt (by omega) 1 (Or.inr rfl) ⟨fun _ => Or.inl (by omega), fun _ => rfl⟩, fun zz => ⟨by omega, by omega, fun v4 e4 _ => ?_⟩⟩⟩⟩
    have hn := nm x (by omega) hin.2
    refine ⟨fun y => nxt (by omega) 0 (Or.inl rfl) ⟨fun q => absurd q (by decide), fun q => ?_⟩, fun y => nxt (by omega) 1 (Or.inr rfl) ⟨fun _ => Or.inr (hn.mp (by rw [← e4]; exact y)), fun _ => rfl⟩⟩
    rcases q with q | q
    · omega
    · exact absurd (by rw [e4]; exact hn.mpr q) y
  have hn := nm t t0 t1
  exact ⟨fun z => go 0 (Or.inl rfl) ⟨fun y => absurd y (by decide), fun y => absurd (by rw [e1]; exact hn.mpr y) z⟩, fun z => go 1 (Or.inr rfl) ⟨fun _ => hn.mp (by rw [← e1]; exact z), fun _ => rfl⟩⟩
/-- a class of just that name, in the reference -/
theorem p_R_isOwn {Q : Int → MM → Prop} {t D w : Int} {C R : MM} (hY : Rty C R) (t0 : 0 ≤ t) (t1 : t < C 8 0) (hw : nr D w) (h1 : C 9 t = D → Q 1 R) (h0 : C 9 t ≠ D → Q 0 R) : w_X12_isNamed Q t w 0 R := by
  have h16 := hY.2.2.1
  have hn : R 4 t = w ↔ C 9 t = D := (nr_eq (hY.2.2.2.1 t t0 t1).1.1 hw).symm
  unfold w_X12_isNamed w_X12_isNamed_b16 w_X12_isNamed_b26
  refine ⟨t0, by omega, fun v1 e1 _ => ⟨fun z => ⟨t0, by omega, fun v2 e2 _ => ⟨1, ?_⟩⟩, fun z => ⟨t0, by omega, fun v2 e2 _ => ⟨1, ?_⟩⟩⟩⟩
  · show wb_X12_isNamed_b26 Q _ w 0 0 v2 R
    unfold wb_X12_isNamed_b26
    have := h0 (fun y => z (by rw [e1]; exact hn.mpr y))
    exact ⟨fun _ => ⟨Or.inl rfl, this⟩, fun _ => ⟨fun _ => ⟨Or.inl rfl, this⟩, fun y => absurd rfl y⟩⟩
  · show wb_X12_isNamed_b26 Q _ w 0 1 v2 R
    unfold wb_X12_isNamed_b26
    have := h1 (hn.mp (by rw [← e1]; exact z))
    exact ⟨fun _ => ⟨Or.inr rfl, this⟩, fun _ => ⟨fun _ => ⟨Or.inr rfl, this⟩, fun y => absurd rfl y⟩⟩
/-- the slot of that name that counts, or -1 -/
def slN (C : MM) (t D j : Int) : Prop := (j = -1 ∧ ∀ i, 0 ≤ i → i < C 16 t → C 23 (96 * t + i) ≠ D) ∨ (0 ≤ j ∧ j < C 16 t ∧ C 23 (96 * t + j) = D ∧ ∀ i, j < i → i < C 16 t → C 23 (96 * t + i) ≠ D)
theorem slN_un {C : MM} {t D j k : Int} (h : slN C t D j) (h' : slN C t D k) : j = k := by
  rcases h with ⟨a, b⟩ | ⟨a1, a2, a3, a4⟩ <;> rcases h' with ⟨d, e⟩ | ⟨d1, d2, d3, d4⟩
  · omega
  · exact absurd d3 (b k d1 d2)
  · exact absurd a3 (e j a1 a2)
  · by_cases lt : j < k
    · exact absurd d3 (a4 k lt d2)
    · by_cases gt : k < j
      · exact absurd a3 (d4 j gt a2)
      · omega
theorem p_slotNm {Q : Int → MM → Prop} {t D : Int} {C R : MM} (hY : Rty C R) (t0 : 0 ≤ t) (t1 : t < C 8 0) (h : ∀ j, slN C t D j → Q j C) : w_X10_slotNamed Q t D C := by
  have h16 := hY.2.2.1
  have bd := ty_bd hY t t0 t1
  unfold w_X10_slotNamed w_X10_slotNamed_b10
  refine ⟨t0, by omega, fun v1 e1 _ => ⟨by unfold ri_; omega, ?_⟩⟩
  refine loop4 _ (fun (a d x : Int) M => t = a ∧ D = d ∧ M = C ∧ -1 ≤ x ∧ x < C 16 t ∧ ∀ i, x < i → i < C 16 t → C 23 (96 * t + i) ≠ D) (fun _ _ (x : Int) _ => (x + 1).toNat) ?_ _ _ _ _ ⟨rfl, rfl, rfl, by omega, by omega, fun i a d => by omega⟩
  rintro _ _ x _ f ⟨rfl, rfl, rfl, x0, x1, hx⟩ ih
  unfold wb_X10_slotNamed_b10
  refine ⟨fun z => h (-1) (Or.inl ⟨rfl, fun i i0 i1 => hx i (by omega) i1⟩), fun z => ⟨by unfold ri_; omega, by unfold ri_; omega, by omega, by omega, fun v4 e4 _ => ?_⟩⟩
  rw [Int.mul_comm] at e4
  refine ⟨fun y => ⟨by unfold ri_; omega, ih _ _ _ _ ⟨rfl, rfl, rfl, by omega, by omega, fun i a d => ?_⟩ (by omega)⟩, fun y => h x (Or.inr ⟨by omega, x1, by rw [← e4]; exact y, hx⟩)⟩
  by_cases e : i = x
  · rw [e, ← e4]; exact y
  · exact hx i (by omega) d
