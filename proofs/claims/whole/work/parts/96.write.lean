/-! a write, on both sides -/
/-- what can be undone, with one write more -/
def rmC (C : MM) (p b : Int) : MM := fun k i =>
  if k = 37 ∧ i = (C 36 5 + C 36 6) % 100 then C 36 1 else if k = 38 ∧ i = (C 36 5 + C 36 6) % 100 then p else if k = 39 ∧ i = (C 36 5 + C 36 6) % 100 then b else if k = 36 ∧ i = 5 then (if 100 ≤ C 36 6 then (C 36 5 + 1) % 100 else C 36 5) else if k = 36 ∧ i = 6 then (if 100 ≤ C 36 6 then C 36 6 else C 36 6 + 1) else C k i
theorem rmC_o (C : MM) (p b : Int) {k : Nat} (h : k < 36 ∨ 39 < k) : rmC C p b k = C k := by
  funext i
  unfold rmC
  rw [if_neg (by omega), if_neg (by omega), if_neg (by omega), if_neg (by omega), if_neg (by omega)]
theorem rmC_36 (C : MM) (p b : Int) {i : Int} (h : i ≠ 5) (h6 : i ≠ 6) : rmC C p b 36 i = C 36 i := by
  unfold rmC
  rw [if_neg (by omega), if_neg (by omega), if_neg (by omega), if_neg (by omega), if_neg (by omega)]
theorem p_remember {Q : Int → MM → Prop} {p b : Int} {C : MM} (s0 : 0 ≤ C 36 5) (s1 : C 36 5 < 100) (n0 : 0 ≤ C 36 6) (n1 : C 36 6 ≤ 100) (h : Q 0 (rmC C p b)) : w_X3_remember Q p b C := by
  unfold w_X3_remember
  intro v1 e1 _ v2 e2 _
  subst e1 e2
  have ei : C 36 5 + C 36 6 - Int.tdiv (C 36 5 + C 36 6) 100 * 100 = (C 36 5 + C 36 6) % 100 := tmod_W (by omega)
  rw [ei]
  have m0 : 0 ≤ (C 36 5 + C 36 6) % 100 := by omega
  have m1 : (C 36 5 + C 36 6) % 100 < 100 := by omega
  refine ⟨by unfold ri_; omega, by unfold ri_; omega, fun v5 e5 _ => ⟨m0, m1, fun M6 e6 => ⟨m0, m1, fun M7 e7 => ⟨m0, m1, fun M8 e8 v9 e9 _ => ?_⟩⟩⟩⟩
  have q36 : ∀ i, M8 36 i = C 36 i := fun i => by rw [e8, e7, e6, ux_c _ _ _ _ (by decide), ux_c _ _ _ _ (by decide), ux_c _ _ _ _ (by decide)]
  rw [q36] at e9
  subst e9
  have fin : ∀ M, (∀ k i, k ≠ 36 → M k i = M8 k i) → (∀ i, i ≠ 5 → i ≠ 6 → M 36 i = C 36 i) → M 36 5 = (if 100 ≤ C 36 6 then (C 36 5 + 1) % 100 else C 36 5) → M 36 6 = (if 100 ≤ C 36 6 then C 36 6 else C 36 6 + 1) → M = rmC C p b := by
    intro M a1 a2 a3 a4
    funext k i
    by_cases z : k = 36
    · subst z
      by_cases z5 : i = 5
      · subst z5; rw [a3]; simp [rmC]
      · by_cases z6 : i = 6
        · subst z6; rw [a4]; simp [rmC]
        · rw [a2 i z5 z6, rmC_36 C p b z5 z6]
    · rw [a1 k i z, e8, e7, e6, e5]
      unfold ux_ rmC
      by_cases a : k = 37 ∨ k = 38 ∨ k = 39
      · rcases a with rfl | rfl | rfl <;> simp
      · rw [if_neg (by omega), if_neg (by omega), if_neg (by omega), if_neg (by omega), if_neg (by omega), if_neg (by omega), if_neg (by omega), if_neg (by omega)]
  refine ⟨fun z v11 e11 _ => ?_, fun z v15 e15 _ => ?_⟩
  · rw [q36] at e11
    subst e11
    have ei : C 36 5 + 1 - Int.tdiv (C 36 5 + 1) 100 * 100 = (C 36 5 + 1) % 100 := tmod_W (by omega)
    rw [ei]
    refine ⟨by unfold ri_; omega, by unfold ri_; omega, fun M14 e14 => ?_⟩
    rw [fin M14 (fun k i hk => by rw [e14, ux_c _ _ _ _ hk]) (fun i a _ => by rw [e14, ux_i _ _ _ a, q36]) (by rw [e14, ux_s, if_pos z]) (by rw [e14, ux_i _ _ _ (by decide), q36, if_pos z])]
    exact h
  · rw [q36] at e15
    subst e15
    refine ⟨by unfold ri_; omega, fun M17 e17 => ?_⟩
    rw [fin M17 (fun k i hk => by rw [e17, ux_c _ _ _ _ hk]) (fun i _ a => by rw [e17, ux_i _ _ _ a, q36]) (by rw [e17, ux_i _ _ _ (by decide), q36, if_neg z]) (by rw [e17, ux_s, if_neg z])]
    exact h
def rmN (R : MM) : Int := if R 0 36 = 100 then 99 else R 0 36
def rmR (R : MM) (o s b : Int) : MM := fun k i =>
  if k = 0 ∧ i = 36 then rmN R + 1 else if k = 25 ∧ i = rmN R then o else if k = 26 ∧ i = rmN R then s else if k = 27 ∧ i = rmN R then R 0 29 else if k = 28 ∧ i = rmN R then b else if 25 ≤ k ∧ k ≤ 28 ∧ R 0 36 = 100 ∧ 0 ≤ i ∧ i < 99 then R k (i + 1) else R k i
theorem rmR_o (R : MM) (o s b : Int) {k : Nat} (h0 : k ≠ 0) (h : k < 25 ∨ 28 < k) : rmR R o s b k = R k := by
  funext i
  unfold rmR
  rw [if_neg (by omega), if_neg (by omega), if_neg (by omega), if_neg (by omega), if_neg (by omega), if_neg (by omega)]
theorem rmR_0 (R : MM) (o s b : Int) {i : Int} (h : i ≠ 36) : rmR R o s b 0 i = R 0 i := by
  unfold rmR
  rw [if_neg (by omega), if_neg (by omega), if_neg (by omega), if_neg (by omega), if_neg (by omega), if_neg (by omega)]
/-- the relation of the undo rows, a write more on both sides -/
theorem ud_step {C R : MM} {p b o s : Int} (h : Rud C R) (hw : C 36 1 = R 0 29) (hE : ∀ cp cv ro rs, uE C cp cv ro rs → uE (rmC C p b) cp cv ro rs) (hu : uE (rmC C p b) p b o s) : Rud (rmC C p b) (rmR R o s b) := by
  obtain ⟨h1, h2, h3, h4, h5, h6⟩ := h
  have c5 : rmC C p b 36 5 = if 100 ≤ C 36 6 then (C 36 5 + 1) % 100 else C 36 5 := by simp [rmC]
  have c6 : rmC C p b 36 6 = if 100 ≤ C 36 6 then C 36 6 else C 36 6 + 1 := by simp [rmC]
  have r36 : rmR R o s b 0 36 = rmN R + 1 := by simp [rmR]
  have rn : rmN R = if 100 ≤ C 36 6 then 99 else C 36 6 := by
    unfold rmN
    rw [← h5]
    by_cases z : 100 ≤ C 36 6
    · rw [if_pos (by omega), if_pos z]
    · rw [if_neg (by omega), if_neg z]
  have g : ∀ (q : Nat) i, (q = 37 ∨ q = 38 ∨ q = 39) → i ≠ (C 36 5 + C 36 6) % 100 → rmC C p b q i = C q i := by
    intro q i hq hi
    unfold rmC
    rw [if_neg (by omega), if_neg (by omega), if_neg (by omega), if_neg (by omega), if_neg (by omega)]
  have last : rmC C p b 37 ((C 36 5 + C 36 6) % 100) = rmR R o s b 27 (rmN R) ∧ rmC C p b 39 ((C 36 5 + C 36 6) % 100) = rmR R o s b 28 (rmN R) ∧ rmC C p b 38 ((C 36 5 + C 36 6) % 100) = p ∧ rmC C p b 39 ((C 36 5 + C 36 6) % 100) = b ∧ rmR R o s b 25 (rmN R) = o ∧ rmR R o s b 26 (rmN R) = s := by
    simp [rmC, rmR, hw]
  obtain ⟨l1, l2, l3, l4, l5, l6⟩ := last
  by_cases z : 100 ≤ C 36 6
  · have z6 : C 36 6 = 100 := by omega
    rw [if_pos z] at c5 c6 rn
    refine ⟨by rw [c5]; omega, by rw [c5]; omega, by rw [c6]; omega, by rw [c6]; omega, by rw [c6, r36, rn]; omega, fun k k0 k1 => ?_⟩
    rw [c6] at k1
    rw [c5]
    by_cases zk : k = 99
    · have ei : ((C 36 5 + 1) % 100 + k) % 100 = (C 36 5 + C 36 6) % 100 := by omega
      rw [ei, zk, ← rn, l1, l2, l3, l5, l6]
      refine ⟨rfl, rfl, ?_⟩
      rw [← l2, l4]; exact hu
    · have ei : ((C 36 5 + 1) % 100 + k) % 100 = (C 36 5 + (k + 1)) % 100 := by omega
      have ne : (C 36 5 + (k + 1)) % 100 ≠ (C 36 5 + C 36 6) % 100 := by omega
      have rk : ∀ q : Nat, 25 ≤ q → q ≤ 28 → rmR R o s b q k = R q (k + 1) := by
        intro q a1 a2
        unfold rmR
        rw [if_neg (by omega), if_neg (by omega), if_neg (by omega), if_neg (by omega), if_neg (by omega), if_pos (by omega)]
      rw [ei, g 37 _ (by omega) ne, g 38 _ (by omega) ne, g 39 _ (by omega) ne, rk 25 (by omega) (by omega), rk 26 (by omega) (by omega), rk 27 (by omega) (by omega), rk 28 (by omega) (by omega)]
      obtain ⟨a1, a2, a3⟩ := h6 (k + 1) (by omega) (by omega)
      exact ⟨a1, a2, hE _ _ _ _ a3⟩
  · rw [if_neg z] at c5 c6 rn
    refine ⟨by rw [c5]; omega, by rw [c5]; omega, by rw [c6]; omega, by rw [c6]; omega, by rw [c6, r36, rn], fun k k0 k1 => ?_⟩
    rw [c6] at k1
    rw [c5]
    by_cases zk : k = C 36 6
    · rw [zk, l3]
      have e2 : rmR R o s b 27 (C 36 6) = rmR R o s b 27 (rmN R) := by rw [rn]
      have e3 : rmR R o s b 28 (C 36 6) = rmR R o s b 28 (rmN R) := by rw [rn]
      have e4 : rmR R o s b 25 (C 36 6) = rmR R o s b 25 (rmN R) := by rw [rn]
      have e5 : rmR R o s b 26 (C 36 6) = rmR R o s b 26 (rmN R) := by rw [rn]
      rw [e2, e3, e4, e5, l1, l5, l6]
      refine ⟨rfl, l2, ?_⟩
      rw [l4]; exact hu
    · have ne : (C 36 5 + k) % 100 ≠ (C 36 5 + C 36 6) % 100 := by omega
      have rk : ∀ q : Nat, 25 ≤ q → q ≤ 28 → rmR R o s b q k = R q k := by
        intro q a1 a2
        unfold rmR
        rw [if_neg (by omega), if_neg (by omega), if_neg (by omega), if_neg (by omega), if_neg (by omega), if_neg (by omega)]
      rw [g 37 _ (by omega) ne, g 38 _ (by omega) ne, g 39 _ (by omega) ne, rk 25 (by omega) (by omega), rk 26 (by omega) (by omega), rk 27 (by omega) (by omega), rk 28 (by omega) (by omega)]
      obtain ⟨a1, a2, a3⟩ := h6 k (by omega) (by omega)
      exact ⟨a1, a2, hE _ _ _ _ a3⟩
/-- the reference: the undo rows -/
theorem p_R_remember {Q : Int → MM → Prop} {o s v b : Int} {R : MM} (n0 : 0 ≤ R 0 36) (n1 : R 0 36 ≤ 100) (h : (¬ o = (-1) → 0 ≤ o ∧ o < 400 ∧ (∀ v14, v14 = rmR R o s b 19 o → ri_ v14 → w_X12_isClass (fun r15 M16 => (r15 = 0 ∨ r15 = 1) → (r15 = 0 → w_X12_write_b248 Q o v b (-1) M16) ∧ (¬ r15 = 0 → 0 ≤ o ∧ o < 400 ∧ (∀ v18, v18 = M16 19 o → ri_ v18 → w_X12_fieldOf (fun r19 M20 => ri_ r19 → w_X12_write_b248 Q o v b r19 M20) v18 s M16))) v14 (rmR R o s b))) ∧ (o = (-1) → w_X12_write_b248 Q o v b s (rmR R o s b))) : w_X12_write_b58 Q o s v b R := by
  have tail : ∀ M, M 0 36 = rmN R → (∀ i, i ≠ 36 → M 0 i = R 0 i) → (∀ k i, k ≠ 0 → ¬ (25 ≤ k ∧ k ≤ 28) → M k i = R k i) → (∀ k i, 25 ≤ k → k ≤ 28 → i ≠ rmN R → M k i = if R 0 36 = 100 ∧ 0 ≤ i ∧ i < 99 then R k (i + 1) else R k i) → w_X12_write_b157 Q o s v b M := by
    intro M m1 m2 m3 m4
    have hn : 0 ≤ rmN R ∧ rmN R < 100 := by
      unfold rmN
      by_cases z : R 0 36 = 100
      · rw [if_pos z]; omega
      · rw [if_neg z]; omega
    unfold w_X12_write_b157
    intro v1 e1 _
    rw [m1] at e1
    subst e1
    refine ⟨hn.1, hn.2, fun M2 e2 v3 e3 _ => ?_⟩
    have r3 : v3 = rmN R := by rw [e3, e2, ux_c _ _ _ _ (by decide), m1]
    subst r3
    refine ⟨hn.1, hn.2, fun M4 e4 v5 e5 _ v6 e6 _ => ?_⟩
    have r5 : v5 = rmN R := by rw [e5, e4, e2, ux_c _ _ _ _ (by decide), ux_c _ _ _ _ (by decide), m1]
    have r6 : v6 = R 0 29 := by rw [e6, e4, e2, ux_c _ _ _ _ (by decide), ux_c _ _ _ _ (by decide), m2 _ (by decide)]
    subst r5 r6
    refine ⟨hn.1, hn.2, fun M7 e7 v8 e8 _ => ?_⟩
    have r8 : v8 = rmN R := by rw [e8, e7, e4, e2, ux_c _ _ _ _ (by decide), ux_c _ _ _ _ (by decide), ux_c _ _ _ _ (by decide), m1]
    subst r8
    refine ⟨hn.1, hn.2, fun M9 e9 v10 e10 _ => ?_⟩
    have r10 : v10 = rmN R := by rw [e10, e9, e7, e4, e2, ux_c _ _ _ _ (by decide), ux_c _ _ _ _ (by decide), ux_c _ _ _ _ (by decide), ux_c _ _ _ _ (by decide), m1]
    subst r10
    refine ⟨by unfold ri_; omega, fun M12 e12 => ?_⟩
    have : M12 = rmR R o s b := by
      rw [e12, e9, e7, e4, e2]
      funext k i
      unfold ux_ rmR
      by_cases a : k = 0
      · subst a
        simp
        by_cases c : i = 36
        · rw [if_pos c, if_pos c]
        · rw [if_neg c, if_neg c, m2 i c]
      · by_cases a2 : 25 ≤ k ∧ k ≤ 28
        · by_cases c : i = rmN R
          · have : k = 25 ∨ k = 26 ∨ k = 27 ∨ k = 28 := by omega
            subst c
            rcases this with rfl | rfl | rfl | rfl <;> simp
          · rw [if_neg (by omega), if_neg (by omega), if_neg (by omega), if_neg (by omega), if_neg (by omega), if_neg (by omega), if_neg (by omega), if_neg (by omega), if_neg (by omega), if_neg (by omega), m4 k i a2.1 a2.2 c]
            by_cases d : R 0 36 = 100 ∧ 0 ≤ i ∧ i < 99
            · rw [if_pos d, if_pos ⟨a2.1, a2.2, d⟩]
            · rw [if_neg d, if_neg (fun q => d q.2.2)]
        · rw [if_neg (by omega), if_neg (by omega), if_neg (by omega), if_neg (by omega), if_neg (by omega), if_neg (by omega), if_neg (by omega), if_neg (by omega), if_neg (by omega), if_neg (by omega), if_neg (by omega), m3 k i a a2]
    rw [this]
    exact h
  unfold w_X12_write_b58
  intro v1 e1 _
  subst e1
  refine ⟨fun z => tail R (by unfold rmN; rw [if_neg z]) (fun _ _ => rfl) (fun _ _ _ _ => rfl) (fun k i _ _ _ => by rw [if_neg (by omega)]), fun z => ?_⟩
  refine loop6 _ (fun a c d e y M1 => o = a ∧ s = c ∧ v = d ∧ b = e ∧ 0 ≤ y ∧ y ≤ 99 ∧ sh4 25 R 0 y = M1) (fun _ _ _ _ y _ => (99 - y).toNat) ?_ _ _ _ _ _ _ ⟨rfl, rfl, rfl, rfl, by omega, by omega, sh4_0 _ _ _⟩
  rintro _ _ _ _ y _ f ⟨rfl, rfl, rfl, rfl, y0, y1, rfl⟩ ih
  unfold wb_X12_write_b70
  refine ⟨fun z2 v2 e2 _ => ?_, fun z2 => ⟨by unfold ri_; omega, by omega, by omega, fun v7 e7 g7 => ⟨by omega, by omega, fun M8 e8 => ⟨by unfold ri_; omega, by omega, by omega, fun v10 e10 g10 => ⟨by omega, by omega, fun M11 e11 => ⟨by unfold ri_; omega, by omega, by omega, fun v13 e13 g13 => ⟨by omega, by omega, fun M14 e14 => ⟨by unfold ri_; omega, by omega, by omega, fun v16 e16 g16 => ⟨by omega, by omega, fun M17 e17 => ⟨by unfold ri_; omega, ih _ _ _ _ _ _ ⟨rfl, rfl, rfl, rfl, by omega, by omega, ?_⟩ (by omega)⟩⟩⟩⟩⟩⟩⟩⟩⟩⟩
  · rw [sh4_k _ _ _ _ _ _ (by omega), z] at e2
    subst e2
    refine ⟨by unfold ri_; omega, fun M4 e4 => ?_⟩
    have ey : y = 99 := by omega
    subst ey
    refine tail M4 (by rw [e4, ux_s]; unfold rmN; rw [if_pos z]; rfl) (fun i hi => by rw [e4, ux_i _ _ _ hi, sh4_k _ _ _ _ _ _ (by omega)]) (fun k i hk hk2 => by rw [e4, ux_c _ _ _ _ hk, sh4_k _ _ _ _ _ _ (by omega)]) (fun k i a1 a2 _ => ?_)
    rw [e4, ux_c _ _ _ _ (by omega)]
    unfold sh4
    by_cases c : 0 ≤ i ∧ i < 99
    · rw [if_pos (by omega), if_pos ⟨z, c⟩]
    · rw [if_neg (by omega), if_neg (fun q => c q.2)]
  · rw [sh4_r _ _ _ _ _ _ (by omega)] at e7
    rw [e8, ux_c _ _ _ _ (by decide), sh4_r _ _ _ _ _ _ (by omega)] at e10
    rw [e11, e8, ux_c _ _ _ _ (by decide), ux_c _ _ _ _ (by decide), sh4_r _ _ _ _ _ _ (by omega)] at e13
    rw [e14, e11, e8, ux_c _ _ _ _ (by decide), ux_c _ _ _ _ (by decide), ux_c _ _ _ _ (by decide), sh4_r _ _ _ _ _ _ (by omega)] at e16
    rw [e17, e14, e11, e8, e16, e13, e10, e7]
    exact (sh4_s 25 R 0 y y0).symm
