theorem OKA_0 {C0 A : MM} (h : OKA C0 A) : OKA C0 (ux_ (ux_ A 261 14 0) 261 15 0) := by
  obtain ⟨a1, a2, a3, a4, a5, a6, a7, a8, a9, a10, a11, a12, a13⟩ := h
  have v : ∀ i, i ≠ 14 → i ≠ 15 → ux_ (ux_ A 261 14 0) 261 15 0 261 i = A 261 i := fun i x y => by rw [ux_i _ _ _ y, ux_i _ _ _ x]
  have v14 : ux_ (ux_ A 261 14 0) 261 15 0 261 14 = 0 := by rw [ux_i _ _ _ (by decide), ux_s]
  have g : ∀ q, q ≠ 261 → ux_ (ux_ A 261 14 0) 261 15 0 q = A q := fun q x => by rw [ux_g _ _ _ x, ux_g _ _ _ x]
  unfold OKA
  rw [v 16 (by decide) (by decide), v 3 (by decide) (by decide), v14, v 1 (by decide) (by decide), v 2 (by decide) (by decide), g 271 (by decide), g 272 (by decide), g 273 (by decide)]
  exact ⟨a1, a2, a3, a4, by omega, by omega, fun i j i0 i1 => by omega, a8, a9, a10, a11, a12, a13⟩
theorem KRq_134 {C0 R0 A R : MM} {E : Nat → Int} {k : Nat} (h : KRq C0 R0 E k A R) (x : Int) (x0 : 0 ≤ x) (x1 : x ≤ 12) : KRq C0 R0 E k (ux_ A 261 3 x) (ux_ R 0 134 x) := by
  obtain ⟨hF, hW, h83, u1, u2, u3, u4, u5⟩ := h
  refine ⟨QFr_0 hF _ (by decide), ?_, by rw [ux_i _ _ _ (by decide)]; exact h83, by rw [ux_i _ _ _ (by decide), ux_i _ _ _ (by decide)]; exact u1, by rw [ux_s, ux_s]; exact ⟨rfl, x0, x1⟩, by rw [ux_i _ _ _ (by decide), ux_i _ _ _ (by decide)]; exact u3, fun i i0 i1 => ?_, fun i i0 i1 => ?_⟩
  · unfold Wr tk at hW ⊢
    rw [ux_i _ _ _ (by decide), ux_i _ _ _ (by decide), ux_i _ _ _ (by decide), ux_i _ _ _ (by decide), ux_g _ _ _ (by decide)]; exact hW
  · rw [ux_i _ _ _ (by decide)] at i1
    rw [ux_g _ _ _ (by decide), ux_g _ _ _ (by decide), ux_g _ _ _ (by decide), ux_g _ _ _ (by decide)]; exact u4 i i0 i1
  · rw [ux_i _ _ _ (by decide)] at i1
    rw [ux_g _ _ _ (by decide), ux_g _ _ _ (by decide)]; exact u5 i i0 i1
theorem q_193 {C0 R0 A R : MM} {E : Nat → Int} {k : Nat} {r n va vb rb : Int} (h : KRq C0 R0 E k A R) (w : C0 4 k = 10) (r0 : 0 ≤ r) (r1 : r < 12) (n0 : 0 ≤ n) (n4 : n ≤ 4) (a0 : 0 ≤ va) (b0 : 0 ≤ vb) (hb : rb = -1 ∧ vb = va ∨ rb = vb) (h85 : R 85 r = va) (h86 : R 86 r = rb) (h87 : R 87 r = n) (hat : ∀ m, 0 ≤ m → m < n → ATM A R (4 * r + m)) {Q : Int → MM → Prop} (h1 : hldB A r n va → hldB A r n vb → w_X12_readRule_b257 Q r R) (h0 : ¬ (hldB A r n va ∧ hldB A r n vb) → w_X12_readRule_b248 Q r R) : w_X12_readRule_b193 Q r R := by
  unfold w_X12_readRule_b193
  intro v1 e1 _
  refine ⟨fun z => absurd (by rw [e1]; exact h.2.2.1) z, fun _ => r_isS (x := 6) h.2.1.2.2 (by decide) (fun _ _ => ⟨fun z => absurd z (by decide), fun _ => ⟨r0, r1, fun v6 e6 _ => ?_⟩⟩) (fun z => absurd w z) (by decide)⟩
  rw [e6, h85]
  refine q_held h r0 r1 n0 n4 a0 h87 hat (fun x _ => ⟨fun z => absurd z (by decide), fun _ => ⟨r0, r1, fun v10 e10 _ => ⟨fun z => ?_, fun z => ⟨r0, r1, fun v12 e12 _ => ?_⟩⟩⟩⟩) (fun x _ => ⟨fun _ => h0 fun y => x y.1, fun z => absurd rfl z⟩)
  · rw [e10, h86] at z
    rcases hb with ⟨-, y⟩ | y
    · exact h1 x (by rw [y]; exact x)
    · omega
  · rw [e10, h86] at z
    rw [e12, h86]
    rcases hb with ⟨y, -⟩ | y
    · exact absurd y z
    rw [y]
    exact q_held h r0 r1 n0 n4 b0 h87 hat (fun x' _ => ⟨fun _ => h1 x x', fun z => absurd z (by decide)⟩) (fun x' _ => ⟨fun z => absurd rfl z, fun _ => h0 fun y => x' y.2⟩)
def KC0 (C0 : MM) (k : Nat) (A C : MM) : Prop := ∃ x, KC C0 k (ux_ A 261 14 x) C
def KRq0 (C0 R0 : MM) (E : Nat → Int) (k : Nat) (A R : MM) : Prop := QFr R0 R ∧ Wr C0 E k R ∧ R 0 83 = 0 ∧ A 261 16 = R 0 133 ∧ (A 261 3 = R 0 134 ∧ 0 ≤ A 261 3 ∧ A 261 3 ≤ 12) ∧ ∀ i, 0 ≤ i → i < A 261 16 → nr (A 272 i) (R 80 i) ∧ A 273 i = R 83 i
theorem KC_A {C0 A A' C : MM} {k : Nat} (h : KC C0 k A C) (e : ∀ q, 262 ≤ q → q ≤ 273 → A' q = A q) (e0 : ∀ i, i ≠ 19 → i ≠ 20 → A' 261 i = A 261 i) : KC C0 k A' C := ⟨h.1, h.2.1, fun q a b => by rw [e q a b]; exact h.2.2.1 q a b, fun i a b => by rw [e0 i a b]; exact h.2.2.2.1 i a b, h.2.2.2.2⟩
theorem KC_0 {C0 A C : MM} {k : Nat} (h : KC C0 k A C) : KC0 C0 k A C := ⟨A 261 14, KC_A h (fun q a b => ux_g _ _ _ (by omega)) (fun i a b => by rw [ux_v]; split <;> simp_all)⟩
theorem KRq_00 {C0 R0 A R : MM} {E : Nat → Int} {k : Nat} (h : KRq C0 R0 E k A R) : KRq0 C0 R0 E k A R := ⟨h.1, h.2.1, h.2.2.1, h.2.2.2.1, h.2.2.2.2.1, h.2.2.2.2.2.2.1⟩
theorem KC0_i {C0 A C : MM} {k : Nat} (h : KC0 C0 k A C) {i : Int} (a : i ≠ 14) (b : i ≠ 19) (c : i ≠ 20) : C 261 i = A 261 i := by
  obtain ⟨x, h⟩ := h
  rw [h.2.2.2.1 i b c, ux_i _ _ _ a]
theorem KC0_w {C0 A C : MM} {k : Nat} (h : KC0 C0 k A C) : Wd C0 k C := by obtain ⟨x, h⟩ := h; exact h.2.1
theorem k_plain0 {C0 A C : MM} {k : Nat} (h : KC0 C0 k A C) (hA : OKA C0 A) {Q : Int → MM → Prop} (h1 : PLN C0 k → Q 1 C) (h0 : ¬ PLN C0 k → Q 0 C) : w_X7_isPlainName Q C := by
  obtain ⟨w1, w2, w3, -⟩ := KC0_w h
  have a1 := hA.2.2.2.2.2.2.2.2.1
  have a2 := hA.2.2.2.2.2.2.2.2.2.1
  unfold w_X7_isPlainName
  intro v1 e1 _
  rw [w1] at e1
  refine ⟨fun z => h0 fun q => z (by rw [e1]; exact q.1), fun z v3 e3 _ v4 e4 _ => ?_⟩
  rw [w3] at e3
  rw [KC0_i h (by decide) (by decide) (by decide), a1] at e4
  refine ⟨fun y => h0 fun q => q.2.1 (by rw [← e3, ← e4]; exact y), fun y v6 e6 _ v7 e7 _ => ?_⟩
  rw [w3] at e6
  rw [KC0_i h (by decide) (by decide) (by decide), a2] at e7
  exact ⟨fun x => h0 fun q => q.2.2 (by rw [← e6, ← e7]; exact x), fun x => h1 ⟨by rw [← e1]; exact z, by rw [← e3, ← e4]; exact y, by rw [← e6, ← e7]; exact x⟩⟩
theorem k_fail0 {C0 A C : MM} {k : Nat} (h : KC0 C0 k A C) {f pl : Int} {Q : Int → MM → Prop} (hq : ∀ C', KF C0 f pl C' → Q 0 C') : w_X7_fail Q f pl C := by obtain ⟨x, h⟩ := h; exact k_fail h hq
theorem k_refuse0 {C0 A C : MM} {k : Nat} (h : KC0 C0 k A C) {Q : Int → MM → Prop} (hq : ∀ C', KF C0 (if C0 4 k = 1 then 2 else 1) (C0 5 k) C' → Q 0 C') : w_X7_refuse Q C := by obtain ⟨x, h⟩ := h; exact k_refuse h hq
theorem q_fail0 {C0 R0 A R : MM} {E : Nat → Int} {k : Nat} (h : KRq0 C0 R0 E k A R) {f pl : Int} {Q : Int → MM → Prop} (hq : ∀ R', KRf R0 f pl R' → (∀ j, j ≠ 0 → R' j = R j) → Q 0 R') : w_X12_fail Q f pl R := by
  unfold w_X12_fail
  intro v1 e1 _
  refine ⟨fun _ M3 e3 M4 e4 => hq M4 ⟨by rw [e4, e3]; exact QFr_0 (QFr_0 h.1 _ (by decide)) _ (by decide), by rw [e4, ux_i _ _ _ (by decide), e3, ux_s], by rw [e4, ux_s], by rw [e4, ux_i _ _ _ (by decide), e3, ux_i _ _ _ (by decide), ← h.2.2.2.2.1.1]; exact h.2.2.2.2.1.2⟩ (fun j hj => by rw [e4, ux_g _ _ _ hj, e3, ux_g _ _ _ hj]), fun z => absurd (by rw [e1, h.2.2.1]; decide) z⟩
theorem q_wrong0 {C0 R0 A R : MM} {E : Nat → Int} {k : Nat} (h : KRq0 C0 R0 E k A R) {Q : Int → MM → Prop} (hq : ∀ R', KRf R0 (if C0 4 k = 1 then 2 else 1) (C0 5 k) R' → (∀ j, j ≠ 0 → R' j = R j) → Q 0 R') : w_X12_wrong Q R := by
  have hb := tk_bad h.2.1.2.2
  unfold w_X12_wrong w_X12_wrong_b14
  intro v1 e1 _
  refine ⟨fun z v2 e2 _ => q_fail0 h (fun R' k1 k2 => hq R' ?_ k2), fun z v2 e2 _ => q_fail0 h (fun R' k1 k2 => hq R' ?_ k2)⟩
  · rw [if_neg (fun y => z (by rw [e1]; exact hb.mpr y)), ← h.2.1.2.1, ← e2]; exact k1
  · rw [if_pos (hb.mp (by rw [← e1]; exact z)), ← h.2.1.2.1, ← e2]; exact k1
theorem q_plain0 {C0 R0 A R : MM} {E : Nat → Int} {k : Nat} (h : KRq0 C0 R0 E k A R) (hA : OKA C0 A) {Q : Int → MM → Prop} (h1 : PLN C0 k → Q 1 R) (h0 : ¬ PLN C0 k → Q 0 R) : w_X12_isRuleName Q R := by
  have n1 := hA.2.2.2.2.2.2.2.2.2.2.1
  have n2 := hA.2.2.2.2.2.2.2.2.2.2.2.1
  have ht := h.2.1.2.2
  unfold w_X12_isRuleName
  refine r_isN ht (fun z _ => ⟨fun w => absurd w (by decide), fun _ v4 e4 _ => cd_if (fun _ => ?_)⟩) (fun z _ => ⟨fun _ => h0 fun q => z q.1, fun w => absurd rfl w⟩)
  rw [z] at ht
  have hn := tk_nr ht
  rw [← e4] at hn
  refine ⟨fun y => h0 fun q => q.2.1 ((nr_eq hn n1).mpr y), fun y v8 e8 _ => cd_link (fun _ => ?_)⟩
  rw [show v8 = v4 from by rw [e8, e4]]
  exact ⟨fun x => h0 fun q => q.2.2 ((nr_eq hn n2).mpr x), fun x => h1 ⟨z, fun q => y ((nr_eq hn n1).mp q), fun q => x ((nr_eq hn n2).mp q)⟩⟩
set_option maxHeartbeats 2000000 in
theorem J_rule {C0 R0 A : MM} {E : Nat → Int} {L k : Nat} (hT : TX C0 R0 E L) (hk : k ≤ L) (hA : OKA C0 A) (hN : KWn C0) (r : Int) (hr : A 261 3 = r) :
    (∃ k' A', k' ≤ L ∧ OKA C0 A' ∧ AGr A A' r ∧ r < 12 ∧ RLA A' r ∧ (∀ C, KC0 C0 k A C → ∀ Q : Int → MM → Prop, (∀ C', KC C0 k' A' C' → Q 1 C') → w_X7_readRule Q C) ∧ (∀ R, KRq0 C0 R0 E k A R → ∀ Q : Int → MM → Prop, (∀ R', KRq C0 R0 E k' A' R' → RLq A' R' r → FRu R R' r → Q 0 R') → w_X12_readRule Q R)) ∨
    ∃ f pl, 0 < f ∧ (∀ C, KC0 C0 k A C → ∀ Q : Int → MM → Prop, (∀ C', KF C0 f pl C' → Q 0 C') → w_X7_readRule Q C) ∧ (∀ R, KRq0 C0 R0 E k A R → ∀ Q : Int → MM → Prop, (∀ R', KRg R0 f pl R' → Q 0 R') → w_X12_readRule Q R) := by
  have r0 : 0 ≤ r := by have := hA.2.2.1; omega
  have r12 : r ≤ 12 := by have := hA.2.2.2.1; omega
  have gOf : ∀ {f pl : Int} {R : MM}, KRf R0 f pl R → KRg R0 f pl R := fun h => ⟨h.1, h.2.1, h.2.2.1⟩
  have b36F : ∀ (Q : Int → MM → Prop) (R : MM) (f pl : Int), 0 < f → KRf R0 f pl R → (∀ R', KRg R0 f pl R' → Q 0 R') → w_X12_readRule_b36 Q R := fun Q R f pl f0 h hq => by
    unfold w_X12_readRule_b36
    intro v1 e1 _
    exact ⟨fun z => by rw [e1, h.2.1] at z; omega, fun _ => hq R (gOf h)⟩
  by_cases hp : PLN C0 k
  rotate_left
  · refine Or.inr ⟨if C0 4 k = 1 then 2 else 1, C0 5 k, flt_pos, fun C hC Q hq => ?_, fun R hR Q hq => ?_⟩
    · unfold w_X7_readRule
      exact k_plain0 hC hA (fun q => absurd q hp) (fun _ _ => ⟨fun q => absurd rfl q, fun _ => k_refuse0 hC (fun C' h' _ => hq C' h')⟩)
    · unfold w_X12_readRule
      refine q_plain0 hR hA (fun q => absurd q hp) (fun _ _ => ⟨fun q => absurd rfl q, fun _ => q_wrong0 hR (fun R' k1 _ => ?_)⟩)
      unfold w_X12_readRule_b11
      intro v1 e1 _
      exact ⟨fun _ => b36F Q R' _ _ flt_pos k1 hq, fun z => by rw [e1, k1.2.1] at z; have := flt_pos (W := C0 4 k); omega⟩
  by_cases r1 : r < 12
  rotate_left
  · have e12 : r = 12 := by omega
    refine Or.inr ⟨4, C0 5 k, by decide, fun C hC Q hq => ?_, fun R hR Q hq => ?_⟩
    · unfold w_X7_readRule
      refine k_plain0 hC hA (fun _ _ => ⟨fun _ v4 e4 _ => ?_, fun q => absurd q (by decide)⟩) (fun q => absurd hp q)
      rw [KC0_i hC (i := 3) (by decide) (by decide) (by decide), hr] at e4
      refine ⟨fun q => by omega, fun _ v49 e49 _ => ?_⟩
      rw [(KC0_w hC).2.1] at e49
      rw [e49]
      exact k_fail0 hC (fun C' h' _ => hq C' h')
    · unfold w_X12_readRule
      refine q_plain0 hR hA (fun _ _ => ⟨fun _ => ?_, fun q => absurd q (by decide)⟩) (fun q => absurd hp q)
      unfold w_X12_readRule_b11
      intro v1 e1 _
      refine ⟨fun z => absurd (by rw [e1]; exact hR.2.2.1) z, fun _ v3 e3 _ => ?_⟩
      rw [← hR.2.2.2.2.1.1, hr] at e3
      refine ⟨fun q => by omega, fun _ v5 e5 _ => ?_⟩
      rw [e5, hR.2.1.2.1]
      exact q_fail0 hR (fun R' k1 _ => b36F Q R' _ _ (by decide) k1 hq)
  have w2 := hp.1
  have k1 := TX_lt hT hk (by omega)
  obtain ⟨A0, e0⟩ : ∃ A0, A0 = ux_ (ux_ A 261 14 0) 261 15 0 := ⟨_, rfl⟩
  have oA0 : OKA C0 A0 := by rw [e0]; exact OKA_0 hA
  have g0 : ∀ q, q ≠ 261 → A0 q = A q := fun q x => by rw [e0, ux_g _ _ _ x, ux_g _ _ _ x]
  have z0 : ∀ i, i ≠ 14 → i ≠ 15 → A0 261 i = A 261 i := fun i x y => by rw [e0, ux_i _ _ _ y, ux_i _ _ _ x]
  have c15 : A0 261 15 = 0 := by rw [e0, ux_s]
  have c14 : A0 261 14 = 0 := by rw [e0, ux_i _ _ _ (by decide), ux_s]
  -- the class, as far as the relation
  have cls : ∀ C, KC0 C0 k A C → ∀ Q : Int → MM → Prop, (∀ C7, KC C0 k A0 C7 → w_X7_relationOf (fun r10 M11 => ri_ r10 → (¬ r10 = (-1) → w_X9_nextWord (fun _ M14 => (∀ v15, v15 = M14 261 3 → ri_ v15 → 0 ≤ v15 ∧ v15 < 12 ∧ (∀ M16, M16 = ux_ M14 262 v15 r10 → (∀ v17, v17 = M16 261 3 → ri_ v17 → w_X7_readPair 263 12 264 12 (fun r18 M19 => (r18 = 0 ∨ r18 = 1) → (¬ r18 = 0 → (∀ v21, v21 = M19 1 9 → ri_ v21 → (¬ v21 = 2 → w_X7_readRule_b142 Q M19) ∧ (v21 = 2 → (∀ v23, v23 = M19 1 11 → rl_ v23 → (∀ v24, v24 = M19 261 1 → rl_ v24 → (v23 = v24 → w_X9_nextWord (fun _ M27 => w_X7_readBody (fun r28 M29 => (r28 = 0 ∨ r28 = 1) → (¬ r28 = 0 → (∀ v31, v31 = M29 261 15 → ri_ v31 → (∀ v32, v32 = M29 261 3 → ri_ v32 → 0 ≤ v32 ∧ v32 < 12 ∧ (∀ v33, v33 = M29 263 v32 → ri_ v33 → ((jand (jshr v31 v33) 1) = 0 → w_X7_readRule_b201 Q M29) ∧ (¬ (jand (jshr v31 v33) 1) = 0 → (∀ v35, v35 = M29 261 15 → ri_ v35 → (∀ v36, v36 = M29 261 3 → ri_ v36 → 0 ≤ v36 ∧ v36 < 12 ∧ (∀ v37, v37 = M29 264 v36 → ri_ v37 → (¬ (jand (jshr v35 v37) 1) = 0 → (∀ v39, v39 = M29 261 3 → ri_ v39 → (∀ v40, v40 = M29 261 14 → ri_ v40 → 0 ≤ v39 ∧ v39 < 12 ∧ (∀ M41, M41 = ux_ M29 265 v39 v40 → (∀ v42, v42 = M41 261 3 → ri_ v42 → ri_ (v42 + 1) ∧ ((∀ M44, M44 = ux_ M41 261 3 (v42 + 1) → w_X9_nextWord (fun _ M46 => Q 1 M46) M44))))))) ∧ ((jand (jshr v35 v37) 1) = 0 → w_X7_readRule_b201 Q M29))))))))) ∧ (r28 = 0 → Q 0 M29)) M27) M19) ∧ (¬ v23 = v24 → w_X7_readRule_b142 Q M19)))))) ∧ (r18 = 0 → Q 0 M19)) r10 (C0 5 k) v17 M16)))) M11) ∧ (r10 = (-1) → w_X7_fail (fun r47 M48 => (r47 = 0 ∨ r47 = 1) → Q r47 M48) 4 (C0 5 k) M11)) (C0 6 k) C7) → w_X7_readRule Q C := fun C hC Q hq => by
    unfold w_X7_readRule
    refine k_plain0 hC hA (fun _ _ => ⟨fun _ v4 e4 _ => ⟨fun _ M6 e6 M7 e7 v8 e8 _ v9 e9 _ => ?_, fun q => ?_⟩, fun q => absurd q (by decide)⟩) (fun q => absurd hp q)
    · have h7 : KC C0 k A0 M7 := by
        obtain ⟨x, hx⟩ := hC
        rw [e7, e6, e0]
        refine KC_A (KC_i (KC_i hx (by decide) (by decide) 0) (by decide) (by decide) 0) (fun q a b => by rw [ux_g _ _ _ (by omega), ux_g _ _ _ (by omega), ux_g _ _ _ (by omega), ux_g _ _ _ (by omega), ux_g _ _ _ (by omega)]) (fun i a b => ?_)
        by_cases y : i = 15
        · rw [y, ux_s, ux_s]
        by_cases z : i = 14
        · rw [z, ux_i _ _ _ (show (14 : Int) ≠ 15 from by decide), ux_s, ux_i _ _ _ (show (14 : Int) ≠ 15 from by decide), ux_s]
        · rw [ux_i _ _ _ y, ux_i _ _ _ z, ux_i _ _ _ y, ux_i _ _ _ z, ux_i _ _ _ z]
      rw [h7.2.1.2.1] at e8
      rw [h7.2.1.2.2.1] at e9
      rw [e8, e9]
      exact hq M7 h7
    · rw [e4, KC0_i hC (i := 3) (by decide) (by decide) (by decide), hr] at q; omega
  have ref : ∀ R, KRq0 C0 R0 E k A R → ∀ Q : Int → MM → Prop, (∀ R5, KRq C0 R0 E k A0 R5 → (∀ q, q ≠ 0 → R5 q = R q) → w_X12_relationAtHand (fun r6 M7 => ri_ r6 → 0 ≤ r ∧ r < 12 ∧ (∀ M8, M8 = ux_ M7 84 r r6 → (∀ v9, v9 = M8 0 83 → ri_ v9 → (v9 ≤ 0 → w_X12_advance (fun _ M12 => 0 ≤ r ∧ r < 12 ∧ (∀ v13, v13 = M12 84 r → ri_ v13 → w_X12_readPlaces (fun _ M15 => (∀ v16, v16 = M15 0 136 → ri_ v16 → 0 ≤ r ∧ r < 12 ∧ (∀ M17, M17 = ux_ M15 85 r v16 → (∀ v18, v18 = M17 0 137 → ri_ v18 → 0 ≤ r ∧ r < 12 ∧ (∀ M19, M19 = ux_ M17 86 r v18 → (∀ v20, v20 = M19 0 83 → ri_ v20 → (¬ v20 = 0 → w_X12_readRule_b146 Q r M19) ∧ (v20 = 0 → (∀ v22, v22 = M19 0 80 → ri_ v22 → (¬ v22 = 1 → w_X12_readRule_b142 Q r M19) ∧ (v22 = 1 → (∀ v24, v24 = M19 0 85 → rl_ v24 → w_X12_coded (fun r25 M26 => rl_ r25 → (v24 = r25 → w_X12_readRule_b146 Q r M26) ∧ (¬ v24 = r25 → w_X12_readRule_b142 Q r M26)) 26982 M19)))))))))) v13 (C0 5 k) 0 M12)) M8) ∧ (¬ v9 ≤ 0 → Q 0 M8)))) R5) → w_X12_readRule Q R := fun R hR Q hq => by
    unfold w_X12_readRule
    refine q_plain0 hR hA (fun _ _ => ⟨fun _ => ?_, fun q => absurd q (by decide)⟩) (fun q => absurd hp q)
    have b36 : w_X12_readRule_b36 Q R := by
      unfold w_X12_readRule_b36
      intro v1 e1 _
      refine ⟨fun _ v3 e3 _ v4 e4 _ M5 e5 => ?_, fun z => absurd (by rw [e1, hR.2.2.1]; decide) z⟩
      rw [← hR.2.2.2.2.1.1, hr] at e3
      rw [hR.2.1.2.1] at e4
      rw [e3, e4]
      refine hq M5 ?_ (fun q hq => by rw [e5, ux_g _ _ _ hq])
      obtain ⟨hF, hW, h83, u1, u2, u4⟩ := hR
      refine ⟨by rw [e5]; exact QFr_0 hF _ (by decide), ?_, by rw [e5, ux_i _ _ _ (by decide)]; exact h83, by rw [z0 16 (by decide) (by decide), e5, ux_i _ _ _ (by decide)]; exact u1, by rw [z0 3 (by decide) (by decide), e5, ux_i _ _ _ (by decide)]; exact u2, by rw [c14, e5, ux_s], fun i i0 i1 => ?_, fun i i0 i1 => by rw [c14] at i1; omega⟩
      · unfold Wr tk
        rw [e5, ux_i _ _ _ (by decide), ux_i _ _ _ (by decide), ux_i _ _ _ (by decide), ux_i _ _ _ (by decide), ux_g _ _ _ (by decide)]; exact hW
      · rw [z0 16 (by decide) (by decide)] at i1
        rw [g0 272 (by decide), g0 273 (by decide), e5, ux_g _ _ _ (by decide), ux_g _ _ _ (by decide)]; exact u4 i i0 i1
    unfold w_X12_readRule_b11
    intro v1 e1 _
    refine ⟨fun z => absurd (by rw [e1]; exact hR.2.2.1) z, fun _ v3 e3 _ => ⟨fun _ => b36, fun q => ?_⟩⟩
    rw [e3, ← hR.2.2.2.2.1.1, hr] at q; omega
  rcases J_r (R0 := R0) (E := E) oA0 w2 with ⟨v, A1, oA1, v0, v1, are, cR, rRel⟩ | ⟨cR, rRel⟩
  rotate_left
  · refine Or.inr ⟨4, C0 5 k, by decide, fun C hC Q hq => cls C hC Q (fun C7 h7 => cR k C7 h7 _ (fun _ => ⟨fun q => absurd rfl q, fun _ => k_fail h7 (fun C' h' _ => hq C' h')⟩)), fun R hR Q hq => ref R hR Q (fun R5 h5 _ => rRel R5 h5 _ (fun R' h' _ _ => ⟨r0, r1, fun M8 e8 v9 e9 _ => ⟨fun z => ?_, fun _ => hq M8 (gOf (by rw [e8]; exact KRf_u h' (by decide) (by decide) _ _))⟩⟩))⟩
    rw [e9, e8, ux_g _ _ _ (by decide), h'.2.1] at z; omega
  have v6 : v ≠ 6 := by have := oA1.2.1; omega
  have wv : wq_ v = v ∧ tq_ v = 0 := by unfold wq_ tq_; rw [if_neg v6, if_neg v6]; exact ⟨rfl, rfl⟩
  obtain ⟨A2, e2⟩ : ∃ A2, A2 = ux_ A1 262 r v := ⟨_, rfl⟩
  have g2 : ∀ q, q ≠ 262 → A2 q = A1 q := fun q hq => by rw [e2, ux_g _ _ _ hq]
  have oA2 : OKA C0 A2 := by rw [e2]; exact OKA_i oA1 (by decide) (by decide) _ _
  have s3 : A1 261 3 = r := by rw [are.2.1 3 (by decide), z0 3 (by decide) (by decide)]; exact hr
  -- the class and the reference at the places
  have cls2 : ∀ C, KC0 C0 k A C → ∀ Q : Int → MM → Prop, (∀ M16, KC C0 (k + 1) A2 M16 → w_X7_readPair 263 12 264 12 (fun r18 M19 => (r18 = 0 ∨ r18 = 1) → (¬ r18 = 0 → (∀ v21, v21 = M19 1 9 → ri_ v21 → (¬ v21 = 2 → w_X7_readRule_b142 Q M19) ∧ (v21 = 2 → (∀ v23, v23 = M19 1 11 → rl_ v23 → (∀ v24, v24 = M19 261 1 → rl_ v24 → (v23 = v24 → w_X9_nextWord (fun _ M27 => w_X7_readBody (fun r28 M29 => (r28 = 0 ∨ r28 = 1) → (¬ r28 = 0 → (∀ v31, v31 = M29 261 15 → ri_ v31 → (∀ v32, v32 = M29 261 3 → ri_ v32 → 0 ≤ v32 ∧ v32 < 12 ∧ (∀ v33, v33 = M29 263 v32 → ri_ v33 → ((jand (jshr v31 v33) 1) = 0 → w_X7_readRule_b201 Q M29) ∧ (¬ (jand (jshr v31 v33) 1) = 0 → (∀ v35, v35 = M29 261 15 → ri_ v35 → (∀ v36, v36 = M29 261 3 → ri_ v36 → 0 ≤ v36 ∧ v36 < 12 ∧ (∀ v37, v37 = M29 264 v36 → ri_ v37 → (¬ (jand (jshr v35 v37) 1) = 0 → (∀ v39, v39 = M29 261 3 → ri_ v39 → (∀ v40, v40 = M29 261 14 → ri_ v40 → 0 ≤ v39 ∧ v39 < 12 ∧ (∀ M41, M41 = ux_ M29 265 v39 v40 → (∀ v42, v42 = M41 261 3 → ri_ v42 → ri_ (v42 + 1) ∧ ((∀ M44, M44 = ux_ M41 261 3 (v42 + 1) → w_X9_nextWord (fun _ M46 => Q 1 M46) M44))))))) ∧ ((jand (jshr v35 v37) 1) = 0 → w_X7_readRule_b201 Q M29))))))))) ∧ (r28 = 0 → Q 0 M29)) M27) M19) ∧ (¬ v23 = v24 → w_X7_readRule_b142 Q M19)))))) ∧ (r18 = 0 → Q 0 M19)) v (C0 5 k) r M16) → w_X7_readRule Q C := fun C hC Q hq => by
    refine cls C hC Q (fun C7 h7 => cR k C7 h7 _ (fun C11 h11 _ => ⟨fun _ => k_next hT.1 h11 hk (by omega) (fun C14 h14 v15 e15 _ => ?_), fun q => by omega⟩))
    rw [h14.2.2.2.1 3 (by decide) (by decide), s3] at e15
    rw [e15]
    refine ⟨r0, r1, fun M16 e16 v17 e17 _ => ?_⟩
    have h16 : KC C0 (k + 1) A2 M16 := by rw [e16, e2]; exact KC_u h14 (by decide) (by decide) _ _
    have z17 : v17 = r := by rw [e17, h16.2.2.2.1 3 (by decide) (by decide), g2 261 (by decide), s3]
    rw [z17]
    exact hq M16 h16
  have ref2 : ∀ R, KRq0 C0 R0 E k A R → ∀ Q : Int → MM → Prop, (∀ R12, KRq C0 R0 E (k + 1) A2 R12 → R12 84 r = v → (∀ q i, q = 82 ∨ 84 ≤ q → ¬ (q = 84 ∧ i = r) → R12 q i = R q i) → w_X12_readPlaces (fun _ M15 => (∀ v16, v16 = M15 0 136 → ri_ v16 → 0 ≤ r ∧ r < 12 ∧ (∀ M17, M17 = ux_ M15 85 r v16 → (∀ v18, v18 = M17 0 137 → ri_ v18 → 0 ≤ r ∧ r < 12 ∧ (∀ M19, M19 = ux_ M17 86 r v18 → (∀ v20, v20 = M19 0 83 → ri_ v20 → (¬ v20 = 0 → w_X12_readRule_b146 Q r M19) ∧ (v20 = 0 → (∀ v22, v22 = M19 0 80 → ri_ v22 → (¬ v22 = 1 → w_X12_readRule_b142 Q r M19) ∧ (v22 = 1 → (∀ v24, v24 = M19 0 85 → rl_ v24 → w_X12_coded (fun r25 M26 => rl_ r25 → (v24 = r25 → w_X12_readRule_b146 Q r M26) ∧ (¬ v24 = r25 → w_X12_readRule_b142 Q r M26)) 26982 M19)))))))))) v (C0 5 k) 0 R12) → w_X12_readRule Q R := fun R hR Q hq => by
    refine ref R hR Q (fun R5 h5 f5 => rRel R5 h5 _ (fun R7 h7 fv _ => ⟨r0, r1, fun M8 e8 v9 e9 _ => ?_⟩))
    have h8 : KRq C0 R0 E k A2 M8 := by rw [e8]; exact KRq_w h7 (by decide) (by decide) _ _ (fun j _ => by rw [g2 261 (by decide)]) (fun p hp => g2 p (by omega))
    refine ⟨fun _ => q_adv hT h8 hk (by omega) (fun R12 q1 q2 _ => ⟨r0, r1, fun v13 e13 _ => ?_⟩), fun z => absurd (by rw [e9, h8.2.2.1]; decide) z⟩
    have z13 : R12 84 r = v := by rw [q2.1 84 (by decide), e8, ux_s]
    rw [e13, z13]
    refine hq R12 q1 z13 (fun q i hq' hi => ?_)
    rw [q2.1 q (by omega), e8]
    by_cases w : q = 84
    · rw [w, ux_i _ _ _ (fun y => hi ⟨w, y⟩), fv.1 84 (by decide) (by decide) (by decide), f5 84 (by decide)]
    · rw [ux_c _ _ _ _ w, fv.1 q (by omega) (by omega) (by omega), f5 q (by omega)]
  -- a fault on the way ends it
  have b146F : ∀ (Q : Int → MM → Prop) (R : MM) (f pl : Int), 0 < f → KRf R0 f pl R → (∀ R', KRg R0 f pl R' → Q 0 R') → w_X12_readRule_b146 Q r R := fun Q R f pl f0 h hq => by
    unfold w_X12_readRule_b146 w_X12_readRule_b157
    intro v1 e1 _
    refine ⟨fun _ => ⟨r0, r1, fun M1 em => ⟨1, ?_⟩⟩, fun z => by rw [e1, h.2.1] at z; omega⟩
    have h1 : KRf R0 f pl M1 := by rw [em]; exact KRf_u h (by decide) (by decide) _ _
    show wb_X12_readRule_b166 Q _ r 1 M1
    unfold wb_X12_readRule_b166
    refine ⟨fun z => absurd z (by decide), fun _ v2 e2 _ => ⟨fun _ => b193F r0 r1 h1 f0 hq, fun z => by rw [e2, h1.2.1] at z; omega⟩⟩
  rcases J_p hT k1 oA2 263 264 12 (Or.inl ⟨rfl, rfl⟩) r r0 (by omega) v (C0 5 k) (Or.inr ⟨v0, by rw [g2 261 (by decide)]; exact v1⟩) with ⟨k2, A3, va, vb, rb, p1, p2, p3, p4, p5, p6, p7, p8, p9, p10, p11, cP, rP⟩ | ⟨f, pl, f0, cP, rP⟩
  rotate_left
  · rw [wv.1, wv.2] at rP
    refine Or.inr ⟨f, pl, f0, fun C hC Q hq => cls2 C hC Q (fun M16 h16 => cP M16 h16 _ (fun C' h' _ => ⟨fun z => absurd rfl z, fun _ => hq C' h'⟩)), fun R hR Q hq => ref2 R hR Q (fun R12 h12 _ _ => rP R12 h12 _ (fun R' h' v16 e16 _ => ⟨r0, r1, fun M17 e17 v18 e18 _ => ⟨r0, r1, fun M19 e19 v20 e20 _ => ?_⟩⟩))⟩
    have h19 : KRf R0 f pl M19 := by rw [e19, e17]; exact KRf_u (KRf_u h' (by decide) (by decide) _ _) (by decide) (by decide) _ _
    exact ⟨fun _ => b146F Q M19 f pl f0 h19 hq, fun z => by rw [e20, h19.2.1] at z; omega⟩
  rw [wv.1, wv.2] at rP
  have q3 : A3 261 3 = r := by rw [p8.2.2.1 3 (by decide), g2 261 (by decide), s3]
  have q15 : A3 261 15 = 0 := by rw [p8.2.2.1 15 (by decide), g2 261 (by decide), are.2.1 15 (by decide), c15]
  have q16 : A3 261 16 = A1 261 16 := by rw [p8.2.2.1 16 (by decide), g2 261 (by decide)]
  have q262 : A3 262 r = v := by rw [p8.1 262 (by decide) (by decide) (by decide) (by decide) (by decide), e2, ux_s]
  have nA := p2.2.2.2.2.2.2.2.2.1
  have q273 : A3 273 v = if rb = -1 then 1 else 2 := p11 v6
  have hb0 : HBD A3 r 0 := ⟨by omega, by omega, fun x x0 x1 => by
    rw [q15]
    constructor
    · intro z
      have y : x = 0 ∨ x = 1 ∨ x = 2 := by omega
      exact absurd (by rcases y with y | y | y <;> rw [y] <;> decide) z
    · rintro ⟨m, m0, m1, -⟩; omega, fun m m0 m1 => by omega⟩
  have ref3 : ∀ R, KRq0 C0 R0 E k A R → ∀ Q : Int → MM → Prop, (∀ M19, KRq C0 R0 E k2 A3 M19 → M19 84 r = v → M19 85 r = va → M19 86 r = rb → (∀ q i, q = 82 ∨ 84 ≤ q → ¬ (i = r ∧ (q = 84 ∨ q = 85 ∨ q = 86)) → M19 q i = R q i) → ((C0 4 k2 = 2 ∧ C0 6 k2 = C0 261 1) → w_X12_readRule_b146 Q r M19) ∧ (¬ (C0 4 k2 = 2 ∧ C0 6 k2 = C0 261 1) → w_X12_readRule_b142 Q r M19)) → w_X12_readRule Q R := fun R hR Q hq => by
    refine ref2 R hR Q (fun R12 h12 h84 f12 => rP R12 h12 _ (fun R' h' a1 a2 fp v16 e16 _ => ⟨r0, r1, fun M17 e17 v18 e18 _ => ⟨r0, r1, fun M19 e19 v20 e20 _ => ?_⟩⟩))
    have h17 : KRq C0 R0 E k2 A3 M17 := by rw [e17]; exact KRq_w h' (by decide) (by decide) _ _ (fun _ _ => rfl) (fun _ _ => rfl)
    have h19 : KRq C0 R0 E k2 A3 M19 := by rw [e19]; exact KRq_w h17 (by decide) (by decide) _ _ (fun _ _ => rfl) (fun _ _ => rfl)
    rw [a1] at e16
    rw [e17, ux_g _ _ _ (by decide), a2] at e18
    have z := hq M19 h19 (by rw [e19, ux_g _ _ _ (by decide), e17, ux_g _ _ _ (by decide), fp.1 84 (by decide) (by decide) (by decide)]; exact h84) (by rw [e19, ux_g _ _ _ (by decide), e17, ux_s, e16]) (by rw [e19, ux_s, e18]) (fun q i hq' hi => by
      have e1 : M19 q i = R' q i := by
        rw [e19, e17]
        by_cases w6 : q = 86
        · rw [w6, ux_i _ _ _ (fun y => hi ⟨y, by omega⟩), ux_g _ _ _ (by decide)]
        · rw [ux_g _ _ _ w6]
          by_cases w5 : q = 85
          · rw [w5, ux_i _ _ _ (fun y => hi ⟨y, by omega⟩)]
          · rw [ux_g _ _ _ w5]
      rw [e1, fp.1 q (by omega) (by omega) (by omega)]
      exact f12 q i hq' (fun y => hi ⟨y.2, by omega⟩))
    refine ⟨fun y => absurd (by rw [e20]; exact h19.2.2.1) y, fun _ v22 e22 _ => ⟨fun y => z.2 fun w => y (by rw [e22]; exact (q_nm h19 w.1).1), fun y v24 e24 _ => cd_if (fun _ => ?_)⟩⟩
    have l := (q_lk hT h19 p2 hN (by rw [← e22]; exact y)).2
    exact ⟨fun w => z.1 (l.mp (by rw [← e24]; exact w)), fun w => z.2 fun u => w (by rw [e24]; exact l.mpr u)⟩
  by_cases hif : C0 4 k2 = 2 ∧ C0 6 k2 = C0 261 1
  rotate_left
  · refine Or.inr ⟨if C0 4 k2 = 1 then 2 else 1, C0 5 k2, flt_pos, fun C hC Q hq => cls2 C hC Q (fun M16 h16 => cP M16 h16 _ (fun M19 h19 _ => ⟨fun _ v21 e21 _ => ?_, fun z => absurd z (by decide)⟩)), fun R hR Q hq => ref3 R hR Q (fun M19 h19 _ _ _ _ => ⟨fun w => absurd w hif, fun _ => ?_⟩)⟩
    · have b142 : w_X7_readRule_b142 Q M19 := by unfold w_X7_readRule_b142; exact k_refuse h19 (fun C' h' _ => hq C' h')
      refine ⟨fun _ => b142, fun y v23 e23 _ v24 e24 _ => ⟨fun w => absurd ?_ hif, fun _ => b142⟩⟩
      rw [h19.2.1.1] at e21
      rw [h19.2.1.2.2.1] at e23
      rw [h19.2.2.2.1 1 (by decide) (by decide), nA] at e24
      exact ⟨by rw [← e21]; exact y, by rw [← e23, ← e24]; exact w⟩
    · unfold w_X12_readRule_b142
      exact q_wrong h19 (fun R' k1 _ => b146F Q R' _ _ flt_pos k1 hq)
  have k3 := TX_lt hT p1 (by omega)
  have cls4 : ∀ C, KC0 C0 k A C → ∀ Q : Int → MM → Prop, (∀ M27, KC C0 (k2 + 1) A3 M27 → w_X7_readBody (fun r28 M29 => (r28 = 0 ∨ r28 = 1) → (¬ r28 = 0 → (∀ v31, v31 = M29 261 15 → ri_ v31 → (∀ v32, v32 = M29 261 3 → ri_ v32 → 0 ≤ v32 ∧ v32 < 12 ∧ (∀ v33, v33 = M29 263 v32 → ri_ v33 → ((jand (jshr v31 v33) 1) = 0 → w_X7_readRule_b201 Q M29) ∧ (¬ (jand (jshr v31 v33) 1) = 0 → (∀ v35, v35 = M29 261 15 → ri_ v35 → (∀ v36, v36 = M29 261 3 → ri_ v36 → 0 ≤ v36 ∧ v36 < 12 ∧ (∀ v37, v37 = M29 264 v36 → ri_ v37 → (¬ (jand (jshr v35 v37) 1) = 0 → (∀ v39, v39 = M29 261 3 → ri_ v39 → (∀ v40, v40 = M29 261 14 → ri_ v40 → 0 ≤ v39 ∧ v39 < 12 ∧ (∀ M41, M41 = ux_ M29 265 v39 v40 → (∀ v42, v42 = M41 261 3 → ri_ v42 → ri_ (v42 + 1) ∧ ((∀ M44, M44 = ux_ M41 261 3 (v42 + 1) → w_X9_nextWord (fun _ M46 => Q 1 M46) M44))))))) ∧ ((jand (jshr v35 v37) 1) = 0 → w_X7_readRule_b201 Q M29))))))))) ∧ (r28 = 0 → Q 0 M29)) M27) → w_X7_readRule Q C := fun C hC Q hq => by
    refine cls2 C hC Q (fun M16 h16 => cP M16 h16 _ (fun M19 h19 _ => ⟨fun _ v21 e21 _ => ?_, fun z => absurd z (by decide)⟩))
    rw [h19.2.1.1] at e21
    refine ⟨fun y => absurd (by rw [e21]; exact hif.1) y, fun y v23 e23 _ v24 e24 _ => ⟨fun w => k_next hT.1 h19 p1 (by omega) (fun M27 h27 => hq M27 h27), fun w => absurd ?_ w⟩⟩
    rw [h19.2.1.2.2.1] at e23
    rw [h19.2.2.2.1 1 (by decide) (by decide), nA] at e24
    rw [e23, e24]; exact hif.2
  have ref4 : ∀ R, KRq0 C0 R0 E k A R → ∀ Q : Int → MM → Prop, (∀ M, KRq C0 R0 E (k2 + 1) A3 M → M 87 r = 0 → M 84 r = v → M 85 r = va → M 86 r = rb → (∀ q i, q = 82 ∨ 84 ≤ q → ¬ (i = r ∧ (q = 84 ∨ q = 85 ∨ q = 86 ∨ q = 87)) → M q i = R q i) → w_X12_readRule_b166 Q r 1 M) → w_X12_readRule Q R := fun R hR Q hq => by
    refine ref3 R hR Q (fun M19 h19 x4 x5 x6 xf => ⟨fun _ => ?_, fun w => absurd hif w⟩)
    unfold w_X12_readRule_b146
    intro w1 ew1 _
    refine ⟨fun y => absurd (by rw [ew1]; exact h19.2.2.1) y, fun _ => q_adv hT h19 p1 (by omega) (fun M4 h4 fa _ => ?_)⟩
    unfold w_X12_readRule_b157
    refine ⟨r0, r1, fun M5 e5 => hq M5 (by rw [e5]; exact KRq_w h4 (by decide) (by decide) _ _ (fun _ _ => rfl) (fun _ _ => rfl)) (by rw [e5, ux_s]) (by rw [e5, ux_g _ _ _ (by decide), fa.1 84 (by decide)]; exact x4) (by rw [e5, ux_g _ _ _ (by decide), fa.1 85 (by decide)]; exact x5) (by rw [e5, ux_g _ _ _ (by decide), fa.1 86 (by decide)]; exact x6) (fun q i hq' hi => ?_)⟩
    have e1 : M5 q i = M4 q i := by
      rw [e5]
      by_cases w : q = 87
      · rw [w, ux_i _ _ _ (fun y => hi ⟨y, by omega⟩)]
      · rw [ux_g _ _ _ w]
    rw [e1, fa.1 q (by omega)]
    exact xf q i hq' (fun y => hi ⟨y.1, by omega⟩)
  rcases J_b hT hN r r0 r1 4 0 (k2 + 1) A3 (by omega) (by omega) k3 p2 q3 hb0 with ⟨k4, A4, n, b1, b2, b3, b4, b5, b6, b7, b8, cB, rB⟩ | ⟨f, pl, f0, cB, rB⟩
  rotate_left
  · refine Or.inr ⟨f, pl, f0, fun C hC Q hq => cls4 C hC Q (fun M27 h27 => ⟨5, cB M27 h27 _ (fun C' h' _ => ⟨fun z => absurd rfl z, fun _ => hq C' h'⟩)⟩), fun R hR Q hq => ref4 R hR Q (fun M h m7 _ _ _ _ => ⟨6, rB M h m7 Q hq⟩)⟩
  have t262 : A4 262 r = v := by rw [b4.1 262 (by omega) (by omega)]; exact q262
  have t263 : A4 263 r = va := by rw [b4.1 263 (by omega) (by omega)]; exact p9
  have t264 : A4 264 r = vb := by rw [b4.1 264 (by omega) (by omega)]; exact p10
  have t3 : A4 261 3 = r := by rw [b4.2.2.2.1]; exact q3
  have t14 : A3 261 14 ≤ A4 261 14 := b4.2.2.2.2.1
  have t14' : A4 261 14 ≤ 3 := b3.2.2.2.2.2.1
  have va3 : va < 3 := by omega
  have vb3 : vb < 3 := by omega
  have ba := b7.2.2.1 va p3 va3
  have bb := b7.2.2.1 vb p5 vb3
  have hb' : rb = -1 ∧ vb = va ∨ rb = vb := by rcases p7 with ⟨x, y, -⟩ | x; exact Or.inl ⟨x, y⟩; exact Or.inr x
  by_cases hh : hldB A4 r n va ∧ hldB A4 r n vb
  rotate_left
  · refine Or.inr ⟨3, C0 5 k4, by decide, fun C hC Q hq => cls4 C hC Q (fun M27 h27 => ⟨5, cB M27 h27 _ (fun M29 h29 _ => ⟨fun _ v31 e31 _ v32 e32 _ => ?_, fun z => absurd z (by decide)⟩)⟩), fun R hR Q hq => ref4 R hR Q (fun M h m7 _ m5 m6 _ => ⟨6, rB M h m7 (fun m m0 m1 => by omega) Q (fun R' h' x7 hat fb => q_193 h' b2 r0 r1 (by omega) b6 p3 p5 hb' (by rw [fb.1 85 (by decide)]; exact m5) (by rw [fb.1 86 (by decide)]; exact m6) x7 hat (fun x y => absurd ⟨x, y⟩ hh) (fun _ v1 e1 _ => ?_))⟩)⟩
    · have b201 : w_X7_readRule_b201 Q M29 := by
        unfold w_X7_readRule_b201
        intro w1 ew _
        rw [ew, h29.2.1.2.1]
        exact k_fail h29 (fun C' h' _ => hq C' h')
      rw [h29.2.2.2.1 15 (by decide) (by decide)] at e31
      rw [h29.2.2.2.1 3 (by decide) (by decide), t3] at e32
      rw [e32]
      refine ⟨r0, r1, fun v33 e33 _ => ⟨fun _ => b201, fun x v35 e35 _ v36 e36 _ => ?_⟩⟩
      rw [h29.2.2.2.1 15 (by decide) (by decide)] at e35
      rw [h29.2.2.2.1 3 (by decide) (by decide), t3] at e36
      rw [e36]
      refine ⟨r0, r1, fun v37 e37 _ => ⟨fun y => absurd ?_ hh, fun _ => b201⟩⟩
      rw [h29.2.2.1 263 (by decide) (by decide), t263] at e33
      rw [h29.2.2.1 264 (by decide) (by decide), t264] at e37
      rw [e31, e33] at x
      rw [e35, e37] at y
      exact ⟨ba.mp x, bb.mp y⟩
    · rw [e1, h'.2.1.2.1]
      exact q_fail h' (fun R2 k1 _ => b257F r0 r1 k1 (by decide) hq)
  have k5 := TX_lt hT b1 (by omega)
  obtain ⟨A5, e5⟩ : ∃ A5, A5 = ux_ (ux_ A4 265 r (A4 261 14)) 261 3 (r + 1) := ⟨_, rfl⟩
  have g5 : ∀ q, q ≠ 261 → q ≠ 265 → A5 q = A4 q := fun q x y => by rw [e5, ux_g _ _ _ x, ux_g _ _ _ y]
  have z5 : ∀ i, i ≠ 3 → A5 261 i = A4 261 i := fun i x => by rw [e5, ux_i _ _ _ x, ux_g _ _ _ (by decide)]
  have s5 : A5 265 r = A4 261 14 := by rw [e5, ux_g _ _ _ (by decide), ux_s]
  have d5 : ∀ i, i ≠ r → A5 265 i = A4 265 i := fun i x => by rw [e5, ux_g _ _ _ (by decide), ux_i _ _ _ x]
  have oA5 : OKA C0 A5 := by
    have h := b3
    unfold OKA at h ⊢
    rw [z5 16 (by decide), z5 14 (by decide), z5 1 (by decide), z5 2 (by decide), g5 271 (by decide) (by decide), g5 272 (by decide) (by decide), g5 273 (by decide) (by decide), show A5 261 3 = r + 1 from by rw [e5, ux_s]]
    exact ⟨h.1, h.2.1, by omega, by omega, h.2.2.2.2⟩
  have ag : AGr A A5 r := by
    have gA : ∀ q, q ≠ 261 → q ≠ 262 → q ≠ 263 → q ≠ 264 → q ≠ 271 → q ≠ 272 → q ≠ 273 → A3 q = A q := fun q x1 x2 x3 x4 x5 x6 x7 => by rw [p8.1 q x1 x5 x7 x3 x4, g2 q x2, are.1 q x1 x6 x7, g0 q x1]
    refine ⟨fun q i x y z => ?_, fun q i x y z => ?_, by rw [e5, ux_s], ?_, fun i i0 i1 i2 => ?_⟩
    · have w : q = 262 ∨ q = 263 ∨ q = 264 ∨ q = 265 ∨ q = 266 := by omega
      rcases w with w | w | w | w | w
      · rw [w, g5 262 (by decide) (by decide), b4.1 262 (by omega) (by omega), p8.1 262 (by decide) (by decide) (by decide) (by decide) (by decide), e2, ux_i _ _ _ z, are.1 262 (by decide) (by decide) (by decide), g0 262 (by decide)]
      · rw [w, g5 263 (by decide) (by decide), b4.1 263 (by omega) (by omega), (p8.2.1 i z).1, g2 263 (by decide), are.1 263 (by decide) (by decide) (by decide), g0 263 (by decide)]
      · rw [w, g5 264 (by decide) (by decide), b4.1 264 (by omega) (by omega), (p8.2.1 i z).2, g2 264 (by decide), are.1 264 (by decide) (by decide) (by decide), g0 264 (by decide)]
      · rw [w, d5 i z, b4.1 265 (by omega) (by omega), gA 265 (by decide) (by decide) (by decide) (by decide) (by decide) (by decide) (by decide)]
      · rw [w, g5 266 (by decide) (by decide), b4.2.1 i z, gA 266 (by decide) (by decide) (by decide) (by decide) (by decide) (by decide) (by decide)]
    · rw [g5 q (by omega) (by omega), b4.2.2.1 q i x y z, gA q (by omega) (by omega) (by omega) (by omega) (by omega) (by omega) (by omega)]
    · have x1 := b4.2.2.2.2.2.1
      have x2 := are.2.2.1
      rw [z0 16 (by decide) (by decide)] at x2
      rw [z5 16 (by decide)]; omega
    · have x2 := are.2.2.1
      have x3 := are.2.2.2 i i0 (by rw [z0 16 (by decide) (by decide)]; exact i1)
      rw [g0 273 (by decide)] at x3
      have x4 : A3 273 i = A 273 i := by rw [p8.2.2.2.2 i (Or.inr (by rw [g2 273 (by decide), x3]; exact i2)), g2 273 (by decide), x3]
      rw [z0 16 (by decide) (by decide)] at x2
      rw [g5 273 (by decide) (by decide), b4.2.2.2.2.2.2 i i0 (by omega) (by rw [x4]; exact i2), x4]
  have rla : RLA A5 r := by
    have h16 : A1 261 16 ≤ A4 261 16 := by have := b4.2.2.2.2.2.1; omega
    unfold RLA
    rw [g5 262 (by decide) (by decide), g5 263 (by decide) (by decide), g5 264 (by decide) (by decide), g5 266 (by decide) (by decide), s5, z5 16 (by decide), t262, t263, t264, b8]
    refine ⟨v0, by omega, b5, b6, p3, by omega, p5, by omega, t14', fun m m0 m1 => ?_⟩
    rw [g5 267 (by decide) (by decide), g5 268 (by decide) (by decide), g5 269 (by decide) (by decide)]
    exact b7.2.2.2 m m0 m1
  refine Or.inl ⟨k4 + 1, A5, k5, oA5, ag, r1, rla, fun C hC Q hq => cls4 C hC Q (fun M27 h27 => ⟨5, cB M27 h27 _ (fun M29 h29 _ => ⟨fun _ v31 e31 _ v32 e32 _ => ?_, fun z => absurd z (by decide)⟩)⟩), fun R hR Q hq => ref4 R hR Q (fun M h m7 m4 m5 m6 mf => ⟨6, rB M h m7 (fun m m0 m1 => by omega) Q (fun R' h' x7 hat fb => q_193 h' b2 r0 r1 (by omega) b6 p3 p5 hb' (by rw [fb.1 85 (by decide)]; exact m5) (by rw [fb.1 86 (by decide)]; exact m6) x7 hat (fun _ _ => ?_) (fun x => absurd hh x))⟩)⟩
  · rw [h29.2.2.2.1 15 (by decide) (by decide)] at e31
    rw [h29.2.2.2.1 3 (by decide) (by decide), t3] at e32
    rw [e32]
    refine ⟨r0, r1, fun v33 e33 _ => ?_⟩
    rw [h29.2.2.1 263 (by decide) (by decide), t263] at e33
    rw [e31, e33]
    refine ⟨fun x => absurd x (ba.mpr hh.1), fun _ v35 e35 _ v36 e36 _ => ?_⟩
    rw [h29.2.2.2.1 15 (by decide) (by decide)] at e35
    rw [h29.2.2.2.1 3 (by decide) (by decide), t3] at e36
    rw [e36]
    refine ⟨r0, r1, fun v37 e37 _ => ?_⟩
    rw [h29.2.2.1 264 (by decide) (by decide), t264] at e37
    rw [e35, e37]
    refine ⟨fun _ v39 e39 _ v40 e40 _ => ?_, fun y => absurd y (bb.mpr hh.2)⟩
    rw [h29.2.2.2.1 3 (by decide) (by decide), t3] at e39
    rw [h29.2.2.2.1 14 (by decide) (by decide)] at e40
    rw [e39, e40]
    refine ⟨r0, r1, fun M41 e41 v42 e42 _ => ?_⟩
    rw [e41, ux_g _ _ _ (by decide), h29.2.2.2.1 3 (by decide) (by decide), t3] at e42
    rw [e42]
    refine ⟨by unfold ri_; omega, fun M44 e44 => k_next hT.1 (A := A5) ?_ b1 (by omega) (fun C' h' => hq C' h')⟩
    rw [e44, e41, e5]
    exact KC_i (KC_u h29 (by decide) (by decide) _ _) (by decide) (by decide) _
  · unfold w_X12_readRule_b257
    refine q_need (x := 6) hT h' b1 (by decide) (by decide) (fun _ M2 h2 fa _ v3 e3 _ => ⟨r0, r1, fun M4 e4 v5 ev5 _ => ?_⟩) (fun z => absurd b2 z)
    rw [e4, ux_g _ _ _ (by decide), ← h2.2.2.2.2.1.1, t3] at ev5
    rw [ev5]
    refine ⟨by unfold ri_; omega, fun M7 e7 => hq M7 ?_ ?_ ?_⟩
    · rw [e7, e5, e4]
      exact KRq_134 (KRq_w h2 (by decide) (by decide) _ _ (fun j hj => by rw [ux_g _ _ _ (by decide)]) (fun p hp => ux_g _ _ _ (by omega))) _ (by omega) (by omega)
    · have gM : ∀ q, q ≠ 0 → q ≠ 92 → M7 q = R' q := fun q x y => by rw [e7, ux_g _ _ _ x, e4, ux_g _ _ _ y, fa.1 q x]
      have h16 : A1 261 16 ≤ A4 261 16 := by have := b4.2.2.2.2.2.1; omega
      have v16 : v < A4 261 16 := by omega
      have a273 : A4 273 v = if rb = -1 then 1 else 2 := by
        rw [b4.2.2.2.2.2.2 v v0 (by omega) (by rw [q273]; split <;> decide), q273]
      unfold RLq
      rw [gM 84 (by decide) (by decide), gM 85 (by decide) (by decide), gM 86 (by decide) (by decide), gM 87 (by decide) (by decide), g5 262 (by decide) (by decide), g5 263 (by decide) (by decide), g5 264 (by decide) (by decide), g5 266 (by decide) (by decide), g5 273 (by decide) (by decide), s5, z5 16 (by decide), t262, t263, t264, b8, fb.1 84 (by decide), fb.1 85 (by decide), fb.1 86 (by decide), m4, m5, m6]
      have hl : ∀ x, hldB A4 r n x → hldB A5 r n x := fun x ⟨m, m0, m1, m2⟩ => ⟨m, m0, m1, by unfold hld at m2 ⊢; rw [g5 267 (by decide) (by decide), g5 268 (by decide) (by decide), g5 269 (by decide) (by decide)]; exact m2⟩
      refine ⟨rfl, v0, v16, rfl, ?_, x7, b5, b6, p3, by omega, p5, by omega, t14', hl _ hh.1, hl _ hh.2, fun m m0 m1 => ?_⟩
      · rw [a273]
        rcases hb' with ⟨x, y⟩ | x
        · exact Or.inl ⟨x, y, by rw [if_pos x]⟩
        · exact Or.inr ⟨x, by rw [if_neg (by omega)]⟩
      · obtain ⟨hk, u1, u2, u3, u4, u5⟩ := hat m m0 m1
        rw [g5 268 (by decide) (by decide), g5 269 (by decide) (by decide), gM 90 (by decide) (by decide)]
        refine ⟨?_, u1, u2, u3, u4, u5⟩
        unfold AtK at hk ⊢
        rw [gM 88 (by decide) (by decide), gM 89 (by decide) (by decide), gM 91 (by decide) (by decide), gM 82 (by decide) (by decide), g5 267 (by decide) (by decide), g5 268 (by decide) (by decide), g5 269 (by decide) (by decide), g5 270 (by decide) (by decide), g5 273 (by decide) (by decide), z5 16 (by decide)]
        exact hk
    · have gM : ∀ q, q ≠ 0 → q ≠ 92 → M7 q = R' q := fun q x y => by rw [e7, ux_g _ _ _ x, e4, ux_g _ _ _ y, fa.1 q x]
      have g92 : ∀ i, i ≠ r → M7 92 i = R' 92 i := fun i x => by rw [e7, ux_g _ _ _ (by decide), e4, ux_i _ _ _ x, fa.1 92 (by decide)]
      refine ⟨fun q i hq' hi => ?_, fun q i hq' hi => ?_⟩
      · rcases hq' with w | w | w | w | w
        · rw [w, gM 84 (by decide) (by decide), fb.1 84 (by decide), mf 84 i (by decide) (fun y => hi y.1)]
        · rw [w, gM 85 (by decide) (by decide), fb.1 85 (by decide), mf 85 i (by decide) (fun y => hi y.1)]
        · rw [w, gM 86 (by decide) (by decide), fb.1 86 (by decide), mf 86 i (by decide) (fun y => hi y.1)]
        · rw [w, gM 87 (by decide) (by decide), fb.2.1 i hi, mf 87 i (by decide) (fun y => hi y.1)]
        · rw [w, g92 i hi, fb.1 92 (by decide), mf 92 i (by decide) (fun y => hi y.1)]
      · rw [gM q (by omega) (by omega), fb.2.2 q i hq' hi, mf q i (by omega) (fun y => by omega)]
