/-! rules are read: a body, on both sides -/
def hld (A : MM) (i v : Int) : Prop := (A 267 i ≤ 6 ∨ A 267 i = 9) ∧ (A 268 i = v ∨ A 269 i = v)
def hldB (A : MM) (r n v : Int) : Prop := ∃ m, 0 ≤ m ∧ m < n ∧ hld A (4 * r + m) v
def HBD (A : MM) (r n : Int) : Prop := 0 ≤ A 261 15 ∧ A 261 15 ≤ 7 ∧ (∀ v, 0 ≤ v → v < 3 → (jand (jshr (A 261 15) v) 1 ≠ 0 ↔ hldB A r n v)) ∧ ∀ m, 0 ≤ m → m < n → BDv A (4 * r + m)
theorem bit_8 : ∀ (b : Fin 8) (x y v : Fin 3), (jand (jshr (jor (b.val : Int) (jor (jshl 1 (x.val : Int)) (jshl 1 (y.val : Int)))) (v.val : Int)) 1 ≠ 0 ↔ jand (jshr (b.val : Int) (v.val : Int)) 1 ≠ 0 ∨ x.val = v.val ∨ y.val = v.val) ∧ 0 ≤ jor (b.val : Int) (jor (jshl 1 (x.val : Int)) (jshl 1 (y.val : Int))) ∧ jor (b.val : Int) (jor (jshl 1 (x.val : Int)) (jshl 1 (y.val : Int))) ≤ 7 := by decide
theorem HBD_s {A A' : MM} {r n i : Int} (h : HBD A r n) (n0 : 0 ≤ n) (ei : i = 4 * r + n) (a : AFe A A' i) (b : BN A A' i) (x0 : 0 ≤ A' 268 i) (x3 : A' 268 i < 3) (y0 : 0 ≤ A' 269 i) (y3 : A' 269 i < 3) (ob : BDv A' i) : HBD A' r (n + 1) := by
  obtain ⟨h1, h2, h3, h4⟩ := h
  have bd : ∀ m, 0 ≤ m → m < n + 1 → BDv A' (4 * r + m) := fun m m0 m1 => by
    by_cases w : m = n
    · rw [w, ← ei]; exact ob
    · have q := h4 m m0 (by omega)
      have l := a.2.2.2.1
      unfold BDv at q ⊢
      rw [a.2.1 267 _ (by omega) (by omega) (by omega), a.2.1 268 _ (by omega) (by omega) (by omega), a.2.1 269 _ (by omega) (by omega) (by omega)]
      exact ⟨q.1, by omega, q.2.2.1, by omega, q.2.2.2.2⟩
  have old : ∀ m v, 0 ≤ m → m < n → (hld A' (4 * r + m) v ↔ hld A (4 * r + m) v) := fun m v a1 a2 => by
    unfold hld
    rw [a.2.1 267 _ (by omega) (by omega) (by omega), a.2.1 268 _ (by omega) (by omega) (by omega), a.2.1 269 _ (by omega) (by omega) (by omega)]
  have sp : ∀ v, hldB A' r (n + 1) v ↔ hldB A r n v ∨ hld A' i v := fun v => by
    constructor
    · rintro ⟨m, m0, m1, m2⟩
      by_cases w : m = n
      · rw [w, ← ei] at m2; exact Or.inr m2
      · exact Or.inl ⟨m, m0, by omega, (old m v m0 (by omega)).mp m2⟩
    · rintro (⟨m, m0, m1, m2⟩ | w)
      · exact ⟨m, m0, by omega, (old m v m0 m1).mpr m2⟩
      · exact ⟨n, n0, by omega, by rw [← ei]; exact w⟩
  rcases b with ⟨k, e⟩ | ⟨k, e⟩
  · have q := fun v : Fin 3 => bit_8 ⟨(A 261 15).toNat, by omega⟩ ⟨(A' 268 i).toNat, by omega⟩ ⟨(A' 269 i).toNat, by omega⟩ v
    simp only [show (((A 261 15).toNat : Nat) : Int) = A 261 15 from by omega, show (((A' 268 i).toNat : Nat) : Int) = A' 268 i from by omega, show (((A' 269 i).toNat : Nat) : Int) = A' 269 i from by omega, ← e] at q
    refine ⟨(q 0).2.1, (q 0).2.2, fun v v0 v3 => ?_, bd⟩
    have qv := (q ⟨v.toNat, by omega⟩).1
    simp only [show ((v.toNat : Nat) : Int) = v from by omega] at qv
    rw [qv, h3 v v0 v3, sp v]
    refine or_congr Iff.rfl ⟨fun w => ⟨k, by omega⟩, fun w => by have := w.2; omega⟩
  · refine ⟨by omega, by omega, fun v v0 v3 => ?_, bd⟩
    rw [e, h3 v v0 v3, sp v]
    exact ⟨Or.inl, fun w => w.elim id (fun u => absurd u.1 (by omega))⟩
def AGb (A A' : MM) (r : Int) : Prop := (∀ q, 262 ≤ q → q ≤ 265 → A' q = A q) ∧ (∀ i, i ≠ r → A' 266 i = A 266 i) ∧ (∀ q i, 267 ≤ q → q ≤ 270 → i < 4 * r ∨ 4 * r + 4 ≤ i → A' q i = A q i) ∧ A' 261 3 = A 261 3 ∧ A 261 14 ≤ A' 261 14 ∧ A 261 16 ≤ A' 261 16 ∧ ∀ i, 0 ≤ i → i < A 261 16 → A 273 i ≠ 0 → A' 273 i = A 273 i
def FBd (R R' : MM) (r : Int) : Prop := (∀ q, q = 84 ∨ q = 85 ∨ q = 86 ∨ q = 92 → R' q = R q) ∧ (∀ i, i ≠ r → R' 87 i = R 87 i) ∧ ∀ q i, q = 82 ∨ 88 ≤ q ∧ q ≤ 91 → i < 4 * r ∨ 4 * r + 4 ≤ i → R' q i = R q i
theorem AGb_t {A B D : MM} {r : Int} (h : AGb A B r) (h' : AGb B D r) : AGb A D r := by
  obtain ⟨a1, a2, a3, a4, a5, a6, a7⟩ := h
  obtain ⟨b1, b2, b3, b4, b5, b6, b7⟩ := h'
  exact ⟨fun q x y => by rw [b1 q x y, a1 q x y], fun i hi => by rw [b2 i hi, a2 i hi], fun q i x y z => by rw [b3 q i x y z, a3 q i x y z], by rw [b4, a4], by omega, by omega, fun i x y z => by rw [b7 i x (by omega) (by rw [a7 i x y z]; exact z), a7 i x y z]⟩
theorem FBd_t {A B D : MM} {r : Int} (h : FBd A B r) (h' : FBd B D r) : FBd A D r := ⟨fun q x => by rw [h'.1 q x, h.1 q x], fun i hi => by rw [h'.2.1 i hi, h.2.1 i hi], fun q i x y => by rw [h'.2.2 q i x y, h.2.2 q i x y]⟩
theorem b257F {R0 R : MM} {f pl r : Int} {Q : Int → MM → Prop} (r0 : 0 ≤ r) (r1 : r < 12) (h : KRf R0 f pl R) (f0 : 0 < f) (hq : ∀ R', KRg R0 f pl R' → Q 0 R') : w_X12_readRule_b257 Q r R := by
  unfold w_X12_readRule_b257
  refine q_needF h f0 (fun v3 e3 _ => ⟨r0, r1, fun M4 e4 v5 e5 _ => ⟨?_, fun M7 e7 => hq M7 ⟨by rw [e7, e4]; exact QFr_0 (QFr_u h.1 (by decide) (by decide) _ _) _ (by decide), by rw [e7, ux_i _ _ _ (by decide), e4, ux_g _ _ _ (by decide)]; exact h.2.1, by rw [e7, ux_i _ _ _ (by decide), e4, ux_g _ _ _ (by decide)]; exact h.2.2.1⟩⟩⟩)
  rw [e4, ux_g _ _ _ (by decide)] at e5
  have := h.2.2.2
  unfold ri_; omega
theorem b193F {R0 R : MM} {f pl r : Int} {Q : Int → MM → Prop} (r0 : 0 ≤ r) (r1 : r < 12) (h : KRf R0 f pl R) (f0 : 0 < f) (hq : ∀ R', KRg R0 f pl R' → Q 0 R') : w_X12_readRule_b193 Q r R := by
  unfold w_X12_readRule_b193
  intro v1 e1 _
  exact ⟨fun _ => b257F r0 r1 h f0 hq, fun z => by rw [e1, h.2.1] at z; omega⟩
set_option maxHeartbeats 1600000 in
theorem J_b {C0 R0 : MM} {E : Nat → Int} {L : Nat} (hT : TX C0 R0 E L) (hN : KWn C0) (r : Int) (r0 : 0 ≤ r) (r1 : r < 12) : ∀ (d : Nat) (x1 : Int) (k : Nat) (A : MM), x1 + d = 4 → 0 ≤ x1 → k ≤ L → OKA C0 A → A 261 3 = r → HBD A r x1 →
    (∃ k' A' n, k' ≤ L ∧ C0 4 k' = 10 ∧ OKA C0 A' ∧ AGb A A' r ∧ 1 ≤ n ∧ n ≤ 4 ∧ HBD A' r n ∧ A' 266 r = n ∧ (∀ C, KC C0 k A C → ∀ Q : Int → MM → Prop, (∀ C', KC C0 k' A' C' → Q 1 C') → jit (fun _ _ => False) (wb_X7_readBody_b2 Q) (d + 1) x1 C) ∧ (∀ R, KRq C0 R0 E k A R → R 87 r = x1 → (∀ m, 0 ≤ m → m < x1 → ATM A R (4 * r + m)) → ∀ Q : Int → MM → Prop, (∀ R', KRq C0 R0 E k' A' R' → R' 87 r = n → (∀ m, 0 ≤ m → m < n → ATM A' R' (4 * r + m)) → FBd R R' r → w_X12_readRule_b193 Q r R') → jit (fun _ _ _ => False) (wb_X12_readRule_b166 Q) (d + 2) r 1 R)) ∨
    ∃ f pl, 0 < f ∧ (∀ C, KC C0 k A C → ∀ Q : Int → MM → Prop, (∀ C', KF C0 f pl C' → Q 0 C') → jit (fun _ _ => False) (wb_X7_readBody_b2 Q) (d + 1) x1 C) ∧ (∀ R, KRq C0 R0 E k A R → R 87 r = x1 → ∀ Q : Int → MM → Prop, (∀ R', KRg R0 f pl R' → Q 0 R') → jit (fun _ _ _ => False) (wb_X12_readRule_b166 Q) (d + 2) r 1 R) := by
  intro d
  -- a fault in a part ends the loop
  have stopF : ∀ (n : Nat) (Q : Int → MM → Prop) (R : MM) (f pl : Int), 0 < f → KRf R0 f pl R → w_X12_readRule_b193 Q r R → w_X12_takesSign (fun r6 M7 => (r6 = 0 ∨ r6 = 1) → jit (fun _ _ _ => False) (wb_X12_readRule_b166 Q) (n + 1) r r6 M7) 44 R := fun n Q R f pl f0 k1 hq => q_takeF k1 f0 (fun _ => by
    show wb_X12_readRule_b166 Q _ r 0 R
    unfold wb_X12_readRule_b166
    exact ⟨fun _ => hq, fun z => absurd rfl z⟩)
  induction d with
  | zero =>
    intro x1 k A hd x0 hk hA hr hb
    have x4 : x1 = 4 := by omega
    -- one part too many
    obtain ⟨f, pl, f0, hf⟩ : ∃ f pl : Int, 0 < f ∧ ((C0 4 k = 2 ∧ C0 6 k ≠ C0 261 1) ∧ f = 4 ∧ pl = C0 5 k ∨ ¬ (C0 4 k = 2 ∧ C0 6 k ≠ C0 261 1) ∧ f = (if C0 4 k = 1 then 2 else 1) ∧ pl = C0 5 k) := by
      by_cases w : C0 4 k = 2 ∧ C0 6 k ≠ C0 261 1
      · exact ⟨4, C0 5 k, by decide, Or.inl ⟨w, rfl, rfl⟩⟩
      · exact ⟨_, C0 5 k, flt_pos, Or.inr ⟨w, rfl, rfl⟩⟩
    refine Or.inr ⟨f, pl, f0, fun C hC Q hq => ?_, fun R hR h87 Q hq => ?_⟩
    · show wb_X7_readBody_b2 Q _ x1 C
      have ne1 := hA.2.2.2.2.2.2.2.2.1
      have b33 : ¬ (C0 4 k = 2 ∧ C0 6 k ≠ C0 261 1) → w_X7_readBody_b33 Q C := fun w => by
        unfold w_X7_readBody_b33
        refine k_refuse hC (fun C' h' _ => hq C' ?_)
        rcases hf with ⟨q, -⟩ | ⟨-, q1, q2⟩
        · exact absurd q w
        · rw [q1, q2]; exact h'
      unfold wb_X7_readBody_b2
      refine ⟨fun z => by omega, fun _ v2 e2 _ => ?_⟩
      rw [hC.2.1.1] at e2
      refine ⟨fun z => b33 fun q => z (by rw [e2]; exact q.1), fun z v4 e4 _ v5 e5 _ => ?_⟩
      rw [hC.2.1.2.2.1] at e4
      rw [hC.2.2.2.1 1 (by decide) (by decide), ne1] at e5
      rw [e4, e5]
      refine ⟨fun y => ⟨fun w => absurd x4 w, fun _ v23 e23 _ => ?_⟩, fun y => b33 fun q => q.2 y⟩
      rw [hC.2.1.2.1] at e23
      rw [e23]
      refine k_fail hC (fun C' h' _ => hq C' ?_)
      rcases hf with ⟨-, q1, q2⟩ | ⟨q, -⟩
      · rw [q1, q2]; exact h'
      · exact absurd ⟨by rw [← e2]; exact z, y⟩ q
    · show wb_X12_readRule_b166 Q _ r 1 R
      unfold wb_X12_readRule_b166
      refine ⟨fun z => absurd z (by decide), fun _ v2 e2 _ => ⟨fun z => absurd (by rw [e2]; exact hR.2.2.1) z, fun _ => ?_⟩⟩
      refine q_at hT hR hA hN r0 r1 h87 (fun _ _ w => absurd x4 w) (fun w R' k1 => stopF 0 Q R' f pl f0 ?_ (b193F r0 r1 ?_ f0 hq)) (fun w w' _ R' k1 => stopF 0 Q R' f pl f0 ?_ (b193F r0 r1 ?_ f0 hq))
      · rcases hf with ⟨q, -⟩ | ⟨-, q1, q2⟩
        · exact absurd q w
        · rw [q1, q2]; exact k1
      · rcases hf with ⟨q, -⟩ | ⟨-, q1, q2⟩
        · exact absurd q w
        · rw [q1, q2]; exact k1
      · rcases hf with ⟨-, q1, q2⟩ | ⟨q, -⟩
        · rw [q1, q2]; exact k1
        · exact absurd ⟨w, w'⟩ q
      · rcases hf with ⟨-, q1, q2⟩ | ⟨q, -⟩
        · rw [q1, q2]; exact k1
        · exact absurd ⟨w, w'⟩ q
  | succ d ih =>
    intro x1 k A hd x0 hk hA hr hb
    have ne1 := hA.2.2.2.2.2.2.2.2.1
    by_cases hw : C0 4 k = 2 ∧ C0 6 k ≠ C0 261 1
    rotate_left
    · refine Or.inr ⟨if C0 4 k = 1 then 2 else 1, C0 5 k, flt_pos, fun C hC Q hq => ?_, fun R hR h87 Q hq => ?_⟩
      · show wb_X7_readBody_b2 Q _ x1 C
        have b33 : w_X7_readBody_b33 Q C := by unfold w_X7_readBody_b33; exact k_refuse hC (fun C' h' _ => hq C' h')
        unfold wb_X7_readBody_b2
        refine ⟨fun z => by omega, fun _ v2 e2 _ => ⟨fun _ => b33, fun z v4 e4 _ v5 e5 _ => ⟨fun y => ?_, fun _ => b33⟩⟩⟩
        rw [hC.2.1.1] at e2
        rw [hC.2.1.2.2.1] at e4
        rw [hC.2.2.2.1 1 (by decide) (by decide), ne1] at e5
        exact absurd ⟨by rw [← e2]; exact z, by rw [← e4, ← e5]; exact y⟩ hw
      · show wb_X12_readRule_b166 Q _ r 1 R
        unfold wb_X12_readRule_b166
        refine ⟨fun z => absurd z (by decide), fun _ v2 e2 _ => ⟨fun z => absurd (by rw [e2]; exact hR.2.2.1) z, fun _ => ?_⟩⟩
        exact q_at hT hR hA hN r0 r1 h87 (fun a b _ => absurd ⟨a, b⟩ hw) (fun _ R' k1 => stopF (d + 1) Q R' _ _ flt_pos k1 (b193F r0 r1 k1 flt_pos hq)) (fun a b _ => absurd ⟨a, b⟩ hw)
    -- the class and the reference come to the part
    have cls : ∀ C, KC C0 k A C → ∀ (n : Nat) (Q : Int → MM → Prop), w_X7_readPart (fun r11 M12 => (r11 = 0 ∨ r11 = 1) → (¬ r11 = 0 → (∀ v14, v14 = M12 261 3 → ri_ v14 → ri_ (x1 + 1) ∧ (0 ≤ v14 ∧ v14 < 12 ∧ (∀ M16, M16 = ux_ M12 266 v14 (x1 + 1) → (∀ v17, v17 = M16 1 9 → ri_ v17 → (¬ v17 = 10 → w_X7_pass (fun r19 M20 => (r19 = 0 ∨ r19 = 1) → (¬ r19 = 0 → ri_ (x1 + 1) ∧ (jit (fun _ _ => False) (wb_X7_readBody_b2 Q) n (x1 + 1) M20)) ∧ (r19 = 0 → Q 0 M20)) 8 M16) ∧ (v17 = 10 → Q 1 M16)))))) ∧ (r11 = 0 → Q 0 M12)) (4 * r + x1) C → jit (fun _ _ => False) (wb_X7_readBody_b2 Q) (n + 1) x1 C := fun C hC n Q hq => by
      show wb_X7_readBody_b2 Q _ x1 C
      unfold wb_X7_readBody_b2
      refine ⟨fun z => by omega, fun _ v2 e2 _ => ?_⟩
      rw [hC.2.1.1] at e2
      refine ⟨fun z => absurd (by rw [e2]; exact hw.1) z, fun z v4 e4 _ v5 e5 _ => ?_⟩
      rw [hC.2.1.2.2.1] at e4
      rw [hC.2.2.2.1 1 (by decide) (by decide), ne1] at e5
      rw [e4, e5]
      refine ⟨fun _ => ⟨fun _ v8 e8 _ => ?_, fun w => by omega⟩, fun y => absurd y hw.2⟩
      rw [hC.2.2.2.1 3 (by decide) (by decide), hr] at e8
      rw [e8]
      refine ⟨by unfold ri_; omega, by unfold ri_; omega, ?_⟩
      rw [show r * 4 + x1 = 4 * r + x1 from by omega]
      exact hq
    have ref : ∀ R, KRq C0 R0 E k A R → R 87 r = x1 → ∀ (n : Nat) (Q : Int → MM → Prop), w_X12_readAtomOf_b69 (fun _ M5 => w_X12_takesSign (fun r6 M7 => (r6 = 0 ∨ r6 = 1) → jit (fun _ _ _ => False) (wb_X12_readRule_b166 Q) n r r6 M7) 44 M5) r (if C0 6 k = C0 261 2 then 1 else 0) R → jit (fun _ _ _ => False) (wb_X12_readRule_b166 Q) (n + 1) r 1 R := fun R hR h87 n Q hq => by
      show wb_X12_readRule_b166 Q _ r 1 R
      unfold wb_X12_readRule_b166
      refine ⟨fun z => absurd z (by decide), fun _ v2 e2 _ => ⟨fun z => absurd (by rw [e2]; exact hR.2.2.1) z, fun _ => ?_⟩⟩
      exact q_at hT hR hA hN r0 r1 h87 (fun _ _ _ => hq) (fun w => absurd hw w) (fun _ _ w => by omega)
    rcases J_a hT hk hA hN r x1 (4 * r + x1) r0 r1 x0 (by omega) rfl hw.1 hw.2 with ⟨k1, A1, o1, o2, o3, o4, ob, cA, rA⟩ | ⟨f, pl, f0, cA, rA⟩
    rotate_left
    · exact Or.inr ⟨f, pl, f0, fun C hC Q hq => cls C hC _ Q (cA C hC _ (fun C' h' _ => ⟨fun z => absurd rfl z, fun _ => hq C' h'⟩)), fun R hR h87 Q hq => ref R hR h87 _ Q (rA R hR h87 _ (fun R' k1 => stopF (d + 1) Q R' f pl f0 k1 (b193F r0 r1 k1 f0 hq)))⟩
    obtain ⟨A2, eA⟩ : ∃ A2, A2 = ux_ A1 266 r (x1 + 1) := ⟨_, rfl⟩
    have g2 : ∀ q, q ≠ 266 → A2 q = A1 q := fun q hq => by rw [eA, ux_g _ _ _ hq]
    have oA2 : OKA C0 A2 := by rw [eA]; exact OKA_i o2 (by decide) (by decide) _ _
    have r2 : A2 261 3 = r := by rw [g2 261 (by decide), o3.2.2.1]; exact hr
    have ag : AGb A A2 r := ⟨fun q a b => by rw [g2 q (by omega)]; exact o3.1 q a (by omega), fun i hi => by rw [eA, ux_i _ _ _ hi, o3.1 266 (by omega) (by omega)], fun q i a b hi => by rw [g2 q (by omega)]; exact o3.2.1 q i a b (by omega), by rw [r2, hr], by rw [g2 261 (by decide)]; exact o3.2.2.2.1, by rw [g2 261 (by decide)]; exact o3.2.2.2.2.1, fun i a b c => by rw [g2 273 (by decide)]; exact o3.2.2.2.2.2 i a b c⟩
    have n3 := o2.2.2.2.2.2.1
    -- the facts of the parts that stand
    have atm : ∀ R R', (∀ m, 0 ≤ m → m < x1 → ATM A R (4 * r + m)) → ATM A1 R' (4 * r + x1) → FAt R R' (4 * r + x1) r → ∀ m, 0 ≤ m → m < x1 + 1 → ATM A2 R' (4 * r + m) := fun R R' h h' f m m0 m1 => by
      have : ATM A1 R' (4 * r + m) := by
        by_cases w : m = x1
        · rw [w]; exact h'
        · exact ATM_m (h m m0 (by omega)) (by omega) o3 f
      unfold ATM AtK at this ⊢
      rw [g2 267 (by decide), g2 268 (by decide), g2 269 (by decide), g2 270 (by decide), g2 273 (by decide), g2 261 (by decide)]
      exact this
    have fbd : ∀ R R', FAt R R' (4 * r + x1) r → FBd R R' r := fun R R' f => ⟨fun q hq => by
        rcases hq with rfl | rfl | rfl | rfl
        · exact f.2.1 84 (by decide) (by decide)
        · exact f.2.1 85 (by decide) (by decide)
        · exact f.2.1 86 (by decide) (by decide)
        · exact f.2.2.1, f.2.2.2, fun q i a b => f.1 q i a (by omega)⟩
    -- the bits
    have hb2 : HBD A2 r (x1 + 1) := by
      have hb1 := HBD_s hb x0 rfl o3 o4 ob.1 (by have := ob.2.1; omega) ob.2.2.1 (by have := ob.2.2.2.1; omega) ob
      unfold HBD hldB hld BDv at hb1 ⊢
      rw [g2 261 (by decide), g2 267 (by decide), g2 268 (by decide), g2 269 (by decide)]
      exact hb1
    have kr2 : ∀ {R' : MM}, KRq C0 R0 E k1 A1 R' → KRq C0 R0 E k1 A2 R' := fun h => KRq_A h (fun j _ => by rw [g2 261 (by decide)]) (fun p hp => g2 p (by omega))
    -- behind the part, in the class
    have cls2 : ∀ C, KC C0 k A C → ∀ (n : Nat) (Q : Int → MM → Prop), (∀ M16, KC C0 k1 A2 M16 → (¬ C0 4 k1 = 10 → w_X7_pass (fun r19 M20 => (r19 = 0 ∨ r19 = 1) → (¬ r19 = 0 → ri_ (x1 + 1) ∧ (jit (fun _ _ => False) (wb_X7_readBody_b2 Q) n (x1 + 1) M20)) ∧ (r19 = 0 → Q 0 M20)) 8 M16) ∧ (C0 4 k1 = 10 → Q 1 M16)) → jit (fun _ _ => False) (wb_X7_readBody_b2 Q) (n + 1) x1 C := fun C hC n Q hq => by
      refine cls C hC n Q (cA C hC _ (fun C' h' _ => ⟨fun _ v14 e14 _ => ⟨by unfold ri_; omega, ?_⟩, fun z => absurd z (by decide)⟩))
      have z : v14 = r := by rw [e14, h'.2.2.2.1 3 (by decide) (by decide), o3.2.2.1, hr]
      rw [z]
      refine ⟨r0, r1, fun M16 e16 v17 e17 _ => ?_⟩
      have h16 : KC C0 k1 A2 M16 := by rw [e16, eA]; exact KC_u h' (by decide) (by decide) _ _
      rw [h16.2.1.1] at e17
      rw [e17]
      exact hq M16 h16
    have ref2 : ∀ R, KRq C0 R0 E k A R → R 87 r = x1 → ∀ (n : Nat) (Q : Int → MM → Prop), (∀ R5, KRq C0 R0 E k1 A2 R5 → R5 87 r = x1 + 1 → ((∀ m, 0 ≤ m → m < x1 → ATM A R (4 * r + m)) → ∀ m, 0 ≤ m → m < x1 + 1 → ATM A2 R5 (4 * r + m)) → FBd R R5 r → w_X12_takesSign (fun r6 M7 => (r6 = 0 ∨ r6 = 1) → jit (fun _ _ _ => False) (wb_X12_readRule_b166 Q) n r r6 M7) 44 R5) → jit (fun _ _ _ => False) (wb_X12_readRule_b166 Q) (n + 1) r 1 R := fun R hR h87 n Q hq => ref R hR h87 n Q (rA R hR h87 _ (fun R' q1 q2 q3 q4 => hq R' (kr2 q1) q2 (fun h => atm R R' h q3 q4) (fbd R R' q4)))
    by_cases w10 : C0 4 k1 = 10
    · refine Or.inl ⟨k1, A2, x1 + 1, o1, w10, oA2, ag, by omega, by omega, hb2, by rw [eA, ux_s], fun C hC Q hq => cls2 C hC _ Q (fun M16 h16 => ⟨fun z => absurd w10 z, fun _ => hq M16 h16⟩), fun R hR h87 hat Q hq => ref2 R hR h87 (d + 2) Q (fun R5 h5 e5 a5 f5 => q_take hT h5 o1 (x := 4) (by decide) rfl (fun z => by omega) (fun _ _ => ?_))⟩
      show wb_X12_readRule_b166 Q _ r 0 R5
      unfold wb_X12_readRule_b166
      exact ⟨fun _ => hq R5 h5 e5 (a5 hat) f5, fun z => absurd rfl z⟩
    by_cases w8 : C0 4 k1 = 8
    · have k2 := TX_lt hT o1 (by omega)
      rcases ih (x1 + 1) (k1 + 1) A2 (by omega) (by omega) k2 oA2 r2 hb2 with ⟨k', A', n, q1, q2, q3, q4, q5, q6, q7, q8, cI, rI⟩ | ⟨f, pl, f0, cI, rI⟩
      · refine Or.inl ⟨k', A', n, q1, q2, q3, AGb_t ag q4, q5, q6, q7, q8, fun C hC Q hq => cls2 C hC _ Q (fun M16 h16 => ⟨fun _ => k_pass hT.1 h16 o1 (by decide) (fun _ C' h' _ => ⟨fun _ => ⟨by unfold ri_; omega, cI C' h' Q hq⟩, fun z => absurd z (by decide)⟩) (fun z => absurd w8 z), fun z => absurd z w10⟩), fun R hR h87 hat Q hq => ref2 R hR h87 (d + 2) Q (fun R5 h5 e5 a5 f5 => q_take hT h5 o1 (x := 4) (by decide) rfl (fun _ R6 h6 fa _ _ => ?_) (fun z => absurd w8 z))⟩
        have a6 : ∀ m, 0 ≤ m → m < x1 + 1 → ATM A2 R6 (4 * r + m) := fun m m0 m1 => by
          have := a5 hat m m0 m1
          unfold ATM AtK at this ⊢
          rw [fa.1 82 (by decide), fa.1 88 (by decide), fa.1 89 (by decide), fa.1 90 (by decide), fa.1 91 (by decide)]
          exact this
        have f6 : FBd R5 R6 r := ⟨fun q hq => fa.1 q (by omega), fun i _ => by rw [fa.1 87 (by decide)], fun q i hq _ => by rw [fa.1 q (by omega)]⟩
        exact rI R6 h6 (by rw [fa.1 87 (by decide)]; exact e5) a6 Q (fun R' y1 y2 y3 y4 => hq R' y1 y2 y3 (FBd_t f5 (FBd_t f6 y4)))
      · refine Or.inr ⟨f, pl, f0, fun C hC Q hq => cls2 C hC _ Q (fun M16 h16 => ⟨fun _ => k_pass hT.1 h16 o1 (by decide) (fun _ C' h' _ => ⟨fun _ => ⟨by unfold ri_; omega, cI C' h' Q hq⟩, fun z => absurd z (by decide)⟩) (fun z => absurd w8 z), fun z => absurd z w10⟩), fun R hR h87 Q hq => ref2 R hR h87 (d + 2) Q (fun R5 h5 e5 a5 f5 => q_take hT h5 o1 (x := 4) (by decide) rfl (fun _ R6 h6 fa _ _ => rI R6 h6 (by rw [fa.1 87 (by decide)]; exact e5) Q hq) (fun z => absurd w8 z))⟩
    · refine Or.inr ⟨if C0 4 k1 = 1 then 2 else 1, C0 5 k1, flt_pos, fun C hC Q hq => cls2 C hC _ Q (fun M16 h16 => ⟨fun _ => k_pass hT.1 h16 o1 (by decide) (fun z => absurd z w8) (fun _ C' h' _ => ⟨fun z => absurd rfl z, fun _ => hq C' h'⟩), fun z => absurd z w10⟩), fun R hR h87 Q hq => ref2 R hR h87 (d + 2) Q (fun R5 h5 e5 a5 f5 => q_take hT h5 o1 (x := 4) (by decide) rfl (fun z => absurd z w8) (fun _ _ => ?_))⟩
      show wb_X12_readRule_b166 Q _ r 0 R5
      unfold wb_X12_readRule_b166
      refine ⟨fun _ => ?_, fun z => absurd rfl z⟩
      unfold w_X12_readRule_b193
      intro v1 e1 _
      refine ⟨fun z => absurd (by rw [e1]; exact h5.2.2.1) z, fun _ => r_isS h5.2.1.2.2 (x := 6) (by decide) (fun z => absurd z w10) (fun _ _ => ⟨fun _ => ?_, fun z => absurd rfl z⟩) rfl⟩
      unfold w_X12_readRule_b257
      refine q_need hT h5 o1 (x := 6) (by decide) rfl (fun z => absurd z w10) (fun _ R' h' _ v3 e3 _ => ⟨r0, r1, fun M4 e4 v5 e5' _ => ⟨?_, fun M7 e7 => hq M7 ⟨by rw [e7, e4]; exact QFr_0 (QFr_u h'.1 (by decide) (by decide) _ _) _ (by decide), by rw [e7, ux_i _ _ _ (by decide), e4, ux_g _ _ _ (by decide)]; exact h'.2.1, by rw [e7, ux_i _ _ _ (by decide), e4, ux_g _ _ _ (by decide)]; exact h'.2.2.1⟩⟩⟩)
      rw [e4, ux_g _ _ _ (by decide)] at e5'
      have := h'.2.2.2
      unfold ri_; omega
