/-! folds worked out: where, and the value of one thing -/
def WhC (c : Nat) (M0 : MM) (B s : Int) (sf : Int → Int) (f it : Int) (vr : Int → Int) (iv e1 e2 sz : Int) (ps : Prop) (cw : Int) : Prop :=
  ∀ (K : Nat → Int → MM → Prop) (X : MM → Prop), KSq c M0 K X → ∀ (t : Nat) (M : MM) (tp m : Int), CB M0 M → SI B M → M 219 6 = tp → 0 ≤ tp → tp + sz ≤ 121 → M 219 3 = m → 0 ≤ m → m ≤ 30000 → CV s sf it vr iv M → 4 * (30001 - m) ≤ t →
  (m + cw ≤ 30000 → ∀ (t' : Nat) (M' : MM), (t : Int) ≤ t' + 4 * cw + 1 → EWc tp f M M' → SI B M' → M' 219 6 = tp → M' 219 3 = m + cw → ∀ r, (ps → r = e2) → (¬ ps → r = e1) → K t' r M') →
  (30000 < m + cw → ∀ M', CB M0 M' → SI B M' → M' 219 3 = 30001 → X M') → K t (e1 + 1) M
def WhR (R0 : MM) (p s it : Int) (vr : Int → Int) (iv y sz : Int) (ps : Prop) (cw : Int) : Prop :=
  ∀ (d : Nat) (R : MM) (m : Int), 2 * sz ≤ d → RB0 p R0 R → R 0 98 = m → 0 ≤ m → m ≤ 30000 → R 0 103 = 0 → R 0 101 = s → (∀ i, 0 ≤ i → i < s → R 72 i = vr i) → (it = 1 → R 0 100 = iv) → ∀ (Q : Int → MM → Prop) (K45 : Int → Int → Int → Int → Int → Int → Int → MM → Prop) (x2 x3 x4 x6 x7 x8 : Int),
  (m + cw ≤ 30000 → ∀ R', EWr s R R' → R' 0 98 = m + cw → R' 0 103 = 0 → (ps → w_X12_workFold_b158 (gw_ d) Q K45 y x2 x3 x4 x6 x7 x8 R') ∧ (¬ ps → w_X12_workFold_b326 (gw_ d) Q K45 y x2 x3 x4 x6 x7 x8 R')) → (30000 < m + cw → ∀ R', EWr s R R' → R' 0 103 = 1 → w_X12_workFold_b326 (gw_ d) Q K45 y x2 x3 x4 x6 x7 x8 R') →
  (R 68 y = -1 → w_X12_workFold_b121 (gw_ d) Q K45 y x2 x3 x4 x6 x7 x8 R) ∧ (¬ R 68 y = -1 → gw_ d 0 (fun _ M18 => w_X12_workFold_b121 (gw_ d) Q K45 y x2 x3 x4 x6 x7 x8 M18) [R 68 y] R)
theorem wh_spec {P : CD} {N : MM} {c pc : Nat} {M0 R0 : MM} {p B s f it y a b lo hi e1 e2 loW hiW iv sz : Int} {sf vr : Int → Int} (hE : EnvQ c pc M0 R0 p B) (a0 : 0 ≤ a) (b5 : b ≤ M0 c 5) (lo0 : 0 ≤ lo) (h480 : hi ≤ 480) (hc : cAg P M0 c a b) (hn : nAg N R0 lo hi) (hu : UsQ P a b M0 R0 pc p) (hv : vOK (M0 pc 0) s sf f it vr iv) (l1 : lo ≤ y) (h1 : y < hi) (lW : lo ≤ loW) (hW : hiW ≤ hi) (ea : a ≤ e1) (eb : e2 ≤ b) (hz : hiW - loW ≤ sz)
    (h : N 68 y = -1 ∧ e2 = e1 + 1 ∨ 0 ≤ N 68 y ∧ P 1 (e2 - 1) = 37 ∧ P 3 (e2 - 1) = e1 ∧ Sem P N s sf f it (N 68 y) (e1 + 1) (e2 - 1) loW hiW) : ∃ ps cw, 0 ≤ cw ∧ WhC c M0 B s sf f it vr iv e1 e2 sz ps cw ∧ WhR R0 p s it vr iv y sz ps cw := by
  have n68 : ∀ R, RB0 p R0 R → R 68 y = N 68 y := fun R hR => RBn hR hn (j := 68) (i := y) (by omega) (by omega) l1 h1
  rcases h with ⟨w1, w2⟩ | ⟨w0, w1, w2, w3⟩
  · refine ⟨True, 0, by omega, fun K X hK t M tp m hC hS h6 t0 t1 hm m0 m1 hcv ht hq hx => ?_, fun d R m hd hR hm m0 m1 h103 h101 hvr hit Q K45 x2 x3 x4 x6 x7 x8 hq hx => ⟨fun z => ?_, fun z => absurd (by rw [n68 R hR]; exact w1) z⟩⟩
    · exact hq (by omega) t M (by omega) (EWc_r _ _ _) hS h6 (by omega) (e1 + 1) (fun _ => w2.symm) (fun z => absurd trivial z)
    · unfold w_X12_workFold_b121
      exact fun v1 e1 _ => ⟨fun q => absurd (by rw [e1]; exact h103) q, fun _ => ⟨by omega, by omega, fun v3 e3 _ => ⟨fun _ => (hq (by omega) R (EWr_r _ _) (by omega) h103).1 trivial, fun q => absurd (by rw [e3]; exact z) q⟩⟩⟩
  · obtain ⟨q1, q2, q3, q4, q5, q6⟩ := w3
    obtain ⟨so, v, c1, hV, hc1, hC1, hR1⟩ := q6 c pc M0 R0 p B vr iv hE (by omega) (by omega) (by omega) (by omega) (fun j i j0 j4 i0 i1 => hc j i j0 j4 (by omega) (by omega)) (nAg_s hn (by omega) (by omega)) ⟨fun i i0 i1 => hu.1 i (by omega) (by omega), fun i i0 i1 => hu.2 i (by omega) (by omega)⟩ hv
    have b50 := hE.2.2.2.2.1
    refine ⟨tru so v, c1, by omega, fun K X hK t M tp m hC hS h6 t0 t1 hm m0 m1 hcv ht hq hx => ?_, fun d R m hd hR hm m0 m1 h103 h101 hvr hit Q K45 x2 x3 x4 x6 x7 x8 hq hx => ⟨fun z => absurd (by rw [← n68 R hR]; exact z) (show N 68 y ≠ -1 by omega), fun z => ?_⟩⟩
    · refine hC1 K X hK t M tp m hC hS h6 t0 (by omega) hm m0 m1 hcv ht (fun hc30 t1' M1 ht1 hF1 hS1 h61 hs1 hv1 hm1 => ?_) hx
      have hC1' := CB_F hC hF1
      obtain ⟨t1', rfl⟩ : ∃ t', t1' = t' + 1 := ⟨t1' - 1, by omega⟩
      refine K_qt (o := P 1 (e2 - 1)) hE hK hC1' (by omega) (by omega) (by omega) (hc 1 _ (by omega) (by omega) (by omega) (by omega)) (by omega) ?_
      rw [w1]
      unfold w_X4_jump
      refine ⟨fun z => absurd z (by decide), fun z => absurd z (by decide), fun z => absurd z (by decide), fun z => absurd z (by decide), fun _ v26 e26 _ => ⟨by unfold ri_; omega, fun M28 e28 v29 e29 _ => ?_⟩, fun z => absurd z (by decide), fun z => absurd z (by decide), fun z => absurd rfl z.2.2.2.2.1⟩
      rw [show max 0 (v26 - 1) = tp from by omega] at e28
      obtain ⟨g1, g2, g3, g4, g5⟩ := topF (tp := tp) (fo := f) hS1 e28
      rw [g3] at e29
      rw [e29]
      have F28 := EWc_t hF1 g1 (Int.le_refl _) (Int.le_refl _)
      have hC28 := CB_F hC F28
      have go := fun r (hr1 : tru so v → r = e2) (hr2 : ¬ tru so v → r = e1) => hq (by omega) t1' M28 (by omega) F28 g2 g3 (by rw [g4 3 (by decide)]; exact hm1) r hr1 hr2
      refine c_isT (so := so) (v := v) t0 (by omega) (by rw [g5 220 (by decide)]; exact hs1) (by rw [g5 221 (by decide)]; exact hv1) (fun y _ => ⟨fun q => absurd q (by decide), fun _ => ⟨by unfold ri_; omega, fun _ _ => go _ (fun _ => by omega) (fun q => absurd y q)⟩⟩) (fun y _ => ⟨fun _ => ?_, fun q => absurd rfl q⟩)
      obtain ⟨⟨c', u1, u2, hcc⟩, u4⟩ := c_at hE hC28 hc (e := e2 - 1) (by omega) (by omega)
      rw [hcc] at u1 u2
      refine ⟨_, u1, u2, by omega, by omega, fun w ew _ _ _ => ?_⟩
      rw [u4 3 (by omega) (by omega), w2] at ew
      exact go w (fun q => absurd q y) (fun _ => ew)
    · rw [n68 R hR]
      refine hR1 d R m (by omega) hR hm m0 m1 h103 h101 hvr hit _ (fun z3 R2 f2 b1 b2 b3 b4 => ?_) (fun z3 R2 f2 b2 b9 => ?_)
      · obtain ⟨k1, k2⟩ := hq z3 R2 f2 b1 b2
        have hRB2 := RB0_F hR f2
        unfold w_X12_workFold_b121
        refine fun v1 e1 _ => ⟨fun q => absurd (by rw [e1]; exact b2) q, fun _ => ⟨by omega, by omega, fun v3 e3 _ => ⟨fun q => ?_, fun q v5 e5 _ => ⟨fun q5 => k2 (fun t => q5 (by rw [e5, b3]; exact t.1)), fun q5 v7 e7 _ => ⟨fun q7 => k1 ⟨by omega, ?_⟩, fun q7 => k2 (fun t => ?_)⟩⟩⟩⟩⟩
        · rw [n68 R2 hRB2] at e3; omega
        · rw [b4] at e7
          rw [b3] at e5
          rcases hV with h | ⟨-, h⟩ | ⟨h, -⟩ | ⟨h, -⟩ | ⟨h, -⟩ <;> omega
        · rw [b4] at e7
          have := t.2
          omega
      · unfold w_X12_workFold_b121
        exact fun v1 e1 _ => ⟨fun _ => hx z3 R2 f2 b2, fun q => by omega⟩
def BdC (c : Nat) (M0 : MM) (B s : Int) (sf : Int → Int) (fo it : Int) (vr : Int → Int) (iv e1 e2 e3 sz kd tot g so v cb : Int) : Prop :=
  ∀ (K : Nat → Int → MM → Prop) (X : MM → Prop), KSq c M0 K X → ∀ (t : Nat) (M : MM) (tp m : Int), CB M0 M → SI B M → M 219 6 = tp → 0 ≤ tp → tp + sz ≤ 121 → M 219 3 = m → 0 ≤ m → m ≤ 30000 → CV s sf it vr iv M → M 227 (fo + 1) = tot → M 228 (fo + 1) = g → 4 * (30001 - m) ≤ t →
  (m + cb ≤ 30000 → ∀ (t' : Nat) (M' : MM), (t : Int) ≤ t' + 4 * cb + 1 → EWc tp fo M M' → Sm (fo + 1) M M' → SI B M' → M' 219 6 = tp → M' 219 3 = m + cb → M' 227 (fo + 1) = stT kd tot g so v → M' 228 (fo + 1) = stG kd g so v → K t' (if (kd = 48 ∨ kd = 49) ∧ stG kd g so v = 1 then e3 + 1 else e1) M') →
  (30000 < m + cb → ∀ M', CB M0 M' → SI B M' → M' 219 3 = 30001 → X M') → K t e2 M
def BdR (R0 : MM) (p s it : Int) (vr : Int → Int) (iv y sz kd tot g so v cb : Int) : Prop :=
  ∀ (d : Nat) (R : MM) (m : Int), 2 * sz ≤ d → RB0 p R0 R → R 0 98 = m → 0 ≤ m → m ≤ 30000 → R 0 103 = 0 → R 0 101 = s → (∀ i, 0 ≤ i → i < s → R 72 i = vr i) → (it = 1 → R 0 100 = iv) → ∀ (Q : Int → MM → Prop) (K45 : Int → Int → Int → Int → Int → Int → Int → MM → Prop) (x3 i : Int), 0 ≤ i → i ≤ 5000 →
  (m + cb ≤ 30000 → ∀ R', EWr s R R' → R' 0 98 = m + cb → R' 0 103 = 0 → K45 y (kd - 31) x3 (stT kd tot g so v) (if kd = 48 ∨ kd = 49 then g else stG kd g so v) (if kd = 48 ∨ kd = 49 then stG kd g so v else 0) (i + 1) R') → (30000 < m + cb → ∀ R', EWr s R R' → R' 0 103 = 1 → K45 y (kd - 31) x3 tot g 0 (i + 1) R') →
  w_X12_workFold_b158 (gw_ d) Q K45 y (kd - 31) x3 tot g 0 i R
