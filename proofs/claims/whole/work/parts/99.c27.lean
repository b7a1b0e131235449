/-! questions worked out: the rows -/
theorem whq_spec {P : CD} {N : MM} {c pc : Nat} {M0 R0 : MM} {p B s f it xw a b lo hi e1 e2 loW hiW iv sz : Int} {sf vr : Int → Int} (hE : EnvQ c pc M0 R0 p B) (a0 : 0 ≤ a) (b5 : b ≤ M0 c 5) (lo0 : 0 ≤ lo) (h480 : hi ≤ 480) (hc : cAg P M0 c a b) (hn : nAg N R0 lo hi) (hu : UsQ P a b M0 R0 pc p) (hv : vOK (M0 pc 0) s sf f it vr iv) (lW : lo ≤ loW) (hW : hiW ≤ hi) (ea : a ≤ e1) (eb : e2 ≤ b) (hz : hiW - loW ≤ sz)
    (h : xw = -1 ∧ e2 = e1 + 1 ∨ 0 ≤ xw ∧ P 1 (e2 - 1) = 37 ∧ P 3 (e2 - 1) = e1 ∧ Sem P N s sf f it xw (e1 + 1) (e2 - 1) loW hiW) : ∃ ps cw, 0 ≤ cw ∧ WhC c M0 B s sf f it vr iv e1 e2 sz ps cw ∧ ((xw = -1 ∧ ps ∧ cw = 0) ∨ (0 ≤ xw ∧ ∃ so v, VV (M0 pc 0) so v ∧ (ps ↔ tru so v) ∧ RRun R0 p s it vr iv xw sz so v cw)) := by
  rcases h with ⟨w1, w2⟩ | ⟨w0, w1, w2, w3⟩
  · refine ⟨True, 0, by omega, fun K X hK t M tp m hC hS h6 t0 t1 hm m0 m1 hcv ht hq hx => ?_, Or.inl ⟨w1, trivial, rfl⟩⟩
    exact hq (by omega) t M (by omega) (EWc_r _ _ _) hS h6 (by omega) (e1 + 1) (fun _ => w2.symm) (fun z => absurd trivial z)
  · obtain ⟨q1, q2, q3, q4, q5, q6⟩ := w3
    obtain ⟨so, v, c1, hV, hc1, hC1, hR1⟩ := q6 c pc M0 R0 p B vr iv hE (by omega) (by omega) (by omega) (by omega) (fun j i j0 j4 i0 i1 => hc j i j0 j4 (by omega) (by omega)) (nAg_s hn (by omega) (by omega)) ⟨fun i i0 i1 => hu.1 i (by omega) (by omega), fun i i0 i1 => hu.2 i (by omega) (by omega)⟩ hv
    have b50 := hE.2.2.2.2.1
    refine ⟨tru so v, c1, by omega, fun K X hK t M tp m hC hS h6 t0 t1 hm m0 m1 hcv ht hq hx => ?_, Or.inr ⟨w0, so, v, hV, Iff.rfl, fun d R m hd => hR1 d R m (by omega)⟩⟩
    refine hC1 K X hK t M tp m hC hS h6 t0 (by omega) hm m0 m1 hcv ht (fun hc30 t1' M1 ht1 hF1 hS1 h61 hs1 hv1 hm1 => ?_) hx
    have hC1' := CB_F hC hF1
    obtain ⟨t1', rfl⟩ : ∃ t', t1' = t' + 1 := ⟨t1' - 1, by omega⟩
    refine K_qt (o := P 1 (e2 - 1)) hE hK hC1' (by omega) (by omega) (by omega) (hc 1 _ (by omega) (by omega) (by omega) (by omega)) (by omega) ?_
    rw [w1]
    unfold w_X4_jump
    refine ⟨fun z => absurd z (by decide), fun z => absurd z (by decide), fun z => absurd z (by decide), fun z => absurd z (by decide), fun _ v26 e26 _ => ⟨by unfold ri_; omega, fun M28 e28 v29 e29 _ => ?_⟩, fun z => absurd z (by decide), fun z => absurd z (by decide), fun z => absurd rfl z.2.2.2.2.1⟩
    rw [show max 0 (v26 - 1) = tp from by omega] at e28
    obtain ⟨g1, g2, g3, g4, g5⟩ := topF (tp := tp) (fo := f) hS1 e28
    rw [g3] at e29
    rw [e29]
    have F28 := EWc_t hF1 g1 (Int.le_refl _) (Int.le_refl _)
    have hC28 := CB_F hC F28
    have go := fun r (hr1 : tru so v → r = e2) (hr2 : ¬ tru so v → r = e1) => hq (by omega) t1' M28 (by omega) F28 g2 g3 (by rw [g4 3 (by decide)]; exact hm1) r hr1 hr2
    refine c_isT (so := so) (v := v) t0 (by omega) (by rw [g5 220 (by decide)]; exact hs1) (by rw [g5 221 (by decide)]; exact hv1) (fun y _ => ⟨fun q => absurd q (by decide), fun _ => ⟨by unfold ri_; omega, fun _ _ => go _ (fun _ => by omega) (fun q => absurd y q)⟩⟩) (fun y _ => ⟨fun _ => ?_, fun q => absurd rfl q⟩)
    obtain ⟨⟨c', u1, u2, hcc⟩, u4⟩ := c_at hE hC28 hc (e := e2 - 1) (by omega) (by omega)
    rw [hcc] at u1 u2
    refine ⟨_, u1, u2, by omega, by omega, fun w ew _ _ _ => ?_⟩
    rw [u4 3 (by omega) (by omega), w2] at ew
    exact go w (fun q => absurd q y) (fun _ => ew)
/-- a row is added -/
def RwP (r t so v : Int) (M M' : MM) : Prop := (∀ k, k ∉ [219, 220, 221, 232, 233, 234] → M' k = M k) ∧ (∀ i, i ≠ 6 → i ≠ 20 → M' 219 i = M 219 i) ∧ M' 219 6 = 0 ∧ M' 219 20 = r + 1 ∧ (∀ k i, 232 ≤ k → k ≤ 234 → i ≠ r → M' k i = M k i) ∧ M' 232 r = t ∧ M' 233 r = so ∧ M' 234 r = v
theorem c_row18 {Q : Int → MM → Prop} {M M1 : MM} {r so v : Int} (h1 : ∀ k, k ∉ [219, 220, 221] → M1 k = M k) (h2 : ∀ i, i ≠ 6 → M1 219 i = M 219 i) (h6 : M1 219 6 = 1) (hr : M 219 20 = r) (r0 : 0 ≤ r) (r1 : r < 4000) (hm : M 219 3 ≤ 30000) (hs : M1 220 0 = so) (hv : M1 221 0 = v) (hq : ∀ M', RwP r (M 226 0) so v M M' → Q 0 M') : w_X4_addRow_b18 Q M1 := by
  unfold w_X4_addRow_b18
  intro w1 e1 _
  refine ⟨by unfold ri_; omega, fun M3 e3 w4 e4 _ => ?_⟩
  rw [show max 0 (w1 - 1) = 0 from by omega] at e3
  have o3 : ∀ k, k ≠ 219 → M3 k = M1 k := fun k hk => by rw [e3, ux_g _ _ _ hk]
  have i3 : ∀ i, i ≠ 6 → M3 219 i = M 219 i := fun i hi => by rw [e3, ux_i _ _ _ hi]; exact h2 i hi
  have z3 : M3 219 6 = 0 := by rw [e3, ux_s]
  rw [i3 20 (by decide), hr] at e4
  refine ⟨fun z => by omega, fun _ w6 e6 _ => ?_⟩
  rw [i3 3 (by decide)] at e6
  refine ⟨fun z => by omega, fun _ w8 e8 _ w9 e9 _ => ?_⟩
  rw [i3 20 (by decide), hr] at e8
  rw [o3 226 (by decide), h1 226 (by decide)] at e9
  rw [e8, e9]
  refine ⟨r0, r1, fun M10 e10 w11 e11 _ w12 e12 _ => ?_⟩
  rw [e10, ux_c _ _ _ _ (by decide), i3 20 (by decide), hr] at e11
  rw [e10, ux_c _ _ _ _ (by decide), z3] at e12
  rw [e11, e12]
  refine ⟨by omega, by omega, fun w13 e13 _ => ⟨r0, r1, fun M14 e14 w15 e15 _ w16 e16 _ => ?_⟩⟩
  rw [e10, ux_c _ _ _ _ (by decide), o3 220 (by decide), hs] at e13
  rw [e13] at e14
  rw [e14, ux_c _ _ _ _ (by decide), e10, ux_c _ _ _ _ (by decide), i3 20 (by decide), hr] at e15
  rw [e14, ux_c _ _ _ _ (by decide), e10, ux_c _ _ _ _ (by decide), z3] at e16
  rw [e15, e16]
  refine ⟨by omega, by omega, fun w17 e17 _ => ⟨r0, r1, fun M18 e18 w19 e19 _ => ?_⟩⟩
  rw [e14, ux_c _ _ _ _ (by decide), e10, ux_c _ _ _ _ (by decide), o3 221 (by decide), hv] at e17
  rw [e17] at e18
  rw [e18, ux_c _ _ _ _ (by decide), e14, ux_c _ _ _ _ (by decide), e10, ux_c _ _ _ _ (by decide), i3 20 (by decide), hr] at e19
  rw [e19]
  refine ⟨by unfold ri_; omega, fun M21 e21 => hq M21 ⟨fun k hk => ?_, fun i a b => ?_, ?_, by rw [e21, ux_s], fun k i a b d => ?_, ?_, ?_, ?_⟩⟩
  · have hk' : k ≠ 219 ∧ k ≠ 220 ∧ k ≠ 221 ∧ k ≠ 232 ∧ k ≠ 233 ∧ k ≠ 234 := by simp at hk; omega
    rw [e21, ux_g _ _ _ hk'.1, e18, ux_g _ _ _ hk'.2.2.2.2.2, e14, ux_g _ _ _ hk'.2.2.2.2.1, e10, ux_g _ _ _ hk'.2.2.2.1, o3 k hk'.1, h1 k (by simp; omega)]
  · rw [e21, ux_i _ _ _ b, e18, ux_c _ _ _ _ (by decide), e14, ux_c _ _ _ _ (by decide), e10, ux_c _ _ _ _ (by decide)]; exact i3 i a
  · rw [e21, ux_i _ _ _ (by decide), e18, ux_c _ _ _ _ (by decide), e14, ux_c _ _ _ _ (by decide), e10, ux_c _ _ _ _ (by decide)]; exact z3
  · have base : M3 k i = M k i := by rw [o3 k (by omega), h1 k (by simp; omega)]
    rw [e21, ux_c _ _ _ _ (by omega), e18]
    by_cases y4 : k = 234
    · rw [y4, ux_i _ _ _ d, e14, ux_c _ _ _ _ (by decide), e10, ux_c _ _ _ _ (by decide), ← y4]; exact base
    · rw [ux_c _ _ _ _ y4, e14]
      by_cases y3 : k = 233
      · rw [y3, ux_i _ _ _ d, e10, ux_c _ _ _ _ (by decide), ← y3]; exact base
      · have y2 : k = 232 := by omega
        rw [ux_c _ _ _ _ y3, e10, y2, ux_i _ _ _ d, ← y2]; exact base
  · rw [e21, ux_c _ _ _ _ (by decide), e18, ux_c _ _ _ _ (by decide), e14, ux_c _ _ _ _ (by decide), e10, ux_s]
  · rw [e21, ux_c _ _ _ _ (by decide), e18, ux_c _ _ _ _ (by decide), e14, ux_s]
  · rw [e21, ux_c _ _ _ _ (by decide), e18, ux_s]
