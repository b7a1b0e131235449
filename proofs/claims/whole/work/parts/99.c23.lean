/-! folds worked out: the value of one thing, the loop -/
theorem EWc_w {tp fo fo' : Int} {M M' : MM} (h : EWc tp fo' M M') (hf : fo ≤ fo') : EWc tp fo M M' := EWc_t (EWc_r tp fo M) h (Int.le_refl _) hf
theorem EWc_Sm {tp f : Int} {M M' : MM} (h : EWc tp f M M') : Sm f M M' := ⟨fun k a b => h.2.2.2.1 k f a (by omega) (Int.le_refl _), fun k i a b _ d => h.2.2.2.2.1 k i a b (by omega), h.2.2.2.2.2 f (Int.le_refl _)⟩
theorem Sm_t {f : Int} {M M1 M2 : MM} (h : Sm f M M1) (h' : Sm f M1 M2) : Sm f M M2 := ⟨fun k a b => by rw [h'.1 k a b, h.1 k a b], fun k i a b d e => by rw [h'.2.1 k i a b d e, h.2.1 k i a b d e], by rw [h'.2.2, h.2.2]⟩
theorem fsT_F {tp fo B : Int} {M M' : MM} (h : fsT (fo + 1) M M') (hS : SI B M) : EWc tp fo M M' ∧ Sm (fo + 1) M M' ∧ SI B M' := by
  have o : ∀ k, k ≠ 219 → k ≠ 227 → k ≠ 228 → M' k = M k := h.1
  refine ⟨⟨fun k hk => o k (by omega) (by omega) (by omega), fun i _ b => h.2.1 i b, fun i _ => ⟨by rw [o 220 (by decide) (by decide) (by decide)], by rw [o 221 (by decide) (by decide) (by decide)]⟩, fun k i a b d => ?_, fun k i a b _ => by rw [o k (by omega) (by omega) (by omega)], fun i _ => by rw [o 231 (by decide) (by decide) (by decide)]⟩, ⟨fun k a b => by rw [o k (by omega) (by omega) (by omega)], fun k i a b _ _ => by rw [o k (by omega) (by omega) (by omega)], by rw [o 231 (by decide) (by decide) (by decide)]⟩, SI_w hS (o 230 (by decide) (by decide) (by decide)) (o 231 (by decide) (by decide) (by decide)) (h.2.1 3 (by decide)) (fun g _ _ hh => by rw [o 223 (by decide) (by decide) (by decide)]; exact hh)⟩
  by_cases e : k = 227
  · rw [e]; exact (h.2.2 i (by omega)).1
  · by_cases e2 : k = 228
    · rw [e2]; exact (h.2.2 i (by omega)).2
    · rw [o k (by omega) e e2]
theorem bd_spec {P : CD} {N : MM} {c pc : Nat} {M0 R0 : MM} {p B s fo it y a b lo hi e1 e2 e3 loB hiB iv kd sz : Int} {sf vr : Int → Int} (hE : EnvQ c pc M0 R0 p B) (a0 : 0 ≤ a) (b5 : b ≤ M0 c 5) (lo0 : 0 ≤ lo) (h480 : hi ≤ 480) (hc : cAg P M0 c a b) (hn : nAg N R0 lo hi) (hu : UsQ P a b M0 R0 pc p) (hv : vOK (M0 pc 0) s sf (fo + 1) it vr iv) (l1 : lo ≤ y) (h1 : y < hi) (lB : lo ≤ loB) (hB : hiB ≤ hi) (ea : a ≤ e2) (eb : e3 < b) (k0 : 44 ≤ kd) (k1 : kd ≤ 49)
    (h : kd = 44 ∧ e3 = e2 ∨ kd ≠ 44 ∧ Sem P N s sf (fo + 1) it (N 69 y) e2 e3 loB hiB) (p1 : P 1 e3 = 38) (p2 : P 2 e3 = fo + 1) (p3 : P 3 e3 = e1) (p4 : P 4 e3 = kd) (f0 : 0 ≤ fo) (f1 : fo < 10) (szp : 1 ≤ sz) (hz : hiB - loB ≤ sz) : ∃ so v cb, 0 ≤ cb ∧ ∀ tot g, (g = 0 ∨ g = 1) → BdC c M0 B s sf fo it vr iv e1 e2 e3 sz kd tot g so v cb ∧ BdR R0 p s it vr iv y sz kd tot g so v cb := by
  have b50 := hE.2.2.2.2.1
  have stp : a ≤ e3 → ∀ {so v tot g : Int} (K : Nat → Int → MM → Prop) (X : MM → Prop), KSq c M0 K X → ∀ (t : Nat) (M : MM) (tp : Int), CB M0 M → SI B M → (kd = 44 ∧ M 219 6 = tp ∨ kd ≠ 44 ∧ M 219 6 = tp + 1 ∧ M 220 tp = so ∧ M 221 tp = v) → 0 ≤ tp → tp < 121 → M 219 3 ≤ 30000 → M 227 (fo + 1) = tot → M 228 (fo + 1) = g → (∀ M', EWc tp fo M M' → Sm (fo + 1) M M' → SI B M' → M' 219 6 = tp → M' 219 3 = M 219 3 → M' 227 (fo + 1) = stT kd tot g so v → M' 228 (fo + 1) = stG kd g so v → K t (if (kd = 48 ∨ kd = 49) ∧ stG kd g so v = 1 then e3 + 1 else e1) M') → K (t + 1) e3 M := by
    intro ae so v tot g K X hK t M tp hC hS h6 t0 t1 hm h227 h228 hq
    refine K_qt (o := 38) hE hK hC hm (by omega) (by omega) (by rw [hc 1 e3 (by omega) (by omega) ae eb]; exact p1) (by decide) ?_
    unfold w_X4_jump
    refine ⟨fun z => absurd z (by decide), fun z => absurd z (by decide), fun z => absurd z (by decide), fun z => absurd z (by decide), fun z => absurd z (by decide), fun _ => ?_, fun z => absurd z (by decide), fun z => absurd rfl z.2.2.2.2.2.1⟩
    refine c_step (tot := tot) (g := g) (so := so) (v := v) (tp := tp) hE hC hc a0 b5 ae eb p2 p4 p3 (by omega) (by omega) k0 k1 h227 h228 h6 t0 t1 (fun M' hF a6 a7 a8 _ _ _ => ?_)
    obtain ⟨g1, g2, g3⟩ := fsT_F (tp := tp) hF hS
    exact hq M' g1 g2 g3 a6 (hF.2.1 3 (by decide)) a7 a8
  rcases h with ⟨w1, w2⟩ | ⟨w1, w3⟩
  · refine ⟨0, 0, 0, by omega, fun tot g g01 => ⟨fun K X hK t M tp m hC hS h6 t0 t1 hm m0 m1 hcv h227 h228 ht hq hx => ?_, fun d R m hd hR hm m0 m1 h103 h101 hvr hit Q K45 x3 i i0 i1 hq hx => ?_⟩⟩
    · obtain ⟨t, rfl⟩ : ∃ t', t = t' + 1 := ⟨t - 1, by omega⟩
      rw [← w2]
      exact stp (by omega) K X hK t M tp hC hS (Or.inl ⟨w1, h6⟩) t0 (by omega) (by omega) h227 h228 (fun M' g1 g2 g3 g4 g5 g6 g7 => hq (by omega) t M' (by omega) g1 g2 g3 g4 (by rw [g5]; omega) g6 g7)
    · have hh := hq (by omega) R (EWr_r _ _) (by omega) h103
      have eT : stT kd tot g 0 0 = w64 (tot + 1) := by unfold stT; rw [if_pos w1]
      have eG : stG kd g 0 0 = g := by unfold stG; rw [if_pos w1]
      rw [eT, eG, if_neg (by omega), if_neg (by omega)] at hh
      unfold w_X12_workFold_b158 w_X12_workFold_b326
      exact ⟨fun z => by omega, fun _ => ⟨by unfold ri_; omega, hh⟩⟩
  · obtain ⟨q1, q2, q3, q4, q5, q6⟩ := w3
    obtain ⟨so, v, c1, hV, hc1, hC1, hR1⟩ := q6 c pc M0 R0 p B vr iv hE (by omega) (by omega) (by omega) (by omega) (fun j i j0 j4 i0 i1 => hc j i j0 j4 (by omega) (by omega)) (nAg_s hn (by omega) (by omega)) ⟨fun i i0 i1 => hu.1 i (by omega) (by omega), fun i i0 i1 => hu.2 i (by omega) (by omega)⟩ hv
    refine ⟨so, v, c1, by omega, fun tot g g01 => ⟨fun K X hK t M tp m hC hS h6 t0 t1 hm m0 m1 hcv h227 h228 ht hq hx => ?_, fun d R m hd hR hm m0 m1 h103 h101 hvr hit Q K45 x3 i i0 i1 hq hx => ?_⟩⟩
    · refine hC1 K X hK t M tp m hC hS h6 t0 (by omega) hm m0 m1 hcv ht (fun hc30 t1' M1 ht1 hF1 hS1 h61 hs1 hv1 hm1 => ?_) hx
      have hC1' := CB_F hC hF1
      obtain ⟨t1', rfl⟩ : ∃ t', t1' = t' + 1 := ⟨t1' - 1, by omega⟩
      exact stp (by omega) K X hK t1' M1 tp hC1' hS1 (Or.inr ⟨w1, h61, hs1, hv1⟩) t0 (by omega) (by omega) (by rw [hF1.2.2.2.1 227 _ (by omega) (by omega) (Int.le_refl _)]; exact h227) (by rw [hF1.2.2.2.1 228 _ (by omega) (by omega) (Int.le_refl _)]; exact h228) (fun M' g1 g2 g3 g4 g5 g6 g7 => hq (by omega) t1' M' (by omega) (EWc_t (EWc_w hF1 (by omega)) g1 (Int.le_refl _) (Int.le_refl _)) (Sm_t (EWc_Sm hF1) g2) g3 g4 (by rw [g5]; exact hm1) g6 g7)
    · unfold w_X12_workFold_b158
      refine ⟨fun _ => ⟨by omega, by omega, fun v2 e2' _ => ?_⟩, fun z => by omega⟩
      rw [RBn hR hn (j := 69) (i := y) (by omega) (by omega) l1 h1] at e2'
      rw [e2']
      refine hR1 d R m (by omega) hR hm m0 m1 h103 h101 hvr hit _ (fun z3 R2 f2 b1 b2 b3 b4 v5 e5 _ => ⟨fun _ v7 e7 _ => ?_, fun q => absurd (by rw [e5]; exact b2) q⟩) (fun z3 R2 f2 b2 b9 v5 e5 _ => ⟨fun q => by omega, fun _ => ?_⟩)
      · have hh := hq z3 R2 f2 b1 b2
        have fin : ∀ s0 : Int, (s0 = if tru so v then 1 else 0) → w_X12_workFold_b215 (gw_ d) Q K45 y (kd - 31) x3 tot g 0 i s0 R2 := fun s0 hs0 => r_st (by omega) k1 i0 i1 b3 b4 hs0 hh
        unfold w_X12_workFold_b214
        refine ⟨fun q => fin 0 ?_, fun q v9 e9 _ => ⟨fun q9 => fin 0 ?_, fun q9 => fin 1 ?_⟩⟩
        · rw [if_neg (fun t => q (by rw [e7, b3]; exact t.1))]
        · rw [if_neg (fun t => q9 (by rw [e9, b4]; exact t.2))]
        · rw [if_pos ⟨by omega, by omega⟩]
      · unfold w_X12_workFold_b326
        exact ⟨by unfold ri_; omega, hx z3 R2 f2 b2⟩
def FoldC (c : Nat) (M0 : MM) (n B s : Int) (sf : Int → Int) (fo it : Int) (vr : Int → Int) (iv e1 e4 sz : Int) (ts : List Int) (tot g so v cost : Int) : Prop :=
  ∀ (K : Nat → Int → MM → Prop) (X : MM → Prop), KSq c M0 K X → ∀ (t : Nat) (M : MM) (tp m : Int), CB M0 M → SI B M → M 219 6 = tp → 0 ≤ tp → tp + sz ≤ 121 → M 219 3 = m → 0 ≤ m → m ≤ 30000 → CV s sf it vr iv M → Gv M0 (fo + 1) n B ts M → M 227 (fo + 1) = tot → M 228 (fo + 1) = g → 4 * (30001 - m) + 3 ≤ t →
  (m + cost ≤ 30000 → ∀ (t' : Nat) (M' : MM), (t : Int) ≤ t' + 4 * cost + 2 → EWc tp fo M M' → SI B M' → M' 219 6 = tp + 1 → M' 220 tp = so → M' 221 tp = v → M' 219 3 = m + cost → K t' e4 M') →
  (30000 < m + cost → ∀ M', CB M0 M' → SI B M' → M' 219 3 = 30001 → X M') → K t e1 M
def FoldR (R0 : MM) (p s it : Int) (vr : Int → Int) (iv y sz kd : Int) (ts : List Int) (tot g so v cost : Int) : Prop :=
  ∀ (d : Nat) (R : MM) (m i : Int), 2 * sz ≤ d → RB0 p R0 R → R 0 98 = m → 0 ≤ m → m ≤ 30000 → R 0 103 = 0 → R 0 101 = s + 1 → (∀ j, 0 ≤ j → j < s → R 72 j = vr j) → (it = 1 → R 0 100 = iv) → 0 ≤ i → i + ts.length ≤ 4000 → R 74 s = i + ts.length → (∀ k : Nat, k < ts.length → R 73 (4400 * s + (i + k)) = ts.getD k 0) → ∀ Q : Int → MM → Prop,
  (m + cost ≤ 30000 → ∀ R', EL s R R' → R' 0 98 = m + cost → R' 0 103 = 0 → R' 0 99 = so → R' 0 102 = v → Q 0 R') → (30000 < m + cost → ∀ R', EL s R R' → R' 0 103 = 1 → R' 0 99 = 4 → Q 0 R') →
  jit (fun _ _ _ _ _ _ _ _ => False) (wb_X12_workFold_b45 (gw_ d) Q) (ts.length + 2) y (kd - 31) s tot g 0 i R
/-- the reference's loop ends: no meter is left, or it is decided, or the set is at its end -/
theorem r_dead {Q : Int → MM → Prop} {R : MM} {d n : Nat} {y s kd tot x6 x7 i g : Int} (k0 : 44 ≤ kd) (k1 : kd ≤ 49) (s0 : 0 ≤ s) (s1 : s ≤ 10) (hd : R 0 103 ≠ 0 ∨ x7 ≠ 0 ∨ R 74 s ≤ i) (h101 : R 0 101 = s + 1) (h6 : kd ≠ 48 → kd ≠ 49 → x6 = g) (h7 : (kd = 48 ∨ kd = 49) → x7 = g) (g01 : g = 0 ∨ g = 1) (hq : R 0 103 = 0 → ∀ R', EL s R R' → R' 0 98 = R 0 98 → R' 0 103 = 0 → R' 0 99 = endS kd g → R' 0 102 = endT kd tot g → Q 0 R') (hx : R 0 103 ≠ 0 → ∀ R', EL s R R' → R' 0 103 = R 0 103 → R' 0 99 = 4 → Q 0 R') : jit (fun _ _ _ _ _ _ _ _ => False) (wb_X12_workFold_b45 (gw_ d) Q) (n + 1) y (kd - 31) s tot x6 x7 i R := by
  have e := r_end (G := gw_ d) (tot := tot) k0 k1 h101 s0 s1 h6 h7 g01 hq hx
  show wb_X12_workFold_b45 (gw_ d) Q _ y (kd - 31) s tot x6 x7 i R
  unfold wb_X12_workFold_b45
  exact ⟨by omega, by omega, fun v1 e1 _ => ⟨fun _ => e, fun z v3 e3 _ => ⟨fun _ => e, fun z3 => ⟨fun _ => e, fun z4 => by omega⟩⟩⟩⟩
