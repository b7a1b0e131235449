/-! folds worked out: the loop on both sides -/
def vrx (vr : Int → Int) (s t : Int) : Int → Int := fun i => if i = s then t else vr i
theorem FN_E {fo tp : Int} {M M' : MM} (h : FN (fo + 1) M M') : EWc tp fo M M' := ⟨fun k hk => h.1 k (by simp; omega), fun i _ _ => by rw [h.1 219 (by decide)], fun i _ => ⟨by rw [h.1 220 (by decide)], by rw [h.1 221 (by decide)]⟩, fun k i a b d => by
    by_cases e : 223 ≤ k ∧ k ≤ 225
    · exact h.2.1 k i e.1 e.2 (by omega)
    · rw [h.1 k (by simp; omega)], fun k i a b d => h.2.2.1 k i a b (Or.inl (by omega)), fun i _ => by rw [h.1 231 (by decide)]⟩
/-- a thing is given: the meter goes on, the thing is the frame's -/
theorem gvn_F {fo tp B t : Int} {M M5 : MM} (hS : SI B M) (e5 : M5 = ux_ (ux_ M 219 3 (M 219 3 + 1)) 226 (fo + 1) t) : EWc tp fo M M5 ∧ Sm (fo + 1) M M5 ∧ SI B M5 ∧ M5 219 3 = M 219 3 + 1 ∧ M5 219 6 = M 219 6 ∧ M5 226 (fo + 1) = t ∧ M5 227 = M 227 ∧ M5 228 = M 228 := by
  have o : ∀ k, k ≠ 219 → k ≠ 226 → M5 k = M k := fun k a b => by rw [e5, ux_g _ _ _ b, ux_g _ _ _ a]
  have i9 : ∀ i, i ≠ 3 → M5 219 i = M 219 i := fun i hi => by rw [e5, ux_c _ _ _ _ (by decide), ux_i _ _ _ hi]
  have m5 : M5 219 3 = M 219 3 + 1 := by rw [e5, ux_c _ _ _ _ (by decide), ux_s]
  refine ⟨⟨fun k hk => o k (by omega) (by omega), fun i a _ => i9 i a, fun i _ => ⟨by rw [o 220 (by decide) (by decide)], by rw [o 221 (by decide) (by decide)]⟩, fun k i a b d => ?_, fun k i a b _ => by rw [o k (by omega) (by omega)], fun i _ => by rw [o 231 (by decide) (by decide)]⟩, ⟨fun k a b => by rw [o k (by omega) (by omega)], fun k i a b _ _ => by rw [o k (by omega) (by omega)], by rw [o 231 (by decide) (by decide)]⟩, fun f f0 f1 => ?_, m5, i9 6 (by decide), by rw [e5, ux_s], o 227 (by decide) (by decide), o 228 (by decide) (by decide)⟩
  · by_cases e : k = 226
    · rw [e, e5, ux_i _ _ _ (by omega), ux_c _ _ _ _ (by decide)]
    · rw [o k (by omega) e]
  · obtain ⟨s1, s2, s3, s4⟩ := hS f f0 f1
    rw [o 231 (by decide) (by decide), o 230 (by decide) (by decide), o 223 (by decide) (by decide), m5]
    exact ⟨s1, by omega, s3, s4⟩
set_option maxHeartbeats 1000000 in
theorem fold_spec {P : CD} {N : MM} {c pc : Nat} {M0 R0 : MM} {p B s fo it y a b lo hi e1 e2 e3 loW hiW loB hiB iv kd sz : Int} {sf vr : Int → Int} (hE : EnvQ c pc M0 R0 p B) (a0 : 0 ≤ a) (b5 : b ≤ M0 c 5) (lo0 : 0 ≤ lo) (h480 : hi ≤ 480) (hc : cAg P M0 c a b) (hn : nAg N R0 lo hi) (hu : UsQ P a b M0 R0 pc p) (hv : vOK (M0 pc 0) s sf fo it vr iv) (s1 : s ≤ fo) (f1 : fo < 10) (l1 : lo ≤ y) (h1 : y < hi) (lW : lo ≤ loW) (hW : hiW ≤ hi) (lB : lo ≤ loB) (hB : hiB ≤ hi) (ea : a ≤ e1) (eb : e3 + 2 ≤ b) (k0 : 44 ≤ kd) (k1 : kd ≤ 49) (e12 : e1 < e2) (e23 : e2 ≤ e3) (szp : 1 ≤ sz) (szW : hiW - loW ≤ sz) (szB : hiB - loB ≤ sz)
    (pn : P 1 e1 = 36 ∧ P 2 e1 = fo + 1 ∧ P 3 e1 = e3 + 1)
    (hwh : N 68 y = -1 ∧ e2 = e1 + 1 ∨ 0 ≤ N 68 y ∧ P 1 (e2 - 1) = 37 ∧ P 3 (e2 - 1) = e1 ∧ Sem P N (s + 1) (scn sf s (fo + 1)) (fo + 1) it (N 68 y) (e1 + 1) (e2 - 1) loW hiW)
    (hbd : kd = 44 ∧ e3 = e2 ∨ kd ≠ 44 ∧ Sem P N (s + 1) (scn sf s (fo + 1)) (fo + 1) it (N 69 y) e2 e3 loB hiB)
    (ps : P 1 e3 = 38 ∧ P 2 e3 = fo + 1 ∧ P 3 e3 = e1 ∧ P 4 e3 = kd) (pf : P 1 (e3 + 1) = 39 ∧ P 2 (e3 + 1) = fo + 1 ∧ P 4 (e3 + 1) = kd) : ∀ (ts : List Int), (∀ t ∈ ts, 0 ≤ t ∧ t < M0 pc 0) → ∀ tot g, (g = 0 ∨ g = 1) → ((kd = 48 ∨ kd = 49) → g = 0) →
    ∃ so v cost, VV (M0 pc 0) so v ∧ 0 ≤ cost ∧ FoldC c M0 (M0 pc 0) B s sf fo it vr iv e1 (e3 + 2) sz ts tot g so v cost ∧ FoldR R0 p s it vr iv y sz kd ts tot g so v cost := by
  have s0 := hv.1
  have f0 := hv.2.2.1
  have b50 := hE.2.2.2.2.1
  have fin : ∀ {tot g : Int} (K : Nat → Int → MM → Prop) (X : MM → Prop), KSq c M0 K X → ∀ (t : Nat) (M : MM) (tp : Int), CB M0 M → SI B M → M 219 6 = tp → 0 ≤ tp → tp < 121 → M 219 3 ≤ 30000 → M 227 (fo + 1) = tot → M 228 (fo + 1) = g → (g = 0 ∨ g = 1) → (∀ M', EWc tp fo M M' → SI B M' → M' 219 6 = tp + 1 → M' 220 tp = endS kd g → M' 221 tp = endT kd tot g → M' 219 3 = M 219 3 → K t (e3 + 2) M') → K (t + 1) (e3 + 1) M := by
    intro tot g K X hK t M tp hC hS h6 t0 t1 hm h227 h228 g01 hq
    refine K_qt (o := 39) hE hK hC hm (by omega) (by omega) (by rw [hc 1 _ (by omega) (by omega) (by omega) (by omega)]; exact pf.1) (by decide) ?_
    unfold w_X4_jump
    refine ⟨fun z => absurd z (by decide), fun z => absurd z (by decide), fun z => absurd z (by decide), fun z => absurd z (by decide), fun z => absurd z (by decide), fun z => absurd z (by decide), fun _ => ?_, fun z => absurd rfl z.2.2.2.2.2.2⟩
    refine c_finish (tot := tot) (g := g) (tp := tp) hE hC hc a0 b5 (by omega) (by omega) pf.2.1 pf.2.2 (by omega) (by omega) k0 k1 h227 h228 g01 h6 t0 t1 (fun M' hM => ⟨by unfold ri_; omega, fun _ _ => ?_⟩)
    obtain ⟨g1, g2, g3, g4, g5, g6⟩ := Psh_F (fo := fo) hM hS
    rw [show e3 + 1 + 1 = e3 + 2 from by omega]
    exact hq M' g1 g2 g3 g4 g5 g6
  have nxg : ∀ (K : Nat → Int → MM → Prop) (X : MM → Prop), KSq c M0 K X → ∀ (t : Nat) (M : MM), CB M0 M → M 219 3 ≤ 30000 → (∀ Q : Int → MM → Prop, (∀ r M6, CB M0 M6 → M6 219 3 = M 219 3 → (r ≠ -1 → 0 ≤ M 219 3 → ∀ M5, M5 = ux_ (ux_ M6 219 3 (M6 219 3 + 1)) 226 (fo + 1) r → K t (e1 + 1) M5) → (r = -1 → K t (e3 + 1) M6) → Q r M6) → nxt Q (fo + 1) M) → 0 ≤ M 219 3 → K (t + 1) e1 M := by
    intro K X hK t M hC hm hg hm0
    refine K_qt (o := 36) hE hK hC hm (by omega) (by omega) (by rw [hc 1 _ (by omega) (by omega) (by omega) (by omega)]; exact pn.1) (by decide) ?_
    unfold w_X4_jump
    refine ⟨fun z => absurd z (by decide), fun z => absurd z (by decide), fun z => absurd z (by decide), fun _ => ?_, fun z => absurd z (by decide), fun z => absurd z (by decide), fun z => absurd z (by decide), fun z => absurd rfl z.2.2.2.1⟩
    obtain ⟨⟨c', u1, u2, hcc⟩, u4⟩ := c_at hE hC hc (e := e1) (by omega) (by omega)
    rw [hcc] at u1 u2
    unfold w_X4_giveNext
    refine ⟨_, u1, u2, by omega, by omega, fun v2 e2' _ => ?_⟩
    rw [u4 2 (by omega) (by omega), pn.2.1] at e2'
    rw [e2']
    refine ⟨by omega, by omega, fun v3 e3' _ => ?_⟩
    rw [e3']
    refine hg _ (fun r M6 hC6 hm6 hr1 hr2 _ => ?_)
    unfold w_X4_giveNext_b34
    refine ⟨fun z v2 ev2 _ => ⟨by unfold ri_; omega, fun M4 e4 => ⟨by omega, by omega, fun M5 e5 => ⟨by unfold ri_; omega, fun _ _ _ => hr1 z hm0 M5 (by rw [e5, e4, ev2])⟩⟩⟩, fun z => ?_⟩
    obtain ⟨⟨c'', w1, w2, hcc'⟩, w4⟩ := c_at hE hC6 hc (e := e1) (by omega) (by omega)
    rw [hcc'] at w1 w2
    refine ⟨_, w1, w2, by omega, by omega, fun v8 e8 _ _ _ _ => ?_⟩
    rw [w4 3 (by omega) (by omega), pn.2.2] at e8
    rw [e8]; exact hr2 z
  intro ts
  induction ts with
  | nil =>
    intro hts tot g g01 g48
    refine ⟨endS kd g, endT kd tot g, 0, end_VV g01, by omega, fun K X hK t M tp m hC hS h6 t0 t1 hm m0 m1 hcv hG h227 h228 ht hq hx => ?_, fun d R m i hd hR hm m0 m1 h103 h101 hvr hit i0 i1 h74 h73 Q hq hx => ?_⟩
    · obtain ⟨t, rfl⟩ : ∃ t', t = t' + 1 := ⟨t - 1, by omega⟩
      obtain ⟨t, rfl⟩ : ∃ t', t = t' + 1 := ⟨t - 1, by omega⟩
      refine nxg K X hK (t + 1) M hC (by omega) (fun Q hQ => hG M hC hS (Sm_r _ _) Q (fun M' hF => hQ _ M' (FN_CB hF hC) (by rw [hF.1 219 (by decide)]) (fun z => absurd rfl z) (fun _ => ?_))) (by omega)
      have o9 : M' 219 = M 219 := hF.1 219 (by decide)
      have FE := FN_E (tp := tp) hF
      refine fin K X hK t M' tp (FN_CB hF hC) (hF.2.2.2 B hS) (by rw [o9]; exact h6) t0 (by omega) (by rw [o9]; omega) (by rw [hF.1 227 (by decide)]; exact h227) (by rw [hF.1 228 (by decide)]; exact h228) g01 (fun M2 a1 a2 a3 a4 a5 a6 => hq (by omega) t M2 (by omega) (EWc_t FE a1 (Int.le_refl _) (Int.le_refl _)) a2 a3 a4 a5 (by rw [a6, o9]; omega))
    · refine r_dead (n := 1) (g := g) k0 k1 s0 (by omega) (Or.inr (Or.inr (by rw [h74]; simp))) h101 (fun _ _ => rfl) (fun z => (g48 z).symm) g01 (fun _ R' a1 a2 a3 a4 a5 => hq (by omega) R' a1 (by rw [a2]; omega) a3 a4 a5) (fun z => absurd h103 z)
  | cons tt ts ih =>
    intro hts tot g g01 g48
    have ht := hts tt List.mem_cons_self
    have hts' : ∀ t ∈ ts, 0 ≤ t ∧ t < M0 pc 0 := fun t h => hts t (List.mem_cons_of_mem _ h)
    have hv' : vOK (M0 pc 0) (s + 1) (scn sf s (fo + 1)) (fo + 1) it (vrx vr s tt) iv := by
      refine ⟨by omega, by omega, by omega, by omega, fun i i0 i1 => ?_, hv.2.2.2.2.2⟩
      unfold scn vrx
      by_cases e : i = s
      · rw [if_pos e, if_pos e]; omega
      · rw [if_neg e, if_neg e]
        have := hv.2.2.2.2.1 i i0 (by omega)
        omega
    obtain ⟨pq, cw, cw0, hwC, hwR⟩ := wh_spec hE a0 b5 lo0 h480 hc hn hu hv' l1 h1 lW hW ea (by omega) szW hwh
    obtain ⟨sob, vb, cb, cb0, hbS⟩ := bd_spec (e1 := e1) hE a0 b5 lo0 h480 hc hn hu hv' l1 h1 lB hB (by omega) (by omega) k0 k1 hbd ps.1 ps.2.1 ps.2.2.1 ps.2.2.2 f0 f1 szp szB
    obtain ⟨hbC, hbR⟩ := hbS tot g g01
    have g01' := stG_01 (kd := kd) (so := sob) (v := vb) g01
    -- what remains behind this thing
    have rest : ∃ so v cost, VV (M0 pc 0) so v ∧ 0 ≤ cost ∧
        (¬ pq → FoldC c M0 (M0 pc 0) B s sf fo it vr iv e1 (e3 + 2) sz ts tot g so v cost ∧ FoldR R0 p s it vr iv y sz kd ts tot g so v cost) ∧
        (pq → cb ≤ cost ∧ ((kd = 48 ∨ kd = 49) ∧ stG kd g sob vb = 1 → so = endS kd 1 ∧ v = endT kd tot 1 ∧ cost = cb) ∧
          (¬ ((kd = 48 ∨ kd = 49) ∧ stG kd g sob vb = 1) → FoldC c M0 (M0 pc 0) B s sf fo it vr iv e1 (e3 + 2) sz ts (stT kd tot g sob vb) (stG kd g sob vb) so v (cost - cb) ∧ FoldR R0 p s it vr iv y sz kd ts (stT kd tot g sob vb) (stG kd g sob vb) so v (cost - cb))) := by
      by_cases hp : pq
      · by_cases hd : (kd = 48 ∨ kd = 49) ∧ stG kd g sob vb = 1
        · exact ⟨endS kd 1, endT kd tot 1, cb, end_VV (Or.inr rfl), cb0, fun z => absurd hp z, fun _ => ⟨by omega, fun _ => ⟨rfl, rfl, rfl⟩, fun z => absurd hd z⟩⟩
        · obtain ⟨so, v, co, x1, x2, x3, x4⟩ := ih hts' (stT kd tot g sob vb) (stG kd g sob vb) g01' (fun z => by
            rcases g01' with q | q
            · exact q
            · exact absurd ⟨z, q⟩ hd)
          exact ⟨so, v, co + cb, x1, by omega, fun z => absurd hp z, fun _ => ⟨by omega, fun z => absurd z hd, fun _ => by rw [show co + cb - cb = co from by omega]; exact ⟨x3, x4⟩⟩⟩
      · obtain ⟨so, v, co, x1, x2, x3, x4⟩ := ih hts' tot g g01 g48
        exact ⟨so, v, co, x1, x2, fun _ => ⟨x3, x4⟩, fun z => absurd z hp⟩
    obtain ⟨so, v, co, hVV, co0, hno, hyes⟩ := rest
    refine ⟨so, v, 1 + cw + co, hVV, by omega, fun K X hK t M tp m hC hS h6 t0 t1 hm m0 m1 hcv hG h227 h228 htm hq hx => ?_, fun d R m i hd hR hm m0 m1 h103 h101 hvr hit i0 i1 h74 h73 Q hq hx => ?_⟩
    · obtain ⟨t, rfl⟩ : ∃ t', t = t' + 1 := ⟨t - 1, by omega⟩
      refine nxg K X hK t M hC (by omega) (fun Q hQ => hG.2.2 M hC hS (Sm_r _ _) Q (fun M' hF hG' => hQ _ M' (FN_CB hF hC) (by rw [hF.1 219 (by decide)]) (fun _ _ M5 e5 => ?_) (fun z => by omega))) (by omega)
      have o9 : M' 219 = M 219 := hF.1 219 (by decide)
      have S' := hF.2.2.2 B hS
      have FE := FN_E (tp := tp) hF
      obtain ⟨a1, a2, a3, a4, a5, a6, a7, a8⟩ := gvn_F (tp := tp) S' e5
      have F5 := EWc_t FE a1 (Int.le_refl _) (Int.le_refl _)
      have C5 := CB_F hC F5
      have m5 : M5 219 3 = m + 1 := by rw [a4, o9, hm]
      by_cases mz : 30000 < m + 1
      · exact hK.2 t (e1 + 1) M5 C5 (by omega) (hx (by omega) M5 C5 a3 (by omega))
      have hcv5 : CV (s + 1) (scn sf s (fo + 1)) it (vrx vr s tt) iv M5 := by
        refine ⟨fun i i0 i1 => ?_, fun z => ?_⟩
        · unfold scn vrx
          by_cases e : i = s
          · rw [if_pos e, if_pos e]; exact a6
          · rw [if_neg e, if_neg e, F5.2.2.2.1 226 _ (by omega) (by omega) (hv.2.2.2.2.1 i i0 (by omega)).2.1]
            exact hcv.1 i i0 (by omega)
        · rw [F5.2.2.2.1 226 0 (by omega) (by omega) f0]; exact hcv.2 z
      have G5 := Gv_Sm hG' a2
      refine hwC K X hK t M5 tp (m + 1) C5 a3 (by rw [a5, o9]; exact h6) t0 t1 m5 (by omega) (by omega) hcv5 (by omega) (fun zc t6 M6 ht6 F6 S6 h66 h63 r hr1 hr2 => ?_) (fun zc => hx (by omega))
      have C6 := CB_F C5 F6
      have F56 := EWc_t F5 (EWc_w (fo := fo) F6 (by omega)) (Int.le_refl _) (Int.le_refl _)
      have G6 := Gv_Sm G5 (EWc_Sm F6)
      have t27 : M6 227 (fo + 1) = tot := by rw [F6.2.2.2.1 227 _ (by omega) (by omega) (Int.le_refl _), a7, hF.1 227 (by decide)]; exact h227
      have t28 : M6 228 (fo + 1) = g := by rw [F6.2.2.2.1 228 _ (by omega) (by omega) (Int.le_refl _), a8, hF.1 228 (by decide)]; exact h228
      by_cases hp : pq
      · rw [hr1 hp]
        obtain ⟨y1, y2, y3⟩ := hyes hp
        have hcv6 : CV (s + 1) (scn sf s (fo + 1)) it (vrx vr s tt) iv M6 := CV_F hcv5 hv' F6
        refine hbC K X hK t6 M6 tp (m + 1 + cw) C6 S6 h66 t0 t1 h63 (by omega) (by omega) hcv6 t27 t28 (by omega) (fun zb t7 M7 ht7 F7 Sm7 S7 h67 h37 k27 k28 => ?_) (fun zb => hx (by omega))
        have F57 := EWc_t F56 F7 (Int.le_refl _) (Int.le_refl _)
        by_cases hdd : (kd = 48 ∨ kd = 49) ∧ stG kd g sob vb = 1
        · rw [if_pos hdd]
          obtain ⟨z1, z2, z3⟩ := y2 hdd
          obtain ⟨t7, rfl⟩ : ∃ t', t7 = t' + 1 := ⟨t7 - 1, by omega⟩
          have eT : stT kd tot g sob vb = tot := by unfold stT; rw [if_neg (by omega), if_pos hdd.1]
          refine fin (tot := tot) (g := 1) K X hK t7 M7 tp (CB_F hC F57) S7 h67 t0 (by omega) (by omega) (by rw [k27]; exact eT) (by rw [k28]; exact hdd.2) (Or.inr rfl) (fun M8 b1 b2 b3 b4 b5' b6 => hq (by omega) t7 M8 (by omega) (EWc_t F57 b1 (Int.le_refl _) (Int.le_refl _)) b2 b3 (by rw [b4]; exact z1.symm) (by rw [b5']; exact z2.symm) (by rw [b6, h37]; omega))
        · rw [if_neg hdd]
          obtain ⟨x3, -⟩ := y3 hdd
          refine x3 K X hK t7 M7 tp (m + 1 + cw + cb) (CB_F hC F57) S7 h67 t0 t1 h37 (by omega) zb (CV_F hcv hv F57) (Gv_Sm G6 Sm7) k27 k28 (by omega) (fun zr t8 M8 ht8 F8 S8 b1 b2 b3 b4 => hq (by omega) t8 M8 (by omega) (EWc_t F57 F8 (Int.le_refl _) (Int.le_refl _)) S8 b1 b2 b3 (by rw [b4]; omega)) (fun zr => hx (by omega))
      · rw [hr2 hp]
        obtain ⟨x3, -⟩ := hno hp
        refine x3 K X hK t6 M6 tp (m + 1 + cw) (CB_F hC F56) S6 h66 t0 t1 h63 (by omega) zc (CV_F hcv hv F56) G6 t27 t28 (by omega) (fun zr t8 M8 ht8 F8 S8 b1 b2 b3 b4 => hq (by omega) t8 M8 (by omega) (EWc_t F56 F8 (Int.le_refl _) (Int.le_refl _)) S8 b1 b2 b3 (by rw [b4]; omega)) (fun zr => hx (by omega))
    · have h74' : R 74 s = i + 1 + ts.length := by rw [h74, List.length_cons]; omega
      rw [List.length_cons] at i1
      have dead : ∀ (x4 x6 : Int) R', RB0 p R0 R' → (∀ R2, EL s R' R2 → EL s R R2) → R' 0 101 = s + 1 → R' 0 103 = 1 → 30000 < m + (1 + cw + co) → jit (fun _ _ _ _ _ _ _ _ => False) (wb_X12_workFold_b45 (gw_ d) Q) (ts.length + 2) y (kd - 31) s x4 g 0 (i + 1) R' := fun x4 x6 R' hR' hEL h101' h103' hms => by
        refine r_dead (n := ts.length + 1) (g := g) k0 k1 s0 (by omega) (Or.inl (by omega)) h101' (fun _ _ => rfl) (fun z => (g48 z).symm) g01 (fun z => by omega) (fun _ R2 a1 a2 a3 => hx hms R2 (hEL R2 a1) (by rw [a2]; exact h103') a3)
      show wb_X12_workFold_b45 (gw_ d) Q _ y (kd - 31) s tot g 0 i R
      unfold wb_X12_workFold_b45
      refine ⟨by omega, by omega, fun v1 ev1 _ => ⟨fun z => by omega, fun _ v3 ev3 _ => ⟨fun z => absurd (by rw [ev3]; exact h103) z, fun _ => ⟨fun z => absurd rfl z, fun _ => r_stp (R0 := R0) (p := p) hm m0 m1 (fun mz v8 ev8 _ => ?_) (fun mz v8 ev8 _ => ?_)⟩⟩⟩⟩
      · obtain ⟨R1, er1⟩ : ∃ R1, R1 = ux_ R 0 98 (m + 1) := ⟨_, rfl⟩
        rw [← er1] at ev8 ⊢
        have FR1 : EWr (s + 1) R R1 := by rw [er1]; exact EWr_u (EWr_r _ _) _ (by decide)
        have h1031 : R1 0 103 = 0 := by rw [er1, ux_i _ _ _ (by decide)]; exact h103
        refine ⟨fun _ => ⟨by unfold ri_; omega, by unfold ri_; omega, by omega, by omega, fun v12 ev12 _ => ⟨by omega, by omega, fun M13 e13 => ⟨by omega, by omega, fun v14 ev14 _ => ?_⟩⟩⟩, fun z => absurd (by rw [ev8]; exact h1031) z⟩
        have v12t : v12 = tt := by
          have := h73 0 (by simp)
          rw [ev12, er1, ux_c _ _ _ _ (by decide)]
          simpa using this
        rw [v12t] at e13
        have hR1 := RB0_F hR FR1
        have hR13 : RB0 p R0 M13 := RB0_m hR1 (fun k hk => by rw [e13, ux_g _ _ _ (fun q => hk (by rw [q]; decide))]) (by rw [e13, ux_c _ _ _ _ (by decide)]) (by rw [e13, ux_c _ _ _ _ (by decide)])
        have z13 : M13 0 = R1 0 := by rw [e13, ux_g _ _ _ (by decide)]
        have l13 : ∀ R2 R3, EWr (s + 1) M13 R2 → EL s R2 R3 → EL s R R3 := fun R2 R3 q1 q2 => by
          have := EL_t q1 (by omega) q2
          rw [e13] at this
          exact EL_t FR1 (by omega) (EL_7 this (by omega))
        have o101 : ∀ R2, EWr (s + 1) M13 R2 → R2 0 101 = s + 1 := fun R2 q => by rw [q.2.1 101 (by decide), z13, er1, ux_i _ _ _ (by decide)]; exact h101
        have vr13 : ∀ j, 0 ≤ j → j < s + 1 → M13 72 j = vrx vr s tt j := fun j j0 j1 => by
          unfold vrx
          by_cases e : j = s
          · rw [if_pos e, e, e13, ux_s]
          · rw [if_neg e, e13, ux_i _ _ _ e, er1, ux_c _ _ _ _ (by decide)]; exact hvr j j0 (by omega)
        have it13 : it = 1 → M13 0 100 = iv := fun z => by rw [z13, er1, ux_i _ _ _ (by decide)]; exact hit z
        have keep : ∀ R2, EWr (s + 1) M13 R2 → (∀ j, 0 ≤ j → j < s → R2 72 j = vr j) ∧ (it = 1 → R2 0 100 = iv) ∧ R2 74 s = i + 1 + ts.length ∧ ∀ k : Nat, k < ts.length → R2 73 (4400 * s + (i + 1 + k)) = ts.getD k 0 := fun R2 q => by
          refine ⟨fun j j0 j1 => ?_, fun z => ?_, ?_, fun k hk => ?_⟩
          · rw [(q.2.2.1 j (by omega)).1, vr13 j j0 (by omega)]; unfold vrx; rw [if_neg (by omega)]
          · rw [q.2.1 100 (by decide)]; exact it13 z
          · rw [(q.2.2.1 s (by omega)).2, e13, ux_c _ _ _ _ (by decide), er1, ux_c _ _ _ _ (by decide)]; exact h74'
          · rw [q.2.2.2 _ (by omega), e13, ux_c _ _ _ _ (by decide), er1, ux_c _ _ _ _ (by decide)]
            have := h73 (k + 1) (by simpa using hk)
            rw [show i + 1 + (k : Int) = i + ((k + 1 : Nat) : Int) from by omega, this]; rfl
        have W := hwR d M13 (m + 1) hd hR13 (by rw [z13, er1, ux_s]) (by omega) (by omega) (by rw [z13]; exact h1031) (by rw [z13, er1, ux_i _ _ _ (by decide)]; exact h101) vr13 it13 Q (jit (fun _ _ _ _ _ _ _ _ => False) (wb_X12_workFold_b45 (gw_ d) Q) (ts.length + 2)) (kd - 31) s tot g 0 i (fun zc R2 F2 b1 b2 => ⟨fun hp => ?_, fun hp => ?_⟩) (fun zc R2 F2 b2 => ?_)
        · refine ⟨fun z => W.1 (by rw [← ev14]; exact z), fun z => ⟨by omega, by omega, fun v16 ev16 _ => ?_⟩⟩
          rw [ev16]; exact W.2 (by rw [← ev14]; exact z)
        · obtain ⟨y1, y2, y3⟩ := hyes hp
          have hR2 := RB0_F hR13 F2
          refine hbR d R2 (m + 1 + cw) hd hR2 b1 (by omega) zc b2 (o101 R2 F2) (fun j j0 j1 => by rw [(F2.2.2.1 j (by omega)).1]; exact vr13 j j0 j1) (fun z => (keep R2 F2).2.1 z) Q _ s i i0 (by omega) (fun zb R3 F3 d1 d2 => ?_) (fun zb R3 F3 d2 => ?_)
          · have F23 := EWr_t F2 F3 (Int.le_refl _)
            by_cases hdd : (kd = 48 ∨ kd = 49) ∧ stG kd g sob vb = 1
            · obtain ⟨z1, z2, z3⟩ := y2 hdd
              have eT : stT kd tot g sob vb = tot := by unfold stT; rw [if_neg (by omega), if_pos hdd.1]
              rw [if_pos hdd.1, if_pos hdd.1, eT, hdd.2]
              refine r_dead (n := ts.length + 1) (g := 1) k0 k1 s0 (by omega) (Or.inr (Or.inl (by decide))) (o101 R3 F23) (fun q1 q2 => by omega) (fun _ => rfl) (Or.inr rfl) (fun _ R4 a1 a2 a3 a4 a5 => hq (by omega) R4 (l13 R3 R4 F23 a1) (by rw [a2, d1]; omega) a3 (by rw [a4]; exact z1.symm) (by rw [a5]; exact z2.symm)) (fun z => absurd d2 z)
            · obtain ⟨-, x4⟩ := y3 hdd
              obtain ⟨t1', t2', t3', t4'⟩ := keep R3 F23
              have e6 : (if kd = 48 ∨ kd = 49 then g else stG kd g sob vb) = stG kd g sob vb := by
                by_cases q : kd = 48 ∨ kd = 49
                · rw [if_pos q]
                  rcases g01' with w | w
                  · rw [w]; exact g48 q
                  · exact absurd ⟨q, w⟩ hdd
                · rw [if_neg q]
              have e7 : (if kd = 48 ∨ kd = 49 then stG kd g sob vb else 0) = 0 := by
                by_cases q : kd = 48 ∨ kd = 49
                · rw [if_pos q]
                  rcases g01' with w | w
                  · exact w
                  · exact absurd ⟨q, w⟩ hdd
                · rw [if_neg q]
              rw [e6, e7]
              refine x4 d R3 (m + 1 + cw + cb) (i + 1) hd (RB0_F hR13 F23) d1 (by omega) zb d2 (o101 R3 F23) t1' t2' (by omega) (by omega) t3' t4' Q (fun zr R4 a1 a2 a3 a4 a5 => hq (by omega) R4 (l13 R3 R4 F23 a1) (by rw [a2]; omega) a3 a4 a5) (fun zr R4 a1 a2 a3 => hx (by omega) R4 (l13 R3 R4 F23 a1) a2 a3)
          · have F23 := EWr_t F2 F3 (Int.le_refl _)
            exact dead tot g R3 (RB0_F hR13 F23) (fun R4 q => l13 R3 R4 F23 q) (o101 R3 F23) d2 (by omega)
        · obtain ⟨-, x4⟩ := hno hp
          obtain ⟨t1', t2', t3', t4'⟩ := keep R2 F2
          unfold w_X12_workFold_b326
          refine ⟨by unfold ri_; omega, x4 d R2 (m + 1 + cw) (i + 1) hd (RB0_F hR13 F2) b1 (by omega) zc b2 (o101 R2 F2) t1' t2' (by omega) (by omega) t3' t4' Q (fun zr R4 a1 a2 a3 a4 a5 => hq (by omega) R4 (l13 R2 R4 F2 a1) (by rw [a2]; omega) a3 a4 a5) (fun zr R4 a1 a2 a3 => hx (by omega) R4 (l13 R2 R4 F2 a1) a2 a3)⟩
        · unfold w_X12_workFold_b326
          exact ⟨by unfold ri_; omega, dead tot g R2 (RB0_F hR13 F2) (fun R4 q => l13 R2 R4 F2 q) (o101 R2 F2) b2 (by omega)⟩
      · have F1 : EWr (s + 1) R (ux_ R 0 103 1) := EWr_u (EWr_r _ _) _ (by decide)
        rw [ux_s] at ev8
        refine ⟨fun z => by omega, fun _ => ?_⟩
        unfold w_X12_workFold_b326
        exact ⟨by unfold ri_; omega, dead tot g _ (RB0_F hR F1) (fun R4 q => EL_t F1 (by omega) q) (by rw [ux_i _ _ _ (by decide)]; exact h101) (by rw [ux_s]) (by omega)⟩
