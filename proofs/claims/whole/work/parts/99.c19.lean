/-! sets worked out: closed -/
theorem SemS_2 (P : CD) (N : MM) (s : Int) (sf : Int → Int) (fo it y a e lo hi x lo1 hi1 : Int) (hS : Sem P N s sf fo it x a e lo1 hi1) (p30 : 30 ≤ P 1 e) (p32 : P 1 e ≤ 32) (hf : P 2 e = fo) (h66 : N 66 y = P 1 e - 6) (h67 : N 67 y = x) (l1 : lo ≤ y) (h1 : y < hi) (l2 : lo ≤ lo1) (h2 : hi1 ≤ hi) (hsz : hi1 - lo1 + 1 ≤ hi - lo) : SemS P N s sf fo it y a (e + 1) lo hi := by
  obtain ⟨q1, q2, q3, q4, q5, q6⟩ := hS
  refine ⟨by omega, by omega, l1, h1, fun i i0 i1 e8 => ?_, fun c pc M0 R0 p B vr iv hE a0 b5 lo0 h480 hc hn hu hv => ?_⟩
  · by_cases z : i = e
    · rw [z] at e8; omega
    · obtain ⟨j, j0, j1, j2⟩ := q5 i i0 (by omega) e8
      exact ⟨j, by omega, by omega, j2⟩
  obtain ⟨so, v, c1, hV, hc1, hC1, hR1⟩ := q6 c pc M0 R0 p B vr iv hE a0 (by omega) (by omega) (by omega) (fun j i j0 j4 i0 i1 => hc j i j0 j4 i0 (by omega)) (nAg_s hn (by omega) (by omega)) ⟨fun i i0 i1 => hu.1 i i0 (by omega), fun i i0 i1 => hu.2 i i0 (by omega)⟩ hv
  obtain ⟨g1, g2⟩ := tsO_ok (o := P 1 e) hE hV
  have hw := hE.2.2.2.2.2.2.1
  have n4 := hw.2.1
  have b50 := hE.2.2.2.2.1
  have f0 := hv.2.2.1
  have f1 := hv.2.2.2.1
  have v01 : so = 2 → 0 ≤ v ∧ v < M0 pc 0 := fun z => by
    rcases hV with h | ⟨h, -⟩ | ⟨-, h1, h2⟩ | ⟨h, -⟩ | ⟨h, -⟩ <;> first | omega | exact ⟨h1, h2⟩
  refine ⟨tsO M0 pc (P 1 e) so v, c1 + 1, g1, g2, by omega, fun K X hK t M tp m hC hSI h6 t0 t1 hm m0 m1 hcv ht hq hx => ?_, fun l hl d R m hd hR hm m0 m1 h103 h101 hvr hit Q hq hx => ?_⟩
  · refine hC1 K X hK t M tp m hC hSI h6 t0 (by omega) hm m0 m1 hcv ht (fun hc30 t1' M1 ht1 hF1 hS1 h61 hs1 hv1 hm1 => ?_) (fun z => hx (by omega))
    have hC1' := CB_F hC hF1
    obtain ⟨t1', rfl⟩ : ∃ t', t1' = t' + 1 := ⟨t1' - 1, by omega⟩
    refine K_op (o := P 1 e) hE hK hC1' hm1 (by omega) hc30 (by omega) (by omega) (hc 1 e (by omega) (by omega) (by omega) (by omega)) (by omega) (fun M6 e6 => ?_)
    obtain ⟨f6, s6, m6, i6, o6⟩ := mt1 (tp := tp) (fo := fo - 1) hS1 hm1 e6
    have hC6 := CB_F hC1' f6
    have hF1' : EWc tp (fo - 1) M M1 := EWc_t (EWc_r tp (fo - 1) M) hF1 (by omega) (by omega)
    have fin : ∀ M', FB_ fo M6 M' → SI B M' → M' 219 6 = tp → Gv M0 fo (M0 pc 0) B (tsO M0 pc (P 1 e) so v) M' → K t1' (e + 1) M' := fun M' hF hS' h6' hG => by
      refine K_sfin hK hC (EWc_t hF1' (EWc_t f6 (FB_E (tp := tp) hF) (by omega) (by omega)) (by omega) (by omega)) hS' h6' (by rw [hF.2.1 3 (by decide), m6]; omega) (fun k ka kb => ?_) hG (by omega) (by omega) hq hx
      rw [hF.1 k (by simp; omega), o6 k (by omega)]
      exact hF1.2.2.2.1 k fo (by omega) kb (by omega)
    have rr : ri_ (e + 1) := by unfold ri_; omega
    unfold w_X4_execute_b26
    refine ⟨fun _ => ⟨fun _ => ⟨fun _ => ⟨fun z => by omega, fun _ => ?_⟩, fun z => by omega⟩, fun z => by omega⟩, fun z => by omega⟩
    refine c_bs (tp := tp) (so := so) (v := v) hE hC6 hc a0 b5 (by omega) (by omega) hf f0 (by omega) (by omega) (fun _ => ⟨by rw [i6 6 (by decide)]; exact h61, by rw [o6 220 (by decide)]; exact hs1, by rw [o6 221 (by decide)]; exact hv1, t0, by omega, fun z => by have := v01 z; omega⟩) (fun M7 e7 => ⟨fun z => by omega, fun z => by omega, fun _ M14 e14 => ?_⟩)
    have F14 : FB_ fo M6 M14 := by
      rw [e14, e7]
      exact FB_t (FB_t (FB_t (FB_t (FB_u (by omega) (by omega) _) (FB_u (by omega) (by omega) _)) (FB_u (by omega) (by omega) _)) FB_6) (FB_u (by omega) (by omega) _)
    have g230 : M14 230 = M6 230 := by rw [e14, ux_g _ _ _ (by decide), ux_g _ _ _ (by decide), e7, ux_g _ _ _ (by decide), ux_g _ _ _ (by decide), ux_g _ _ _ (by decide)]
    have g231 : M14 231 = M6 231 := by rw [e14, ux_g _ _ _ (by decide), ux_g _ _ _ (by decide), e7, ux_g _ _ _ (by decide), ux_g _ _ _ (by decide), ux_g _ _ _ (by decide)]
    have g223 : M14 223 = M6 223 := by rw [e14, ux_g _ _ _ (by decide), ux_g _ _ _ (by decide), e7, ux_g _ _ _ (by decide), ux_g _ _ _ (by decide), ux_g _ _ _ (by decide)]
    have S14 : SI B M14 := SI_w s6 g230 g231 (F14.2.1 3 (by decide)) (fun g _ _ h => by rw [g223]; exact h)
    have h614 : M14 219 6 = tp := by rw [e14, ux_c _ _ _ _ (by decide), ux_s]
    have a222 : M14 222 fo = P 1 e := by rw [e14, ux_c _ _ _ _ (by decide), ux_c _ _ _ _ (by decide), e7, ux_c _ _ _ _ (by decide), ux_c _ _ _ _ (by decide), ux_s]
    have a224 : M14 224 fo = 0 := by rw [e14, ux_c _ _ _ _ (by decide), ux_c _ _ _ _ (by decide), e7, ux_c _ _ _ _ (by decide), ux_s]
    have a225 : M14 225 fo = 0 := by rw [e14, ux_s]
    refine ⟨fun z => ⟨rr, fun _ => fin M14 F14 S14 h614 ?_⟩, fun z => ?_⟩
    · have : tsO M0 pc (P 1 e) so v = [] := by unfold tsO; rw [if_neg z]
      rw [this]
      exact Gv_0 hE f0 (by omega) a222 a224 a225
    · have sB1 := (hS1 fo f0 (by omega)).2.1
      have e231 : M14 231 fo = M1 231 fo := by rw [g231, o6 231 (by decide)]
      have e219 : M14 219 3 = m + c1 + 1 := by rw [F14.2.1 3 (by decide), m6]
      have hv2 := v01 z
      refine c_from hE (fun y => hu.2 e (by omega) (by omega) y) (FB_CB F14 hC6) S14 (by rw [e231, e219]; omega) (by rw [e219]; omega) f0 (by omega) p30 p32 hv2.1 hv2.2 a222 a224 a225 (fun M' hF hS' h6' hG => ⟨rr, fun _ => fin M' (FB_t F14 hF) hS' (by rw [h6', h614]) (by rw [z]; exact hG)⟩)
  · obtain ⟨d, rfl⟩ : ∃ d', d = d' + 1 := ⟨d - 1, by omega⟩
    have k66 : R 66 y = P 1 e - 6 := by rw [RBn hR hn (j := 66) (i := y) (by omega) (by omega) l1 h1]; exact h66
    have k67 : R 67 y = x := by rw [RBn hR hn (j := 67) (i := y) (by omega) (by omega) l1 h1]; exact h67
    have s0 := hv.1
    have s1 := hv.2.1
    refine r_ws (s := s) (by omega) (by omega) s0 s1 hl k66 hm m0 m1 h103 (fun z R1 e1 => ⟨fun z2 => by omega, fun z2 Q' hQ' => ?_⟩) (fun z R' a1 a2 a3 => hx (by omega) R' a1 a2 a3)
    have F1 : ES s l R R1 := ES_0 e1
    have hRB1 := RB0_S hR F1
    have t74 : ∀ R2, EWr s R1 R2 → ∀ M13, M13 = ux_ R2 74 l 0 → ES s l R M13 ∧ M13 74 l = 0 ∧ M13 0 = R2 0 := fun R2 f2 M13 e13 => by
      refine ⟨ES_t F1 (ES_t (ES_E f2) ?_), by rw [e13, ux_s], by rw [e13, ux_g _ _ _ (by decide)]⟩
      rw [e13]
      exact ⟨fun k hk => ux_g _ _ _ (fun y => hk (by rw [y]; decide)), fun i _ => ux_c _ _ _ _ (by decide), fun i _ => ⟨ux_c _ _ _ _ (by decide), fun il => ux_i _ _ _ il⟩, fun i _ _ => ux_c _ _ _ _ (by decide)⟩
    rw [k67]
    refine hR1 d R1 (m + 1) (by omega) hRB1 (by rw [e1, ux_s]) (by omega) (by omega) (by rw [e1, ux_i _ _ _ (by decide), ux_c _ _ _ _ (by decide)]; exact h103) (by rw [e1, ux_i _ _ _ (by decide), ux_c _ _ _ _ (by decide)]; exact h101) (fun i i0 i1 => by rw [e1, ux_c _ _ _ _ (by decide), ux_c _ _ _ _ (by decide)]; exact hvr i i0 i1) (fun z => by rw [e1, ux_i _ _ _ (by decide), ux_c _ _ _ _ (by decide)]; exact hit z) Q' (fun z3 R2 f2 b1 b2 b3 b4 => hQ' _ _ ?_) (fun z3 R2 f2 b2 b9 => hQ' _ _ ?_)
    · intro M13 e13
      obtain ⟨j1, j2, j3⟩ := t74 R2 f2 M13 e13
      have hRB := RB0_S hR j1
      refine ⟨fun w => absurd b2 w, fun _ => ⟨fun w => ?_, fun w => hq (by omega) M13 j1 (by rw [j3, b1]; omega) (by rw [j3]; exact b2) ?_ (fun k hk => ?_)⟩⟩
      · rw [b4]
        have hv2 := v01 (by omega)
        have so2 : so = 2 := by omega
        have done : ∀ R', GS s l M13 R' (tsO M0 pc (P 1 e) so v) → Q 0 R' := fun R' hG => hq (by omega) R' (ES_t j1 hG.1) (by rw [hG.2.2.2.1, j3, b1]; omega) (by rw [hG.2.2.2.2, j3]; exact b2) hG.2.1 hG.2.2.1
        refine ⟨by unfold ri_; omega, fun w1 => ⟨fun w2 => ?_, fun w2 => ?_⟩, fun w1 => ?_⟩
        · refine r_FR (s := s) hE hRB s0 s1 hl hv2.1 hv2.2 j2 (fun R' hG => done R' ?_)
          unfold tsO; rw [if_pos so2, if_neg (by omega), if_neg (by omega)]; exact hG
        · refine r_H (s := s) hE hRB s0 s1 hl hv2.1 hv2.2 j2 (fun R' hG => done R' ?_)
          unfold tsO; rw [if_pos so2, if_neg (by omega), if_pos (by omega)]; exact hG
        · refine r_SL (s := s) hE hRB s0 s1 hl hv2.1 hv2.2 j2 (fun R' hG => done R' ?_)
          unfold tsO; rw [if_pos so2, if_pos (by omega)]; exact hG
      · have : tsO M0 pc (P 1 e) so v = [] := by unfold tsO; rw [if_neg (by omega)]
        rw [this, j2]; rfl
      · have : tsO M0 pc (P 1 e) so v = [] := by unfold tsO; rw [if_neg (by omega)]
        rw [this] at hk; exact absurd hk (Nat.not_lt_zero _)
    · intro M13 e13
      obtain ⟨j1, j2, j3⟩ := t74 R2 f2 M13 e13
      exact ⟨fun _ => hx (by omega) M13 j1 (by rw [j3]; exact b2) j2, fun w => by omega⟩
theorem SemS_S : CloS Sem SemS := ⟨SemS_L, SemS_2⟩
