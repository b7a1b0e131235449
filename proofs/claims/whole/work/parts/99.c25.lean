/-! folds worked out: closed -/
set_option maxHeartbeats 1000000 in
theorem Sem_F : CloF Sem SemS := by
  intro P N s sf fo it y a e1 e2 e3 lo hi loS hiS loW hiW loB hiB kd hST s0 s1 f10 k0 k1 n66 p1 p2 p4 pn1 pn2 pn3 hwh hbd ps1 ps2 ps3 ps4 pf1 pf2 pf4 l1 h1 lS hS' lW hW lB hB oS oW oB hsz
  obtain ⟨q1, q2, q3, q4, q5, q6⟩ := hST
  have e12 : e1 < e2 := by
    rcases hwh with ⟨-, z⟩ | ⟨-, -, -, z⟩
    · omega
    · have := z.1; omega
  have e23 : e2 ≤ e3 := by
    rcases hbd with ⟨-, z⟩ | ⟨-, z⟩
    · omega
    · have := z.1; omega
  refine ⟨by omega, by omega, l1, h1, fun i i0 i1 e8 => ?_, fun c pc M0 R0 p B vr iv hE a0 b5 lo0 h480 hc hn hu hv => ?_⟩
  · by_cases z1 : i < e1
    · by_cases z0 : i = a
      · rw [z0] at e8; omega
      · obtain ⟨j, j0, j1, j2⟩ := q5 i (by omega) z1 e8
        exact ⟨j, by omega, by omega, j2⟩
    · by_cases z2 : i < e2
      · rcases hwh with ⟨-, z⟩ | ⟨-, zp, -, z⟩
        · have : i = e1 := by omega
          rw [this] at e8; omega
        · by_cases z3 : i = e1
          · rw [z3] at e8; omega
          · by_cases z4 : i = e2 - 1
            · rw [z4] at e8; omega
            · obtain ⟨j, j0, j1, j2⟩ := z.2.2.2.2.1 i (by omega) (by omega) e8
              exact ⟨j, by omega, by omega, j2⟩
      · by_cases z3 : i < e3
        · rcases hbd with ⟨-, z⟩ | ⟨-, z⟩
          · omega
          · obtain ⟨j, j0, j1, j2⟩ := z.2.2.2.2.1 i (by omega) (by omega) e8
            exact ⟨j, by omega, by omega, j2⟩
        · by_cases z4 : i = e3
          · rw [z4] at e8; omega
          · have : i = e3 + 1 := by omega
            rw [this] at e8; omega
  have f0 := hv.2.2.1
  have b50 := hE.2.2.2.2.1
  have hvS : vOK (M0 pc 0) s sf (fo + 1) it vr iv := ⟨hv.1, hv.2.1, by omega, by omega, fun i i0 i1 => by have := hv.2.2.2.2.1 i i0 i1; omega, hv.2.2.2.2.2⟩
  obtain ⟨ts, cS, hts, htl, hcS, hSC, hSR⟩ := q6 c pc M0 R0 p B vr iv hE (by omega) (by omega) (by omega) (by omega) (fun j i j0 j4 i0 i1 => hc j i j0 j4 (by omega) (by omega)) (nAg_s hn (by omega) (by omega)) ⟨fun i i0 i1 => hu.1 i (by omega) (by omega), fun i i0 i1 => hu.2 i (by omega) (by omega)⟩ hvS
  have hSR := hSR s (Or.inl rfl)
  obtain ⟨so, v, cF, hVV, hcF, hFC, hFR⟩ := fold_spec (sz := hi - lo - 1) hE a0 b5 lo0 h480 hc hn hu hv s1 f10 l1 h1 lW hW lB hB (by omega) (by omega) k0 k1 e12 e23 (by omega) (by omega) (by omega) ⟨pn1, pn2, pn3⟩ hwh hbd ⟨ps1, ps2, ps3, ps4⟩ ⟨pf1, pf2, pf4⟩ ts hts 0 0 (Or.inl rfl) (fun _ => rfl)
  refine ⟨so, v, 1 + cS + cF, hVV, by omega, fun K X hK t M tp m hC hS htp tp0 tp1 hm m0 m1 hcv ht hq hx => ?_, fun d R m hd hR hm m0 m1 h103 h101 hvr hit Q hq hx => ?_⟩
  · obtain ⟨t, rfl⟩ : ∃ t', t = t' + 1 := ⟨t - 1, by omega⟩
    refine K_op (o := 6) hE hK hC hm m0 m1 a0 (by omega) (by rw [hc 1 a (by omega) (by omega) (by omega) (by omega)]; exact p1) (by omega) (fun M6 e6 => ?_)
    obtain ⟨f6, s6, m6, i6, o6⟩ := mt1 (tp := tp) (fo := fo) hS hm e6
    have hC6 := CB_F hC f6
    obtain ⟨⟨c', u1, u2, hcc⟩, u4⟩ := c_at hE hC6 hc (e := a) (by omega) (by omega)
    rw [hcc] at u1 u2
    unfold w_X4_execute_b26
    refine ⟨fun z => absurd z (by decide), fun _ => ?_⟩
    unfold w_X4_doLeaf
    refine ⟨_, u1, u2, a0, by omega, fun v2 e2' _ => ⟨_, u1, u2, a0, by omega, fun v4 e4' _ => ⟨fun z => absurd z (by decide), fun z => absurd z (by decide), fun z => absurd z (by decide), fun z => absurd z (by decide), fun z => absurd z (by decide), fun z => absurd z (by decide), fun _ => ?_⟩⟩⟩
    rw [u4 2 (by omega) (by omega), p2] at e2'
    rw [e2']
    refine ⟨by omega, by omega, fun M26 e26 => ⟨by omega, by omega, fun M27 e27 => ⟨by unfold ri_; omega, fun _ => ?_⟩⟩⟩
    have F27 : fsT (fo + 1) M6 M27 := ⟨fun k x1 x2 x3 => by rw [e27, ux_g _ _ _ x3, e26, ux_g _ _ _ x2], fun i _ => by rw [e27, ux_c _ _ _ _ (by decide), e26, ux_c _ _ _ _ (by decide)], fun i hi' => ⟨by rw [e27, ux_c _ _ _ _ (by decide), e26, ux_i _ _ _ hi'], by rw [e27, ux_i _ _ _ hi', e26, ux_c _ _ _ _ (by decide)]⟩⟩
    obtain ⟨g1, g2, g3⟩ := fsT_F (tp := tp) F27 s6
    have F1 := EWc_t f6 g1 (Int.le_refl _) (Int.le_refl _)
    have C27 := CB_F hC F1
    have m27 : M27 219 3 = m + 1 := by rw [F27.2.1 3 (by decide), m6]
    have t27 : M27 219 6 = tp := by rw [e27, ux_c _ _ _ _ (by decide), e26, ux_c _ _ _ _ (by decide), i6 6 (by decide)]; exact htp
    by_cases mz : 30000 < m + 1
    · exact hK.2 t (a + 1) M27 C27 (by omega) (hx (by omega) M27 C27 g3 (by omega))
    refine hSC K X hK t M27 tp (m + 1) C27 g3 t27 tp0 (by omega) m27 (by omega) (by omega) (CV_F hcv hv F1) (by omega) (fun zc t2 M2 ht2 F2 S2 h62 h32 k2 G2 => ?_) (fun zc => hx (by omega))
    rw [show fo + 1 - 1 = fo from by omega] at F2
    have F12 := EWc_t F1 F2 (Int.le_refl _) (Int.le_refl _)
    refine hFC K X hK t2 M2 tp (m + 1 + cS) (CB_F hC F12) S2 h62 tp0 (by omega) h32 (by omega) zc (CV_F hcv hv F12) G2 (by rw [k2 227 (by omega) (by omega), e27, ux_c _ _ _ _ (by decide), e26, ux_s]) (by rw [k2 228 (by omega) (by omega), e27, ux_s]) (by omega) (fun zf t3 M3 ht3 F3 S3 b1 b2 b3 b4 => hq (by omega) t3 M3 (by omega) (EWc_t F12 F3 (Int.le_refl _) (Int.le_refl _)) S3 b1 b2 b3 (by rw [b4]; omega)) (fun zf => hx (by omega))
  · obtain ⟨d, rfl⟩ : ∃ d', d = d' + 1 := ⟨d - 1, by omega⟩
    obtain ⟨d, rfl⟩ : ∃ d', d = d' + 1 := ⟨d - 1, by omega⟩
    have r66 : R 66 y = kd - 31 := by rw [RBn hR hn (j := 66) (i := y) (by omega) (by omega) l1 h1]; exact n66
    refine r_work (R0 := R0) (p := p) (l := s) (by omega) (by omega) r66 hm m0 m1 h103 (fun z R1 er1 => ⟨fun q => by omega, fun _ => ⟨fun q => by omega, fun _ => ?_⟩⟩) (fun z R' a1 a2 a3 => hx (by omega) R' a1 a2 a3)
    have FR1 : EWr s R R1 := by rw [er1]; exact EWr_u (EWr_r _ _) _ (by decide)
    have hR1 := RB0_F hR FR1
    show b_X12_workFold (gw_ d) (fun _ M7 => Q 0 M7) y R1
    unfold b_X12_workFold
    refine ⟨by omega, by omega, fun v1 ev1 _ v2 ev2 _ => ⟨by omega, by omega, fun v3 ev3 _ => ?_⟩⟩
    rw [RBn hR1 hn (j := 66) (i := y) (by omega) (by omega) l1 h1, n66] at ev1
    rw [er1, ux_i _ _ _ (by decide), h101] at ev2
    rw [RBn hR1 hn (j := 67) (i := y) (by omega) (by omega) l1 h1] at ev3
    rw [ev1, ev2, ev3]
    have z98 : R1 0 98 = m + 1 := by rw [er1, ux_s]
    refine hSR d R1 (m + 1) (by omega) hR1 z98 (by omega) (by omega) (by rw [er1, ux_i _ _ _ (by decide)]; exact h103) (by rw [er1, ux_i _ _ _ (by decide)]; exact h101) (fun i i0 i1 => by rw [er1, ux_c _ _ _ _ (by decide)]; exact hvr i i0 i1) (fun z => by rw [er1, ux_i _ _ _ (by decide)]; exact hit z) _ (fun zc R2 F2 b1 b2 b3 b4 v6 ev6 _ => ?_) (fun zc R2 F2 b2 b3 v6 ev6 _ => ?_)
    · have F2' := E_ES F2 (by omega)
      have h101' : R2 0 101 = s := by rw [F2'.2.1 101 (by decide), er1, ux_i _ _ _ (by decide)]; exact h101
      refine ⟨by unfold ri_; omega, fun M8 e8 => ⟨ts.length + 2, ?_⟩⟩
      rw [show v6 + 1 = s + 1 from by omega] at e8
      have hR2 := RB0_F hR1 F2'
      have hR8 : RB0 p R0 M8 := RB0_m hR2 (fun k hk => by rw [e8, ux_g _ _ _ (fun q => hk (by rw [q]; decide))]) (by rw [e8, ux_i _ _ _ (by decide)]) (by rw [e8, ux_i _ _ _ (by decide)])
      have back : ∀ R3, EL s M8 R3 → EWr s R R3 := fun R3 q => by
        have F12 := EWr_t FR1 F2' (Int.le_refl _)
        refine EWr_t F12 ⟨fun k hk => by rw [q.1 k hk, e8, ux_g _ _ _ (fun q => hk (by rw [q]; decide))], fun j hj => ?_, fun j hj => ⟨by rw [(q.2.2.2.1 j hj).1, e8, ux_c _ _ _ _ (by decide)], by rw [(q.2.2.2.1 j hj).2, e8, ux_c _ _ _ _ (by decide)]⟩, fun j hj => by rw [q.2.2.2.2 j hj, e8, ux_c _ _ _ _ (by decide)]⟩ (Int.le_refl _)
        by_cases e : j = 101
        · rw [e, q.2.2.1, h101']
        · rw [q.2.1 j (fun w => hj (by simp only [List.mem_cons, List.not_mem_nil, or_false] at w ⊢; omega)), e8, ux_i _ _ _ e]
      refine hFR d M8 (m + 1 + cS) 0 (by omega) hR8 (by rw [e8, ux_i _ _ _ (by decide)]; exact b1) (by omega) zc (by rw [e8, ux_i _ _ _ (by decide)]; exact b2) (by rw [e8, ux_s]) (fun j j0 j1 => by rw [e8, ux_c _ _ _ _ (by decide), (F2'.2.2.1 j (by omega)).1, er1, ux_c _ _ _ _ (by decide)]; exact hvr j j0 j1) (fun z => by rw [e8, ux_i _ _ _ (by decide), F2'.2.1 100 (by decide), er1, ux_i _ _ _ (by decide)]; exact hit z) (by omega) (by omega) (by rw [e8, ux_c _ _ _ _ (by decide), b3]; omega) (fun k hk => by rw [e8, ux_c _ _ _ _ (by decide), show 4400 * s + (0 + (k : Int)) = 4400 * s + k from by omega]; exact b4 k hk) _ (fun zf R3 a1 a2 a3 a4 a5 => hq (by omega) R3 (back R3 a1) (by rw [a2]; omega) a3 a4 a5) (fun zf R3 a1 a2 a3 => hx (by omega) R3 (back R3 a1) a2 a3)
    · have F2' := E_ES F2 (by omega)
      have h101' : R2 0 101 = s := by rw [F2'.2.1 101 (by decide), er1, ux_i _ _ _ (by decide)]; exact h101
      refine ⟨by unfold ri_; omega, fun M8 e8 => ⟨1, ?_⟩⟩
      rw [show v6 + 1 = s + 1 from by omega] at e8
      have back : ∀ R3, EL s M8 R3 → EWr s R R3 := fun R3 q => by
        have F12 := EWr_t FR1 F2' (Int.le_refl _)
        refine EWr_t F12 ⟨fun k hk => by rw [q.1 k hk, e8, ux_g _ _ _ (fun q => hk (by rw [q]; decide))], fun j hj => ?_, fun j hj => ⟨by rw [(q.2.2.2.1 j hj).1, e8, ux_c _ _ _ _ (by decide)], by rw [(q.2.2.2.1 j hj).2, e8, ux_c _ _ _ _ (by decide)]⟩, fun j hj => by rw [q.2.2.2.2 j hj, e8, ux_c _ _ _ _ (by decide)]⟩ (Int.le_refl _)
        by_cases e : j = 101
        · rw [e, q.2.2.1, h101']
        · rw [q.2.1 j (fun w => hj (by simp only [List.mem_cons, List.not_mem_nil, or_false] at w ⊢; omega)), e8, ux_i _ _ _ e]
      have t103 : M8 0 103 = 1 := by rw [e8, ux_i _ _ _ (by decide)]; exact b2
      exact r_dead (n := 0) (g := 0) k0 k1 s0 (by omega) (Or.inl (by omega)) (by rw [e8, ux_s]) (fun _ _ => rfl) (fun _ => rfl) (Or.inl rfl) (fun q => by omega) (fun _ R3 a1 a2 a3 => hx (by omega) R3 (back R3 a1) (by rw [a2]; exact t103) a3)
theorem Sem_all : Clo Sem SemS := ⟨Sem_A, SemS_A, Sem_L, Sem_1, Sem_2, Sem_3, SemS_S, Sem_F⟩
