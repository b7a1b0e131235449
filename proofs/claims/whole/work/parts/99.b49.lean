/-! bytes read as a picture: slots, all things, the class -/
theorem slF_ok {E : MM} {B : Int → Int} {n cn : Int} {t k : Nat} (h : (slF E B n cn t k).1 = 0) : (rd B n (stp B n (sj E B n t k))).1 = 0 ∧ (kA E (tY E B n t) k = 5 → 0 ≤ nvl B n (sj E B n t k) ∧ nvl B n (sj E B n t k) ≤ cn) ∧ (kA E (tY E B n t) k ≠ 5 → vN (kA E (tY E B n t) k) (uz (nvl B n (sj E B n t k)))) := by
  unfold slF at h
  by_cases z : kA E (tY E B n t) k = 5
  · rw [if_pos z] at h
    have := upf_0 h
    exact ⟨this.1, fun _ => this.2, fun q => absurd z q⟩
  · rw [if_neg z] at h
    obtain ⟨h1, h2⟩ := ff_z h
    refine ⟨nff_0.mp h1, fun q => absurd q z, fun _ => ?_⟩
    by_cases w : vN (kA E (tY E B n t) k) (uz (nvl B n (sj E B n t k)))
    · exact w
    · rw [cnd_1 w] at h2; exact absurd (show (4 : Int) = 0 from h2) (by decide)
/-- positions climb while no number is wrong -/
theorem stp_le {B : Int → Int} {n : Int} {i : Nat} (d : Nat) (h0 : stp B n i ≤ n) (h : ∀ j, i ≤ j → j < i + d → (rd B n (stp B n j)).1 = 0) : stp B n i ≤ stp B n (i + d) ∧ stp B n (i + d) ≤ n := by
  induction d with
  | zero => exact ⟨Int.le_refl _, h0⟩
  | succ d ih =>
    have := ih fun j a b => h j a (by omega)
    have p := rd_p (h (i + d) (by omega) (by omega))
    rw [show i + (d + 1) = i + d + 1 from rfl, stp_s]
    omega
theorem slsF_ok {E : MM} {B : Int → Int} {n cn : Int} {t K : Nat} (h : (slsF E B n cn t K).1 = 0) : ∀ k, k < K → (slF E B n cn t k).1 = 0 := by
  induction K with
  | zero => intro k hk; omega
  | succ K ih =>
    intro k hk
    obtain ⟨h1, h2⟩ := ff_z (show (ff (slsF E B n cn t K) (slF E B n cn t K)).1 = 0 from h)
    by_cases z : k = K
    · rw [z]; exact h2
    · exact ih h1 k (by omega)
set_option maxHeartbeats 2000000 in
theorem p_readSlots {Q : Int → MM → Prop} {E M R0 : MM} {c a : Nat} {b0 n cn : Int} {B : Int → Int} {t : Nat} (hY : Rty E R0) (hc : isP c) (hS : Sc M a b0 n B) (hac : ¬ (c ≤ a ∧ a ≤ c + 12)) (ha2 : a ≠ 283) (ha3 : a ≠ 284) (hF : FD E M c) (hK : KT E M c b0 n B (t + 1)) (t4 : t < 400) (hG : ∀ u, u < t + 1 → GT E B n u) (hcn : 0 ≤ cn ∧ cn ≤ 400) (hsl : ∀ u, u < t → KS E M c b0 n B u (tN E B n u).toNat) (hR : RdC M b0 (stp B n (tix E B n t + 3)) okF) (s0 : 0 ≤ stp B n (tix E B n t + 3)) (s1 : stp B n (tix E B n t + 3) ≤ n) (q1 : (slsF E B n cn t (tN E B n t).toNat).1 = 0 → ∀ M', FD E M' c → Sc M' a b0 n B → KT E M' c b0 n B (t + 1) → (∀ u, u < t + 1 → KS E M' c b0 n B u (tN E B n u).toNat) → RdC M' b0 (stp B n (tix E B n (t + 1))) okF → 0 ≤ stp B n (tix E B n (t + 1)) → stp B n (tix E B n (t + 1)) ≤ n → Q 1 M') (q0 : (slsF E B n cn t (tN E B n t).toNat).1 ≠ 0 → ∀ M', FD E M' c → KT E M' c b0 n B (t + 1) → M' 280 13 = (slsF E B n cn t (tN E B n t).toNat).1 → M' 280 14 = (slsF E B n cn t (tN E B n t).toNat).2 → Q 0 M') : w_X0_readSlots c Q t cn M := by
  have mc := isP_m hc
  obtain ⟨-, -, -, ⟨na, -, k2, k3⟩, b00, n0, -, -⟩ := id hS
  have h16 := hY.2.2.1
  have g := hG t (by omega)
  have nbd := tN_bd hY g
  have tl := tF_le hY (fun u hu => hG u (by omega)) (Nat.le_refl t)
  have f4 := g.2.2.2.2.2.2.2.1
  have e4 := KT_4 hK (u := t) (by omega)
  have e5 := KT_4 hK (u := t + 1) (by omega)
  rw [tF_s] at e5
  unfold w_X0_readSlots w_X0_readSlots_b8
  refine ⟨by omega, by omega, fun v1 ev1 _ => ?_⟩
  rw [e4] at ev1
  subst ev1
  refine loop4 _ (fun (x y p : Int) M1 => (t : Int) = x ∧ cn = y ∧ ∃ k : Nat, p = tF E B n t + k ∧ (k : Int) ≤ tN E B n t ∧ (slsF E B n cn t k).1 = 0 ∧ FD E M1 c ∧ Sc M1 a b0 n B ∧ KT E M1 c b0 n B (t + 1) ∧ (∀ u, u < t → KS E M1 c b0 n B u (tN E B n u).toNat) ∧ KS E M1 c b0 n B t k ∧ RdC M1 b0 (stp B n (tix E B n t + 3 + k)) okF ∧ 0 ≤ stp B n (tix E B n t + 3 + k) ∧ stp B n (tix E B n t + 3 + k) ≤ n) (fun (_ _ p : Int) _ => (tF E B n t + tN E B n t - p).toNat) ?_ _ _ _ _ ⟨rfl, rfl, 0, by omega, by omega, rfl, hF, hS, hK, hsl, fun k hk => by omega, hR, s0, s1⟩
  rintro _ _ p M1 f ⟨rfl, rfl, k, ep, hk, sk0, F1, S1, K1, L1, KS1, R1, p0, p1⟩ ih
  subst ep
  unfold wb_X0_readSlots_b8
  refine ⟨by unfold ri_; omega, by omega, by omega, fun v2 e2 _ => ?_⟩
  rw [show (t : Int) + 1 = ((t + 1 : Nat) : Int) from by omega, KT_4 K1 (Nat.le_refl _), tF_s] at e2
  refine ⟨fun z => ?_, fun z => ⟨by omega, by omega, fun v4 e4' _ => ⟨by omega, by omega, fun v5 e5' _ => ?_⟩⟩⟩
  · have ek : k = (tN E B n t).toNat := by omega
    refine q1 (by rw [← ek]; exact sk0) M1 F1 S1 K1 (fun u hu => ?_) ?_ ?_ ?_
    · by_cases w : u = t
      · rw [w, ← ek]; exact KS1
      · exact L1 u (by omega)
    · rw [tix_s, ← ek]; exact R1
    · rw [tix_s, ← ek]; exact p0
    · rw [tix_s, ← ek]; exact p1
  · rw [(K1.2.2.1 t (by omega)).2.1] at e4'
    rw [KT_4 K1 (u := t) (by omega)] at e5'
    subst e4' e5'
    have e18 : M1 8 0 = E 8 0 := by rw [F1.1 8 (by omega) (by decide) (by decide) (by decide)]
    have ekA : kA M1 = kA E := kA_fe (F1.1 24 (by omega) (by decide) (by decide) (by decide))
    have sz16 : tY E B n t < 20 → (k : Int) < E 16 (tY E B n t) := fun q => by
      have : tN E B n t = E 16 (tY E B n t) := by unfold tN so; rw [if_neg (by omega)]
      omega
    have kb := kA_bd hY g.2.2.2.1 (s := (k : Int)) (by omega) sz16
    rw [show tF E B n t + (k : Int) - tF E B n t = k from by omega]
    refine ⟨by unfold ri_; omega, p_kA (by rw [e18]; exact h16) (by rw [e18]; exact g.2.2.2.1) (by omega) (fun q => by have := sz16 q; omega) ?_⟩
    rw [ekA]
    -- the step's end
    have sjE : tix E B n t + 3 + k = sj E B n t k := rfl
    have stE : stp B n (tix E B n t + 3 + (k + 1)) = (rd B n (stp B n (sj E B n t k))).2.2.2 := rfl
    have fin : ∀ (M2 : MM), O28 M1 M2 → ∀ (v l : Int), l = lf (kA E (tY E B n t) k) → ∀ M3, M3 = ux_ (ux_ M2 (c + 10) (tF E B n t + k) l) (c + 9) (tF E B n t + k) v → True := fun _ _ _ _ _ _ _ => trivial
    -- the state behind a number, the flag and the value laid
    have key : ∀ (l : Int) (N M3 : MM), l = lf (kA E (tY E B n t) k) → N = ux_ M1 (c + 10) (tF E B n t + k) l → ∀ N2, O28 N N2 → N2 280 10 = b0 + stp B n (sj E B n t k) → ∀ v, M3 = ux_ N2 (c + 9) (tF E B n t + k) v → ((slF E B n cn t k).1 = 0 → v = sv E B n t k ∧ RdC N2 b0 (stp B n (tix E B n t + 3 + (k + 1))) okF) → ((slF E B n cn t k).1 ≠ 0 → ((N2 280 13 = (slF E B n cn t k).1 ∧ N2 280 14 = (slF E B n cn t k).2) ∨ (kA E (tY E B n t) k ≠ 5 ∧ N2 280 13 = 0 ∧ v = uz (nvl B n (sj E B n t k)) ∧ slF E B n cn t k = (4, stp B n (sj E B n t k)) ∧ ¬ vN (kA E (tY E B n t) k) v))) → w_X0_readSlots_b114 c Q f t cn (tF E B n t + k) (kA E (tY E B n t) k) M3 := by
      intro l N M3 el eN N2 oN n10 v eM3 hok hno
      have F3 : FD E M3 c := by
        have w : FD E N c := ⟨fun q x y u v => by rw [eN]; funext i; rw [ux_c _ _ _ _ (by omega), F1.1 q x y u v], fun i x => by rw [eN, ux_c _ _ _ _ (by omega)]; exact F1.2.1 i x, fun i x => by rw [eN, ux_c _ _ _ _ (by omega)]; exact F1.2.2 i x⟩
        have w2 := FD_o (by omega) w oN
        exact ⟨fun q x y u v => by rw [eM3]; funext i; rw [ux_c _ _ _ _ (by omega), w2.1 q x y u v], fun i x => by rw [eM3, ux_c _ _ _ _ (by omega)]; exact w2.2.1 i x, fun i x => by rw [eM3, ux_c _ _ _ _ (by omega)]; exact w2.2.2 i x⟩
      have O3 : ∀ q, q ≠ 280 → q ≠ c + 9 → q ≠ c + 10 → M3 q = M1 q := fun q x y u => by rw [eM3]; funext i; rw [ux_c _ _ _ _ y, oN.1 q x, eN, ux_c _ _ _ _ u]
      have S3 : Sc N2 a b0 n B := by
        refine Sc_o ?_ oN
        obtain ⟨x1, x2, x3, x4, x5, x6, x7, x8⟩ := S1
        exact ⟨by rw [eN, ux_c _ _ _ _ (by omega)]; exact x1, by rw [eN, ux_c _ _ _ _ (by omega)]; exact x2, by rw [eN, ux_c _ _ _ _ (by omega)]; exact x3, x4, x5, x6, fun i x y => by rw [eN, ux_c _ _ _ _ (by omega)]; exact x7 i x y, x8⟩
      have a9 : M3 (c + 9) (tF E B n t + k) = v := by rw [eM3, ux_s]
      have a10 : M3 (c + 10) (tF E B n t + k) = lf (kA E (tY E B n t) k) := by rw [eM3, ux_c _ _ _ _ (by omega), oN.1 (c + 10) (by omega), eN, ux_s, el]
      have b9 : ∀ i, i ≠ tF E B n t + k → M3 (c + 9) i = M1 (c + 9) i := fun i x => by rw [eM3, ux_i _ _ _ x, oN.1 (c + 9) (by omega), eN, ux_c _ _ _ _ (by omega)]
      have b10 : ∀ i, i ≠ tF E B n t + k → M3 (c + 10) i = M1 (c + 10) i := fun i x => by rw [eM3, ux_c _ _ _ _ (by omega), oN.1 (c + 10) (by omega), eN, ux_i _ _ _ x]
      have m28 : ∀ i, M3 280 i = N2 280 i := fun i => by rw [eM3, ux_c _ _ _ _ (by omega)]
      unfold w_X0_readSlots_b114
      intro w1 f1 _
      rw [m28, n10] at f1
      refine ⟨by omega, by omega, fun M4 e4'' v3 e3 _ => ?_⟩
      have K4 : KT E M4 c b0 n B (t + 1) := KT_o K1 (fun q hq => by rw [e4'']; funext i; rw [ux_c _ _ _ _ (by omega), O3 q (by omega) (by omega) (by omega)])
      have F4 : FD E M4 c := ⟨fun q x y u v => by rw [e4'']; funext i; rw [ux_c _ _ _ _ v, F3.1 q x y u v], fun i x => by rw [e4'', ux_c _ _ _ _ (by omega)]; exact F3.2.1 i x, fun i x => by rw [e4'', ux_c _ _ _ _ (by omega)]; exact F3.2.2 i x⟩
      have m28' : ∀ i, M4 280 i = N2 280 i := fun i => by rw [e4'', ux_c _ _ _ _ (by decide), m28]
      have m9 : M4 (c + 9) = M3 (c + 9) := by rw [e4'']; funext i; rw [ux_c _ _ _ _ (by omega)]
      have m10 : M4 (c + 10) = M3 (c + 10) := by rw [e4'']; funext i; rw [ux_c _ _ _ _ (by omega)]
      have S4 : Sc M4 a b0 n B := by
        obtain ⟨x1, x2, x3, x4, x5, x6, x7, x8⟩ := S3
        refine ⟨by rw [m28']; exact x1, by rw [m28']; exact x2, by rw [m28']; exact x3, x4, x5, x6, fun i x y => ?_, x8⟩
        rw [e4'', ux_c _ _ _ _ ha3, eM3, ux_c _ _ _ _ (by omega)]; exact x7 i x y
      have stepE : slsF E B n cn t (k + 1) = slF E B n cn t k := by show ff (slsF E B n cn t k) _ = _; rw [ff_0 sk0]
      have bad : (slF E B n cn t k).1 ≠ 0 → ∀ M5, FD E M5 c → KT E M5 c b0 n B (t + 1) → M5 280 13 = (slF E B n cn t k).1 → M5 280 14 = (slF E B n cn t k).2 → Q 0 M5 := fun y M5 x1 x2 x3 x4 => by
        have e : slsF E B n cn t (tN E B n t).toNat = slF E B n cn t k := by rw [slsF_no (k := k + 1) (by rw [stepE]; exact y) (by omega), stepE]
        exact q0 (by rw [e]; exact y) M5 x1 x2 (by rw [x3, e]) (by rw [x4, e])
      have good : (slF E B n cn t k).1 = 0 → w_X0_readSlots_b169 c Q f t cn (tF E B n t + k) M4 := fun y => by
        obtain ⟨ev, hr⟩ := hok y
        have so1 := (slF_ok y).1
        have pz := rd_p so1
        unfold w_X0_readSlots_b169
        refine ⟨by unfold ri_; omega, ih _ _ _ _ ⟨rfl, rfl, k + 1, by omega, by omega, by rw [stepE]; exact y, F4, S4, K4, fun u hu j hj => ?_, fun j hj => ?_, ⟨?_, fun _ => ?_, ?_⟩, ?_, ?_⟩ (by omega)⟩
        · have gu := tN_bd hY (hG u (by omega))
          have fl := tF_le hY (fun u hu => hG u (by omega)) (t := t) (u := u + 1) (by omega)
          rw [tF_s] at fl
          rw [m9, m10, b9 _ (by omega), b10 _ (by omega), e4'', ux_i _ _ _ (by omega), O3 284 (by decide) (by omega) (by omega)]
          exact L1 u hu j hj
        · by_cases w : j = k
          · rw [w, m9, m10, a9, a10, e4'', ux_s, f1, ev]; exact ⟨rfl, rfl, rfl⟩
          · rw [m9, m10, b9 _ (by omega), b10 _ (by omega), e4'', ux_i _ _ _ (by omega), O3 284 (by decide) (by omega) (by omega)]
            exact KS1 j (by omega)
        · rw [m28']; exact hr.1
        · rw [m28']; exact hr.2.1 rfl
        · rw [m28']; exact hr.2.2
        · rw [stE]; rw [sjE] at p0; omega
        · rw [stE]; exact pz.2.1
      rw [m28'] at e3
      refine ⟨fun y => ⟨by omega, by omega, fun v5 e5'' _ => ?_⟩, fun y => ?_⟩
      · rw [m10, a10] at e5''
        by_cases sk : (slF E B n cn t k).1 = 0
        · refine ⟨fun _ => good sk, fun y2 => ⟨by omega, by omega, fun v7 e7 _ => ?_⟩⟩
          rw [m9, a9] at e7
          have nk : kA E (tY E B n t) k ≠ 5 := fun w => by rw [e5''] at y2; unfold lf at y2; rw [if_pos w] at y2; omega
          have vn := (slF_ok sk).2.2 nk
          refine p_isNumber kb.1 (by omega) (fun _ _ => ⟨fun _ => good sk, fun w => absurd w (by decide)⟩) (fun w => absurd ?_ w)
          rw [e7, (hok sk).1]
          unfold sv; rw [if_neg nk]; exact vn
        · rcases hno sk with ⟨x1, x2⟩ | ⟨x1, x2, x3, x4, x5⟩
          · rw [e3] at y; rw [x1] at y; exact absurd y sk
          · refine ⟨fun y2 => ?_, fun y2 => ⟨by omega, by omega, fun v7 e7 _ => ?_⟩⟩
            · rw [e5''] at y2; unfold lf at y2; rw [if_neg x1] at y2; exact absurd rfl y2
            · rw [m9, a9] at e7
              refine p_isNumber kb.1 (by omega) (fun w => absurd (by rw [← e7]; exact w) x5) (fun w _ => ⟨fun w' => absurd rfl w', fun _ v11 e11 _ => ?_⟩)
              rw [m28', n10] at e11
              refine p_cfail S4 (by unfold ri_; rw [sjE] at p0 p1; omega) fun M5 o5 x13 x14 x10 _ => bad sk M5 (FD_o (by omega) F4 o5) (KT_o K4 (fun q hq => o5.1 q (by omega))) (by rw [x13, x4]) (by rw [x14, x4, e11]; show b0 + _ - b0 = _; omega)
      · by_cases sk : (slF E B n cn t k).1 = 0
        · exact absurd (by rw [e3]; exact (hok sk).2.1) y
        · rcases hno sk with ⟨x1, x2⟩ | ⟨-, x2, -⟩
          · exact bad sk M4 F4 K4 (by rw [m28', x1]) (by rw [m28', x2])
          · exact absurd (by rw [e3]; exact x2) y
    have SN : ∀ N, N = ux_ M1 (c + 10) (tF E B n t + k) (lf (kA E (tY E B n t) k)) → Sc N a b0 n B ∧ RdC N b0 (stp B n (sj E B n t k)) okF := fun N eN => by
      obtain ⟨x1, x2, x3, x4, x5, x6, x7, x8⟩ := S1
      refine ⟨⟨by rw [eN, ux_c _ _ _ _ (by omega)]; exact x1, by rw [eN, ux_c _ _ _ _ (by omega)]; exact x2, by rw [eN, ux_c _ _ _ _ (by omega)]; exact x3, x4, x5, x6, fun i x y => by rw [eN, ux_c _ _ _ _ (by omega)]; exact x7 i x y, x8⟩, ?_⟩
      exact ⟨by rw [eN, ux_c _ _ _ _ (by omega)]; exact R1.1, fun _ => by rw [eN, ux_c _ _ _ _ (by omega)]; exact R1.2.1 rfl, by rw [eN, ux_c _ _ _ _ (by omega)]; exact R1.2.2⟩
    rw [sjE] at p0 p1
    have both : ∀ l, l = lf (kA E (tY E B n t) k) → w_X0_readSlots_b62 c Q f t cn (tF E B n t + k) (kA E (tY E B n t) k) l (tF E B n t + k) M1 := fun l el => by
      unfold w_X0_readSlots_b62
      have l01 : l = 0 ∨ l = 1 := by rw [el]; unfold lf; by_cases w : kA E (tY E B n t) k = 5; (rw [if_pos w]; exact Or.inr rfl); (rw [if_neg w]; exact Or.inl rfl)
      refine ⟨by omega, by omega, l01, fun N eN => ⟨by omega, by omega, fun v2' e2' _ => ?_⟩⟩
      rw [eN, ux_s] at e2'
      have eN' := eN
      rw [el] at eN'
      obtain ⟨SN1, RN1⟩ := SN N eN'
      refine ⟨fun y => ?_, fun y => ?_⟩
      · have nk : kA E (tY E B n t) k ≠ 5 := fun w => by rw [e2', el] at y; unfold lf at y; rw [if_pos w] at y; omega
        refine p_readNumber SN1 p0 p1 (RN1.2.1 rfl) RN1.1 (fun z3 N2 oN x9 x10 x13 x14 _ => ⟨by omega, by omega, fun M6 e6 => ?_⟩) (fun z3 N2 oN x10 x13 x14 _ => ⟨by omega, by omega, fun M6 e6 => ?_⟩)
        · have grl := (rd_p z3).2.2
          rw [uz_c grl] at e6
          refine key l N M6 el eN N2 oN x10 _ e6 (fun w => ⟨by unfold sv; rw [if_neg nk]; rfl, x13, fun _ => x9, by rw [x14]; exact RN1.2.2⟩) (fun w => Or.inr ⟨nk, x13, rfl, ?_, ?_⟩)
          · unfold slF at w ⊢
            rw [if_neg nk, ff_0 (nff_0.mpr z3)] at w ⊢
            by_cases q : vN (kA E (tY E B n t) k) (uz (nvl B n (sj E B n t k)))
            · rw [cnd_0 (fun q' => q' q)] at w; exact absurd rfl w
            · rw [cnd_1 q]
          · intro q
            unfold slF at w
            rw [if_neg nk, ff_0 (nff_0.mpr z3), cnd_0 (fun q' => q' q)] at w
            exact w rfl
        · have e : slF E B n cn t k = ((rd B n (stp B n (sj E B n t k))).1, (rd B n (stp B n (sj E B n t k))).2.1) := by
            have nz : (nff B n (stp B n (sj E B n t k))).1 ≠ 0 := fun q => z3 (nff_0.mp q)
            unfold slF; rw [if_neg nk, ff_1 nz]; unfold nff; rw [if_neg z3]
          exact key l N M6 el eN N2 oN x10 _ e6 (fun w => absurd (by rw [e] at w; exact w) z3) (fun w => Or.inl ⟨by rw [x13, e], by rw [x14, e]⟩)
      · have nk : kA E (tY E B n t) k = 5 := by
          by_cases w : kA E (tY E B n t) k = 5
          · exact w
          · rw [e2', el] at y; unfold lf at y; rw [if_neg w] at y; exact absurd rfl y
        have e : slF E B n cn t k = upf B n (stp B n (sj E B n t k)) cn := by unfold slF; rw [if_pos nk]
        refine p_readUpTo (by unfold ri_; omega) SN1 p0 p1 RN1 (fun z3 N2 oN r2 x10 _ => ?_) (fun z3 N2 oN x10 x13 x14 _ => ⟨by unfold ri_; omega, by omega, by omega, fun M6 e6 => ?_⟩)
        · have u3 := upf_0 z3
          refine ⟨by unfold ri_; omega, by omega, by omega, fun M6 e6 => ?_⟩
          exact key l N M6 el eN N2 oN x10 _ e6 (fun w => ⟨by unfold sv; rw [if_pos nk]; rfl, r2⟩) (fun w => absurd (by rw [e]; exact z3) w)
        · exact key l N M6 el eN N2 oN x10 _ e6 (fun w => absurd (by rw [e] at w; exact w) z3) (fun w => Or.inl ⟨by rw [x13, e], by rw [x14, e]⟩)
    refine fun _ => ⟨fun w => both 0 (by unfold lf; rw [if_neg w]), fun w => both 1 (by unfold lf; rw [if_pos w])⟩
