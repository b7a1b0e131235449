/-! bytes read as a picture: a thing, the reference -/
noncomputable def thF (E : MM) (B : Int → Int) (n cn : Int) (t : Nat) : Int × Int := ff (hdF E B n t) (slsF E B n cn t (tN E B n t).toNat)
theorem upf_p {B : Int → Int} {n s m : Int} (h : (upf B n s m).1 ≠ 0) : 0 < (upf B n s m).1 := by
  unfold upf at h ⊢
  by_cases z : (nff B n s).1 = 0
  · rw [ff_0 z] at h ⊢
    by_cases w : (rd B n s).2.2.1 < 0 ∨ m < (rd B n s).2.2.1
    · rw [cnd_1 w]; show (0 : Int) < 4; decide
    · rw [cnd_0 w] at h; exact absurd rfl h
  · rw [ff_1 z] at h ⊢
    unfold nff at h ⊢
    by_cases w : (rd B n s).1 = 0
    · rw [if_pos w] at h; exact absurd rfl h
    · rw [if_neg w]
      show 0 < (rd B n s).1
      rcases rdG_f (B := B) (n := n) (s := s) 10 s 0 with q | q | q
      · exact absurd q w
      · have q' : (rd B n s).1 = 1 := q; omega
      · have q' : (rd B n s).1 = 3 := q; omega
/-- a fault of a number, whatever more is asked of it -/
theorem upf_1 {B : Int → Int} {n s m : Int} (z : (rd B n s).1 ≠ 0) : upf B n s m = ((rd B n s).1, (rd B n s).2.1) ∧ 0 < (rd B n s).1 := by
  have nz : (nff B n s).1 ≠ 0 := fun w => z (nff_0.mp w)
  have e : upf B n s m = ((rd B n s).1, (rd B n s).2.1) := by unfold upf; rw [ff_1 nz]; unfold nff; rw [if_neg z]
  refine ⟨e, ?_⟩
  have := upf_p (B := B) (n := n) (s := s) (m := m) (by rw [e]; exact z)
  rw [e] at this; exact this
theorem upf_2 {B : Int → Int} {n s m : Int} (z : (rd B n s).1 = 0) : upf B n s m = cnd ((rd B n s).2.2.1 < 0 ∨ m < (rd B n s).2.2.1) (4, s) := by unfold upf; rw [ff_0 (nff_0.mpr z)]
theorem slF_p {E : MM} {B : Int → Int} {n cn : Int} {t k : Nat} (h : (slF E B n cn t k).1 ≠ 0) : 0 < (slF E B n cn t k).1 := by
  unfold slF at h ⊢
  by_cases z : kA E (tY E B n t) k = 5
  · rw [if_pos z] at h ⊢; exact upf_p h
  · rw [if_neg z] at h ⊢
    by_cases w : (nff B n (stp B n (sj E B n t k))).1 = 0
    · rw [ff_0 w] at h ⊢
      by_cases w2 : ¬ vN (kA E (tY E B n t) k) (uz (nvl B n (sj E B n t k)))
      · rw [cnd_1 w2]; show (0 : Int) < 4; decide
      · rw [cnd_0 w2] at h; exact absurd rfl h
    · have e := upf_1 (m := 0) (fun q => w (nff_0.mpr q))
      rw [ff_1 w]
      unfold nff
      rw [if_neg (fun q => w (nff_0.mpr q))]
      exact e.2
set_option maxHeartbeats 2000000 in
theorem p_takeThing {Q : Int → MM → Prop} {E A M : MM} {n cn : Int} {B : Int → Int} {t : Nat} (hY : Rty E A) (hF : FTr A M) (hS : Sr M n B) (t4 : (t : Int) < cn) (hcn : 0 ≤ cn ∧ cn ≤ 400) (hG : ∀ u, u < t → GT E B n u) (hK : KTr E M n B t) (hsl : ∀ u, u < t → KSr E M n B u (tN E B n u).toNat) (e38 : M 38 4 = cn) (e146 : M 0 146 = tF E B n t) (hR : RdR M (stp B n (tix E B n t)) okF) (s0 : 0 ≤ stp B n (tix E B n t)) (s1 : stp B n (tix E B n t) ≤ n) (q0 : (thF E B n cn t).1 = 0 → ∀ M', FTr A M' → Sr M' n B → KTr E M' n B (t + 1) → (∀ u, u < t + 1 → KSr E M' n B u (tN E B n u).toNat) → M' 38 4 = cn → M' 0 146 = tF E B n (t + 1) → RdR M' (stp B n (tix E B n (t + 1))) okF → 0 ≤ stp B n (tix E B n (t + 1)) → stp B n (tix E B n (t + 1)) ≤ n → Q 0 M') (q1 : (thF E B n cn t).1 ≠ 0 → ∀ M', FTr A M' → Sr M' n B → M' 38 4 = cn → 0 < M' 0 83 → M' 0 83 = (thF E B n cn t).1 → M' 0 84 = (thF E B n cn t).2 → Q 0 M') : w_X12_takeThing Q t M := by
  have h16 := hY.2.2.1
  have tl := tF_le hY hG (Nat.le_refl t)
  have tl4 := tF_4 hG
  unfold w_X12_takeThing
  -- behind the length: slots
  have d227a : ∀ M', 0 < M' 0 83 → FTr A M' → Sr M' n B → M' 38 4 = cn → M' 0 83 = (thF E B n cn t).1 → M' 0 84 = (thF E B n cn t).2 → ∀ x5 x7, w_X12_takeThing_b227 Q t x5 x7 M' := fun M' p F S k38 a83 a84 x5 x7 => by
    unfold w_X12_takeThing_b227
    intro v1 e1 _
    exact ⟨fun w => by omega, fun _ => q1 (by rw [← a83]; omega) M' F S k38 p a83 a84⟩
  have d150a : ∀ M', 0 < M' 0 83 → FTr A M' → Sr M' n B → M' 38 4 = cn → M' 0 83 = (thF E B n cn t).1 → M' 0 84 = (thF E B n cn t).2 → ∀ x5, w_X12_takeThing_b150 Q t x5 M' := fun M' p F S k38 a83 a84 x5 => by
    unfold w_X12_takeThing_b150
    intro v1 e1 _
    exact ⟨fun w => by omega, fun _ => q1 (by rw [← a83]; omega) M' F S k38 p a83 a84⟩
  have d98a : ∀ M', 0 < M' 0 83 → FTr A M' → Sr M' n B → M' 38 4 = cn → M' 0 83 = (thF E B n cn t).1 → M' 0 84 = (thF E B n cn t).2 → ∀ x2, w_X12_takeThing_b98 Q t x2 M' := fun M' p F S k38 a83 a84 x2 => by
    unfold w_X12_takeThing_b98
    intro v1 e1 _
    exact ⟨fun w => by omega, fun _ => q1 (by rw [← a83]; omega) M' F S k38 p a83 a84⟩
  -- the loop over slots, all well so far
  have slots : ∀ M1, (hdF E B n t).1 = 0 → FTr A M1 → Sr M1 n B → KTr E M1 n B (t + 1) → (∀ u, u < t → KSr E M1 n B u (tN E B n u).toNat) → M1 38 4 = cn → M1 0 146 = tF E B n t → RdR M1 (stp B n (tix E B n t + 3)) okF → 0 ≤ stp B n (tix E B n t + 3) → stp B n (tix E B n t + 3) ≤ n → w_X12_takeThing_b298 Q t (tN E B n t) M1 := fun M1 hd F1 S1 K1 L1 k38 k146 R1 p0 p1 => by
    have g := hdF_ok hd
    have nbd := tN_bd hY g
    have f4 := g.2.2.2.2.2.2.2.1
    have eth : thF E B n cn t = slsF E B n cn t (tN E B n t).toNat := by unfold thF; rw [ff_0 hd]
    have GG : ∀ u, u < t + 1 → GT E B n u := fun u hu => by
      by_cases w : u = t
      · rw [w]; exact g
      · exact hG u (by omega)
    unfold w_X12_takeThing_b298 w_X12_takeThing_b301
    refine loop4 _ (fun (x y k : Int) M2 => (t : Int) = x ∧ tN E B n t = y ∧ ∃ K : Nat, k = K ∧ (K : Int) ≤ tN E B n t ∧ FTr A M2 ∧ Sr M2 n B ∧ M2 38 4 = cn ∧ M2 0 146 = tF E B n t ∧ ((KTr E M2 n B (t + 1) ∧ (∀ u, u < t → KSr E M2 n B u (tN E B n u).toNat) ∧ (slsF E B n cn t K).1 = 0 ∧ KSr E M2 n B t K ∧ RdR M2 (stp B n (tix E B n t + 3 + K)) okF ∧ 0 ≤ stp B n (tix E B n t + 3 + K) ∧ stp B n (tix E B n t + 3 + K) ≤ n) ∨ (0 < M2 0 83 ∧ M2 0 83 = (thF E B n cn t).1 ∧ M2 0 84 = (thF E B n cn t).2))) (fun (_ _ k : Int) _ => (tN E B n t - k).toNat) ?_ _ _ _ _ ⟨rfl, rfl, 0, rfl, nbd.1, F1, S1, k38, k146, Or.inl ⟨K1, L1, rfl, fun k hk => by omega, R1, p0, p1⟩⟩
    rintro _ _ k M2 f ⟨rfl, rfl, K, rfl, hK1, F2, S2, j38, j146, hcase⟩ ih
    have endB : (tN E B n t ≤ (K : Int)) ∨ 0 < M2 0 83 → w_X12_takeThing_b328 Q (tN E B n t) M2 := fun w => by
      unfold w_X12_takeThing_b328
      intro v1 e1 _
      rw [j146] at e1
      refine ⟨by unfold ri_; omega, fun M3 e3 => ?_⟩
      have F3 : FTr A M3 := by rw [e3]; exact FTr_u F2 (by simp)
      have S3 : Sr M3 n B := by
        obtain ⟨x1, x2, x3, x4⟩ := S2
        exact ⟨by rw [e3, ux_i _ _ _ (by decide)]; exact x1, x2, x3, fun i x y => by rw [e3, ux_c _ _ _ _ (by decide)]; exact x4 i x y⟩
      have o3 : ∀ q, q ≠ 0 → M3 q = M2 q := fun q x => by rw [e3]; funext i; rw [ux_c _ _ _ _ x]
      have i3 : ∀ i, i ≠ 146 → M3 0 i = M2 0 i := fun i x => by rw [e3, ux_i _ _ _ x]
      rcases hcase with ⟨K2, L2, z1, z2, z3, z4, z5⟩ | ⟨z1, z2, z3⟩
      · have eK : K = (tN E B n t).toNat := by
          rcases w with w | w
          · omega
          · have := z3.1; have : M2 0 83 = 0 := z3.1; omega
        refine q0 (by rw [eth, ← eK]; exact z1) M3 F3 S3 (KTr_o K2 (fun q hq => o3 q (fun y => by rw [y] at hq; revert hq; decide))) (fun u hu => ?_) (by rw [o3 38 (by decide)]; exact j38) (by rw [e3, ux_s, e1, tF_s]) ?_ ?_ ?_
        · by_cases w' : u = t
          · rw [w', ← eK]; exact KSr_o z2 ⟨o3 58 (by decide), o3 101 (by decide)⟩
          · exact KSr_o (L2 u (by omega)) ⟨o3 58 (by decide), o3 101 (by decide)⟩
        · rw [tix_s, ← eK]; exact ⟨by rw [i3 83 (by decide)]; exact z3.1, by rw [i3 84 (by decide)]; exact z3.2.1, fun _ => by rw [i3 142 (by decide)]; exact z3.2.2 rfl⟩
        · rw [tix_s, ← eK]; exact z4
        · rw [tix_s, ← eK]; exact z5
      · exact q1 (by rw [← z2]; omega) M3 F3 S3 (by rw [o3 38 (by decide)]; exact j38) (by rw [i3 83 (by decide)]; exact z1) (by rw [i3 83 (by decide)]; exact z2) (by rw [i3 84 (by decide)]; exact z3)
    unfold wb_X12_takeThing_b301
    refine ⟨fun w => endB (Or.inl w), fun w v2 e2 _ => ⟨fun w2 => endB ?_, fun w2 => ?_⟩⟩
    · rcases hcase with ⟨-, -, z1, z2, z3, z4, z5⟩ | ⟨z1, z2, z3⟩
      · exact absurd (by rw [e2]; exact z3.1) w2
      · exact Or.inr z1
    · obtain ⟨K2, L2, z1, z2, z3, z4, z5⟩ : KTr E M2 n B (t + 1) ∧ (∀ u, u < t → KSr E M2 n B u (tN E B n u).toNat) ∧ (slsF E B n cn t K).1 = 0 ∧ KSr E M2 n B t K ∧ RdR M2 (stp B n (tix E B n t + 3 + K)) okF ∧ 0 ≤ stp B n (tix E B n t + 3 + K) ∧ stp B n (tix E B n t + 3 + K) ≤ n := by
        rcases hcase with q | ⟨q, -⟩
        · exact q
        · omega
      have kt := K2 t (by omega)
      have stepE : slsF E B n cn t (K + 1) = slF E B n cn t K := by show ff (slsF E B n cn t K) _ = _; rw [ff_0 z1]
      refine p_takeSlot hY F2 S2 (by omega) g (by omega) tl.1 kt.2.1 kt.2.2.2.1 j38 hcn z3 z4 z5 (fun sk M3 F3 S3 o3 i146 a58 a101 b58 b101 R3 => ⟨by unfold ri_; omega, ih _ _ _ _ ⟨rfl, rfl, K + 1, by omega, by omega, F3, S3, by rw [o3 38 (by decide) (by decide) (by decide)]; exact j38, by rw [i146]; exact j146, Or.inl ⟨KTr_o K2 (fun q hq => o3 q (fun y => by rw [y] at hq; revert hq; decide) (fun y => by rw [y] at hq; revert hq; decide) (fun y => by rw [y] at hq; revert hq; decide)), fun u hu j hj => ?_, by rw [stepE]; exact sk, fun j hj => ?_, R3, ?_, ?_⟩⟩ (by omega)⟩) (fun sk M3 F3 S3 o3 i146 x83 x84 => ⟨by unfold ri_; omega, ih _ _ _ _ ⟨rfl, rfl, K + 1, by omega, by omega, F3, S3, by rw [o3 38 (by decide) (by decide) (by decide)]; exact j38, by rw [i146]; exact j146, Or.inr ?_⟩ (by omega)⟩)
      · have gu := tN_bd hY (GG u (by omega))
        have fl := tF_le hY hG (t := t) (u := u + 1) (by omega)
        rw [tF_s] at fl
        rw [a58 _ (by omega), a101 _ (by omega)]
        exact L2 u hu j hj
      · by_cases w' : j = K
        · rw [w']; exact ⟨b58, b101⟩
        · rw [a58 _ (by omega), a101 _ (by omega)]; exact z2 j (by omega)
      · have pz := rd_p (slF_ok sk).1
        show 0 ≤ (rd B n (stp B n (sj E B n t K))).2.2.2
        have : 0 ≤ stp B n (sj E B n t K) := z4
        omega
      · exact (rd_p (slF_ok sk).1).2.1
      · have e : thF E B n cn t = slF E B n cn t K := by rw [eth, slsF_no (k := K + 1) (by rw [stepE]; exact sk) (by omega), stepE]
        exact ⟨by rw [x83]; exact slF_p sk, by rw [x83, e], by rw [x84, e]⟩
  -- the length
  have d218 : ∀ M1 x7, hdF E B n t = (4, stp B n (tix E B n t + 2)) → FTr A M1 → Sr M1 n B → M1 38 4 = cn → M1 0 83 = 0 → M1 0 143 = stp B n (tix E B n t + 2) → w_X12_takeThing_b218 Q t (tY E B n t) x7 M1 := fun M1 x7 e F1 S1 k38 m83 m143 => by
    have eth : thF E B n cn t = (4, stp B n (tix E B n t + 2)) := by unfold thF; rw [e, ff_1 (show (4 : Int) ≠ 0 by decide)]
    unfold w_X12_takeThing_b218
    intro v1 e1 _
    rw [m143] at e1
    exact p_rfail m83 fun M2 o2 x83 x84 _ _ => d227a M2 (by rw [x83]; decide) (FTr_o F1 o2) (Sr_o S1 o2) (by rw [o2.1 38 (by decide)]; exact k38) (by rw [x83, eth]) (by rw [x84, eth, e1]) _ _
  have d227 : ∀ M1, (rd B n (stp B n (tix E B n t + 2))).1 = 0 → hdF E B n t = cnd (4000 < tF E B n t + tN E B n t) (4, stp B n (tix E B n t + 2)) → vT (E 8 0) (tY E B n t) → 0 ≤ tL E B n t → tL E B n t ≤ 60 → FTr A M1 → Sr M1 n B → KTr E M1 n B t → (∀ u, u < t → KSr E M1 n B u (tN E B n u).toNat) → M1 38 4 = cn → M1 0 146 = tF E B n t → M1 0 143 = stp B n (tix E B n t + 2) → RdR M1 (stp B n (tix E B n t + 3)) okF → 0 ≤ stp B n (tix E B n t + 3) → stp B n (tix E B n t + 3) ≤ n → M1 39 (1600 + t) = tO E B n t → M1 40 (1600 + t) = tY E B n t → M1 100 t = stp B n (tix E B n t) → w_X12_takeThing_b227 Q t (tY E B n t) (tL E B n t) M1 := fun M1 rz eh vt l0 l60 F1 S1 K1 L1 k38 k146 k143 R1 p0 p1 e39 e40 e100 => by
    have nb' := so_bd hY vt l0 l60
    have nb2 : 0 ≤ tN E B n t ∧ tN E B n t ≤ 96 := nb'
    have vt' := vt
    unfold vT at vt'
    unfold w_X12_takeThing_b227
    intro v1 e1 _
    refine ⟨fun _ => p_at4 (by omega) (by omega) fun _ => ⟨by unfold ri_; omega, by omega, by omega, fun M6 e6 => p_at4 (by omega) (by omega) fun _ v9 e9 _ => ⟨by omega, by omega, fun M10 e10 => ⟨by unfold ri_; omega, by unfold ri_; omega, ?_⟩⟩⟩, fun w => by have := R1.1; have : M1 0 83 = 0 := R1.1; omega⟩
    rw [e6, ux_c _ _ _ _ (by decide), k146] at e9
    have F10 : FTr A M10 := by rw [e10, e6]; exact FTr_u (FTr_u F1 (Or.inl ⟨by decide, by omega⟩)) (Or.inl ⟨by decide, by omega⟩)
    have o10 : ∀ q, q ≠ 41 → q ≠ 42 → M10 q = M1 q := fun q x y => by rw [e10, e6]; funext i; rw [ux_c _ _ _ _ y, ux_c _ _ _ _ x]
    have S10 : Sr M10 n B := by
      obtain ⟨x1, x2, x3, x4⟩ := S1
      exact ⟨by rw [o10 0 (by decide) (by decide)]; exact x1, x2, x3, fun i x y => by rw [o10 98 (by decide) (by decide)]; exact x4 i x y⟩
    have K10 : KTr E M10 n B (t + 1) := fun u hu => by
      rw [o10 39 (by decide) (by decide), o10 40 (by decide) (by decide), o10 100 (by decide) (by decide), e10, e6]
      by_cases w : u = t
      · rw [w, ux_c _ _ _ _ (by decide), ux_s, ux_s, e9]; exact ⟨e39, e40, rfl, rfl, e100⟩
      · rw [ux_c _ _ _ _ (by decide), ux_i _ _ _ (by omega), ux_i _ _ _ (by omega), ux_c _ _ _ _ (by decide)]; exact K1 u (by omega)
    have R10 : RdR M10 (stp B n (tix E B n t + 3)) okF := by
      refine ⟨?_, ?_, fun _ => ?_⟩ <;> rw [o10 0 (by decide) (by decide)]
      · exact R1.1
      · exact R1.2.1
      · exact R1.2.2 rfl
    refine p_R_so (FTr_Y hY F10) vt ?_
    intro _ v15 e15 _
    rw [o10 0 (by decide) (by decide), k146] at e15
    have eN : so E (tY E B n t) (tL E B n t) = tN E B n t := rfl
    rw [eN]
    refine ⟨by unfold ri_; omega, fun w => slots M10 (by rw [eh, cnd_0 (by omega)]; rfl) F10 S10 K10 (fun u hu => KSr_o (L1 u hu) ⟨o10 58 (by decide) (by decide), o10 101 (by decide) (by decide)⟩) (by rw [o10 38 (by decide) (by decide)]; exact k38) (by rw [o10 0 (by decide) (by decide)]; exact k146) R10 p0 p1, fun w v18 e18 _ => ?_⟩
    rw [o10 0 (by decide) (by decide), k143] at e18
    have e4 : hdF E B n t = (4, stp B n (tix E B n t + 2)) := by rw [eh, cnd_1 (by omega)]
    have eth : thF E B n cn t = (4, stp B n (tix E B n t + 2)) := by unfold thF; rw [e4, ff_1 (show (4 : Int) ≠ 0 by decide)]
    refine p_rfail R10.1 fun M2 o2 x83 x84 _ _ => ?_
    have F2 := FTr_o F10 o2
    have S2 := Sr_o S10 o2
    -- no slot is read any more
    unfold w_X12_takeThing_b298 w_X12_takeThing_b301
    refine loop4 _ (fun (x y k : Int) M3 => tN E B n t = y ∧ k = 0 ∧ M2 = M3) (fun (_ _ _ : Int) _ => 0) ?_ _ _ _ _ ⟨rfl, rfl, rfl⟩
    rintro _ _ _ _ f ⟨rfl, rfl, rfl⟩ ih
    have fin : w_X12_takeThing_b328 Q (tN E B n t) M2 := by
      unfold w_X12_takeThing_b328
      intro v1' e1' _
      rw [o2.2 146 (by decide), o10 0 (by decide) (by decide), k146] at e1'
      refine ⟨by unfold ri_; omega, fun M3 e3 => q1 (by rw [eth]; show (4 : Int) ≠ 0; decide) M3 (by rw [e3]; exact FTr_u F2 (by simp)) ?_ ?_ ?_ ?_ ?_⟩
      · obtain ⟨x1, x2, x3, x4⟩ := S2
        exact ⟨by rw [e3, ux_i _ _ _ (by decide)]; exact x1, x2, x3, fun i x y => by rw [e3, ux_c _ _ _ _ (by decide)]; exact x4 i x y⟩
      · rw [e3, ux_c _ _ _ _ (by decide), o2.1 38 (by decide), o10 38 (by decide) (by decide)]; exact k38
      · rw [e3, ux_i _ _ _ (by decide), x83]; decide
      · rw [e3, ux_i _ _ _ (by decide), x83, eth]
      · rw [e3, ux_i _ _ _ (by decide), x84, e18, eth]
    unfold wb_X12_takeThing_b301
    exact ⟨fun _ => fin, fun _ v2 e2 _ => ⟨fun _ => fin, fun w' => by rw [x83] at e2; omega⟩⟩
  -- the type
  have d150 : ∀ M1, vT (E 8 0) (tY E B n t) → hdF E B n t = ff (upf B n (stp B n (tix E B n t + 2)) (if tY E B n t < 20 then 0 else 60)) (cnd (4000 < tF E B n t + tN E B n t) (4, stp B n (tix E B n t + 2))) → FTr A M1 → Sr M1 n B → KTr E M1 n B t → (∀ u, u < t → KSr E M1 n B u (tN E B n u).toNat) → M1 38 4 = cn → M1 0 146 = tF E B n t → RdR M1 (stp B n (tix E B n t + 2)) okF → 0 ≤ stp B n (tix E B n t + 2) → stp B n (tix E B n t + 2) ≤ n → M1 39 (1600 + t) = tO E B n t → M1 100 t = stp B n (tix E B n t) → w_X12_takeThing_b150 Q t (tY E B n t) M1 := fun M1 vt eh F1 S1 K1 L1 k38 k146 R1 p0 p1 e39 e100 => by
    have vt' := vt
    unfold vT at vt'
    unfold w_X12_takeThing_b150
    intro v1 e1 _
    refine ⟨fun _ => p_at4 (by omega) (by omega) fun _ => ⟨by unfold ri_; omega, by omega, by omega, fun M6 e6 => ?_⟩, fun w => by have : M1 0 83 = 0 := R1.1; omega⟩
    have F6 : FTr A M6 := by rw [e6]; exact FTr_u F1 (Or.inl ⟨by decide, by omega⟩)
    have o6 : ∀ q, q ≠ 40 → M6 q = M1 q := fun q x => by rw [e6]; funext i; rw [ux_c _ _ _ _ x]
    have S6 : Sr M6 n B := by
      obtain ⟨x1, x2, x3, x4⟩ := S1
      exact ⟨by rw [o6 0 (by decide)]; exact x1, x2, x3, fun i x y => by rw [o6 98 (by decide)]; exact x4 i x y⟩
    have R6 : RdR M6 (stp B n (tix E B n t + 2)) okF := by
      refine ⟨?_, ?_, fun _ => ?_⟩ <;> rw [o6 0 (by decide)]
      · exact R1.1
      · exact R1.2.1
      · exact R1.2.2 rfl
    have e40 : M6 40 (1600 + t) = tY E B n t := by rw [e6, ux_s]
    have K6 : KTr E M6 n B t := fun u hu => by
      rw [o6 39 (by decide), o6 41 (by decide), o6 42 (by decide), o6 100 (by decide), e6, ux_i _ _ _ (by omega)]; exact K1 u hu
    refine p_takeNumber S6 p0 p1 R6 (fun z M8 o8 r8 m143 _ v9 e9 _ => ?_) (fun z M8 v o8 x83 x84 m143 _ v9 e9 _ => ?_)
    · have pz := rd_p z
      have el : (rd B n (stp B n (tix E B n t + 2))).2.2.1 = tL E B n t := rfl
      rw [el]
      have m83 : M8 0 83 = 0 := r8.1
      rw [m83] at e9
      have F8 := FTr_o F6 o8
      have S8 := Sr_o S6 o8
      have k38' : M8 38 4 = cn := by rw [o8.1 38 (by decide), o6 38 (by decide)]; exact k38
      have u2 := upf_2 (m := if tY E B n t < 20 then 0 else 60) z
      rw [el] at u2
      have bad : (tL E B n t < 0 ∨ (if tY E B n t < 20 then (0 : Int) else 60) < tL E B n t) → w_X12_takeThing_b218 Q t (tY E B n t) (tL E B n t) M8 := fun w => d218 M8 _ (by rw [eh, u2, cnd_1 w, ff_1 (show (4 : Int) ≠ 0 by decide)]) F8 S8 k38' m83 m143
      have good : ¬ (tL E B n t < 0 ∨ (if tY E B n t < 20 then (0 : Int) else 60) < tL E B n t) → w_X12_takeThing_b227 Q t (tY E B n t) (tL E B n t) M8 := fun w => by
        refine d227 M8 z (by rw [eh, u2, cnd_0 w, ff_0 (show okF.1 = 0 from rfl)]) vt (by omega) ?_ F8 S8 (KTr_o K6 (fun q hq => o8.1 q (fun y => by rw [y] at hq; revert hq; decide))) (fun u hu => KSr_o (L1 u hu) ⟨by rw [o8.1 58 (by decide), o6 58 (by decide)], by rw [o8.1 101 (by decide), o6 101 (by decide)]⟩) k38' (by rw [o8.2 146 (by decide), o6 0 (by decide)]; exact k146) m143 r8 (by show 0 ≤ (rd B n (stp B n (tix E B n t + 2))).2.2.2; omega) pz.2.1 (by rw [o8.1 39 (by decide), o6 39 (by decide)]; exact e39) (by rw [o8.1 40 (by decide)]; exact e40) (by rw [o8.1 100 (by decide), o6 100 (by decide)]; exact e100)
        by_cases q : tY E B n t < 20
        · rw [if_pos q] at w; omega
        · rw [if_neg q] at w; omega
      have e20 : M8 0 20 = E 8 0 := by rw [F8.2.2.2.2.2 20 (by decide), ← hY.1]
      refine ⟨fun w => absurd e9 w, fun _ => ⟨fun w => bad (Or.inl w), fun w => ⟨fun w2 => bad (Or.inr (by by_cases q : tY E B n t < 20; (rw [if_pos q]; omega); (rw [if_neg q]; omega))), fun w2 => ⟨by unfold ri_; omega, p_R_isClass (fun a b _ => ⟨fun w3 => absurd w3 (by decide), fun _ => ?_⟩) (fun a _ => ⟨fun _ => good ?_, fun w3 => absurd rfl w3⟩)⟩⟩⟩⟩
      · have q : tY E B n t < 20 := by omega
        exact ⟨fun w3 => good (by rw [if_pos q]; omega), fun w3 => bad (by rw [if_pos q]; omega)⟩
      · have q : ¬ tY E B n t < 20 := by omega
        rw [if_neg q]; omega
    · have u1 := upf_1 (m := if tY E B n t < 20 then 0 else 60) z
      have e : thF E B n cn t = ((rd B n (stp B n (tix E B n t + 2))).1, (rd B n (stp B n (tix E B n t + 2))).2.1) := by
        have e0 : hdF E B n t = ((rd B n (stp B n (tix E B n t + 2))).1, (rd B n (stp B n (tix E B n t + 2))).2.1) := by rw [eh, u1.1, ff_1 (show (rd B n (stp B n (tix E B n t + 2))).1 ≠ 0 from z)]
        unfold thF; rw [e0, ff_1 (show (rd B n (stp B n (tix E B n t + 2))).1 ≠ 0 from z)]
      rw [x83] at e9
      refine ⟨fun _ => d227a M8 (by rw [x83]; exact u1.2) (FTr_o F6 o8) (Sr_o S6 o8) (by rw [o8.1 38 (by decide), o6 38 (by decide)]; exact k38) (by rw [x83, e]) (by rw [x84, e]) _ _, fun w => absurd (by rw [← e9]; exact w) z⟩
  -- the object's number
  have d98 : ∀ M1, 0 ≤ tO E B n t → tO E B n t < 400 → hdF E B n t = ff (upf B n (stp B n (tix E B n t + 1)) 45) (ff (cnd (¬ vT (E 8 0) (tY E B n t)) (4, stp B n (tix E B n t + 1))) (ff (upf B n (stp B n (tix E B n t + 2)) (if tY E B n t < 20 then 0 else 60)) (cnd (4000 < tF E B n t + tN E B n t) (4, stp B n (tix E B n t + 2))))) → FTr A M1 → Sr M1 n B → KTr E M1 n B t → (∀ u, u < t → KSr E M1 n B u (tN E B n u).toNat) → M1 38 4 = cn → M1 0 146 = tF E B n t → RdR M1 (stp B n (tix E B n t + 1)) okF → 0 ≤ stp B n (tix E B n t + 1) → stp B n (tix E B n t + 1) ≤ n → M1 100 t = stp B n (tix E B n t) → w_X12_takeThing_b98 Q t (tO E B n t) M1 := fun M1 o0 o4 eh F1 S1 K1 L1 k38 k146 R1 p0 p1 e100 => by
    unfold w_X12_takeThing_b98
    intro v1 e1 _
    refine ⟨fun _ => p_at4 (by omega) (by omega) fun _ => ⟨by unfold ri_; omega, by omega, by omega, fun M6 e6 => ?_⟩, fun w => by have : M1 0 83 = 0 := R1.1; omega⟩
    have F6 : FTr A M6 := by rw [e6]; exact FTr_u F1 (Or.inl ⟨by decide, by omega⟩)
    have o6 : ∀ q, q ≠ 39 → M6 q = M1 q := fun q x => by rw [e6]; funext i; rw [ux_c _ _ _ _ x]
    have S6 : Sr M6 n B := by
      obtain ⟨x1, x2, x3, x4⟩ := S1
      exact ⟨by rw [o6 0 (by decide)]; exact x1, x2, x3, fun i x y => by rw [o6 98 (by decide)]; exact x4 i x y⟩
    have R6 : RdR M6 (stp B n (tix E B n t + 1)) okF := by
      refine ⟨?_, ?_, fun _ => ?_⟩ <;> rw [o6 0 (by decide)]
      · exact R1.1
      · exact R1.2.1
      · exact R1.2.2 rfl
    have e39 : M6 39 (1600 + t) = tO E B n t := by rw [e6, ux_s]
    have K6 : KTr E M6 n B t := fun u hu => by
      rw [o6 40 (by decide), o6 41 (by decide), o6 42 (by decide), o6 100 (by decide), e6, ux_i _ _ _ (by omega)]; exact K1 u hu
    refine p_takeNumber S6 p0 p1 R6 (fun z M8 o8 r8 m143 _ v9 e9 _ => ?_) (fun z M8 v o8 x83 x84 m143 _ v9 e9 _ => ?_)
    · have pz := rd_p z
      have el : (rd B n (stp B n (tix E B n t + 1))).2.2.1 = tY E B n t := rfl
      rw [el]
      have m83 : M8 0 83 = 0 := r8.1
      rw [m83] at e9
      have F8 := FTr_o F6 o8
      have S8 := Sr_o S6 o8
      have k38' : M8 38 4 = cn := by rw [o8.1 38 (by decide), o6 38 (by decide)]; exact k38
      have u2 := upf_2 (m := 45) z
      rw [el] at u2
      have e20 : M8 0 20 = E 8 0 := by rw [F8.2.2.2.2.2 20 (by decide), ← hY.1]
      refine ⟨fun w => absurd e9 w, fun _ => p_R_isType (by rw [e20]; exact h16) (fun vt _ => ⟨fun _ => ?_, fun w => absurd w (by decide)⟩) (fun vt _ => ⟨fun w => absurd rfl w, fun _ v14 e14 _ => ?_⟩)⟩
      · rw [e20] at vt
        have vt' := vt
        unfold vT at vt'
        refine d150 M8 vt (by rw [eh, u2, cnd_0 (by omega), ff_0 (show okF.1 = 0 from rfl), cnd_0 (fun q => q vt), ff_0 (show okF.1 = 0 from rfl)]) F8 S8 (KTr_o K6 (fun q hq => o8.1 q (fun y => by rw [y] at hq; revert hq; decide))) (fun u hu => KSr_o (L1 u hu) ⟨by rw [o8.1 58 (by decide), o6 58 (by decide)], by rw [o8.1 101 (by decide), o6 101 (by decide)]⟩) k38' (by rw [o8.2 146 (by decide), o6 0 (by decide)]; exact k146) r8 (by show 0 ≤ (rd B n (stp B n (tix E B n t + 1))).2.2.2; omega) pz.2.1 (by rw [o8.1 39 (by decide)]; exact e39) (by rw [o8.1 100 (by decide), o6 100 (by decide)]; exact e100)
      · rw [e20] at vt
        have e4 : hdF E B n t = (4, stp B n (tix E B n t + 1)) := by
          rw [eh, u2]
          by_cases w : tY E B n t < 0 ∨ 45 < tY E B n t
          · rw [cnd_1 w, ff_1 (show (4 : Int) ≠ 0 by decide)]
          · rw [cnd_0 w, ff_0 (show okF.1 = 0 from rfl), cnd_1 vt, ff_1 (show (4 : Int) ≠ 0 by decide)]
        have eth : thF E B n cn t = (4, stp B n (tix E B n t + 1)) := by unfold thF; rw [e4, ff_1 (show (4 : Int) ≠ 0 by decide)]
        rw [m143] at e14
        exact p_rfail m83 fun M2 o2 x83 x84 _ _ => d150a M2 (by rw [x83]; decide) (FTr_o F8 o2) (Sr_o S8 o2) (by rw [o2.1 38 (by decide)]; exact k38') (by rw [x83, eth]) (by rw [x84, eth, e14]) _
    · have u1 := upf_1 (m := 45) z
      have e : thF E B n cn t = ((rd B n (stp B n (tix E B n t + 1))).1, (rd B n (stp B n (tix E B n t + 1))).2.1) := by
        have e0 : hdF E B n t = ((rd B n (stp B n (tix E B n t + 1))).1, (rd B n (stp B n (tix E B n t + 1))).2.1) := by rw [eh, u1.1, ff_1 (show (rd B n (stp B n (tix E B n t + 1))).1 ≠ 0 from z)]
        unfold thF; rw [e0, ff_1 (show (rd B n (stp B n (tix E B n t + 1))).1 ≠ 0 from z)]
      rw [x83] at e9
      refine ⟨fun _ => d150a M8 (by rw [x83]; exact u1.2) (FTr_o F6 o8) (Sr_o S6 o8) (by rw [o8.1 38 (by decide), o6 38 (by decide)]; exact k38) (by rw [x83, e]) (by rw [x84, e]) _, fun w => absurd (by rw [← e9]; exact w) z⟩
  -- the loop that looks for the same object
  have had : ∀ M4 o, (∀ u : Nat, u < t → M4 39 (1600 + u) = tO E B n u) → (∀ h : Int, (h = 0 ∧ (∀ u, u < t → tO E B n u ≠ o)) ∨ (h = 1 ∧ ∃ u, u < t ∧ tO E B n u = o) → ∀ v2, v2 = M4 0 83 → ri_ v2 → (¬ v2 = 0 → w_X12_takeThing_b98 Q t o M4) ∧ (v2 = 0 → (o < 0 → w_X12_takeThing_b89 Q t o M4) ∧ (¬ o < 0 → (399 < o → w_X12_takeThing_b89 Q t o M4) ∧ (¬ 399 < o → (h = 0 → w_X12_takeThing_b98 Q t o M4) ∧ (¬ h = 0 → w_X12_takeThing_b89 Q t o M4))))) → w_X12_takeThing_b21 Q t o 0 0 M4 := fun M4 o h39 hend => by
    unfold w_X12_takeThing_b21
    refine loop5 _ (fun (x y h k : Int) M5 => (t : Int) = x ∧ o = y ∧ M4 = M5 ∧ ∃ K : Nat, k = K ∧ K ≤ t ∧ ((h = 0 ∧ ∀ u, u < K → tO E B n u ≠ o) ∨ (h = 1 ∧ ∃ u, u < t ∧ tO E B n u = o))) (fun (_ _ _ k : Int) _ => ((t : Int) - k).toNat) ?_ _ _ _ _ _ ⟨rfl, rfl, rfl, 0, rfl, by omega, Or.inl ⟨rfl, fun u hu => by omega⟩⟩
    rintro _ _ h k _ f ⟨rfl, rfl, rfl, K, rfl, hK, hh⟩ ih
    unfold wb_X12_takeThing_b21
    refine ⟨fun w v2 e2 g2 => hend h (by rcases hh with ⟨a, b⟩ | q; exact Or.inl ⟨a, fun u hu => b u (by omega)⟩; exact Or.inr q) v2 e2 g2, fun w => ⟨fun w2 => ?_, fun w2 => p_at4 (by omega) (by omega) fun _ => ⟨by omega, by omega, fun v10 e10 _ => ?_⟩⟩⟩
    · unfold w_X12_takeThing_b50 w_X12_takeThing_b55
      refine ⟨by unfold ri_; omega, ih _ _ _ _ _ ⟨rfl, rfl, rfl, K + 1, by omega, by omega, ?_⟩ (by omega)⟩
      rcases hh with ⟨a, -⟩ | ⟨-, b⟩
      · exact absurd a w2
      · exact Or.inr ⟨rfl, b⟩
    · rw [h39 K (by omega)] at e10
      unfold w_X12_takeThing_b50 w_X12_takeThing_b55
      refine ⟨fun w3 => ⟨by unfold ri_; omega, ih _ _ _ _ _ ⟨rfl, rfl, rfl, K + 1, by omega, by omega, ?_⟩ (by omega)⟩, fun w3 => ⟨by unfold ri_; omega, ih _ _ _ _ _ ⟨rfl, rfl, rfl, K + 1, by omega, by omega, Or.inr ⟨rfl, K, by omega, by omega⟩⟩ (by omega)⟩⟩
      rcases hh with ⟨-, b⟩ | ⟨a, -⟩
      · refine Or.inl ⟨rfl, fun u hu => ?_⟩
        by_cases w4 : u = K
        · rw [w4]; omega
        · exact b u (by omega)
      · omega
  refine p_takeNumber hS s0 s1 hR (fun z M2 o2 r2 m143 _ v3 e3 _ => ⟨by omega, by omega, fun M4 e4 => ?_⟩) (fun z M2 v o2 x83 x84 m143 _ v3 e3 _ => ⟨by omega, by omega, fun M4 e4 => ?_⟩)
  · have pz := rd_p z
    have el : (rd B n (stp B n (tix E B n t))).2.2.1 = tO E B n t := rfl
    rw [el]
    rw [m143] at e3
    have F4 : FTr A M4 := by rw [e4]; exact FTr_u (FTr_o hF o2) (by simp)
    have i4 : ∀ i, M4 0 i = M2 0 i := fun i => by rw [e4, ux_c _ _ _ _ (by decide)]
    have o4 : ∀ q, q ≠ 0 → q ≠ 100 → M4 q = M q := fun q x y => by rw [e4]; funext i; rw [ux_c _ _ _ _ y, o2.1 q x]
    have S4 : Sr M4 n B := by
      obtain ⟨x1, x2, x3, x4⟩ := Sr_o hS o2
      exact ⟨by rw [i4]; exact x1, x2, x3, fun i x y => by rw [e4, ux_c _ _ _ _ (by decide)]; exact x4 i x y⟩
    have m83 : M4 0 83 = 0 := by rw [i4]; exact r2.1
    have m143' : M4 0 143 = stp B n (tix E B n t) := by rw [i4]; exact m143
    have k38 : M4 38 4 = cn := by rw [o4 38 (by decide) (by decide)]; exact e38
    have K4 : KTr E M4 n B t := fun u hu => by
      rw [o4 39 (by decide) (by decide), o4 40 (by decide) (by decide), o4 41 (by decide) (by decide), o4 42 (by decide) (by decide), e4, ux_i _ _ _ (by omega), o2.1 100 (by decide)]; exact hK u hu
    have u2 := upf_2 (m := 399) z
    rw [el] at u2
    refine had M4 _ (fun u hu => (K4 u hu).1) fun h hh v2 e2 _ => ?_
    have b89 : ((tO E B n t < 0 ∨ 399 < tO E B n t) ∨ ∃ u, u < t ∧ tO E B n u = tO E B n t) → w_X12_takeThing_b89 Q t (tO E B n t) M4 := fun w => by
      have e4' : hdF E B n t = (4, stp B n (tix E B n t)) := by
        unfold hdF
        rw [u2]
        by_cases w' : tO E B n t < 0 ∨ 399 < tO E B n t
        · rw [cnd_1 w', ff_1 (show (4 : Int) ≠ 0 by decide)]
        · rcases w with w | w
          · exact absurd w w'
          · rw [cnd_0 w', ff_0 (show okF.1 = 0 from rfl), cnd_1 w, ff_1 (show (4 : Int) ≠ 0 by decide)]
      have eth : thF E B n cn t = (4, stp B n (tix E B n t)) := by unfold thF; rw [e4', ff_1 (show (4 : Int) ≠ 0 by decide)]
      unfold w_X12_takeThing_b89
      intro v1 e1 _
      rw [m143'] at e1
      exact p_rfail m83 fun M5 o5 x83 x84 _ _ => d98a M5 (by rw [x83]; decide) (FTr_o F4 o5) (Sr_o S4 o5) (by rw [o5.1 38 (by decide)]; exact k38) (by rw [x83, eth]) (by rw [x84, eth, e1]) _
    rw [m83] at e2
    refine ⟨fun w => absurd e2 w, fun _ => ⟨fun w => b89 (Or.inl (Or.inl w)), fun w => ⟨fun w2 => b89 (Or.inl (Or.inr w2)), fun w2 => ⟨fun w3 => ?_, fun w3 => b89 (Or.inr ?_)⟩⟩⟩⟩
    · have nd : ¬ ∃ u, u < t ∧ tO E B n u = tO E B n t := fun ⟨u, hu, q⟩ => by
        rcases hh with ⟨-, b⟩ | ⟨a, -⟩
        · exact b u hu q
        · omega
      refine d98 M4 (by omega) (by omega) (by unfold hdF; rw [u2, cnd_0 (by omega), ff_0 (show okF.1 = 0 from rfl), cnd_0 nd, ff_0 (show okF.1 = 0 from rfl)]) F4 S4 K4 (fun u hu => KSr_o (hsl u hu) ⟨o4 58 (by decide) (by decide), o4 101 (by decide) (by decide)⟩) k38 (by rw [i4, o2.2 146 (by decide)]; exact e146) ⟨m83, by rw [i4]; exact r2.2.1, fun _ => by rw [i4]; exact r2.2.2 rfl⟩ (by show 0 ≤ (rd B n (stp B n (tix E B n t))).2.2.2; omega) pz.2.1 (by rw [e4, ux_s, e3])
    · rcases hh with ⟨a, -⟩ | ⟨-, b⟩
      · exact absurd a w3
      · exact b
  · have u1 := upf_1 (m := 399) z
    have e : thF E B n cn t = ((rd B n (stp B n (tix E B n t))).1, (rd B n (stp B n (tix E B n t))).2.1) := by
      have e0 : hdF E B n t = ((rd B n (stp B n (tix E B n t))).1, (rd B n (stp B n (tix E B n t))).2.1) := by unfold hdF; rw [u1.1, ff_1 (show (rd B n (stp B n (tix E B n t))).1 ≠ 0 from z)]
      unfold thF; rw [e0, ff_1 (show (rd B n (stp B n (tix E B n t))).1 ≠ 0 from z)]
    have F4 : FTr A M4 := by rw [e4]; exact FTr_u (FTr_o hF o2) (by simp)
    have i4 : ∀ i, M4 0 i = M2 0 i := fun i => by rw [e4, ux_c _ _ _ _ (by decide)]
    have o4 : ∀ q, q ≠ 0 → q ≠ 100 → M4 q = M q := fun q x y => by rw [e4]; funext i; rw [ux_c _ _ _ _ y, o2.1 q x]
    have S4 : Sr M4 n B := by
      obtain ⟨x1, x2, x3, x4⟩ := Sr_o hS o2
      exact ⟨by rw [i4]; exact x1, x2, x3, fun i x y => by rw [e4, ux_c _ _ _ _ (by decide)]; exact x4 i x y⟩
    refine had M4 _ (fun u hu => by rw [o4 39 (by decide) (by decide)]; exact (hK u hu).1) fun h hh v2 e2 _ => ⟨fun _ => d98a M4 (by rw [i4, x83]; exact u1.2) F4 S4 (by rw [o4 38 (by decide) (by decide)]; exact e38) (by rw [i4, x83, e]) (by rw [i4, x84, e]) _, fun w => absurd (by rw [← x83, ← i4, ← e2]; exact w) z⟩
