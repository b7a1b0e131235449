/-! bytes read as a picture: links, roots, the reference -/
theorem p_sl4 {Q : Int → MM → Prop} {E A M : MM} {n : Int} {B : Int → Int} {T t : Nat} (hY : Rty E A) (hF : FTr A M) (hK : KTr E M n B T) (ht : t < T) (t4 : t < 400) (g : GT E B n t) (h : Q (tN E B n t) M) : w_X12_slotsIn Q 4 t M := by
  have k := hK t ht
  unfold w_X12_slotsIn
  refine p_at4 (by omega) (by omega) fun _ => ⟨by omega, by omega, fun v3 e3 _ => p_at4 (by omega) (by omega) fun _ => ⟨by omega, by omega, fun v6 e6 _ => ?_⟩⟩
  rw [k.2.1] at e3
  rw [k.2.2.1] at e6
  subst e3 e6
  exact p_R_so (FTr_Y hY hF) g.2.2.2.1 fun _ => h
theorem tN16 {E : MM} {B : Int → Int} {n : Int} {t k : Nat} (hk : (k : Int) < tN E B n t) (q : tY E B n t < 20) : (k : Int) < E 16 (tY E B n t) := by
  have : tN E B n t = E 16 (tY E B n t) := by unfold tN so; rw [if_neg (by omega)]
  omega
theorem p_lk4 {Q : Int → MM → Prop} {E A M : MM} {n : Int} {B : Int → Int} {T t k : Nat} (hY : Rty E A) (hF : FTr A M) (hK : KTr E M n B T) (ht : t < T) (t4 : t < 400) (g : GT E B n t) (hk : (k : Int) < tN E B n t) (h1 : kA E (tY E B n t) k = 5 → Q 1 M) (h0 : kA E (tY E B n t) k ≠ 5 → Q 0 M) : w_X12_linksIn Q 4 t k M := by
  have kt := hK t ht
  unfold w_X12_linksIn
  refine p_at4 (by omega) (by omega) fun _ => ⟨by omega, by omega, fun v3 e3 _ => ?_⟩
  rw [kt.2.1] at e3
  subst e3
  exact p_R_kA (FTr_Y hY hF) g.2.2.2.1 (by omega) (tN16 hk) fun _ => ⟨fun z => h0 z, fun z => h1 z⟩
theorem p_vl4 {Q : Int → MM → Prop} {E M : MM} {n : Int} {B : Int → Int} {T t k : Nat} (hK : KTr E M n B T) (ht : t < T) (t4 : t < 400) (f0 : 0 ≤ tF E B n t) (g : GT E B n t) (hs : KSr E M n B t (tN E B n t).toNat) (hk : (k : Int) < tN E B n t) (h : rl_ (sv E B n t k) → Q (sv E B n t k) M) : w_X12_valueIn Q 4 t k M := by
  have kt := hK t ht
  have f4 := g.2.2.2.2.2.2.2.1
  unfold w_X12_valueIn
  refine ⟨by unfold ri_; omega, p_at4 (by omega) (by omega) fun _ => ⟨by omega, by omega, fun v4 e4 _ => ?_⟩⟩
  rw [kt.2.2.2.1] at e4
  subst e4
  refine ⟨by unfold ri_; omega, by unfold ri_; omega, by omega, by omega, fun v7 e7 g7 => ?_⟩
  rw [show 4000 * 4 + tF E B n t + (k : Int) = 16000 + (tF E B n t + k) from by omega, (hs k (by omega)).1] at e7
  rw [e7] at g7 ⊢
  exact h g7
set_option maxHeartbeats 1000000 in
theorem p_R_checkLinks {Q : Int → MM → Prop} {E A M : MM} {n cn : Int} {B : Int → Int} (hY : Rty E A) (hL : Rlk E) (hF : FTr A M) (hA : AT E B n cn) (hK : KTr E M n B cn.toNat) (hsl : ∀ u, u < cn.toNat → KSr E M n B u (tN E B n u).toNat) (e38 : M 38 4 = cn) (h83 : M 0 83 = 0) (q0 : (lnkF E B n cn.toNat).1 = 0 → Q 0 M) (q1 : (lnkF E B n cn.toNat).1 ≠ 0 → ∀ M', O83 M M' → 0 < M' 0 83 → M' 0 83 = (lnkF E B n cn.toNat).1 → M' 0 84 = (lnkF E B n cn.toNat).2 → Q 0 M') : w_X12_checkLinks Q M := by
  obtain ⟨c0, c4, hA'⟩ := id hA
  have hG : ∀ u, u < cn.toNat → GT E B n u := fun u hu => (hA' u (by omega)).1
  have hYM := FTr_Y hY hF
  unfold w_X12_checkLinks w_X12_checkLinks_b2
  refine loop2 _ (fun (t : Int) M1 => ∃ T : Nat, t = T ∧ (T : Int) ≤ cn ∧ ((M = M1 ∧ (lnkF E B n T).1 = 0) ∨ ((lnkF E B n cn.toNat).1 ≠ 0 ∧ O83 M M1 ∧ 0 < M1 0 83 ∧ M1 0 83 = (lnkF E B n cn.toNat).1 ∧ M1 0 84 = (lnkF E B n cn.toNat).2))) (fun (t : Int) _ => (cn - t).toNat) ?_ _ _ ⟨0, rfl, by omega, Or.inl ⟨rfl, rfl⟩⟩
  rintro t M1 f ⟨T, rfl, hT, hcase⟩ ih
  unfold wb_X12_checkLinks_b2
  intro v1 e1 _
  rcases hcase with ⟨rfl, lk⟩ | ⟨b1, b2, b3, b4, b5⟩
  · rw [e38] at e1
    refine ⟨fun z => q0 (by rw [show cn.toNat = T from by omega]; exact lk), fun z v3 e3 _ => ⟨fun w => absurd (by rw [e3]; exact h83) w, fun _ => ?_⟩⟩
    have g := hG T (by omega)
    have nbd := tN_bd hY g
    have tl := tF_le hY (fun u hu => hG u (by omega)) (Nat.le_refl T)
    have f4 := g.2.2.2.2.2.2.2.1
    unfold w_X12_checkLinks_b21
    refine loop3 _ (fun (x k : Int) M2 => (T : Int) = x ∧ ∃ K : Nat, k = K ∧ (K : Int) ≤ tN E B n T ∧ ((M = M2 ∧ (lksF E B n T K).1 = 0) ∨ ((lnkF E B n cn.toNat).1 ≠ 0 ∧ O83 M M2 ∧ 0 < M2 0 83 ∧ M2 0 83 = (lnkF E B n cn.toNat).1 ∧ M2 0 84 = (lnkF E B n cn.toNat).2))) (fun (_ k : Int) _ => (tN E B n T - k).toNat) ?_ _ _ _ ⟨rfl, 0, rfl, nbd.1, Or.inl ⟨rfl, rfl⟩⟩
    rintro _ k M2 f2 ⟨rfl, K, rfl, hK1, hc2⟩ ih2
    have K2 : KTr E M2 n B cn.toNat ∧ FTr A M2 := by
      rcases hc2 with ⟨rfl, -⟩ | ⟨-, q, -⟩
      · exact ⟨hK, hF⟩
      · exact ⟨KTr_o hK (fun q' hq => q.1 q' (fun y => by rw [y] at hq; revert hq; decide)), FTr_o hF q⟩
    unfold wb_X12_checkLinks_b21
    refine p_sl4 hY K2.2 K2.1 (by omega) (by omega) g fun _ => ⟨fun z => ?_, fun z v4 e4 _ => ?_⟩
    · unfold w_X12_checkLinks_b134
      refine ⟨by unfold ri_; omega, ih _ _ ⟨T + 1, by omega, by omega, ?_⟩ (by omega)⟩
      rcases hc2 with ⟨rfl, sk0⟩ | q
      · refine Or.inl ⟨rfl, ?_⟩
        show (ff (lnkF E B n T) (lksF E B n T (tN E B n T).toNat)).1 = 0
        rw [ff_0 lk, show (tN E B n T).toNat = K from by omega]; exact sk0
      · exact Or.inr q
    · rcases hc2 with ⟨rfl, sk0⟩ | ⟨b1, b2, b3, b4, b5⟩
      · refine ⟨fun w => absurd (by rw [e4]; exact h83) w, fun _ => ?_⟩
        have nxt : (lkF E B n T K).1 = 0 → w_X12_checkLinks_b128 Q f f2 T K M := fun w => by
          unfold w_X12_checkLinks_b128
          exact ⟨by unfold ri_; omega, ih2 _ _ _ ⟨rfl, K + 1, by omega, by omega, Or.inl ⟨rfl, by show (ff (lksF E B n T K) (lkF E B n T K)).1 = 0; rw [ff_0 sk0]; exact w⟩⟩ (by omega)⟩
        have skip : ¬ (kA E (tY E B n T) K = 5 ∧ sv E B n T K ≠ -1 ∧ ¬ ft E (tY E B n (sv E B n T K).toNat) (lA E (tY E B n T) K)) → (lkF E B n T K).1 = 0 := fun w => by unfold lkF; rw [cnd_0 w]; rfl
        refine p_lk4 hY hF hK (by omega) (by omega) g (by omega) (fun nk _ => ⟨fun w => absurd w (by decide), fun _ => p_vl4 hK (by omega) (by omega) tl.1 g (hsl T (by omega)) (by omega) fun _ _ => ?_⟩) (fun nk _ => ⟨fun _ => ?_, fun w => absurd rfl w⟩)
        · unfold w_X12_checkLinks_b61
          refine ⟨fun w => nxt (skip fun q => q.2.1 w), fun w => ?_⟩
          have v01 : 0 ≤ sv E B n T K ∧ sv E B n T K < cn := by
            rcases AT_v hA (by omega) (by omega) nk with q | q
            · exact absurd q w
            · exact q
          obtain ⟨V, eV⟩ : ∃ V : Nat, sv E B n T K = V := ⟨(sv E B n T K).toNat, by omega⟩
          have eVn : (sv E B n T K).toNat = V := by omega
          refine ⟨by unfold ri_; omega, p_at4 v01.1 (by omega) fun _ => ⟨by omega, by omega, fun v5 e5 _ => p_at4 (by omega) (by omega) fun _ => ⟨by omega, by omega, fun v8 e8 _ => ?_⟩⟩⟩
          rw [eV, (hK V (by omega)).2.1] at e5
          rw [(hK T (by omega)).2.1] at e8
          subst e5 e8
          have lok := lA_ok hY hL g.2.2.2.1 (s := (K : Int)) (by omega) (tN16 (by omega)) nk
          refine p_R_lA hYM g.2.2.2.1 (by omega) (tN16 (by omega)) nk fun _ => p_R_fits hYM (hG V (by omega)).2.2.2.1 lok (fun hf _ => ⟨fun _ => nxt (skip fun q => q.2.2 (by rw [eVn]; exact hf)), fun w' => absurd w' (by decide)⟩) (fun hf _ => ⟨fun w' => absurd rfl w', fun _ => p_at4 (by omega) (by omega) fun _ => ⟨by omega, by omega, fun v16 e16 _ => ?_⟩⟩)
          rw [(hK T (by omega)).2.2.2.1] at e16
          subst e16
          refine ⟨by unfold ri_; omega, by omega, by omega, fun v18 e18 _ => ?_⟩
          rw [(hsl T (by omega) K (by omega)).2] at e18
          have e : lkF E B n T K = (4, stp B n (sj E B n T K)) := by unfold lkF; rw [cnd_1 ⟨nk, by omega, by rw [eVn]; exact hf⟩]
          have eAll : lnkF E B n cn.toNat = (4, stp B n (sj E B n T K)) := by
            have s1 : lksF E B n T (K + 1) = (4, stp B n (sj E B n T K)) := by show ff (lksF E B n T K) (lkF E B n T K) = _; rw [ff_0 sk0, e]
            have s2 : lksF E B n T (tN E B n T).toNat = (4, stp B n (sj E B n T K)) := by rw [lksF_no (k := K + 1) (by rw [s1]; show (4 : Int) ≠ 0; decide) (by omega), s1]
            have s3 : lnkF E B n (T + 1) = (4, stp B n (sj E B n T K)) := by show ff (lnkF E B n T) _ = _; rw [ff_0 lk, s2]
            rw [lnkF_no (t := T + 1) (by rw [s3]; show (4 : Int) ≠ 0; decide) (by omega), s3]
          refine p_rfail h83 fun M5 o5 x83 x84 _ _ => ?_
          unfold w_X12_checkLinks_b128
          exact ⟨by unfold ri_; omega, ih2 _ _ _ ⟨rfl, K + 1, by omega, by omega, Or.inr ⟨by rw [eAll]; show (4 : Int) ≠ 0; decide, o5, by rw [x83]; decide, by rw [x83, eAll], by rw [x84, eAll, e18]⟩⟩ (by omega)⟩
        · unfold w_X12_checkLinks_b61
          exact ⟨fun _ => nxt (skip fun q => nk q.1), fun w => absurd rfl w⟩
      · refine ⟨fun w => ?_, fun w => by omega⟩
        unfold w_X12_checkLinks_b134
        exact ⟨by unfold ri_; omega, ih _ _ ⟨T + 1, by omega, by omega, Or.inr ⟨b1, b2, b3, b4, b5⟩⟩ (by omega)⟩
  · exact ⟨fun _ => q1 b1 M1 b2 b3 b4 b5, fun _ v3 e3 _ => ⟨fun _ => q1 b1 M1 b2 b3 b4 b5, fun w => by omega⟩⟩
def KRr (E M : MM) (n cn : Int) (B : Int → Int) (r : Nat) : Prop := M 55 4 = r ∧ ∀ i : Nat, i < r → M 56 (512 + i) = rN E B n cn i ∧ M 57 (512 + i) = rQ E B n cn i
noncomputable def rtA (E : MM) (B : Int → Int) (n cn : Int) : Int × Int := ff (upf B n (stp B n (rJ E B n cn)) 108) (rtsF E B n cn (rC E B n cn).toNat)
def ORr (M M' : MM) : Prop := (∀ k, k ≠ 0 → k ≠ 55 → k ≠ 56 → k ≠ 57 → M' k = M k) ∧ ∀ i, i ∉ ([83, 84, 142, 143] : List Int) → M' 0 i = M 0 i
theorem ORr_o {A M M' : MM} (h : ORr A M) (o : O83 M M') : ORr A M' := ⟨fun k a b d e => by rw [o.1 k a]; exact h.1 k a b d e, fun i a => by rw [o.2 i a]; exact h.2 i a⟩
set_option maxHeartbeats 2000000 in
theorem p_takeRoots {Q : Int → MM → Prop} {E A M : MM} {n cn : Int} {B : Int → Int} (hF : FTr A M) (hS : Sr M n B) (hcn : 0 ≤ cn ∧ cn ≤ 400) (e38 : M 38 4 = cn) (hR : RdR M (stp B n (rJ E B n cn)) okF) (s0 : 0 ≤ stp B n (rJ E B n cn)) (s1 : stp B n (rJ E B n cn) ≤ n) (q0 : (rtA E B n cn).1 = 0 → ∀ M', FTr A M' → Sr M' n B → ORr M M' → KRr E M' n cn B (rC E B n cn).toNat → RdR M' (rE E B n cn) okF → 0 ≤ rE E B n cn → rE E B n cn ≤ n → Q 0 M') (q1 : (rtA E B n cn).1 ≠ 0 → ∀ M', FTr A M' → Sr M' n B → ORr M M' → 0 < M' 0 83 → M' 0 83 = (rtA E B n cn).1 → M' 0 84 = (rtA E B n cn).2 → Q 0 M') : w_X12_takeRoots Q M := by
  have OR0 : ORr M M := ⟨fun _ _ _ _ _ => rfl, fun _ _ => rfl⟩
  -- a fault ends the loop at once
  have stopd : ∀ M1 x1, (rtA E B n cn).1 ≠ 0 → FTr A M1 → Sr M1 n B → ORr M M1 → 0 < M1 0 83 → M1 0 83 = (rtA E B n cn).1 → M1 0 84 = (rtA E B n cn).2 → w_X12_takeRoots_b35 Q x1 M1 := fun M1 x1 b0 b1 b2 b3 b4 b5 b6 => by
    unfold w_X12_takeRoots_b35
    intro M2 e2
    have F2 : FTr A M2 := by rw [e2]; exact FTr_u b1 (by simp)
    have i2 : ∀ i, M2 0 i = M1 0 i := fun i => by rw [e2, ux_c _ _ _ _ (by decide)]
    have S2 : Sr M2 n B := by
      obtain ⟨x1, x2, x3, x4⟩ := b2
      exact ⟨by rw [i2]; exact x1, x2, x3, fun i x y => by rw [e2, ux_c _ _ _ _ (by decide)]; exact x4 i x y⟩
    have O2 : ORr M M2 := ⟨fun k x y u v => by rw [e2]; funext i; rw [ux_c _ _ _ _ y]; rw [b3.1 k x y u v], fun i x => by rw [i2]; exact b3.2 i x⟩
    unfold w_X12_takeRoots_b49
    refine loop4 _ (fun (x y r : Int) M3 => M2 = M3) (fun (_ _ _ : Int) _ => 0) ?_ _ _ _ _ rfl
    rintro x y r _ f rfl ih
    have fin : Q 0 M2 := q1 b0 M2 F2 S2 O2 (by rw [i2]; exact b4) (by rw [i2]; exact b5) (by rw [i2]; exact b6)
    unfold wb_X12_takeRoots_b49
    exact ⟨fun _ => fin, fun _ v2 e2' _ => ⟨fun _ => fin, fun w => by rw [i2] at e2'; omega⟩⟩
  unfold w_X12_takeRoots
  refine p_takeNumber hS s0 s1 hR (fun z M2 o2 r2 m143 _ v3 e3 _ => ?_) (fun z M2 v o2 x83 x84 m143 _ v3 e3 _ => ?_)
  · have pz := rd_p z
    have el : (rd B n (stp B n (rJ E B n cn))).2.2.1 = rC E B n cn := rfl
    rw [el]
    have m83 : M2 0 83 = 0 := r2.1
    rw [m83] at e3
    have u2 := upf_2 (m := 108) z
    rw [el] at u2
    have F2 := FTr_o hF o2
    have S2 := Sr_o hS o2
    have OR2 := ORr_o OR0 o2
    have bad : (rC E B n cn < 0 ∨ 108 < rC E B n cn) → w_X12_takeRoots_b26 Q (rC E B n cn) M2 := fun w => by
      have e : rtA E B n cn = (4, stp B n (rJ E B n cn)) := by unfold rtA; rw [u2, cnd_1 w, ff_1 (show (4 : Int) ≠ 0 by decide)]
      unfold w_X12_takeRoots_b26
      intro v1 e1 _
      rw [m143] at e1
      exact p_rfail m83 fun M5 o5 x83 x84 _ _ => stopd M5 _ (by rw [e]; show (4 : Int) ≠ 0; decide) (FTr_o F2 o5) (Sr_o S2 o5) (ORr_o OR2 o5) (by rw [x83]; decide) (by rw [x83, e]) (by rw [x84, e, e1])
    have good : 0 ≤ rC E B n cn → rC E B n cn ≤ 108 → w_X12_takeRoots_b35 Q (rC E B n cn) M2 := fun c0 c1 => by
      have eA : rtA E B n cn = rtsF E B n cn (rC E B n cn).toNat := by unfold rtA; rw [u2, cnd_0 (by omega), ff_0 (show okF.1 = 0 from rfl)]
      rw [eA] at q0 q1
      unfold w_X12_takeRoots_b35
      intro M3 e3'
      have F3 : FTr A M3 := by rw [e3']; exact FTr_u F2 (by simp)
      have i3 : ∀ i, M3 0 i = M2 0 i := fun i => by rw [e3', ux_c _ _ _ _ (by decide)]
      have S3 : Sr M3 n B := by
        obtain ⟨x1, x2, x3, x4⟩ := S2
        exact ⟨by rw [i3]; exact x1, x2, x3, fun i x y => by rw [e3', ux_c _ _ _ _ (by decide)]; exact x4 i x y⟩
      have O3 : ORr M M3 := ⟨fun k x y u v => by rw [e3']; funext i; rw [ux_c _ _ _ _ y]; rw [OR2.1 k x y u v], fun i x => by rw [i3]; exact OR2.2 i x⟩
      unfold w_X12_takeRoots_b49
      refine loop4 _ (fun (x h r : Int) M4 => rC E B n cn = x ∧ ∃ T : Nat, r = T ∧ (T : Int) ≤ rC E B n cn ∧ FTr A M4 ∧ Sr M4 n B ∧ ORr M M4 ∧ (((rtsF E B n cn T).1 = 0 ∧ h = rH E B n cn T ∧ KRr E M4 n cn B T ∧ RdR M4 (stp B n (rJ E B n cn + 1 + 2 * T)) okF ∧ 0 ≤ stp B n (rJ E B n cn + 1 + 2 * T) ∧ stp B n (rJ E B n cn + 1 + 2 * T) ≤ n) ∨ ((rtsF E B n cn (rC E B n cn).toNat).1 ≠ 0 ∧ 0 < M4 0 83 ∧ M4 0 83 = (rtsF E B n cn (rC E B n cn).toNat).1 ∧ M4 0 84 = (rtsF E B n cn (rC E B n cn).toNat).2))) (fun (_ _ r : Int) _ => (rC E B n cn - r).toNat) ?_ _ _ _ _ ⟨rfl, 0, rfl, by omega, F3, S3, O3, Or.inl ⟨rfl, rfl, ⟨by rw [e3', ux_s]; rfl, fun i hi => by omega⟩, ⟨by rw [i3]; exact r2.1, by rw [i3]; exact r2.2.1, fun _ => by rw [i3]; exact r2.2.2 rfl⟩, by show 0 ≤ (rd B n (stp B n (rJ E B n cn))).2.2.2; omega, pz.2.1⟩⟩
      rintro _ h r M4 f ⟨rfl, T, rfl, hT, F4, S4, O4, hcase⟩ ih
      have stopN : ∀ M5 h', (rtsF E B n cn (rC E B n cn).toNat).1 ≠ 0 → FTr A M5 → Sr M5 n B → ORr M M5 → 0 < M5 0 83 → M5 0 83 = (rtsF E B n cn (rC E B n cn).toNat).1 → M5 0 84 = (rtsF E B n cn (rC E B n cn).toNat).2 → (T : Int) + 1 ≤ rC E B n cn → w_X12_takeRoots_b176 Q f (rC E B n cn) h' T M5 := fun M5 h' b0 b1 b2 b3 b4 b5 b6 b7 => by
        unfold w_X12_takeRoots_b176
        exact ⟨by unfold ri_; omega, ih _ _ _ _ ⟨rfl, T + 1, by omega, by omega, b1, b2, b3, Or.inr ⟨b0, b4, b5, b6⟩⟩ (by omega)⟩
      unfold wb_X12_takeRoots_b49
      rcases hcase with ⟨tk, rfl, K4, R4, p0, p1⟩ | ⟨b0, b1, b2, b3⟩
      · have n83 : M4 0 83 = 0 := R4.1
        refine ⟨fun w => ?_, fun w v2 e2 _ => ⟨fun w2 => absurd (by rw [e2]; exact n83) w2, fun _ => ?_⟩⟩
        · have eT : T = (rC E B n cn).toNat := by omega
          subst eT
          exact q0 tk M4 F4 S4 O4 K4 R4 p0 p1
        · have stepE : rtsF E B n cn (T + 1) = rtF E B n cn T := by show ff (rtsF E B n cn T) _ = _; rw [ff_0 tk]
          have eAll : (rtF E B n cn T).1 ≠ 0 → rtsF E B n cn (rC E B n cn).toNat = rtF E B n cn T := fun w' => by rw [rtsF_no (t := T + 1) (by rw [stepE]; exact w') (by omega), stepE]
          -- behind the number of the root
          have b158a : ∀ M5 x3 x6 x8, (rtF E B n cn T).1 ≠ 0 → FTr A M5 → Sr M5 n B → ORr M M5 → 0 < M5 0 83 → M5 0 83 = (rtF E B n cn T).1 → M5 0 84 = (rtF E B n cn T).2 → w_X12_takeRoots_b158 Q f (rC E B n cn) x3 T x6 x8 M5 := fun M5 x3 x6 x8 w' b1 b2 b3 b4 b5 b6 => by
            unfold w_X12_takeRoots_b158
            intro v1 e1 _
            refine ⟨fun _ => stopN M5 _ (by rw [eAll w']; exact w') b1 b2 b3 b4 (by rw [eAll w']; exact b5) (by rw [eAll w']; exact b6) (by omega), fun w'' => by omega⟩
          have b120a : ∀ M5 x3 x6 s, (rtF E B n cn T).1 ≠ 0 → FTr A M5 → Sr M5 n B → ORr M M5 → 0 < M5 0 83 → M5 0 83 = (rtF E B n cn T).1 → M5 0 84 = (rtF E B n cn T).2 → w_X12_takeRoots_b120 Q f (rC E B n cn) x3 T x6 s M5 := fun M5 x3 x6 s w' b1 b2 b3 b4 b5 b6 => by
            unfold w_X12_takeRoots_b120
            intro v1 e1 _
            exact ⟨fun _ => b158a M5 x3 x6 s w' b1 b2 b3 b4 b5 b6, fun w'' => by omega⟩
          have b102a : ∀ M5 x6, (rtF E B n cn T).1 ≠ 0 → FTr A M5 → Sr M5 n B → ORr M M5 → 0 < M5 0 83 → M5 0 83 = (rtF E B n cn T).1 → M5 0 84 = (rtF E B n cn T).2 → w_X12_takeRoots_b102 Q f (rC E B n cn) T x6 M5 := fun M5 x6 w' b1 b2 b3 b4 b5 b6 => by
            unfold w_X12_takeRoots_b102
            intro v1 e1 _
            exact ⟨fun _ => b120a M5 _ _ _ w' b1 b2 b3 b4 b5 b6, fun w'' => by omega⟩
          refine p_takeNumber S4 p0 p1 R4 (fun z1 M5 o5 r5 x143 _ v6 e6 _ => ?_) (fun z1 M5 v o5 x83 x84 x143 _ v6 e6 _ => ?_)
          · have pz1 := rd_p z1
            have e1 : (rd B n (stp B n (rJ E B n cn + 1 + 2 * T))).2.2.1 = rN E B n cn T := rfl
            rw [e1]
            have F5 := FTr_o F4 o5
            have S5 := Sr_o S4 o5
            have O5 := ORr_o O4 o5
            have k83 : M5 0 83 = 0 := r5.1
            rw [k83] at e6
            have u21 := upf_2 (m := 107) z1
            rw [e1] at u21
            have hH : -1 ≤ rH E B n cn T := by
              cases T with
              | zero => exact Int.le_refl _
              | succ T' =>
                have := (rtF_ok (rtsF_ok tk T' (by omega))).1
                show -1 ≤ rN E B n cn T'
                omega
            have bad1 : (rN E B n cn T ≤ rH E B n cn T ∨ 107 < rN E B n cn T) → w_X12_takeRoots_b93 Q f (rC E B n cn) T (rN E B n cn T) M5 := fun w' => by
              have e : rtF E B n cn T = (4, stp B n (rJ E B n cn + 1 + 2 * T)) := by
                unfold rtF
                rw [u21]
                by_cases w'' : rN E B n cn T < 0 ∨ 107 < rN E B n cn T
                · rw [cnd_1 w'', ff_1 (show (4 : Int) ≠ 0 by decide)]
                · rw [cnd_0 w'', ff_0 (show okF.1 = 0 from rfl), cnd_1 (by omega), ff_1 (show (4 : Int) ≠ 0 by decide)]
              unfold w_X12_takeRoots_b93
              intro v1 e1' _
              rw [x143] at e1'
              exact p_rfail k83 fun M7 o7 y83 y84 _ _ => b102a M7 _ (by rw [e]; show (4 : Int) ≠ 0; decide) (FTr_o F5 o7) (Sr_o S5 o7) (ORr_o O5 o7) (by rw [y83]; decide) (by rw [y83, e]) (by rw [y84, e, e1'])
            have good1 : ¬ (rN E B n cn T ≤ rH E B n cn T ∨ 107 < rN E B n cn T) → w_X12_takeRoots_b102 Q f (rC E B n cn) T (rN E B n cn T) M5 := fun w' => by
              have pre : rtF E B n cn T = upf B n (stp B n (rJ E B n cn + 1 + 2 * T + 1)) (cn - 1) := by
                unfold rtF
                rw [u21, cnd_0 (by omega), ff_0 (show okF.1 = 0 from rfl), cnd_0 (by omega), ff_0 (show okF.1 = 0 from rfl)]
              unfold w_X12_takeRoots_b102
              intro v1 e1' _
              rw [k83] at e1'
              refine ⟨fun w'' => absurd e1' w'', fun _ => ?_⟩
              refine p_takeNumber (s := stp B n (rJ E B n cn + 1 + 2 * T + 1)) S5 (by show 0 ≤ (rd B n (stp B n (rJ E B n cn + 1 + 2 * T))).2.2.2; omega) pz1.2.1 (show RdR M5 (stp B n (rJ E B n cn + 1 + 2 * T + 1)) okF from r5) (fun z3 M7 o7 r7 y143 _ => ?_) (fun z3 M7 v o7 y83 y84 y143 _ => ?_)
              · have pz3 := rd_p z3
                have e3' : (rd B n (stp B n (rJ E B n cn + 1 + 2 * T + 1))).2.2.1 = rQ E B n cn T := rfl
                rw [e3']
                have F7 := FTr_o F5 o7
                have S7 := Sr_o S5 o7
                have O7 := ORr_o O5 o7
                have j83 : M7 0 83 = 0 := r7.1
                have u23 := upf_2 (m := cn - 1) z3
                rw [e3'] at u23
                have bad3 : (rQ E B n cn T < 0 ∨ cn - 1 < rQ E B n cn T) → w_X12_takeRoots_b149 Q f (rC E B n cn) (rN E B n cn T) T (rN E B n cn T) (rQ E B n cn T) M7 := fun w'' => by
                  have e : rtF E B n cn T = (4, stp B n (rJ E B n cn + 1 + 2 * T + 1)) := by rw [pre, u23, cnd_1 w'']
                  unfold w_X12_takeRoots_b149
                  intro v1'' e1'' _
                  rw [y143] at e1''
                  exact p_rfail j83 fun M8 o8 w83 w84 _ _ => b158a M8 _ _ _ (by rw [e]; show (4 : Int) ≠ 0; decide) (FTr_o F7 o8) (Sr_o S7 o8) (ORr_o O7 o8) (by rw [w83]; decide) (by rw [w83, e]) (by rw [w84, e, e1''])
                have good3 : 0 ≤ rQ E B n cn T → rQ E B n cn T < cn → w_X12_takeRoots_b158 Q f (rC E B n cn) (rN E B n cn T) T (rN E B n cn T) (rQ E B n cn T) M7 := fun a0 a1 => by
                  have ok : (rtF E B n cn T).1 = 0 := by rw [pre, u23, cnd_0 (by omega)]; rfl
                  unfold w_X12_takeRoots_b158
                  intro v1'' e1'' _
                  rw [j83] at e1''
                  refine ⟨fun w'' => absurd e1'' w'', fun _ => ⟨by unfold ri_; omega, by unfold ri_; omega, ?_⟩⟩
                  have c55 : M7 55 4 = T := by rw [o7.1 55 (by decide), o5.1 55 (by decide)]; exact K4.1
                  unfold w_X12_addRoot
                  refine ⟨by unfold ri_; omega, by omega, by omega, fun w2 f2 _ => ?_⟩
                  rw [c55] at f2
                  refine ⟨by unfold ri_; omega, by omega, by omega, fun N4 g4 => ⟨by unfold ri_; omega, by omega, by omega, fun w6 f6 _ => ?_⟩⟩
                  rw [g4, ux_c _ _ _ _ (by decide), c55] at f6
                  refine ⟨by unfold ri_; omega, by omega, by omega, fun N8 g8 => ⟨by omega, by omega, fun w9 f9 _ => ?_⟩⟩
                  rw [g8, g4, ux_c _ _ _ _ (by decide), ux_c _ _ _ _ (by decide), c55] at f9
                  refine ⟨by unfold ri_; omega, by omega, by omega, fun N11 g11 => ?_⟩
                  have F11 : FTr A N11 := by rw [g11, g8, g4]; exact FTr_u (FTr_u (FTr_u F7 (Or.inr (Or.inr (Or.inr (Or.inl ⟨by decide, by omega⟩))))) (Or.inr (Or.inr (Or.inr (Or.inl ⟨by decide, by omega⟩))))) (by simp)
                  have ok11 : ∀ q, q ≠ 55 → q ≠ 56 → q ≠ 57 → N11 q = M7 q := fun q x y u => by rw [g11, g8, g4]; funext i; rw [ux_c _ _ _ _ x, ux_c _ _ _ _ u, ux_c _ _ _ _ y]
                  have S11 : Sr N11 n B := by
                    obtain ⟨x1, x2, x3, x4⟩ := S7
                    exact ⟨by rw [ok11 0 (by decide) (by decide) (by decide)]; exact x1, x2, x3, fun i x y => by rw [ok11 98 (by decide) (by decide) (by decide)]; exact x4 i x y⟩
                  unfold w_X12_takeRoots_b176
                  refine ⟨by unfold ri_; omega, ih _ _ _ _ ⟨rfl, T + 1, by omega, by omega, F11, S11, ⟨fun k x y u v => by rw [ok11 k y u v]; exact O7.1 k x y u v, fun i x => by rw [ok11 0 (by decide) (by decide) (by decide)]; exact O7.2 i x⟩, Or.inl ⟨by rw [stepE]; exact ok, rfl, ⟨by rw [g11, ux_s, f9]; omega, fun i hi => ?_⟩, ⟨?_, ?_, fun _ => ?_⟩, ?_, ?_⟩⟩ (by omega)⟩
                  · have e5 : ∀ q i, q = 56 ∨ q = 57 → M7 q i = M4 q i := fun q i hq => by rw [o7.1 q (by omega), o5.1 q (by omega)]
                    rw [g11, ux_c _ _ _ _ (by decide), ux_c _ _ _ _ (by decide), g8, ux_c _ _ _ _ (by decide), g4]
                    by_cases w'' : i = T
                    · rw [w'', show (512 : Int) + (T : Int) = 128 * 4 + w2 from by omega, ux_s, show 128 * 4 + w2 = 128 * 4 + w6 from by omega, ux_s]; exact ⟨rfl, rfl⟩
                    · rw [ux_i _ _ _ (by omega), ux_i _ _ _ (by omega), ux_c _ _ _ _ (by decide), e5 56 _ (Or.inl rfl), e5 57 _ (Or.inr rfl)]; exact K4.2 i (by omega)
                  · rw [ok11 0 (by decide) (by decide) (by decide)]; exact r7.1
                  · rw [ok11 0 (by decide) (by decide) (by decide)]; exact r7.2.1
                  · rw [ok11 0 (by decide) (by decide) (by decide)]; exact r7.2.2 rfl
                  · show 0 ≤ (rd B n (stp B n (rJ E B n cn + 1 + 2 * T + 1))).2.2.2
                    have : stp B n (rJ E B n cn + 1 + 2 * T + 1) = (rd B n (stp B n (rJ E B n cn + 1 + 2 * T))).2.2.2 := rfl
                    omega
                  · exact pz3.2.1
                unfold w_X12_takeRoots_b120
                intro v1' e1'' _
                rw [j83] at e1''
                refine ⟨fun w'' => absurd e1'' w'', fun _ => ⟨fun w'' => bad3 (Or.inl w''), fun w'' v4 e4 _ => ?_⟩⟩
                have : v4 = cn := by rw [e4, O7.1 38 (by decide) (by decide) (by decide) (by decide)]; exact e38
                exact ⟨fun w3 => good3 (by omega) (by omega), fun w3 => bad3 (Or.inr (by omega))⟩
              · have u13 := upf_1 (m := cn - 1) z3
                have e : rtF E B n cn T = ((rd B n (stp B n (rJ E B n cn + 1 + 2 * T + 1))).1, (rd B n (stp B n (rJ E B n cn + 1 + 2 * T + 1))).2.1) := by rw [pre, u13.1]
                exact b120a M7 _ _ _ (by rw [e]; exact z3) (FTr_o F5 o7) (Sr_o S5 o7) (ORr_o O5 o7) (by rw [y83]; exact u13.2) (by rw [y83, e]) (by rw [y84, e])
            refine ⟨fun w' => absurd e6 w', fun _ => ⟨fun w' => bad1 (Or.inl w'), fun w' => ⟨fun w'' => good1 (by omega), fun w'' => bad1 (Or.inr (by omega))⟩⟩⟩
          · have u11 := upf_1 (m := 107) z1
            have e : rtF E B n cn T = ((rd B n (stp B n (rJ E B n cn + 1 + 2 * T))).1, (rd B n (stp B n (rJ E B n cn + 1 + 2 * T))).2.1) := by unfold rtF; rw [u11.1, ff_1 (show (rd B n (stp B n (rJ E B n cn + 1 + 2 * T))).1 ≠ 0 from z1)]
            rw [x83] at e6
            exact ⟨fun _ => b102a M5 _ (by rw [e]; exact z1) (FTr_o F4 o5) (Sr_o S4 o5) (ORr_o O4 o5) (by rw [x83]; exact u11.2) (by rw [x83, e]) (by rw [x84, e]), fun w' => absurd (by rw [← e6]; exact w') z1⟩
      · exact ⟨fun _ => q1 b0 M4 F4 S4 O4 b1 b2 b3, fun _ v2 e2 _ => ⟨fun _ => q1 b0 M4 F4 S4 O4 b1 b2 b3, fun w => by omega⟩⟩
    exact ⟨fun w => absurd e3 w, fun _ => ⟨fun w => bad (Or.inl w), fun w => ⟨fun w2 => good (by omega) w2, fun w2 => bad (Or.inr (by omega))⟩⟩⟩
  · have u1 := upf_1 (m := 108) z
    have e : rtA E B n cn = ((rd B n (stp B n (rJ E B n cn))).1, (rd B n (stp B n (rJ E B n cn))).2.1) := by unfold rtA; rw [u1.1, ff_1 (show (rd B n (stp B n (rJ E B n cn))).1 ≠ 0 from z)]
    rw [x83] at e3
    exact ⟨fun _ => stopd M2 _ (by rw [e]; exact z) (FTr_o hF o2) (Sr_o hS o2) (ORr_o OR0 o2) (by rw [x83]; exact u1.2) (by rw [x83, e]) (by rw [x84, e]), fun w => absurd (by rw [← e3]; exact w) z⟩
