/-! bytes read as a picture: all things, links, roots, check: the class -/
theorem thsF_ok {E : MM} {B : Int → Int} {n cn : Int} {T : Nat} (h : (thsF E B n cn T).1 = 0) : ∀ t, t < T → (hdF E B n t).1 = 0 ∧ (slsF E B n cn t (tN E B n t).toNat).1 = 0 := by
  induction T with
  | zero => intro t ht; omega
  | succ T ih =>
    intro t ht
    obtain ⟨h1, h2⟩ := ff_z (show (ff (thsF E B n cn T) (ff (hdF E B n T) (slsF E B n cn T (tN E B n T).toNat))).1 = 0 from h)
    by_cases z : t = T
    · rw [z]; exact ff_z h2
    · exact ih h1 t (by omega)
set_option maxHeartbeats 1000000 in
theorem p_readThings {Q : Int → MM → Prop} {E M R0 : MM} {c a : Nat} {b0 n : Int} {B : Int → Int} (hY : Rty E R0) (hc : isP c) (hS : Sc M a b0 n B) (hac : ¬ (c ≤ a ∧ a ≤ c + 12)) (ha2 : a ≠ 283) (ha3 : a ≠ 284) (hF : FD E M c) (hK : KT E M c b0 n B 0) (hR : RdC M b0 2 okF) (n2 : 2 ≤ n) (q1 : (upf B n 2 400).1 = 0 → (thsF E B n (nvl B n 0) (nvl B n 0).toNat).1 = 0 → ∀ M', FD E M' c → Sc M' a b0 n B → KT E M' c b0 n B (nvl B n 0).toNat → (∀ u, u < (nvl B n 0).toNat → GT E B n u ∧ KS E M' c b0 n B u (tN E B n u).toNat) → RdC M' b0 (stp B n (tix E B n (nvl B n 0).toNat)) okF → 0 ≤ stp B n (tix E B n (nvl B n 0).toNat) → stp B n (tix E B n (nvl B n 0).toNat) ≤ n → Q 1 M') (q0 : (ff (upf B n 2 400) (thsF E B n (nvl B n 0) (nvl B n 0).toNat)).1 ≠ 0 → ∀ (M' : MM) (t : Nat), t ≤ 400 → (∀ u, u < t → GT E B n u) → FD E M' c → KT E M' c b0 n B t → M' 280 13 = (ff (upf B n 2 400) (thsF E B n (nvl B n 0) (nvl B n 0).toNat)).1 → M' 280 14 = (ff (upf B n 2 400) (thsF E B n (nvl B n 0) (nvl B n 0).toNat)).2 → Q 0 M') : w_X0_readThings c Q M := by
  have mc := isP_m hc
  unfold w_X0_readThings
  refine p_readUpTo (by unfold ri_; omega) hS (by omega) n2 hR (fun z M2 o2 r2 m10 _ => ?_) (fun z M2 o2 m10 m13 m14 _ => ?_)
  · have u := upf_0 z
    have pz := rd_p u.1
    have en : (rd B n 2).2.2.1 = nvl B n 0 := rfl
    rw [en] at u ⊢
    generalize hcn : nvl B n 0 = cn at *
    have s1 : stp B n 1 = (rd B n 2).2.2.2 := rfl
    rw [ff_0 z] at q0
    unfold w_X0_readThings_b10
    refine loop3 _ (fun (x t : Int) M1 => cn = x ∧ ∃ T : Nat, t = T ∧ (T : Int) ≤ cn ∧ (thsF E B n cn T).1 = 0 ∧ FD E M1 c ∧ Sc M1 a b0 n B ∧ KT E M1 c b0 n B T ∧ (∀ u, u < T → GT E B n u) ∧ (∀ u, u < T → KS E M1 c b0 n B u (tN E B n u).toNat) ∧ RdC M1 b0 (stp B n (tix E B n T)) okF ∧ 0 ≤ stp B n (tix E B n T) ∧ stp B n (tix E B n T) ≤ n) (fun (_ t : Int) _ => (cn - t).toNat) ?_ _ _ _ ⟨rfl, 0, rfl, by omega, rfl, FD_o (by omega) hF o2, Sc_o hS o2, KT_o hK (fun k hk => o2.1 k (by omega)), fun u hu => by omega, fun u hu => by omega, r2, by show 0 ≤ stp B n 1; omega, by show stp B n 1 ≤ n; omega⟩
    rintro _ t M1 f ⟨rfl, T, rfl, hT, tk, F1, S1, K1, G1, L1, R1, p0, p1⟩ ih
    unfold wb_X0_readThings_b10
    refine ⟨fun y v2 e2 _ => ?_, fun y => ?_⟩
    · have eT : T = cn.toNat := by omega
      rw [R1.1] at e2
      refine ⟨fun y2 => absurd e2 y2, fun _ => ?_⟩
      subst eT
      exact q1 z tk M1 F1 S1 K1 (fun u hu => ⟨G1 u hu, L1 u hu⟩) R1 p0 p1
    · have stepE : thsF E B n cn (T + 1) = ff (hdF E B n T) (slsF E B n cn T (tN E B n T).toNat) := by show ff (thsF E B n cn T) _ = _; rw [ff_0 tk]
      have bad : (thsF E B n cn (T + 1)).1 ≠ 0 → thsF E B n cn cn.toNat = thsF E B n cn (T + 1) := fun w => thsF_no w (by omega)
      refine p_readThing hY hc S1 hac ha2 ha3 F1 K1 (by omega) G1 R1 p0 p1 (fun hk M5 F5 S5 K5 R5 e5 _ => ⟨fun w => absurd w (by decide), fun _ => ?_⟩) (fun hk M5 F5 K5 x13 x14 _ => ⟨fun _ => ?_, fun w => absurd rfl w⟩)
      · have g := hdF_ok hk
        have G' : ∀ u, u < T + 1 → GT E B n u := fun u hu => by
          by_cases w : u = T
          · rw [w]; exact g
          · exact G1 u (by omega)
        have pp := stp_le 3 p1 (fun j a b => g.2.2.2.2.2.2.2.2 j a b)
        refine p_readSlots hY hc S5 hac ha2 ha3 F5 K5 (by omega) G' ⟨by omega, by omega⟩ (fun u hu => KS_o (L1 u hu) e5) R5 (by omega) pp.2 (fun sk M6 F6 S6 K6 L6 R6 z0 z1 _ => ⟨fun _ => ⟨by unfold ri_; omega, ih _ _ _ ⟨rfl, T + 1, by omega, by omega, by rw [stepE, ff_0 hk]; exact sk, F6, S6, K6, G', L6, R6, z0, z1⟩ (by omega)⟩, fun w => absurd w (by decide)⟩) (fun sk M6 F6 K6 x13 x14 _ => ⟨fun w => absurd rfl w, fun _ => ?_⟩)
        have e : thsF E B n cn cn.toNat = slsF E B n cn T (tN E B n T).toNat := by rw [bad (by rw [stepE, ff_0 hk]; exact sk), stepE, ff_0 hk]
        exact q0 (by rw [e]; exact sk) M6 (T + 1) (by omega) G' F6 K6 (by rw [x13, e]) (by rw [x14, e])
      · have e : thsF E B n cn cn.toNat = hdF E B n T := by rw [bad (by rw [stepE, ff_1 hk]; exact hk), stepE, ff_1 hk]
        exact q0 (by rw [e]; exact hk) M5 T (by omega) G1 F5 K5 (by rw [x13, e]) (by rw [x14, e])
  · rw [ff_1 z] at q0
    unfold w_X0_readThings_b10
    refine loop3 _ (fun (x t : Int) M1 => x = -1 ∧ t = 0 ∧ M2 = M1) (fun (_ t : Int) _ => 0) ?_ _ _ _ ⟨rfl, rfl, rfl⟩
    rintro _ _ _ f ⟨rfl, rfl, rfl⟩ ih
    unfold wb_X0_readThings_b10
    refine ⟨fun _ v2 e2 _ => ?_, fun y => by omega⟩
    rw [m13] at e2
    exact ⟨fun _ => q0 z M2 0 (by omega) (fun u hu => by omega) (FD_o (by omega) hF o2) (KT_o hK (fun k hk => o2.1 k (by omega))) m13 m14, fun y => absurd (by rw [← e2]; exact y) z⟩
/-- links to things that don't fit -/
noncomputable def lkF (E : MM) (B : Int → Int) (n : Int) (t k : Nat) : Int × Int := cnd (kA E (tY E B n t) k = 5 ∧ sv E B n t k ≠ -1 ∧ ¬ ft E (tY E B n (sv E B n t k).toNat) (lA E (tY E B n t) k)) (4, stp B n (sj E B n t k))
noncomputable def lksF (E : MM) (B : Int → Int) (n : Int) (t : Nat) : Nat → Int × Int
  | 0 => okF
  | k + 1 => ff (lksF E B n t k) (lkF E B n t k)
noncomputable def lnkF (E : MM) (B : Int → Int) (n : Int) : Nat → Int × Int
  | 0 => okF
  | t + 1 => ff (lnkF E B n t) (lksF E B n t (tN E B n t).toNat)
theorem lksF_no {E : MM} {B : Int → Int} {n : Int} {t k m : Nat} (h : (lksF E B n t k).1 ≠ 0) (hm : k ≤ m) : lksF E B n t m = lksF E B n t k := by
  induction m with
  | zero => rw [show k = 0 from by omega]
  | succ m ih =>
    by_cases z : k = m + 1
    · rw [z]
    · show ff (lksF E B n t m) _ = _
      rw [ih (by omega), ff_1 h]
theorem lnkF_no {E : MM} {B : Int → Int} {n : Int} {t m : Nat} (h : (lnkF E B n t).1 ≠ 0) (hm : t ≤ m) : lnkF E B n m = lnkF E B n t := by
  induction m with
  | zero => rw [show t = 0 from by omega]
  | succ m ih =>
    by_cases z : t = m + 1
    · rw [z]
    · show ff (lnkF E B n m) _ = _
      rw [ih (by omega), ff_1 h]
theorem lnkF_ok {E : MM} {B : Int → Int} {n : Int} {T : Nat} (h : (lnkF E B n T).1 = 0) : ∀ t, t < T → ∀ k : Nat, (k : Int) < tN E B n t → kA E (tY E B n t) k = 5 → sv E B n t k = -1 ∨ ft E (tY E B n (sv E B n t k).toNat) (lA E (tY E B n t) k) := by
  induction T with
  | zero => intro t ht; omega
  | succ T ih =>
    intro t ht k hk h5
    obtain ⟨h1, h2⟩ := ff_z (show (ff (lnkF E B n T) (lksF E B n T (tN E B n T).toNat)).1 = 0 from h)
    by_cases z : t = T
    · subst z
      have all : ∀ K : Nat, (lksF E B n t K).1 = 0 → ∀ k, k < K → (lkF E B n t k).1 = 0 := by
        intro K
        induction K with
        | zero => intro _ k hk; omega
        | succ K ihK =>
          intro hK k hk
          obtain ⟨g1, g2⟩ := ff_z (show (ff (lksF E B n t K) (lkF E B n t K)).1 = 0 from hK)
          by_cases w : k = K
          · rw [w]; exact g2
          · exact ihK g1 k (by omega)
      have := all _ h2 k (by omega)
      by_cases w : sv E B n t k = -1
      · exact Or.inl w
      · refine Or.inr (Classical.byContradiction fun q => ?_)
        unfold lkF at this
        rw [cnd_1 ⟨h5, w, q⟩] at this
        exact absurd (show (4 : Int) = 0 from this) (by decide)
    · exact ih h1 t (by omega) k hk h5
/-- all that is sure once the things are read -/
def AT (E : MM) (B : Int → Int) (n cn : Int) : Prop := 0 ≤ cn ∧ cn ≤ 400 ∧ (∀ u : Nat, (u : Int) < cn → GT E B n u ∧ ∀ k : Nat, (k : Int) < tN E B n u → (slF E B n cn u k).1 = 0)
theorem AT_v {E : MM} {B : Int → Int} {n cn : Int} (h : AT E B n cn) {t k : Nat} (ht : (t : Int) < cn) (hk : (k : Int) < tN E B n t) (h5 : kA E (tY E B n t) k = 5) : sv E B n t k = -1 ∨ (0 ≤ sv E B n t k ∧ sv E B n t k < cn) := by
  have := (slF_ok ((h.2.2 t ht).2 k hk)).2.1 h5
  unfold sv; rw [if_pos h5]; omega
set_option maxHeartbeats 1000000 in
theorem p_checkLinks {Q : Int → MM → Prop} {E M R0 : MM} {c a : Nat} {b0 n cn : Int} {B : Int → Int} (hY : Rty E R0) (hL : Rlk E) (hc : isP c) (hS : Sc M a b0 n B) (hF : FD E M c) (hA : AT E B n cn) (hK : KT E M c b0 n B cn.toNat) (hsl : ∀ u, u < cn.toNat → KS E M c b0 n B u (tN E B n u).toNat) (hb : ∀ t k : Nat, (t : Int) < cn → (k : Int) < tN E B n t → 0 ≤ stp B n (sj E B n t k) ∧ stp B n (sj E B n t k) ≤ n) (q1 : (lnkF E B n cn.toNat).1 = 0 → Q 1 M) (q0 : (lnkF E B n cn.toNat).1 ≠ 0 → ∀ M', O28 M M' → M' 280 13 = (lnkF E B n cn.toNat).1 → M' 280 14 = (lnkF E B n cn.toNat).2 → Q 0 M') : w_X0_checkLinks c Q M := by
  have mc := isP_m hc
  obtain ⟨-, -, -, ⟨na, -, k2, k3⟩, b00, n0, -, -⟩ := id hS
  have h16 := hY.2.2.1
  obtain ⟨c0, c4, hA'⟩ := id hA
  have hG : ∀ u, u < cn.toNat → GT E B n u := fun u hu => (hA' u (by omega)).1
  have e8 : M 8 0 = E 8 0 := by rw [hF.1 8 (by omega) (by decide) (by decide) (by decide)]
  have elA : lA M = lA E := lA_fe (hF.1 25 (by omega) (by decide) (by decide) (by decide))
  have eft : ft M = ft E := by
    have e11 := hF.1 11 (by omega) (by decide) (by decide) (by decide)
    have eu : ∀ x m, upn M x m = upn E x m := by
      intro x m
      induction m with
      | zero => rfl
      | succ m ih => rw [upn_s, upn_s, ih, e11]
    funext t w
    unfold ft heir
    simp only [eu]
  unfold w_X0_checkLinks w_X0_checkLinks_b2
  refine loop2 _ (fun (t : Int) M1 => M = M1 ∧ ∃ T : Nat, t = T ∧ (T : Int) ≤ cn ∧ (lnkF E B n T).1 = 0) (fun (t : Int) _ => (cn - t).toNat) ?_ _ _ ⟨rfl, 0, rfl, by omega, rfl⟩
  rintro t _ f ⟨rfl, T, rfl, hT, lk⟩ ih
  unfold wb_X0_checkLinks_b2
  intro v1 e1 _
  rw [hK.1] at e1
  refine ⟨fun z => q1 (by rw [show cn.toNat = T from by omega]; exact lk), fun z => ⟨by omega, by omega, fun v3 e3 _ => ?_⟩⟩
  rw [KT_4 hK (u := T) (by omega)] at e3
  subst e3
  have g := hG T (by omega)
  have nbd := tN_bd hY g
  have tl := tF_le hY (fun u hu => hG u (by omega)) (Nat.le_refl T)
  have f4 := g.2.2.2.2.2.2.2.1
  unfold w_X0_checkLinks_b17
  refine loop3 _ (fun (x p : Int) M1 => (T : Int) = x ∧ M = M1 ∧ ∃ k : Nat, p = tF E B n T + k ∧ (k : Int) ≤ tN E B n T ∧ (lksF E B n T k).1 = 0) (fun (_ p : Int) _ => (tF E B n T + tN E B n T - p).toNat) ?_ _ _ _ ⟨rfl, rfl, 0, by omega, by omega, rfl⟩
  rintro _ p _ g2 ⟨rfl, rfl, k, rfl, hk, sk0⟩ ih2
  unfold wb_X0_checkLinks_b17
  refine ⟨by unfold ri_; omega, by omega, by omega, fun v2 e2 _ => ?_⟩
  rw [show (T : Int) + 1 = ((T + 1 : Nat) : Int) from by omega, KT_4 hK (u := T + 1) (by omega), tF_s] at e2
  have nxt : (k : Int) < tN E B n T → (lkF E B n T k).1 = 0 → w_X0_checkLinks_b118 c Q f g2 T (tF E B n T + k) M := fun hk' w => by
    unfold w_X0_checkLinks_b118
    exact ⟨by unfold ri_; omega, ih2 _ _ _ ⟨rfl, rfl, k + 1, by omega, by omega, by show (ff (lksF E B n T k) (lkF E B n T k)).1 = 0; rw [ff_0 sk0]; exact w⟩ (by omega)⟩
  refine ⟨fun z2 => ⟨by unfold ri_; omega, ih _ _ ⟨rfl, T + 1, by omega, by omega, ?_⟩ (by omega)⟩, fun z2 => ⟨by omega, by omega, fun v5 e5 _ => ?_⟩⟩
  · show (ff (lnkF E B n T) (lksF E B n T (tN E B n T).toNat)).1 = 0
    rw [ff_0 lk, show (tN E B n T).toNat = k from by omega]; exact sk0
  · have ks := hsl T (by omega) k (by omega)
    rw [ks.2.1] at e5
    have skip : ¬ (kA E (tY E B n T) k = 5 ∧ sv E B n T k ≠ -1 ∧ ¬ ft E (tY E B n (sv E B n T k).toNat) (lA E (tY E B n T) k)) → (lkF E B n T k).1 = 0 := fun w => by unfold lkF; rw [cnd_0 w]; rfl
    refine ⟨fun y => ?_, fun y => ⟨by omega, by omega, fun v7 e7 _ => ?_⟩⟩
    · unfold w_X0_checkLinks_b55 w_X0_checkLinks_b56
      exact ⟨fun _ => nxt (by omega) (skip fun w => by rw [e5] at y; unfold lf at y; rw [if_pos w.1] at y; omega), fun w => absurd rfl w⟩
    · rw [ks.1] at e7
      have nk : kA E (tY E B n T) k = 5 := by
        by_cases w : kA E (tY E B n T) k = 5
        · exact w
        · rw [e5] at y; unfold lf at y; rw [if_neg w] at y; exact absurd rfl y
      refine ⟨fun y2 => ?_, fun y2 => ?_⟩
      · unfold w_X0_checkLinks_b55 w_X0_checkLinks_b56
        exact ⟨fun _ => nxt (by omega) (skip fun w => w.2.1 (by rw [← e7]; exact y2)), fun w => absurd rfl w⟩
      · have v01 : 0 ≤ sv E B n T k ∧ sv E B n T k < cn := by
          rcases AT_v hA (by omega) (by omega) nk with q | q
          · exact absurd (by rw [e7]; exact q) y2
          · exact q
        unfold w_X0_checkLinks_b56
        refine ⟨fun w => absurd w (by decide), fun _ => ⟨by omega, by omega, fun w2 f2 _ => ?_⟩⟩
        rw [ks.1] at f2
        refine ⟨by unfold ri_; omega, by omega, by omega, fun w4 f4' _ => ⟨by omega, by omega, fun w5 f5 _ => ⟨by omega, by omega, fun w6 f6 _ => ?_⟩⟩⟩
        rw [KT_4 hK (u := T) (by omega)] at f6
        rw [(hK.2.2.1 T (by omega)).2.1] at f5
        obtain ⟨V, eV⟩ : ∃ V : Nat, sv E B n T k = V := ⟨(sv E B n T k).toNat, by omega⟩
        rw [f2, eV, (hK.2.2.1 V (by omega)).2.1] at f4'
        subst f4' f5 f6
        have sz16 : tY E B n T < 20 → (k : Int) < E 16 (tY E B n T) := fun q => by
          have : tN E B n T = E 16 (tY E B n T) := by unfold tN so; rw [if_neg (by omega)]
          omega
        have lok := lA_ok hY hL g.2.2.2.1 (s := (k : Int)) (by omega) sz16 nk
        rw [show tF E B n T + (k : Int) - tF E B n T = k from by omega]
        refine ⟨by unfold ri_; omega, p_lA (by rw [e8]; exact h16) (by rw [e8]; exact g.2.2.2.1) (by omega) (fun q => by have := sz16 q; omega) ?_⟩
        rw [elA]
        intro _
        have gV := hG V (by omega)
        have eVn : (sv E B n T k).toNat = V := by omega
        refine p_fits (pOk_of (FD_Y hY (by omega) hF)) (by rw [e8]; exact gV.2.2.2.1) ?_ (fun hf _ => ⟨fun _ => nxt (by omega) (skip fun w => w.2.2 (by rw [eVn, ← eft]; exact hf)), fun w => absurd w (by decide)⟩) (fun hf _ => ⟨fun w => absurd rfl w, fun _ => ⟨by omega, by omega, fun v13 e13 _ => ?_⟩⟩)
        · unfold vT at lok; unfold ri_; omega
        · rw [ks.2.2] at e13
          have e : lkF E B n T k = (4, stp B n (sj E B n T k)) := by
            unfold lkF; rw [cnd_1 ⟨nk, by omega, by rw [eVn, ← eft]; exact hf⟩]
          have eAll : lnkF E B n cn.toNat = (4, stp B n (sj E B n T k)) := by
            have s1 : lksF E B n T (k + 1) = (4, stp B n (sj E B n T k)) := by show ff (lksF E B n T k) (lkF E B n T k) = _; rw [ff_0 sk0, e]
            have s2 : lksF E B n T (tN E B n T).toNat = (4, stp B n (sj E B n T k)) := by rw [lksF_no (k := k + 1) (by rw [s1]; show (4 : Int) ≠ 0; decide) (by omega), s1]
            have s3 : lnkF E B n (T + 1) = (4, stp B n (sj E B n T k)) := by show ff (lnkF E B n T) _ = _; rw [ff_0 lk, s2]
            rw [lnkF_no (t := T + 1) (by rw [s3]; show (4 : Int) ≠ 0; decide) (by omega), s3]
          have bb := hb T k (by omega) (by omega)
          refine p_cfail hS (by unfold ri_; omega) fun M5 o5 x13 x14 x10 _ => q0 (by rw [eAll]; show (4 : Int) ≠ 0; decide) M5 o5 (by rw [x13, eAll]) (by rw [x14, eAll, e13]; show b0 + _ - b0 = _; omega)
