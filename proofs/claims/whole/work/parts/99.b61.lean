/-! a picture that was read is put in its place -/
/-- rows of picture p may change, others not -/
def FCp (M M' : MM) (p : Int) : Prop := (∀ k, k ∉ [38, 39, 40, 41, 42, 55, 56, 57, 58] → M' k = M k) ∧ ∀ k i, 38 ≤ k → k ≤ 59 → ¬ rw_ k p i → M' k i = M k i
theorem FCp_r (M : MM) (p : Int) : FCp M M p := ⟨fun _ _ => rfl, fun _ _ _ _ _ => rfl⟩
theorem FCp_u {A M : MM} {p : Int} {q : Nat} {i x : Int} (h : FCp A M p) (hq : q ∈ [38, 39, 40, 41, 42, 55, 56, 57, 58]) (hr : rw_ q p i) : FCp A (ux_ M q i x) p := by
  refine ⟨fun k hk => ?_, fun k j a b hn => ?_⟩
  · funext j; rw [ux_c _ _ _ _ (fun y => hk (by rw [y]; exact hq)), h.1 k hk]
  · by_cases y : k = q
    · by_cases z : j = i
      · rw [y, z] at hn; exact absurd hr hn
      · rw [y, ux_i _ _ _ z, ← y]; exact h.2 k j a b hn
    · rw [ux_c _ _ _ _ y]; exact h.2 k j a b hn
set_option maxHeartbeats 1000000 in
theorem p_copyNow {Q : Int → MM → Prop} {E M : MM} {n cn p : Int} {B : Int → Int} (p0 : 0 ≤ p) (p4 : p < 4) (c0 : 0 ≤ cn) (c4 : cn ≤ 400) (hO : ROK E M n B cn) (hr0 : 0 ≤ rC E B n cn) (hr1 : rC E B n cn ≤ 108) (hq : ∀ M', FCp M M' p → M' 38 p = cn → (∀ u : Nat, u < cn.toNat → M' 39 (400 * p + u) = tO E B n u ∧ M' 40 (400 * p + u) = tY E B n u ∧ M' 41 (400 * p + u) = tL E B n u ∧ M' 42 (400 * p + u) = tF E B n u) → (∀ i, 0 ≤ i → i < 4000 → M' 58 (4000 * p + i) = M 58 (16000 + i)) → M' 55 p = rC E B n cn → (∀ r : Nat, r < (rC E B n cn).toNat → M' 56 (128 * p + r) = rN E B n cn r ∧ M' 57 (128 * p + r) = rQ E B n cn r) → w_X12_study (fun _ M4 => Q 0 M4) p M') : w_X12_copyNow Q p M := by
  obtain ⟨h38, hK, hL, hKR⟩ := hO
  unfold w_X12_copyNow
  intro v1 e1 _
  rw [h38] at e1
  refine ⟨p0, by omega, fun M2 e2 => ?_⟩
  have F2 : FCp M M2 p := by rw [e2]; exact FCp_u (FCp_r M p) (by decide) (Or.inl ⟨Or.inl rfl, rfl⟩)
  have n4 : ∀ {M1 : MM}, FCp M M1 p → M1 38 4 = cn ∧ (∀ k u, 39 ≤ k → k ≤ 42 → 0 ≤ u → M1 k (1600 + u) = M k (1600 + u)) ∧ (∀ i, 0 ≤ i → M1 58 (16000 + i) = M 58 (16000 + i)) ∧ M1 55 4 = (rC E B n cn).toNat ∧ (∀ k r, k = 56 ∨ k = 57 → 0 ≤ r → M1 k (512 + r) = M k (512 + r)) := fun {M1} h1 => by
    refine ⟨by rw [h1.2 38 4 (by omega) (by omega) (by unfold rw_; omega)]; exact h38, fun k u a b d => h1.2 k _ (by omega) (by omega) (by unfold rw_; omega), fun i a => h1.2 58 _ (by omega) (by omega) (by unfold rw_; omega), by rw [h1.2 55 4 (by omega) (by omega) (by unfold rw_; omega)]; exact hKR.1, fun k r a b => h1.2 k _ (by omega) (by omega) (by unfold rw_; omega)⟩
  -- roots
  have roots : ∀ M1, FCp M M1 p → M1 38 p = cn → (∀ u : Nat, u < cn.toNat → M1 39 (400 * p + u) = tO E B n u ∧ M1 40 (400 * p + u) = tY E B n u ∧ M1 41 (400 * p + u) = tL E B n u ∧ M1 42 (400 * p + u) = tF E B n u) → (∀ i, 0 ≤ i → i < 4000 → M1 58 (4000 * p + i) = M 58 (16000 + i)) → M1 55 p = 0 → w_X12_copyNow_b164 Q p 0 M1 := fun M1 f1 k38 kt kv k55 => by
    unfold w_X12_copyNow_b164
    refine loop3 _ (fun (a r : Int) M3 => p = a ∧ ∃ T : Nat, r = T ∧ T ≤ (rC E B n cn).toNat ∧ FCp M M3 p ∧ (∀ k, k ≠ 55 → k ≠ 56 → k ≠ 57 → M3 k = M1 k) ∧ M3 55 p = T ∧ ∀ i : Nat, i < T → M3 56 (128 * p + i) = rN E B n cn i ∧ M3 57 (128 * p + i) = rQ E B n cn i) (fun (_ r : Int) _ => (rC E B n cn - r).toNat) ?_ _ _ _ ⟨rfl, 0, rfl, by omega, f1, fun _ _ _ _ => rfl, k55, fun i hi => by omega⟩
    rintro _ r M3 f ⟨rfl, T, rfl, hT, f3, o3, k553, kr⟩ ih
    obtain ⟨g1, g2, g3, g4, g5⟩ := n4 f3
    unfold wb_X12_copyNow_b164
    intro w1 e1' _
    rw [g4] at e1'
    refine ⟨fun z => ?_, fun z => ⟨by unfold ri_; omega, by omega, by omega, fun v6 e6 _ => ⟨by unfold ri_; omega, by omega, by omega, fun v8 e8 _ => ?_⟩⟩⟩
    · have eT : T = (rC E B n cn).toNat := by omega
      subst eT
      refine hq M3 f3 (by rw [o3 38 (by decide) (by decide) (by decide)]; exact k38) (fun u hu => ?_) (fun i a b => ?_) (by rw [k553]; omega) kr
      · rw [o3 39 (by decide) (by decide) (by decide), o3 40 (by decide) (by decide) (by decide), o3 41 (by decide) (by decide) (by decide), o3 42 (by decide) (by decide) (by decide)]; exact kt u hu
      · rw [o3 58 (by decide) (by decide) (by decide)]; exact kv i a b
    · have hT' : T < (rC E B n cn).toNat := by omega
      rw [g5 56 T (Or.inl rfl) (by omega), (hKR.2 T hT').1] at e6
      rw [g5 57 T (Or.inr rfl) (by omega), (hKR.2 T hT').2] at e8
      unfold w_X12_addRoot
      refine ⟨by unfold ri_; omega, by omega, by omega, fun w2 f2 _ => ?_⟩
      rw [k553] at f2
      refine ⟨by unfold ri_; omega, by omega, by omega, fun N4 h4 => ⟨by unfold ri_; omega, by omega, by omega, fun w6 f6 _ => ?_⟩⟩
      rw [h4, ux_c _ _ _ _ (by decide), k553] at f6
      refine ⟨by unfold ri_; omega, by omega, by omega, fun N8 h8 => ⟨by omega, by omega, fun w9 f9 _ => ?_⟩⟩
      rw [h8, h4, ux_c _ _ _ _ (by decide), ux_c _ _ _ _ (by decide), k553] at f9
      refine ⟨by unfold ri_; omega, by omega, by omega, fun N11 h11 => ⟨by unfold ri_; omega, ih _ _ _ ⟨rfl, T + 1, by omega, by omega, ?_, fun k a b d => ?_, by rw [h11, ux_s, f9]; omega, fun i hi => ?_⟩ (by omega)⟩⟩
      · rw [h11, h8, h4]
        exact FCp_u (FCp_u (FCp_u f3 (by decide) (by unfold rw_; omega)) (by decide) (by unfold rw_; omega)) (by decide) (by unfold rw_; omega)
      · rw [h11, h8, h4]; funext i; rw [ux_c _ _ _ _ a, ux_c _ _ _ _ d, ux_c _ _ _ _ b, o3 k a b d]
      · rw [h11, ux_c _ _ _ _ (by decide), ux_c _ _ _ _ (by decide), h8, ux_c _ _ _ _ (by decide), h4]
        by_cases w : i = T
        · rw [w, show 128 * p + (T : Int) = 128 * p + w2 from by omega, ux_s, show 128 * p + w2 = 128 * p + w6 from by omega, ux_s]; exact ⟨e6, e8⟩
        · rw [ux_i _ _ _ (by omega), ux_i _ _ _ (by omega), ux_c _ _ _ _ (by decide)]; exact kr i (by omega)
  -- values
  have vals : ∀ M1, FCp M M1 p → M1 38 p = cn → (∀ u : Nat, u < cn.toNat → M1 39 (400 * p + u) = tO E B n u ∧ M1 40 (400 * p + u) = tY E B n u ∧ M1 41 (400 * p + u) = tL E B n u ∧ M1 42 (400 * p + u) = tF E B n u) → w_X12_copyNow_b120 Q p 0 M1 := fun M1 f1 k38 kt => by
    unfold w_X12_copyNow_b120
    refine loop3 _ (fun (a k : Int) M3 => p = a ∧ 0 ≤ k ∧ k ≤ 4000 ∧ FCp M M3 p ∧ (∀ q, q ≠ 58 → M3 q = M1 q) ∧ ∀ i, 0 ≤ i → i < k → M3 58 (4000 * p + i) = M 58 (16000 + i)) (fun (_ k : Int) _ => (4000 - k).toNat) ?_ _ _ _ ⟨rfl, by omega, by omega, f1, fun _ _ => rfl, fun i a b => by omega⟩
    rintro _ k M3 f ⟨rfl, k0, k4, f3, o3, kv⟩ ih
    obtain ⟨g1, g2, g3, g4, g5⟩ := n4 f3
    unfold wb_X12_copyNow_b120
    refine ⟨fun z => ⟨p0, by omega, fun M4 e4 => ?_⟩, fun z => ⟨by unfold ri_; omega, by unfold ri_; omega, by unfold ri_; omega, by omega, by omega, fun v6 e6 _ => ⟨by omega, by omega, fun M7 e7 => ⟨by unfold ri_; omega, ih _ _ _ ⟨rfl, by omega, by omega, ?_, fun q a => ?_, fun i a b => ?_⟩ (by omega)⟩⟩⟩⟩
    · refine roots M4 (by rw [e4]; exact FCp_u f3 (by decide) (by unfold rw_; omega)) (by rw [e4, ux_c _ _ _ _ (by decide), o3 38 (by decide)]; exact k38) (fun u hu => ?_) (fun i a b => by rw [e4, ux_c _ _ _ _ (by decide)]; exact kv i a (by omega)) (by rw [e4, ux_s])
      rw [e4, ux_c _ _ _ _ (by decide), ux_c _ _ _ _ (by decide), ux_c _ _ _ _ (by decide), ux_c _ _ _ _ (by decide), o3 39 (by decide), o3 40 (by decide), o3 41 (by decide), o3 42 (by decide)]; exact kt u hu
    · rw [e7]; exact FCp_u f3 (by decide) (by unfold rw_; omega)
    · rw [e7]; funext i; rw [ux_c _ _ _ _ a, o3 q a]
    · rw [e7]
      by_cases w : i = k
      · rw [w, ux_s, e6]; exact g3 k k0
      · rw [ux_i _ _ _ (by omega)]; exact kv i a (by omega)
  unfold w_X12_copyNow_b14
  refine loop3 _ (fun (a t : Int) M3 => p = a ∧ ∃ T : Nat, t = T ∧ (T : Int) ≤ cn ∧ FCp M M3 p ∧ M3 38 p = cn ∧ ∀ u : Nat, u < T → M3 39 (400 * p + u) = tO E B n u ∧ M3 40 (400 * p + u) = tY E B n u ∧ M3 41 (400 * p + u) = tL E B n u ∧ M3 42 (400 * p + u) = tF E B n u) (fun (_ t : Int) _ => (cn - t).toNat) ?_ _ _ _ ⟨rfl, 0, rfl, by omega, F2, by rw [e2, ux_s, e1], fun u hu => by omega⟩
  rintro _ t M3 f ⟨rfl, T, rfl, hT, f3, k38, kt⟩ ih
  obtain ⟨g1, g2, g3, g4, g5⟩ := n4 f3
  unfold wb_X12_copyNow_b14
  intro w1 e1' _
  rw [g1] at e1'
  refine ⟨fun z => vals M3 f3 k38 (by rw [show cn.toNat = T from by omega]; exact kt), fun z => ?_⟩
  have kT := hK T (by omega)
  refine p_at p0 (by omega) (by omega) (by omega) fun _ => p_at4 (by omega) (by omega) fun _ => ⟨by omega, by omega, fun v7 e7 _ => ⟨by omega, by omega, fun M8 e8 => p_at p0 (by omega) (by omega) (by omega) fun _ => p_at4 (by omega) (by omega) fun _ => ⟨by omega, by omega, fun v13 e13 _ => ⟨by omega, by omega, fun M14 e14 => p_at p0 (by omega) (by omega) (by omega) fun _ => p_at4 (by omega) (by omega) fun _ => ⟨by omega, by omega, fun v19 e19 _ => ⟨by omega, by omega, fun M20 e20 => p_at p0 (by omega) (by omega) (by omega) fun _ => p_at4 (by omega) (by omega) fun _ => ⟨by omega, by omega, fun v25 e25 _ => ⟨by omega, by omega, fun M26 e26 => ⟨by unfold ri_; omega, ih _ _ _ ⟨rfl, T + 1, by omega, by omega, ?_, ?_, fun u hu => ?_⟩ (by omega)⟩⟩⟩⟩⟩⟩⟩⟩⟩
  · rw [e26, e20, e14, e8]
    exact FCp_u (FCp_u (FCp_u (FCp_u f3 (by decide) (by unfold rw_; omega)) (by decide) (by unfold rw_; omega)) (by decide) (by unfold rw_; omega)) (by decide) (by unfold rw_; omega)
  · rw [e26, e20, e14, e8, ux_c _ _ _ _ (by decide), ux_c _ _ _ _ (by decide), ux_c _ _ _ _ (by decide), ux_c _ _ _ _ (by decide)]; exact k38
  · rw [g2 39 T (by omega) (by omega) (by omega), kT.1] at e7
    rw [e8, ux_c _ _ _ _ (by decide), g2 40 T (by omega) (by omega) (by omega), kT.2.1] at e13
    rw [e14, e8, ux_c _ _ _ _ (by decide), ux_c _ _ _ _ (by decide), g2 41 T (by omega) (by omega) (by omega), kT.2.2.1] at e19
    rw [e20, e14, e8, ux_c _ _ _ _ (by decide), ux_c _ _ _ _ (by decide), ux_c _ _ _ _ (by decide), g2 42 T (by omega) (by omega) (by omega), kT.2.2.2.1] at e25
    by_cases w : u = T
    · subst w
      refine ⟨?_, ?_, ?_, ?_⟩
      · rw [e26, e20, e14, e8, ux_c _ _ _ _ (by decide), ux_c _ _ _ _ (by decide), ux_c _ _ _ _ (by decide), ux_s, e7]
      · rw [e26, e20, e14, ux_c _ _ _ _ (by decide), ux_c _ _ _ _ (by decide), ux_s, e13]
      · rw [e26, e20, ux_c _ _ _ _ (by decide), ux_s, e19]
      · rw [e26, ux_s, e25]
    · obtain ⟨a1, a2, a3, a4⟩ := kt u (by omega)
      refine ⟨?_, ?_, ?_, ?_⟩
      · rw [e26, e20, e14, e8, ux_c _ _ _ _ (by decide), ux_c _ _ _ _ (by decide), ux_c _ _ _ _ (by decide), ux_i _ _ _ (by omega)]; exact a1
      · rw [e26, e20, e14, e8, ux_c _ _ _ _ (by decide), ux_c _ _ _ _ (by decide), ux_i _ _ _ (by omega), ux_c _ _ _ _ (by decide)]; exact a2
      · rw [e26, e20, e14, e8, ux_c _ _ _ _ (by decide), ux_i _ _ _ (by omega), ux_c _ _ _ _ (by decide), ux_c _ _ _ _ (by decide)]; exact a3
      · rw [e26, e20, e14, e8, ux_i _ _ _ (by omega), ux_c _ _ _ _ (by decide), ux_c _ _ _ _ (by decide), ux_c _ _ _ _ (by decide)]; exact a4
/-- a picture that was read well is a picture -/
theorem PW_dec {E M N R0 : MM} {c : Nat} {b0 n cn : Int} {B : Int → Int} (hY : Rty E R0) (hc : 25 < c) (hD : DOK E M c b0 n B cn) (hF : FDw E M c) (h13 : ∀ t, 0 ≤ t → t < 400 → E (c + 13) t = 0) (oN : ∀ k, k ≠ 12 → N k = M k) (uN : ∀ u : Nat, u < cn.toNat → tY E B n u < 20 → N 12 (tY E B n u) = 1) (c280 : c + 32 < 280) : PW N c := by
  obtain ⟨hA, hK, hsl, hl, hr0, hr1, hrt, hKR, hW⟩ := hD
  obtain ⟨c0, c4, hA'⟩ := id hA
  have hG : ∀ u, u < cn.toNat → GT E B n u := fun u hu => (hA' u (by omega)).1
  have e : ∀ k, k ≠ 12 → (8 ≤ k ∧ k ≤ 25) → N k = E k := fun k a b => by rw [oN k a, hF.1 k (by omega) (by omega) (by omega) (by omega)]
  have e0 : N c 0 = cn := by rw [oN c (by omega), hK.1]; omega
  have e11 : N c 11 = rC E B n cn := by rw [oN c (by omega), hKR.1]; omega
  have ekA : kA N = kA E := kA_fe (e 24 (by omega) (by omega))
  have elA : lA N = lA E := lA_fe (e 25 (by omega) (by omega))
  have eft : ft N = ft E := by
    have e11' := e 11 (by omega) (by omega)
    have eu : ∀ x m, upn N x m = upn E x m := by
      intro x m
      induction m with
      | zero => rfl
      | succ m ih => rw [upn_s, upn_s, ih, e11']
    funext t w
    unfold ft heir
    simp only [eu]
  have e16M : M 16 = E 16 := hF.1 16 (by omega) (by omega) (by omega) (by omega)
  have epc : pcn N c = pcn M c := by funext t; unfold pcn so; rw [oN (c + 2) (by omega), oN (c + 3) (by omega), oN 16 (by omega)]
  have elv : lv N c = lv M c := by funext t k; unfold lv; rw [oN (c + 10) (by omega), oN (c + 4) (by omega), oN (c + 9) (by omega)]
  have pc : ∀ T : Nat, (T : Int) < cn → pcn N c T = tN E B n T := fun T hT => by rw [epc]; exact (lvS_c hA hK hsl e16M (k := 0) hT).1
  have k4 : ∀ T : Nat, (T : Int) ≤ cn → N (c + 4) T = tF E B n T := fun T hT => by rw [oN (c + 4) (by omega)]; exact KT_4 hK (by omega)
  refine ⟨by omega, by omega, by rw [oN (c + 4) (by omega)]; exact hK.2.1, fun t a b => ?_, ?_, fun t k a b d f => ?_, fun o a b => ?_, by omega, by omega, fun r a b => ?_, fun r a b => ?_, fun t a b => ?_, fun t a b => ?_, fun t a b => ?_⟩
  · obtain ⟨T, rfl⟩ : ∃ T : Nat, t = T := ⟨t.toNat, by omega⟩
    rw [e0] at b
    have g := hG T (by omega)
    have kt := hK.2.2.1 T (by omega)
    unfold PT
    rw [oN (c + 1) (by omega), oN (c + 2) (by omega), oN (c + 3) (by omega), oN (c + 8) (by omega), kt.1, kt.2.1, kt.2.2.1, kt.2.2.2.2.2, e 8 (by omega) (by omega), pc T b, k4 T (by omega), show (T : Int) + 1 = ((T + 1 : Nat) : Int) from by omega, k4 (T + 1) (by omega), tF_s]
    exact ⟨g.1, g.2.1, g.2.2.2.1, fun q => ⟨uN T (by omega) q, g.2.2.2.2.2.2.1 q⟩, g.2.2.2.2.1, g.2.2.2.2.2.1, rfl, rfl⟩
  · rw [e0, show cn = ((cn.toNat : Nat) : Int) from by omega, k4 cn.toNat (by omega)]; exact tF_4 hG
  · obtain ⟨T, rfl⟩ : ∃ T : Nat, t = T := ⟨t.toNat, by omega⟩
    obtain ⟨K, rfl⟩ : ∃ K : Nat, k = K := ⟨k.toNat, by omega⟩
    rw [e0] at b
    rw [pc T b] at f
    have kt := hK.2.2.1 T (by omega)
    have ks := hsl T (by omega) K (by omega)
    have sk := slF_ok ((hA' T b).2 K f)
    unfold PV pK
    rw [ekA, elA, eft, oN (c + 2) (by omega), oN (c + 9) (by omega), oN (c + 10) (by omega), kt.2.1, k4 T (by omega), ks.1, ks.2.1, e0]
    refine ⟨rfl, ?_⟩
    by_cases nk : kA E (tY E B n T) K = 5
    · refine Or.inl ⟨nk, ?_⟩
      rcases AT_v hA b f nk with q | q
      · exact Or.inl q
      · rcases lnkF_ok hl T (by omega) K f nk with w | w
        · exact Or.inl w
        · refine Or.inr ⟨q.1, q.2, ?_⟩
          obtain ⟨V, eV⟩ : ∃ V : Nat, sv E B n T K = V := ⟨(sv E B n T K).toNat, by omega⟩
          rw [show (sv E B n T K).toNat = V from by omega] at w
          rw [eV, (hK.2.2.1 V (by omega)).2.1]; exact w
    · refine Or.inr ⟨nk, ?_⟩
      unfold sv; rw [if_neg nk]; exact sk.2.2 nk
  · rw [oN (c + 8) (by omega), oN (c + 1) (by omega), e0]
    rcases hK.2.2.2 o a b with q | ⟨u, q, q', q''⟩
    · exact Or.inl q
    · refine Or.inr ⟨by omega, by omega, ?_⟩
      rw [q', (hK.2.2.1 u q).1]; exact q''
  · obtain ⟨T, rfl⟩ : ∃ T : Nat, r = T := ⟨r.toNat, by omega⟩
    have := rtF_ok (hrt T (by omega))
    rw [oN (c + 12) (by omega), oN (c + 11) (by omega), (hKR.2 T (by omega)).1, (hKR.2 T (by omega)).2, e0]; omega
  · obtain ⟨T, rfl⟩ : ∃ T : Nat, r = T := ⟨r.toNat, by omega⟩
    have := (rtF_ok (hrt (T + 1) (by omega))).2.2.1
    rw [oN (c + 11) (by omega), (hKR.2 T (by omega)).1, show (T : Int) + 1 = ((T + 1 : Nat) : Int) from by omega, (hKR.2 (T + 1) (by omega)).1]
    exact this
  · rw [oN (c + 13) (by omega), hF.1 (c + 13) (by omega) (by omega) (by omega) (by omega)]; exact h13 t (by omega) b
  · rw [e0] at b
    obtain ⟨g1, g2, g3⟩ := hW.1 t a b
    unfold PZ FO
    rw [epc, elv, oN (c + 5) (by omega), oN (c + 6) (by omega), oN (c + 7) (by omega), oN (c + 11) (by omega), oN (c + 12) (by omega), oN c (by omega)]
    refine ⟨?_, g2, g3, ?_⟩
    · rcases g1 with ⟨h1, -, h2⟩ | ⟨h1, -, -⟩
      · exact Or.inl ⟨h1, h2⟩
      · obtain ⟨x1, x2, x3, x4, x5, x6, x7⟩ := h1
        have : M c 0 = cn := by rw [hK.1]; omega
        exact Or.inr ⟨x1, by omega, x3, x4, x5, x6, x7⟩
    · rcases g1 with ⟨h1, h2, -⟩ | ⟨h1, -, h3⟩
      · exact Or.inl ⟨h1, h2⟩
      · exact Or.inr ⟨h1.1, h1.2.1, h3⟩
  · rw [e0] at b
    rw [oN (c + 6) (by omega), oN (c + 7) (by omega)]; exact hW.2 t a b
