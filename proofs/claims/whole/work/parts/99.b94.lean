/-! folds -/
theorem SC_scope {c : Nat} {C0 C : MM} {k : Nat} {n q fo it s w st : Int} {nm sf wq : Int → Int} (h : SC c C0 k n q fo it s w st nm sf wq C) (D o : Int) : SC c C0 k n q fo it (s + 1) w st (scn nm s D) (scn sf s o) wq (ux_ (ux_ (ux_ C (c + 5) s D) (c + 6) s o) c 16 (s + 1)) := by
  obtain ⟨hF, hW, ⟨f1, f2, f3, f4, f5, f6, f7⟩, hR, hU⟩ := id h
  have c0 := hF.1
  refine ⟨Fpc_0 (Fpc_u (Fpc_u hF (by omega) (by omega) _ _) (by omega) (by omega) _ _) _ (by omega), Wd_u (j := 0) (Wd_u (Wd_u hW c0 _ _ _) c0 _ _ _) c0 _ _, ?_, ?_, ?_⟩
  · unfold Fl
    rw [ux_s, ux_i _ _ _ (by decide), ux_i _ _ _ (by decide), ux_i _ _ _ (by decide), ux_i _ _ _ (by decide), ux_i _ _ _ (by decide), ux_i _ _ _ (by decide), ux_g _ _ _ (by omega), ux_g _ _ _ (by omega)]
    exact ⟨f1, f2, f3, f4, rfl, f6, f7⟩
  · have e5 : ux_ (ux_ (ux_ C (c + 5) s D) (c + 6) s o) c 16 (s + 1) (c + 5) = ux_ C (c + 5) s D (c + 5) := by rw [ux_g _ _ _ (by omega), ux_g _ _ _ (by omega)]
    have e6 : ux_ (ux_ (ux_ C (c + 5) s D) (c + 6) s o) c 16 (s + 1) (c + 6) = ux_ (ux_ C (c + 5) s D) (c + 6) s o (c + 6) := by rw [ux_g _ _ _ (by omega)]
    have e7 : ux_ (ux_ (ux_ C (c + 5) s D) (c + 6) s o) c 16 (s + 1) (c + 7) = C (c + 7) := by rw [ux_g _ _ _ (by omega), ux_g _ _ _ (by omega), ux_g _ _ _ (by omega)]
    refine ⟨fun i a d => ?_, fun i a d => by rw [e7]; exact hR.2 i a d⟩
    rw [e5, e6]
    unfold scn
    by_cases y : i = s
    · rw [if_pos y, if_pos y, y, ux_s, ux_s]; exact ⟨rfl, rfl⟩
    · rw [if_neg y, if_neg y, ux_i _ _ _ y, ux_i _ _ _ y, ux_c _ _ _ _ (by omega)]; exact hR.1 i a (by omega)
  · unfold Us
    rw [ux_i _ _ _ (by decide), ux_i _ _ _ (by decide), ux_i _ _ _ (by decide), ux_g _ _ _ (by omega), ux_g _ _ _ (by omega), ux_g _ _ _ (by omega), ux_g _ _ _ (by omega), ux_g _ _ _ (by omega)]
    exact hU
theorem SC_unscope {c : Nat} {C0 C : MM} {k : Nat} {n q fo it s w st D o : Int} {nm sf wq : Int → Int} (h : SC c C0 k n q fo it (s + 1) w st (scn nm s D) (scn sf s o) wq C) : SC c C0 k n q fo it s w st nm sf wq (ux_ C c 16 s) := by
  obtain ⟨hF, hW, ⟨f1, f2, f3, f4, f5, f6, f7⟩, hR, hU⟩ := id h
  have c0 := hF.1
  refine ⟨Fpc_0 hF _ (by omega), Wd_u (j := 0) hW c0 _ _, ?_, ?_, ?_⟩
  · unfold Fl
    rw [ux_s, ux_i _ _ _ (by decide), ux_i _ _ _ (by decide), ux_i _ _ _ (by decide), ux_i _ _ _ (by decide), ux_i _ _ _ (by decide), ux_i _ _ _ (by decide)]
    exact ⟨f1, f2, f3, f4, rfl, f6, f7⟩
  · unfold Rwc
    rw [ux_g _ _ _ (by omega), ux_g _ _ _ (by omega), ux_g _ _ _ (by omega)]
    refine ⟨fun i a d => ?_, hR.2⟩
    have := hR.1 i a (by omega)
    unfold scn at this
    rw [if_neg (by omega), if_neg (by omega)] at this
    exact this
  · unfold Us
    rw [ux_i _ _ _ (by decide), ux_i _ _ _ (by decide), ux_i _ _ _ (by decide), ux_g _ _ _ (by omega)]
    exact hU
theorem SR_scope {C0 R0 R : MM} {E : Nat → Int} {b : Int} {k : Nat} {n q it s : Int} {nr_ : Int → Int} (h : SR C0 R0 E b k n q it s nr_ R) (w : Int) : SR C0 R0 E b k n q it (s + 1) (scn nr_ s w) (ux_ (ux_ R 71 s w) 0 94 (s + 1)) := by
  obtain ⟨hF, ⟨w1, w2, w3⟩, ⟨g1, g2, g3, g4, g5, g6⟩, hN⟩ := id h
  have e : ∀ i, i ≠ 94 → ux_ (ux_ R 71 s w) 0 94 (s + 1) 0 i = R 0 i := fun i hi => by rw [ux_i _ _ _ hi, ux_c _ _ _ _ (by decide)]
  refine ⟨Fpr_0 (Fpr_71 hF _ _) _ (by decide), ⟨by rw [e 78 (by decide)]; exact w1, by rw [e 79 (by decide)]; exact w2, ?_⟩, ⟨by rw [e 83 (by decide)]; exact g1, by rw [e 91 (by decide)]; exact g2, by rw [e 92 (by decide)]; exact g3, by rw [e 93 (by decide)]; exact g4, ux_s _ _ _ _, by rw [e 95 (by decide)]; exact g6⟩, fun i a c => ?_⟩
  · unfold tk at w3 ⊢
    rw [e 80 (by decide), e 85 (by decide), ux_g _ _ _ (by decide), ux_g _ _ _ (by decide)]
    exact w3
  · rw [ux_c _ _ _ _ (by decide)]
    unfold scn
    by_cases y : i = s
    · rw [if_pos y, y, ux_s]
    · rw [if_neg y, ux_i _ _ _ y]; exact hN i a (by omega)
theorem SR_unscope {C0 R0 R : MM} {E : Nat → Int} {b : Int} {k : Nat} {n q it s w : Int} {nr_ : Int → Int} (h : SR C0 R0 E b k n q it (s + 1) (scn nr_ s w) R) : SR C0 R0 E b k n q it s nr_ (ux_ R 0 94 s) := by
  obtain ⟨hF, ⟨w1, w2, w3⟩, ⟨g1, g2, g3, g4, g5, g6⟩, hN⟩ := id h
  have e : ∀ i, i ≠ 94 → ux_ R 0 94 s 0 i = R 0 i := fun i hi => by rw [ux_i _ _ _ hi]
  refine ⟨Fpr_0 hF _ (by decide), ⟨by rw [e 78 (by decide)]; exact w1, by rw [e 79 (by decide)]; exact w2, ?_⟩, ⟨by rw [e 83 (by decide)]; exact g1, by rw [e 91 (by decide)]; exact g2, by rw [e 92 (by decide)]; exact g3, by rw [e 93 (by decide)]; exact g4, ux_s _ _ _ _, by rw [e 95 (by decide)]; exact g6⟩, fun i a c => ?_⟩
  · unfold tk at w3 ⊢
    rw [e 80 (by decide), e 85 (by decide), ux_g _ _ _ (by decide)]
    exact w3
  · rw [ux_c _ _ _ _ (by decide)]
    have := hN i a (by omega)
    unfold scn at this
    rw [if_neg (by omega)] at this
    exact this
variable {c : Nat} {C0 R0 : MM} {E : Nat → Int} {L : Nat} {b it : Int} {SM ST : SMt} {q : Int}
/-- a fold of the reference unwinds -/
theorem r_f164F {Q : Int → MM → Prop} {G : Nat → (Int → MM → Prop) → List Int → MM → Prop} {R : MM} {s f pl y : Int} (h : RF R0 b (q + 1) (s + 1) f pl R) (f0 : 0 < f) (q0 : 0 ≤ q) (q1 : q ≤ 10) (s0 : 0 ≤ s) (s1 : s ≤ 10) (hq : ∀ R', RF R0 b q s f pl R' → Q y R') : w_X12_readFold_b164 G Q y R := by
  unfold w_X12_readFold_b164
  refine r_needF (by rw [h.2.1]; exact f0) (fun v3 e3 _ => ⟨by rw [h.2.2.2.2.2] at e3; unfold ri_; omega, fun M5 e5 v6 e6 _ => ?_⟩)
  have h1 := RF_94 h s
  rw [show ux_ R 0 94 s = M5 from by rw [e5, e3, h.2.2.2.2.2, Int.add_sub_cancel]] at h1
  refine ⟨by rw [h1.2.2.2.2.1] at e6; unfold ri_; omega, fun M8 e8 => hq M8 ?_⟩
  have h2 := RF_93 h1 q
  rw [show ux_ M5 0 93 q = M8 from by rw [e8, e6, h1.2.2.2.2.1, Int.add_sub_cancel]] at h2
  exact h2
theorem r_f130F {Q : Int → MM → Prop} {G : Nat → (Int → MM → Prop) → List Int → MM → Prop} {R : MM} {s f pl y kd : Int} (h : RF R0 b (q + 1) (s + 1) f pl R) (f0 : 0 < f) (q0 : 0 ≤ q) (q1 : q ≤ 10) (s0 : 0 ≤ s) (s1 : s ≤ 10) (y0 : b ≤ y) (y1 : y < b + 120) (b0 : 0 ≤ b) (b1 : b ≤ 360) (hq : ∀ R', RF R0 b q s f pl R' → Q y R') : w_X12_readFold_b130 G Q kd y R := by
  unfold w_X12_readFold_b130 w_X12_readFold_b163
  refine ⟨fun _ => r_f164F h f0 q0 q1 s0 s1 hq, fun _ => r_needF (by rw [h.2.1]; exact f0) (fun v4 e4 _ => ⟨fun _ => ⟨by omega, by omega, fun M1 e1 => ?_⟩, fun z => by have := h.2.1; omega⟩)⟩
  have h1 := RF_u h (k := 69) (by omega) (by omega) (i := y) (-1) (by omega) (by omega)
  rw [← e1] at h1
  exact r_f164F h1 f0 q0 q1 s0 s1 hq
theorem r_f82F {Q : Int → MM → Prop} {R : MM} {s f pl y kd x3 : Int} {d : Nat} (hd : 1 ≤ d) (h : RF R0 b (q + 1) s f pl R) (f0 : 0 < f) (q0 : 0 ≤ q) (q1 : q ≤ 10) (s0 : 0 ≤ s) (s1 : s ≤ 10) (y0 : b ≤ y) (y1 : y < b + 120) (b0 : 0 ≤ b) (b1 : b ≤ 360) (hq : ∀ R', RF R0 b q s f pl R' → Q y R') : w_X12_readFold_b82 (gr_ d) Q kd y x3 R := by
  unfold w_X12_readFold_b82
  refine z10 hd h.2.1 f0 h.2.2.2.1 (fun _ => ⟨by omega, by omega, fun M3 e3 v4 e4 _ => ?_⟩)
  have h1 := RF_u h (k := 67) (by omega) (by omega) (i := y) b (by omega) (by omega)
  rw [← e3] at h1
  have hv4 : v4 = s := by rw [e4]; exact h1.2.2.2.2.2
  refine ⟨by omega, by omega, fun M5 e5 v6 e6 _ => ?_⟩
  have h2 := RF_71 h1 v4 x3
  rw [← e5] at h2
  have hv6 : v6 = s := by rw [e6]; exact h2.2.2.2.2.2
  refine ⟨by unfold ri_; omega, fun M8 e8 => ?_⟩
  have h3 := RF_94 h2 (s + 1)
  rw [show ux_ M5 0 94 (s + 1) = M8 from by rw [e8, hv6]] at h3
  exact r_takeF (by rw [h3.2.1]; exact f0) (fun _ => ⟨fun _ => r_f130F h3 f0 q0 q1 s0 s1 y0 y1 b0 b1 hq, fun z => absurd rfl z⟩)
theorem r_f62F {Q : Int → MM → Prop} {R : MM} {s f pl y kd x3 : Int} {d : Nat} (hd : 1 ≤ d) (h : RF R0 b (q + 1) s f pl R) (f0 : 0 < f) (q0 : 0 ≤ q) (q1 : q ≤ 10) (s0 : 0 ≤ s) (s1 : s ≤ 10) (y0 : b ≤ y) (y1 : y < b + 120) (b0 : 0 ≤ b) (b1 : b ≤ 360) (hq : ∀ R', RF R0 b q s f pl R' → Q y R') : w_X12_readFold_b62 (gr_ d) Q kd y x3 R := by
  unfold w_X12_readFold_b62
  exact fun v1 e1 _ => ⟨fun _ => r_f82F hd h f0 q0 q1 s0 s1 y0 y1 b0 b1 hq, fun z => by have := h.2.1; omega⟩
theorem r_f46F {Q : Int → MM → Prop} {R : MM} {s f pl y kd : Int} {d : Nat} (hd : 1 ≤ d) (h : RF R0 b (q + 1) s f pl R) (f0 : 0 < f) (q0 : 0 ≤ q) (q1 : q ≤ 10) (s0 : 0 ≤ s) (s1 : s ≤ 10) (y0 : b ≤ y) (y1 : y < b + 120) (b0 : 0 ≤ b) (b1 : b ≤ 360) (hq : ∀ R', RF R0 b q s f pl R' → Q y R') : w_X12_readFold_b46 (gr_ d) Q kd y R := by
  unfold w_X12_readFold_b46
  exact fun v1 e1 _ v2 e2 _ => ⟨fun _ => r_f62F hd h f0 q0 q1 s0 s1 y0 y1 b0 b1 hq, fun z => by have := h.2.1; omega⟩
theorem r_f21F {Q : Int → MM → Prop} {R : MM} {s f pl y kd : Int} {d : Nat} (hd : 1 ≤ d) (h : RF R0 b (q + 1) s f pl R) (f0 : 0 < f) (q0 : 0 ≤ q) (q1 : q ≤ 10) (s0 : 0 ≤ s) (s1 : s ≤ 10) (y0 : b ≤ y) (y1 : y < b + 120) (b0 : 0 ≤ b) (b1 : b ≤ 360) (hq : ∀ R', RF R0 b q s f pl R' → Q y R') : w_X12_readFold_b21 (gr_ d) Q kd y R := by
  unfold w_X12_readFold_b21
  exact r_needF (by rw [h.2.1]; exact f0) (fun v3 e3 _ => ⟨fun _ => r_f46F hd h f0 q0 q1 s0 s1 y0 y1 b0 b1 hq, fun z => by have := h.2.1; omega⟩)
