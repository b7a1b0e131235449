/-! swap: may it be done? -/
def gdv (C : MM) (v l a b : Int) : Prop := (v = a → ft C (C 27 b) l) ∧ (v ≠ a → v = b → ft C (C 27 a) l)
def gds (C : MM) (a b o k : Int) : Prop := hOk C o → 0 ≤ k → k < ln C o → kA C (C 27 o) k = 5 → gdv C (C 30 (C 29 o + k)) (lA C (C 27 o) k) a b
def gdf (C : MM) (a b f : Int) : Prop := C 21 f ≠ 0 → C 19 f = 5 → gdv C (C 32 f) (C 20 f) a b
def good (C : MM) (a b : Int) : Prop := (∀ o k, gds C a b o k) ∧ ∀ f, 0 ≤ f → f < 6 * C 8 0 → gdf C a b f
def tn (a b v : Int) : Int := if v = a then b else if v = b then a else v
theorem hOk_t {C R : MM} (hH : Rhp C R) {o : Int} (ho : hOk C o) : vT (C 8 0) (C 27 o) ∧ 0 ≤ o ∧ o < 400 := ⟨((hH.2.2.2.2.2.2.2.2.2.1 o ho.1 ho.2.1).2 ho.2.2).2.1, ho.1, by have := ho.2.1; have := hH.2.2.1; omega⟩
theorem p_fitsS {Q : Int → MM → Prop} {C R : MM} {v l a b : Int} (hY : Rty C R) (hH : Rhp C R) (ha : hOk C a) (hb : hOk C b) (gl : ri_ l) (h1 : gdv C v l a b → Q 1 C) (h0 : ¬ gdv C v l a b → Q 0 C) : w_X2_fitsSwapped Q v l a b C := by
  obtain ⟨a1, a2, a3⟩ := hOk_t hH ha
  obtain ⟨b1, b2, b3⟩ := hOk_t hH hb
  have hp := pOk_of hY
  unfold w_X2_fitsSwapped
  refine ⟨fun z => ⟨fun y => h1 ⟨fun q => absurd q z, fun _ q => absurd q y⟩, fun y => ⟨a2, a3, fun v3 e3 _ => ?_⟩⟩, fun z => ⟨b2, b3, fun v7 e7 _ => ?_⟩⟩
  · rw [e3]
    exact p_fits hp a1 gl (fun q _ => ⟨fun w => absurd w (by decide), fun _ => h1 ⟨fun w => absurd w z, fun _ _ => q⟩⟩) (fun q _ => ⟨fun _ => h0 fun w => q (w.2 z y), fun w => absurd rfl w⟩)
  · rw [e7]
    exact p_fits hp b1 gl (fun q _ => h1 ⟨fun _ => q, fun w => absurd z w⟩) (fun q _ => h0 fun w => q (w.1 z))
theorem isLS_C {Q : Int → MM → Prop} {C R : MM} {f : Int} (hY : Rty C R) (f0 : 0 ≤ f) (f1 : f < 6 * C 8 0) (h1 : C 21 f ≠ 0 → C 19 f = 5 → Q 1 C) (h0 : ¬ (C 21 f ≠ 0 ∧ C 19 f = 5) → Q 0 C) : w_X10_isLinkStatic Q f C := by
  have h16 := hY.2.2.1
  unfold w_X10_isLinkStatic
  refine ⟨f0, by omega, fun v1 e1 _ => ⟨fun z => h0 fun q => q.1 (by rw [← e1]; exact z), fun z => ⟨f0, by omega, fun v3 e3 _ => ⟨fun y => h0 fun q => y (by rw [e3]; exact q.2), fun y => h1 (by rw [← e1]; exact z) (by rw [← e3]; exact y)⟩⟩⟩⟩
theorem ls_ck {C R : MM} {f : Int} (hY : Rty C R) (f0 : 0 ≤ f) (f1 : f < 6 * C 8 0) (h : C 21 f ≠ 0) : ∃ c k, 0 ≤ c ∧ c < C 8 0 ∧ 0 ≤ k ∧ k < C 14 c ∧ f = 6 * c + k := by
  have h16 := hY.2.2.1
  have ef : 6 * (f / 6) + (f - f / 6 * 6) = f := by omega
  refine ⟨f / 6, f - f / 6 * 6, by omega, by omega, by omega, ?_, by omega⟩
  by_cases z : f - f / 6 * 6 < C 14 (f / 6)
  · exact z
  · have := hY.2.2.2.2.2 (f / 6) (f - f / 6 * 6) (by omega) (by omega) (by omega) (by omega)
    rw [ef] at this; exact absurd this h
set_option maxHeartbeats 1000000 in
theorem p_canSwap {Q : Int → MM → Prop} {C R : MM} {a b : Int} (hB : RB C R) (ha : hOk C a) (hb : hOk C b) (h1 : good C a b → Q 1 C) (h0 : ¬ good C a b → Q 0 C) : w_X2_canSwap Q a b C := by
  obtain ⟨hA, hL, hH⟩ := hB
  have hY := hA.2.2.2.2
  have h16 := hY.2.2.1
  have n0 := hH.2.1
  have n4 := hH.2.2.1
  have stat : (∀ o k, gds C a b o k) → w_X2_canSwap_b109 Q a b 0 C := fun hg => by
    unfold w_X2_canSwap_b109
    refine loop4 _ (fun (x1 x2 f : Int) M => a = x1 ∧ b = x2 ∧ C = M ∧ 0 ≤ f ∧ f ≤ 6 * C 8 0 ∧ ∀ g, 0 ≤ g → g < f → gdf C a b g) (fun _ _ (f : Int) _ => (6 * C 8 0 - f).toNat) ?_ _ _ _ _ ⟨rfl, rfl, rfl, by omega, by have := hY.2.1; omega, fun g x y => by omega⟩
    rintro _ _ f _ ih' ⟨rfl, rfl, rfl, f0, f1, hf⟩ ih
    unfold wb_X2_canSwap_b109 w_X10_ownFields
    intro v1 e1 _
    have y1 := hY.2.1
    refine ⟨by unfold ri_; omega, fun _ => ⟨fun z => h1 ⟨hg, fun g x y => hf g x (by omega)⟩, fun z => ?_⟩⟩
    refine isLS_C hY f0 (by omega) (fun s1 s2 _ => ⟨fun q => absurd q (by decide), fun _ => ⟨f0, by omega, fun v7 e7 _ => ⟨f0, by omega, fun v8 e8 g8 => ?_⟩⟩⟩) (fun s _ => ⟨fun _ => ?_, fun q => absurd rfl q⟩)
    · refine p_fitsS hY hH ha hb g8 (fun q _ => ⟨fun _ => ?_, fun w => absurd w (by decide)⟩) (fun q _ => ⟨fun w => absurd rfl w, fun _ => h0 fun w => q (by rw [e7, e8]; exact w.2 f f0 (by omega) s1 s2)⟩)
      unfold w_X2_canSwap_b157
      refine ⟨by unfold ri_; omega, ih _ _ _ _ ⟨rfl, rfl, rfl, by omega, by omega, fun g x y => ?_⟩ (by omega)⟩
      by_cases e : g = f
      · rw [e]; intro _ _; rw [← e7, ← e8]; exact q
      · exact hf g x (by omega)
    · unfold w_X2_canSwap_b157
      refine ⟨by unfold ri_; omega, ih _ _ _ _ ⟨rfl, rfl, rfl, by omega, by omega, fun g x y => ?_⟩ (by omega)⟩
      by_cases e : g = f
      · rw [e]; intro q1 q2; exact absurd ⟨q1, q2⟩ s
      · exact hf g x (by omega)
  unfold w_X2_canSwap w_X2_canSwap_b2
  refine loop4 _ (fun (x1 x2 o : Int) M => a = x1 ∧ b = x2 ∧ C = M ∧ 0 ≤ o ∧ o ≤ C 26 1 ∧ ∀ p k, p < o → gds C a b p k) (fun _ _ (o : Int) _ => (C 26 1 - o).toNat) ?_ _ _ _ _ ⟨rfl, rfl, rfl, by omega, n0, fun p k x hp => by have := hp.1; omega⟩
  rintro _ _ o _ f ⟨rfl, rfl, rfl, o0, o1, hg⟩ ih
  unfold wb_X2_canSwap_b2
  intro v1 e1 _
  refine ⟨fun z => stat fun p k => ?_, fun z => ⟨o0, by omega, fun v3 e3 _ => ⟨fun y => ?_, fun y => ?_⟩⟩⟩
  · by_cases q : p < o
    · exact hg p k q
    · intro hp; have := hp.2.1; omega
  · have ho : hOk C o := ⟨o0, by omega, by rw [← e3]; exact y⟩
    obtain ⟨r1, r2, r3, r4, r5, r6, r7, r8, r9, r10⟩ := (hH.2.2.2.2.2.2.2.2.2.1 o ho.1 ho.2.1).2 ho.2.2
    have hat := hp_at hY hH ho
    refine p_slotsOf hY hH ho (fun _ _ => rfl) (fun _ _ => ?_)
    unfold w_X2_canSwap_b29 w_X2_canSwap_b34
    refine loop6 _ (fun (x1 x2 x3 x4 k : Int) M => a = x1 ∧ b = x2 ∧ o = x3 ∧ ln C o = x4 ∧ C = M ∧ 0 ≤ k ∧ k ≤ ln C o ∧ ∀ j, j < k → gds C a b o j) (fun _ _ _ _ (k : Int) _ => (ln C o - k).toNat) ?_ _ _ _ _ _ _ ⟨rfl, rfl, rfl, rfl, rfl, by omega, by omega, fun j x _ q => by omega⟩
    rintro _ _ _ _ k _ f2 ⟨rfl, rfl, rfl, rfl, rfl, k0, k1, hk⟩ ih2
    unfold wb_X2_canSwap_b34
    refine ⟨fun w => ⟨by unfold ri_; omega, ih _ _ _ _ ⟨rfl, rfl, rfl, by omega, by omega, fun p j x => ?_⟩ (by omega)⟩, fun w => ⟨o0, by omega, fun w3 d3 _ => ?_⟩⟩
    · by_cases q : p = o
      · rw [q]
        by_cases q2 : j < k
        · exact hk j q2
        · intro _ _ q3; omega
      · exact hg p j (by omega)
    · rw [d3]
      refine ⟨by unfold ri_; omega, by omega, by omega, fun v5 e5 _ => ⟨fun q => ?_, fun q => ⟨by omega, by omega, fun v7 e7 _ => ⟨o0, by omega, fun v8 e8 _ => ?_⟩⟩⟩⟩
      · rw [(r10 k k0 (by omega)).2.1] at e5
        unfold w_X2_canSwap_b95
        refine ⟨by unfold ri_; omega, ih2 _ _ _ _ _ _ ⟨rfl, rfl, rfl, rfl, rfl, by omega, by omega, fun j x => ?_⟩ (by omega)⟩
        by_cases q2 : j = k
        · rw [q2]; intro _ _ _ q5; rw [if_pos q5] at e5; omega
        · exact hk j (by omega)
      · rw [(r10 k k0 (by omega)).2.1] at e5
        have k5 : kA C (C 27 o) k = 5 := by
          by_cases q5 : kA C (C 27 o) k = 5
          · exact q5
          · rw [if_neg q5] at e5; omega
        rw [e8]
        refine p_lA h16 r2 k0 (fun q3 => by omega) (fun gl => ?_)
        refine p_fitsS hY hH ha hb gl (fun g5 _ => ⟨fun _ => ?_, fun w => absurd w (by decide)⟩) (fun g5 _ => ⟨fun w => absurd rfl w, fun _ => h0 fun w => g5 (by rw [e7]; exact w.1 o k ho k0 (by omega) k5)⟩)
        unfold w_X2_canSwap_b95
        refine ⟨by unfold ri_; omega, ih2 _ _ _ _ _ _ ⟨rfl, rfl, rfl, rfl, rfl, by omega, by omega, fun j x => ?_⟩ (by omega)⟩
        by_cases q2 : j = k
        · rw [q2]; intro _ _ _ _; rw [← e7]; exact g5
        · exact hk j (by omega)
  · have hno : ¬ hOk C o := fun q => q.2.2 (by rw [← e3]; exact y)
    unfold w_X2_canSwap_b29 w_X2_canSwap_b34
    refine ⟨1, ?_⟩
    show wb_X2_canSwap_b34 Q f _ a b o 0 0 C
    unfold wb_X2_canSwap_b34
    refine ⟨fun _ => ⟨by unfold ri_; omega, ih _ _ _ _ ⟨rfl, rfl, rfl, by omega, by omega, fun p j x => ?_⟩ (by omega)⟩, fun w => by omega⟩
    by_cases q : p = o
    · rw [q]; intro q1; exact absurd q1 hno
    · exact hg p j (by omega)
