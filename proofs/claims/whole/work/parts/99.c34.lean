/-! a question's text is read, on both sides -/
theorem SR_95 {C0 R0 R : MM} {E : Nat → Int} {b : Int} {k : Nat} {n q it s : Int} {nr_ : Int → Int} (h : SR C0 R0 E b k n q it s nr_ R) (v : Int) : SR C0 R0 E b k n q v s nr_ (ux_ R 0 95 v) := by
  obtain ⟨h1, ⟨h2, h3, h4⟩, ⟨g1, g2, g3, g4, g5, g6⟩, h5⟩ := h
  refine ⟨Fpr_0 h1 _ (by decide), ⟨by rw [ux_i _ _ _ (by decide)]; exact h2, by rw [ux_i _ _ _ (by decide)]; exact h3, ?_⟩, ⟨by rw [ux_i _ _ _ (by decide)]; exact g1, by rw [ux_i _ _ _ (by decide)]; exact g2, by rw [ux_i _ _ _ (by decide)]; exact g3, by rw [ux_i _ _ _ (by decide)]; exact g4, by rw [ux_i _ _ _ (by decide)]; exact g5, by rw [ux_s]⟩, fun i a c => by rw [ux_c _ _ _ _ (by decide)]; exact h5 i a c⟩
  unfold tk at h4 ⊢
  rw [ux_i _ _ _ (by decide), ux_i _ _ _ (by decide), ux_g _ _ _ (by decide)]
  exact h4
theorem RF_95 {R0 R : MM} {b q s f pl : Int} (h : RF R0 b q s f pl R) (v : Int) : RF R0 b q s f pl (ux_ R 0 95 v) := by
  obtain ⟨h1, h2, h3, h4, h5, h6⟩ := h
  exact ⟨Fpr_0 h1 _ (by decide), by rw [ux_i _ _ _ (by decide)]; exact h2, by rw [ux_i _ _ _ (by decide)]; exact h3, by rw [ux_i _ _ _ (by decide)]; exact h4, by rw [ux_i _ _ _ (by decide)]; exact h5, by rw [ux_i _ _ _ (by decide)]; exact h6⟩
def rqR (K : Int → Int → Int → MM → Prop) (R : MM) : Prop := gr_ 400 10 (fun r8 M9 => ri_ r8 → ∀ M10, M10 = ux_ M9 0 95 1 → whQ 400 (fun y3 M => vlQr (fun y4 M' => w_X12_endText (fun _ M2 => K r8 y3 y4 M2) M') M) M10) [] R
/-- at a fault the rest of the reference's reading does nothing -/
theorem rq_fv {R0 R : MM} {b q s f pl : Int} (h : RF R0 b q s f pl R) (f0 : 0 < f) {K : Int → MM → Prop} (hq : ∀ y R', R' = ux_ (ux_ R 0 81 f) 0 82 pl → K y R') : vlQr (fun y4 M' => w_X12_endText (fun _ M2 => K y4 M2) M') R := by
  unfold vlQr
  exact r_takeF (by rw [h.2.1]; exact f0) (fun _ => ⟨fun _ => r_endF h f0 (fun R' e => hq _ R' e), fun z => absurd rfl z⟩)
theorem rq_fw {R0 R : MM} {b q s f pl : Int} (h : RF R0 b q s f pl R) (f0 : 0 < f) {K : Int → Int → MM → Prop} (hq : ∀ y z R', R' = ux_ (ux_ R 0 81 f) 0 82 pl → K y z R') : whQ 400 (fun y3 M => vlQr (fun y4 M' => w_X12_endText (fun _ M2 => K y3 y4 M2) M') M) R := by
  unfold whQ
  exact r_takeF (by rw [h.2.1]; exact f0) (fun _ => ⟨fun _ => rq_fv h f0 (fun y R' e => hq _ y R' e), fun z => absurd rfl z⟩)
