/-! the fifth picture is taken, on both sides -/
def FT4 (R R' : MM) : Prop := (∀ k, k ∉ [0, 36, 37, 60, 62] → k < 38 ∨ 59 < k → R' k = R k) ∧ (∀ k i, 38 ≤ k → k ≤ 59 → ¬ rw_ k 4 i → R' k i = R k i) ∧ ∀ i, i ∉ ([47, 73] : List Int) → R' 0 i = R 0 i
theorem p_take4 {Q : Int → MM → Prop} {C Rc : MM} {c : Nat} (hc : isP c) (hY : Rty C Rc) (hH : Rhp C Rc) (hF : PF C c) (hq : ∀ M, (∀ k, ¬ (c ≤ k ∧ k ≤ c + 18) → M k = C k) → PW M c → ShH M c → (∀ (R1 : MM) (Qr : Int → MM → Prop), Rty C R1 → Rhp C R1 → (R1 0 114 = 0 ∨ R1 0 114 = 1) → (∀ R', RdyP M R1 R' c (fun _ => True) → FT4 R1 R' → Qr 0 R') → w_X12_takeNow Qr R1) → Q 0 M) : w_X5_takeFrom c Q C := by
  have hcB := pB_of hc
  refine p_takeFrom hcB hY hH hF fun C0 M hE hT hS => ?_
  obtain ⟨hw, eM, f4, h7⟩ := PW_take hcB hY hH hE hT hS
  have hc' := hcB
  unfold pB at hc'
  have eC : ∀ k, ¬ (c ≤ k ∧ k ≤ c + 18) → M k = C k := fun k hk => by rw [hT.1 k (by omega), hE.1 k (by omega) (by omega) (by omega) (by omega)]
  have k1 : M (c + 18) 1 = 0 := by rw [hT.1 (c + 18) (by omega)]; exact hE.2.2.2.2.2.2.2.1
  obtain ⟨j1, j2, j4, j8⟩ := kb_0
  refine hq M eC hw ⟨by omega, by omega, fun q => absurd (by rw [k1]; exact j1) q, fun q => absurd (by rw [k1]; exact j2) q⟩ (fun R1 Qr hY1 hH1 h114 hQ => ?_)
  unfold w_X12_takeNow
  refine p_R_picture0 hY1 hH1 (by omega) (by omega) fun A A2 hA hfP hRP => ?_
  have hbb := Rpb_take hcB hY hH hE hT hS hRP
  have a20 : A2 0 20 = R1 0 20 := by rw [hfP.1 0 (by omega), hA.2.1 20 (by decide)]
  have aty : ∀ k, 4 ≤ k → k ≤ 18 → k ≠ 6 → A2 k = R1 k := fun k a b _ => by rw [hfP.1 k (by omega), hA.1 k (by simp; omega)]
  have hYA : Rty M A2 := Rty_C (Rty_R hY1 (fun k a b d => aty k a b d) a20) (fun k a b => eM k (by omega))
  refine p_R_findWays hYA hw hbb (by omega) (by omega) fun A3 hW h43 => ?_
  have i3 : ∀ i, A3 0 i = A2 0 i := fun i => by rw [hW.1 0 (by decide)]
  have i2 : ∀ i, i ≠ 47 → A2 0 i = R1 0 i := fun i hi => by rw [hfP.1 0 (by omega), hA.2.1 i hi]
  have k3 : ∀ k, k ∉ [0, 36, 37, 60, 62] → k < 38 ∨ 59 < k → A3 k = R1 k := fun k hk hr => by
    simp only [List.mem_cons, List.not_mem_nil, or_false] at hk
    rw [hW.1 k (by simp; omega), hfP.1 k (by omega), hA.1 k (by simp; omega)]
  have p3 : ∀ k i, 38 ≤ k → k ≤ 59 → ¬ rw_ k 4 i → A3 k i = R1 k i := fun k i a b hr => by
    have e2 : A2 k i = R1 k i := by rw [hfP.2 k i a b hr, hA.1 k (by simp; omega)]
    by_cases y : k = 43 ∨ k = 44 ∨ k = 45
    · rw [hW.2 k i y (by unfold rw_ at hr; omega)]; exact e2
    · rw [hW.1 k (by simp; omega)]; exact e2
  have hb3 : Rpb M A3 c 4 := Rpb_M hbb (fun k hk => hW.1 k (by intro y; simp at y hk; omega))
  have n78 : A3 78 = R1 78 := k3 78 (by decide) (by omega)
  have nn : ∀ j i, 66 ≤ j → j ≤ 70 → True → A3 j i = R1 j i := fun j i a b _ => by rw [k3 j (by simp; omega) (by omega)]
  intro v5 e5 _
  rw [i3, i2 114 (by decide)] at e5
  refine ⟨fun z => hQ A3 ⟨fun k a b d => k3 k (by simp; omega) (by omega), by rw [i3]; exact a20, hb3, fun t a b => (h43 t a b).1, fun y => by omega, nn, n78⟩ ⟨k3, p3, fun i hi => ?_⟩, fun z => ?_⟩
  · simp only [List.mem_cons, List.not_mem_nil, or_false] at hi
    rw [i3, i2 i (by omega)]
  · have hY3 : Rty M A3 := Rty_R hYA (fun k a b _ => hW.1 k (by simp; omega)) (i3 20)
    refine p_R_findDominators hY3 hw hb3 (by omega) (by omega) fun A4 hD hTab => ?_
    have hDT := dTab_of hw hTab
    have k4 : ∀ k, k ∉ [0, 46, 47, 48, 60, 62] → A4 k = A3 k := hD.1
    refine hQ A4 ⟨fun k a b d => by rw [k4 k (by simp; omega)]; exact k3 k (by simp; omega) (by omega), by rw [hD.2.1 20 (by decide), i3]; exact a20, Rpb_M hb3 (fun k hk => k4 k (by intro y; simp at y hk; omega)), fun t a b => by rw [k4 43 (by decide)]; exact (h43 t a b).1, fun _ => hDT, fun j i a b d => by rw [k4 j (by simp; omega)]; exact nn j i a b d, by rw [k4 78 (by decide)]; exact n78⟩ ⟨fun k hk hr => ?_, fun k i a b hr => ?_, fun i hi => ?_⟩
    · have hk' := hk
      simp only [List.mem_cons, List.not_mem_nil, or_false] at hk'
      rw [k4 k (by simp; omega)]; exact k3 k hk hr
    · by_cases y : k = 46 ∨ k = 47 ∨ k = 48
      · rw [hD.2.2 k i y (by unfold rw_ at hr; omega)]; exact p3 k i a b hr
      · rw [k4 k (by simp; omega)]; exact p3 k i a b hr
    · simp only [List.mem_cons, List.not_mem_nil, or_false] at hi
      rw [hD.2.1 i (by omega), i3, i2 i (by omega)]
theorem RD_t4 {C R M R' : MM} {cs : Int → Nat} (hB : RB C R) (hJ : Rjn C R) (hcs : pcs C R cs) (eC : ∀ k, k ≠ 0 → k < 211 → ¬ (cs 4 ≤ k ∧ k ≤ cs 4 + 32) → M k = C k) (e5 : M 0 5 = C 0 5) (hF : PF M (cs 4)) (r : ∀ k, k ∉ [0, 36, 37] → k < 38 → R' k = R k) (r0 : ∀ i, i ∉ ([0, 47, 73, 75] : List Int) → i ∈ ([3, 20, 26, 27, 28, 29, 31, 36, 44] : List Int) → R' 0 i = R 0 i) (rp : ∀ k i, 38 ≤ k → k ≤ 59 → ¬ rw_ k 4 i → R' k i = R k i) : RD M R' := by
  have hY := hB.1.2.2.2.2
  obtain ⟨h1, h2, h3, h4, h5⟩ := hcs
  have i4 := h4 4 (by omega) (by omega)
  have i4' := i4
  unfold isP at i4'
  have ec : ∀ k, k ≠ 0 → k ≠ 12 → k < 45 → M k = C k := fun k a _ b => eC k a (by omega) (by omega)
  obtain ⟨x1, x2, x3⟩ := RB_ld hB hJ ec (fun i a b => ⟨by rw [eC 12 (by omega) (by omega) (by omega), r 16 (by decide) (by omega)]; exact (hY.2.2.2.1 i a b).1.2.2.2.2.2.1, fun z => by rw [eC 12 (by omega) (by omega) (by omega)]; exact z⟩) (fun i a b => by rw [eC 12 (by omega) (by omega) (by omega)]) (fun k hk hl => r k (by simp only [List.mem_cons, List.not_mem_nil, or_false] at hk ⊢; omega) hl) (fun i hi => r0 i (by simp only [List.mem_cons, List.not_mem_nil, or_false] at hi ⊢; omega) hi)
  · refine ⟨x1, x2, cs, fun p a b => ?_, by rw [e5]; exact h2, hF, h4, h5⟩
    have ip := h4 p a (by omega)
    have np := h5 p 4 a (by omega) (by omega)
    unfold isP at ip
    refine ⟨by rw [eC 45 (by omega) (by omega) (by omega)]; exact (h1 p a b).1, pic_fr hY (h1 p a b).2 x3 (fun q u v => eC q (by omega) (by omega) (by omega)) (fun k i u v w => rp k i u v (fun y => ?_))⟩
    unfold rw_ at w y
    omega
