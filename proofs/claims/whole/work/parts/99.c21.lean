/-! folds worked out: a step, an end, in the reference -/
def EL (s : Int) (R R' : MM) : Prop := (∀ k, k ∉ [0, 60, 62, 72, 73, 74] → R' k = R k) ∧ (∀ i, i ∉ ([73, 98, 99, 101, 102, 103] : List Int) → R' 0 i = R 0 i) ∧ R' 0 101 = s ∧ (∀ i, i < s ∨ i = 11 → R' 72 i = R 72 i ∧ R' 74 i = R 74 i) ∧ ∀ i, i < 4400 * s ∨ 48400 ≤ i → R' 73 i = R 73 i
theorem EL_t {s l : Int} {R R1 R2 : MM} (h : EWr l R R1) (hl : s ≤ l) (h' : EL s R1 R2) : EL s R R2 := by
  obtain ⟨a1, a2, a3, a4⟩ := h
  obtain ⟨b1, b2, b5, b3, b4⟩ := h'
  exact ⟨fun k hk => by rw [b1 k hk, a1 k hk], fun i hi => by rw [b2 i hi, a2 i (fun y => hi (by simp only [List.mem_cons, List.not_mem_nil, or_false] at y ⊢; omega))], b5, fun i hi => by rw [(b3 i hi).1, (b3 i hi).2]; exact a3 i (by omega), fun i hi => by rw [b4 i hi, a4 i (by omega)]⟩
theorem EL_7 {s v : Int} {R R' : MM} (h : EL s (ux_ R 72 s v) R') (s10 : s ≤ 10) : EL s R R' := ⟨fun k hk => by rw [h.1 k hk, ux_g _ _ _ (fun y => hk (by rw [y]; decide))], fun i hi => by rw [h.2.1 i hi, ux_c _ _ _ _ (by decide)], h.2.2.1, fun i hi => ⟨by rw [(h.2.2.2.1 i hi).1, ux_i _ _ _ (by omega)], by rw [(h.2.2.2.1 i hi).2, ux_c _ _ _ _ (by decide)]⟩, fun i hi => by rw [h.2.2.2.2 i hi, ux_c _ _ _ _ (by decide)]⟩
theorem r_end {G : Nat → (Int → MM → Prop) → List Int → MM → Prop} {Q : Int → MM → Prop} {R : MM} {s kd tot x6 x7 g : Int} (k0 : 44 ≤ kd) (k1 : kd ≤ 49) (h101 : R 0 101 = s + 1) (s0 : 0 ≤ s) (s1 : s ≤ 10) (h6 : kd ≠ 48 → kd ≠ 49 → x6 = g) (h7 : (kd = 48 ∨ kd = 49) → x7 = g) (g01 : g = 0 ∨ g = 1) (hq : R 0 103 = 0 → ∀ R', EL s R R' → R' 0 98 = R 0 98 → R' 0 103 = 0 → R' 0 99 = endS kd g → R' 0 102 = endT kd tot g → Q 0 R') (hx : R 0 103 ≠ 0 → ∀ R', EL s R R' → R' 0 103 = R 0 103 → R' 0 99 = 4 → Q 0 R') : w_X12_workFold_b332 G Q (kd - 31) tot x6 x7 R := by
  unfold w_X12_workFold_b332
  intro v1 e1 _
  refine ⟨by unfold ri_; omega, fun M3 e3 v4 e4 _ => ?_⟩
  rw [show v1 - 1 = s from by omega] at e3
  have t103 : M3 0 103 = R 0 103 := by rw [e3, ux_i _ _ _ (by decide)]
  rw [t103] at e4
  have giv : ∀ R', EWr s M3 R' → EL s R R' := fun R' h => ⟨fun k hk => by rw [h.1 k hk, e3, ux_g _ _ _ (fun y => hk (by rw [y]; decide))], fun i hi => by rw [h.2.1 i (fun y => hi (by simp only [List.mem_cons, List.not_mem_nil, or_false] at y ⊢; omega)), e3, ux_i _ _ _ (fun y => hi (by rw [y]; decide))], by rw [h.2.1 101 (by decide), e3, ux_s], fun i hi => by rw [(h.2.2.1 i hi).1, (h.2.2.1 i hi).2, e3, ux_c _ _ _ _ (by decide), ux_c _ _ _ _ (by decide)]; exact ⟨rfl, rfl⟩, fun i hi => by rw [h.2.2.2 i hi, e3, ux_c _ _ _ _ (by decide)]⟩
  have t98 : M3 0 98 = R 0 98 := by rw [e3, ux_i _ _ _ (by decide)]
  refine ⟨fun z => ?_, fun z => ?_⟩
  · unfold w_X12_workFold_b366
    exact r_no (l := s) (fun R' f b1 b2 b3 b4 => hx (by omega) R' (giv R' f) (by rw [b2, t103]) b3)
  have h1 := hq (by omega)
  have fin : ∀ so v, so = endS kd g → v = endT kd tot g → ∀ R', EWr s M3 R' → R' 0 98 = M3 0 98 → R' 0 103 = M3 0 103 → R' 0 99 = so → R' 0 102 = v → Q 0 R' := fun so v es ev R' f b1 b2 b3 b4 => h1 R' (giv R' f) (by rw [b1, t98]) (by rw [b2, t103]; omega) (by rw [b3, es]) (by rw [b4, ev])
  have trt : (kd = 48 ∨ kd = 49) → w_X12_workFold_b385 G Q (kd - 31) x7 M3 := fun hh => by
    have eS : (1 : Int) = endS kd g := by unfold endS; rw [if_pos hh]
    have e7 := h7 hh
    unfold w_X12_workFold_b385 w_X12_workFold_b399 w_X12_workFold_b407
    refine ⟨fun y => ⟨fun w => ⟨Or.inl rfl, r_tru (l := s) (Or.inl rfl) (fin 1 0 eS ?_)⟩, fun w => ⟨Or.inr rfl, r_tru (l := s) (Or.inr rfl) (fin 1 1 eS ?_)⟩⟩, fun y => ⟨fun w => ⟨Or.inl rfl, r_tru (l := s) (Or.inl rfl) (fin 1 0 eS ?_)⟩, fun w => ⟨Or.inr rfl, r_tru (l := s) (Or.inr rfl) (fin 1 1 eS ?_)⟩⟩⟩
    · unfold endT; rw [if_neg (by omega), if_pos (by omega)]; omega
    · unfold endT; rw [if_neg (by omega), if_pos (by omega)]; omega
    · unfold endT; rw [if_pos (by omega)]; omega
    · unfold endT; rw [if_pos (by omega)]; omega
  have last : (kd = 44 ∨ kd = 45 ∨ kd = 48 ∨ kd = 49 ∨ g ≠ 0) → w_X12_workFold_b373 G Q (kd - 31) tot x7 M3 := fun hh => by
    unfold w_X12_workFold_b373
    refine ⟨fun y => trt (by omega), fun y => ⟨fun y2 => r_giv (l := s) (fin 0 tot ?_ ?_), fun y2 => trt (by omega)⟩⟩
    · unfold endS; rw [if_neg (by omega), if_pos (by omega)]
    · unfold endT; rw [if_neg (by omega), if_neg (by omega), if_pos (by omega)]
  have mm : (kd = 46 ∨ kd = 47) → w_X12_workFold_b361 G Q (kd - 31) tot x6 x7 M3 := fun hh => by
    have e6 := h6 (by omega) (by omega)
    unfold w_X12_workFold_b361 w_X12_workFold_b366
    refine ⟨fun y => last (by omega), fun y => r_no (l := s) (fin 4 0 ?_ ?_)⟩
    · unfold endS; rw [if_neg (by omega), if_neg (by omega)]
    · unfold endT; rw [if_neg (by omega), if_neg (by omega), if_neg (by omega)]
  exact ⟨fun y => mm (by omega), fun y => ⟨fun y2 => last (by omega), fun y2 => mm (by omega)⟩⟩
theorem r_st {G : Nat → (Int → MM → Prop) → List Int → MM → Prop} {Q : Int → MM → Prop} {K45 : Int → Int → Int → Int → Int → Int → Int → MM → Prop} {R : MM} {y s kd tot g i so v s0 : Int} (k0 : 45 ≤ kd) (k1 : kd ≤ 49) (i0 : 0 ≤ i) (i1 : i ≤ 5000) (h99 : R 0 99 = so) (h102 : R 0 102 = v) (hs0 : s0 = if tru so v then 1 else 0)
    (h : K45 y (kd - 31) s (stT kd tot g so v) (if kd = 48 ∨ kd = 49 then g else stG kd g so v) (if kd = 48 ∨ kd = 49 then stG kd g so v else 0) (i + 1) R) : w_X12_workFold_b215 G Q K45 y (kd - 31) s tot g 0 i s0 R := by
  have ri : ri_ (i + 1) := by unfold ri_; omega
  have tr : (kd = 48 ∨ kd = 49) → w_X12_workFold_b229 G Q K45 y (kd - 31) s tot g i s0 R := fun hh => by
    rw [if_pos hh, if_pos hh] at h
    have eT : stT kd tot g so v = tot := by unfold stT; rw [if_neg (by omega), if_pos hh]
    rw [eT] at h
    unfold w_X12_workFold_b229 w_X12_workFold_b242 w_X12_workFold_b250 w_X12_workFold_b326
    have g48 : kd = 48 → stG kd g so v = s0 := fun q => by unfold stG; rw [if_neg (by omega), if_pos q, hs0]
    have g49 : kd = 49 → stG kd g so v = 1 - s0 := fun q => by
      unfold stG; rw [if_neg (by omega), if_neg (by omega), if_pos q, hs0]
      by_cases w : tru so v
      · rw [if_pos w, if_pos w]; omega
      · rw [if_neg w, if_neg w]; omega
    have s01 : s0 = 0 ∨ s0 = 1 := by
      rw [hs0]
      by_cases w : tru so v
      · rw [if_pos w]; exact Or.inr rfl
      · rw [if_neg w]; exact Or.inl rfl
    refine ⟨fun q => ⟨fun w => ⟨ri, ?_⟩, fun w => ⟨ri, ?_⟩⟩, fun q => ⟨fun w => ⟨ri, ?_⟩, fun w => ⟨ri, ?_⟩⟩⟩
    · rw [g49 (by omega), show 1 - s0 = 0 from by omega] at h; exact h
    · rw [g49 (by omega), show 1 - s0 = 1 from by omega] at h; exact h
    · rw [g48 (by omega), show s0 = 0 from by omega] at h; exact h
    · rw [g48 (by omega), show s0 = 1 from by omega] at h; exact h
  unfold w_X12_workFold_b215
  refine ⟨fun z => tr (by omega), fun z => ⟨fun z2 v3 e3 _ => ?_, fun z2 => tr (by omega)⟩⟩
  rw [if_neg (by omega), if_neg (by omega)] at h
  rw [h99] at e3
  refine ⟨fun z3 => ?_, fun z3 => ?_⟩
  · have eT : stT kd tot g so v = tot := by unfold stT; rw [if_neg (by omega), if_neg (by omega), if_pos (by omega)]
    have eG : stG kd g so v = g := by unfold stG; rw [if_neg (by omega), if_neg (by omega), if_neg (by omega), if_pos (by omega)]
    rw [eT, eG] at h
    unfold w_X12_workFold_b326
    exact ⟨ri, h⟩
  have eG : stG kd g so v = 1 := by unfold stG; rw [if_neg (by omega), if_neg (by omega), if_neg (by omega), if_neg (by omega)]
  have eT : stT kd tot g so v = if kd = 45 then w64 (tot + v) else if g = 0 then v else if kd = 46 then (if v ≤ tot then tot else v) else (if tot ≤ v then tot else v) := by unfold stT; rw [if_neg (by omega), if_neg (by omega), if_neg (by omega)]
  rw [eG] at h
  have put : ∀ w, stT kd tot g so v = w → w_X12_workFold_b321 G Q K45 y (kd - 31) s 0 i w R := fun w hw => by
    unfold w_X12_workFold_b321 w_X12_workFold_b326
    rw [hw] at h
    exact ⟨ri, h⟩
  have p12 : stT kd tot g so v = v → w_X12_workFold_b312 G Q K45 y (kd - 31) s 0 i R := fun hw => by
    unfold w_X12_workFold_b312
    intro w ew _
    exact put w (by rw [ew, h102, hw])
  have p19 : stT kd tot g so v = tot → w_X12_workFold_b319 G Q K45 y (kd - 31) s tot 0 i R := fun hw => by
    unfold w_X12_workFold_b319
    exact put tot hw
  refine ⟨fun z4 => ⟨fun z5 => p12 ?_, fun z5 => ⟨fun z6 w ew _ => ⟨fun q => p19 ?_, fun q => p12 ?_⟩, fun z6 w ew _ => ⟨fun q => p19 ?_, fun q => p12 ?_⟩⟩⟩, fun z4 w ew _ => put _ ?_⟩
  · rw [eT, if_neg (by omega), if_pos z5]
  · rw [eT, if_neg (by omega), if_neg z5, if_neg (by omega), if_pos (by omega)]
  · rw [eT, if_neg (by omega), if_neg z5, if_neg (by omega), if_neg (by omega)]
  · rw [eT, if_neg (by omega), if_neg z5, if_pos (by omega), if_pos (by omega)]
  · rw [eT, if_neg (by omega), if_neg z5, if_pos (by omega), if_neg (by omega)]
  · rw [eT, if_pos (by omega), ew, h102]
