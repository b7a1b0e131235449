/-! a picture that was taken is one -/
theorem gD_inj {L : List Int} (h : L.Nodup) {i j : Nat} (hi : i < L.length) (hj : j < L.length) (e : L.getD i 0 = L.getD j 0) : i = j := by
  rw [List.getD_eq_getElem?_getD, List.getD_eq_getElem?_getD, List.getElem?_eq_getElem hi, List.getElem?_eq_getElem hj] at e
  simp at e
  have hp := List.pairwise_iff_getElem.mp h
  by_cases q : i < j
  · exact absurd e (hp i j hi hj q)
  · by_cases q2 : j < i
    · exact absurd e.symm (hp j i hj hi q2)
    · omega
theorem ix_gD {L : List Int} (h : L.Nodup) {i : Nat} (hi : i < L.length) : ix L (L.getD i 0) = i := by
  have hm := gD_mem hi
  have h1 := gD_ix hm
  have l1 := (ix_lt (L := L) (o := L.getD i 0)).1
  have l2 := (ix_lt (L := L) (o := L.getD i 0)).2
  have l3 : ix L (L.getD i 0) ≠ -1 := fun q => (ix_m.mp q) hm
  have := gD_inj h (i := (ix L (L.getD i 0)).toNat) (j := i) (by omega) hi h1
  omega
theorem ix_eq {L : List Int} (h : L.Nodup) {v : Int} (hv : v ∈ L) {i : Nat} (hi : i < L.length) : ix L v = i ↔ v = L.getD i 0 := by
  constructor
  · intro e
    have := gD_ix hv
    rw [e] at this
    exact this.symm
  · intro e
    rw [e]; exact ix_gD h hi
set_option maxHeartbeats 1000000 in
theorem PW_take {C R R0 C0 M : MM} {c : Nat} (hc : pB c) (hY : Rty C R0) (hH : Rhp C R) (hE : EM C C0 c) (hT : TC C0 M c (wkL C) (wkX C) (rtX C)) (hS : SD C0 M c (wkL C) (wkL C).length 0) : PW M c ∧ (∀ k, k < 46 → M k = C k) ∧ (∀ t : Nat, (t : Int) ≤ M c 0 → M (c + 4) t = sL C (wkL C) t) ∧ M c 0 = (wkL C).length := by
  unfold pB at hc
  have e0 : ∀ q, q < 46 → C0 q = C q := fun q hq2 => hE.1 q (by omega) (by omega) (by omega) (by omega)
  have eM : ∀ q, q < 46 → M q = C q := fun q hq => by rw [hT.1 q (by omega), e0 q hq]
  obtain ⟨h1, h2, h3, h4, h5, h6, h7, h8, h9, h10, h11, h12, h13, h14⟩ := hT
  obtain ⟨w1, w2, w3, w4⟩ := wkL_ok hY hH
  obtain ⟨⟨kx, x1, x2, x3, x4, x5⟩, y1, y2⟩ := SX_wk hY hH
  have hsn := sN_wk hY hH
  have hsl := sN_le hY hH hsn w2
  have n0 := hH.2.1
  have n4 := hH.2.2.1
  have hll := wl_len w1 n0
  have esL : ∀ k, sL C0 (wkL C) k = sL C (wkL C) k := by
    intro k
    induction k with
    | zero => rfl
    | succ k ih =>
      show sL C0 (wkL C) k + ln C0 _ = sL C (wkL C) k + ln C _
      rw [ih, ln_eq (e0 16 (by omega)) (e0 27 (by omega)) (e0 28 (by omega))]
  have f4 : ∀ t : Nat, t ≤ (wkL C).length → M (c + 4) t = sL C (wkL C) t := fun t ht => by rw [h9 t ht, esL]
  have f1 : ∀ t : Nat, t < (wkL C).length → M (c + 1) t = (wkL C).getD t 0 ∧ M (c + 2) t = C 27 ((wkL C).getD t 0) ∧ M (c + 3) t = C 28 ((wkL C).getD t 0) := fun t ht => by
    have := h8 t ht
    rw [e0 27 (by omega), e0 28 (by omega)] at this
    exact this
  have fp : ∀ t : Nat, t < (wkL C).length → pcn M c t = ln C ((wkL C).getD t 0) := fun t ht => by
    unfold pcn ln
    rw [(f1 t ht).2.1, (f1 t ht).2.2, so_eq (eM 16 (by omega))]
  have ekA : ∀ t k, kA M t k = kA C t k := fun t k => kA_eq (eM 24 (by omega)) t k
  have ekA0 : ∀ t k, kA C0 t k = kA C t k := fun t k => kA_eq (e0 24 (by omega)) t k
  have elA : ∀ t k, lA M t k = lA C t k := fun t k => lA_eq (eM 25 (by omega)) t k
  have eft : ∀ t w, ft M t w ↔ ft C t w := fun t w => ft_eq (eM 11 (by omega)) t w
  have epv : ∀ o k, pv C0 (wkL C) o k = pv C (wkL C) o k := fun o k => by unfold pv; rw [ekA0, e0 27 (by omega), e0 29 (by omega), e0 30 (by omega)]
  have f9 : ∀ t k : Nat, t < (wkL C).length → k < lnN C ((wkL C).getD t 0) → M (c + 9) (sL C (wkL C) t + k) = pv C (wkL C) ((wkL C).getD t 0) k ∧ M (c + 10) (sL C (wkL C) t + k) = lf (kA C (C 27 ((wkL C).getD t 0)) k) := fun t k ht hk => by
    have eln : lnN C0 = lnN C := by funext o; unfold lnN; rw [ln_eq (e0 16 (by omega)) (e0 27 (by omega)) (e0 28 (by omega))]
    have := hS t k (Or.inl ht) ht (by rw [eln]; exact hk)
    rw [esL, epv, ekA0, e0 27 (by omega)] at this
    exact ⟨this.1, this.2.1⟩
  have lok : ∀ t : Nat, t < (wkL C).length → hOk C ((wkL C).getD t 0) := fun t ht => w2 _ (gD_mem ht)
  have lnn : ∀ t : Nat, t < (wkL C).length → ((lnN C ((wkL C).getD t 0) : Nat) : Int) = ln C ((wkL C).getD t 0) := fun t ht => by
    have := (hp_at hY hH (lok t ht)).1
    unfold lnN; omega
  have flv : ∀ t k : Nat, t < (wkL C).length → k < lnN C ((wkL C).getD t 0) → lv M c t k = if slk C ((wkL C).getD t 0) k = -1 then -1 else ix (wkL C) (slk C ((wkL C).getD t 0) k) := fun t k ht hk => by
    obtain ⟨a1, a2⟩ := f9 t k ht hk
    unfold lv
    rw [f4 t (by omega), a1, a2]
    unfold lf pv slk
    by_cases z : kA C (C 27 ((wkL C).getD t 0)) k = 5
    · rw [if_pos z, if_neg (by omega), if_pos z]
      by_cases z2 : C 30 (C 29 ((wkL C).getD t 0) + k) = -1
      · rw [if_neg (fun q => q.2 z2), if_pos z2]; exact z2
      · rw [if_pos ⟨z, z2⟩, if_neg z2]
    · rw [if_neg z, if_pos rfl, if_neg z, if_pos rfl]
  have lveq : ∀ t k u : Nat, t < (wkL C).length → k < lnN C ((wkL C).getD t 0) → u < (wkL C).length → (lv M c t k = u ↔ slk C ((wkL C).getD t 0) k = (wkL C).getD u 0) := fun t k u ht hk hu => by
    rw [flv t k ht hk]
    by_cases z : slk C ((wkL C).getD t 0) k = -1
    · rw [if_pos z, z]
      have := (lok u hu).1
      exact ⟨fun q => by omega, fun q => by omega⟩
    · rw [if_neg z]
      have h0 : 0 ≤ slk C ((wkL C).getD t 0) k := by
        rcases slk_sg hY hH (lok t ht) k hk with q | q
        · exact absurd q z
        · exact q
      exact ix_eq w1.1 (w4 _ (gD_mem ht) k hk h0) hu
  have rteq : ∀ r u : Nat, r < (rtX C).length → u < (wkL C).length → (M (c + 12) r = u ↔ ((rtX C).getD r (0, 0)).2 = (wkL C).getD u 0) := fun r u hr hu => by
    rw [(h14 r hr).2.1]
    exact ix_eq w1.1 (h14 r hr).2.2 hu
  have cN : ∀ t : Int, 0 ≤ t → ∃ t' : Nat, t = t' := fun t ht => ⟨t.toNat, by omega⟩
  refine ⟨⟨?_, ?_, ?_, ?_, ?_, ?_, ?_, ?_, ?_, ?_, ?_, ?_, ?_, ?_⟩, eM, fun t ht => f4 t (by rw [h7] at ht; omega), h7⟩
  · rw [h7]; omega
  · rw [h7]; omega
  · have := f4 0 (by omega); exact this
  · intro t t0 t1
    obtain ⟨t, rfl⟩ := cN t t0
    rw [h7] at t1
    have ht : t < (wkL C).length := by omega
    obtain ⟨a1, a2, a3⟩ := f1 t ht
    have ho := lok t ht
    have ho1 := ho.2.1
    obtain ⟨b1, b2, b3, b4⟩ := ob_ty hH ho
    unfold PT
    rw [a1, a2, a3, eM 8 (by omega), eM 12 (by omega), fp t ht, show ((t : Int) + 1) = ((t + 1 : Nat) : Int) from by omega, f4 (t + 1) (by omega), f4 t (by omega)]
    refine ⟨ho.1, by omega, b1, b2, b3, b4, rfl, ?_⟩
    rw [h10 _ ho.1 (by omega), ix_gD w1.1 ht]
  · rw [h7, f4 _ (Nat.le_refl _)]; exact hsl
  · intro t k t0 t1 k0 k1
    obtain ⟨t, rfl⟩ := cN t t0
    obtain ⟨k, rfl⟩ := cN k k0
    rw [h7] at t1
    have ht : t < (wkL C).length := by omega
    rw [fp t ht] at k1
    have hk : k < lnN C ((wkL C).getD t 0) := by have := lnn t ht; omega
    obtain ⟨a1, a2⟩ := f9 t k ht hk
    have ho := lok t ht
    obtain ⟨-, -, b3⟩ := ((hH.2.2.2.2.2.2.2.2.2.1 _ ho.1 ho.2.1).2 ho.2.2).2.2.2.2.2.2.2.2.2 k (by omega) k1
    unfold PV pK
    rw [f4 t (by omega), (f1 t ht).2.1, a1, a2, ekA, elA, h7]
    refine ⟨rfl, ?_⟩
    rcases b3 with ⟨z, b4⟩ | ⟨z, b4⟩
    · refine Or.inl ⟨z, ?_⟩
      unfold pv
      by_cases z2 : C 30 (C 29 ((wkL C).getD t 0) + k) = -1
      · rw [if_neg (fun q => q.2 z2)]; exact Or.inl z2
      · rw [if_pos ⟨z, z2⟩]
        have es : slk C ((wkL C).getD t 0) k = C 30 (C 29 ((wkL C).getD t 0) + k) := by unfold slk; rw [if_pos z]
        rcases b4 with q | ⟨q1, q2⟩
        · exact absurd q z2
        · have hin := w4 _ (gD_mem ht) k hk (by rw [es]; exact q1.1)
          rw [es] at hin
          have l1 := (ix_lt (L := wkL C) (o := C 30 (C 29 ((wkL C).getD t 0) + k))).1
          have l2 := (ix_lt (L := wkL C) (o := C 30 (C 29 ((wkL C).getD t 0) + k))).2
          have l3 : ix (wkL C) (C 30 (C 29 ((wkL C).getD t 0) + k)) ≠ -1 := fun q => (ix_m.mp q) hin
          refine Or.inr ⟨by omega, l2, ?_⟩
          obtain ⟨u, hu⟩ := cN (ix (wkL C) (C 30 (C 29 ((wkL C).getD t 0) + k))) (by omega)
          have hul : u < (wkL C).length := by omega
          rw [hu, (f1 u hul).2.1, eft, ← (ix_eq w1.1 hin hul).mp hu]
          exact q2
    · refine Or.inr ⟨z, ?_⟩
      unfold pv
      rw [if_neg (fun q => z q.1)]; exact b4
  · intro o o0 o1
    rw [h10 o o0 o1, h7]
    by_cases z : o ∈ wkL C
    · have l1 := (ix_lt (L := wkL C) (o := o)).1
      have l2 := (ix_lt (L := wkL C) (o := o)).2
      have l3 : ix (wkL C) o ≠ -1 := fun q => (ix_m.mp q) z
      refine Or.inr ⟨by omega, l2, ?_⟩
      obtain ⟨u, hu⟩ := cN (ix (wkL C) o) (by omega)
      have hul : u < (wkL C).length := by omega
      rw [hu, (f1 u hul).1, ← (ix_eq w1.1 z hul).mp hu]
    · exact Or.inl (ix_out z)
  · rw [h12]; omega
  · rw [h12]; exact h13
  · intro r r0 r1
    obtain ⟨r, rfl⟩ := cN r r0
    rw [h12] at r1
    obtain ⟨a1, a2, a3⟩ := h14 r (by omega)
    obtain ⟨-, b2, b3⟩ := y1 r (by omega)
    rw [a1, a2, h7]
    have l1 := (ix_lt (L := wkL C) (o := ((rtX C).getD r (0, 0)).2)).1
    have l2 := (ix_lt (L := wkL C) (o := ((rtX C).getD r (0, 0)).2)).2
    have l3 : ix (wkL C) ((rtX C).getD r (0, 0)).2 ≠ -1 := fun q => (ix_m.mp q) a3
    exact ⟨by omega, l2, b2, b3⟩
  · intro r r0 r1
    obtain ⟨r, rfl⟩ := cN r r0
    rw [h12] at r1
    rw [show ((r : Int) + 1) = ((r + 1 : Nat) : Int) from by omega, (h14 r (by omega)).1, (h14 (r + 1) (by omega)).1]
    exact y2 r (by omega)
  · intro t t0 t1
    rw [h7] at t0
    rw [h1 (c + 13) (by omega)]
    exact hE.2.2.2.2.2.2.1 t (by omega) t1
  · intro t t0 t1
    obtain ⟨t, rfl⟩ := cN t t0
    rw [h7] at t1
    have ht : t < (wkL C).length := by omega
    obtain ⟨a1, a2, a3, a4, a5⟩ := h11 t ht
    refine ⟨?_, a3, a4, a5⟩
    rw [a1, a2]
    rcases x3 t ht with ⟨q1, r, q2, q3, q4⟩ | ⟨F, S, q1, q2, q3, q4, q5, q6, q7⟩
    · refine Or.inl ⟨q1, (r : Int), by omega, by rw [h12]; omega, ?_, ?_, fun r' r0 r1 => ?_⟩
      · rw [rteq r t q2 ht, q3]
      · rw [(h14 r q2).1, q3]
      · obtain ⟨r', rfl⟩ := cN r' r0
        intro q
        rw [rteq r' t (by omega) ht] at q
        exact q4 r' (by omega) q
    · have hF : F < (wkL C).length := by omega
      rw [q1]
      refine Or.inr ⟨by simp, by rw [h7]; simp; omega, by simp, ?_, ?_, fun r r0 r1 => ?_, fun f' s' f0 hlt s0 s1 => ?_⟩
      · show ((S : Nat) : Int) < pcn M c (F : Nat)
        rw [fp F hF]; have := lnn F hF; omega
      · show lv M c (F : Nat) (S : Nat) = _
        rw [lveq F S t hF q4 ht]; exact q5
      · obtain ⟨r, rfl⟩ := cN r r0
        rw [h12] at r1
        intro q
        rw [rteq r t (by omega) ht] at q
        exact q6 r (by omega) q
      · obtain ⟨f', rfl⟩ := cN f' f0
        obtain ⟨s', rfl⟩ := cN s' s0
        simp at hlt
        have hF' : f' < (wkL C).length := by omega
        rw [fp f' hF'] at s1
        have hs' : s' < lnN C ((wkL C).getD f' 0) := by have := lnn f' hF'; omega
        intro q
        rw [lveq f' s' t hF' hs' ht] at q
        exact q7 f' s' (by unfold sb; omega) hs' q
  · intro t t0 t1
    obtain ⟨t, rfl⟩ := cN t t0
    rw [h7] at t1
    have := x4 t (by omega)
    rw [(h11 t (by omega)).1, (h11 t (by omega)).2.1, show ((t : Int) + 1) = ((t + 1 : Nat) : Int) from by omega, (h11 (t + 1) (by omega)).1, (h11 (t + 1) (by omega)).2.1]
    exact this
