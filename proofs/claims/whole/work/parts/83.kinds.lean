/-! slots, kinds, heirs: the same on both sides -/
theorem Rty_R {C R R' : MM} (h : Rty C R) (r : ∀ k, 4 ≤ k → k ≤ 18 → k ≠ 6 → R' k = R k) (r20 : R' 0 20 = R 0 20) : Rty C R' := by
  unfold Rty Rcls Rlay Rfld at h ⊢
  simp only [r20, r 4 (by omega) (by omega) (by omega), r 5 (by omega) (by omega) (by omega), r 7 (by omega) (by omega) (by omega), r 8 (by omega) (by omega) (by omega), r 9 (by omega) (by omega) (by omega), r 10 (by omega) (by omega) (by omega), r 11 (by omega) (by omega) (by omega), r 12 (by omega) (by omega) (by omega), r 13 (by omega) (by omega) (by omega), r 14 (by omega) (by omega) (by omega), r 15 (by omega) (by omega) (by omega), r 16 (by omega) (by omega) (by omega), r 17 (by omega) (by omega) (by omega), r 18 (by omega) (by omega) (by omega)]
  exact h
theorem Rty_C {C R C' : MM} (h : Rty C R) (c : ∀ k, 8 ≤ k → k ≤ 25 → C' k = C k) : Rty C' R := by
  have q11 := c 11 (by omega) (by omega)
  have hup := fun d m => upn_eq (C := C) (C' := C') q11 d m
  unfold Rty Rcls Rlay Rfld slC bsC enC at h ⊢
  simp only [hup, c 8 (by omega) (by omega), c 9 (by omega) (by omega), c 10 (by omega) (by omega), q11, c 12 (by omega) (by omega), c 13 (by omega) (by omega), c 14 (by omega) (by omega), c 15 (by omega) (by omega), c 16 (by omega) (by omega), c 17 (by omega) (by omega), c 18 (by omega) (by omega), c 19 (by omega) (by omega), c 20 (by omega) (by omega), c 21 (by omega) (by omega), c 22 (by omega) (by omega), c 23 (by omega) (by omega), c 24 (by omega) (by omega), c 25 (by omega) (by omega)]
  exact h
/-- parents come before -/
def pOk (C : MM) : Prop := C 8 0 ≤ 16 ∧ ∀ i, 0 ≤ i → i < C 8 0 → -1 ≤ C 11 i ∧ C 11 i < i
theorem pOk_of {C R : MM} (h : Rty C R) : pOk C := ⟨h.2.2.1, fun i i0 i1 => ⟨(h.2.2.2.1 i i0 i1).1.2.2.2.1, (h.2.2.2.1 i i0 i1).1.2.2.2.2.1⟩⟩
theorem upn_in {C : MM} (h : pOk C) {c : Int} (c0 : -1 ≤ c) (c1 : c < C 8 0) (m : Nat) : -1 ≤ upn C c m ∧ upn C c m < C 8 0 := (upn_same (C := C) (C' := C) (fun _ _ _ => rfl) h.2 c0 c1 m).2
theorem upn_s (C : MM) (c : Int) (m : Nat) : upn C c (m + 1) = if upn C c m = -1 then -1 else C 11 (upn C c m) := rfl
theorem upn_stay (C : MM) (c : Int) (m : Nat) (h : upn C c m = -1) (d : Nat) : upn C c (m + d) = -1 := by
  induction d with
  | zero => exact h
  | succ d ih =>
    show upn C c (m + d + 1) = -1
    rw [upn_s, if_pos ih]
def heir (C : MM) (t o : Int) : Prop := ∃ m, upn C t m = o
theorem not_heir {C : MM} {t o : Int} (ho : o ≠ -1) (m : Nat) (h : upn C t m = -1) (hl : ∀ i, i < m → upn C t i ≠ o) : ¬ heir C t o := by
  rintro ⟨i, hi⟩
  by_cases q : i < m
  · exact hl i q hi
  · have := upn_stay C t m h (i - m)
    rw [show m + (i - m) = i from by omega, hi] at this
    exact ho this
theorem p_heir {Q : Int → MM → Prop} {t o : Int} {M : MM} (hp : pOk M) (t0 : 0 ≤ t) (t1 : t < M 8 0) (ho : o ≠ -1) (h1 : heir M t o → Q 1 M) (h0 : ¬ heir M t o → Q 0 M) : w_X10_isHeir Q t o M := by
  have h16 := hp.1
  unfold w_X10_isHeir
  refine loop4 _ (fun a c k M1 => o = a ∧ M = M1 ∧ 0 ≤ k ∧ c + k ≤ max t (-1 + k) ∧ ∃ m : Nat, upn M t m = c ∧ ∀ i, i < m → upn M t i ≠ o) (fun _ c _ _ => (c + 1).toNat) ?_ _ _ _ _ ⟨rfl, rfl, by omega, by omega, 0, rfl, fun i hi => by omega⟩
  rintro _ c k _ f ⟨rfl, rfl, k0, k1, m, hm, hl⟩ ih
  have hin := upn_in hp (c := t) (by omega) t1 m
  rw [hm] at hin
  unfold wb_X10_isHeir_b5
  refine ⟨fun z => h0 ?_, fun z => ⟨fun z2 => h0 (not_heir ho m (by rw [hm]; exact z2) hl), fun z2 => ⟨fun z3 => ⟨by omega, by omega, fun v4 e4 g4 => ⟨by unfold ri_; omega, ih _ _ _ _ ⟨rfl, rfl, by omega, ?_, m + 1, ?_, fun i hi => ?_⟩ ?_⟩⟩, fun z3 => h1 ⟨m, by rw [hm]; exact z3⟩⟩⟩⟩
  · exact not_heir ho m (by omega) hl
  · have := hp.2 c (by omega) hin.2
    omega
  · rw [upn_s, hm, if_neg z2, e4]
  · by_cases q : i = m
    · rw [q, hm]; exact z3
    · exact hl i (by omega)
  · have := hp.2 c (by omega) hin.2
    omega
theorem p_R_is {Q : Int → MM → Prop} {t o : Int} {C R : MM} (hY : Rty C R) (t0 : 0 ≤ t) (t1 : t < C 8 0) (ho : o ≠ -1) (h1 : heir C t o → Q 1 R) (h0 : ¬ heir C t o → Q 0 R) : w_X12_is Q t o R := by
  have hp := pOk_of hY
  have h16 := hp.1
  unfold w_X12_is
  refine loop3 _ (fun a c M1 => o = a ∧ R = M1 ∧ ∃ m : Nat, upn C t m = c ∧ ∀ i, i < m → upn C t i ≠ o) (fun _ c _ => (c + 1).toNat) ?_ _ _ _ ⟨rfl, rfl, 0, rfl, fun i hi => by omega⟩
  rintro _ c _ f ⟨rfl, rfl, m, hm, hl⟩ ih
  have hin := upn_in hp (c := t) (by omega) t1 m
  rw [hm] at hin
  unfold wb_X12_is_b2 w_X12_is_b22
  refine ⟨fun z => ⟨fun _ => h0 (not_heir ho m (by rw [hm]; exact z) hl), fun q => absurd z q⟩, fun z => ⟨fun z2 => ⟨fun q => absurd q z, fun _ => h1 ⟨m, by rw [hm]; exact z2⟩⟩, fun z2 => ⟨by omega, by omega, fun v3 e3 g3 => ?_⟩⟩⟩
  have e : v3 = C 11 c := by rw [e3, (hY.2.2.2.1 c (by omega) hin.2).1.2.2.1]
  have := hp.2 c (by omega) hin.2
  refine ih _ _ _ ⟨rfl, rfl, m + 1, ?_, fun i hi => ?_⟩ (by omega)
  · rw [upn_s, hm, if_neg z, e]
  · by_cases q : i = m
    · rw [q, hm]; exact z2
    · exact hl i (by omega)
/-- a link to a thing of type t fits where w is wanted -/
def ft (C : MM) (t w : Int) : Prop := w = -1 ∨ w = t ∨ (t < 20 ∧ w < 20 ∧ heir C t w) ∨ (30 ≤ t ∧ (w = 29 ∨ (30 ≤ w ∧ heir C (t - 30) (w - 30))))
theorem p_fits {Q : Int → MM → Prop} {t w : Int} {M : MM} (hp : pOk M) (ht : vT (M 8 0) t) (gw : ri_ w) (h1 : ft M t w → Q 1 M) (h0 : ¬ ft M t w → Q 0 M) : w_X10_fits Q t w M := by
  have h16 := hp.1
  unfold vT at ht
  unfold ri_ at gw
  unfold w_X10_fits w_X10_isArray
  refine ⟨fun z => h1 (Or.inl z), fun z => ⟨fun z2 => ⟨fun z3 => ?_, fun z3 => ?_⟩, fun z2 => h1 (Or.inr (Or.inl z2))⟩⟩
  · refine fun _ => ⟨fun q => absurd rfl q, fun _ => ⟨fun z4 => ?_, fun z4 => ?_⟩⟩
    · refine fun _ => ⟨fun q => absurd rfl q, fun _ => p_heir hp (by omega) (by omega) z (fun hh _ => ⟨fun q => by omega, fun _ => h1 (Or.inr (Or.inr (Or.inl ⟨z3, z4, hh⟩)))⟩) (fun hh _ => ⟨fun _ => h0 ?_, fun q => absurd rfl q⟩)⟩
      rintro (q | q | q | q)
      · exact z q
      · exact z2 q
      · exact hh q.2.2
      · omega
    · refine fun _ => ⟨fun _ => h0 ?_, fun q => by omega⟩
      rintro (q | q | q | q)
      · exact z q
      · exact z2 q
      · omega
      · omega
  · refine fun _ => ⟨fun _ => ⟨fun z4 => ⟨fun z5 => h1 (Or.inr (Or.inr (Or.inr ⟨z4, Or.inl z5⟩))), fun z5 => ⟨fun z6 => h0 ?_, fun z6 => ⟨by unfold ri_; omega, by unfold ri_; omega, p_heir hp (by omega) (by omega) (by omega) (fun hh _ => ⟨fun q => by omega, fun _ => h1 (Or.inr (Or.inr (Or.inr ⟨z4, Or.inr ⟨by omega, hh⟩⟩)))⟩) (fun hh _ => ⟨fun _ => h0 ?_, fun q => absurd rfl q⟩)⟩⟩⟩, fun z4 => h0 ?_⟩, fun q => by omega⟩
    · rintro (q | q | q | q)
      · exact z q
      · exact z2 q
      · omega
      · rcases q.2 with q | q
        · exact z5 q
        · have := q.1; omega
    · rintro (q | q | q | q)
      · exact z q
      · exact z2 q
      · omega
      · rcases q.2 with q | q
        · exact z5 q
        · exact hh q.2
    · rintro (q | q | q | q)
      · exact z q
      · exact z2 q
      · omega
      · exact z4 q.1
theorem p_R_fits {Q : Int → MM → Prop} {t w : Int} {C R : MM} (hY : Rty C R) (ht : vT (C 8 0) t) (hw : w = -1 ∨ vT (C 8 0) w) (h1 : ft C t w → Q 1 R) (h0 : ¬ ft C t w → Q 0 R) : w_X12_fits Q t w R := by
  have h16 := hY.2.2.1
  have hn := hY.1
  unfold vT at ht hw
  unfold w_X12_fits
  refine ⟨fun z => h1 (Or.inl z), fun z => ⟨fun z2 => ?_, fun z2 => h1 (Or.inr (Or.inl z2.symm))⟩⟩
  refine p_R_isClass (fun c0 c1 _ => ⟨fun q => by omega, fun _ => ?_⟩) (fun c0 _ => ⟨fun _ => ⟨fun z4 => ⟨fun z5 => h1 (Or.inr (Or.inr (Or.inr ⟨z4, Or.inl z5⟩))), fun z5 => ⟨fun z6 => h0 ?_, fun z6 => ⟨by unfold ri_; omega, by unfold ri_; omega, p_R_is hY (by omega) (by omega) (by omega) (fun hh _ => ⟨fun q => by omega, fun _ => h1 (Or.inr (Or.inr (Or.inr ⟨z4, Or.inr ⟨by omega, hh⟩⟩)))⟩) (fun hh _ => ⟨fun _ => h0 ?_, fun q => absurd rfl q⟩)⟩⟩⟩, fun z4 => h0 ?_⟩, fun q => absurd rfl q⟩)
  · refine p_R_isClass (fun d0 d1 _ => ⟨fun q => by omega, fun _ => p_R_is hY (by omega) (by omega) z (fun hh _ => ⟨fun q => by omega, fun _ => h1 (Or.inr (Or.inr (Or.inl ⟨by omega, by omega, hh⟩)))⟩) (fun hh _ => ⟨fun _ => h0 ?_, fun q => absurd rfl q⟩)⟩) (fun d0 _ => ⟨fun _ => h0 ?_, fun q => absurd rfl q⟩)
    · rintro (q | q | q | q)
      · exact z q
      · exact z2 q.symm
      · exact hh q.2.2
      · omega
    · rintro (q | q | q | q)
      · exact z q
      · exact z2 q.symm
      · omega
      · omega
  · rintro (q | q | q | q)
    · exact z q
    · exact z2 q.symm
    · omega
    · rcases q.2 with q | q
      · exact z5 q
      · have := q.1; omega
  · rintro (q | q | q | q)
    · exact z q
    · exact z2 q.symm
    · omega
    · rcases q.2 with q | q
      · exact z5 q
      · exact hh q.2
  · rintro (q | q | q | q)
    · exact z q
    · exact z2 q.symm
    · omega
    · exact z4 q.1
def so (C : MM) (t n : Int) : Int := if 20 ≤ t then n else C 16 t
def kA (C : MM) (t s : Int) : Int := if 29 ≤ t then 5 else if 20 ≤ t then t - 20 else C 24 (96 * t + s)
def lA (C : MM) (t s : Int) : Int := if 30 ≤ t then t - 30 else if 20 ≤ t then -1 else C 25 (96 * t + s)
theorem p_so {Q : Int → MM → Prop} {t n : Int} {M : MM} (h16 : M 8 0 ≤ 16) (ht : vT (M 8 0) t) (h : Q (so M t n) M) : w_X10_slotsOf Q t n M := by
  unfold vT at ht
  unfold w_X10_slotsOf w_X10_isArray
  refine ⟨fun z _ => ⟨fun _ => ⟨by omega, by omega, fun v e g => ?_⟩, fun q => absurd rfl q⟩, fun z _ => ⟨fun q => by omega, fun _ => ?_⟩⟩
  · unfold so at h; rw [if_neg (by omega)] at h; rw [e]; exact h
  · unfold so at h; rw [if_pos (by omega)] at h; exact h
theorem p_kA {Q : Int → MM → Prop} {t s : Int} {M : MM} (h16 : M 8 0 ≤ 16) (ht : vT (M 8 0) t) (s0 : 0 ≤ s) (s1 : t < 20 → s < 96) (h : Q (kA M t s) M) : w_X10_kindAt Q t s M := by
  unfold vT at ht
  unfold kA at h
  unfold w_X10_kindAt
  refine ⟨fun z => ⟨fun z2 => ⟨by unfold ri_; omega, by unfold ri_; omega, by omega, by omega, fun v e g => ?_⟩, fun z2 => ⟨by unfold ri_; omega, ?_⟩⟩, fun z => ?_⟩
  · rw [if_neg (by omega), if_neg (by omega)] at h; rw [e, Int.mul_comm]; exact h
  · rw [if_neg (by omega), if_pos (by omega)] at h; exact h
  · rw [if_pos (by omega)] at h; exact h
theorem p_lA {Q : Int → MM → Prop} {t s : Int} {M : MM} (h16 : M 8 0 ≤ 16) (ht : vT (M 8 0) t) (s0 : 0 ≤ s) (s1 : t < 20 → s < 96) (h : Q (lA M t s) M) : w_X10_linkAt Q t s M := by
  unfold vT at ht
  unfold lA at h
  unfold w_X10_linkAt
  refine ⟨fun z => ⟨fun z2 => ⟨by unfold ri_; omega, by unfold ri_; omega, by omega, by omega, fun v e g => ?_⟩, fun z2 => ?_⟩, fun z => ⟨by unfold ri_; omega, ?_⟩⟩
  · rw [if_neg (by omega), if_neg (by omega)] at h; rw [e, Int.mul_comm]; exact h
  · rw [if_neg (by omega), if_pos (by omega)] at h; exact h
  · rw [if_pos (by omega)] at h; exact h
theorem p_R_so {Q : Int → MM → Prop} {t n : Int} {C R : MM} (hY : Rty C R) (ht : vT (C 8 0) t) (h : Q (so C t n) R) : w_X12_slotCount Q t n R := by
  have h16 := hY.2.2.1
  have hn := hY.1
  unfold vT at ht
  unfold so at h
  unfold w_X12_slotCount
  refine p_R_isClass (fun c0 c1 _ => ⟨fun q => by omega, fun _ => ⟨c0, by omega, fun v e g => ?_⟩⟩) (fun c0 _ => ⟨fun _ => ?_, fun q => absurd rfl q⟩)
  · rw [if_neg (by omega)] at h
    rw [e, ← (hY.2.2.2.1 t c0 (by omega)).1.2.2.2.2.2.2.2.2.2.2.1]; exact h
  · rw [if_pos (by omega)] at h; exact h
