/-! the field behind a slot, in the reference -/
/-- slots of classes above end before a class's own begin -/
theorem upn_sl {C R : MM} (hY : Rty C R) {c : Int} (c0 : 0 ≤ c) (c1 : c < C 8 0) (a : Nat) (d : Nat) (h : 0 ≤ upn C c (a + d + 1)) : C 16 (upn C c (a + d + 1)) ≤ bsC C (upn C c a) := by
  have hp := pOk_of hY
  induction d with
  | zero =>
    have hs := upn_s C c a
    by_cases z : upn C c a = -1
    · rw [if_pos z] at hs; rw [Nat.add_zero, hs] at h; omega
    · rw [if_neg z] at hs
      rw [Nat.add_zero, hs] at h ⊢
      unfold bsC
      rw [if_neg (by omega)]; omega
  | succ d ih =>
    have hs := upn_s C c (a + d + 1)
    by_cases z : upn C c (a + d + 1) = -1
    · rw [if_pos z] at hs; rw [show a + (d + 1) + 1 = a + d + 1 + 1 from by omega, hs] at h; omega
    · rw [if_neg z] at hs
      have hin := upn_in hp (c := c) (by omega) c1 (a + d + 1)
      have ih' := ih (by omega)
      rw [show a + (d + 1) + 1 = a + d + 1 + 1 from by omega, hs] at h ⊢
      have l2 := (hY.2.2.2.1 (upn C c (a + d + 1)) (by omega) hin.2).2.1.2.1
      have hn := ns_bd (C 21) (6 * upn C c (a + d + 1)) (C 14 (upn C c (a + d + 1))).toNat
      unfold bsC at l2
      rw [if_neg (by omega)] at l2
      omega
theorem ns_lt {st : Int → Int} {b : Int} {i j : Nat} (h : i < j) (hi : st (b + i) = 0) : ns st b i < ns st b j := by
  induction j with
  | zero => omega
  | succ j ih =>
    show _ < ns st b j + (if st (b + j) = 0 then 1 else 0)
    by_cases e : i = j
    · subst e; rw [if_pos hi]; omega
    · have := ih (by omega)
      by_cases z : st (b + j) = 0
      · rw [if_pos z]; omega
      · rw [if_neg z]; omega
theorem ns_le {st : Int → Int} {b : Int} {i j : Nat} (h : i ≤ j) : ns st b i ≤ ns st b j := by
  induction j with
  | zero => rw [show i = 0 from by omega]; omega
  | succ j ih =>
    by_cases e : i = j + 1
    · rw [e]; omega
    · have := ih (by omega)
      show _ ≤ ns st b j + (if st (b + j) = 0 then 1 else 0)
      by_cases z : st (b + j) = 0
      · rw [if_pos z]; omega
      · rw [if_neg z]; omega
/-- an own field's slot lies between the slots above and the class's end -/
theorem own_sl {C R : MM} (hY : Rty C R) {x k : Int} (x0 : 0 ≤ x) (x1 : x < C 8 0) (k0 : 0 ≤ k) (k1 : k < C 14 x) (hs : C 21 (6 * x + k) = 0) : C 22 (6 * x + k) = bsC C x + ns (C 21) (6 * x) k.toNat ∧ bsC C x ≤ C 22 (6 * x + k) ∧ C 22 (6 * x + k) < C 16 x := by
  obtain ⟨-, l2, -, l4⟩ := (hY.2.2.2.1 x x0 x1).2.1
  have h4 := (l4 k.toNat (by omega)).1
  have ek : ((k.toNat : Nat) : Int) = k := by omega
  rw [ek] at h4
  unfold sl at h4
  rw [ek, if_pos hs] at h4
  have hb := ns_bd (C 21) (6 * x) k.toNat
  have hl := ns_lt (st := C 21) (b := 6 * x) (i := k.toNat) (j := (C 14 x).toNat) (by omega) (by rw [ek]; exact hs)
  exact ⟨h4, by omega, by omega⟩
theorem own_inj {C R : MM} (hY : Rty C R) {x k j : Int} (x0 : 0 ≤ x) (x1 : x < C 8 0) (k0 : 0 ≤ k) (k1 : k < C 14 x) (hk : C 21 (6 * x + k) = 0) (j0 : 0 ≤ j) (j1 : j < C 14 x) (hj : C 21 (6 * x + j) = 0) (he : C 22 (6 * x + k) = C 22 (6 * x + j)) : k = j := by
  have a := (own_sl hY x0 x1 k0 k1 hk).1
  have b := (own_sl hY x0 x1 j0 j1 hj).1
  by_cases q : k < j
  · have := ns_lt (st := C 21) (b := 6 * x) (i := k.toNat) (j := j.toNat) (by omega) (by rw [show ((k.toNat : Nat) : Int) = k from by omega]; exact hk)
    omega
  · by_cases q2 : j < k
    · have := ns_lt (st := C 21) (b := 6 * x) (i := j.toNat) (j := k.toNat) (by omega) (by rw [show ((j.toNat : Nat) : Int) = j from by omega]; exact hj)
      omega
    · omega
/-- f is the own field behind slot s of class c -/
def fdAt (C : MM) (c s f : Int) : Prop := ∃ (m : Nat) (x k : Int), upn C c m = x ∧ 0 ≤ x ∧ x < C 8 0 ∧ 0 ≤ k ∧ k < C 14 x ∧ f = 6 * x + k ∧ C 21 f = 0 ∧ C 22 f = s ∧ C 18 f = C 23 (96 * c + s) ∧ C 19 f = C 24 (96 * c + s) ∧ C 20 f = C 25 (96 * c + s)
theorem fdAt_bd {C R : MM} (hY : Rty C R) {c s f : Int} (h : fdAt C c s f) : 0 ≤ f ∧ f < 96 := by
  obtain ⟨m, x, k, -, x0, x1, k0, k1, rfl, -⟩ := h
  have := (hY.2.2.2.1 x x0 x1).1.2.2.2.2.2.2.2.2.2.1
  have := hY.2.2.1
  omega
set_option maxHeartbeats 400000 in
theorem p_R_fieldOf {Q : Int → MM → Prop} {c s : Int} {C R : MM} (hY : Rty C R) (c0 : 0 ≤ c) (c1 : c < C 8 0) (s0 : 0 ≤ s) (s1 : s < C 16 c) (h : ∀ f, fdAt C c s f → Q f R) : w_X12_fieldOf Q c s R := by
  have hp := pOk_of hY
  have h16 := hY.2.2.1
  obtain ⟨m9, x9, k9, q1, q2, q3, q4, q5, q6, q7, q8, q9⟩ := (hY.2.2.2.1 c c0 c1).2.2.1 s s0 s1
  have x9l : x9 < C 8 0 := by have := (upn_in hp (c := c) (by omega) c1 m9).2; rw [q1] at this; exact this
  have o9 := own_sl hY q2 x9l q3 q4 q5
  unfold w_X12_fieldOf
  refine loop3 _ (fun a x M1 => s = a ∧ R = M1 ∧ 0 ≤ x ∧ s < C 16 x ∧ ∃ m : Nat, upn C c m = x) (fun _ x _ => x.toNat) ?_ _ _ _ ⟨rfl, rfl, c0, s1, 0, rfl⟩
  rintro _ x _ f ⟨rfl, rfl, x0, x1, m, hm⟩ ih
  have hin := upn_in hp (c := c) (by omega) c1 m
  rw [hm] at hin
  obtain ⟨⟨-, -, a3, a4, a5, -, -, a8, a9, a10, a11, -, -⟩, -, -, fl⟩ := hY.2.2.2.1 x x0 hin.2
  have hfin : bsC C x ≤ s → w_X12_fieldOf_b37 Q s x R := by
    intro hb
    -- x is x9
    have ex : x = x9 := by
      by_cases e : m = m9
      · rw [← hm, ← q1, e]
      · by_cases l : m < m9
        · have := upn_sl hY c0 c1 m (m9 - m - 1)
          rw [show m + (m9 - m - 1) + 1 = m9 from by omega, q1, hm] at this
          have := this q2
          omega
        · have := upn_sl hY c0 c1 m9 (m - m9 - 1)
          rw [show m9 + (m - m9 - 1) + 1 = m from by omega, q1, hm] at this
          have := this x0
          omega
    subst ex
    unfold w_X12_fieldOf_b37
    refine loop5 _ (fun a y g k M2 => s = a ∧ x = y ∧ R = M2 ∧ 0 ≤ k ∧ k ≤ C 14 x ∧ ((k9 < k ∧ g = 6 * x + k9) ∨ (k ≤ k9))) (fun _ _ _ k _ => (C 14 x - k).toNat) ?_ _ _ _ _ _ ⟨rfl, rfl, rfl, by omega, by omega, Or.inr q3⟩
    rintro _ _ g k _ f ⟨rfl, rfl, rfl, k0, k1, hg⟩ ih2
    unfold wb_X12_fieldOf_b43
    refine ⟨x0, by omega, fun v1 e1 g1 => ?_⟩
    rw [← a8] at e1
    subst e1
    refine ⟨fun z => ?_, fun z => ⟨by unfold ri_; omega, by unfold ri_; omega, by omega, by omega, fun v5 e5 g5 => ?_⟩⟩
    · rcases hg with ⟨-, hg⟩ | hg
      · rw [hg]
        exact h _ ⟨m, x, k9, hm, x0, hin.2, q3, q4, rfl, q5, q6, q7.symm, q8.symm, q9.symm⟩
      · omega
    · obtain ⟨-, -, -, -, -, b6, b7⟩ := fl k k0 (by omega)
      rw [← b6] at e5
      have hno : k ≠ k9 → w_X12_fieldOf_b95 Q f s x g k R := by
        intro hk
        unfold w_X12_fieldOf_b95 w_X12_fieldOf_b97
        exact ⟨by unfold ri_; omega, ih2 _ _ _ _ _ ⟨rfl, rfl, rfl, by omega, by omega, by omega⟩ (by omega)⟩
      refine ⟨fun z5 => hno fun q => z5 (by rw [e5, q]; exact q5), fun z5 => ⟨by unfold ri_; omega, by unfold ri_; omega, by omega, by omega, fun v9 e9 g9 => ?_⟩⟩
      rw [← b7] at e9
      refine ⟨fun z9 => hno fun q => z9 (by rw [e9, q]; exact q6), fun z9 => ⟨by unfold ri_; omega, by unfold ri_; omega, ?_⟩⟩
      unfold w_X12_fieldOf_b97
      have ek : k = k9 := own_inj hY x0 hin.2 k0 (by omega) (by rw [← e5]; exact z5) q3 q4 q5 (by rw [← e9, q6]; exact z9)
      exact ⟨by unfold ri_; omega, ih2 _ _ _ _ _ ⟨rfl, rfl, rfl, by omega, by omega, Or.inl ⟨by omega, by rw [ek]⟩⟩ (by omega)⟩
  unfold wb_X12_fieldOf_b2
  refine ⟨x0, by omega, fun v1 e1 g1 => ?_⟩
  rw [← a3] at e1
  subst e1
  refine ⟨fun z => hfin ?_, fun z => ⟨x0, by omega, fun v3 e3 g3 => ?_⟩⟩
  · unfold bsC; rw [if_pos z]; exact s0
  · rw [← a3] at e3
    subst e3
    have hpar := (hY.2.2.2.1 (C 11 x) (by omega) (by omega)).1.2.2.2.2.2.2.2.2.2.2.1
    refine ⟨by omega, by omega, fun v4 e4 g4 => ?_⟩
    rw [← hpar] at e4
    subst e4
    refine ⟨fun z4 => hfin ?_, fun z4 => ⟨x0, by omega, fun v6 e6 g6 => ?_⟩⟩
    · unfold bsC; rw [if_neg z]; exact z4
    · rw [← a3] at e6
      subst e6
      exact ih _ _ _ ⟨rfl, rfl, by omega, by omega, m + 1, by rw [upn_s, hm, if_neg (by omega)]⟩ (by omega)
theorem p_R_kA {Q : Int → MM → Prop} {t s : Int} {C R : MM} (hY : Rty C R) (ht : vT (C 8 0) t) (s0 : 0 ≤ s) (s1 : t < 20 → s < C 16 t) (h : Q (kA C t s) R) : w_X12_kindOf Q t s R := by
  have h16 := hY.2.2.1
  have hn := hY.1
  unfold vT at ht
  unfold kA at h
  unfold w_X12_kindOf
  refine p_R_isClass (fun c0 c1 _ => ⟨fun q => by omega, fun _ => p_R_fieldOf hY c0 (by omega) s0 (s1 (by omega)) fun f hf _ => ⟨(fdAt_bd hY hf).1, (fdAt_bd hY hf).2, fun v e g => ?_⟩⟩) (fun c0 _ => ⟨fun _ => ⟨fun z => ⟨by unfold ri_; omega, ?_⟩, fun z => ?_⟩, fun q => absurd rfl q⟩)
  · rw [if_neg (by omega), if_neg (by omega)] at h
    obtain ⟨m, x, k, -, x0, x1, k0, k1, ef, -, -, -, e19, -⟩ := hf
    have := ((hY.2.2.2.1 x x0 x1).2.2.2 k k0 k1).2.1
    rw [← ef] at this
    rw [e, ← this, e19]; exact h
  · rw [if_neg (by omega), if_pos (by omega)] at h; exact h
  · rw [if_pos (by omega)] at h; exact h
theorem p_R_lA {Q : Int → MM → Prop} {t s : Int} {C R : MM} (hY : Rty C R) (ht : vT (C 8 0) t) (s0 : 0 ≤ s) (s1 : t < 20 → s < C 16 t) (hk : kA C t s = 5) (h : Q (lA C t s) R) : w_X12_linkOf Q t s R := by
  have h16 := hY.2.2.1
  have hn := hY.1
  unfold vT at ht
  unfold lA at h
  unfold kA at hk
  unfold w_X12_linkOf
  refine p_R_isClass (fun c0 c1 _ => ⟨fun q => by omega, fun _ => p_R_fieldOf hY c0 (by omega) s0 (s1 (by omega)) fun f hf _ => ⟨(fdAt_bd hY hf).1, (fdAt_bd hY hf).2, fun v e g => ?_⟩⟩) (fun c0 _ => ⟨fun _ => ⟨fun z => ⟨by unfold ri_; omega, ?_⟩, fun z => ?_⟩, fun q => absurd rfl q⟩)
  · rw [if_neg (by omega), if_neg (by omega)] at h
    obtain ⟨m, x, k, -, x0, x1, k0, k1, ef, -, -, -, -, e20⟩ := hf
    have := ((hY.2.2.2.1 x x0 x1).2.2.2 k k0 k1).2.2.2.2.1
    rw [← ef] at this
    rw [e, ← this, e20]; exact h
  · by_cases q : 29 ≤ t
    · rw [if_pos (by omega)] at h; exact h
    · rw [if_neg q, if_pos (by omega)] at hk; omega
  · rw [if_neg (by omega), if_pos (by omega)] at h; exact h
/-- a thing's size -/
def sz (C : MM) (t n : Int) : Int := ((if 20 ≤ t then 16 + n * wdt (kA C t 0).toNat else C 17 t) + 7) / 8 * 8
theorem wdt_bd (n : Nat) : 0 ≤ wdt n ∧ wdt n ≤ 8 := by
  unfold wdt
  split <;> omega
theorem sz_bd {C R : MM} (hY : Rty C R) {t n : Int} (ht : vT (C 8 0) t) (n0 : 0 ≤ n) (n1 : n ≤ 60) : 0 ≤ sz C t n ∧ sz C t n ≤ 8000 := by
  unfold vT at ht
  unfold sz
  have hw := wdt_bd (kA C t 0).toNat
  by_cases z : 20 ≤ t
  · rw [if_pos z]
    have h1 : 0 ≤ n * wdt (kA C t 0).toNat := Int.mul_nonneg n0 hw.1
    have h2 : n * wdt (kA C t 0).toNat ≤ 60 * 8 := Int.mul_le_mul n1 hw.2 hw.1 (by omega)
    omega
  · rw [if_neg z]
    have := ty_bd hY t (by omega) (by omega)
    have := hY.2.2.1
    omega
theorem p_sizeOf {Q : Int → MM → Prop} {t n : Int} {C R : MM} (hY : Rty C R) (ht : vT (C 8 0) t) (n0 : 0 ≤ n) (n1 : n ≤ 60) (h : Q (sz C t n) C) : w_X10_sizeOf Q t n C := by
  have h16 := hY.2.2.1
  have hk : 20 ≤ t → 0 ≤ kA C t 0 ∧ kA C t 0 ≤ 5 := fun z => by
    unfold vT at ht
    unfold kA
    by_cases q : 29 ≤ t
    · rw [if_pos q]; omega
    · rw [if_neg q, if_pos z]; omega
  unfold w_X10_sizeOf w_X10_isArray
  unfold sz at h
  refine ⟨fun z _ => ⟨fun _ => ⟨by unfold vT at ht; omega, by unfold vT at ht; omega, fun v e g => ?_⟩, fun q => absurd rfl q⟩, fun z _ => ⟨fun q => by omega, fun _ => p_kA h16 ht (by omega) (by omega) fun _ => ?_⟩⟩
  · rw [if_neg (by omega)] at h
    have := ty_bd hY t (by unfold vT at ht; omega) (by unfold vT at ht; omega)
    unfold w_X10_sizeOf_b31
    rw [← e] at h
    rw [Int.tdiv_eq_ediv_of_nonneg (by omega)]
    exact ⟨by unfold ri_; omega, by unfold ri_; omega, by unfold ri_; omega, h⟩
  · rw [if_pos (by omega)] at h
    have hk' := hk (by omega)
    have hw := wdt_bd (kA C t 0).toNat
    have h1 : 0 ≤ n * wdt (kA C t 0).toNat := Int.mul_nonneg n0 hw.1
    have h2 : n * wdt (kA C t 0).toNat ≤ 60 * 8 := Int.mul_le_mul n1 hw.2 hw.1 (by omega)
    refine ⟨hk'.1, by omega, by unfold ri_; omega, by unfold ri_; omega, ?_⟩
    unfold w_X10_sizeOf_b31
    rw [Int.tdiv_eq_ediv_of_nonneg (by omega)]
    exact ⟨by unfold ri_; omega, by unfold ri_; omega, by unfold ri_; omega, h⟩
theorem p_R_size {Q : Int → MM → Prop} {t n : Int} {C R : MM} (hY : Rty C R) (ht : vT (C 8 0) t) (n0 : 0 ≤ n) (n1 : n ≤ 60) (h : Q (sz C t n) R) : w_X12_objectSize Q t n R := by
  have h16 := hY.2.2.1
  have hn := hY.1
  unfold sz at h
  have hfin : 20 ≤ t → ∀ w, w = wdt (kA C t 0).toNat → w_X12_objectSize_b31 Q n w R := by
    intro z w hw0
    have hw := wdt_bd (kA C t 0).toNat
    rw [← hw0] at hw
    have h1 : 0 ≤ n * w := Int.mul_nonneg n0 hw.1
    have h2 : n * w ≤ 60 * 8 := Int.mul_le_mul n1 hw.2 hw.1 (by omega)
    rw [if_pos z, ← hw0] at h
    unfold w_X12_objectSize_b31
    rw [Int.tdiv_eq_ediv_of_nonneg (by omega)]
    exact ⟨by unfold ri_; omega, by unfold ri_; omega, by unfold ri_; omega, by unfold ri_; omega, by unfold ri_; omega, h⟩
  unfold vT at ht
  unfold w_X12_objectSize
  refine p_R_isClass (fun c0 c1 _ => ⟨fun q => by omega, fun _ => ?_⟩) (fun c0 _ => ⟨fun _ => ⟨fun z => ⟨by unfold ri_; omega, p_R_width (by omega) (by omega) fun _ => hfin (by omega) _ ?_⟩, fun z => hfin (by omega) 4 ?_⟩, fun q => absurd rfl q⟩)
  · rw [if_neg (by omega)] at h
    unfold w_X12_sizeOf
    refine ⟨c0, by omega, fun v e g => ?_⟩
    have := ty_bd hY t c0 (by omega)
    rw [← (hY.2.2.2.1 t c0 (by omega)).1.2.2.2.2.2.2.2.2.2.2.2.1] at e
    rw [← e] at h
    rw [Int.tdiv_eq_ediv_of_nonneg (by omega)]
    exact ⟨by unfold ri_; omega, by unfold ri_; omega, by unfold ri_; omega, fun _ => h⟩
  · unfold kA; rw [if_neg (by omega), if_pos (by omega)]
  · unfold kA; rw [if_pos (by omega)]; rfl
