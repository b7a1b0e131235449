/-! swap, on both sides -/
def rtn (k : Nat) (a b n : Int) (M : MM) : MM := fun q i => if q = k ∧ 0 ≤ i ∧ i < n then tn a b (M k i) else M q i
theorem rtn_o {k q : Nat} {a b n : Int} {M : MM} (h : q ≠ k) : rtn k a b n M q = M q := funext fun i => by unfold rtn; rw [if_neg (by omega)]
theorem rtn_i {k : Nat} {a b n i : Int} {M : MM} (h0 : 0 ≤ i) (h1 : i < n) : rtn k a b n M k i = tn a b (M k i) := by unfold rtn; rw [if_pos ⟨rfl, h0, h1⟩]
theorem rtn_s {k : Nat} {a b j : Int} {M : MM} (j0 : 0 ≤ j) : ux_ (rtn k a b j M) k j (tn a b (M k j)) = rtn k a b (j + 1) M := by
  funext q i
  unfold ux_ rtn
  by_cases y : q = k ∧ i = j
  · rw [if_pos y, if_pos ⟨y.1, by omega, by omega⟩, y.2]
  · rw [if_neg y]
    by_cases z : q = k ∧ 0 ≤ i ∧ i < j
    · rw [if_pos z, if_pos ⟨z.1, z.2.1, by omega⟩]
    · rw [if_neg z, if_neg (fun w => z ⟨w.1, w.2.1, by have : ¬ i = j := fun e => y ⟨w.1, e⟩; omega⟩)]
theorem rtn_0 {k : Nat} {a b : Int} {M : MM} : rtn k a b 0 M = M := by
  funext q i
  unfold rtn
  rw [if_neg (by omega)]
theorem p_swapRoots {Q : Int → MM → Prop} {M : MM} {a b : Int} (n0 : 0 ≤ M 26 11) (n1 : M 26 11 ≤ 12) (hq : Q 0 (rtn 33 a b (M 26 11) M)) : w_X2_swapRoots Q a b M := by
  unfold w_X2_swapRoots w_X2_swapRoots_b2
  refine loop4 _ (fun (x1 x2 j : Int) N => a = x1 ∧ b = x2 ∧ 0 ≤ j ∧ j ≤ M 26 11 ∧ N = rtn 33 a b j M) (fun _ _ (j : Int) _ => (M 26 11 - j).toNat) ?_ _ _ _ _ ⟨rfl, rfl, by omega, n0, rtn_0.symm⟩
  rintro _ _ j N f ⟨rfl, rfl, j0, j1, rfl⟩ ih
  have u33 : rtn 33 a b j M 33 j = M 33 j := by unfold rtn; rw [if_neg (by omega)]
  unfold wb_X2_swapRoots_b2
  intro v1 e1 _
  rw [rtn_o (by decide)] at e1
  have nx : ∀ N', N' = rtn 33 a b (j + 1) M → j < M 26 11 → w_X2_swapRoots_b47 Q f a b j N' := fun N' e w => by
    unfold w_X2_swapRoots_b47
    exact ⟨by unfold ri_; omega, ih _ _ _ _ ⟨rfl, rfl, by omega, by omega, e⟩ (by omega)⟩
  refine ⟨fun z => by rw [show j = M 26 11 from by omega]; exact hq, fun z => ⟨j0, by omega, fun v3 e3 _ => ?_⟩⟩
  rw [u33] at e3
  refine ⟨fun y => ⟨j0, by omega, fun v5 e5 _ => ?_⟩, fun y => ⟨j0, by omega, fun M8 e8 => nx M8 ?_ (by omega)⟩⟩
  · rw [u33] at e5
    refine ⟨fun w => nx _ ?_ (by omega), fun w => ⟨j0, by omega, fun M7 e7 => nx M7 ?_ (by omega)⟩⟩
    · rw [← rtn_s j0]
      have t : tn a b (M 33 j) = M 33 j := by unfold tn; rw [if_neg (by omega), if_neg (by omega)]
      rw [t]
      funext q i
      unfold ux_
      by_cases x : q = 33 ∧ i = j
      · rw [if_pos x, x.1, x.2]; exact u33
      · rw [if_neg x]
    · rw [e7, ← rtn_s j0]
      have t : tn a b (M 33 j) = a := by unfold tn; rw [if_neg (by omega), if_pos (by omega)]
      rw [t]
  · rw [e8, ← rtn_s j0]
    have t : tn a b (M 33 j) = b := by unfold tn; rw [if_pos (by omega)]
    rw [t]
theorem r_swapRoots {Q : Int → MM → Prop} {R : MM} {a b n : Int} (n0 : 0 ≤ R 0 31) (n1 : R 0 31 ≤ 12) (ra : ri_ a) (rb : ri_ b) (hq : ∀ R', R' = rtn 24 a b (R 0 31) R → (n ≤ 0 → Q n R') ∧ (¬ n ≤ 0 → (∀ v4, v4 = R' 0 29 → ri_ v4 → ri_ (v4 - 1) ∧ (w_X12_lookAtPromises (fun _ M7 => Q n M7) (v4 - 1) R')))) : w_X12_swap_b509 Q a b n 0 R := by
  unfold w_X12_swap_b509
  refine loop5 _ (fun (x1 x2 x4 j : Int) N => a = x1 ∧ b = x2 ∧ n = x4 ∧ 0 ≤ j ∧ j ≤ R 0 31 ∧ N = rtn 24 a b j R) (fun _ _ _ (j : Int) _ => (R 0 31 - j).toNat) ?_ _ _ _ _ _ ⟨rfl, rfl, rfl, by omega, n0, rtn_0.symm⟩
  rintro _ _ _ j N f ⟨rfl, rfl, rfl, j0, j1, rfl⟩ ih
  have u24 : rtn 24 a b j R 24 j = R 24 j := by unfold rtn; rw [if_neg (by omega)]
  unfold wb_X12_swap_b509
  intro v1 e1 _
  rw [rtn_o (by decide)] at e1
  refine ⟨fun z => hq _ (by rw [show j = R 0 31 from by omega]), fun z => ⟨j0, by omega, fun v8 e8 g8 => ?_⟩⟩
  refine p_turned (fun _ => ⟨?_, j0, by omega, fun M12 e12 => ⟨by unfold ri_; omega, ih _ _ _ _ _ ⟨rfl, rfl, rfl, by omega, by omega, ?_⟩ (by omega)⟩⟩)
  · unfold tn
    by_cases y : v8 = a
    · rw [if_pos y]; exact rb
    · rw [if_neg y]
      by_cases w : v8 = b
      · rw [if_pos w]; exact ra
      · rw [if_neg w]; exact g8
  · rw [e12, e8, u24, rtn_s j0]
theorem tn_inj {a b x y : Int} (h : tn a b x = tn a b y) : x = y := by
  unfold tn at h
  by_cases x1 : x = a
  · rw [if_pos x1] at h
    by_cases y1 : y = a
    · omega
    · rw [if_neg y1] at h
      by_cases y2 : y = b
      · rw [if_pos y2] at h; omega
      · rw [if_neg y2] at h; omega
  · rw [if_neg x1] at h
    by_cases x2 : x = b
    · rw [if_pos x2] at h
      by_cases y1 : y = a
      · rw [if_pos y1] at h; omega
      · rw [if_neg y1] at h
        by_cases y2 : y = b
        · omega
        · rw [if_neg y2] at h; omega
    · rw [if_neg x2] at h
      by_cases y1 : y = a
      · rw [if_pos y1] at h; omega
      · rw [if_neg y1] at h
        by_cases y2 : y = b
        · rw [if_pos y2] at h; omega
        · rw [if_neg y2] at h; exact h
theorem RB_rt {M R : MM} {a b : Int} (hB : RB M R) (hJ : Rjn M R) (ha : hOk M a) (hb : hOk M b) : RB (rtn 33 a b (M 26 11) M) (rtn 24 a b (R 0 31) R) ∧ Rjn (rtn 33 a b (M 26 11) M) (rtn 24 a b (R 0 31) R) := by
  obtain ⟨hA, hL, hH⟩ := id hB
  have c : ∀ k, k ≠ 33 → rtn 33 a b (M 26 11) M k = M k := fun k hk => rtn_o hk
  have r : ∀ k, k ≠ 24 → rtn 24 a b (R 0 31) R k = R k := fun k hk => rtn_o hk
  obtain ⟨g1, g2, g3, g4, g5⟩ := hH.2.2.2.2.2.2.2.2.2.2.2.1
  have hr : Rrt (rtn 33 a b (M 26 11) M) (rtn 24 a b (R 0 31) R) := by
    unfold Rrt
    rw [c 26 (by decide), r 0 (by decide), hOk_eq (by rw [c 26 (by decide)]) (c 27 (by decide))]
    refine ⟨g1, g2, g3, fun k k0 k1 => ?_, fun j k j0 j1 k1 => ?_⟩
    · obtain ⟨q1, q2⟩ := g4 k k0 k1
      rw [rtn_i k0 k1, rtn_i k0 (by omega), q1]
      refine ⟨rfl, ?_⟩
      rw [← q1]
      unfold tn
      by_cases y : M 33 k = a
      · rw [if_pos y]; exact hb
      · rw [if_neg y]
        by_cases w : M 33 k = b
        · rw [if_pos w]; exact ha
        · rw [if_neg w]; exact q2
    · rw [rtn_i j0 (by omega), rtn_i (by omega) k1]
      exact fun q => g5 j k j0 j1 k1 (tn_inj q)
  have hH' : Rhp (rtn 33 a b (M 26 11) M) (rtn 24 a b (R 0 31) R) := Rhp_C hH (fun k hk => c k (by intro y; rw [y] at hk; revert hk; decide)) (by rw [c 8 (by decide)]) (fun i _ => by rw [c 26 (by decide)]) (fun k hk => r k (by intro y; rw [y] at hk; revert hk; decide)) (fun i _ => by rw [r 0 (by decide)]) hr
  refine ⟨RB_of hB hH' (fun k a b => c k (by omega)) (fun k a b _ => r k (by omega)) (fun i _ => by rw [r 0 (by decide)]), ?_⟩
  obtain ⟨j1, j2, j3, j4⟩ := hJ
  refine ⟨by rw [c 36 (by decide), r 0 (by decide)]; exact j1, by rw [c 36 (by decide)]; exact j2, ?_, ?_⟩
  · have ue := uE_c (C := M) (C' := rtn 33 a b (M 26 11) M) (fun k hk => c k (by intro y; rw [y] at hk; revert hk; decide)) (by rw [c 26 (by decide)])
    exact Rud_e j3 (fun cp cv ro rs q => by rw [ue]; exact q) (by rw [c 36 (by decide)]) (by rw [c 36 (by decide)]) (fun k hk => c k (by intro y; rw [y] at hk; revert hk; decide)) (by rw [r 0 (by decide)]) (fun k hk => r k (by intro y; rw [y] at hk; revert hk; decide))
  · exact Rwt_e j4 (by rw [c 36 (by decide)]) (fun k hk => c k (by intro y; rw [y] at hk; revert hk; decide)) (by rw [c 8 (by decide)]; omega) (fun x k _ _ _ q => by rw [c 14 (by decide)]; exact q) (by rw [r 0 (by decide)]) (fun k hk => r k (by intro y; rw [y] at hk; revert hk; decide))
