/-! reopen in the reference; both together -/
def FOr (R N : MM) : Prop := (∀ k, k ∉ [0, 16, 38, 39, 40, 41, 42, 55, 56, 57, 58, 60, 98, 100, 101] → N k = R k) ∧ (∀ k i q, 38 ≤ k → k ≤ 59 → 0 ≤ q → q < 4 → rw_ k q i → N k i = R k i) ∧ (∀ i, i ∉ ([0, 83, 84, 141, 142, 143, 146, 148, 149] : List Int) → N 0 i = R 0 i) ∧ ∀ i, 0 ≤ i → i < 16 → N 16 i = R 16 i
theorem Rty_16 {C R R' : MM} (h : Rty C R) (r : ∀ k, 4 ≤ k → k ≤ 18 → k ≠ 6 → k ≠ 16 → R' k = R k) (r16 : ∀ i, 0 ≤ i → i < 16 → R' 16 i = R 16 i) (r20 : R' 0 20 = R 0 20) : Rty C R' := by
  obtain ⟨D, d16, dk⟩ : ∃ D : MM, D 16 = R' 16 ∧ ∀ k, k ≠ 16 → D k = R k := ⟨fun k => if k = 16 then R' 16 else R k, if_pos rfl, fun k hk => if_neg hk⟩
  have hD : Rty C D := by
    have h16 := h.2.2.1
    have q := h
    unfold Rty at q ⊢
    simp only [dk 0 (by decide)]
    refine ⟨q.1, q.2.1, q.2.2.1, fun t a b => ?_, ?_⟩
    · have w := q.2.2.2.1 t a b
      unfold Rcls Rlay Rfld at w ⊢
      simp only [dk 4 (by decide), dk 5 (by decide), dk 7 (by decide), dk 8 (by decide), dk 9 (by decide), dk 10 (by decide), dk 11 (by decide), dk 12 (by decide), dk 13 (by decide), dk 14 (by decide), dk 15 (by decide), dk 17 (by decide), dk 18 (by decide), d16, r16 t a (by omega)]
      exact w
    · rw [dk 18 (by decide)]; exact q.2.2.2.2
  exact Rty_R hD (fun k a b d => by
    by_cases w : k = 16
    · rw [w, d16]
    · rw [dk k w]; exact r k a b d w) (by rw [dk 0 (by decide)]; exact r20)
theorem p_reopR {Q : Int → MM → Prop} {C R : MM} {K : Nat} {g p : Int} {ps : Nat → Int} (hY : Rty C R) (hL : Rlk C) (hG : LG C ps K g) (r4 : R 0 148 = g) (by_ : ∀ i, 0 ≤ i → i < g → C 282 i = R 99 i % 256) (r102 : ∀ k : Nat, k < K → R 102 k = ps k) (hq : ∀ (j : Nat) N, SPj ps K (max 0 (min p g)) j → FOr R N → N 0 0 = 0 → N 0 148 = ps j → N 0 149 = j → Q j N) : w_X12_reopen Q p R := by
  have g0 : 0 ≤ g := by have := hG.2.2.2.1; omega
  have g8 := hG.2.2.1
  have K8 := hG.2.2.2.1
  obtain ⟨n, en⟩ : ∃ n, max 0 (min p g) = n := ⟨_, rfl⟩
  have n0 : 0 ≤ n ∧ n ≤ g := by omega
  rw [en] at hq
  have main : w_X12_reopen_b29 Q n (ux_ R 0 0 0) := by
    unfold w_X12_reopen_b29 w_X12_reopen_b42
    intro M1 e1 M2 e2
    have f2 : FOr R M2 := ⟨fun k hk => by rw [e2, e1]; funext i; rw [ux_c _ _ _ _ (fun y => hk (by rw [y]; decide)), ux_c _ _ _ _ (fun y => hk (by rw [y]; decide)), ux_c _ _ _ _ (fun y => hk (by rw [y]; decide))], fun k i q a b _ _ _ => by rw [e2, e1, ux_c _ _ _ _ (by omega), ux_c _ _ _ _ (by omega), ux_c _ _ _ _ (by omega)], fun i hi => by rw [e2, e1, ux_i _ _ _ (fun y => hi (by rw [y]; decide)), ux_i _ _ _ (fun y => hi (by rw [y]; decide)), ux_i _ _ _ (fun y => hi (by rw [y]; decide))], fun i _ _ => by rw [e2, e1, ux_c _ _ _ _ (by decide), ux_c _ _ _ _ (by decide), ux_c _ _ _ _ (by decide)]⟩
    refine loop3 _ (fun (x2 x3 : Int) M => n = x2 ∧ ∃ j : Nat, (x3 = 1 ∧ j ≤ K ∧ ps j ≤ n ∨ x3 = 0 ∧ SPj ps K n j) ∧ FOr R M ∧ M 0 0 = 0 ∧ M 0 148 = ps j ∧ M 0 149 = j) (fun (_ x3 : Int) M => (x3 * 2000 + (K - M 0 149)).toNat) ?_ _ _ _ ⟨rfl, 0, Or.inl ⟨rfl, by omega, by rw [hG.1]; exact n0.1⟩, f2, by rw [e2, e1, ux_i _ _ _ (by decide), ux_i _ _ _ (by decide), ux_s], by rw [e2, ux_s, hG.1], by rw [e2, e1, ux_i _ _ _ (by decide), ux_s]; rfl⟩
    rintro _ x3 M f ⟨rfl, j, hj, hF, m0, m4, m5⟩ ih
    unfold wb_X12_reopen_b42
    rcases hj with ⟨x1, jK, jn⟩ | ⟨x0, hS⟩
    rotate_left
    · refine ⟨fun _ v2 e2' _ => ?_, fun y => absurd x0 y⟩
      rw [m5] at e2'
      rw [e2']
      exact hq j M hS hF m0 m4 m5
    have pj := LG_0 hG jK
    refine ⟨fun y => by omega, fun _ v3 e3 _ => ?_⟩
    rw [m4] at e3
    -- the end
    have fin : (j = K ∨ n < ps (j + 1)) → f n 0 M := fun hh => ih _ _ _ ⟨rfl, j, Or.inr ⟨rfl, jK, jn, hh⟩, hF, m0, m4, m5⟩ (by omega)
    have m99 : M 99 = R 99 := hF.1 99 (by decide)
    refine ⟨by unfold ri_; omega, fun y => ?_, fun y => ?_⟩
    · unfold w_X12_reopen_b95
      intro v1 e1 _
      rw [m4] at e1
      refine ⟨by unfold ri_; omega, by unfold ri_; omega, fun _ => ?_, fun y2 => by omega⟩
      unfold w_X12_reopen_b115
      refine ⟨fun y3 => absurd rfl y3, fun _ => fin ?_⟩
      by_cases w : j = K
      · exact Or.inl w
      · have := hG.2.2.2.2.2 j (by omega)
        exact Or.inr (by omega)
    · have jk : j < K := by
        by_cases w : j = K
        · have := hG.2.1; rw [← w] at this; omega
        · omega
      obtain ⟨y1, y2, y3, y4, y5⟩ := hG.2.2.2.2.2 j jk
      have el : M 99 (ps j) % 256 + 256 * (M 99 (ps j + 1) % 256) = lnL C (ps j) := by
        unfold lnL
        rw [m99, by_ (ps j) y1 (by omega), by_ (ps j + 1) (by omega) (by omega)]
      intro v6 e6 _
      rw [m4] at e6
      rw [e6]
      refine ⟨y1, by omega, fun v7 e7 _ v8 e8 _ => ?_⟩
      rw [m4] at e8
      rw [e8]
      refine ⟨by unfold ri_; omega, by omega, by omega, fun v10 e10 _ => ?_⟩
      rw [jand_255, jand_255, e7, e10]
      rw [el]
      refine ⟨by unfold ri_; omega, by unfold ri_; omega, ?_⟩
      unfold w_X12_reopen_b95
      intro v1 e1 _
      rw [m4] at e1
      rw [e1]
      refine ⟨by unfold ri_; omega, by unfold ri_; omega, fun z => ?_, fun z => ?_⟩
      · unfold w_X12_reopen_b115
        exact ⟨fun y3 => absurd rfl y3, fun _ => fin (Or.inr (by omega))⟩
      · unfold w_X12_reopen_b115
        refine ⟨fun _ v2 e2 _ => ?_, fun y3 => absurd y3 (by decide)⟩
        rw [m4] at e2
        rw [e2]
        have hYM : Rty C M := Rty_16 hY (fun k a b d e => hF.1 k (by simp only [List.mem_cons, List.not_mem_nil, or_false]; omega)) hF.2.2.2 (hF.2.2.1 20 (by decide))
        obtain ⟨gd1, gd2⟩ := id y5
        obtain ⟨-, -, hA, -⟩ := dc_AT gd1
        refine p_recR (E := C) (B := bL C (ps j)) (n := lnL C (ps j)) hYM hL y1 (by omega) (by omega) el (fun i i0 i1 => ?_) gd1 (fun u hu q => ?_) fun N hN n83 _ _ v7 e7 _ => ?_
        · unfold bL
          rw [if_pos ⟨i0, i1⟩, m99, by_ _ (by omega) (by omega)]
        · have tv := (hA.2.2 u (by omega)).1.2.2.2.1
          unfold vT at tv
          have cl := (hY.2.2.2.1 (tY C (bL C (ps j)) (lnL C (ps j)) u) (by omega) (by omega)).1
          unfold Rcls at cl
          have h16 := hY.2.2.1
          rw [hF.2.2.2 _ (by omega) (by omega), ← cl.2.2.2.2.2.1]
          exact gd2 u (by omega) q
        · rw [n83] at e7
          refine ⟨fun y => absurd e7 y, fun _ => ?_⟩
          unfold w_X12_reopen_b147
          refine ⟨fun _ w2 t2 _ w3 t3 _ => ?_, fun y => absurd y (by decide)⟩
          rw [hN.2.2.1 149 (by decide), m5] at t2
          rw [hN.2.2.1 148 (by decide), m4] at t3
          refine ⟨by omega, by omega, fun M4 g4 w5 t5 _ => ?_⟩
          rw [g4, ux_c _ _ _ _ (by decide), hN.2.2.1 149 (by decide), m5] at t5
          refine ⟨by unfold ri_; omega, fun M7 g7 w8 t8 _ => ?_⟩
          rw [g7, g4, ux_i _ _ _ (by decide), ux_c _ _ _ _ (by decide), hN.2.2.1 148 (by decide), m4] at t8
          refine ⟨by unfold ri_; omega, by unfold ri_; omega, fun M11 g11 => ?_⟩
          have z5 : M11 0 149 = j + 1 := by rw [g11, ux_i _ _ _ (by decide), g7, ux_s, t5]
          refine ih _ _ _ ⟨rfl, j + 1, Or.inl ⟨rfl, by omega, by omega⟩, ⟨fun k hk => ?_, fun k i q a b q0 q4 w => ?_, fun i hi => ?_, fun i a b => ?_⟩, ?_, ?_, by rw [z5]; omega⟩ (by omega)
          · have k0 : k ≠ 0 := fun y => hk (by rw [y]; decide)
            rw [g11, g7]; funext i
            rw [ux_c _ _ _ _ k0, ux_c _ _ _ _ k0, g4]
            by_cases w : k = 102 ∧ i = w2
            · rw [w.1, w.2, ux_s, t3, t2, r102 j jk]
            · have e : ux_ N 102 w2 w3 k i = N k i := by
                by_cases w' : k = 102
                · subst w'; exact ux_i _ _ _ (fun y => w ⟨rfl, y⟩)
                · exact ux_c _ _ _ _ w'
              rw [e, hN.1 k hk, hF.1 k hk]
          · rw [g11, g7, g4, ux_c _ _ _ _ (by omega), ux_c _ _ _ _ (by omega), ux_c _ _ _ _ (by omega), hN.2.1 k i q a b q0 q4 w, hF.2.1 k i q a b q0 q4 w]
          · rw [g11, g7, g4, ux_i _ _ _ (fun y => hi (by rw [y]; decide)), ux_i _ _ _ (fun y => hi (by rw [y]; decide)), ux_c _ _ _ _ (by decide), hN.2.2.1 i (fun y => hi (by simp only [List.mem_cons, List.not_mem_nil, or_false] at y ⊢; omega)), hF.2.2.1 i hi]
          · rw [g11, g7, g4, ux_c _ _ _ _ (by decide), ux_c _ _ _ _ (by decide), ux_c _ _ _ _ (by decide), hN.2.2.2 i a b, hF.2.2.2 i a b]
          · rw [g11, g7, g4, ux_i _ _ _ (by decide), ux_i _ _ _ (by decide), ux_c _ _ _ _ (by decide), hN.2.2.1 0 (by decide), m0]
          · rw [g11, ux_s, t8, y3]; omega
  unfold w_X12_reopen
  intro M1 e1
  refine ⟨fun a v3 e3 _ => ?_, fun a => ?_⟩
  · rw [e1, ux_i _ _ _ (by decide), r4] at e3
    refine ⟨fun y v5 e5 _ => ?_, fun y => ?_⟩
    · rw [e1, ux_i _ _ _ (by decide), r4] at e5
      rw [e5, e1, show g = n from by omega]; exact main
    · rw [e1, show p = n from by omega]; exact main
  · rw [e1, show (0 : Int) = n from by omega]
    rw [show (0 : Int) = n from by omega] at main
    exact main
