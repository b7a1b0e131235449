/-! a program is run; a promise is looked at -/
theorem p_runL {c pc : Nat} {M0 R0 M : MM} {p B : Int} {Q : Int → MM → Prop} (hE : EnvQ c pc M0 R0 p B) (h : ∀ K : Nat → Int → MM → Prop, KSq c M0 K (fun M' => Q 0 M') → (∀ t a M', CB M0 M' → M0 c 5 ≤ a → M' 219 3 ≤ 30000 → Q 1 M' → K t a M') → K 1000000 0 M) : w_X4_run_b50 c pc Q M := by
  have g1 := hE.1
  have gc : c < 219 ∨ 234 < c := by unfold isG at g1; omega
  obtain ⟨K, hKd⟩ : ∃ K : Nat → Int → MM → Prop, ∀ t, K t = if t ≤ 1000000 then (fun a M => ri_ (1000000 - (t : Int)) ∧ jit (fun _ _ _ => False) (wb_X4_run_b55 c pc Q) (t + 1) a (1000000 - (t : Int)) M) else (fun _ _ => True) := ⟨_, fun _ => rfl⟩
  have kp : ∀ t, t ≤ 1000000 → K t = fun a M => ri_ (1000000 - (t : Int)) ∧ jit (fun _ _ _ => False) (wb_X4_run_b55 c pc Q) (t + 1) a (1000000 - (t : Int)) M := fun t ht => by rw [hKd t, if_pos ht]
  have kn : ∀ t, ¬ t ≤ 1000000 → K t = fun _ _ => True := fun t ht => by rw [hKd t, if_neg ht]
  have c2 : ∀ M', CB M0 M' → M' 219 2 = c ∧ M' c 5 = M0 c 5 := fun M' hC => ⟨by rw [hC.2 2 (by decide) (by decide) (Or.inl (by decide))]; exact hE.2.2.1, by rw [hC.1 c (by omega)]⟩
  have fin : ∀ (t : Nat) (a : Int) (M' : MM) (z : Int), CB M0 M' → (M0 c 5 ≤ a ∨ 30000 < M' 219 3) → w_X4_run_b95 c pc Q a M' → z = 1000000 - (t : Int) → jit (fun _ _ _ => False) (wb_X4_run_b55 c pc Q) (t + 1) a z M' := fun t a M' z hC hd h95 hz => by
    obtain ⟨u1, u2⟩ := c2 M' hC
    show wb_X4_run_b55 c pc Q _ a z M'
    unfold wb_X4_run_b55
    exact ⟨fun _ => h95, fun _ => ⟨c, u1, g1, fun v3 e3 _ => ⟨fun _ => h95, fun y v5 e5 _ => ⟨fun _ => h95, fun y2 => by omega⟩⟩⟩⟩
  have hK := h K ⟨fun t a M' hC ha hm hex => ?_, fun t a M' hC hm hX => ?_⟩ (fun t a M' hC ha hm hQ => ?_)
  · rw [kp 1000000 (Nat.le_refl _)] at hK
    unfold w_X4_run_b50 w_X4_run_b55
    exact ⟨1000001, hK.2⟩
  · by_cases ht : t + 1 ≤ 1000000
    · rw [kp (t + 1) ht]
      rw [kp t (by omega)] at hex
      refine ⟨by unfold ri_; omega, ?_⟩
      obtain ⟨u1, u2⟩ := c2 M' hC
      show wb_X4_run_b55 c pc Q (jit (fun _ _ _ => False) (wb_X4_run_b55 c pc Q) (t + 1)) a (1000000 - ((t + 1 : Nat) : Int)) M'
      unfold wb_X4_run_b55
      refine ⟨fun y => by omega, fun _ => ⟨c, u1, g1, fun v3 e3 _ => ⟨fun y => by omega, fun _ v5 e5 _ => ⟨fun y => by omega, fun _ => ?_⟩⟩⟩⟩
      rw [show (1000000 : Int) - ((t + 1 : Nat) : Int) + 1 = 1000000 - (t : Int) from by omega]
      exact hex
    · rw [kn (t + 1) ht]; trivial
  · by_cases ht : t ≤ 1000000
    · rw [kp t ht]
      refine ⟨by unfold ri_; omega, fin t a M' _ hC (Or.inr hm) ?_ rfl⟩
      obtain ⟨u1, u2⟩ := c2 M' hC
      unfold w_X4_run_b95
      exact ⟨c, u1, g1, fun v2 e2 _ => ⟨fun _ => hX, fun _ v4 e4 _ => ⟨fun _ => hX, fun y => by omega⟩⟩⟩
    · rw [kn t ht]; trivial
  · by_cases ht : t ≤ 1000000
    · rw [kp t ht]
      refine ⟨by unfold ri_; omega, fin t a M' _ hC (Or.inl ha) ?_ rfl⟩
      obtain ⟨u1, u2⟩ := c2 M' hC
      unfold w_X4_run_b95
      exact ⟨c, u1, g1, fun v2 e2 _ => ⟨fun y => by omega, fun _ v4 e4 _ => ⟨fun y => by omega, fun _ => hQ⟩⟩⟩
    · rw [kn t ht]; trivial
/-- what the look at a promise may change in the reference -/
def EP (R R' : MM) : Prop := (∀ k, k ∉ [0, 60, 62, 72, 73, 74] → R' k = R k) ∧ ∀ i, i ∉ ([73, 97, 98, 99, 101, 102, 103] : List Int) → R' 0 i = R 0 i
theorem pr_spec {P : CD} {N : MM} {c pc : Nat} {M0 R0 : MM} {B x b lo hi k : Int} {sf : Int → Int} (hS : Sem P N 0 sf 0 0 x 0 b lo hi) (hE : EnvQ c pc M0 R0 4 B) (b5 : b = M0 c 5) (lo0 : 0 ≤ lo) (h480 : hi ≤ 480) (hsz : hi - lo ≤ 120) (hc : cAg P M0 c 0 b) (hn : nAg N R0 lo hi) (hu : UsQ P 0 b M0 R0 pc 4) (k0 : 0 ≤ k) (k3 : k < 3) : ∃ z : Int, (z = 0 ∨ z = 1) ∧
    (∀ M, CB M0 M → SI B M → M 219 3 = 0 → M 219 6 = 0 → ∀ F T : MM → Prop, (∀ M', CB M0 M' → SI B M' → 0 ≤ M' 219 3 → M' 219 3 ≤ 30001 → (z = 0 → F M') ∧ (z = 1 → T M')) → w_X4_run_b50 c pc (fun r17 M18 => (r17 = 0 ∨ r17 = 1) → (r17 = 0 → F M18) ∧ (¬ r17 = 0 → w_X4_saysTrue (fun r20 M21 => (r20 = 0 ∨ r20 = 1) → (r20 = 0 → F M21) ∧ (¬ r20 = 0 → T M21)) M18)) M) ∧
    (∀ R, RB0 4 R0 (ux_ R 0 97 4) → R 78 k = x → ∀ Q : Int → MM → Prop, (∀ R', EP R R' → Q z R') → w_X12_isTrueNow Q k R) := by
  obtain ⟨q1, q2, q3, q4, q5, q6⟩ := hS
  have hw := hE.2.2.2.2.2.2.1
  obtain ⟨so, v, cost, hV, hc1, hC1, hR1⟩ := q6 c pc M0 R0 4 B (fun _ => 0) 0 hE (by omega) (by omega) lo0 h480 hc hn hu ⟨by omega, by omega, by omega, by omega, fun i i0 i1 => by omega, fun z => by omega⟩
  refine ⟨if cost ≤ 30000 ∧ tru so v then 1 else 0, ?_, fun M hC hSI hm h6 F T hq => ?_, fun R hRB0 hk Q hq => ?_⟩
  · split
    · exact Or.inr rfl
    · exact Or.inl rfl
  · refine p_runL hE (fun K hK hfin => ?_)
    refine hC1 K _ hK 1000000 M 0 0 hC hSI h6 (by omega) (by omega) hm (by omega) (by omega) ⟨fun i i0 i1 => by omega, fun z => by omega⟩ (by omega) (fun zc t' M' _ F' S' h6' hs hv h3 => ?_) (fun zc M' hC' hS' h3 _ => ?_)
    · have hC' := CB_F hC F'
      refine hfin t' b M' hC' (by omega) (by omega) (fun _ => ⟨fun y => absurd y (by decide), fun _ => ?_⟩)
      obtain ⟨g0, g1⟩ := hq M' hC' S' (by omega) (by omega)
      unfold w_X4_saysTrue
      intro v1 e1 _
      refine ⟨fun y => by omega, fun _ => c_isT (so := so) (v := v) (by omega) (by omega) hs hv (fun y _ => ⟨fun w => absurd w (by decide), fun _ _ => ⟨fun w => absurd w (by decide), fun _ => g1 (if_pos ⟨by omega, y⟩)⟩⟩) (fun y _ => ⟨fun _ _ => ⟨fun _ => g0 (if_neg (fun w => y w.2)), fun w => absurd rfl w⟩, fun w => absurd rfl w⟩)⟩
    · exact ⟨fun _ => (hq M' hC' hS' (by omega) (by omega)).1 (if_neg (fun w => by omega)), fun w => absurd rfl w⟩
  · unfold w_X12_isTrueNow w_X12_beginWork
    intro M1 e1 M2 e2 M3 e3 M4 e4
    refine ⟨k0, k3, fun v3 ev3 _ => ?_⟩
    have o4 : ∀ j, j ≠ 0 → M4 j = R j := fun j hj => by rw [e4, ux_g _ _ _ hj, e3, ux_g _ _ _ hj, e2, ux_g _ _ _ hj, e1, ux_g _ _ _ hj]
    have i4 : ∀ i, i ≠ 97 → i ≠ 98 → i ≠ 103 → i ≠ 101 → M4 0 i = R 0 i := fun i a1 a2 a3 a4 => by rw [e4, ux_i _ _ _ a4, e3, ux_i _ _ _ a3, e2, ux_i _ _ _ a2, e1, ux_i _ _ _ a1]
    rw [o4 78 (by decide), hk] at ev3
    rw [ev3]
    have hRB : RB0 4 R0 M4 := RB0_m hRB0 (fun j hj => by rw [o4 j (fun w => hj (by rw [w]; decide)), ux_g _ _ _ (fun w => hj (by rw [w]; decide))]) (by rw [i4 20 (by decide) (by decide) (by decide) (by decide), ux_i _ _ _ (by decide)]) (by rw [e4, ux_i _ _ _ (by decide), e3, ux_i _ _ _ (by decide), e2, ux_i _ _ _ (by decide), e1, ux_s])
    have ep : ∀ R', EWr 0 M4 R' → EP R R' := fun R' hF => ⟨fun j hj => by rw [hF.1 j hj, o4 j (fun w => hj (by rw [w]; decide))], fun i hi => by
      rw [hF.2.1 i (fun w => hi (by simp only [List.mem_cons, List.not_mem_nil, or_false] at w ⊢; omega)), i4 i (fun w => hi (by rw [w]; decide)) (fun w => hi (by rw [w]; decide)) (fun w => hi (by rw [w]; decide)) (fun w => hi (by rw [w]; decide))]⟩
    unfold w_X12_work
    refine hR1 300 M4 0 (by omega) hRB (by rw [e4, ux_i _ _ _ (by decide), e3, ux_i _ _ _ (by decide), e2, ux_s]) (by omega) (by omega) (by rw [e4, ux_i _ _ _ (by decide), e3, ux_s]) (by rw [e4, ux_s]) (fun i i0 i1 => by omega) (fun z => by omega) _ (fun zc R' F' b1 b2 b3 b4 v6 e6 _ => ?_) (fun zc R' F' b2 b9 v6 e6 _ => ?_)
    · refine ⟨fun y => absurd (by rw [e6]; exact b2) y, fun _ v8 e8 _ => ⟨fun y => ?_, fun y v10 e10 _ => ⟨fun y2 => ?_, fun y2 => ?_⟩⟩⟩
      · have := hq R' (ep R' F'); rw [if_neg (fun w => y (by rw [e8, b3]; exact w.2.1))] at this; exact this
      · have := hq R' (ep R' F'); rw [if_neg (fun w => y2 (by rw [e10, b4]; exact w.2.2))] at this; exact this
      · have := hq R' (ep R' F'); rw [if_pos ⟨by omega, by omega, by omega⟩] at this; exact this
    · refine ⟨fun _ => ?_, fun y => by omega⟩
      have := hq R' (ep R' F'); rw [if_neg (fun w => by omega)] at this; exact this
