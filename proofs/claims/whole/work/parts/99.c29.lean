/-! questions worked out: all rows -/
def CRw (b : Nat) (r : Int) (L : List (Int × Int × Int)) (M : MM) : Prop := ∀ k : Nat, k < L.length → M b (r + k) = (L.getD k (0, 0, 0)).1 ∧ M (b + 1) (r + k) = (L.getD k (0, 0, 0)).2.1 ∧ M (b + 2) (r + k) = (L.getD k (0, 0, 0)).2.2
theorem CRw_c {b : Nat} {r t so v : Int} {L : List (Int × Int × Int)} {M M' : MM} (h : CRw b (r + 1) L M') (hk : ∀ k i, b ≤ k → k ≤ b + 2 → i < r + 1 → M' k i = M k i) (h0 : M b r = t) (h1 : M (b + 1) r = so) (h2 : M (b + 2) r = v) : CRw b r ((t, so, v) :: L) M' := by
  intro k hk'
  cases k with
  | zero =>
    rw [show r + ((0 : Nat) : Int) = r from by omega, hk b r (by omega) (by omega) (by omega), hk (b + 1) r (by omega) (by omega) (by omega), hk (b + 2) r (by omega) (by omega) (by omega)]
    exact ⟨h0, h1, h2⟩
  | succ k =>
    have := h k (by simpa using hk')
    rw [show r + ((k + 1 : Nat) : Int) = r + 1 + (k : Int) from by omega]
    exact this
def QsC (c : Nat) (M0 : MM) (n B e0 eE sz : Int) (ts : List Int) (L : List (Int × Int × Int)) (cost : Int) : Prop :=
  ∀ (K : Nat → Int → MM → Prop) (X : MM → Prop), KSq c M0 K X → ∀ (t : Nat) (M : MM) (m r : Int), CB M0 M → SI B M → M 219 6 = 0 → M 219 3 = m → 0 ≤ m → m ≤ 30000 → Gv M0 0 n B ts M → M 219 20 = r → 0 ≤ r → r + ts.length ≤ 4000 → 4 * (30001 - m) + 3 ≤ t →
  (m + cost ≤ 30000 → ∀ (t' : Nat) (M' : MM), CB M0 M' → SI B M' → M' 219 3 = m + cost → M' 219 20 = r + L.length → (∀ k i, 232 ≤ k → k ≤ 234 → i < r → M' k i = M k i) → CRw 232 r L M' → K t' eE M') →
  (30000 < m + cost → ∀ M', CB M0 M' → SI B M' → M' 219 3 = 30001 → X M') → K t e0 M
def QsR (R0 : MM) (p x3 x4 : Int) (ts : List Int) (L : List (Int × Int × Int)) (cost : Int) : Prop :=
  ∀ (R : MM) (m i r : Int), RB0 p R0 R → R 0 98 = m → 0 ≤ m → m ≤ 30000 → R 0 103 = 0 → R 0 101 = 0 → 0 ≤ i → i + ts.length ≤ 4000 → R 74 11 = i + ts.length → (∀ k : Nat, k < ts.length → R 73 (48400 + (i + k)) = ts.getD k 0) → R 0 110 = r → 0 ≤ r → r + ts.length ≤ 4000 → ∀ Q : Int → MM → Prop,
  (m + cost ≤ 30000 → ∀ R', EQ R R' → R' 0 110 = r + L.length → (∀ k j, 75 ≤ k → k ≤ 77 → j < r → R' k j = R k j) → CRw 75 r L R' → Q 0 R') → (30000 < m + cost → ∀ R' R2, EQ R R' → R2 = ux_ (ux_ R' 0 81 5) 0 82 (-1) → Q 0 R2) →
  jit (fun _ _ _ _ => False) (wb_X12_answerAll_b15 Q) (ts.length + 2) x3 x4 i R
theorem rq_dead {Q : Int → MM → Prop} {R : MM} {n : Nat} {x3 x4 i : Int} (h : R 0 103 = 1) (hq : ∀ R2, R2 = ux_ (ux_ R 0 81 5) 0 82 (-1) → Q 0 R2) : jit (fun _ _ _ _ => False) (wb_X12_answerAll_b15 Q) (n + 1) x3 x4 i R := by
  have e : w_X12_answerAll_b179 Q R := by
    unfold w_X12_answerAll_b179
    exact fun v1 e1 _ => ⟨fun z => by omega, fun _ M3 e3 M4 e4 => hq M4 (by rw [e4, e3])⟩
  show wb_X12_answerAll_b15 Q _ x3 x4 i R
  unfold wb_X12_answerAll_b15
  exact fun v1 e1 _ => ⟨fun _ => e, fun _ v3 e3 _ => ⟨fun _ => e, fun z => by omega⟩⟩
set_option maxHeartbeats 1000000 in
theorem qs_spec {P : CD} {N : MM} {c pc : Nat} {M0 R0 : MM} {p B x3 x4 a b lo hi e0 e2 e3 loW hiW loV hiV : Int} {sf : Int → Int} (hE : EnvQ c pc M0 R0 p B) (c211 : M0 219 2 = 211) (a0 : 0 ≤ a) (b5 : b ≤ M0 c 5) (lo0 : 0 ≤ lo) (h480 : hi ≤ 480) (hc : cAg P M0 c a b) (hn : nAg N R0 lo hi) (hu : UsQ P a b M0 R0 pc p) (lW : lo ≤ loW) (hW : hiW ≤ hi) (lV : lo ≤ loV) (hV : hiV ≤ hi) (szp : 1 ≤ hi - lo) (hz : hi - lo ≤ 120) (ea : a ≤ e0) (eb : e3 < b) (e02 : e0 < e2) (e23 : e2 ≤ e3)
    (pn : P 1 e0 = 36 ∧ P 2 e0 = 0 ∧ P 3 e0 = e3 + 1)
    (hwh : x3 = -1 ∧ e2 = e0 + 1 ∨ 0 ≤ x3 ∧ P 1 (e2 - 1) = 37 ∧ P 3 (e2 - 1) = e0 ∧ Sem P N 0 sf 0 1 x3 (e0 + 1) (e2 - 1) loW hiW)
    (hvl : x4 = -1 ∧ e3 = e2 ∧ P 1 e3 = 41 ∨ 0 ≤ x4 ∧ P 1 e3 = 40 ∧ Sem P N 0 sf 0 1 x4 e2 e3 loV hiV) (p3 : P 3 e3 = e0) : ∀ (ts : List Int), (∀ t ∈ ts, 0 ≤ t ∧ t < M0 pc 0) →
    ∃ L cost, 0 ≤ cost ∧ L.length ≤ ts.length ∧ QsC c M0 (M0 pc 0) B e0 (e3 + 1) (hi - lo) ts L cost ∧ QsR R0 p x3 x4 ts L cost := by
  have b50 := hE.2.2.2.2.1
  have nxg : ∀ (K : Nat → Int → MM → Prop) (X : MM → Prop), KSq c M0 K X → ∀ (t : Nat) (M : MM), CB M0 M → M 219 3 ≤ 30000 → (∀ Q : Int → MM → Prop, (∀ r M6, CB M0 M6 → M6 219 3 = M 219 3 → (r ≠ -1 → 0 ≤ M 219 3 → ∀ M5, M5 = ux_ (ux_ M6 219 3 (M6 219 3 + 1)) 226 0 r → K t (e0 + 1) M5) → (r = -1 → K t (e3 + 1) M6) → Q r M6) → nxt Q 0 M) → 0 ≤ M 219 3 → K (t + 1) e0 M := by
    intro K X hK t M hC hm hg hm0
    refine K_qt (o := 36) hE hK hC hm (by omega) (by omega) (by rw [hc 1 _ (by omega) (by omega) (by omega) (by omega)]; exact pn.1) (by decide) ?_
    unfold w_X4_jump
    refine ⟨fun z => absurd z (by decide), fun z => absurd z (by decide), fun z => absurd z (by decide), fun _ => ?_, fun z => absurd z (by decide), fun z => absurd z (by decide), fun z => absurd z (by decide), fun z => absurd rfl z.2.2.2.1⟩
    obtain ⟨⟨c', u1, u2, hcc⟩, u4⟩ := c_at hE hC hc (e := e0) (by omega) (by omega)
    rw [hcc] at u1 u2
    unfold w_X4_giveNext
    refine ⟨_, u1, u2, by omega, by omega, fun v2 e2' _ => ?_⟩
    rw [u4 2 (by omega) (by omega), pn.2.1] at e2'
    rw [e2']
    refine ⟨by omega, by omega, fun v3 e3' _ => ?_⟩
    rw [e3']
    refine hg _ (fun r M6 hC6 hm6 hr1 hr2 _ => ?_)
    unfold w_X4_giveNext_b34
    refine ⟨fun z v2 ev2 _ => ⟨by unfold ri_; omega, fun M4 e4 => ⟨by omega, by omega, fun M5 e5 => ⟨by unfold ri_; omega, fun _ _ _ => hr1 z hm0 M5 (by rw [e5, e4, ev2])⟩⟩⟩, fun z => ?_⟩
    obtain ⟨⟨c'', w1, w2, hcc'⟩, w4⟩ := c_at hE hC6 hc (e := e0) (by omega) (by omega)
    rw [hcc'] at w1 w2
    refine ⟨_, w1, w2, by omega, by omega, fun v8 e8 _ _ _ _ => ?_⟩
    rw [w4 3 (by omega) (by omega), pn.2.2] at e8
    rw [e8]; exact hr2 z
  intro ts
  induction ts with
  | nil =>
    intro hts
    refine ⟨[], 0, by omega, Nat.le_refl _, fun K X hK t M m r hC hS h6 hm m0 m1 hG hr r0 r1 ht hq hx => ?_, fun R m i r hR hm m0 m1 h103 h101 i0 i1 h74 h73 h110 r0 r1 Q hq hx => ?_⟩
    · obtain ⟨t, rfl⟩ : ∃ t', t = t' + 1 := ⟨t - 1, by omega⟩
      refine nxg K X hK t M hC (by omega) (fun Q hQ => hG M hC hS (Sm_r _ _) Q (fun M' hF => hQ _ M' (FN_CB hF hC) (by rw [hF.1 219 (by decide)]) (fun z => absurd rfl z) (fun _ => ?_))) (by omega)
      have o9 : M' 219 = M 219 := hF.1 219 (by decide)
      exact hq (by omega) t M' (FN_CB hF hC) (hF.2.2.2 B hS) (by rw [o9]; omega) (by rw [o9, hr]; simp) (fun k i a b _ => by rw [hF.1 k (by simp; omega)]) (fun k hk => absurd hk (Nat.not_lt_zero _))
    · show wb_X12_answerAll_b15 Q _ x3 x4 i R
      unfold wb_X12_answerAll_b15 w_X12_answerAll_b179
      refine fun v1 e1 _ => ⟨fun _ w1 ew1 _ => ⟨fun _ => hq (by omega) R (EQ_r R) (by rw [h110]; simp) (fun _ _ _ _ _ => rfl) (fun k hk => absurd hk (Nat.not_lt_zero _)), fun z => absurd (by rw [ew1]; exact h103) z⟩, fun z => ?_⟩
      rw [h74] at e1
      simp at e1
      omega
  | cons tt ts ih =>
    intro hts
    have ht := hts tt List.mem_cons_self
    have hts' : ∀ t ∈ ts, 0 ≤ t ∧ t < M0 pc 0 := fun t h => hts t (List.mem_cons_of_mem _ h)
    have hv' : vOK (M0 pc 0) 0 sf 0 1 (fun _ => 0) tt := ⟨by omega, by omega, by omega, by omega, fun i i0 i1 => by omega, fun _ => ht⟩
    obtain ⟨pq, cw, cw0, hwC, hwR⟩ := whq_spec (sz := hi - lo) hE a0 b5 lo0 h480 hc hn hu hv' lW hW ea (by omega) (by omega) hwh
    obtain ⟨so, v, cv, cv0, hvC, hvR⟩ := vl_spec (e0 := e0) (tt := tt) hE c211 a0 b5 lo0 h480 hc hn hu ht.1 ht.2 lV hV hz (by omega) eb hvl p3
    obtain ⟨L, co, co0, hL, hC', hR'⟩ := ih hts'
    have rest : ∃ L' c', 0 ≤ c' ∧ L'.length ≤ ts.length + 1 ∧ (pq → L' = (tt, so, v) :: L ∧ c' = cv + co) ∧ (¬ pq → L' = L ∧ c' = co) := by
      by_cases hp : pq
      · exact ⟨_, _, by omega, by rw [List.length_cons]; omega, fun _ => ⟨rfl, rfl⟩, fun z => absurd hp z⟩
      · exact ⟨_, _, co0, by omega, fun z => absurd z hp, fun _ => ⟨rfl, rfl⟩⟩
    obtain ⟨L', c', c0', hL', hy, hno⟩ := rest
    refine ⟨L', 1 + cw + c', by omega, by rw [List.length_cons]; exact hL', fun K X hK t M m r hC hS h6 hm m0 m1 hG hr r0 r1 htm hq hx => ?_, fun R m i r hR hm m0 m1 h103 h101 i0 i1 h74 h73 h110 r0 r1 Q hq hx => ?_⟩
    · rw [List.length_cons] at r1
      obtain ⟨t, rfl⟩ : ∃ t', t = t' + 1 := ⟨t - 1, by omega⟩
      refine nxg K X hK t M hC (by omega) (fun Q hQ => hG.2.2 M hC hS (Sm_r _ _) Q (fun M' hF hG' => hQ _ M' (FN_CB hF hC) (by rw [hF.1 219 (by decide)]) (fun _ _ M5 e5 => ?_) (fun z => by omega))) (by omega)
      have o9 : M' 219 = M 219 := hF.1 219 (by decide)
      have S' := hF.2.2.2 B hS
      have z1 : (-1 : Int) + 1 = 0 := by decide
      have FE := FN_E (fo := -1) (tp := 0) (show FN (-1 + 1) M M' by rw [z1]; exact hF)
      have gg := gvn_F (fo := -1) (tp := 0) (t := tt) (M5 := M5) S' (by rw [z1]; exact e5)
      rw [z1] at gg
      obtain ⟨a1, a2, a3, a4, a5, a6, a7, a8⟩ := gg
      have F5 := EWc_t FE a1 (Int.le_refl _) (Int.le_refl _)
      have C5 := CB_F hC F5
      have m5 : M5 219 3 = m + 1 := by rw [a4, o9, hm]
      by_cases mz : 30000 < m + 1
      · exact hK.2 t (e0 + 1) M5 C5 (by omega) (hx (by omega) M5 C5 a3 (by omega))
      have hcv5 : CV 0 sf 1 (fun _ => 0) tt M5 := ⟨fun i i0 i1 => by omega, fun _ => a6⟩
      have G5 := Gv_Sm hG' a2
      refine hwC K X hK t M5 0 (m + 1) C5 a3 (by rw [a5, o9]; exact h6) (by omega) (by omega) m5 (by omega) (by omega) hcv5 (by omega) (fun zc t6 M6 ht6 F6 S6 h66 h63 r6 hr1 hr2 => ?_) (fun zc => hx (by omega))
      have C6 := CB_F C5 F6
      have G6 := Gv_Sm G5 (EWc_Sm F6)
      have rows6 : ∀ k i, 232 ≤ k → k ≤ 234 → M6 k i = M k i := fun k i x y => by rw [F6.1 k (by omega), F5.1 k (by omega)]
      have r6' : M6 219 20 = r := by rw [F6.2.1 20 (by decide) (by decide), F5.2.1 20 (by decide) (by decide)]; exact hr
      by_cases hp : pq
      · rw [hr1 hp]
        obtain ⟨z1, z2⟩ := hy hp
        refine hvC K X hK t6 M6 (m + 1 + cw) r C6 S6 h66 h63 (by omega) zc (by rw [F6.2.2.2.1 226 0 (by omega) (by omega) (Int.le_refl _)]; exact a6) r6' r0 (by omega) (by omega) (fun zb t7 M7 ht7 C7 S7 Sm7 h67 h37 h207 k7 j1 j2 j3 => ?_) (fun zb => hx (by omega))
        refine hC' K X hK t7 M7 (m + 1 + cw + cv) (r + 1) C7 S7 h67 h37 (by omega) zb (Gv_Sm G6 Sm7) h207 (by omega) (by omega) (by omega) (fun zr t8 M8 C8 S8 b1 b2 b3 b4 => hq (by omega) t8 M8 C8 S8 (by rw [b1]; omega) (by rw [b2, z1, List.length_cons]; omega) (fun k j x y w => by rw [b3 k j x y (by omega), k7 k j x y (by omega)]; exact rows6 k j x y) (by rw [z1]; exact CRw_c b4 (fun k j x y w => b3 k j x y w) j1 j2 j3)) (fun zr => hx (by omega))
      · rw [hr2 hp]
        obtain ⟨z1, z2⟩ := hno hp
        refine hC' K X hK t6 M6 (m + 1 + cw) r C6 S6 h66 h63 (by omega) zc G6 r6' r0 (by omega) (by omega) (fun zr t8 M8 C8 S8 b1 b2 b3 b4 => hq (by omega) t8 M8 C8 S8 (by rw [b1]; omega) (by rw [b2, z1]) (fun k j x y w => by rw [b3 k j x y w]; exact rows6 k j x y) (by rw [z1]; exact b4)) (fun zr => hx (by omega))
    · have h74' : R 74 11 = i + 1 + ts.length := by rw [h74, List.length_cons]; omega
      rw [List.length_cons] at i1 r1
      have dead : ∀ R1, EQ R R1 → R1 0 103 = 1 → 30000 < m + (1 + cw + c') → jit (fun _ _ _ _ => False) (wb_X12_answerAll_b15 Q) (ts.length + 2) x3 x4 (i + 1) R1 := fun R1 q1 q2 q3 => rq_dead (n := ts.length + 1) q2 (fun R2 e => hx q3 R1 R2 q1 e)
      have go : ∀ R1 m1 r1', EQ R R1 → R1 0 98 = m1 → 0 ≤ m1 → m1 ≤ 30000 → R1 0 103 = 0 → R1 0 110 = r1' → 0 ≤ r1' → r1' + ts.length ≤ 4000 → (m1 + co ≤ 30000 → ∀ R2, EQ R R2 → R2 0 110 = r1' + L.length → (∀ k j, 75 ≤ k → k ≤ 77 → j < r1' → R2 k j = R1 k j) → CRw 75 r1' L R2 → Q 0 R2) → (30000 < m1 + co → 30000 < m + (1 + cw + c')) → jit (fun _ _ _ _ => False) (wb_X12_answerAll_b15 Q) (ts.length + 2) x3 x4 (i + 1) R1 := fun R1 m1' r1' q1 q2 q3 q4 q5 q6 q7 q8 q9 q10 => by
        refine hR' R1 m1' (i + 1) r1' (RB0_Q hR q1) q2 q3 q4 q5 (by rw [q1.2.1 101 (by decide)]; exact h101) (by omega) (by omega) (by rw [q1.2.2.1]; exact h74') (fun k hk => ?_) q6 q7 q8 Q (fun z R2 d1 d2 d3 d4 => q9 z R2 (EQ_t q1 d1) d2 d3 d4) (fun z R' R2 d1 d2 => hx (q10 z) R' R2 (EQ_t q1 d1) d2)
        rw [q1.2.2.2 _ (by omega)]
        have := h73 (k + 1) (by simpa using hk)
        rw [show i + 1 + (k : Int) = i + ((k + 1 : Nat) : Int) from by omega, this]; rfl
      have n73 : R 73 (48400 + i) = tt := by
        have := h73 0 (by simp)
        simpa using this
      show wb_X12_answerAll_b15 Q (jit (fun _ _ _ _ => False) (wb_X12_answerAll_b15 Q) (ts.length + 2)) x3 x4 i R
      unfold wb_X12_answerAll_b15
      refine fun v1 ev1 _ => ⟨fun z => by omega, fun _ v3 ev3 _ => ⟨fun z => absurd (by rw [ev3]; exact h103) z, fun _ => r_stp (R0 := R0) (p := p) hm m0 m1 (fun mz => ?_) (fun mz => ?_)⟩⟩
      · refine ⟨by unfold ri_; omega, by omega, by omega, fun v8 ev8 _ M9 e9 => ?_⟩
        rw [ux_c _ _ _ _ (by decide), n73] at ev8
        rw [ev8] at e9
        have Q9 : EQ R M9 := by rw [e9]; exact EQ_t (EQ_u (by decide)) (EQ_u (by decide))
        have h98 : M9 0 98 = m + 1 := by rw [e9, ux_i _ _ _ (by decide), ux_s]
        have h1039 : M9 0 103 = 0 := by rw [e9, ux_i _ _ _ (by decide), ux_i _ _ _ (by decide)]; exact h103
        have h1009 : M9 0 100 = tt := by rw [e9, ux_s]
        have h1109 : M9 0 110 = r := by rw [e9, ux_i _ _ _ (by decide), ux_i _ _ _ (by decide)]; exact h110
        have h1019 : M9 0 101 = 0 := by rw [Q9.2.1 101 (by decide)]; exact h101
        have rows9 : ∀ k j, 75 ≤ k → k ≤ 77 → M9 k j = R k j := fun k j x y => by rw [e9, ux_c _ _ _ _ (by omega), ux_c _ _ _ _ (by omega)]
        have no : ¬ pq → ∀ R1, EWr 0 M9 R1 → R1 0 98 = m + 1 + cw → m + 1 + cw ≤ 30000 → R1 0 103 = 0 → w_X12_answerAll_b173 Q (jit (fun _ _ _ _ => False) (wb_X12_answerAll_b15 Q) (ts.length + 2)) x3 x4 i R1 := fun hp R1 F1 b1 zc b2 => by
          obtain ⟨z1, z2⟩ := hno hp
          unfold w_X12_answerAll_b173
          refine ⟨by unfold ri_; omega, go R1 (m + 1 + cw) r (EQ_t Q9 (EQ_E F1)) b1 (by omega) zc b2 (by rw [F1.2.1 110 (by decide)]; exact h1109) r0 (by omega) (fun zr R2 d1 d2 d3 d4 => hq (by omega) R2 d1 (by rw [d2, z1]) (fun k j x y w => by rw [d3 k j x y w, F1.1 k (by simp; omega)]; exact rows9 k j x y) (by rw [z1]; exact d4)) (fun zr => by omega)⟩
        have yes : pq → ∀ R1, EWr 0 M9 R1 → R1 0 98 = m + 1 + cw → m + 1 + cw ≤ 30000 → R1 0 103 = 0 → w_X12_answerAll_b102 Q (jit (fun _ _ _ _ => False) (wb_X12_answerAll_b15 Q) (ts.length + 2)) x3 x4 i R1 := fun hp R1 F1 b1 zc b2 => by
          obtain ⟨z1, z2⟩ := hy hp
          have Q1 := EQ_t Q9 (EQ_E F1)
          refine hvR R1 (m + 1 + cw) r (RB0_Q hR Q1) b1 (by omega) zc b2 (by rw [F1.2.1 101 (by decide)]; exact h1019) (by rw [F1.2.1 100 (by decide)]; exact h1009) (by rw [F1.2.1 110 (by decide)]; exact h1109) r0 (by omega) Q _ x3 i i0 (by omega) (fun zb R2 g1 g2 g3 g4 g5 g6 g7 g8 => ?_) (fun zb R2 g1 g3 => dead R2 (EQ_t Q1 g1) g3 (by omega))
          refine go R2 (m + 1 + cw + cv) (r + 1) (EQ_t Q1 g1) g2 (by omega) zb g3 g4 (by omega) (by omega) (fun zr R3 d1 d2 d3 d4 => hq (by omega) R3 d1 (by rw [d2, z1, List.length_cons]; omega) (fun k j x y w => by rw [d3 k j x y (by omega), g5 k j x y (by omega), F1.1 k (by simp; omega)]; exact rows9 k j x y) (by rw [z1]; exact CRw_c d4 (fun k j x y w => d3 k j x y w) g6 g7 g8)) (fun zr => by omega)
        rcases hwR with ⟨w1, w2, w3⟩ | ⟨w0, sw, vw, hVw, hiff, hRw⟩
        · refine ⟨fun _ => ?_, fun z => absurd w1 z⟩
          unfold w_X12_answerAll_b70
          exact fun u1 eu1 _ => ⟨fun z => absurd (by rw [eu1]; exact h1039) z, fun _ => ⟨fun _ => yes w2 M9 (EWr_r _ _) (by rw [h98, w3]; omega) (by omega) h1039, fun z => absurd w1 z⟩⟩
        · refine ⟨fun z => by omega, fun _ u1 eu1 _ => ⟨fun z => absurd (by rw [eu1]; exact h1039) z, fun _ => ?_⟩⟩
          unfold w_X12_work
          refine hRw 300 M9 (m + 1) (by omega) (RB0_Q hR Q9) h98 (by omega) (by omega) h1039 h1019 (fun j j0 j1 => by omega) (fun _ => h1009) _ (fun zc R1 F1 b1 b2 b3 b4 => ?_) (fun zc R1 F1 b2 b9 => ?_)
          · unfold w_X12_answerAll_b70
            refine fun u2 eu2 _ => ⟨fun z => absurd (by rw [eu2]; exact b2) z, fun _ => ⟨fun z => by omega, fun _ u4 eu4 _ => ⟨fun z => no (fun q => z (by rw [eu4, b3]; exact (hiff.mp q).1)) R1 F1 b1 zc b2, fun z u6 eu6 _ => ⟨fun z6 => yes (hiff.mpr ⟨by omega, ?_⟩) R1 F1 b1 zc b2, fun z6 => no (fun q => ?_) R1 F1 b1 zc b2⟩⟩⟩⟩
            · rw [b4] at eu6
              rw [b3] at eu4
              rcases hVw with q | ⟨-, q⟩ | ⟨q, -⟩ | ⟨q, -⟩ | ⟨q, -⟩ <;> omega
            · have := (hiff.mp q).2
              rw [b4] at eu6
              omega
          · unfold w_X12_answerAll_b70 w_X12_answerAll_b173
            exact fun u2 eu2 _ => ⟨fun _ => ⟨by unfold ri_; omega, dead R1 (EQ_t Q9 (EQ_E F1)) b2 (by omega)⟩, fun z => by omega⟩
      · refine ⟨by unfold ri_; omega, by omega, by omega, fun v8 ev8 _ M9 e9 => ?_⟩
        have Q9 : EQ R M9 := by rw [e9]; exact EQ_t (EQ_u (by decide)) (EQ_u (by decide))
        have d103 : M9 0 103 = 1 := by rw [e9, ux_i _ _ _ (by decide), ux_s]
        have nx : w_X12_answerAll_b70 Q (jit (fun _ _ _ _ => False) (wb_X12_answerAll_b15 Q) (ts.length + 2)) x3 x4 i M9 := by
          unfold w_X12_answerAll_b70 w_X12_answerAll_b173
          exact fun u2 eu2 _ => ⟨fun _ => ⟨by unfold ri_; omega, dead M9 Q9 d103 (by omega)⟩, fun z => by omega⟩
        exact ⟨fun _ => nx, fun _ u1 eu1 _ => ⟨fun _ => nx, fun z => by omega⟩⟩
