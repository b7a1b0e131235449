/-! a question that was read is worked out, on both sides -/
def EA (R R' : MM) : Prop := (∀ k, k ∉ [0, 60, 62, 72, 73, 74, 75, 76, 77] → R' k = R k) ∧ ∀ i, i ∉ ([73, 81, 82, 97, 98, 99, 100, 101, 102, 103, 110] : List Int) → R' 0 i = R 0 i
theorem qa_spec {P : CD} {N : MM} {c pc : Nat} {M0 R0 : MM} {p B xs x3 x4 lo hi e0 e2 e3 loS hiS loW hiW loV hiV : Int} {sf : Int → Int} (hE : EnvQ c pc M0 R0 p B) (c211 : M0 219 2 = 211) (b5 : e3 + 1 = M0 c 5) (lo0 : 0 ≤ lo) (h480 : hi ≤ 480) (hc : cAg P M0 c 0 (e3 + 1)) (hn : nAg N R0 lo hi) (hu : UsQ P 0 (e3 + 1) M0 R0 pc p) (lS : lo ≤ loS) (hS : hiS ≤ hi) (lW : lo ≤ loW) (hW : hiW ≤ hi) (lV : lo ≤ loV) (hV : hiV ≤ hi) (szp : 1 ≤ hi - lo) (hz : hi - lo ≤ 120) (e00 : 0 ≤ e0) (e02 : e0 < e2) (e23 : e2 ≤ e3)
    (hst : SemS P N 0 sf 0 0 xs 0 e0 loS hiS)
    (pn : P 1 e0 = 36 ∧ P 2 e0 = 0 ∧ P 3 e0 = e3 + 1)
    (hwh : x3 = -1 ∧ e2 = e0 + 1 ∨ 0 ≤ x3 ∧ P 1 (e2 - 1) = 37 ∧ P 3 (e2 - 1) = e0 ∧ Sem P N 0 sf 0 1 x3 (e0 + 1) (e2 - 1) loW hiW)
    (hvl : x4 = -1 ∧ e3 = e2 ∧ P 1 e3 = 41 ∨ 0 ≤ x4 ∧ P 1 e3 = 40 ∧ Sem P N 0 sf 0 1 x4 e2 e3 loV hiV) (p3 : P 3 e3 = e0) : ∃ (L : List (Int × Int × Int)) (ok : Prop), L.length ≤ 4000 ∧
    (∀ M, CB M0 M → SI B M → M 219 3 = 0 → M 219 6 = 0 → M 219 20 = 0 → ∀ Q : Int → MM → Prop, (ok → ∀ M', CB M0 M' → SI B M' → 0 ≤ M' 219 3 → M' 219 3 ≤ 30001 → M' 219 20 = L.length → CRw 232 0 L M' → Q 1 M') → (¬ ok → ∀ M', CB M0 M' → SI B M' → 0 ≤ M' 219 3 → M' 219 3 ≤ 30001 → Q 0 M') → w_X4_run_b50 c pc Q M) ∧
    (∀ R, RB0 p R0 (ux_ R 0 97 p) → R 0 110 = 0 → ∀ Q : Int → MM → Prop, (ok → ∀ R', EA R R' → R' 0 81 = R 0 81 → R' 0 82 = R 0 82 → R' 0 110 = L.length → CRw 75 0 L R' → Q 0 R') → (¬ ok → ∀ R', EA R R' → R' 0 81 = 5 → R' 0 82 = -1 → Q 0 R') → w_X12_answerAll Q p xs x3 x4 R) := by
  obtain ⟨q1, q2, q3, q4, q5, q6⟩ := hst
  obtain ⟨ts, cS, hts, htl, hcS, hSC, hSR⟩ := q6 c pc M0 R0 p B (fun _ => 0) 0 hE (by omega) (by omega) (by omega) (by omega) (fun j i j0 j4 i0 i1 => hc j i j0 j4 (by omega) (by omega)) (nAg_s hn (by omega) (by omega)) ⟨fun i i0 i1 => hu.1 i (by omega) (by omega), fun i i0 i1 => hu.2 i (by omega) (by omega)⟩ ⟨by omega, by omega, by omega, by omega, fun i i0 i1 => by omega, fun z => by omega⟩
  have hSR := hSR 11 (Or.inr rfl)
  obtain ⟨L, cost, hco, hL, hQC, hQR⟩ := qs_spec hE c211 (by omega) (by omega) lo0 h480 hc hn hu lW hW lV hV szp hz (show (0 : Int) ≤ e0 by omega) (by omega) e02 e23 pn hwh hvl p3 ts hts
  refine ⟨L, cS + cost ≤ 30000, by omega, fun M hC hSI hm h6 hr Q hq hx => ?_, fun R hRB0 h110 Q hq hx => ?_⟩
  · refine p_runL hE (fun K hK hfin => ?_)
    have sp : 30000 < 0 + cS + cost → ∀ M', CB M0 M' → SI B M' → M' 219 3 = 30001 → Q 0 M' := fun z M' a1 a2 a3 => hx (by omega) M' a1 a2 (by omega) (by omega)
    refine hSC K _ hK 1000000 M 0 0 hC hSI h6 (by omega) (by omega) hm (by omega) (by omega) ⟨fun i i0 i1 => by omega, fun z => by omega⟩ (by omega) (fun zc t2 M2 ht2 F2 S2 h62 h32 k2 G2 => ?_) (fun zc => sp (by omega))
    refine hQC K _ hK t2 M2 (0 + cS) 0 (CB_F hC F2) S2 h62 h32 (by omega) zc G2 (by rw [F2.2.1 20 (by decide) (by decide)]; exact hr) (by omega) (by omega) (by omega) (fun zf t3 M3 C3 S3 b1 b2 b3 b4 => ?_) sp
    exact hfin t3 (e3 + 1) M3 C3 (by omega) (by omega) (hq (by omega) M3 C3 S3 (by omega) (by omega) (by omega) b4)
  · unfold w_X12_answerAll w_X12_beginWork
    intro M1 e1 M2 e2' M3 e3' M4 e4
    have o4 : ∀ j, j ≠ 0 → M4 j = R j := fun j hj => by rw [e4, ux_g _ _ _ hj, e3', ux_g _ _ _ hj, e2', ux_g _ _ _ hj, e1, ux_g _ _ _ hj]
    have i4 : ∀ i, i ≠ 97 → i ≠ 98 → i ≠ 103 → i ≠ 101 → M4 0 i = R 0 i := fun i a1 a2 a3 a4 => by rw [e4, ux_i _ _ _ a4, e3', ux_i _ _ _ a3, e2', ux_i _ _ _ a2, e1, ux_i _ _ _ a1]
    have hRB : RB0 p R0 M4 := RB0_m hRB0 (fun j hj => by rw [o4 j (fun w => hj (by rw [w]; decide)), ux_g _ _ _ (fun w => hj (by rw [w]; decide))]) (by rw [i4 20 (by decide) (by decide) (by decide) (by decide), ux_i _ _ _ (by decide)]) (by rw [e4, ux_i _ _ _ (by decide), e3', ux_i _ _ _ (by decide), e2', ux_i _ _ _ (by decide), e1, ux_s])
    have ea : ∀ R1 R2, ES 0 11 M4 R1 → EQ R1 R2 → EA R R2 ∧ R2 0 81 = R 0 81 ∧ R2 0 82 = R 0 82 := fun R1 R2 F1 F2 => by
      refine ⟨⟨fun j hj => by rw [F2.1 j hj, F1.1 j (fun y => hj (by simp only [List.mem_cons, List.not_mem_nil, or_false] at y ⊢; omega)), o4 j (fun w => hj (by rw [w]; decide))], fun i hi => ?_⟩, ?_, ?_⟩
      · rw [F2.2.1 i (fun w => hi (by simp only [List.mem_cons, List.not_mem_nil, or_false] at w ⊢; omega)), F1.2.1 i (fun w => hi (by simp only [List.mem_cons, List.not_mem_nil, or_false] at w ⊢; omega)), i4 i (fun w => hi (by rw [w]; decide)) (fun w => hi (by rw [w]; decide)) (fun w => hi (by rw [w]; decide)) (fun w => hi (by rw [w]; decide))]
      · rw [F2.2.1 81 (by decide), F1.2.1 81 (by decide), i4 81 (by decide) (by decide) (by decide) (by decide)]
      · rw [F2.2.1 82 (by decide), F1.2.1 82 (by decide), i4 82 (by decide) (by decide) (by decide) (by decide)]
    have ex : ∀ R1 R2 R3, ES 0 11 M4 R1 → EQ R1 R2 → R3 = ux_ (ux_ R2 0 81 5) 0 82 (-1) → 30000 < cS + cost → Q 0 R3 := fun R1 R2 R3 F1 F2 er z => by
      obtain ⟨a1, a2, a3⟩ := ea R1 R2 F1 F2
      refine hx (by omega) R3 ⟨fun j hj => by rw [er, ux_g _ _ _ (fun w => hj (by rw [w]; decide)), ux_g _ _ _ (fun w => hj (by rw [w]; decide))]; exact a1.1 j hj, fun i hi => by rw [er, ux_i _ _ _ (fun w => hi (by rw [w]; decide)), ux_i _ _ _ (fun w => hi (by rw [w]; decide))]; exact a1.2 i hi⟩ (by rw [er, ux_i _ _ _ (by decide), ux_s]) (by rw [er, ux_s])
    unfold w_X12_workSet
    refine hSR 300 M4 0 (by omega) hRB (by rw [e4, ux_i _ _ _ (by decide), e3', ux_i _ _ _ (by decide), e2', ux_s]) (by omega) (by omega) (by rw [e4, ux_i _ _ _ (by decide), e3', ux_s]) (by rw [e4, ux_s]) (fun i i0 i1 => by omega) (fun z => by omega) _ (fun zc R1 F1 b1 b2 b3 b4 => ?_) (fun zc R1 F1 b2 b3 => ?_)
    · unfold w_X12_answerAll_b15
      refine ⟨ts.length + 2, ?_⟩
      refine hQR R1 (0 + cS) 0 0 (RB0_S hRB F1) b1 (by omega) zc b2 (by rw [F1.2.1 101 (by decide), e4, ux_s]) (by omega) (by omega) (by rw [b3]; omega) (fun k hk => ?_) (by rw [F1.2.1 110 (by decide), i4 110 (by decide) (by decide) (by decide) (by decide)]; exact h110) (by omega) (by omega) Q (fun zf R2 d1 d2 d3 d4 => ?_) (fun zf R2 R3 d1 d2 => ex R1 R2 R3 F1 d1 d2 (by omega))
      · have := b4 k hk
        rw [show 48400 + (0 + (k : Int)) = 4400 * 11 + (k : Int) from by omega]; exact this
      · obtain ⟨a1, a2, a3⟩ := ea R1 R2 F1 d1
        exact hq (by omega) R2 a1 a2 a3 (by rw [d2]; omega) d4
    · unfold w_X12_answerAll_b15
      exact ⟨1, rq_dead (n := 0) b2 (fun R2 e => ex R1 R1 R2 F1 (EQ_r R1) e (by omega))⟩
