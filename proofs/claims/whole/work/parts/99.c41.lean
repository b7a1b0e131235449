set_option maxHeartbeats 1000000 in
theorem t_ask {C R : MM} {p B : Int} (h : RD C R) (hK : Kd R) (hX : SXq B C) (B0 : 0 ≤ B) (B1 : B + 30001 ≤ 2147483646) : w_X11_ask (fun r C' => w_X12_ask (fun r' R' => r = r' ∧ R' 0 0 = 0 ∧ RD C' R' ∧ Rft C' R' ∧ Ran C' R' ∧ SXq (B + 30001) C' ∧ FYc C C' ∧ FYr 0 R R') p R) (fun E C' => w_X12_ask (fun r' R' => (E = "java/lang/IndexOutOfBoundsException" ∧ C' = C ∧ R' = ux_ R 0 0 1) ∨ (E = "java/lang/IllegalArgumentException" ∧ R' 0 0 = 2 ∧ RD C' R' ∧ Rft C' R' ∧ Ran C' R' ∧ SXq (B + 30001) C' ∧ FYc C C' ∧ FYr 0 R R')) p R) p C := by
  have hA := h.1.1
  unfold w_X11_ask w_X11_needPicture
  refine p_isPic (fun p0 p4 _ => ⟨fun _ M2 e2 => ?_, fun y => absurd y (by decide)⟩) (fun hn _ => ⟨fun y => absurd rfl y, fun _ => ?_⟩)
  rotate_left
  · unfold w_X12_ask
    refine p_R_isPic (fun a b => absurd ⟨a, b⟩ hn) (fun _ _ => ⟨fun _ => ?_, fun y => absurd rfl y⟩)
    unfold w_X12_ask_b14
    intro M1 e1 v2 ev2 _
    rw [e1, ux_s] at ev2
    exact ⟨fun y => by omega, fun _ => Or.inl ⟨rfl, rfl, e1⟩⟩
  have o2 : ∀ k, k ≠ 219 → M2 k = C k := fun k hk => by rw [e2, ux_g _ _ _ hk]
  unfold w_X6_readQuestion
  refine c_start (c := 211) (by omega) (okT_D h (by rw [o2 1 (by omega)]) (o2 2 (by omega))) (fun C0 E L hF hTK c6 c7 hSC => rqC_of ?_)
  obtain ⟨R4, eR⟩ : ∃ R4, R4 = ux_ (ux_ R 0 0 0) 0 110 0 := ⟨_, rfl⟩
  have r4k : ∀ k, k ≠ 0 → R4 k = R k := fun k hk => by rw [eR, ux_g _ _ _ hk, ux_g _ _ _ hk]
  have r4i : ∀ i, i ≠ 0 → i ≠ 110 → R4 0 i = R 0 i := fun i a b => by rw [eR, ux_i _ _ _ b, ux_i _ _ _ a]
  have hTX : TX C0 R4 E L := TX_of h hK hTK (by rw [hF.2.1 1 (by decide), o2 1 (by omega)]) (by rw [hF.1 2 (by omega) (by omega) (by omega) (by omega) (by omega), o2 2 (by omega)]) (by rw [hF.1 7 (by omega) (by omega) (by omega) (by omega) (by omega), o2 7 (by omega)]) (r4k 1 (by decide)) (r4k 3 (by decide)) (r4i 3 (by decide) (by decide))
  have ref : ∀ Q : Int → MM → Prop, (∀ M7, SR C0 R4 E 0 0 0 0 0 0 (fun _ => 0) M7 → rqR (fun y1 y3 y4 M2 => ∀ v3, v3 = M2 0 81 → ri_ v3 → (¬ v3 = 0 → w_X12_ask_b106 Q M2) ∧ (v3 = 0 → w_X12_answerAll (fun _ M6 => w_X12_ask_b106 Q M6) p y1 y3 y4 M2)) M7) → w_X12_ask Q p R := fun Q hq => by
    unfold w_X12_ask
    refine p_R_isPic (fun _ _ _ => ⟨fun y => absurd y (by decide), fun _ => ?_⟩) (fun hn => absurd ⟨p0, p4⟩ hn)
    unfold w_X12_ask_b14
    intro M1 e1 v2 ev2 _
    refine ⟨fun _ M4 e4 => ?_, fun z => absurd (by rw [ev2, e1, ux_s]; decide) z⟩
    rw [e1] at e4
    rw [← eR] at e4
    subst e4
    exact r_begin hTX (Fpr_rf 0 _) (fun R' hR' M7 e7 => hq M7 (hR' _ M7 e7))
  -- the frames
  have fr : ∀ C1, Fpc 211 C0 C1 → (∀ k, k ∉ [1, 4, 5, 6, 219] → (k < 211 ∨ 218 < k) → C1 k = C k) ∧ (∀ i, i ∉ ([4, 8, 9, 10, 11] : List Int) → C1 1 i = C 1 i) ∧ C1 219 = M2 219 := fun C1 hP => by
    obtain ⟨a, b, c⟩ := rd_fr hF hP o2
    exact ⟨a, b, c (by omega)⟩
  have rfr : ∀ R1 R', Fpr 0 R4 R1 → (∀ k, k ≠ 0 → R' k = R1 k) → (∀ i, i ≠ 81 → i ≠ 82 → i ≠ 0 → i ≠ 110 → R' 0 i = R1 0 i) → FYr 0 R R' := fun R1 R' f a b => ⟨fun k hk hr => by
      rw [a k (fun y => hk (by rw [y]; decide)), f.1 k (fun y => hk (by rw [y]; decide)) (by omega), r4k k (fun y => hk (by rw [y]; decide))], fun k k0 k1 i hi => by
      rw [a k (by omega), f.2.1 k k0 k1 i hi, r4k k (by omega)], fun i hi => by
      simp only [List.mem_cons, List.not_mem_nil, or_false] at hi
      rw [b i (by omega) (by omega) (by omega) (by omega), f.2.2 i (by simp only [List.mem_cons, List.not_mem_nil, or_false]; omega), r4i i (by omega) (by omega)]⟩
  have tR : ∀ C' R', RD C' R → FYr 0 R R' → RD C' R' := fun C' R' hd f => RD_lg hd (fun _ _ => rfl) (fun k a b => by
    by_cases y : k = 60 ∨ k = 62
    · omega
    · exact f.1 k (by simp; omega) (by omega)) (fun i hi => f.2.2 i (by simp only [List.mem_cons, List.not_mem_nil, or_false] at hi ⊢; omega))
  have base : ∀ C1 (a b : Int), Fpc 211 C0 C1 → ∀ M8, M8 = ux_ (ux_ C1 0 16 a) 0 17 b → RD M8 R ∧ FYc C M8 ∧ M8 219 = M2 219 ∧ M8 0 16 = a ∧ M8 0 17 = b ∧ (∀ k, k ≠ 0 → M8 k = C1 k) := fun C1 a b hP M8 e8 => by
    obtain ⟨f1, f2, f3⟩ := fr C1 hP
    have g : ∀ k, k ≠ 0 → M8 k = C1 k := fun k hk => by rw [e8, ux_g _ _ _ hk, ux_g _ _ _ hk]
    have gi : ∀ i, i ≠ 16 → i ≠ 17 → M8 0 i = C 0 i := fun i x y => by rw [e8, ux_i _ _ _ y, ux_i _ _ _ x, f1 0 (by decide) (by omega)]
    refine ⟨RD_rd h (fun k x y => by rw [g k (by omega)]; exact f1 k (by simp; omega) (by omega)) (by rw [g 2 (by decide)]; exact f1 2 (by decide) (by omega)) (by rw [g 3 (by decide)]; exact f1 3 (by decide) (by omega)) (gi 5 (by decide) (by decide)) (by rw [g 1 (by decide)]; exact f2 1 (by decide)), ⟨fun k hk hr => ?_, fun i hi => ?_, fun i hi => ?_⟩, by rw [g 219 (by decide)]; exact f3, by rw [e8, ux_i _ _ _ (by decide), ux_s], by rw [e8, ux_s], g⟩
    · simp only [List.mem_cons, List.not_mem_nil, or_false] at hk
      rw [g k (by omega)]; exact f1 k (by simp; omega) (by omega)
    · simp only [List.mem_cons, List.not_mem_nil, or_false] at hi
      exact gi i (by omega) (by omega)
    · rw [g 1 (by decide)]; exact f2 i hi
  have b106 : ∀ (Q : Int → MM → Prop) (R' : MM) (f : Int), R' 0 81 = f → (f = 0 → ∀ R'', (∀ k, k ≠ 0 → R'' k = R' k) → (∀ i, i ≠ 0 → R'' 0 i = R' 0 i) → R'' 0 0 = 0 → Q (R' 0 110) R'') → (0 < f → ∀ R'', (∀ k, k ≠ 0 → R'' k = R' k) → (∀ i, i ≠ 0 → i ≠ 110 → R'' 0 i = R' 0 i) → R'' 0 0 = 2 → R'' 0 110 = 0 → Q 0 R'') → 0 ≤ f → w_X12_ask_b106 Q R' := fun Q R' f hf q0 q1 f0 => by
    unfold w_X12_ask_b106 w_X12_ask_b119 w_X12_ask_b134
    intro v1 e1 _
    refine ⟨fun z M1 d1 v2 d2 _ => ⟨fun _ v3 d3 _ => ?_, fun y => absurd (by rw [d2, d1, ux_s]; decide) y⟩, fun z M1 d1 v2 d2 _ => ⟨fun y => by rw [d2, d1, ux_s] at y; omega, fun _ M4 d4 v3 d3 _ => ?_⟩⟩
    · rw [d3, d1, ux_i _ _ _ (by decide)]
      exact q0 (by omega) _ (fun k hk => ux_g _ _ _ hk) (fun i hi => ux_i _ _ _ hi) (ux_s _ _ _ _)
    · rw [d3, d4, ux_s, d1]
      exact q1 (by omega) _ (fun k hk => by rw [ux_g _ _ _ hk, ux_g _ _ _ hk]) (fun i a b => by rw [ux_i _ _ _ b, ux_i _ _ _ a]) (by rw [ux_i _ _ _ (by decide), ux_s]) (ux_s _ _ _ _)
  have sx2 : ∀ M8 C1 : MM, Fpc 211 C0 C1 → (∀ k, k ≠ 0 → M8 k = C1 k) → SXq B M8 := fun M8 C1 hP g => SXq_e hX (fun k hk => by rw [g k (by omega)]; exact (fr C1 hP).1 k (by simp; omega) (by omega))
  rcases rq_spec (c := 211) (b := 0) hTX (by omega) (by omega) (fun _ => 0) (fun _ => 0) (fun _ => 0) (fun _ => 0) with ⟨n1, n2, n', e0, e2', e3, xs, x3, x4, P, N, m0, m1, m2, m3, l0, l1, l2, l3, hS, hpn, hwh, hvl, p3, cC, rR⟩ | ⟨f, pl, f0, cC, rR⟩
  · refine cC C0 (hSC _ _ _) _ (fun C1 f1 u1 s1 q1 _ v5 e5 _ v6 e6 _ => ?_)
    have z5 : v5 = 0 := by rw [e5]; exact u1.2.2.1
    unfold w_X11_tellFault w_X11_tellFault_b15
    intro M7 e7
    refine ⟨fun z => absurd z5 z, fun _ M8 e8 => ⟨fun z => absurd z (by decide), fun _ => ?_⟩⟩
    rw [e7, z5] at e8
    obtain ⟨h8, y8, l8, a16, a17, g8⟩ := base C1 0 (-1) f1 M8 e8
    obtain ⟨hB8, hJ8, cs, hcs⟩ := id h8
    have ip := hcs.2.2.2.1 p p0 (by omega)
    have hY8 := hB8.1.2.2.2.2
    have hP8 := (hcs.1 p p0 p4).2
    refine ⟨p0, p4, cs p, (hcs.1 p p0 p4).1, ip, ?_⟩
    have ip' := ip
    unfold isP at ip'
    have hU8 : Us 211 (e3 + 1) M8 := by
      unfold Us at u1 ⊢
      rw [g8 211 (by omega), g8 (211 + 1) (by omega)]; exact u1
    refine run_pre (st := e3 + 1) hY8 ip (Or.inl rfl) hP8.1 (ShH_of hP8) hU8 (fun M0 fS fF hSh hd ht => ?_)
    obtain ⟨hD0, hP0⟩ := RD_run hB8 hJ8 hcs p0 p4 fS fF hSh
    have k0 : ∀ k, ¬ (cs p + 18 ≤ k ∧ k ≤ cs p + 32) → k ≠ 219 → M0 k = M8 k := fun k a b => by rw [fS k a, rn4_k b]
    have k9 : ∀ i, M0 219 i = rn4 M8 211 (cs p) 219 i := fun i => by rw [fS 219 (by omega)]
    have d0 : M0 211 5 = e3 + 1 := by rw [k0 211 (by omega) (by omega), g8 211 (by omega)]; exact s1
    obtain ⟨R0, eR0⟩ : ∃ R0, R0 = vw R4 N 0 n' 1 := ⟨_, rfl⟩
    have v0 : ∀ k, k ≠ 0 → k < 66 → R0 k = R k := fun k a b => by rw [eR0, vw_k a (by omega), r4k k a]
    have hE : EnvQ 211 (cs p) M0 R0 p B := by
      refine ⟨Or.inl rfl, ip, by rw [k9]; exact rn4_v.2.1, by rw [k9]; exact rn4_v.1, by omega, ?_, hP0.1, Rpb_M hP0.2.1 (fun k hk => v0 k (by intro y; rw [y] at hk; revert hk; decide) (by simp at hk; omega)), p0, by omega, fun t a b => by rw [v0 43 (by decide) (by decide)]; exact (hP0.2.2.1.1 t a b).1, B0, B1⟩
      exact Rty_R hD0.1.1.2.2.2.2 (fun k a b _ => v0 k (by omega) (by omega)) (by rw [eR0, vw_0 (by decide), r4i 20 (by decide) (by decide)])
    have hcA : cAg P M0 211 0 (e3 + 1) := fun j i j0 j4 i0 i1 => by rw [k0 (211 + j) (by omega) (by omega), g8 (211 + j) (by omega)]; exact q1 j i j0 j4 i0 i1
    have hn : nAg N R0 0 n' := by rw [eR0]; exact vw_A
    have ucd : ∀ i, 0 ≤ i → i < e3 + 1 → M8 (211 + 1) i = P 1 i := fun i i0 i1 => by rw [g8 (211 + 1) (by omega)]; exact q1 1 i (by omega) (by omega) i0 i1
    have hu : UsQ P 0 (e3 + 1) M0 R0 (cs p) p := by
      refine ⟨fun i i0 i1 e => ⟨by rw [eR0]; exact vw_1.2.2, fun t a b => ?_⟩, fun i i0 i1 e => ?_⟩
      · have := ht ((hU8.2.2.2 i i0 i1).2 (by rw [ucd i i0 i1]; exact e))
        rw [v0 47 (by decide) (by decide)]
        exact (DTf_u this hP0.2.2.1.2.2.2.2.2.1 a b).2.1
      · exact hd ((hU8.2.2.2 i i0 i1).1 (Or.inl (by rw [ucd i i0 i1]; exact e)))
    rw [show (0 : Int) + n1 = n1 from by omega] at hS hwh
    rw [show (0 : Int) + n2 = n2 from by omega] at hwh hvl
    rw [show (0 : Int) + n' = n' from by omega] at hvl
    obtain ⟨Lr, ok, hL, hQC, hQR⟩ := qa_spec (lo := 0) (hi := n') hE (by rw [k9]; exact rn4_v.2.1) (by rw [d0]) (by omega) (by omega) hcA hn hu (Int.le_refl 0) (show n1 ≤ n' by omega) (show 0 ≤ n1 by omega) (show n2 ≤ n' by omega) (show 0 ≤ n2 by omega) (Int.le_refl n') (by omega) (by omega) l0 l1 l2 hS hpn hwh hvl p3
    have si0 : SI B M0 := SXq_I (sx2 M8 C1 f1 g8) (fun k hk => k0 k (by omega) (by omega)) (by rw [k9]; exact rn4_v.2.2.1)
    have z20 : M0 219 20 = 0 := by rw [k9, rn4_i (by decide), l8, e2, ux_s]
    -- the frames of the end
    have eC : ∀ M' M'', CB M0 M' → (∀ k, k ≠ 0 → k ≠ 219 → M'' k = M' k) → (∀ i, i ≠ 16 → i ≠ 17 → M'' 0 i = M' 0 i) → RD M'' R ∧ FYc C M'' := fun M' M'' hC a b => by
      have w : ∀ k, k ≠ 0 → k < 219 ∨ 234 < k → M'' k = M0 k := fun k x y => by rw [a k x (by omega)]; exact hC.1 k (by omega)
      have w0 : ∀ i, i ≠ 16 → i ≠ 17 → M'' 0 i = M0 0 i := fun i x y => by rw [b i x y, hC.1 0 (by omega)]
      refine ⟨RD_rd hD0 (fun k x y => w k (by omega) (by omega)) (w 2 (by omega) (by omega)) (w 3 (by omega) (by omega)) (w0 5 (by decide) (by decide)) (by rw [w 1 (by omega) (by omega)]), fun k hk hr => ?_, fun i hi => ?_, fun i hi => ?_⟩
      · rw [w k (fun y => hk (by rw [y]; decide)) (by omega), k0 k (by omega) (by omega)]; exact y8.1 k hk hr
      · have hi' := hi
        simp only [List.mem_cons, List.not_mem_nil, or_false] at hi'
        rw [w0 i (by omega) (by omega), k0 0 (by omega) (by omega)]; exact y8.2.1 i hi
      · rw [w 1 (by omega) (by omega), k0 1 (by omega) (by omega)]; exact y8.2.2 i hi
    have refO : ∀ Q : Int → MM → Prop, (ok → ∀ R'', FYr 0 R R'' → R'' 0 0 = 0 → R'' 0 81 = 0 → R'' 0 82 = -1 → R'' 0 110 = Lr.length → CRw 75 0 Lr R'' → Q Lr.length R'') → (¬ ok → ∀ R'', FYr 0 R R'' → R'' 0 0 = 2 → R'' 0 81 = 5 → R'' 0 82 = -1 → R'' 0 110 = 0 → Q 0 R'') → w_X12_ask Q p R := fun Q qa qb => by
      refine ref Q (fun M7 h7 => rR M7 h7 _ (fun R1 R' fR h83 h92 hN er v3 ev3 _ => ?_))
      have h81 : R' 0 81 = 0 := by rw [er, ux_i _ _ _ (by decide), ux_s]
      refine ⟨fun z => absurd (by rw [ev3]; exact h81) z, fun _ => ?_⟩
      have rk : ∀ k, k ≠ 0 → R' k = R1 k := fun k hk => by rw [er, ux_g _ _ _ hk, ux_g _ _ _ hk]
      have ri : ∀ i, i ≠ 81 → i ≠ 82 → R' 0 i = R1 0 i := fun i a b => by rw [er, ux_i _ _ _ b, ux_i _ _ _ a]
      have fy : FYr 0 R R' := rfr R1 R' fR rk (fun i a b _ _ => ri i a b)
      have hrb : RB0 p R0 (ux_ R' 0 97 p) := by
        rw [eR0]
        refine vw_B0 (fun k a b => by rw [rk k a, fR.1 k a (by omega)]) (by rw [ri 20 (by decide) (by decide), fR.2.2 20 (by decide)]) (fun j i j0 j1 i0 i1 => by rw [rk j (by omega)]; exact hN j i j0 j1 i0 (by omega))
      have h110 : R' 0 110 = 0 := by rw [ri 110 (by decide) (by decide), fR.2.2 110 (by decide), eR, ux_s]
      have fyE : ∀ R2 R3, EA R' R2 → (∀ k, k ≠ 0 → R3 k = R2 k) → (∀ i, i ≠ 0 → i ≠ 110 → R3 0 i = R2 0 i) → FYr 0 R R3 := fun R2 R3 E2 a b => ⟨fun k hk hr => by
          have hk' := hk
          simp only [List.mem_cons, List.not_mem_nil, or_false] at hk'
          rw [a k (by omega), E2.1 k (by simp; omega)]; exact fy.1 k hk hr, fun k k0 k1 i hi => by
          rw [a k (by omega), E2.1 k (by simp; omega)]; exact fy.2.1 k k0 k1 i hi, fun i hi => by
          have hi' := hi
          simp only [List.mem_cons, List.not_mem_nil, or_false] at hi'
          rw [b i (by omega) (by omega), E2.2 i (by simp only [List.mem_cons, List.not_mem_nil, or_false]; omega)]; exact fy.2.2 i hi⟩
      refine hQR R' hrb h110 _ (fun hok R2 E2 d81 d82 d110 dR => ?_) (fun hok R2 E2 d81 d82 => ?_)
      · refine b106 Q R2 0 (by rw [d81]; exact h81) (fun _ R3 a b z => ?_) (fun y => by omega) (Int.le_refl 0)
        rw [d110]
        refine qa hok R3 (fyE R2 R3 E2 a (fun i x _ => b i x)) z (by rw [b 81 (by decide), d81]; exact h81) (by rw [b 82 (by decide), d82, er, ux_s]) (by rw [b 110 (by decide), d110]) (fun k hk => ?_)
        rw [a 75 (by decide), a (75 + 1) (by decide), a (75 + 2) (by decide)]; exact dR k hk
      · refine b106 Q R2 5 d81 (fun y => by omega) (fun _ R3 a b z z110 => ?_) (by omega)
        exact qb hok R3 (fyE R2 R3 E2 a b) z (by rw [b 81 (by decide) (by decide), d81]) (by rw [b 82 (by decide) (by decide), d82]) z110
    refine hQC M0 ⟨fun _ _ => rfl, fun _ _ _ _ => rfl⟩ si0 (by rw [k9]; exact rn4_v.2.2.1) (by rw [k9]; exact rn4_v.2.2.2) z20 _ (fun hok M' hC hSI t0 t1 h20 hrw _ => ⟨fun _ => ?_, fun z => absurd z (by decide)⟩) (fun hok M' hC hSI t0 t1 _ => ⟨fun z => absurd rfl z, fun _ M14 e14 => ?_⟩)
    · unfold w_X11_ask_b76
      intro v1 ev1 _
      have m16 : M' 0 16 = 0 := by rw [hC.1 0 (by omega), k0 0 (by omega) (by omega)]; exact a16
      have m17 : M' 0 17 = -1 := by rw [hC.1 0 (by omega), k0 0 (by omega) (by omega)]; exact a17
      refine ⟨fun _ v3 ev3 _ => ?_, fun z => absurd (by rw [ev1]; exact m16) z⟩
      obtain ⟨x1, x2⟩ := eC M' M' hC (fun _ _ _ => rfl) (fun _ _ _ => rfl)
      refine refO _ (fun _ R'' fy z0 z81 z82 z110 zr => ⟨by rw [ev3, h20], z0, tR M' R'' x1 fy, ⟨by rw [m16, z81], by rw [m17, z82]⟩, Ran_L hL h20 z110 hrw zr, SIq_X hSI t1, x2, fy⟩) (fun z => absurd hok z)
    · intro M15 e15
      refine ⟨fun _ M16 e16 => ?_, fun z => absurd z (by decide)⟩
      have g16 : ∀ k, k ≠ 0 → k ≠ 219 → M16 k = M' k := fun k a b => by rw [e16, ux_g _ _ _ a, e15, ux_g _ _ _ a, e14, ux_g _ _ _ b]
      have i16 : ∀ i, i ≠ 16 → i ≠ 17 → M16 0 i = M' 0 i := fun i a b => by rw [e16, ux_i _ _ _ b, e15, ux_i _ _ _ a, e14, ux_c _ _ _ _ (by decide)]
      obtain ⟨x1, x2⟩ := eC M' M16 hC g16 i16
      have m16 : M16 0 16 = 5 := by rw [e16, ux_i _ _ _ (by decide), e15, ux_s]
      have m17 : M16 0 17 = -1 := by rw [e16, ux_s]
      have m20 : M16 219 20 = 0 := by rw [e16, ux_c _ _ _ _ (by decide), e15, ux_c _ _ _ _ (by decide), e14, ux_s]
      unfold w_X11_ask_b76
      intro v1 ev1 _
      refine ⟨fun z => by rw [ev1, m16] at z; omega, fun _ => ?_⟩
      exact refO _ (fun z => absurd z hok) (fun _ R'' fy z0 z81 z82 z110 => Or.inr ⟨rfl, z0, tR M16 R'' x1 fy, ⟨by rw [m16, z81], by rw [m17, z82]⟩, Ran_0 m20 z110, SXq_e (SIq_X hSI t1) (fun k hk => g16 k (by omega) (by omega)), x2, fy⟩)
  · refine cC C0 (hSC _ _ _) _ (fun C1 hCF _ v5 e5 _ v6 e6 _ => ?_)
    obtain ⟨f1, q6, q7⟩ := hCF
    unfold w_X11_tellFault w_X11_tellFault_b15
    intro M7 e7
    refine ⟨fun _ M8 e8 => ⟨fun _ => ?_, fun z => absurd rfl z⟩, fun z => by omega⟩
    rw [e7] at e8
    obtain ⟨h8, y8, l8, a16, a17, g8⟩ := base C1 v5 v6 f1 M8 e8
    unfold w_X11_ask_b76
    intro v1 ev1 _
    refine ⟨fun z => by omega, fun _ => ?_⟩
    refine ref _ (fun M7 h7 => rR M7 h7 _ (fun y3 y4 y5 R1 R' fR er v3 ev3 _ => ?_))
    have h81 : R' 0 81 = f := by rw [er, ux_i _ _ _ (by decide), ux_s]
    have h82 : R' 0 82 = pl := by rw [er, ux_s]
    refine ⟨fun _ => ?_, fun z => by omega⟩
    refine b106 _ R' f h81 (fun y => by omega) (fun _ R3 a b z z110 => ?_) (by omega)
    have fy : FYr 0 R R3 := rfr R1 R3 fR (fun k hk => by rw [a k hk, er, ux_g _ _ _ hk, ux_g _ _ _ hk]) (fun i x y w w2 => by rw [b i w w2, er, ux_i _ _ _ y, ux_i _ _ _ x])
    exact Or.inr ⟨rfl, z, tR M8 R3 h8 fy, ⟨by rw [a16, b 81 (by decide) (by decide), h81, e5, q6], by rw [a17, b 82 (by decide) (by decide), h82, e6, q7]⟩, Ran_0 (by rw [l8, e2, ux_s]) z110, SXq_m (sx2 M8 C1 f1 g8) (by omega), y8, fy⟩
