/-! bytes, on both sides -/
theorem RD_tp {C R C' R' : MM} (h : RD C R) (ht : Rtape C' R') (b1 : ∀ i, -128 ≤ R' 1 i ∧ R' 1 i ≤ 127) (b2 : ∀ i, -128 ≤ R' 2 i ∧ R' 2 i ≤ 127) (c : ∀ k, 7 ≤ k → k ≤ 210 → C' k = C k) (c5 : C' 0 5 = C 0 5) (r : ∀ k, 3 ≤ k → k ≤ 59 → R' k = R k) (r0 : ∀ i, i ∈ ([20, 26, 27, 28, 29, 31, 36, 44] : List Int) → R' 0 i = R 0 i) : RD C' R' := by
  obtain ⟨⟨hA, hL, hH⟩, hJ, hP⟩ := h
  have hY := hA.2.2.2.2
  have q := hH.2.2.2.2.2.2.2.2.2.2.2.1
  have hH2 : Rhp C' R' := Rhp_C hH (fun k hk => c k (by simp only [List.mem_cons, List.not_mem_nil, or_false] at hk; omega) (by simp only [List.mem_cons, List.not_mem_nil, or_false] at hk; omega)) (by rw [c 8 (by omega) (by omega)]) (fun i _ => by rw [c 26 (by omega) (by omega)]) (fun k hk => r k (by simp only [List.mem_cons, List.not_mem_nil, or_false] at hk; omega) (by simp only [List.mem_cons, List.not_mem_nil, or_false] at hk; omega)) (fun i hi => r0 i (by simp only [List.mem_cons, List.not_mem_nil, or_false] at hi ⊢; omega)) (by
    unfold Rrt at q ⊢
    rw [c 26 (by omega) (by omega), c 33 (by omega) (by omega), r 24 (by omega) (by omega), r0 31 (by decide), hOk_eq (by rw [c 26 (by omega) (by omega)]) (c 27 (by omega) (by omega))]
    exact q)
  refine ⟨⟨⟨ht, b1, b2, ?_, Rty_C (Rty_R hY (fun k a b _ => r k (by omega) (by omega)) (r0 20 (by decide))) (fun k a b => c k (by omega) (by omega))⟩, Rlk_of hL (by rw [c 8 (by omega) (by omega)]) (c 14 (by omega) (by omega)) (c 19 (by omega) (by omega)) (c 20 (by omega) (by omega)), hH2⟩, ?_, ps_fr hY hP (tyLe_of (by rw [c 8 (by omega) (by omega)]) (fun k a b => c k (by omega) (by omega))) (fun k a b => c k (by omega) (by omega)) c5 (fun k a b => r k (by omega) (by omega))⟩
  · unfold Rkey
    rw [c 7 (by omega) (by omega), r 3 (by omega) (by omega)]
    exact hA.2.2.2.1
  · exact le_jn hY hH (hpLe_e (fun k a b _ => c k (by omega) (by omega)) (by rw [c 26 (by omega) (by omega)]) (fun k hk => c k (by simp only [List.mem_cons, List.not_mem_nil, or_false] at hk; omega) (by simp only [List.mem_cons, List.not_mem_nil, or_false] at hk; omega))) hJ (fun k a b => c k (by omega) (by omega)) (fun k a b => r k (by omega) (by omega)) (fun i hi => r0 i (by simp only [List.mem_cons, List.not_mem_nil, or_false] at hi ⊢; omega))
def FAc (C C' : MM) : Prop := (∀ k, k ∉ [1, 2, 280, 281] → C' k = C k) ∧ (∀ i, i ≠ 1 → C' 1 i = C 1 i) ∧ ∀ i, i ≠ 2 → C' 280 i = C 280 i
def FAr (R R' : MM) : Prop := (∀ k, k ∉ [0, 1, 98] → R' k = R k) ∧ ∀ i, i ∉ ([0, 3, 141] : List Int) → R' 0 i = R 0 i
theorem eA_b (C : MM) (c : Nat) : ∀ b ∈ eA C c, 0 ≤ b ∧ b < 256 := by
  intro b hb
  rcases List.mem_append.mp hb with q | q
  · exact eB_b _ _ b q
  · have : ∀ x, 0 ≤ jand x 255 ∧ jand x 255 < 256 := fun x => by rw [jand_255]; omega
    unfold ck4 at q
    simp only [List.mem_cons, List.not_mem_nil, or_false] at q
    rcases q with q | q | q | q <;> rw [q] <;> exact this _
theorem p_R_bytes54 {Q : Int → MM → Prop} {M : MM} {L : List Int} (hB : Br M L) (hl : L.length ≤ 4000) (hb : ∀ i, -128 ≤ M 1 i ∧ M 1 i ≤ 127) (hq : ∀ M' : MM, (∀ k, k ≠ 0 → k ≠ 1 → M' k = M k) → (∀ i, i ≠ 3 → M' 0 i = M 0 i) → M' 0 3 = (L.length : Int) → (∀ i : Nat, (h : i < L.length) → M' 1 i % 256 = L[i]) → (∀ i, -128 ≤ M' 1 i ∧ M' 1 i ≤ 127) → Q (L.length : Int) M') : w_X12_bytes_b54 Q 0 M := by
  unfold w_X12_bytes_b54
  refine loop2 _ (fun (k : Int) M1 => 0 ≤ k ∧ k ≤ L.length ∧ (∀ j, j ≠ 1 → M1 j = M j) ∧ (∀ i : Nat, (h : i < L.length) → (i : Int) < k → M1 1 i % 256 = L[i]) ∧ (∀ i, -128 ≤ M1 1 i ∧ M1 1 i ≤ 127)) (fun (k : Int) _ => (L.length - k).toNat) ?_ _ _ ⟨by omega, by omega, fun _ _ => rfl, fun i _ q => by omega, hb⟩
  rintro k M1 f ⟨k0, k1, hM, hL, hr⟩ ih
  unfold wb_X12_bytes_b54
  intro v1 e1 _
  rw [hM 0 (by decide), hB.1] at e1
  refine ⟨fun z v3 e3 _ M4 e4 v5 e5 _ => ?_, fun z => ⟨by omega, by omega, fun v6 e6 g6 => ⟨by omega, by omega, fun M7 e7 => ⟨by unfold ri_; omega, ih _ _ ⟨by omega, by omega, fun j a => ?_, fun i h q => ?_, fun i => ?_⟩ (by omega)⟩⟩⟩⟩
  · rw [hM 0 (by decide), hB.1] at e3
    rw [e4, ux_s, e3] at e5
    rw [e5]
    refine hq M4 (fun j a b => ?_) (fun i a => ?_) ?_ (fun i h => ?_) (fun i => ?_)
    · rw [e4]; funext i; rw [ux_c _ _ _ _ a, hM j b]
    · rw [e4, ux_i _ _ _ a, hM 0 (by decide)]
    · rw [e4, ux_s, e3]
    · rw [e4, ux_c _ _ _ _ (by decide)]; exact hL i h (by omega)
    · rw [e4, ux_c _ _ _ _ (by decide)]; exact hr i
  · rw [e7]; funext i; rw [ux_c _ _ _ _ a, hM j a]
  · rw [e7]
    by_cases w : (i : Int) = k
    · rw [w, ux_s, e6, hM 98 (by decide), ← w]; exact hB.2 i h (by omega)
    · rw [ux_i _ _ _ w]; exact hL i h (by omega)
  · rw [e7]
    by_cases w : i = k
    · rw [w, ux_s]; exact g6
    · rw [ux_i _ _ _ w]; exact hr i
set_option maxHeartbeats 1000000 in
theorem t_bytes {C R : MM} {p : Int} (h : RD C R) : w_X11_bytes (fun r C' => w_X12_bytes (fun r' R' => r = r' ∧ R' 0 0 = 0 ∧ RD C' R' ∧ FAc C C' ∧ FAr R R') p R) (fun E C' => w_X12_bytes (fun r' R' => (E = "java/lang/IndexOutOfBoundsException" ∧ R' 0 0 = 1 ∨ E = "java/lang/IllegalStateException" ∧ R' 0 0 = 2) ∧ RD C' R' ∧ FAc C C' ∧ FAr R R') p R) p C := by
  have h' := h
  obtain ⟨hB, hJ, cs, hcs⟩ := h
  have hY := hB.1.2.2.2.2
  have hT := hB.1.1
  have hr1 := hB.1.2.1
  have hr2 := hB.1.2.2.1
  unfold w_X11_bytes w_X11_needPicture
  refine p_isPic (fun p0 p4 _ => ⟨fun _ => ?_, fun y => absurd y (by decide)⟩) (fun hn _ => ⟨fun y => absurd rfl y, fun _ => ?_⟩)
  · have hc := hcs.1 p p0 p4
    have hw := hc.2.1
    have ip := hcs.2.2.2.1 p p0 (by omega)
    have la : (eA C (cs p)).length = (eB C (cs p)).length + 4 := by unfold eA; rw [List.length_append]; rfl
    have Fbs : ∀ {M}, Fb C M → RD M R ∧ FAc C M := fun {M} hF => by
      refine ⟨RD_tp h' ?_ hr1 hr2 (fun k a b => hF.1 k (by omega) (by omega)) (by rw [hF.1 0 (by decide) (by decide)]) (fun _ _ _ => rfl) (fun _ _ => rfl), fun k hk => ?_, fun i _ => by rw [hF.1 1 (by decide) (by decide)], fun i a => hF.2 i a⟩
      · unfold Rtape; rw [hF.1 1 (by decide) (by decide), hF.1 2 (by decide) (by decide), hF.1 3 (by decide) (by decide)]; exact hT
      · exact hF.1 k (fun y => hk (by rw [y]; decide)) (fun y => hk (by rw [y]; decide))
    have ref : ∀ Q : Int → MM → Prop, (∀ M, Fr98 (ux_ R 0 0 0) M → Br M (eA C (cs p)) → (eA C (cs p)).length ≤ 4000 → w_X12_bytes_b54 Q 0 (ux_ M 0 0 0)) → (∀ M, Fr98 (ux_ R 0 0 0) M → 4000 < (eA C (cs p)).length → Q 0 (ux_ M 0 0 2)) → w_X12_bytes Q p R := fun Q k1 k2 => by
      unfold w_X12_bytes
      refine p_R_isPic (fun _ _ _ => ⟨fun y => absurd y (by decide), fun _ => ?_⟩) (fun y => absurd ⟨p0, p4⟩ y)
      unfold w_X12_bytes_b14
      intro M1 e1 v2 e2 _
      rw [e1, ux_s] at e2
      refine ⟨fun _ => ?_, fun y => by omega⟩
      subst e1
      refine p_R_putPicture (RB_00 hB 0).1.2.2.2.2 hw (pic_00 0 hc.2.2.1) p0 (by omega) (fun M hF hBr hl _ => ⟨fun y => absurd y (by decide), fun _ => ?_⟩) (fun M hF hl _ => ⟨fun _ => ?_, fun y => absurd rfl y⟩)
      · unfold w_X12_bytes_b40
        intro M3 e3 v4 e4 _
        rw [e3, ux_s] at e4
        exact ⟨fun _ => by rw [e3]; exact k1 M hF hBr hl, fun y => by omega⟩
      · unfold w_X12_bytes_b40
        intro M3 e3 v4 e4 _
        rw [e3, ux_s] at e4
        exact ⟨fun y => by omega, fun _ => by rw [e3]; exact k2 M hF hl⟩
    refine ⟨p0, p4, cs p, hc.1, ip, p_encode hY hw ip fun M x hF hBc hx _ => ⟨fun z => ?_, fun z => ?_⟩⟩
    · have lx : (eB C (cs p) ++ ck4 x).length = (eB C (cs p)).length + 4 := by rw [List.length_append]; rfl
      have ex := hx (by omega)
      have z' : (eA C (cs p)).length ≤ 4000 := by omega
      rw [ex] at hBc ⊢
      change Bc M (eA C (cs p)) at hBc
      show 0 ≤ ((eA C (cs p)).length : Int) ∧ _
      have z3 : (0 : Int) + ((eB C (cs p) ++ ck4 (ckL (eB C (cs p)))).length : Int) ≤ 4000 := by show (0 : Int) + ((eA C (cs p)).length : Int) ≤ 4000; omega
      refine ⟨by omega, z3, z3, fun M6 e6 M7 e7 => ?_⟩
      refine ref _ (fun N hN hBr hl => ?_) (fun N hN hl => by omega)
      have g1 : ∀ i, -128 ≤ (ux_ N 0 0 0) 1 i ∧ (ux_ N 0 0 0) 1 i ≤ 127 := fun i => by rw [ux_c _ _ _ _ (by decide), hN.1 1 (by decide) (by decide), ux_c _ _ _ _ (by decide)]; exact hr1 i
      have hBr0 : Br (ux_ N 0 0 0) (eA C (cs p)) := ⟨by rw [ux_i _ _ _ (by decide)]; exact hBr.1, laid_f hBr.2 (funext fun i => ux_c _ _ _ _ (by decide))⟩
      refine p_R_bytes54 hBr0 hl g1 fun M' f1 f2 f3 f4 f5 => ?_
      have nR : ∀ k, k ∉ [0, 1, 98] → M' k = R k := fun k hk => by
        rw [f1 k (fun y => hk (by rw [y]; decide)) (fun y => hk (by rw [y]; decide))]
        funext i
        rw [ux_c _ _ _ _ (fun y => hk (by rw [y]; decide)), hN.1 k (fun y => hk (by rw [y]; decide)) (fun y => hk (by rw [y]; decide)), ux_c _ _ _ _ (fun y => hk (by rw [y]; decide))]
      have nR0 : ∀ i, i ∉ ([0, 3, 141] : List Int) → M' 0 i = R 0 i := fun i hi => by
        rw [f2 i (fun y => hi (by rw [y]; decide)), ux_i _ _ _ (fun y => hi (by rw [y]; decide)), hN.2 i (fun y => hi (by rw [y]; decide)), ux_i _ _ _ (fun y => hi (by rw [y]; decide))]
      have nC : ∀ k, k ∉ [1, 2, 280, 281] → M7 k = C k := fun k hk => by
        rw [e7, e6]; funext i
        rw [ux_c _ _ _ _ (fun y => hk (by rw [y]; decide))]
        unfold jcp
        rw [if_neg (fun y => hk (by rw [y.1]; decide)), hF.1 k (fun y => hk (by rw [y]; decide)) (fun y => hk (by rw [y]; decide))]
      have nC1 : ∀ i, i ≠ 1 → M7 1 i = C 1 i := fun i hi => by
        rw [e7, ux_i _ _ _ hi, e6]; unfold jcp; rw [if_neg (by omega), hF.1 1 (by decide) (by decide)]
      have nC2 : ∀ i, i ≠ 2 → M7 280 i = C 280 i := fun i hi => by
        rw [e7, ux_c _ _ _ _ (by decide), e6]; unfold jcp; rw [if_neg (by omega), hF.2 i hi]
      refine ⟨rfl, by rw [f2 0 (by decide), ux_s], RD_tp h' ⟨?_, ?_, ?_, fun i i0 i1 => ?_, ?_⟩ f5 (by rw [nR 2 (by decide)]; exact hr2) (fun k a b => nC k (by simp only [List.mem_cons, List.not_mem_nil, or_false]; omega)) (by rw [nC 0 (by decide)]) (fun k a b => nR k (by simp only [List.mem_cons, List.not_mem_nil, or_false]; omega)) (fun i hi => nR0 i (by simp only [List.mem_cons, List.not_mem_nil, or_false] at hi ⊢; omega)), ⟨nC, nC1, nC2⟩, nR, nR0⟩
      · rw [e7, ux_s, f3]; rfl
      · rw [e7, ux_s]; exact Int.natCast_nonneg _
      · rw [e7, ux_s]; show ((eA C (cs p)).length : Int) ≤ 4000; omega
      · rw [e7, ux_s] at i1
        have i1' : i < ((eA C (cs p)).length : Int) := i1
        have hi : i.toNat < (eA C (cs p)).length := by omega
        have a1 := hBc.2 i.toNat hi (by omega)
        have a2 := f4 i.toNat hi
        rw [show ((i.toNat : Nat) : Int) = i from by omega] at a1 a2
        rw [a2, e7, ux_c _ _ _ _ (by decide), e6]
        unfold jcp
        rw [if_pos ⟨rfl, by omega, by show i < 0 + ((eA C (cs p)).length : Int); omega⟩, show (0 : Int) + (i - 0) = i from by omega]
        exact a1
      · rw [nC 3 (by decide), nR 2 (by decide)]; exact hT.2.2.2.2
    · have lx : (eB C (cs p) ++ ck4 x).length = (eB C (cs p)).length + 4 := by rw [List.length_append]; rfl
      obtain ⟨y1, y2⟩ := Fbs hF
      refine ref _ (fun N hN hBr hl => by omega) (fun N hN hl => ⟨Or.inr ⟨rfl, ux_s _ _ _ _⟩, ?_⟩)
      have nR : ∀ k, k ∉ [0, 1, 98] → (ux_ N 0 0 2) k = R k := fun k hk => by
        funext i
        rw [ux_c _ _ _ _ (fun y => hk (by rw [y]; decide)), hN.1 k (fun y => hk (by rw [y]; decide)) (fun y => hk (by rw [y]; decide)), ux_c _ _ _ _ (fun y => hk (by rw [y]; decide))]
      have nR1 : (ux_ N 0 0 2) 1 = R 1 := by funext i; rw [ux_c _ _ _ _ (by decide), hN.1 1 (by decide) (by decide), ux_c _ _ _ _ (by decide)]
      have nR0 : ∀ i, i ∉ ([0, 141] : List Int) → (ux_ N 0 0 2) 0 i = R 0 i := fun i hi => by
        rw [ux_i _ _ _ (fun y => hi (by rw [y]; decide)), hN.2 i (fun y => hi (by rw [y]; decide)), ux_i _ _ _ (fun y => hi (by rw [y]; decide))]
      refine ⟨RD_tp y1 ?_ (by rw [nR1]; exact hr1) (by rw [nR 2 (by decide)]; exact hr2) (fun _ _ _ => rfl) rfl (fun k a b => nR k (by simp only [List.mem_cons, List.not_mem_nil, or_false]; omega)) (fun i hi => nR0 i (by simp only [List.mem_cons, List.not_mem_nil, or_false] at hi ⊢; omega)), y2, nR, fun i hi => nR0 i (fun y => hi (by simp only [List.mem_cons, List.not_mem_nil, or_false] at y ⊢; omega))⟩
      have t := y1.1.1.1
      unfold Rtape at t ⊢
      rw [nR0 3 (by decide), nR1, nR 2 (by decide)]
      exact t
  · unfold w_X12_bytes
    refine p_R_isPic (fun a b => absurd ⟨a, b⟩ hn) (fun _ _ => ⟨fun _ => ?_, fun y => absurd rfl y⟩)
    unfold w_X12_bytes_b14
    intro M1 e1 v2 e2 _
    rw [e1, ux_s] at e2
    refine ⟨fun y => by omega, fun _ => ?_⟩
    rw [e1]
    exact ⟨Or.inl ⟨rfl, ux_s _ _ _ _⟩, RD_00 h' 1, ⟨fun _ _ => rfl, fun _ _ => rfl, fun _ _ => rfl⟩, fun k hk => funext fun i => ux_c _ _ _ _ (fun y => hk (by rw [y]; decide)), fun i hi => ux_i _ _ _ (fun y => hi (by rw [y]; decide))⟩
