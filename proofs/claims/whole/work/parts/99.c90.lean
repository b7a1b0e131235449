/-! rules, facts, isFact on both sides -/
def FUc (C C' : MM) : Prop := (∀ q, q ∉ [0, 1, 4, 5, 6] → q < 261 ∨ 279 < q → C' q = C q) ∧ (∀ i, i ∉ ([16, 17] : List Int) → C' 0 i = C 0 i) ∧ (∀ i, i ∉ ([4, 8, 9, 10, 11] : List Int) → C' 1 i = C 1 i) ∧ C' 261 1 = C 261 1 ∧ C' 261 2 = C 261 2
def FUr (R R' : MM) : Prop := (∀ k, k ≠ 0 → k ≠ 61 → k < 80 ∨ 96 < k → R' k = R k) ∧ ∀ i, i ∉ ([0, 78, 79, 80, 81, 82, 83, 84, 85, 91, 92, 93, 94, 97, 133, 134, 135, 136, 137, 138] : List Int) → R' 0 i = R 0 i
theorem t_rules {C R : MM} {p : Int} (h : RD C R) (hK : Kd R) (n1 : nr (C 261 1) 2877) (n2 : nr (C 261 2) 12184058) (hN : KWn C) (hU : Rru C R) : w_X11_rules (fun r C' => w_X12_rules (fun r' R' => r = r' ∧ R' 0 0 = 0 ∧ RD C' R' ∧ Rft C' R' ∧ Rru C' R' ∧ FUc C C' ∧ FUr R R') p R) (fun E C' => w_X12_rules (fun r' R' => (E = "java/lang/IndexOutOfBoundsException" ∧ C' = C ∧ R' = ux_ R 0 0 1) ∨ (E = "java/lang/IllegalStateException" ∧ C' = C ∧ R' = ux_ R 0 0 2) ∨ (E = "java/lang/IllegalArgumentException" ∧ R' 0 0 = 3 ∧ RD C' R' ∧ Rft C' R' ∧ Rru C' R' ∧ FUc C C' ∧ FUr R R')) p R) p C := by
  unfold w_X11_rules w_X11_needPicture
  have b29n : ∀ (Q : Int → MM → Prop) (x : Int), 0 < x → Q 0 (ux_ R 0 0 x) → w_X12_rules_b29 Q p x R := fun Q x hx hq => by
    unfold w_X12_rules_b29
    intro M1 e1 v2 e2 _
    refine ⟨fun y => ?_, fun _ => by rw [e1]; exact hq⟩
    rw [e2, e1, ux_s] at y; omega
  refine p_isPic (fun p0 p4 _ => ⟨fun _ => ?_, fun y => absurd y (by decide)⟩) (fun hn _ => ⟨fun y => absurd rfl y, fun _ => ?_⟩)
  rotate_left
  · unfold w_X12_rules
    exact p_R_isPic (fun a b => absurd ⟨a, b⟩ hn) (fun _ _ => ⟨fun _ => b29n _ 1 (by decide) (Or.inl ⟨rfl, rfl, rfl⟩), fun y => absurd rfl y⟩)
  obtain ⟨cs, hcs, -, -, hisP, -⟩ := h.2.2
  obtain ⟨hc, hpic⟩ := hcs p p0 p4
  have hip := hisP p p0 (by omega)
  obtain ⟨c, ec⟩ : ∃ c, c = cs p := ⟨_, rfl⟩
  rw [← ec] at hc hpic hip
  have cb : 46 ≤ c ∧ c ≤ 178 := by unfold isP at hip; omega
  have h38 : C c 0 = R 38 p := hpic.2.1.1
  refine ⟨p0, p4, c, hc, hip, fun v3 e3 _ => ⟨fun z => ?_, fun z => ?_⟩⟩
  rotate_left
  · unfold w_X12_rules
    refine p_R_isPic (fun _ _ _ => ⟨fun y => absurd y (by decide), fun _ => ⟨p0, by omega, fun v4 e4 _ => ⟨fun y => by omega, fun _ => b29n _ 2 (by decide) (Or.inr (Or.inl ⟨rfl, rfl, rfl⟩))⟩⟩⟩) (fun hn => absurd ⟨p0, p4⟩ hn)
  have n40 : C c 0 ≤ 40 := by omega
  have refS : ∀ Q : Int → MM → Prop, w_X12_rules_b29 Q p 0 R → w_X12_rules Q p R := fun Q hq => by
    unfold w_X12_rules
    exact p_R_isPic (fun _ _ _ => ⟨fun y => absurd y (by decide), fun _ => ⟨p0, by omega, fun v4 e4 _ => ⟨fun _ => hq, fun y => by omega⟩⟩⟩) (fun hn => absurd ⟨p0, p4⟩ hn)
  -- behind the reading, in the class
  have base : ∀ C1 D (a b : Int), FRlc C C1 → D = ux_ (ux_ C1 0 16 a) 0 17 b → RD D R ∧ (∀ q, q ∉ [0, 1, 4, 5, 6] → q < 261 ∨ 273 < q → D q = C q) ∧ (∀ i, i ∉ ([16, 17] : List Int) → D 0 i = C 0 i) ∧ (∀ i, i ∉ ([4, 8, 9, 10, 11] : List Int) → D 1 i = C 1 i) ∧ D 261 1 = C 261 1 ∧ D 261 2 = C 261 2 ∧ (∀ q, q ≠ 0 → D q = C1 q) ∧ D 0 16 = a ∧ D 0 17 = b := fun C1 D a b f e => by
    have g : ∀ q, q ≠ 0 → D q = C1 q := fun q hq => by rw [e, ux_g _ _ _ hq, ux_g _ _ _ hq]
    have f1 : ∀ q, q ∉ [0, 1, 4, 5, 6] → q < 261 ∨ 273 < q → D q = C q := fun q x y => by
      simp only [List.mem_cons, List.not_mem_nil, or_false, not_or] at x
      rw [g q (by omega)]
      exact f.1 q (by simp only [List.mem_cons, List.not_mem_nil, or_false, not_or]; omega) y
    have f0 : ∀ i, i ∉ ([16, 17] : List Int) → D 0 i = C 0 i := fun i x => by
      simp only [List.mem_cons, List.not_mem_nil, or_false, not_or] at x
      rw [e, ux_i _ _ _ x.2, ux_i _ _ _ x.1, f.1 0 (by decide) (by omega)]
    have ff : ∀ i, i ∉ ([4, 8, 9, 10, 11] : List Int) → D 1 i = C 1 i := fun i x => by rw [g 1 (by decide)]; exact f.2.1 i x
    refine ⟨RD_rd h (fun k x y => f1 k (by simp only [List.mem_cons, List.not_mem_nil, or_false, not_or]; omega) (by omega)) (f1 2 (by decide) (by omega)) (f1 3 (by decide) (by omega)) (f0 5 (by decide)) (ff 1 (by decide)), f1, f0, ff, by rw [g 261 (by decide)]; exact f.2.2.1, by rw [g 261 (by decide)]; exact f.2.2.2, g, by rw [e, ux_i _ _ _ (by decide), ux_s], by rw [e, ux_s]⟩
  have tR : ∀ C' R', RD C' R → FUr R R' → RD C' R' := fun C' R' hd f => RD_lg hd (fun _ _ => rfl) (fun k a b => f.1 k a (by omega) (by omega)) (fun i hi => f.2 i (by simp only [List.mem_cons, List.not_mem_nil, or_false] at hi ⊢; omega))
  refine rlr_spec h hK n1 n2 hN (fun A oA ref C1 rc _ v7 e7 _ v8 e8 _ => ?_) (fun f pl f0 ref C1 rf c3 c16 c19 c20 _ v7 e7 _ v8 e8 _ => ?_)
  · -- read
    rw [rc.2.2.2.2.1] at e7
    rw [rc.2.2.2.2.2] at e8
    rw [e7, e8]
    unfold w_X11_tellFault w_X11_tellFault_b15
    refine fun M1 em1 => ⟨fun y => absurd rfl y, fun _ D eD => ⟨fun _ => ?_, fun y => absurd y (by decide)⟩⟩
    rw [em1] at eD
    obtain ⟨hD, d1, d0, d11, da, db, dg, d16, d17⟩ := base C1 D 0 (-1) rc.1 eD
    have dc : D c = C c := d1 c (by simp only [List.mem_cons, List.not_mem_nil, or_false, not_or]; omega) (by omega)
    have d45 : D 45 p = (c : Int) := by rw [d1 45 (by decide) (by omega)]; exact hc
    obtain ⟨cs', hcs', -⟩ := hD.2.2
    obtain ⟨hc', hpic'⟩ := hcs' p p0 p4
    have ec' : cs' p = c := by rw [d45] at hc'; omega
    rw [ec'] at hpic'
    have hY : Rty D R := hD.1.1.2.2.2.2
    have hw : PW D c := hpic'.1
    have nD : D c 0 ≤ 40 := by rw [dc]; exact n40
    refine ⟨p0, p4, c, d45, hip, p_work hY hw hip nD oA (fun q a b => by rw [dg q (by omega)]; exact rc.2.1 q a (by omega)) (by rw [dg 261 (by decide)]; exact rc.2.2.1) (fun C' K fK hF hL => ?_)⟩
    have c16 : C' 261 16 = A 261 16 := by rw [fK 261 (by omega), dg 261 (by decide)]; exact rc.2.2.2.1
    refine p_totC (K := K) hF.2.1 hw.1 nD (by rw [c16]; exact oA.1) (by rw [c16]; exact oA.2.1) (fun k a x1 x2 x3 x4 => (hF.2.2.2.1.1 k a x1 x2 x3 x4).1) ?_
    refine refS _ (ref _ p (fun R' hR' => ?_))
    obtain ⟨r1, r2, r3, r4, r5, r6, r7⟩ := hR'
    have hY' : Rty D R' := Rty_R hY (fun k _ _ _ => r1.1 k (by omega) (by omega)) (r1.2 20 (by decide))
    have hb' : Rpb D R' c p := Rpb_e hpic'.2.1 (fun k _ _ => r1.1 k (by omega) (by omega))
    refine p_b94 hw p0 (by omega) oA nD hY' hb' r4 r2 r3 r5 (fun R1 R2 f2 z00 z94 z95 oj hL' => ?_)
    have h133 : R2 0 133 = A 261 16 := by rw [f2.2 133 (by decide)]; exact r2
    obtain ⟨u1, u2⟩ := ru_of oA hw.1 nD hF.2.1 c16 (by rw [fK 273 (by omega), dg 273 (by decide)]; exact rc.2.1 273 (by decide) (by decide)) h133 (by rw [f2.1 83 (by decide) (by decide) (by omega)]; exact r4) hF.2.2.2.1 (fun k a b => LstK_u hL hL' k a b) z94 z95 oj
    refine p_totR (by rw [h133]; exact oA.1) (by rw [h133]; exact oA.2.1) ?_
    have fr : FUr R R2 := ⟨fun k a b d => by rw [f2.1 k a b (by omega)]; exact r1.1 k a (by omega), fun i hi => by
      simp only [List.mem_cons, List.not_mem_nil, or_false, not_or] at hi
      rw [f2.2 i (by simp only [List.mem_cons, List.not_mem_nil, or_false, not_or]; omega)]
      exact r1.2 i (by simp only [List.mem_cons, List.not_mem_nil, or_false, not_or]; omega)⟩
    have hC' : RD C' R := RD_rd hD (fun k x y => fK k (by omega)) (fK 2 (by omega)) (fK 3 (by omega)) (by rw [fK 0 (by omega)]) (by rw [fK 1 (by omega)])
    refine ⟨by rw [u2], z00, tR C' R2 hC' fr, ⟨by rw [fK 0 (by omega), d16, f2.2 81 (by decide)]; exact r6.symm, by rw [fK 0 (by omega), d17, f2.2 82 (by decide)]; exact r7.symm⟩, u1, ⟨fun q x y => ?_, fun i hi => by rw [fK 0 (by omega)]; exact d0 i hi, fun i hi => by rw [fK 1 (by omega)]; exact d11 i hi, by rw [fK 261 (by omega)]; exact da, by rw [fK 261 (by omega)]; exact db⟩, fr⟩
    rw [fK q (by omega)]
    exact d1 q x (by omega)
  · -- a fault
    rw [c19] at e7
    rw [c20] at e8
    rw [e7, e8]
    unfold w_X11_tellFault w_X11_tellFault_b15
    refine fun M1 em1 => ⟨fun _ D eD => ⟨fun y => absurd rfl y, fun _ => ?_⟩, fun y => by omega⟩
    rw [em1] at eD
    obtain ⟨hD, d1, d0, d11, da, db, dg, d16, d17⟩ := base C1 D f pl rf eD
    refine refS _ (ref _ p (fun R' fr e81 e82 => ?_))
    unfold w_X12_rules_b94
    intro N1 g1 v2 g2 _
    refine ⟨fun y => ?_, fun _ N7 g7 => Or.inr (Or.inr ?_)⟩
    · rw [g2, g1, ux_s] at y; omega
    have gk : ∀ k, k ≠ 0 → N7 k = R' k := fun k a => by rw [g7, ux_g _ _ _ a, g1, ux_g _ _ _ a]
    have gi : ∀ i, i ≠ 0 → i ≠ 133 → N7 0 i = R' 0 i := fun i a b => by rw [g7, ux_i _ _ _ b, g1, ux_i _ _ _ a]
    have z133 : N7 0 133 = 0 := by rw [g7, ux_s]
    have fU : FUr R N7 := ⟨fun k a b d => by rw [gk k a]; exact fr.1 k a (by omega), fun i hi => by
      simp only [List.mem_cons, List.not_mem_nil, or_false, not_or] at hi
      rw [gi i (by omega) (by omega)]
      exact fr.2 i (by simp only [List.mem_cons, List.not_mem_nil, or_false, not_or]; omega)⟩
    have D16 : D 261 16 = 0 := by rw [dg 261 (by decide)]; exact c16
    have D274 : D 274 = C 274 := d1 274 (by decide) (by omega)
    refine ⟨rfl, by rw [g7, ux_i _ _ _ (by decide), g1, ux_s], tR D N7 hD fU, ⟨by rw [d16, gi 81 (by decide) (by decide), e81], by rw [d17, gi 82 (by decide) (by decide), e82]⟩, ⟨by rw [D16, z133], by omega, by omega, by rw [D274]; exact hU.2.2.2.1, by rw [D274]; exact hU.2.2.2.2.1, fun k a b => by omega⟩, ⟨fun q x y => d1 q x (by omega), d0, d11, da, db⟩, fU⟩
theorem t_facts {C R : MM} {k : Int} (h : Rru C R) : w_X11_facts (fun r C' => C' = C ∧ w_X12_facts (fun r' R' => r = r' ∧ R' = ux_ R 0 0 0) k R) k C := by
  obtain ⟨h1, h2, h3, h4, h5, h6⟩ := h
  unfold w_X11_facts
  have out : ¬ (0 ≤ k ∧ k < C 261 16) → C = C ∧ w_X12_facts (fun r' R' => (-1 : Int) = r' ∧ R' = ux_ R 0 0 0) k R := fun hn => by
    refine ⟨rfl, ?_⟩
    unfold w_X12_facts
    intro M1 e1
    refine ⟨fun _ => ⟨rfl, e1⟩, fun z v3 e3 _ => ⟨fun _ => ⟨rfl, e1⟩, fun y => ?_⟩⟩
    rw [e1, ux_i _ _ _ (by decide), ← h1] at e3
    exact absurd ⟨by omega, by omega⟩ hn
  refine ⟨fun z => out (by omega), fun z v2 e2 _ => ⟨fun y => out (by omega), fun y => ?_⟩⟩
  have k1 : k < C 261 16 := by omega
  obtain ⟨g1, g2, g3, g4, g5⟩ := h6 k (by omega) k1
  refine p_cntC (K := fun _ a x => x < 40 ∧ FcR R k a x) (by omega) (by omega) rfl h4 h5 (fun a a0 a1 => g3 a a0 a1) (fun _ => ⟨rfl, ?_⟩)
  unfold w_X12_facts
  intro M1 e1
  refine ⟨fun y' => absurd y' z, fun _ v3 e3 _ => ⟨fun y' => ?_, fun _ => ?_⟩⟩
  · rw [e1, ux_i _ _ _ (by decide), ← h1] at e3; omega
  refine p_cntR (by omega) (by omega) (fun _ => ⟨?_, e1⟩)
  have ef : FcR M1 = FcR R := by unfold FcR; rw [e1, ux_g _ _ _ (by decide), ux_g _ _ _ (by decide), ux_g _ _ _ (by decide)]
  rw [ef]
  have e2' : cnK (fun _ a x => x < 40 ∧ FcR R k a x) k 40 = cnK (FcR R) k 40 := cnK_e2 (fun t j a b => ⟨fun q => q.2, fun q => ⟨by omega, q⟩⟩)
  rw [← e2']
  have e1' : cnK (fun _ a x => x < 40 ∧ FcR R k a x) k ((C 274 1).toNat + (40 - (C 274 1).toNat)) = cnK (fun _ a x => a < 40 ∧ x < 40 ∧ FcR R k a x) k ((C 274 1).toNat + (40 - (C 274 1).toNat)) := cnK_e2 (fun t j a b => ⟨fun q => ⟨by omega, q⟩, fun q => q.2⟩)
  have e3' := cnK_40 (K := fun _ a x => a < 40 ∧ x < 40 ∧ FcR R k a x) (k := k) (n := (C 274 1).toNat) (fun t j w q => by have := (g4 t j (by omega) q.1 (by omega) q.2.1 q.2.2).1; omega) (40 - (C 274 1).toNat)
  have e4' : cnK (fun _ a x => x < 40 ∧ FcR R k a x) k (C 274 1).toNat = cnK (fun _ a x => a < 40 ∧ x < 40 ∧ FcR R k a x) k (C 274 1).toNat := cnK_e2 (fun t j a b => ⟨fun q => ⟨by omega, q⟩, fun q => q.2⟩)
  rw [e4', ← e3', ← e1', show (C 274 1).toNat + (40 - (C 274 1).toNat) = 40 from by omega]
theorem t_isFact {C R : MM} {k a b : Int} (h : Rru C R) : w_X11_isFact (fun r C' => C' = C ∧ w_X12_isFact (fun r' R' => r = r' ∧ R' = ux_ R 0 0 0) k a b R) (fun E C' => E = "java/util/NoSuchElementException" ∧ C' = C ∧ w_X12_isFact (fun r' R' => R' = ux_ R 0 0 1) k a b R) k a b C := by
  obtain ⟨h1, h2, h3, h4, h5, h6⟩ := h
  unfold w_X11_isFact
  have out : ¬ (0 ≤ k ∧ k < C 261 16) → w_X11_isFact_b15 (fun r C' => C' = C ∧ w_X12_isFact (fun r' R' => r = r' ∧ R' = ux_ R 0 0 0) k a b R) (fun E C' => E = "java/util/NoSuchElementException" ∧ C' = C ∧ w_X12_isFact (fun r' R' => R' = ux_ R 0 0 1) k a b R) C := fun hn => by
    unfold w_X11_isFact_b15
    refine ⟨rfl, rfl, ?_⟩
    unfold w_X12_isFact
    have b13 : w_X12_isFact_b13 (fun r' R' => R' = ux_ R 0 0 1) k a b R := by
      unfold w_X12_isFact_b13 w_X12_isFact_b18
      intro M1 e1 v2 e2 _
      refine ⟨fun y => ?_, fun _ => e1⟩
      rw [e2, e1, ux_s] at y; omega
    refine ⟨fun _ => b13, fun z v2 e2 _ => ⟨fun y => absurd ⟨by omega, by omega⟩ hn, fun _ => b13⟩⟩
  refine ⟨fun z => out (by omega), fun z v2 e2 _ => ⟨fun y => ⟨by omega, by omega, fun v4 e4 _ => ?_⟩, fun y => out (by omega)⟩⟩
  have k0 : 0 ≤ k := by omega
  have k1 : k < C 261 16 := by omega
  obtain ⟨g1, g2, g3, g4, g5⟩ := h6 k k0 k1
  -- the reference
  have ref : ∀ (r : Int), (r = 0 ∨ r = 1) → (r = 1 ↔ 0 ≤ a ∧ a < 40 ∧ (R 83 k = 1 ∧ R 94 (40 * k + a) = 1 ∨ R 83 k = 2 ∧ 0 ≤ b ∧ b < 40 ∧ R 95 (1600 * k + 40 * a + b) = 1)) → w_X12_isFact (fun r' R' => r = r' ∧ R' = ux_ R 0 0 0) k a b R := fun r r01 hr => by
    unfold w_X12_isFact
    refine ⟨fun y => absurd y z, fun _ w2 ew2 _ => ⟨fun _ => ?_, fun y => by omega⟩⟩
    unfold w_X12_isFact_b18
    intro M1 e1 w3 ew3 _
    have o : ∀ q, q ≠ 0 → M1 q = R q := fun q hq => by rw [e1, ux_g _ _ _ hq]
    refine ⟨fun _ => ?_, fun y => absurd (by rw [ew3, e1, ux_s]; decide) y⟩
    have no : ¬ (r = 1) → w_X12_isFact_b64 (fun r' R' => r = r' ∧ R' = ux_ R 0 0 0) k a b M1 := fun q => by
      unfold w_X12_isFact_b64 w_X12_isFact_b65
      exact ⟨fun _ => ⟨by omega, e1⟩, fun y => absurd rfl y⟩
    have yes : 0 ≤ a → a < 40 → (R 83 k = 1 ∨ R 83 k ≠ 1 ∧ 0 ≤ b ∧ b < 40) → w_X12_isFact_b60 (fun r' R' => r = r' ∧ R' = ux_ R 0 0 0) k a b M1 := fun a0 a1 hb => by
      unfold w_X12_isFact_b60 w_X12_isFact_b65
      refine ⟨fun y => absurd y (by decide), fun _ => ?_⟩
      unfold w_X12_isFactNow
      refine ⟨k0, by omega, fun w1 ew1 _ => ?_⟩
      rw [o 83 (by decide)] at ew1
      refine ⟨fun y => ⟨by unfold ri_; omega, by unfold ri_; omega, by omega, by omega, fun w5 ew5 o5 _ => ?_⟩, fun y => ⟨by unfold ri_; omega, by unfold ri_; omega, by unfold ri_; omega, by unfold ri_; omega, by omega, by omega, fun w10 ew10 o10 _ => ?_⟩⟩
      · rw [o 94 (by decide)] at ew5
        refine ⟨fun y5 => ⟨?_, e1⟩, fun y5 => ⟨?_, e1⟩⟩
        · have : r ≠ 1 := fun q => by
            rcases (hr.mp q).2.2 with u | u
            · omega
            · omega
          omega
        · rcases g2 with u | u | u
          · exact absurd (by omega) (g5 u a a0 a1)
          · exact hr.mpr ⟨a0, a1, Or.inl ⟨u, by omega⟩⟩
          · omega
      · rw [o 95 (by decide)] at ew10
        refine ⟨fun y5 => ⟨?_, e1⟩, fun y5 => ⟨?_, e1⟩⟩
        · have : r ≠ 1 := fun q => by
            rcases (hr.mp q).2.2 with u | u
            · omega
            · omega
          omega
        · exact hr.mpr ⟨a0, a1, Or.inr ⟨by omega, by omega, by omega, by omega⟩⟩
    refine ⟨fun y => no (fun q => by have := (hr.mp q).1; omega), fun y => ⟨fun y' => no (fun q => by have := (hr.mp q).2.1; omega), fun y' => ⟨k0, by omega, fun w6 ew6 _ => ?_⟩⟩⟩
    rw [o 83 (by decide)] at ew6
    refine ⟨fun u => yes (by omega) (by omega) (Or.inl (by omega)), fun u => ⟨fun y2 => no (fun q => ?_), fun y2 => ⟨fun y3 => no (fun q => ?_), fun y3 => yes (by omega) (by omega) (Or.inr ⟨by omega, by omega, by omega⟩)⟩⟩⟩
    · rcases (hr.mp q).2.2 with w | w <;> omega
    · rcases (hr.mp q).2.2 with w | w <;> omega
  -- the class
  have cl : ∀ s : Int, (R 83 k = 1 ∧ s = a ∨ R 83 k ≠ 1 ∧ s = b) → w_X11_isFact_b47 (fun r C' => C' = C ∧ w_X12_isFact (fun r' R' => r = r' ∧ R' = ux_ R 0 0 0) k a b R) (fun E C' => E = "java/util/NoSuchElementException" ∧ C' = C ∧ w_X12_isFact (fun r' R' => R' = ux_ R 0 0 1) k a b R) s a k C := fun s hs => by
    have fc : 0 ≤ a → a < 40 → 0 ≤ s → s < 40 → (FcR R k a s ↔ (R 83 k = 1 ∧ R 94 (40 * k + a) = 1 ∨ R 83 k = 2 ∧ 0 ≤ b ∧ b < 40 ∧ R 95 (1600 * k + 40 * a + b) = 1)) := fun _ _ s0 s1 => by
      unfold FcR
      constructor
      · rintro (⟨u1, u2, u3⟩ | ⟨u1, u2⟩)
        · exact Or.inl ⟨u1, u3⟩
        · have e : s = b := by omega
          rw [e] at u2 s0 s1
          exact Or.inr ⟨u1, s0, s1, u2⟩
      · rintro (⟨u1, u2⟩ | ⟨u1, u2, u3, u4⟩)
        · exact Or.inl ⟨u1, by omega, u2⟩
        · have e : s = b := by omega
          rw [e]; exact Or.inr ⟨u1, u4⟩
    have no : ¬ (0 ≤ a ∧ a < C 274 1 ∧ 0 ≤ s ∧ s < C 274 1 ∧ FcR R k a s) → ((0 : Int) = 0 ∨ (0 : Int) = 1) → C = C ∧ w_X12_isFact (fun r' R' => (0 : Int) = r' ∧ R' = ux_ R 0 0 0) k a b R := fun hn _ => ⟨rfl, ref 0 (Or.inl rfl) ⟨fun y => absurd y (by decide), fun ⟨y1, y2, y3⟩ => by
      exfalso
      have s40 : 0 ≤ s ∧ s < 40 := by rcases y3 with u | u <;> omega
      have q := (fc y1 y2 s40.1 s40.2).mpr y3
      have l := g4 a s y1 y2 s40.1 s40.2 q
      exact hn ⟨y1, l.1, s40.1, l.2, q⟩⟩⟩
    unfold w_X11_isFact_b47 w_X1_has
    refine ⟨fun y => no (by omega), fun y w2 ew2 _ => ⟨fun y2 => no (by omega), fun y2 => ⟨fun y3 => no (by omega), fun y3 w5 ew5 _ => ⟨fun y5 => no (by omega), fun y5 => ⟨by unfold ri_; omega, by unfold ri_; omega, by omega, by omega, fun w9 ew9 _ => ?_⟩⟩⟩⟩⟩
    have hb := BS_bit (g3 a (by omega) (by omega)) (k := s) (by omega) (by omega)
    rw [ew9]
    refine ⟨fun y9 => no (fun u => hb.mp y9 ⟨by omega, u.2.2.2.2⟩), fun y9 _ => ⟨rfl, ref 1 (Or.inr rfl) ⟨fun _ => ?_, fun _ => rfl⟩⟩⟩
    have q : s < 40 ∧ FcR R k a s := Classical.not_not.mp (fun u => y9 (hb.mpr u))
    exact ⟨by omega, by omega, (fc (by omega) (by omega) (by omega) q.1).mp q.2⟩
  rw [g1] at e4
  rw [e4]
  exact ⟨fun y => cl b (Or.inr ⟨y, rfl⟩), fun y => cl a (Or.inl ⟨y, rfl⟩)⟩
