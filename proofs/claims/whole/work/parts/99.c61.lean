/-! rules are read: words and names, the reference -/
theorem scw_q {M : MM} {a e W q D : Int} (h : scw M a e W q D) : scw M q e W q D := ⟨⟨Int.le_refl _, h.1.2.1, fun i x y => by omega, h.1.2.2.2⟩, h.2⟩
theorem q_adv {C0 R0 A R : MM} {E : Nat → Int} {L k : Nat} (hT : TX C0 R0 E L) (h : KRq C0 R0 E k A R) (hk : k ≤ L) (hw : C0 4 k ≠ 0) {Q : Int → MM → Prop} (hq : ∀ R', KRq C0 R0 E (k + 1) A R' → FA R R' → k + 1 ≤ L → Q 0 R') : w_X12_advance Q R := by
  have k1 := TX_lt hT hk hw
  obtain ⟨t1, t2, t3, t4, t5, t6⟩ := hT
  obtain ⟨s1, s2, s3⟩ := t1.2.2.2.2 (k + 1) k1
  obtain ⟨hF, hW, h83, hU⟩ := h
  refine p_adv (C := C0) (by rw [hF.2 3 (by decide)]; exact t2) t3 (fun i a c => by rw [hF.1 1 (by decide) (by omega)]; exact t4 i a c) (fun i a c => by rw [hF.1 3 (by decide) (by omega)]; exact t5 i a c) hW.1 s1 s3 fun N' f1 f2 f3 f4 => hq N' ⟨QFr_A hF f1, ⟨f2, f3, f4⟩, by rw [f1.2 83 (by decide)]; exact h83, RUn_e hU (fun i hi => f1.2 i (by simp only [List.mem_cons, List.not_mem_nil, or_false] at hi ⊢; omega)) (fun q hq => f1.1 q (by omega))⟩ f1 k1
/-- the word with number k is read again -/
theorem q_back {C0 R0 A R : MM} {E : Nat → Int} {L k k' : Nat} (hT : TX C0 R0 E L) (h : KRq C0 R0 E k' A R) (hk : k ≤ L) (h78 : R 0 78 = C0 5 k) {Q : Int → MM → Prop} (hq : ∀ R', KRq C0 R0 E k A R' → FA R R' → Q 0 R') : w_X12_advance Q R := by
  obtain ⟨t1, t2, t3, t4, t5, t6⟩ := hT
  obtain ⟨s1, s2, s3⟩ := t1.2.2.2.2 k hk
  have s0 := (scw_adv s3).1
  obtain ⟨hF, hW, h83, hU⟩ := h
  refine p_adv (C := C0) (by rw [hF.2 3 (by decide)]; exact t2) t3 (fun i a c => by rw [hF.1 1 (by decide) (by omega)]; exact t4 i a c) (fun i a c => by rw [hF.1 3 (by decide) (by omega)]; exact t5 i a c) h78 (by omega) (scw_q s3) fun N' f1 f2 f3 f4 => hq N' ⟨QFr_A hF f1, ⟨f2, f3, f4⟩, by rw [f1.2 83 (by decide)]; exact h83, RUn_e hU (fun i hi => f1.2 i (by simp only [List.mem_cons, List.not_mem_nil, or_false] at hi ⊢; omega)) (fun q hq => f1.1 q (by omega))⟩ f1
theorem KRq_78 {C0 R0 A R : MM} {E : Nat → Int} {k : Nat} (h : KRq C0 R0 E k A R) (v : Int) : QFr R0 (ux_ R 0 78 v) ∧ ux_ R 0 78 v 0 83 = 0 ∧ RUn A (ux_ R 0 78 v) := ⟨QFr_0 h.1 _ (by decide), by rw [ux_i _ _ _ (by decide)]; exact h.2.2.1, RUn_e h.2.2.2 (fun i hi => ux_i _ _ _ (by simp only [List.mem_cons, List.not_mem_nil, or_false] at hi; omega)) (fun q hq => ux_g _ _ _ (by omega))⟩
theorem q_back' {C0 R0 A R : MM} {E : Nat → Int} {L k : Nat} (hT : TX C0 R0 E L) (hF : QFr R0 R) (h83 : R 0 83 = 0) (hU : RUn A R) (hk : k ≤ L) (h78 : R 0 78 = C0 5 k) {Q : Int → MM → Prop} (hq : ∀ R', KRq C0 R0 E k A R' → FA R R' → Q 0 R') : w_X12_advance Q R := by
  obtain ⟨t1, t2, t3, t4, t5, t6⟩ := hT
  obtain ⟨s1, s2, s3⟩ := t1.2.2.2.2 k hk
  have s0 := (scw_adv s3).1
  refine p_adv (C := C0) (by rw [hF.2 3 (by decide)]; exact t2) t3 (fun i a c => by rw [hF.1 1 (by decide) (by omega)]; exact t4 i a c) (fun i a c => by rw [hF.1 3 (by decide) (by omega)]; exact t5 i a c) h78 (by omega) (scw_q s3) fun N' f1 f2 f3 f4 => hq N' ⟨QFr_A hF f1, ⟨f2, f3, f4⟩, by rw [f1.2 83 (by decide)]; exact h83, RUn_e hU (fun i hi => f1.2 i (by simp only [List.mem_cons, List.not_mem_nil, or_false] at hi ⊢; omega)) (fun q hq => f1.1 q (by omega))⟩ f1
theorem q_fail {C0 R0 A R : MM} {E : Nat → Int} {k : Nat} (h : KRq C0 R0 E k A R) {f pl : Int} {Q : Int → MM → Prop} (hq : ∀ R', KRf R0 f pl R' → (∀ j, j ≠ 0 → R' j = R j) → Q 0 R') : w_X12_fail Q f pl R := by
  unfold w_X12_fail
  intro v1 e1 _
  refine ⟨fun _ M3 e3 M4 e4 => hq M4 ⟨by rw [e4, e3]; exact QFr_0 (QFr_0 h.1 _ (by decide)) _ (by decide), by rw [e4, ux_i _ _ _ (by decide), e3, ux_s], by rw [e4, ux_s], by rw [e4, ux_i _ _ _ (by decide), e3, ux_i _ _ _ (by decide), ← h.2.2.2.2.1.1]; exact h.2.2.2.2.1.2⟩ (fun j hj => by rw [e4, ux_g _ _ _ hj, e3, ux_g _ _ _ hj]), fun z => absurd (by rw [e1, h.2.2.1]; decide) z⟩
theorem q_wrong {C0 R0 A R : MM} {E : Nat → Int} {k : Nat} (h : KRq C0 R0 E k A R) {Q : Int → MM → Prop} (hq : ∀ R', KRf R0 (if C0 4 k = 1 then 2 else 1) (C0 5 k) R' → (∀ j, j ≠ 0 → R' j = R j) → Q 0 R') : w_X12_wrong Q R := by
  have hb := tk_bad h.2.1.2.2
  unfold w_X12_wrong w_X12_wrong_b14
  intro v1 e1 _
  refine ⟨fun z v2 e2 _ => q_fail h (fun R' k1 k2 => hq R' ?_ k2), fun z v2 e2 _ => q_fail h (fun R' k1 k2 => hq R' ?_ k2)⟩
  · rw [if_neg (fun y => z (by rw [e1]; exact hb.mpr y)), ← h.2.1.2.1, ← e2]; exact k1
  · rw [if_pos (hb.mp (by rw [← e1]; exact z)), ← h.2.1.2.1, ← e2]; exact k1
theorem q_need {C0 R0 A R : MM} {E : Nat → Int} {L k : Nat} (hT : TX C0 R0 E L) (h : KRq C0 R0 E k A R) (hk : k ≤ L) {x : Nat} (hx : x < 16) {y : Int} (hy : y = sgb x) {Q : Int → MM → Prop} (h1 : C0 4 k = 4 + x → ∀ R', KRq C0 R0 E (k + 1) A R' → FA R R' → k + 1 ≤ L → Q 0 R') (h0 : C0 4 k ≠ 4 + x → ∀ R', KRf R0 (if C0 4 k = 1 then 2 else 1) (C0 5 k) R' → (∀ j, j ≠ 0 → R' j = R j) → Q 0 R') : w_X12_needSign Q y R := by
  unfold w_X12_needSign
  intro v1 e1 _
  refine ⟨fun _ => r_isS h.2.1.2.2 hx (fun z _ => ⟨fun w => absurd w (by decide), fun _ => q_adv hT h hk (by omega) (h1 z)⟩) (fun z _ => ⟨fun _ => q_wrong h (h0 z), fun w => absurd rfl w⟩) hy, fun z => absurd (by rw [e1, h.2.2.1]; decide) z⟩
theorem q_needF {R0 R : MM} {f pl y : Int} (h : KRf R0 f pl R) (f0 : 0 < f) {Q : Int → MM → Prop} (h0 : Q 0 R) : w_X12_needSign Q y R := by
  unfold w_X12_needSign
  intro v1 e1 _
  exact ⟨fun z => absurd z (by rw [e1, h.2.1]; omega), fun _ => h0⟩
theorem q_takeF {R0 R : MM} {f pl y : Int} (h : KRf R0 f pl R) (f0 : 0 < f) {Q : Int → MM → Prop} (h0 : Q 0 R) : w_X12_takesSign Q y R := by
  unfold w_X12_takesSign w_X12_takesSign_b19 w_X12_takesSign_b20
  intro v1 e1 _
  exact ⟨fun _ => ⟨fun _ => ⟨Or.inl rfl, h0⟩, fun z => absurd rfl z⟩, fun z => absurd z (by rw [e1, h.2.1]; omega)⟩
theorem q_take {C0 R0 A R : MM} {E : Nat → Int} {L k : Nat} (hT : TX C0 R0 E L) (h : KRq C0 R0 E k A R) (hk : k ≤ L) {x : Nat} (hx : x < 16) {y : Int} (hy : y = sgb x) {Q : Int → MM → Prop} (h1 : C0 4 k = 4 + x → ∀ R', KRq C0 R0 E (k + 1) A R' → FA R R' → k + 1 ≤ L → Q 1 R') (h0 : C0 4 k ≠ 4 + x → Q 0 R) : w_X12_takesSign Q y R := by
  unfold w_X12_takesSign
  intro v1 e1 _
  refine ⟨fun z => absurd (by rw [e1]; exact h.2.2.1) z, fun _ => r_isS h.2.1.2.2 hx (fun z _ => ⟨fun w => absurd w (by decide), fun _ => ?_⟩) (fun z _ => ⟨fun _ => ?_, fun w => absurd rfl w⟩) hy⟩
  · unfold w_X12_takesSign_b20
    exact ⟨fun w => absurd w (by decide), fun _ => q_adv hT h hk (by omega) (fun R' a b c => ⟨Or.inr rfl, h1 z R' a b c⟩)⟩
  · unfold w_X12_takesSign_b19 w_X12_takesSign_b20
    exact ⟨fun _ => ⟨Or.inl rfl, h0 z⟩, fun w => absurd rfl w⟩
theorem cd_if {Q : Int → MM → Prop} {M : MM} (h : Q 2877 M) : w_X12_coded Q 26982 M := by
  have a : ∀ i : Fin 6, jland (jlshr 26982 (8 * ((i.val : Int) + 2))) 255 = 0 := by decide
  have b1 : jland (jlshr 26982 (8 * 1)) 255 = 105 := by decide
  have b0 : jland (jlshr 26982 (8 * 0)) 255 = 102 := by decide
  unfold w_X12_coded w_X12_coded_b6
  refine loop4 _ (fun (x0 x2 x4 : Int) N => x0 = 26982 ∧ M = N ∧ (2 ≤ x4 ∧ x4 ≤ 7 ∧ x2 = 0 ∨ x4 = 1 ∧ x2 = 0 ∨ x4 = 0 ∧ x2 = 45 ∨ x4 = -1 ∧ x2 = 2877)) (fun _ _ (x4 : Int) _ => (x4 + 1).toNat) ?_ _ _ _ _ ⟨rfl, rfl, Or.inl ⟨by omega, by omega, rfl⟩⟩
  rintro x0 x2 x4 N f ⟨rfl, rfl, hx⟩ ih
  unfold wb_X12_coded_b6
  refine ⟨fun z => by rw [show x2 = 2877 from by omega]; exact h, fun z => ?_⟩
  rcases hx with ⟨c1, c2, c3⟩ | ⟨rfl, rfl⟩ | ⟨rfl, rfl⟩ | ⟨rfl, -⟩
  · have := a ⟨(x4 - 2).toNat, by omega⟩
    simp only [show (((x4 - 2).toNat : Nat) : Int) + 2 = x4 from by omega] at this
    rw [this]
    refine ⟨by unfold ri_; omega, by unfold ri_; omega, fun w => absurd rfl w, fun _ => ?_⟩
    unfold w_X12_coded_b46
    refine ⟨by unfold ri_; omega, ih _ _ _ _ ⟨rfl, rfl, ?_⟩ (by omega)⟩
    by_cases y : x4 = 2
    · exact Or.inr (Or.inl ⟨by omega, c3⟩)
    · exact Or.inl ⟨by omega, by omega, c3⟩
  · rw [b1]
    refine ⟨by unfold ri_; omega, by unfold ri_; omega, fun _ => p_R_code (by omega) (fun _ => ?_), fun w => by omega⟩
    unfold w_X12_coded_b46
    exact ⟨by unfold ri_; omega, ih _ _ _ _ ⟨rfl, rfl, Or.inr (Or.inr (Or.inl ⟨by omega, by decide⟩))⟩ (by omega)⟩
  · rw [b0]
    refine ⟨by unfold ri_; omega, by unfold ri_; omega, fun _ => p_R_code (by omega) (fun _ => ?_), fun w => by omega⟩
    unfold w_X12_coded_b46
    exact ⟨by unfold ri_; omega, ih _ _ _ _ ⟨rfl, rfl, Or.inr (Or.inr (Or.inr ⟨by omega, by decide⟩))⟩ (by omega)⟩
  · omega
theorem cd_link {Q : Int → MM → Prop} {M : MM} (h : Q 12184058 M) : w_X12_coded Q 1818848875 M := by
  have a : ∀ i : Fin 4, jland (jlshr 1818848875 (8 * ((i.val : Int) + 4))) 255 = 0 := by decide
  have b3 : jland (jlshr 1818848875 (8 * 3)) 255 = 108 := by decide
  have b2 : jland (jlshr 1818848875 (8 * 2)) 255 = 105 := by decide
  have b1 : jland (jlshr 1818848875 (8 * 1)) 255 = 110 := by decide
  have b0 : jland (jlshr 1818848875 (8 * 0)) 255 = 107 := by decide
  unfold w_X12_coded w_X12_coded_b6
  refine loop4 _ (fun (x0 x2 x4 : Int) N => x0 = 1818848875 ∧ M = N ∧ (4 ≤ x4 ∧ x4 ≤ 7 ∧ x2 = 0 ∨ x4 = 3 ∧ x2 = 0 ∨ x4 = 2 ∧ x2 = 48 ∨ x4 = 1 ∧ x2 = 3069 ∨ x4 = 0 ∧ x2 = 193397 ∨ x4 = -1 ∧ x2 = 12184058)) (fun _ _ (x4 : Int) _ => (x4 + 1).toNat) ?_ _ _ _ _ ⟨rfl, rfl, Or.inl ⟨by omega, by omega, rfl⟩⟩
  rintro x0 x2 x4 N f ⟨rfl, rfl, hx⟩ ih
  unfold wb_X12_coded_b6
  refine ⟨fun z => by rw [show x2 = 12184058 from by omega]; exact h, fun z => ?_⟩
  rcases hx with ⟨c1, c2, c3⟩ | ⟨rfl, rfl⟩ | ⟨rfl, rfl⟩ | ⟨rfl, rfl⟩ | ⟨rfl, rfl⟩ | ⟨rfl, -⟩
  · have := a ⟨(x4 - 4).toNat, by omega⟩
    simp only [show (((x4 - 4).toNat : Nat) : Int) + 4 = x4 from by omega] at this
    rw [this]
    refine ⟨by unfold ri_; omega, by unfold ri_; omega, fun w => absurd rfl w, fun _ => ?_⟩
    unfold w_X12_coded_b46
    refine ⟨by unfold ri_; omega, ih _ _ _ _ ⟨rfl, rfl, ?_⟩ (by omega)⟩
    by_cases y : x4 = 4
    · exact Or.inr (Or.inl ⟨by omega, c3⟩)
    · exact Or.inl ⟨by omega, by omega, c3⟩
  · rw [b3]
    refine ⟨by unfold ri_; omega, by unfold ri_; omega, fun _ => p_R_code (by omega) (fun _ => ?_), fun w => by omega⟩
    unfold w_X12_coded_b46
    exact ⟨by unfold ri_; omega, ih _ _ _ _ ⟨rfl, rfl, Or.inr (Or.inr (Or.inl ⟨by omega, by decide⟩))⟩ (by omega)⟩
  · rw [b2]
    refine ⟨by unfold ri_; omega, by unfold ri_; omega, fun _ => p_R_code (by omega) (fun _ => ?_), fun w => by omega⟩
    unfold w_X12_coded_b46
    exact ⟨by unfold ri_; omega, ih _ _ _ _ ⟨rfl, rfl, Or.inr (Or.inr (Or.inr (Or.inl ⟨by omega, by decide⟩)))⟩ (by omega)⟩
  · rw [b1]
    refine ⟨by unfold ri_; omega, by unfold ri_; omega, fun _ => p_R_code (by omega) (fun _ => ?_), fun w => by omega⟩
    unfold w_X12_coded_b46
    exact ⟨by unfold ri_; omega, ih _ _ _ _ ⟨rfl, rfl, Or.inr (Or.inr (Or.inr (Or.inr (Or.inl ⟨by omega, by decide⟩))))⟩ (by omega)⟩
  · rw [b0]
    refine ⟨by unfold ri_; omega, by unfold ri_; omega, fun _ => p_R_code (by omega) (fun _ => ?_), fun w => by omega⟩
    unfold w_X12_coded_b46
    exact ⟨by unfold ri_; omega, ih _ _ _ _ ⟨rfl, rfl, Or.inr (Or.inr (Or.inr (Or.inr (Or.inr ⟨by omega, by decide⟩))))⟩ (by omega)⟩
  · omega
theorem q_plain {C0 R0 A R : MM} {E : Nat → Int} {k : Nat} (h : KRq C0 R0 E k A R) (hA : OKA C0 A) {Q : Int → MM → Prop} (h1 : PLN C0 k → Q 1 R) (h0 : ¬ PLN C0 k → Q 0 R) : w_X12_isRuleName Q R := by
  have n1 := hA.2.2.2.2.2.2.2.2.2.2.1
  have n2 := hA.2.2.2.2.2.2.2.2.2.2.2.1
  have ht := h.2.1.2.2
  unfold w_X12_isRuleName
  refine r_isN ht (fun z _ => ⟨fun w => absurd w (by decide), fun _ v4 e4 _ => cd_if (fun _ => ?_)⟩) (fun z _ => ⟨fun _ => h0 fun q => z q.1, fun w => absurd rfl w⟩)
  rw [z] at ht
  have hn := tk_nr ht
  rw [← e4] at hn
  refine ⟨fun y => h0 fun q => q.2.1 ((nr_eq hn n1).mpr y), fun y v8 e8 _ => cd_link (fun _ => ?_)⟩
  rw [show v8 = v4 from by rw [e8, e4]]
  exact ⟨fun x => h0 fun q => q.2.2 ((nr_eq hn n2).mpr x), fun x => h1 ⟨z, fun q => y ((nr_eq hn n1).mp q), fun q => x ((nr_eq hn n2).mp q)⟩⟩
