/-! rules worked out by the reference: links, and all rounds -/
theorem Rpb_e {D R R' : MM} {c : Nat} {p : Int} (h : Rpb D R c p) (e : ∀ k, 38 ≤ k → k ≤ 58 → R' k = R k) : Rpb D R' c p := by
  unfold Rpb at h ⊢
  rw [e 38 (by decide) (by decide), e 39 (by decide) (by decide), e 40 (by decide) (by decide), e 41 (by decide) (by decide), e 42 (by decide) (by decide), e 58 (by decide) (by decide), e 55 (by decide) (by decide), e 56 (by decide) (by decide), e 57 (by decide) (by decide)]
  exact h
def lkJ (D : MM) (c : Nat) (a b : Int) : Prop := ∃ j, 0 ≤ j ∧ j < pcn D c a ∧ lv D c a j = b
theorem p_fLk {D R : MM} {c : Nat} {p : Int} (hY : Rty D R) (hw : PW D c) (hb : Rpb D R c p) (p0 : 0 ≤ p) (p5 : p < 5) (n40 : D c 0 ≤ 40) {Q : Int → MM → Prop} (hq : ∀ R', (∀ k, k ≠ 61 → R' k = R k) → (∀ a b, 0 ≤ a → a < D c 0 → 0 ≤ b → b < D c 0 → (R' 61 (400 * a + b) = 1 ↔ lkJ D c a b)) → Q 0 R') : w_X12_findLinks Q p R := by
  have n0 := hw.1
  unfold w_X12_findLinks
  refine ⟨p0, p5, fun v1 e1 _ => ?_⟩
  rw [← hb.1] at e1
  unfold w_X12_findLinks_b9
  refine loop4 _ (fun (x1 x2 t : Int) M => p = x1 ∧ D c 0 = x2 ∧ 0 ≤ t ∧ t ≤ D c 0 ∧ (∀ k, k ≠ 61 → M k = R k) ∧ ∀ a b, 0 ≤ a → a < t → 0 ≤ b → b < D c 0 → (M 61 (400 * a + b) = 1 ↔ lkJ D c a b)) (fun _ _ t _ => (D c 0 - t).toNat) ?_ _ _ _ _ ⟨rfl, e1.symm, by omega, n0, fun _ _ => rfl, fun a b _ _ => by omega⟩
  rintro _ _ t M f ⟨rfl, rfl, t0, t1, oM, hM⟩ ih
  unfold wb_X12_findLinks_b9
  refine ⟨fun z => hq M oM (fun a b x1 x2 => hM a b x1 (by omega)), fun z => ?_⟩
  have pb := pw_bd hY hw t0 (by omega : t < D c 0)
  -- the slots
  have lp2 : ∀ N, (∀ k, k ≠ 61 → N k = R k) → (∀ a b, 0 ≤ a → a < t → 0 ≤ b → b < D c 0 → (N 61 (400 * a + b) = 1 ↔ lkJ D c a b)) → (∀ b, 0 ≤ b → b < D c 0 → N 61 (400 * t + b) = 0) → w_X12_findLinks_b46 Q f p (D c 0) t 0 N := fun N oN hN zN => by
    unfold w_X12_findLinks_b46
    refine loop5 _ (fun (x1 x2 x3 s : Int) N' => p = x1 ∧ D c 0 = x2 ∧ t = x3 ∧ 0 ≤ s ∧ s ≤ pcn D c t ∧ (∀ k, k ≠ 61 → N' k = R k) ∧ (∀ a b, 0 ≤ a → a < t → 0 ≤ b → b < D c 0 → (N' 61 (400 * a + b) = 1 ↔ lkJ D c a b)) ∧ ∀ b, 0 ≤ b → b < D c 0 → (N' 61 (400 * t + b) = 1 ↔ ∃ j, 0 ≤ j ∧ j < s ∧ lv D c t j = b)) (fun _ _ _ s _ => (pcn D c t - s).toNat) ?_ _ _ _ _ _ ⟨rfl, rfl, rfl, by omega, pb.1, oN, hN, fun b x1 x2 => by rw [zN b x1 x2]; exact ⟨fun q => by omega, fun ⟨j, j0, j1, _⟩ => by omega⟩⟩
    rintro _ _ _ s N' g ⟨rfl, rfl, rfl, s0, s1, oN', hN', lN'⟩ ih2
    have hY' : ∀ {M : MM}, (∀ k, k ≠ 61 → M k = R k) → Rty D M := fun o => Rty_R hY (fun k _ _ _ => o k (by omega)) (by rw [o 0 (by decide)])
    have hb' : ∀ {M : MM}, (∀ k, k ≠ 61 → M k = R k) → Rpb D M c p := fun o => Rpb_e hb (fun k _ _ => o k (by omega))
    unfold wb_X12_findLinks_b46
    refine p_slotsIn (hY' oN') hw (hb' oN') p0 p5 t0 (by omega) (fun _ => ⟨fun u => ⟨by unfold ri_; omega, ih _ _ _ _ ⟨rfl, rfl, by omega, by omega, oN', fun a b x1 x2 x3 x4 => ?_⟩ (by omega)⟩, fun u => ?_⟩)
    · by_cases e : a = t
      · have es : s = pcn D c t := by omega
        rw [e, lN' b x3 x4, es]
        rfl
      · exact hN' a b x1 (by omega) x3 x4
    have sp : s < pcn D c t := by omega
    obtain ⟨l1, l2, l3⟩ := pw_lv hw t0 (by omega : t < D c 0) s0 sp
    have nx : ∀ N2, (∀ k, k ≠ 61 → N2 k = R k) → (∀ a b, 0 ≤ a → a < t → 0 ≤ b → b < D c 0 → (N2 61 (400 * a + b) = 1 ↔ lkJ D c a b)) → (∀ b, 0 ≤ b → b < D c 0 → (N2 61 (400 * t + b) = 1 ↔ ∃ j, 0 ≤ j ∧ j < s + 1 ∧ lv D c t j = b)) → w_X12_findLinks_b104 Q f g p (D c 0) t s N2 := fun N2 a b d => by
      unfold w_X12_findLinks_b104
      exact ⟨by unfold ri_; omega, ih2 _ _ _ _ _ ⟨rfl, rfl, rfl, by omega, by omega, a, b, d⟩ (by omega)⟩
    have sk : lv D c t s = -1 → w_X12_findLinks_b104 Q f g p (D c 0) t s N' := fun hl => nx N' oN' hN' (fun b x1 x2 => by
      rw [lN' b x1 x2]
      constructor
      · rintro ⟨j, j0, j1, j2⟩; exact ⟨j, j0, by omega, j2⟩
      · rintro ⟨j, j0, j1, j2⟩
        have : j ≠ s := fun e => by rw [e, hl] at j2; omega
        exact ⟨j, j0, by omega, j2⟩)
    refine p_linksIn (hY' oN') hw (hb' oN') p0 p5 t0 (by omega) s0 sp (fun k5 _ => ⟨fun y => absurd y (by decide), fun _ => p_valueIn (hY' oN') hw (hb' oN') p0 p5 t0 (by omega) s0 sp (fun _ _ => ⟨fun y => sk (by rw [l2 k5]; exact y), fun y => ⟨by unfold ri_; omega, p_valueIn (hY' oN') hw (hb' oN') p0 p5 t0 (by omega) s0 sp (fun _ _ => ?_)⟩⟩)⟩) (fun k5 _ => ⟨fun _ => sk (l3 k5), fun y => absurd rfl y⟩)
    have el := l2 k5
    rw [← el] at y ⊢
    have lb : 0 ≤ lv D c t s ∧ lv D c t s < D c 0 := by
      rcases l1 with l1 | l1
      · exact absurd l1 y
      · exact l1
    refine ⟨by unfold ri_; omega, by unfold ri_; omega, by omega, by omega, fun M16 e16 => nx M16 (fun k a => by rw [e16, ux_g _ _ _ a]; exact oN' k a) (fun a b x1 x2 x3 x4 => by rw [e16, ux_i _ _ _ (by omega)]; exact hN' a b x1 x2 x3 x4) (fun b x1 x2 => ?_)⟩
    rw [e16, ux_v]
    by_cases e : b = lv D c t s
    · rw [if_pos (by omega)]
      exact ⟨fun _ => ⟨s, s0, by omega, e.symm⟩, fun _ => rfl⟩
    · rw [if_neg (by omega), lN' b x1 x2]
      constructor
      · rintro ⟨j, j0, j1, j2⟩; exact ⟨j, j0, by omega, j2⟩
      · rintro ⟨j, j0, j1, j2⟩
        have : j ≠ s := fun e' => e (by rw [← j2, e'])
        exact ⟨j, j0, by omega, j2⟩
  unfold w_X12_findLinks_b17
  refine loop5 _ (fun (x1 x2 x3 u : Int) N => p = x1 ∧ D c 0 = x2 ∧ t = x3 ∧ 0 ≤ u ∧ u ≤ D c 0 ∧ (∀ k, k ≠ 61 → N k = R k) ∧ (∀ a b, 0 ≤ a → a < t → 0 ≤ b → b < D c 0 → (N 61 (400 * a + b) = 1 ↔ lkJ D c a b)) ∧ ∀ b, 0 ≤ b → b < u → N 61 (400 * t + b) = 0) (fun _ _ _ u _ => (D c 0 - u).toNat) ?_ _ _ _ _ _ ⟨rfl, rfl, rfl, by omega, n0, oM, hM, fun b _ _ => by omega⟩
  rintro _ _ _ u N g ⟨rfl, rfl, rfl, u0, u1, oN, hN, zN⟩ ih2
  unfold wb_X12_findLinks_b17
  refine ⟨fun y => lp2 N oN hN (fun b x1 x2 => zN b x1 (by omega)), fun y => ⟨by unfold ri_; omega, by unfold ri_; omega, by omega, by omega, fun M4 e4 => ⟨by unfold ri_; omega, ih2 _ _ _ _ _ ⟨rfl, rfl, rfl, by omega, by omega, fun k a => by rw [e4, ux_g _ _ _ a]; exact oN k a, fun a b x1 x2 x3 x4 => by rw [e4, ux_i _ _ _ (by omega)]; exact hN a b x1 x2 x3 x4, fun b x1 x2 => ?_⟩ (by omega)⟩⟩⟩
  rw [e4, ux_v]
  split
  · rfl
  · exact zN b x1 (by omega)
def FWj (R R' : MM) : Prop := (∀ k, k ≠ 0 → k ≠ 61 → k < 93 ∨ 96 < k → R' k = R k) ∧ ∀ i, i ∉ ([0, 97, 138] : List Int) → R' 0 i = R 0 i
theorem p_rnd {D A R : MM} {c : Nat} {p : Int} (hw : PW D c) (p0 : 0 ≤ p) (p5 : p < 5) (oA : OKW A) (n40 : D c 0 ≤ 40) (hS : JS D c A p R) (h1 : R 0 138 = 1) (hK : ∀ k a b, FRk A (D c 0) R k a b ↔ K0_ D c k a b) {Q : Int → MM → Prop} (hq : ∀ R', FJ R R' → OutJ A (D c 0) R R' → LstK A (D c 0) (clD D c A) (K0_ D c) (FRk A (D c 0) R') → w_X12_rules_b238 Q 0 0 R') : w_X12_rules_b175 Q R := by
  have r12 := oA.2.2.2.1
  unfold w_X12_rules_b175
  refine lpM _ (fun M => FJ R M ∧ OutJ A (D c 0) R M ∧ leK (K0_ D c) (FRk A (D c 0) M) ∧ (∀ L, leK (K0_ D c) L → Clsd A (D c 0) (clD D c A) L → leK (FRk A (D c 0) M) L) ∧ (M 0 138 = 0 ∧ Clsd A (D c 0) (clD D c A) (FRk A (D c 0) M) ∨ M 0 138 = 1)) (fun M => if M 0 138 = 0 then 0 else 9601 - mK (FRk A (D c 0) M)) ?_ _ ⟨FJ_r R, OutJ_r _ _ R, fun k a b x => (hK k a b).mpr x, fun L a _ k x y z => a _ _ _ ((hK k x y).mp z), Or.inr h1⟩
  rintro M f ⟨fM, uM, lM, sM, zM⟩ ih
  unfold wb_X12_rules_b175
  refine fun v1 e1 o1 => ⟨fun z => ?_, fun z M3 e3 => ?_⟩
  · rcases zM with y | y
    · exact hq M fM uM ⟨lM, y.2, sM⟩
    · omega
  have y1 : M 0 138 = 1 := by rcases zM with y | y; omega; exact y
  have f3 : FJ M M3 := ⟨fun k a _ => by rw [e3, ux_g _ _ _ a], fun i a => by rw [e3, ux_i _ _ _ a]⟩
  have ef3 : FRk A (D c 0) M3 = FRk A (D c 0) M := FRk_e (by rw [e3, ux_g _ _ _ (by decide)]) (by rw [e3, ux_g _ _ _ (by decide)]) (by rw [e3, ux_g _ _ _ (by decide)])
  have z3 : M3 0 138 = 0 := by rw [e3, ux_s]
  have j3 : JS D c A p M3 := JS_f hS (FJ_t fM f3)
  have mb := mK_le (FRk A (D c 0) M)
  unfold w_X12_rules_b189
  refine loop2 _ (fun (r : Int) N => 0 ≤ r ∧ r ≤ A 261 3 ∧ SJ A (D c 0) (clD D c A) M3 N ∧ (N 0 138 = 0 → ∀ r', 0 ≤ r' → r' < r → CPk A (D c 0) (clD D c A) (FRk A (D c 0) M3) r' 0 (fun _ => 0))) (fun r _ => (A 261 3 - r).toNat) ?_ _ _ ⟨by omega, oA.2.2.1, SJ_r (Or.inl z3), fun _ r' a b => by omega⟩
  rintro r N g ⟨r0, r1, sN, cN⟩ ih2
  have jN : JS D c A p N := JS_f j3 sN.1
  unfold wb_X12_rules_b189
  intro v2 e2 _
  rw [jN.2.2.2.2.1] at e2
  rw [e2]
  refine ⟨fun y => ih N ⟨FJ_t fM (FJ_t f3 sN.1), OutJ_t uM (OutJ_t ⟨fun i => Or.inl (by rw [e3, ux_g _ _ _ (by decide)]), fun i => Or.inl (by rw [e3, ux_g _ _ _ (by decide)])⟩ sN.2.2.2.2.2.2), ?_, ?_, ?_⟩ ?_, fun y => ?_⟩
  · rw [← ef3] at lM; exact leK_t lM sN.2.1
  · rw [← ef3] at sM; exact fun L a b => sN.2.2.1 L (sM L a b) b
  · rcases sN.2.2.2.1 with k | k
    · refine Or.inl ⟨k, fun r' β a b bd st => ?_⟩
      exact CPk_e sN.2.1 (sN.2.2.2.2.1 k).2 (cN k r' a (by omega)) β (fun w w0 w1 => by omega) bd st
    · exact Or.inr k
  · show (if N 0 138 = 0 then 0 else 9601 - mK (FRk A (D c 0) N)) < if M 0 138 = 0 then 0 else 9601 - mK (FRk A (D c 0) M)
    rw [if_neg (by omega : ¬ M 0 138 = 0)]
    rcases sN.2.2.2.1 with k | k
    · rw [if_pos k]; omega
    · rw [if_neg (by omega)]
      rcases sN.2.2.2.2.2.1 k with u | u
      · omega
      · have := mK_lt sN.2.1 u
        rw [ef3] at this
        omega
  have rlt : r < A 261 3 := by omega
  unfold w_X12_rules_b199
  refine loop3 _ (fun (x i : Int) N' => r = x ∧ 0 ≤ i ∧ i ≤ 9 ∧ (∀ k, k ≠ 96 → N' k = N k) ∧ ∀ v, 0 ≤ v → v < i → N' 96 v = 0) (fun _ i _ => (9 - i).toNat) ?_ _ _ _ ⟨rfl, by omega, by omega, fun _ _ => rfl, fun v _ _ => by omega⟩
  rintro _ i N' g' ⟨rfl, i0, i9, oN, zN⟩ ih3
  unfold wb_X12_rules_b199
  refine ⟨fun w => ?_, fun w => ⟨i0, by omega, fun M5 e5 => ⟨by unfold ri_; omega, ih3 _ _ _ ⟨rfl, by omega, by omega, fun k a => by rw [e5, ux_g _ _ _ a]; exact oN k a, fun v v0 v1 => ?_⟩ (by omega)⟩⟩⟩
  rotate_left
  · rw [e5, ux_v]
    split
    · rfl
    · exact zN v v0 (by omega)
  have s' : SJ A (D c 0) (clD D c A) M3 N' := SJ_b sN (fun k _ a => oN k a)
  have z' : ∀ v, 0 ≤ v → v < 9 → N' 96 v = 0 := fun v a b => zN v a (by omega)
  have q266 := (oA.2.2.2.2.2 r r0 rlt).2.2.1
  have q4 := (oA.2.2.2.2.2 r r0 rlt).2.2.2.1
  have q3 := (oA.2.2.2.2.2 r r0 rlt).2.2.2.2.2.2.2.2.1
  unfold w_X12_join
  refine p_join hw p0 p5 oA n40 12 r 0 N' r0 rlt (by omega) (by omega) (by omega) (JS_f j3 s'.1) s'.2.2.2.1 (fun v a b => Or.inl (z' v a b)) (fun m _ _ => by omega) _ (fun x R' ⟨_, o2, _, _, o5⟩ _ => ⟨by unfold ri_; omega, ih2 _ _ ⟨by omega, by omega, SJ_t s' o2, fun z => ?_⟩ (by omega)⟩)
  have zz := (o2.2.2.2.2.1 z).1
  intro r' a b
  by_cases e : r' = r
  · rw [e]
    intro β' _ bd st
    exact (s'.2.2.2.2.1 zz).2 _ _ _ (o5 z β' (fun v v0 v1 v2 => by rw [z' v v0 (by omega)] at v2; omega) bd (Sat_m s'.2.1 st) trivial)
  · exact cN (by rw [← oN 0 (by decide)]; exact zz) r' a (by omega)
