/-! swap: the statics, on both sides -/
def swf (X : MM) (a b f : Int) : Prop := (X 21 f ≠ 0 ∧ X 19 f = 5) ∧ (X 32 f = a ∨ X 32 f = b)
def RSF (a b : Int) (E : MM) (e : Int) : Nat → MM → Int → Int → Prop
  | 0, _, _, _ => False
  | m + 1, X, f, n => (6 * X 8 0 ≤ f ∧ X = E ∧ n = e) ∨ (f < 6 * X 8 0 ∧ ((swf X a b f ∧ ∃ X', WS X X' (-1) f (tn a b (X 32 f)) ∧ FWc X X' ∧ RSF a b E e m X' (f + 1) (n + 1)) ∨ (¬ swf X a b f ∧ RSF a b E e m X (f + 1) n)))
def BCF (a b : Int) (C M : MM) (f n : Int) : Prop := ∀ E e, (∃ m, RSF a b E e m M f n) → ∃ m, RSF a b E e m C 0 0
set_option maxHeartbeats 1000000 in
theorem p_swapStatics {Q : Int → MM → Prop} {C R : MM} {a b : Int} (hB : RB C R) (hJ : Rjn C R) (ha : hOk C a) (hb : hOk C b) (hg : ∀ f, 0 ≤ f → f < 6 * C 8 0 → gdf C a b f) (wb : C 36 1 + 100 < 2147483647) (hq : ∀ M n, FWc C M → RBJ M → M 36 1 = C 36 1 + n → 0 ≤ n → n ≤ 96 → (∃ m, RSF a b M n m C 0 0) → Q n M) : w_X3_swapStatics Q a b C := by
  have hY := hB.1.2.2.2.2
  have h16 := hY.2.2.1
  have y0 := hY.2.1
  have j0 := hJ.2.1
  unfold w_X3_swapStatics w_X3_swapStatics_b6
  refine loop5 _ (fun (x2 x3 n f : Int) M => a = x2 ∧ b = x3 ∧ 0 ≤ f ∧ f ≤ 6 * C 8 0 ∧ FWc C M ∧ RBJ M ∧ M 36 1 = C 36 1 + n ∧ 0 ≤ n ∧ n ≤ f ∧ (∀ g, f ≤ g → M 32 g = C 32 g) ∧ BCF a b C M f n) (fun _ _ _ (f : Int) _ => (6 * C 8 0 - f).toNat) ?_ _ _ _ _ _ ⟨rfl, rfl, by omega, by omega, FWc_r C, ⟨R, hB, hJ⟩, by omega, by omega, by omega, fun _ _ => rfl, fun E e q => q⟩
  rintro _ _ n f M K ⟨rfl, rfl, f0, f1, fw, hR, e36, p0, p1, hu, hbk⟩ ih
  have e8 : M 8 = C 8 := fw.1 8 (by decide)
  obtain ⟨Rc, hBc, hJc⟩ := id hR
  have hYM := hBc.1.2.2.2.2
  unfold wb_X3_swapStatics_b6 w_X10_ownFields
  intro v1 e1 _
  rw [e8] at e1
  refine ⟨by unfold ri_; omega, fun _ => ⟨fun z => hq M n fw hR e36 p0 (by omega) (hbk M n ⟨1, Or.inl ⟨by rw [e8]; omega, rfl, rfl⟩⟩), fun z => ?_⟩⟩
  have nxt0 : ¬ swf M a b f → w_X3_swapStatics_b87 Q K a b n f M := fun q => by
    unfold w_X3_swapStatics_b87
    refine ⟨by unfold ri_; omega, ih _ _ _ _ _ ⟨rfl, rfl, by omega, by omega, fw, hR, e36, p0, by omega, fun g w => hu g (by omega), fun E e ⟨m, w⟩ => hbk E e ⟨m + 1, Or.inr ⟨by rw [e8]; omega, Or.inr ⟨q, w⟩⟩⟩⟩ (by omega)⟩
  have wrt : ∀ v, swf M a b f → v = tn a b (M 32 f) → w_X3_swapStatics_b80 Q K a b n f v f M := fun v hs ev => by
    have v32 : M 32 f = C 32 f := hu f (Int.le_refl _)
    have s21 : C 21 f ≠ 0 := by rw [← fw.1 21 (by decide)]; exact hs.1.1
    have s19 : C 19 f = 5 := by rw [← fw.1 19 (by decide)]; exact hs.1.2
    have gd := hg f f0 (by omega) s21 s19
    rw [← v32] at gd
    have hv : M 19 f = 5 → vL M v (M 20 f) := fun _ => by
      rw [fw.1 20 (by decide)]
      refine Or.inr ?_
      rw [ev]
      unfold tn
      by_cases q : M 32 f = a
      · rw [if_pos q]
        exact ⟨(fw_ok fw b).mpr hb, by rw [fw.1 27 (by decide)]; exact (ft_eq (fw.1 11 (by decide)) _ _).mpr (gd.1 q)⟩
      · rw [if_neg q, if_pos (hs.2.resolve_left q)]
        exact ⟨(fw_ok fw a).mpr ha, by rw [fw.1 27 (by decide)]; exact (ft_eq (fw.1 11 (by decide)) _ _).mpr (gd.2 q (hs.2.resolve_left q))⟩
    unfold w_X3_swapStatics_b80
    refine s_writeS3 hBc hJc (ls_ck hYM f0 (by rw [e8]; omega) hs.1.1) hs.1.1 hv (by omega) (fun M2 fw2 c36 hR2 c30 c32 ws _ => ⟨by unfold ri_; omega, ?_⟩)
    unfold w_X3_swapStatics_b87
    refine ⟨by unfold ri_; omega, ih _ _ _ _ _ ⟨rfl, rfl, by omega, by omega, FWc_t fw fw2, hR2, by omega, by omega, by omega, fun g w => by rw [c32, if_neg (by omega)]; exact hu g (by omega), fun E e ⟨m, w⟩ => hbk E e ⟨m + 1, Or.inr ⟨by rw [e8]; omega, Or.inl ⟨hs, M2, by rw [← ev]; exact ws, fw2, w⟩⟩⟩⟩ (by omega)⟩
  have b56 : swf M a b f → w_X3_swapStatics_b56 Q K a b n f M := fun hs => by
    unfold w_X3_swapStatics_b56
    refine ⟨f0, by omega, fun v1 d1 _ => ⟨fun q => wrt a hs ?_, fun q => wrt b hs ?_⟩⟩
    · rw [← d1]; unfold tn
      have := hs.2
      rw [← d1] at this
      rw [if_neg q, if_pos (this.resolve_left q)]
    · rw [← d1]; unfold tn; rw [if_pos q]
  refine isLS_C hYM f0 (by rw [e8]; omega) (fun s1 s2 _ => ⟨fun q => absurd q (by decide), fun _ => ⟨f0, by omega, fun v7 e7 _ => ⟨fun u => b56 ⟨⟨s1, s2⟩, Or.inl (by rw [← e7]; exact u)⟩, fun u => ⟨f0, by omega, fun v9 e9 _ => ⟨fun t => nxt0 fun s => ?_, fun t => b56 ⟨⟨s1, s2⟩, Or.inr (by rw [← e9]; exact t)⟩⟩⟩⟩⟩⟩) (fun s _ => ⟨fun _ => nxt0 fun q => s q.1, fun q => absurd rfl q⟩)
  rcases s.2 with w' | w'
  · exact u (by rw [e7]; exact w')
  · exact t (by rw [e9]; exact w')
theorem RSF_f {a b e f n : Int} {E X : MM} {m : Nat} (h : RSF a b E e m X f n) (hf : f < 6 * X 8 0) : (swf X a b f ∧ ∃ X' m', WS X X' (-1) f (tn a b (X 32 f)) ∧ FWc X X' ∧ RSF a b E e m' X' (f + 1) (n + 1)) ∨ (¬ swf X a b f ∧ ∃ m', RSF a b E e m' X (f + 1) n) := by
  cases m with
  | zero => exact h.elim
  | succ m =>
    rcases h with h | ⟨-, h⟩
    · omega
    · rcases h with ⟨s, X', w1, w2, w3⟩ | ⟨s, w⟩
      · exact Or.inl ⟨s, X', m, w1, w2, w3⟩
      · exact Or.inr ⟨s, m, w⟩
theorem RSF_e {a b e f n : Int} {E X : MM} {m : Nat} (h : RSF a b E e m X f n) (hf : 6 * X 8 0 ≤ f) : X = E ∧ n = e := by
  cases m with
  | zero => exact h.elim
  | succ m =>
    rcases h with ⟨-, h1, h2⟩ | ⟨h, -⟩
    · exact ⟨h1, h2⟩
    · omega
def SFR (a b : Int) (C E : MM) (e : Int) (R M : MM) (f n : Int) : Prop := ∃ X m, FWc C X ∧ RB X M ∧ Rjn X M ∧ FWr R M ∧ RSF a b E e m X f n
set_option maxHeartbeats 1000000 in
theorem r_swapStatics {Q : Int → MM → Prop} {C E R : MM} {a b e n0 : Int} {m : Nat} (hB : RB C R) (hJ : Rjn C R) (ab : a ≠ b) (n00 : 0 ≤ n0) (n01 : n0 ≤ 50000) (hr : RSF a b E e m C 0 0) (hq : ∀ R', RB E R' → Rjn E R' → FWr R R' → 0 ≤ e → e ≤ 96 → w_X12_swap_b509 Q a b (n0 + e) 0 R') : w_X12_swap_b431 Q a b n0 0 R := by
  have hY := hB.1.2.2.2.2
  have h16 := hY.2.2.1
  have y0 := hY.2.1
  unfold w_X12_swap_b431
  refine loop5 _ (fun (x1 x2 x4 f : Int) M => a = x1 ∧ b = x2 ∧ 0 ≤ f ∧ f ≤ 6 * C 8 0 ∧ ∃ n, x4 = n0 + n ∧ 0 ≤ n ∧ n ≤ f ∧ SFR a b C E e R M f n) (fun _ _ _ (f : Int) _ => (6 * C 8 0 - f).toNat) ?_ _ _ _ _ _ ⟨rfl, rfl, by omega, by omega, 0, by omega, by omega, by omega, C, m, FWc_r C, hB, hJ, FWr_r R, hr⟩
  rintro _ _ x4 f M K ⟨rfl, rfl, f0, f1, n, ex, p0, p1, X, m, fw, hBX, hJX, fr, hrs⟩ ih
  have hYX := hBX.1.2.2.2.2
  have x8 : X 8 0 = C 8 0 := by rw [fw.1 8 (by decide)]
  unfold wb_X12_swap_b431
  intro v1 e1 _
  rw [← hYX.1, x8] at e1
  refine ⟨by unfold ri_; omega, fun z => ?_, fun z => ?_⟩
  · obtain ⟨q1, q2⟩ := RSF_e hrs (by omega)
    rw [ex, q2]
    exact hq M (by rw [← q1]; exact hBX) (by rw [← q1]; exact hJX) fr (by omega) (by omega)
  have st := RSF_f hrs (by omega)
  have h13 := hBX.2.2.2.2.2.2.2.2.2.2.2.2.2.2.1
  have skip : ¬ swf X a b f → w_X12_swap_b500 Q K a b x4 f M := fun q => by
    rcases st with ⟨s, -⟩ | ⟨-, m', w⟩
    · exact absurd s q
    · unfold w_X12_swap_b500
      exact ⟨by unfold ri_; omega, ih _ _ _ _ _ ⟨rfl, rfl, by omega, by omega, n, ex, p0, by omega, X, m', fw, hBX, hJX, fr, w⟩ (by omega)⟩
  refine p_R_isLS hYX f0 (by omega) (fun s1 s2 _ => ⟨fun q => absurd q (by decide), fun _ => ⟨f0, by omega, fun v7 e7 _ => ?_⟩⟩) (fun s _ => ⟨fun _ => skip fun q => s q.1, fun q => absurd rfl q⟩)
  rw [← h13 f f0 (by omega)] at e7
  refine p_turned (fun _ => ⟨f0, by omega, fun v10 e10 _ => ?_⟩)
  rw [← h13 f f0 (by omega), ← e7] at e10
  rw [e10]
  refine ⟨fun q => ⟨f0, by omega, fun v12 e12 _ => ?_⟩, fun q => skip fun s => ?_⟩
  · rw [← h13 f f0 (by omega)] at e12
    have sw : swf X a b f := ⟨⟨s1, s2⟩, by rw [← e7]; exact (tn_ne ab).mp q⟩
    refine p_turned (fun _ => ?_)
    rcases st with ⟨-, X', m', w1', w2', w3'⟩ | ⟨s, -⟩
    · rw [e12]
      refine w1' M hBX hJX _ (fun R' hB' hJ' fr' => ⟨by unfold ri_; omega, ?_⟩)
      unfold w_X12_swap_b500
      exact ⟨by unfold ri_; omega, ih _ _ _ _ _ ⟨rfl, rfl, by omega, by omega, n + 1, by omega, by omega, by omega, X', m', FWc_t fw w2', hB', hJ', FWr_t fr fr', w3'⟩ (by omega)⟩
    · exact absurd sw s
  · have := s.2
    rw [← e7] at this
    exact (tn_ne ab).mpr this q
