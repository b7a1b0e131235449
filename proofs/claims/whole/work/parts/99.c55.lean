/-! swap: the slots, in the class -/
def swp (X : MM) (a b o k : Int) : Prop := kA X (X 27 o) k = 5 ∧ (X 30 (X 29 o + k) = a ∨ X 30 (X 29 o + k) = b)
def RST (a b : Int) (E : MM) (e : Int) : Nat → MM → Int → Int → Int → Prop
  | 0, _, _, _, _ => False
  | m + 1, X, o, k, n => (X 26 1 ≤ o ∧ X = E ∧ n = e) ∨ (o < X 26 1 ∧ (¬ hOk X o ∨ ln X o ≤ k) ∧ RST a b E e m X (o + 1) 0 n) ∨ (hOk X o ∧ 0 ≤ k ∧ k < ln X o ∧ ((swp X a b o k ∧ ∃ X', WS X X' o k (tn a b (X 30 (X 29 o + k))) ∧ FWc X X' ∧ RST a b E e m X' o (k + 1) (n + 1)) ∨ (¬ swp X a b o k ∧ RST a b E e m X o (k + 1) n)))
theorem FWc_t {C M N : MM} (h : FWc C M) (h' : FWc M N) : FWc C N := ⟨fun k hk => by rw [h'.1 k hk, h.1 k hk], fun i hi => by rw [h'.2 i hi, h.2 i hi]⟩
theorem FWc_r (C : MM) : FWc C C := ⟨fun _ _ => rfl, fun _ _ => rfl⟩
theorem FWr_t {C M N : MM} (h : FWr C M) (h' : FWr M N) : FWr C N := ⟨fun k hk => by rw [h'.1 k hk, h.1 k hk], fun i hi => by rw [h'.2 i hi, h.2 i hi]⟩
theorem FWr_r (C : MM) : FWr C C := ⟨fun _ _ => rfl, fun _ _ => rfl⟩
theorem fw_ln {C M : MM} (f : FWc C M) (o : Int) : ln M o = ln C o := by unfold ln; rw [f.1 27 (by decide), f.1 28 (by decide)]; exact so_eq (f.1 16 (by decide)) _ _
theorem fw_ok {C M : MM} (f : FWc C M) (o : Int) : hOk M o ↔ hOk C o := by unfold hOk; rw [f.1 26 (by decide), f.1 27 (by decide)]
def UNP (C M : MM) (o k : Int) : Prop := ∀ o' k', (o < o' ∨ o = o' ∧ k ≤ k') → hOk C o' → 0 ≤ k' → k' < ln C o' → M 30 (C 29 o' + k') = C 30 (C 29 o' + k')
def BCK (a b : Int) (C M : MM) (o k n : Int) : Prop := ∀ E e, (∃ m, RST a b E e m M o k n) → ∃ m, RST a b E e m C 0 0 0
def RBJ (M : MM) : Prop := ∃ Rc, RB M Rc ∧ Rjn M Rc
def SLI (a b : Int) (C M : MM) (o k n : Int) : Prop := FWc C M ∧ RBJ M ∧ M 32 = C 32 ∧ M 36 1 = C 36 1 + n ∧ 0 ≤ n ∧ n ≤ sm C o.toNat + k ∧ UNP C M o k ∧ BCK a b C M o k n
set_option maxHeartbeats 1000000 in
theorem p_swapSlots {Q : Int → MM → Prop} {C R : MM} {a b : Int} (hB : RB C R) (hJ : Rjn C R) (ha : hOk C a) (hb : hOk C b) (hg : ∀ o k, gds C a b o k) (wb : C 36 1 + 4000 < 2147483647) (hq : ∀ M n, FWc C M → RBJ M → M 32 = C 32 → M 36 1 = C 36 1 + n → 0 ≤ n → n ≤ 4000 → (∃ m, RST a b M n m C 0 0 0) → Q n M) : w_X3_swapSlots Q a b C := by
  have hY := hB.1.2.2.2.2
  have hH := hB.2.2
  have n0 := hH.2.1
  have n4 := hH.2.2.1
  have sm3 := hH.2.2.2.2.2.1
  have s4 := hH.2.2.2.2.2.2.1
  have j0 := hJ.2.1
  have smn : ∀ o, 0 ≤ o → o < C 26 1 → sm C (o + 1).toNat = sm C o.toNat + (if C 27 o = -1 then 0 else ln C o) := fun o a b => by
    rw [show (o + 1).toNat = o.toNat + 1 from by omega]
    show sm C o.toNat + (if C 27 ((o.toNat : Nat) : Int) = -1 then 0 else ln C ((o.toNat : Nat) : Int)) = _
    rw [show ((o.toNat : Nat) : Int) = o from by omega]
  unfold w_X3_swapSlots w_X3_swapSlots_b6
  refine loop5 _ (fun (x2 x3 n o : Int) M => a = x2 ∧ b = x3 ∧ 0 ≤ o ∧ o ≤ C 26 1 ∧ SLI a b C M o 0 n) (fun _ _ _ (o : Int) _ => (C 26 1 - o).toNat) ?_ _ _ _ _ _ ⟨rfl, rfl, by omega, n0, FWc_r C, ⟨R, hB, hJ⟩, rfl, by omega, by omega, by show (0 : Int) ≤ 0 + 0; omega, fun _ _ _ _ _ _ => rfl, fun E e q => q⟩
  rintro _ _ n o M f ⟨rfl, rfl, o0, o1, fw, hR, e32, e36, p0, p1, hu, hbk⟩ ih
  have e26 : M 26 1 = C 26 1 := by rw [fw.1 26 (by decide)]
  unfold wb_X3_swapSlots_b6
  intro v1 e1 _
  rw [e26] at e1
  refine ⟨fun z => hq M n fw hR e32 e36 p0 ?_ (hbk M n ⟨1, Or.inl ⟨by omega, rfl, rfl⟩⟩), fun z => ⟨o0, by omega, fun v3 e3 _ => ⟨fun y => ?_, fun y => ?_⟩⟩⟩
  · rw [show o = C 26 1 from by omega] at p1; omega
  · rw [fw.1 27 (by decide)] at e3
    have ho : hOk C o := ⟨o0, by omega, by rw [← e3]; exact y⟩
    obtain ⟨r1, r2, r3, r4, r5, r6, r7, r8, r9, r10⟩ := (hH.2.2.2.2.2.2.2.2.2.1 o ho.1 ho.2.1).2 ho.2.2
    have hat := hp_at hY hH ho
    refine p_slotsOf hY hH ho (fun k hk => fw.1 k (by intro q; simp at q hk; omega)) (fun _ _ => ?_)
    unfold w_X3_swapSlots_b36 w_X3_swapSlots_b41
    refine loop7 _ (fun (x2 x3 n x5 x6 k : Int) M => a = x2 ∧ b = x3 ∧ o = x5 ∧ ln C o = x6 ∧ 0 ≤ k ∧ k ≤ ln C o ∧ SLI a b C M o k n) (fun _ _ _ _ _ (k : Int) _ => (ln C o - k).toNat) ?_ _ _ _ _ _ _ _ ⟨rfl, rfl, rfl, rfl, by omega, by omega, fw, hR, e32, e36, p0, p1, hu, hbk⟩
    clear hu hbk p1 p0 e36 e32 hR fw e26
    rintro _ _ n _ _ k M f2 ⟨rfl, rfl, rfl, rfl, k0, k1, fw, hR, e32, e36, p0, p1, hu, hbk⟩ ih2
    have okM := (fw_ok fw o).mpr ho
    have lnM := fw_ln fw o
    have kaM : kA M (M 27 o) k = kA C (C 27 o) k := by rw [fw.1 27 (by decide)]; exact kA_eq (fw.1 24 (by decide)) _ _
    have laM : lA M (M 27 o) k = lA C (C 27 o) k := by rw [fw.1 27 (by decide)]; exact lA_eq (fw.1 25 (by decide)) _ _
    have e29 : M 29 = C 29 := fw.1 29 (by decide)
    unfold wb_X3_swapSlots_b41
    refine ⟨fun w => ⟨by unfold ri_; omega, ih _ _ _ _ _ ⟨rfl, rfl, by omega, by omega, fw, hR, e32, e36, p0, ?_, fun o' k' q => hu o' k' (by omega), fun E e q => hbk E e ?_⟩ (by omega)⟩, fun w => ⟨o0, by omega, fun w3 d3 _ => ?_⟩⟩
    · have := smn o o0 (by omega)
      rw [if_neg ho.2.2] at this
      omega
    · obtain ⟨m, q⟩ := q
      exact ⟨m + 1, Or.inr (Or.inl ⟨by rw [fw.1 26 (by decide)]; omega, Or.inr (by omega), q⟩)⟩
    rw [e29] at d3
    rw [d3]
    have nxt0 : ¬ swp M a b o k → w_X3_swapSlots_b129 Q f f2 a b n o (ln C o) k M := fun q => by
      unfold w_X3_swapSlots_b129
      refine ⟨by unfold ri_; omega, ih2 _ _ _ _ _ _ _ ⟨rfl, rfl, rfl, rfl, by omega, by omega, fw, hR, e32, e36, p0, by omega, fun o' k' q => hu o' k' (by omega), fun E e ⟨m, w⟩ => hbk E e ⟨m + 1, Or.inr (Or.inr ⟨okM, k0, by omega, Or.inr ⟨q, w⟩⟩)⟩⟩ (by omega)⟩
    have wrt : ∀ v, swp M a b o k → v = tn a b (M 30 (M 29 o + k)) → w_X3_swapSlots_b122 Q f f2 a b n o (ln C o) k v k o M := fun v hs ev => by
      obtain ⟨Rc, hBc, hJc⟩ := hR
      have v30 : M 30 (M 29 o + k) = C 30 (C 29 o + k) := by rw [e29]; exact hu o k (Or.inr ⟨rfl, Int.le_refl _⟩) ho k0 (by omega)
      have gd := hg o k ho k0 (by omega) (by rw [← kaM]; exact hs.1)
      rw [← v30] at gd
      have hv : vK M (kA M (M 27 o) k) (lA M (M 27 o) k) v := by
        refine Or.inl ⟨hs.1, Or.inr ?_⟩
        rw [laM, ev]
        unfold tn
        by_cases q : M 30 (M 29 o + k) = a
        · rw [if_pos q]
          exact ⟨(fw_ok fw b).mpr hb, by rw [fw.1 27 (by decide)]; exact (ft_eq (fw.1 11 (by decide)) _ _).mpr (gd.1 q)⟩
        · rw [if_neg q, if_pos (hs.2.resolve_left q)]
          exact ⟨(fw_ok fw a).mpr ha, by rw [fw.1 27 (by decide)]; exact (ft_eq (fw.1 11 (by decide)) _ _).mpr (gd.2 q (hs.2.resolve_left q))⟩
      have s1 := r7
      unfold w_X3_swapSlots_b122
      refine s_write3 hBc hJc okM k0 (by omega) hv (by omega) (fun M2 fw2 c36 hR2 c30 c32 ws _ => ⟨by unfold ri_; omega, ?_⟩)
      unfold w_X3_swapSlots_b129
      refine ⟨by unfold ri_; omega, ih2 _ _ _ _ _ _ _ ⟨rfl, rfl, rfl, rfl, by omega, by omega, FWc_t fw fw2, hR2, by rw [c32, e32], by omega, by omega, by omega, fun o' k' q1 q2 q3 q4 => ?_, fun E e ⟨m, w⟩ => hbk E e ⟨m + 1, Or.inr (Or.inr ⟨okM, k0, by omega, Or.inl ⟨hs, M2, by rw [← ev]; exact ws, fw2, w⟩⟩)⟩⟩ (by omega)⟩
      rw [c30, e29, if_neg]
      · exact hu o' k' (by omega) q2 q3 q4
      · intro q
        rcases q1 with q1 | ⟨q1, q5⟩
        · have := (hp_dis hY hH ho q2 q1).1; omega
        · rw [← q1] at q; omega
    have b96 : swp M a b o k → w_X3_swapSlots_b96 Q f f2 a b n o (ln C o) k (C 29 o + k) M := fun hs => by
      unfold w_X3_swapSlots_b96
      refine ⟨by omega, by omega, fun v1 d1 _ => ⟨fun q => wrt a hs ?_, fun q => wrt b hs ?_⟩⟩
      · rw [e29, ← d1]; unfold tn
        have := hs.2
        rw [e29, ← d1] at this
        rw [if_neg q, if_pos (this.resolve_left q)]
      · rw [e29, ← d1]; unfold tn; rw [if_pos q]
    refine ⟨by unfold ri_; omega, by omega, by omega, fun v5 e5 _ => ⟨fun q => ?_, fun q => ⟨by omega, by omega, fun v7 e7 _ => ⟨fun u => ?_, fun u => ⟨by omega, by omega, fun v9 e9 _ => ⟨fun t => ?_, fun t => ?_⟩⟩⟩⟩⟩⟩
    · rw [fw.1 31 (by decide), (r10 k k0 (by omega)).2.1] at e5
      refine nxt0 fun s => ?_
      have s5 := s.1
      rw [kaM] at s5
      rw [if_pos s5] at e5; omega
    all_goals
      rw [fw.1 31 (by decide), (r10 k k0 (by omega)).2.1] at e5
      have k5 : kA M (M 27 o) k = 5 := by
        rw [kaM]
        by_cases q5 : kA C (C 27 o) k = 5
        · exact q5
        · rw [if_neg q5] at e5; omega
    · exact b96 ⟨k5, Or.inl (by rw [e29, ← e7]; exact u)⟩
    · refine nxt0 fun s => ?_
      have := s.2
      rw [e29, ← e7] at this
      rcases this with w' | w'
      · exact u w'
      · rw [← e7] at e9; exact t (by rw [e9]; exact w')
    · exact b96 ⟨k5, Or.inr (by rw [e29, ← e9]; exact t)⟩
  · rw [fw.1 27 (by decide)] at e3
    have hno : ¬ hOk C o := fun q => q.2.2 (by rw [← e3]; exact y)
    unfold w_X3_swapSlots_b36 w_X3_swapSlots_b41
    refine ⟨1, ?_⟩
    show wb_X3_swapSlots_b41 Q f _ a b n o 0 0 M
    unfold wb_X3_swapSlots_b41
    refine ⟨fun _ => ⟨by unfold ri_; omega, ih _ _ _ _ _ ⟨rfl, rfl, by omega, by omega, fw, hR, e32, e36, p0, ?_, fun o' k' q => hu o' k' (by omega), fun E e ⟨m, w⟩ => hbk E e ⟨m + 1, Or.inr (Or.inl ⟨by omega, Or.inl (fun q => hno ((fw_ok fw o).mp q)), w⟩)⟩⟩ (by omega)⟩, fun w => by omega⟩
    have := smn o o0 (by omega)
    rw [if_pos (by rw [← e3]; exact y)] at this
    omega
