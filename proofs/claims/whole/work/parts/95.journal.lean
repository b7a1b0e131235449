/-! the journal -/
def uS (C : MM) (f v : Int) : Prop := ∃ c k, 0 ≤ c ∧ c < C 8 0 ∧ 0 ≤ k ∧ k < C 14 c ∧ f = 6 * c + k ∧ (C 19 f = 5 → vL C v (C 20 f))
def uE (C : MM) (cp cv ro rs : Int) : Prop := (ro = -1 ∧ cp = -1 - rs ∧ uS C rs cv) ∨ (hOk C ro ∧ 0 ≤ rs ∧ rs < ln C ro ∧ cp = C 29 ro + rs ∧ vK C (kA C (C 27 ro) rs) (lA C (C 27 ro) rs) cv)
def Rud (C R : MM) : Prop := 0 ≤ C 36 5 ∧ C 36 5 < 100 ∧ 0 ≤ C 36 6 ∧ C 36 6 ≤ 100 ∧ C 36 6 = R 0 36 ∧ ∀ k, 0 ≤ k → k < C 36 6 → C 37 ((C 36 5 + k) % 100) = R 27 k ∧ C 39 ((C 36 5 + k) % 100) = R 28 k ∧ uE C (C 38 ((C 36 5 + k) % 100)) (C 39 ((C 36 5 + k) % 100)) (R 25 k) (R 26 k)
def Rwt (C R : MM) : Prop := C 36 7 = R 0 44 ∧ 0 ≤ C 36 7 ∧ C 36 7 ≤ 6 ∧ (∀ w, 0 ≤ w → w < C 36 7 → 0 ≤ C 40 w ∧ C 40 w < C 8 0 ∧ 0 ≤ C 41 w ∧ C 41 w < C 14 (C 40 w) ∧ R 29 w = 6 * C 40 w + C 41 w ∧ C 42 w = R 30 w ∧ 0 ≤ C 42 w ∧ C 42 w ≤ 3 ∧ Rrow C R w) ∧ ∀ w, C 36 7 ≤ w → w < 6 → C 43 w = 0
def Rjn (C R : MM) : Prop := C 36 1 = R 0 29 ∧ 0 ≤ C 36 1 ∧ Rud C R ∧ Rwt C R
def stC (C C1 : MM) (w : Int) (D : Int → Prop) (o b v : Int) : Prop := (∀ k, k ≠ 43 → k ≠ 44 → C1 k = C k) ∧ ∀ w', 0 ≤ w' → w' < 6 → ((w' < w ∧ D w') → pshC C C1 w' o b v) ∧ (¬ (w' < w ∧ D w') → samC C C1 w')
def stR (R R1 : MM) (w : Int) (D : Int → Prop) (o b v : Int) : Prop := (∀ k, k < 31 ∨ 35 < k → R1 k = R k) ∧ ∀ w', 0 ≤ w' → w' < 6 → ((w' < w ∧ D w') → pshR R R1 w' o b v) ∧ (¬ (w' < w ∧ D w') → samR R R1 w')
theorem stC_0 (C : MM) (D : Int → Prop) (o b v : Int) : stC C C 0 D o b v := ⟨fun _ _ _ => rfl, fun w a _ => ⟨fun q => by omega, fun _ => samC_r⟩⟩
theorem stR_0 (R : MM) (D : Int → Prop) (o b v : Int) : stR R R 0 D o b v := ⟨fun _ _ => rfl, fun w a _ => ⟨fun q => by omega, fun _ => samR_r⟩⟩
theorem stC_no {C C1 : MM} {w : Int} {D : Int → Prop} {o b v : Int} (h : stC C C1 w D o b v) (hd : ¬ D w) : stC C C1 (w + 1) D o b v := by
  refine ⟨h.1, fun w' a c => ⟨fun q => (h.2 w' a c).1 ⟨?_, q.2⟩, fun q => (h.2 w' a c).2 (fun q2 => q ⟨by omega, q2.2⟩)⟩⟩
  have : w' ≠ w := fun e => hd (by rw [← e]; exact q.2)
  omega
theorem stR_no {C C1 : MM} {w : Int} {D : Int → Prop} {o b v : Int} (h : stR C C1 w D o b v) (hd : ¬ D w) : stR C C1 (w + 1) D o b v := by
  refine ⟨h.1, fun w' a c => ⟨fun q => (h.2 w' a c).1 ⟨?_, q.2⟩, fun q => (h.2 w' a c).2 (fun q2 => q ⟨by omega, q2.2⟩)⟩⟩
  have : w' ≠ w := fun e => hd (by rw [← e]; exact q.2)
  omega
theorem stC_yes {C C1 C2 : MM} {w : Int} {D : Int → Prop} {o b v : Int} (h : stC C C1 w D o b v) (hd : D w) (w0 : 0 ≤ w) (w1 : w < 6) (n0 : 0 ≤ C 43 w) (n6 : C 43 w ≤ 6) (f : ∀ k, k ≠ 43 → k ≠ 44 → C2 k = C1 k) (hp : pshC C1 C2 w o b v) (hs : ∀ w', w' ≠ w → samC C1 C2 w') : stC C C2 (w + 1) D o b v := by
  refine ⟨fun k a c => by rw [f k a c, h.1 k a c], fun w' a c => ?_⟩
  by_cases e : w' = w
  · subst e
    exact ⟨fun _ => pshC_l ((h.2 w' a c).2 (by omega)) (by rw [h.1 36 (by decide) (by decide)]) n0 n6 hp, fun q => absurd ⟨by omega, hd⟩ q⟩
  · exact ⟨fun q => pshC_r ((h.2 w' a c).1 ⟨by omega, q.2⟩) (hs w' e), fun q => samC_t ((h.2 w' a c).2 (fun q2 => q ⟨by omega, q2.2⟩)) (hs w' e)⟩
theorem stR_yes {C C1 C2 : MM} {w : Int} {D : Int → Prop} {o b v : Int} (h : stR C C1 w D o b v) (hd : D w) (w0 : 0 ≤ w) (w1 : w < 6) (n0 : 0 ≤ C 31 w) (n6 : C 31 w ≤ 6) (f : ∀ k, k < 31 ∨ 35 < k → C2 k = C1 k) (hp : pshR C1 C2 w o b v) (hs : ∀ w', w' ≠ w → samR C1 C2 w') : stR C C2 (w + 1) D o b v := by
  refine ⟨fun k a => by rw [f k a, h.1 k a], fun w' a c => ?_⟩
  by_cases e : w' = w
  · subst e
    exact ⟨fun _ => pshR_l ((h.2 w' a c).2 (by omega)) (by rw [h.1 0 (by omega)]) n0 n6 hp, fun q => absurd ⟨by omega, hd⟩ q⟩
  · exact ⟨fun q => pshR_r ((h.2 w' a c).1 ⟨by omega, q.2⟩) (hs w' e), fun q => samR_t ((h.2 w' a c).2 (fun q2 => q ⟨by omega, q2.2⟩)) (hs w' e)⟩
/-- the class's walk over the watches at a write into a slot -/
def dC (C : MM) (o s b v w : Int) : Prop := C 21 (6 * C 40 w + C 41 w) = 0 ∧ C 22 (6 * C 40 w + C 41 w) = s ∧ C 27 o < 20 ∧ heir C (C 27 o) (C 40 w) ∧ isC (C 42 w) (C 19 (6 * C 40 w + C 41 w)) b v
set_option maxHeartbeats 400000 in
theorem p_wLoop {Q : Int → MM → Prop} {o s v b : Int} {C R R0 : MM} (hY : Rty C R0) (hw : Rwt C R) (o0 : 0 ≤ o) (o1 : o < 400) (ht : vT (C 8 0) (C 27 o)) (b0 : 0 ≤ C 36 1) (b1 : C 36 1 < 2147483647) (h : ∀ C1, stC C C1 (C 36 7) (dC C o s b v) o b v → Q (C 36 1) (ux_ C1 36 1 (C 36 1 + 1))) : w_X3_writeSlot_b39 Q o s v b 0 C := by
  have h16 := hY.2.2.1
  obtain ⟨-, w0, w6, hwt, -⟩ := hw
  refine loop6 _ (fun a c d e w M1 => o = a ∧ s = c ∧ v = d ∧ b = e ∧ 0 ≤ w ∧ w ≤ C 36 7 ∧ stC C M1 w (dC C o s b v) o b v) (fun _ _ _ _ w _ => (C 36 7 - w).toNat) ?_ _ _ _ _ _ _ ⟨rfl, rfl, rfl, rfl, by omega, w0, stC_0 _ _ _ _ _⟩
  rintro _ _ _ _ w M1 f ⟨rfl, rfl, rfl, rfl, k0, k1, hs⟩ ih
  have eq : ∀ k, k ≠ 43 → k ≠ 44 → M1 k = C k := hs.1
  unfold wb_X3_writeSlot_b39
  intro v1 e1 _
  rw [eq 36 (by decide) (by decide)] at e1
  subst e1
  refine ⟨fun z v3 e3 g3 => ?_, fun z => ?_⟩
  · rw [eq 36 (by decide) (by decide)] at e3
    subst e3
    refine ⟨by unfold ri_; omega, fun M5 e5 v6 e6 g6 => ?_⟩
    have r6 : v6 = C 36 1 + 1 := by rw [e6, e5, ux_s]
    rw [r6, show C 36 1 + 1 - 1 = C 36 1 from by omega]
    refine ⟨by unfold ri_; omega, ?_⟩
    have : w = C 36 7 := by omega
    rw [e5]
    rw [this] at hs
    exact h M1 hs
  · obtain ⟨a1, a2, a3, a4, -, -, a7, a8, -, a10, a11, -⟩ := hwt w k0 (by omega)
    have f6 := (hY.2.2.2.1 (C 40 w) a1 a2).1.2.2.2.2.2.2.2.2.2.1
    have nxt : stC C M1 (w + 1) (dC C o s b v) o b v → w_X3_writeSlot_b166 Q f o s v b w M1 := fun q => by
      unfold w_X3_writeSlot_b166
      exact ⟨by unfold ri_; omega, ih _ _ _ _ _ _ ⟨rfl, rfl, rfl, rfl, by omega, by omega, q⟩ (by omega)⟩
    have no : ¬ dC C o s b v w → w_X3_writeSlot_b134 Q f o s v b w M1 := fun q => by
      unfold w_X3_writeSlot_b134 w_X3_writeSlot_b135
      exact ⟨fun _ => nxt (stC_no hs q), fun q2 => absurd rfl q2⟩
    refine ⟨k0, by omega, fun v8 e8 g8 => ?_⟩
    rw [eq 40 (by decide) (by decide)] at e8
    subst e8
    refine ⟨by unfold ri_; omega, k0, by omega, fun v10 e10 g10 => ?_⟩
    rw [eq 41 (by decide) (by decide)] at e10
    subst e10
    refine ⟨by unfold ri_; omega, by omega, by omega, fun v12 e12 g12 => ?_⟩
    rw [eq 21 (by decide) (by decide), show C 40 w * 6 + C 41 w = 6 * C 40 w + C 41 w from by omega] at e12
    refine ⟨fun z2 => no (fun q => z2 (by rw [e12]; exact q.1)), fun z2 => ⟨by omega, by omega, fun v14 e14 g14 => ?_⟩⟩
    rw [eq 22 (by decide) (by decide), show C 40 w * 6 + C 41 w = 6 * C 40 w + C 41 w from by omega] at e14
    refine ⟨fun z3 => no (fun q => z3 (by rw [e14]; exact q.2.1)), fun z3 => ⟨o0, o1, fun v16 e16 g16 => ?_⟩⟩
    rw [eq 27 (by decide) (by decide)] at e16
    subst e16
    unfold w_X10_isArray
    refine ⟨fun z4 _ => ⟨fun q => absurd rfl q, fun _ => ⟨o0, o1, fun v20 e20 g20 => ⟨k0, by omega, fun v21 e21 g21 => ?_⟩⟩⟩, fun z4 _ => ⟨fun _ => no (fun q => z4 q.2.2.1), fun q => by omega⟩⟩
    rw [eq 27 (by decide) (by decide)] at e20
    rw [eq 40 (by decide) (by decide)] at e21
    subst e20 e21
    have hp : pOk M1 := by
      have := pOk_of hY
      unfold pOk at this ⊢
      rw [eq 8 (by decide) (by decide), eq 11 (by decide) (by decide)]; exact this
    unfold vT at ht
    refine p_heir hp (by omega) (by rw [eq 8 (by decide) (by decide)]; omega) (by omega) (fun hh _ => ⟨fun q => by omega, fun _ => ?_⟩) (fun hh _ => ⟨fun _ => no (fun q => hh ((heir_eq (eq 11 (by decide) (by decide)) _ _).mpr q.2.2.2.1)), fun q => absurd rfl q⟩)
    rw [heir_eq (eq 11 (by decide) (by decide))] at hh
    unfold w_X3_writeSlot_b135
    refine ⟨fun q => by omega, fun _ => ?_⟩
    have q40 := eq 40 (by decide) (by decide)
    have q41 := eq 41 (by decide) (by decide)
    have q42 := eq 42 (by decide) (by decide)
    have q19 := eq 19 (by decide) (by decide)
    have sm1 := (hs.2 w k0 (by omega)).2 (by omega)
    refine p_isCase k0 (by omega) (by rw [q40]; exact a1) (by rw [q40]; omega) (by rw [q41]; exact a3) (by rw [q41]; omega) (by rw [q42]; exact a7) (by rw [q42]; exact a8) (fun hc _ => ⟨fun q => by omega, fun _ => ?_⟩) (fun hc _ => ⟨fun _ => nxt (stC_no hs fun q => hc (by rw [q40, q41, q42, q19]; exact q.2.2.2.2)), fun q => absurd rfl q⟩)
    rw [q40, q41, q42, q19] at hc
    refine p_addRow k0 (by omega) (by rw [sm1.1]; exact a10) (by rw [sm1.1]; exact a11) fun C2 f2 hp2 hs2 => ?_
    have := stC_yes hs ⟨by rw [← e12]; exact z2, by rw [← e14]; exact z3, by omega, hh, hc⟩ k0 (by omega) a10 a11 f2 hp2 hs2
    unfold w_X3_writeSlot_b166
    exact ⟨by unfold ri_; omega, ih _ _ _ _ _ _ ⟨rfl, rfl, rfl, rfl, by omega, by omega, this⟩ (by omega)⟩
/-- the same, at a write into a static -/
def dS (C : MM) (g b v w : Int) : Prop := 6 * C 40 w + C 41 w = g ∧ isC (C 42 w) (C 19 (6 * C 40 w + C 41 w)) b v
set_option maxHeartbeats 400000 in
theorem p_wLoopS {Q : Int → MM → Prop} {g v b : Int} {C R R0 : MM} (hY : Rty C R0) (hw : Rwt C R) (b0 : 0 ≤ C 36 1) (b1 : C 36 1 < 2147483647) (h : ∀ C1, stC C C1 (C 36 7) (dS C g b v) (-1) b v → Q (C 36 1) (ux_ C1 36 1 (C 36 1 + 1))) : w_X3_writeStatic_b27 Q g v b 0 C := by
  have h16 := hY.2.2.1
  obtain ⟨-, w0, w6, hwt, -⟩ := hw
  refine loop5 _ (fun a d e w M1 => g = a ∧ v = d ∧ b = e ∧ 0 ≤ w ∧ w ≤ C 36 7 ∧ stC C M1 w (dS C g b v) (-1) b v) (fun _ _ _ w _ => (C 36 7 - w).toNat) ?_ _ _ _ _ _ ⟨rfl, rfl, rfl, by omega, w0, stC_0 _ _ _ _ _⟩
  rintro _ _ _ w M1 f ⟨rfl, rfl, rfl, k0, k1, hs⟩ ih
  have eq : ∀ k, k ≠ 43 → k ≠ 44 → M1 k = C k := hs.1
  unfold wb_X3_writeStatic_b27
  intro v1 e1 _
  rw [eq 36 (by decide) (by decide)] at e1
  subst e1
  refine ⟨fun z v3 e3 g3 => ?_, fun z => ?_⟩
  · rw [eq 36 (by decide) (by decide)] at e3
    subst e3
    refine ⟨by unfold ri_; omega, fun M5 e5 v6 e6 g6 => ?_⟩
    have r6 : v6 = C 36 1 + 1 := by rw [e6, e5, ux_s]
    rw [r6, show C 36 1 + 1 - 1 = C 36 1 from by omega]
    refine ⟨by unfold ri_; omega, ?_⟩
    have : w = C 36 7 := by omega
    rw [e5]
    rw [this] at hs
    exact h M1 hs
  · obtain ⟨a1, a2, a3, a4, -, -, a7, a8, -, a10, a11, -⟩ := hwt w k0 (by omega)
    have f6 := (hY.2.2.2.1 (C 40 w) a1 a2).1.2.2.2.2.2.2.2.2.2.1
    have nxt : stC C M1 (w + 1) (dS C g b v) (-1) b v → w_X3_writeStatic_b80 Q f g v b w M1 := fun q => by
      unfold w_X3_writeStatic_b80
      exact ⟨by unfold ri_; omega, ih _ _ _ _ _ ⟨rfl, rfl, rfl, by omega, by omega, q⟩ (by omega)⟩
    refine ⟨k0, by omega, fun v8 e8 g8 => ?_⟩
    rw [eq 40 (by decide) (by decide)] at e8
    subst e8
    refine ⟨by unfold ri_; omega, k0, by omega, fun v10 e10 g10 => ?_⟩
    rw [eq 41 (by decide) (by decide)] at e10
    subst e10
    refine ⟨by unfold ri_; omega, fun z2 => nxt (stC_no hs fun q => z2 (by have := q.1; omega)), fun z2 => ?_⟩
    have q40 := eq 40 (by decide) (by decide)
    have q41 := eq 41 (by decide) (by decide)
    have q42 := eq 42 (by decide) (by decide)
    have q19 := eq 19 (by decide) (by decide)
    have sm1 := (hs.2 w k0 (by omega)).2 (by omega)
    refine p_isCase k0 (by omega) (by rw [q40]; exact a1) (by rw [q40]; omega) (by rw [q41]; exact a3) (by rw [q41]; omega) (by rw [q42]; exact a7) (by rw [q42]; exact a8) (fun hc _ => ⟨fun q => by omega, fun _ => ?_⟩) (fun hc _ => ⟨fun _ => nxt (stC_no hs fun q => hc (by rw [q40, q41, q42, q19]; exact q.2)), fun q => absurd rfl q⟩)
    rw [q40, q41, q42, q19] at hc
    refine p_addRow k0 (by omega) (by rw [sm1.1]; exact a10) (by rw [sm1.1]; exact a11) fun C2 f2 hp2 hs2 => ?_
    have := stC_yes hs ⟨by omega, hc⟩ k0 (by omega) a10 a11 f2 hp2 hs2
    unfold w_X3_writeStatic_b80
    exact ⟨by unfold ri_; omega, ih _ _ _ _ _ ⟨rfl, rfl, rfl, by omega, by omega, this⟩ (by omega)⟩
/-- the reference's walk over the watches -/
def dR (R : MM) (g b v w : Int) : Prop := g ≠ -1 ∧ R 29 w = g ∧ isC (R 30 w) (R 12 (R 29 w)) b v
theorem p_R_wLoop {Q : Int → MM → Prop} {o v b g : Int} {R : MM} (w0 : 0 ≤ R 0 44) (w6 : R 0 44 ≤ 6) (hw : ∀ w, 0 ≤ w → w < R 0 44 → 0 ≤ R 29 w ∧ R 29 w < 96 ∧ 0 ≤ R 30 w ∧ R 30 w ≤ 3 ∧ 0 ≤ R 31 w ∧ R 31 w ≤ 6) (b0 : 0 ≤ R 0 29) (b1 : R 0 29 < 2147483647) (h : ∀ R1, stR R R1 (R 0 44) (dR R g b v) o b v → Q 0 (ux_ R1 0 29 (R 0 29 + 1))) : w_X12_write_b253 Q o v b g 0 R := by
  refine loop6 _ (fun a d e x w M1 => o = a ∧ v = d ∧ b = e ∧ g = x ∧ 0 ≤ w ∧ w ≤ R 0 44 ∧ stR R M1 w (dR R g b v) o b v) (fun _ _ _ _ w _ => (R 0 44 - w).toNat) ?_ _ _ _ _ _ _ ⟨rfl, rfl, rfl, rfl, by omega, w0, stR_0 _ _ _ _ _⟩
  rintro _ _ _ _ w M1 f ⟨rfl, rfl, rfl, rfl, k0, k1, hs⟩ ih
  have eq : ∀ k, k < 31 ∨ 35 < k → M1 k = R k := hs.1
  unfold wb_X12_write_b253
  intro v1 e1 _
  rw [eq 0 (by omega)] at e1
  subst e1
  refine ⟨fun z v3 e3 g3 => ?_, fun z => ?_⟩
  · rw [eq 0 (by omega)] at e3
    subst e3
    refine ⟨by unfold ri_; omega, fun M5 e5 => ?_⟩
    have : w = R 0 44 := by omega
    rw [e5]
    rw [this] at hs
    exact h M1 hs
  · obtain ⟨a1, a2, a3, a4, a5, a6⟩ := hw w k0 (by omega)
    have nxt : stR R M1 (w + 1) (dR R g b v) o b v → w_X12_write_b290 Q f o v b g w M1 := fun q => by
      unfold w_X12_write_b290
      exact ⟨by unfold ri_; omega, ih _ _ _ _ _ _ ⟨rfl, rfl, rfl, rfl, by omega, by omega, q⟩ (by omega)⟩
    refine ⟨fun z2 => nxt (stR_no hs fun q => q.1 z2), fun z2 => ⟨k0, by omega, fun v7 e7 g7 => ?_⟩⟩
    rw [eq 29 (by omega)] at e7
    subst e7
    refine ⟨fun z3 => nxt (stR_no hs fun q => z3 q.2.1), fun z3 => ?_⟩
    have q29 := eq 29 (by omega)
    have q30 := eq 30 (by omega)
    have q12 := eq 12 (by omega)
    have sm1 := (hs.2 w k0 (by omega)).2 (by omega)
    refine p_R_look k0 (by omega) (by rw [q29]; exact a1) (by rw [q29]; exact a2) (by rw [q30]; exact a3) (by rw [q30]; exact a4) (by rw [sm1.1]; exact a5) (by rw [sm1.1]; exact a6) (fun hc R2 f2 hp2 hs2 => ?_) (fun hc => nxt (stR_no hs fun q => hc (by rw [q29, q30, q12]; exact q.2.2)))
    rw [q29, q30, q12] at hc
    have := stR_yes hs ⟨z2, z3, hc⟩ k0 (by omega) a5 a6 f2 hp2 hs2
    unfold w_X12_write_b290
    exact ⟨by unfold ri_; omega, ih _ _ _ _ _ _ ⟨rfl, rfl, rfl, rfl, by omega, by omega, this⟩ (by omega)⟩
