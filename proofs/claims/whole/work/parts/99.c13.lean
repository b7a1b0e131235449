/-! sets worked out: things, all, own -/
def pS (M0 : MM) (pc : Nat) (k D : Int) (x : Int) : Prop := k = 29 ∨ (M0 (pc + 2) x < 20 ∧ pk_ M0 (k - 27) D (M0 (pc + 2) x))
theorem Gv_C {c pc : Nat} {M0 R0 M : MM} {p B fo k D src : Int} (hE : EnvQ c pc M0 R0 p B) (f0 : 0 ≤ fo) (f1 : fo < 11) (hk : 27 ≤ k) (hk2 : k ≤ 29) (hsrc : k ≠ 29 → ∃ n : Nat, src = n ∧ n < 65536 ∧ ∀ j : Nat, j < 16 → (n.testBit j = true ↔ (j : Int) < M0 8 0 ∧ pk_ M0 (k - 27) D j)) (hN : NS fo k src 0 (M0 pc 0) M) : Gv M0 fo (M0 pc 0) B (lsG (fl (pS M0 pc k D)) 0 (M0 pc 0).toNat) M := by
  have hw := hE.2.2.2.2.2.2.1
  have hY := hE.2.2.2.2.2.1
  have h16 := hY.2.2.1
  have n0 := hw.1
  have n4 := hw.2.1
  refine Gv_N (lo := 0) (hi := M0 pc 0) (kd := k) (src := src) f0 f1 (by omega) (by omega) (by omega) (fun x x0 x1 => ?_) (fun M2 hC2 h222 h223 x x0 x1 Q hq => ?_) _ 0 M (by rw [show (0 : Int) + ((M0 pc 0).toNat : Nat) = M0 pc 0 from by omega]; exact hN) (by omega) (by omega)
  · rcases fl_or (pS M0 pc k D) x with ⟨e, -⟩ | ⟨e, -⟩
    · right; omega
    · left; exact e
  · obtain ⟨q1, q2, q3⟩ := q_pic hE hC2
    unfold w_X4_giveAt
    refine ⟨f0, f1, fun v1 e1 _ => ?_⟩
    rw [h222] at e1
    rw [e1]
    refine ⟨fun z => ?_, fun z => by omega, fun z => by omega, fun z => ⟨pc, q1, q2, x0, by omega, fun v15 e15 _ => ?_⟩⟩
    · rw [fl_y (Or.inl z)] at hq; exact hq
    rw [q3 2 (by omega)] at e15
    have hv := (hw.2.2.2.1 x x0 x1).2.2.1
    unfold vT at hv
    refine ⟨fun z2 => ?_, fun z2 => ⟨f0, f1, fun v17 e17 _ => ?_⟩⟩
    · rw [fl_n (fun y => by rcases y with y | y; exact z.1 y; omega)] at hq; exact hq
    obtain ⟨n, g1, g2, g3⟩ := hsrc z.1
    obtain ⟨j, hj⟩ : ∃ j : Nat, v15 = j := ⟨v15.toNat, by omega⟩
    have hb := g3 j (by omega)
    rw [e17, h223, g1, hj, bit_t g2 (by omega)]
    refine ⟨fun y => ?_, fun y => ?_⟩
    · rw [fl_n (fun w => ?_)] at hq
      · exact hq
      · rcases w with w | ⟨w1, w2⟩
        · exact z.1 w
        · have := hb.mpr ⟨by omega, by rw [← hj, e15]; exact w2⟩
          rw [y] at this; cases this
    · have y2 : n.testBit j = true := by
        cases hh : n.testBit j
        · exact absurd hh y
        · rfl
      have := (hb.mp y2).2
      rw [fl_y (Or.inr ⟨by omega, by rw [← e15, hj]; exact this⟩)] at hq
      exact hq
/-- the reference's things, all, own -/
theorem r_C {Q : Int → MM → Prop} {G : Nat → (Int → MM → Prop) → List Int → MM → Prop} {c pc : Nat} {M0 R0 R1 : MM} {p B s l x k D kr Nx : Int} (hE : EnvQ c pc M0 R0 p B) (hR : RB0 p R0 R1) (s0 : 0 ≤ s) (s1 : s ≤ 10) (hl : l = s ∨ l = 11) (x0 : 0 ≤ x) (x1 : x < 480) (hx70 : ∀ R, RB0 p R0 R → R 70 x = Nx) (hk : k = 29 ∧ kr = 2 ∨ k = 27 ∧ kr = 0 ∧ nr D Nx ∨ k = 28 ∧ kr = 1 ∧ nr D Nx) (h74 : R1 74 l = 0) (hq : ∀ R', GS s l R1 R' (lsG (fl (pS M0 pc k D)) 0 (M0 pc 0).toNat) → Q 0 R') : w_X12_workSet_b40 G Q x l kr R1 := by
  have hw := hE.2.2.2.2.2.2.1
  have hY := hE.2.2.2.2.2.1
  have h16 := hY.2.2.1
  have hb := hE.2.2.2.2.2.2.2.1
  obtain ⟨p0, p5⟩ : 0 ≤ p ∧ p < 5 := ⟨hE.2.2.2.2.2.2.2.2.1, hE.2.2.2.2.2.2.2.2.2.1⟩
  have n0 := hw.1
  have n4 := hw.2.1
  unfold w_X12_workSet_b40 w_X12_workSet_b43
  refine loop5 _ (fun (a b d i : Int) R => x = a ∧ l = b ∧ kr = d ∧ 0 ≤ i ∧ i ≤ M0 pc 0 ∧ GS s l R1 R (lsG (fl (pS M0 pc k D)) 0 i.toNat)) (fun _ _ _ (i : Int) _ => (M0 pc 0 - i).toNat) ?_ _ _ _ _ _ ⟨rfl, rfl, rfl, by omega, n0, ES_r _ _ _, h74, fun j hj => absurd hj (Nat.not_lt_zero _), rfl, rfl⟩
  rintro _ _ _ i R f ⟨rfl, rfl, rfl, i0, i1, hG⟩ ih
  have hR' := RB0_S hR hG.1
  have hYR := Y_r hY hR'
  have hbR := B_e hE hR'
  have h97 := hR'.2.2
  have sn : (i + 1).toNat = i.toNat + 1 := by omega
  have ll := lsG_len (ga := fl (pS M0 pc k D)) i.toNat 0
  have ls := lsG_s (ga := fl (pS M0 pc k D)) i.toNat 0
  rw [show (0 : Int) + (i.toNat : Nat) = i from by omega, ← sn] at ls
  unfold wb_X12_workSet_b43
  intro v1 e1 _
  rw [h97] at e1
  rw [e1]
  refine ⟨p0, p5, fun v2 e2 _ => ?_⟩
  rw [← hbR.1] at e2
  refine ⟨fun z => ?_, fun z v4 e4 _ => ?_⟩
  · rw [show i = M0 pc 0 from by omega] at hG
    exact hq R hG
  rw [h97] at e4
  rw [e4]
  refine p_at p0 p5 i0 (by omega) (fun _ => ⟨by omega, by omega, fun v7 e7 _ => ?_⟩)
  rw [← (hbR.2.1 i i0 (by omega)).2.1] at e7
  have no : ¬ pS M0 pc k D i → w_X12_workSet_b119 G Q f x l kr i R := fun hn => by
    unfold w_X12_workSet_b119
    rw [if_pos (fl_n hn), List.append_nil] at ls
    exact ⟨by unfold ri_; omega, ih _ _ _ _ _ ⟨rfl, rfl, rfl, by omega, by omega, by rw [ls]; exact hG⟩ (by omega)⟩
  have yes : pS M0 pc k D i → w_X12_workSet_b112 G Q f x l kr i R := fun hp => by
    unfold w_X12_workSet_b112 w_X12_workSet_b119
    rw [fl_y hp, if_neg (by omega)] at ls
    exact r_gat s0 s1 hl (by omega) hG (fun R2 hG2 _ => ⟨by unfold ri_; omega, ih _ _ _ _ _ ⟨rfl, rfl, rfl, by omega, by omega, by rw [ls]; exact hG2⟩ (by omega)⟩)
  refine ⟨fun z2 => yes (Or.inl (by omega)), fun z2 => ?_⟩
  have hv := (hw.2.2.2.1 i i0 (by omega)).2.2.1
  rw [← e7] at hv
  unfold vT at hv
  have e20 : R 0 20 = M0 8 0 := hYR.1.symm
  unfold w_X12_isClass
  refine ⟨fun z3 _ => ⟨fun _ => no ?_, fun y => absurd rfl y⟩, fun z3 v20 e20' _ => ⟨fun z4 _ => ⟨fun _ => no ?_, fun y => absurd rfl y⟩, fun z4 _ => ⟨fun y => absurd y (by decide), fun _ => ⟨x0, x1, fun v12 e12 _ => ?_⟩⟩⟩⟩
  · rintro (y | ⟨y, -⟩)
    · omega
    · rw [← e7] at y; omega
  · rintro (y | ⟨y, -⟩)
    · omega
    · rw [← e7] at y; omega
  rw [hx70 _ hR'] at e12
  have cl : 0 ≤ v7 ∧ v7 < M0 8 0 := by omega
  have pi : ∀ u, u = k - 27 → pk_ M0 u D v7 → pS M0 pc k D i := fun u hu hp => Or.inr ⟨by rw [← e7]; omega, by rw [← hu, ← e7]; exact hp⟩
  have ni : ∀ u, u = k - 27 → ¬ pk_ M0 u D v7 → ¬ pS M0 pc k D i := fun u hu hp y => by
    rcases y with y | ⟨-, y⟩
    · omega
    · rw [← hu, ← e7] at y; exact hp y
  unfold w_X12_workSet_b106
  refine ⟨fun z5 => ⟨Or.inl rfl, ?_⟩, fun z5 => ⟨Or.inr rfl, ?_⟩⟩
  · obtain ⟨w1, w2⟩ : k = 28 ∧ nr D v12 := by rcases hk with ⟨a, b⟩ | ⟨a, b, d⟩ | ⟨a, b, d⟩ <;> first | omega | exact ⟨a, by rw [e12]; exact d⟩
    refine p_R_isOwn hYR cl.1 cl.2 w2 (fun h _ => ⟨fun y => absurd y (by decide), fun _ => yes (pi 1 (by omega) (Or.inr ⟨rfl, h⟩))⟩) (fun h _ => ⟨fun _ => no (ni 1 (by omega) ?_), fun y => absurd rfl y⟩)
    rintro (⟨y, -⟩ | ⟨-, y⟩)
    · omega
    · exact h y
  · obtain ⟨w1, w2⟩ : k = 27 ∧ nr D v12 := by rcases hk with ⟨a, b⟩ | ⟨a, b, d⟩ | ⟨a, b, d⟩ <;> first | omega | exact ⟨a, by rw [e12]; exact d⟩
    refine p_R_isNm hYR cl.1 cl.2 w2 (fun h _ => ⟨fun y => absurd y (by decide), fun _ => yes (pi 0 (by omega) (Or.inl ⟨rfl, h⟩))⟩) (fun h _ => ⟨fun _ => no (ni 0 (by omega) ?_), fun y => absurd rfl y⟩)
    rintro (⟨-, y⟩ | ⟨y, -⟩)
    · exact h y
    · omega
