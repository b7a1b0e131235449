/-! rules worked out by the reference: one part of a body, one thing for its first variable -/
theorem BW_s {R M : MM} {S S' : Int → Prop} (h : BW R M S) (e : ∀ v, S v ↔ S' v) : BW R M S' := fun v a b => ⟨fun z => (h v a b).1 (z.imp (e v).mpr id), fun z => (h v a b).2.1 (fun q => z ((e v).mp q)), (h v a b).2.2⟩
theorem DnJ_hf {A R N : MM} {n r : Int} {cl : Int → Int → Prop} (hr : RLq A R r) (hS : SJ A n cl R N) (hb : hbJ A R r) (hf : hfJ A n R N r) (z : N 0 138 = 0) (P : (Int → Int) → Prop) : DnJ A n cl R r P := fun β' ag _ _ _ => by
  obtain ⟨-, -, -, -, -, -, -, -, ga0, ga1, gc0, gc1, -, -, -, -⟩ := hr
  have := (hS.2.2.2.2.1 z).2 _ _ _ hf
  unfold HdK
  rw [ag _ ga0 ga1 hb.1, ag _ gc0 gc1 hb.2]
  exact this
def HEj (R : MM) (e rb a b W x : Int) : Prop := (e = 1 ∧ rb = -1 ∧ b = a ∧ W = 0) ∨ (e = 1 ∧ rb = b ∧ (b = a ∧ W = x ∨ R 96 b = 1 ∧ W = R 93 b)) ∨ (e = 0 ∧ rb = b ∧ b ≠ a ∧ R 96 b ≠ 1 ∧ W = 0)
def HYj (R : MM) (rb a b x y n : Int) : Prop := (rb = -1 ∧ b = a ∧ y < n) ∨ (rb ≠ -1 ∧ rb = b ∧ y < n ∧ (R 96 b = 1 → y = R 93 b) ∧ (b = a → y = x))
def HSj (A R : MM) (r s : Int) : Prop := s = 1 ∧ hbJ A R r ∨ s = 0 ∧ ¬ hbJ A R r
theorem jn_in {D A R : MM} {c : Nat} {p r k s e W x x7 x8 : Int} {G : Nat → (Int → MM → Prop) → List Int → MM → Prop} (hw : PW D c) (p0 : 0 ≤ p) (p5 : p < 5) (oA : OKW A) (n40 : D c 0 ≤ 40) (hS : JS D c A p R) (hB : B01 (D c 0) R) (r0 : 0 ≤ r) (r1 : r < A 261 3) (k0 : 0 ≤ k) (k1 : k < A 266 r) (hP : PJk A (D c 0) (clD D c A) R r k)
    (hG : ∀ N, JS D c A p N → (N 0 138 = 0 ∨ N 0 138 = 1) → B01 (D c 0) N → PJk A (D c 0) (clD D c A) N r (k + 1) → ∀ Q : Int → MM → Prop, (∀ y R', JPo A (D c 0) (clD D c A) N r y R' → Q y R') → G 0 Q [r, k + 1] N)
    (hs : HSj A R r s) {i a b rb : Int} (ei : i = 4 * r + k) (ea : A 268 i = a) (eb : A 269 i = b) (erb : R 91 i = rb) (x0 : 0 ≤ x) (x1 : x < D c 0) (hxa : R 96 a = 1 → x = R 93 a)
    (he : HEj R e rb a b W x)
    {Q : Int → MM → Prop} {KO : Int → Int → Int → Int → Int → Int → Int → Int → Int → Int → MM → Prop}
    (hx : ∀ N x9, SJ A (D c 0) (clD D c A) R N → BW R N (fun v => False ∨ v = a) → (x9 = 0 ∨ x9 = 1) → (x9 = 1 → hbJ A R r → hfJ A (D c 0) R N r) → (N 0 138 = 0 → DnJ A (D c 0) (clD D c A) R r (fun β => β a < x ∨ β a = x)) → w_X12_join_b518 G Q KO r k s i a rb x7 x8 x9 x N)
    {N0 : MM} {y9 : Int} (s0 : SJ A (D c 0) (clD D c A) R N0) (w0 : BW R N0 (fun v => False ∨ v = a)) (a0 : N0 93 a = x) (z0 : y9 = 0 ∨ y9 = 1) (f0 : y9 = 1 → hbJ A R r → hfJ A (D c 0) R N0 r) (d0 : N0 0 138 = 0 → DnJ A (D c 0) (clD D c A) R r (fun β => β a < x)) : w_X12_join_b390 G Q KO r k s i a rb x7 x8 y9 x e W N0 := by
  have hr := hS.2.2.2.2.2 r r0 r1
  obtain ⟨g84, gk0, gk1, g85, g86, g87, gb1, gb4, ga0, ga1, gc0, gc1, g3, gh1, gh2, hat⟩ := id hr
  obtain ⟨t0, t1, t2, t3, t4, t5⟩ := hat k k0 k1
  rw [← ei, ea] at t1 t2 t3
  rw [← ei, eb] at t4 t5
  have rg : ∀ v, 0 ≤ v → v < 9 → R 96 v = 1 → 0 ≤ R 93 v ∧ R 93 v < D c 0 := fun v a b e => by
    rcases hB v a b with w | w
    · omega
    · exact w.2
  -- what the second variable is, if it is known
  have hW : e = 1 → ∀ β : Int → Int, (∀ v, 0 ≤ v → v < A 265 r → R 96 v = 1 → β v = R 93 v) → β a = x → (if rb = -1 then 0 else β b) = W := fun e1 β ag ba => by
    rcases he with h | h | h
    · rw [if_pos h.2.1, h.2.2.2]
    · rw [if_neg (by omega)]
      rcases h.2.2 with u | u
      · rw [u.1, u.2]; exact ba
      · rw [u.2]; exact ag b t4 t5 u.1
    · omega
  have nb : e = 1 → ∀ N, BW R N (fun v => False ∨ v = a) → N 93 a = x → rb ≠ -1 → N 93 b = W := fun e1 N wN aN h' => by
    rcases he with h | h | h
    · omega
    · rcases h.2.2 with u | u
      · rw [u.1, u.2]; exact aN
      · rw [u.2]; exact (wN b t4 (by omega)).2.2 u.1
    · omega
  have Wr : e = 1 → 0 ≤ W ∧ W < D c 0 := fun e1 => by
    rcases he with h | h | h
    · omega
    · rcases h.2.2 with u | u
      · omega
      · rw [u.2]; exact rg b t4 (by omega) u.1
    · omega
  unfold w_X12_join_b390
  refine loopI _ _ _ _ _ _ _ _ _ _ _ (fun x9 y N => (x9 = 0 ∨ x9 = 1) ∧ 0 ≤ y ∧ (e = 1 → W ≤ y) ∧ SJ A (D c 0) (clD D c A) R N ∧ BW R N (fun v => False ∨ v = a) ∧ N 93 a = x ∧ (x9 = 1 → hbJ A R r → hfJ A (D c 0) R N r) ∧ (N 0 138 = 0 → DnJ A (D c 0) (clD D c A) R r (fun β => β a < x ∨ β a = x ∧ (if rb = -1 then 0 else β b) < y))) (fun _ y _ => (D c 0 + 1 - y).toNat) ?_ _ _ _ ⟨z0, ?_, fun _ => Int.le_refl _, s0, w0, a0, f0, fun z β ag bd st hb => d0 z β ag bd st ?_⟩
  rotate_left
  · rcases he with h | h | h
    · omega
    · exact (Wr h.1).1
    · omega
  · rcases hb with h | h
    · exact h
    · exfalso
      rcases he with h' | h' | h'
      · have := hW h'.1 β ag h.1; have := h.2; omega
      · have := hW h'.1 β ag h.1; have := h.2; omega
      · have q := h.2
        rw [if_neg (by omega)] at q
        have := (bd b t4 t5).1; omega
  rintro x9 y N f ⟨z9, y0, yW, sN, wN, aN, fN, dN⟩ ih
  have jN : JS D c A p N := JS_f hS sN.1
  have done : ∀ (U : Int), (U = D c 0 ∧ e = 0 ∨ U = W + 1 ∧ e = 1) → w_X12_join_b428 G Q KO f r k s i a rb x7 x8 x9 x e y U y N := fun U hU => by
    unfold w_X12_join_b428
    have ex2 : ¬ x9 = 0 → ¬ s = 0 → w_X12_join_b518 G Q KO r k s i a rb x7 x8 x9 x N := fun h9 h3 => by
      have hb : hbJ A R r := by rcases hs with h | h; exact h.2; omega
      exact hx N x9 sN wN z9 fN (fun z => DnJ_hf hr sN hb (fN (by omega) hb) z _)
    refine ⟨fun uy => hx N x9 sN wN z9 fN (fun z β ag bd st hb => dN z β ag bd st ?_), fun uy => ?_⟩
    · rcases hb with h | h
      · exact Or.inl h
      · refine Or.inr ⟨h, ?_⟩
        rcases hU with ⟨u1, u2⟩ | ⟨u1, u2⟩
        · have : rb ≠ -1 := by rcases he with h' | h' | h' <;> omega
          rw [if_neg this]
          have := (bd b t4 t5).2; omega
        · rw [hW u2 β ag h]; omega
    -- one thing for the second variable
    have it : w_X12_join_b440 G Q KO f r k s i a rb x7 x8 x9 x e y N := by
      have hy : HYj R rb a b x y (D c 0) := by
        rcases he with h | h | h
        · exact Or.inl ⟨h.2.1, h.2.2.1, by omega⟩
        · have q : y = W := by have := yW h.1; omega
          have q2 := Wr h.1
          refine Or.inr ⟨by omega, h.2.1, by omega, fun hb1 => ?_, fun hba => ?_⟩
          · rcases h.2.2 with u | u
            · rw [q, u.2, u.1]; exact hxa (by rw [← u.1]; exact hb1)
            · rw [q, u.2]
          · rcases h.2.2 with u | u
            · rw [q, u.2]
            · rw [q, u.2, hba]; exact (hxa (by rw [← hba]; exact u.1)).symm
        · exact Or.inr ⟨by omega, h.2.1, by omega, fun hb1 => absurd hb1 h.2.2.2.1, fun hba => absurd hba h.2.2.1⟩
      have main : ∀ N3 b', (∀ q, q ≠ 93 → q ≠ 96 → N3 q = N q) → BW R N3 (fun v => (False ∨ v = a) ∨ v = b) → N3 93 a = x → N3 93 b = b' → (rb = -1 ∧ b' = x ∨ rb ≠ -1 ∧ b' = y) → w_X12_join_b463 G Q KO f r k s i a rb x7 x8 x9 x e y N3 := fun N3 b' e3 w3 a3 b3 hb' => by
        have ef : FRk A (D c 0) N3 = FRk A (D c 0) N := FRk_e (e3 94 (by decide) (by decide)) (e3 95 (by decide) (by decide)) (e3 61 (by decide) (by decide))
        have s3 : SJ A (D c 0) (clD D c A) R N3 := SJ_b sN e3
        have j3 : JS D c A p N3 := JS_f hS s3.1
        have z3 : N3 0 138 = N 0 138 := by rw [e3 0 (by decide) (by decide)]
        have f3 : x9 = 1 → hbJ A R r → hfJ A (D c 0) R N3 r := fun q1 q2 => by unfold hfJ; rw [ef]; exact fN q1 q2
        -- what is done then
        have nxt : ∀ N4 x9', (x9' = 0 ∨ x9' = 1) → SJ A (D c 0) (clD D c A) R N4 → BW R N4 (fun v => (False ∨ v = a) ∨ v = b) → N4 93 a = x → (x9' = 1 → hbJ A R r → hfJ A (D c 0) R N4 r) → (N4 0 138 = 0 → N 0 138 = 0 ∧ DnJ A (D c 0) (clD D c A) R r (fun β => β a = x ∧ (if rb = -1 then 0 else β b) = y)) → w_X12_join_b499 G Q KO f r k s i a rb x7 x8 x9' x e y N4 := fun N4 x9' q1 q2 q3 q4 q5 q6 => by
          have dn : N4 0 138 = 0 → DnJ A (D c 0) (clD D c A) R r (fun β => β a < x ∨ β a = x ∧ (if rb = -1 then 0 else β b) < y + 1) := fun z β ag bd st hb => by
            rcases hb with h | h
            · exact dN (q6 z).1 β ag bd st (Or.inl h)
            · by_cases u : (if rb = -1 then 0 else β b) = y
              · exact (q6 z).2 β ag bd st ⟨h.1, u⟩
              · exact dN (q6 z).1 β ag bd st (Or.inr ⟨h.1, by have := h.2; omega⟩)
          have yn : y < D c 0 := by rcases hy with h | h; exact h.2.2; exact h.2.2.1
          unfold w_X12_join_b499 w_X12_join_b512
          refine ⟨fun h11 => ⟨by unfold ri_; omega, ih _ _ _ ⟨q1, by omega, fun q => by have := yW q; omega, q2, BW_k q3 ?_, q4, q5, dn⟩ (by omega)⟩, fun h11 => ?_⟩
          · rcases he with h | h | h
            · exact Or.inl (Or.inr h.2.2.1)
            · rcases h.2.2 with u | u
              · exact Or.inl (Or.inr u.1)
              · exact Or.inr u.1
            · omega
          · have h0 : rb = b ∧ b ≠ a ∧ R 96 b ≠ 1 := by rcases he with h | h | h; omega; omega; exact ⟨h.2.1, h.2.2.1, h.2.2.2.1⟩
            rw [h0.1]
            refine ⟨t4, by omega, fun M2 e2 => ⟨by unfold ri_; omega, ?_⟩⟩
            rw [← h0.1]
            have z4 : M2 0 138 = N4 0 138 := by rw [e2, ux_g _ _ _ (by decide)]
            have ef4 : FRk A (D c 0) M2 = FRk A (D c 0) N4 := FRk_e (by rw [e2, ux_g _ _ _ (by decide)]) (by rw [e2, ux_g _ _ _ (by decide)]) (by rw [e2, ux_g _ _ _ (by decide)])
            exact ih _ _ _ ⟨q1, by omega, fun q => by omega, SJ_b q2 (fun q _ u => by rw [e2, ux_g _ _ _ u]), BW_d q3 e2 (fun u => u.elim id (fun u => h0.2.1 u)) h0.2.2, by rw [e2, ux_g _ _ _ (by decide)]; exact q4, fun u1 u2 => by unfold hfJ; rw [ef4]; exact q5 u1 u2, fun z => dn (by rw [← z4]; exact z)⟩ (by omega)
        unfold w_X12_join_b463
        rw [ei]
        refine p_holds (b' := b') hw j3 p0 p5 oA n40 r0 r1 k0 k1 x0 x1 ?_ (fun yes _ => ⟨fun q => absurd q (by decide), fun _ => ⟨by unfold ri_; omega, ?_⟩⟩) (fun no _ => ⟨fun _ => ?_, fun q => absurd rfl q⟩)
        · rw [e3 91 (by decide) (by decide), sN.1.1 91 (by decide) (by decide), ← ei, erb]
          rcases hy with h | h
          · exact Or.inl ⟨h.1, by omega⟩
          · exact Or.inr ⟨h.1, by omega, by omega, h.2.2.1⟩
        · -- the part holds: what comes behind it
          rw [← ei] at yes
          have bx : 0 ≤ b' ∧ b' < D c 0 := by rcases hy with h | h <;> omega
          have B3 : B01 (D c 0) N3 := fun v v0 v9 => by
            have q := w3 v v0 v9
            by_cases u : R 96 v = 1
            · refine Or.inr ⟨q.1 (Or.inr u), ?_⟩
              rw [q.2.2 u]; exact rg v v0 v9 u
            · by_cases u1 : v = a
              · exact Or.inr ⟨q.1 (Or.inl (Or.inl (Or.inr u1))), by rw [u1, a3]; exact ⟨x0, x1⟩⟩
              · by_cases u2 : v = b
                · exact Or.inr ⟨q.1 (Or.inl (Or.inr u2)), by rw [u2, b3]; exact bx⟩
                · exact Or.inl (q.2.1 (fun h => h.elim (fun h => h.elim id u1) u2) u)
          have P3 : PJk A (D c 0) (clD D c A) N3 r (k + 1) := fun m m0 m1 => by
            by_cases u : m = k
            · rw [u, ← ei, ea, eb, a3, b3]
              exact ⟨(w3 a t2 (by omega)).1 (Or.inl (Or.inl (Or.inr rfl))), (w3 b t4 (by omega)).1 (Or.inl (Or.inr rfl)), yes⟩
            · obtain ⟨v1, v2, v3⟩ := hP m m0 (by omega)
              obtain ⟨-, -, l2, l3, l4, l5⟩ := hat m m0 (by omega)
              have n1 := w3 _ l2 (by omega)
              have n2 := w3 _ l4 (by omega)
              rw [n1.2.2 v1, n2.2.2 v2]
              exact ⟨n1.1 (Or.inr v1), n2.1 (Or.inr v2), akH_m s3.2.1 v3⟩
          refine hG N3 j3 s3.2.2.2.1 B3 P3 _ (fun x' N4 ⟨o1, o2, o3, o4, o5⟩ _ => ?_)
          have s4 := SJ_t s3 o2
          have w4 := BW_t w3 o3
          have a4 : N4 93 a = x := by rw [(o3 a t2 (by omega)).2.2 ((w3 a t2 (by omega)).1 (Or.inl (Or.inl (Or.inr rfl))))]; exact a3
          have g4 : (x' = 1 ∨ x9 = 1) → hbJ A R r → hfJ A (D c 0) R N4 r := fun q hb => by
            rcases q with q | q
            · have n1 := w3 _ ga0 (by omega)
              have n2 := w3 _ gc0 (by omega)
              have := o4 q ⟨n1.1 (Or.inr hb.1), n2.1 (Or.inr hb.2)⟩
              unfold hfJ at this ⊢
              rw [n1.2.2 hb.1, n2.2.2 hb.2] at this
              exact this
            · exact o2.2.1 _ _ _ (f3 q hb)
          have d4 : N4 0 138 = 0 → N 0 138 = 0 ∧ DnJ A (D c 0) (clD D c A) R r (fun β => β a = x ∧ (if rb = -1 then 0 else β b) = y) := fun z => by
            have zz := (o2.2.2.2.2.1 z).1
            refine ⟨by rw [← z3]; exact zz, fun β ag bd st hb => ?_⟩
            have bb : β b = b' := by
              rcases hb' with u | u
              · rcases hy with h | h
                · rw [h.2.1, hb.1, u.2]
                · exact absurd u.1 h.1
              · have := hb.2
                rw [if_neg u.1] at this
                rw [this, u.2]
            refine (s3.2.2.2.2.1 zz).2 _ _ _ (o5 z β (fun v v0 v1 v2 => ?_) bd (Sat_m s3.2.1 st) trivial)
            by_cases u1 : v = a
            · rw [u1, a3]; exact hb.1
            · by_cases u2 : v = b
              · rw [u2, b3]; exact bb
              · have q := w3 v v0 (by omega)
                by_cases u3 : R 96 v = 1
                · rw [q.2.2 u3]; exact ag v v0 v1 u3
                · rw [q.2.1 (fun h => h.elim (fun h => h.elim id u1) u2) u3] at v2; omega
          rw [← ei]
          unfold w_X12_join_b492 w_X12_join_b497
          refine ⟨fun q => nxt N4 1 (Or.inr rfl) s4 w4 a4 (fun _ => g4 (Or.inl (o1.resolve_left q))) d4, fun q => ⟨fun q9 => nxt N4 0 (Or.inl rfl) s4 w4 a4 (fun u => absurd u (by decide)) d4, fun q9 => nxt N4 1 (Or.inr rfl) s4 w4 a4 (fun _ => g4 (Or.inr (z9.resolve_left q9))) d4⟩⟩
        · -- it doesn't
          rw [← ei] at no ⊢
          refine nxt N3 x9 z9 s3 w3 a3 f3 (fun z => ⟨by rw [← z3]; exact z, fun β ag bd st hb => absurd ?_ no⟩)
          have := akH_m s3.2.1 (st k k0 k1)
          rw [← ei, ea, eb, hb.1] at this
          have bb : β b = b' := by
            rcases hb' with u | u
            · rcases hy with h | h
              · rw [h.2.1, hb.1, u.2]
              · exact absurd u.1 h.1
            · have := hb.2
              rw [if_neg u.1] at this
              rw [this, u.2]
          rw [bb] at this
          exact this
      unfold w_X12_join_b440
      refine ⟨fun q => ?_, fun q => ?_⟩
      · have h : b = a := by rcases hy with h | h; exact h.2.1; exact absurd q h.1
        exact main N x (fun _ _ _ => rfl) (BW_s wN (fun v => ⟨Or.inl, fun u => u.elim id (fun u => Or.inr (by rw [u, h]))⟩)) aN (by rw [h]; exact aN) (Or.inl ⟨q, rfl⟩)
      · have h := Or.resolve_left hy (fun h => q h.1)
        refine ⟨by omega, by omega, fun M2 e2 => ⟨by omega, by omega, fun M3 e3 => ?_⟩⟩
        rw [h.2.1] at e2 e3
        refine main M3 y (fun u u1 u2 => by rw [e3, ux_g _ _ _ u2, e2, ux_g _ _ _ u1]) (BW_u wN (by rw [e3, e2]) h.2.2.2.1) ?_ (by rw [e3, ux_g _ _ _ (by decide), e2, ux_s]) (Or.inr ⟨q, rfl⟩)
        rw [e3, ux_g _ _ _ (by decide), e2, ux_v]
        split
        · rename_i u; exact h.2.2.2.2 u.symm
        · exact aN
    exact ⟨fun _ => it, fun h9 => ⟨fun h3 => ex2 h9 h3, fun _ => it⟩⟩
  unfold wb_X12_join_b390
  refine ⟨fun h => ?_, fun h => ⟨fun h6 => ?_, fun h6 => ?_⟩⟩
  · intro v2 e2 _
    rw [e2, jN.2.2.1]
    refine ⟨p0, p5, fun v3 e3 _ => ?_⟩
    rw [e3, ← jN.2.1.1]
    exact done _ (Or.inl ⟨rfl, h⟩)
  · have e1 : e = 1 := by rcases he with u | u | u <;> omega
    have hb : rb = b := by rcases he with u | u | u <;> omega
    have q := Wr e1
    refine ⟨by omega, by omega, fun v5 e5 _ => ?_⟩
    rw [hb, nb e1 N wN aN h6] at e5
    unfold w_X12_join_b414
    rw [e5]
    exact ⟨by unfold ri_; omega, done _ (Or.inr ⟨rfl, e1⟩)⟩
  · have e1 : e = 1 := by rcases he with u | u | u <;> omega
    have hW0 : W = 0 := by rcases he with u | u | u <;> omega
    unfold w_X12_join_b414
    exact ⟨by unfold ri_; omega, done _ (Or.inr ⟨by omega, e1⟩)⟩
