/-! rules worked out by the reference: a join -/
def H8j (R : MM) (x8 rb b : Int) : Prop := x8 = 1 ∨ x8 = 0 ∧ rb = b ∧ R 96 b ≠ 1
def HRb (rb a b : Int) : Prop := rb = -1 ∧ b = a ∨ rb = b
theorem jn_at {D A R : MM} {c : Nat} {p r k s : Int} {G : Nat → (Int → MM → Prop) → List Int → MM → Prop} (hw : PW D c) (p0 : 0 ≤ p) (p5 : p < 5) (oA : OKW A) (n40 : D c 0 ≤ 40) (hS : JS D c A p R) (hz : R 0 138 = 0 ∨ R 0 138 = 1) (hB : B01 (D c 0) R) (r0 : 0 ≤ r) (r1 : r < A 261 3) (k0 : 0 ≤ k) (k1 : k < A 266 r) (hP : PJk A (D c 0) (clD D c A) R r k)
    (hG : ∀ N, JS D c A p N → (N 0 138 = 0 ∨ N 0 138 = 1) → B01 (D c 0) N → PJk A (D c 0) (clD D c A) N r (k + 1) → ∀ Q : Int → MM → Prop, (∀ y R', JPo A (D c 0) (clD D c A) N r y R' → Q y R') → G 0 Q [r, k + 1] N)
    (hs : HSj A R r s) {Q : Int → MM → Prop} (hq : ∀ x R', JPo A (D c 0) (clD D c A) R r x R' → Q x R') : w_X12_join_b99 G Q r k s R := by
  have hr := hS.2.2.2.2.2 r r0 r1
  obtain ⟨g84, gk0, gk1, g85, g86, g87, gb1, gb4, ga0, ga1, gc0, gc1, g3, gh1, gh2, hat⟩ := id hr
  obtain ⟨t0, t1, t2, t3, t4, t5⟩ := hat k k0 k1
  have r12 := oA.2.2.2.1
  obtain ⟨i, ei⟩ : ∃ i, i = 4 * r + k := ⟨_, rfl⟩
  obtain ⟨a, ea⟩ : ∃ a, A 268 i = a := ⟨_, rfl⟩
  obtain ⟨b, eb⟩ : ∃ b, A 269 i = b := ⟨_, rfl⟩
  obtain ⟨rb, erb⟩ : ∃ rb, R 91 i = rb := ⟨_, rfl⟩
  obtain ⟨x7, e7⟩ : ∃ x7, x7 = R 96 a := ⟨_, rfl⟩
  have hrb : HRb rb a b := by
    unfold AtK at t0
    rw [← ei, ea, eb, erb] at t0
    rcases t0 with ⟨-, -, -, -, -, u⟩ | u | u | u | u
    · rcases u with u | u
      · exact Or.inl ⟨u.1, u.2.1⟩
      · exact Or.inr u.1
    · exact Or.inr u.2.2
    · exact Or.inl ⟨u.2.2.2.2, u.2.2.2.1⟩
    · exact Or.inr u.2.2
    · exact Or.inr u.2.2
  clear t0
  rw [← ei, ea] at t1 t2 t3
  rw [← ei, eb] at t4 t5
  have i0 : 0 ≤ i := by omega
  have i48 : i < 48 := by omega
  have ba := hB a t2 (by omega)
  have rg : ∀ v, 0 ≤ v → v < 9 → R 96 v = 1 → 0 ≤ R 93 v ∧ R 93 v < D c 0 := fun v a b e => by
    rcases hB v a b with w | w
    · omega
    · exact w.2
  -- the loop over things for the first variable
  have out : ∀ x8, H8j R x8 rb b → ∀ X0, (x7 = 0 ∧ X0 = 0 ∨ x7 = 1 ∧ X0 = R 93 a) → w_X12_join_b282 G Q r k s i a rb x7 x8 0 X0 R := fun x8 h8 X0 hX => by
    unfold w_X12_join_b282
    refine loopO _ _ _ _ _ _ _ _ _ (fun x9 x M => (x9 = 0 ∨ x9 = 1) ∧ 0 ≤ x ∧ (x7 = 1 → R 93 a ≤ x) ∧ SJ A (D c 0) (clD D c A) R M ∧ BW R M (fun _ => False) ∧ (x9 = 1 → hbJ A R r → hfJ A (D c 0) R M r) ∧ (M 0 138 = 0 → DnJ A (D c 0) (clD D c A) R r (fun β => β a < x))) (fun _ x _ => (D c 0 + 1 - x).toNat) ?_ _ _ _ ⟨Or.inl rfl, ?_, ?_, SJ_r hz, BW_r hB, fun q => absurd q (by decide), fun _ β ag bd _ hb => ?_⟩
    rotate_left
    · rcases hX with u | u
      · omega
      · rw [u.2]; exact (rg a t2 (by omega) (by omega)).1
    · intro u; rcases hX with v | v <;> omega
    · exfalso
      rcases hX with u | u
      · have := (bd a t2 t3).1; omega
      · have := ag a t2 t3 (by omega); omega
    rintro x9 x M f ⟨z9, x0, hx7, sM, wM, fM, dM⟩ ih
    have jM : JS D c A p M := JS_f hS sM.1
    have ex : (M 0 138 = 0 → DnJ A (D c 0) (clD D c A) R r (fun _ => True)) → w_X12_join_b537 G Q a rb x7 x8 x9 M := fun hd => by
      have fin : ∀ M', SJ A (D c 0) (clD D c A) R M' → BW R M' (fun _ => False) → (∀ q, q ≠ 93 → q ≠ 96 → M' q = M q) → Q x9 M' := fun M' s' w' e' => by
        have ef : FRk A (D c 0) M' = FRk A (D c 0) M := FRk_e (e' 94 (by decide) (by decide)) (e' 95 (by decide) (by decide)) (e' 61 (by decide) (by decide))
        exact hq x9 M' ⟨z9, s', w', fun u1 u2 => by unfold hfJ; rw [ef]; exact fM u1 u2, fun z => hd (by rw [← e' 0 (by decide) (by decide)]; exact z)⟩
      have b550 : ∀ M', SJ A (D c 0) (clD D c A) R M' → BW R M' (fun _ => False) → (∀ q, q ≠ 93 → q ≠ 96 → M' q = M q) → w_X12_join_b550 G Q a x7 x9 M' := fun M' s' w' e' => by
        unfold w_X12_join_b550
        refine ⟨fun _ => ⟨z9, fin M' s' w' e'⟩, fun u => ⟨t2, by omega, fun M2 e2 => ⟨z9, fin M2 (SJ_b s' (fun q _ v => by rw [e2, ux_g _ _ _ v])) (BW_z w' e2 (by omega)) (fun q v1 v2 => by rw [e2, ux_g _ _ _ v2]; exact e' q v1 v2)⟩⟩⟩
      unfold w_X12_join_b537
      refine ⟨fun _ => b550 M sM wM (fun _ _ _ => rfl), fun u => ?_⟩
      have h0 : rb = b ∧ R 96 b ≠ 1 := by rcases h8 with v | v; omega; exact v.2
      rw [h0.1]
      exact ⟨t4, by omega, fun M2 e2 => b550 M2 (SJ_b sM (fun q _ v => by rw [e2, ux_g _ _ _ v])) (BW_z wM e2 h0.2) (fun q v1 v2 => by rw [e2, ux_g _ _ _ v2])⟩
    have go : ∀ U, (x7 = 0 ∧ U = D c 0 ∨ x7 = 1 ∧ U = R 93 a + 1) → w_X12_join_b310 G Q f r k s i a rb x7 x8 x9 x U x M := fun U hU => by
      unfold w_X12_join_b310
      refine ⟨fun ux => ex (fun z β ag bd st _ => dM z β ag bd st ?_), fun ux => ?_⟩
      · rcases hU with u | u
        · have := (bd a t2 t3).2; omega
        · have := ag a t2 t3 (by omega); omega
      have xa : x < D c 0 ∧ (R 96 a = 1 → x = R 93 a) := by
        rcases hU with u | u
        · exact ⟨by omega, fun v => by omega⟩
        · have := hx7 u.1
          have := rg a t2 (by omega) (by omega)
          exact ⟨by omega, fun v => by omega⟩
      have it : w_X12_join_b322 G Q f r k s i a rb x7 x8 x9 x M := by
        unfold w_X12_join_b322
        refine ⟨t2, by omega, fun M1 e1 => ⟨t2, by omega, fun M2 e2 => ?_⟩⟩
        have w2 : BW R M2 (fun v => False ∨ v = a) := BW_u wM (by rw [e2, e1]) xa.2
        have o2 : ∀ q, q ≠ 93 → q ≠ 96 → M2 q = M q := fun q v1 v2 => by rw [e2, ux_g _ _ _ v2, e1, ux_g _ _ _ v1]
        have s2 := SJ_b sM o2
        have a2 : M2 93 a = x := by rw [e2, ux_g _ _ _ (by decide), e1, ux_s]
        have z2 : M2 0 138 = M 0 138 := by rw [o2 0 (by decide) (by decide)]
        have ef : FRk A (D c 0) M2 = FRk A (D c 0) M := FRk_e (o2 94 (by decide) (by decide)) (o2 95 (by decide) (by decide)) (o2 61 (by decide) (by decide))
        have inn : ∀ e W, HEj R e rb a b W x → w_X12_join_b390 G Q f r k s i a rb x7 x8 x9 x e W M2 := fun e W he => by
          refine jn_in hw p0 p5 oA n40 hS hB r0 r1 k0 k1 hP hG hs ei ea eb erb x0 xa.1 xa.2 he (fun N x9' sN wN zN fN dN => ?_) s2 w2 a2 z9 (fun u1 u2 => by unfold hfJ; rw [ef]; exact fM u1 u2) (fun z => dM (by rw [← z2]; exact z))
          unfold w_X12_join_b518 w_X12_join_b531
          have dn : N 0 138 = 0 → DnJ A (D c 0) (clD D c A) R r (fun β => β a < x + 1) := fun z β ag bd st hb => dN z β ag bd st (by omega)
          refine ⟨fun u => ⟨by unfold ri_; omega, ih _ _ _ ⟨zN, by omega, fun v => by have := hx7 v; omega, sN, BW_k wN (Or.inr ?_), fN, dn⟩ (by omega)⟩, fun u => ⟨t2, by omega, fun M3 e3 => ⟨by unfold ri_; omega, ?_⟩⟩⟩
          · rcases ba with v | v
            · exact absurd (by rw [e7]; exact v) u
            · exact v.1
          · have ef3 : FRk A (D c 0) M3 = FRk A (D c 0) N := FRk_e (by rw [e3, ux_g _ _ _ (by decide)]) (by rw [e3, ux_g _ _ _ (by decide)]) (by rw [e3, ux_g _ _ _ (by decide)])
            exact ih _ _ _ ⟨zN, by omega, fun v => by have := hx7 v; omega, SJ_b sN (fun q _ v => by rw [e3, ux_g _ _ _ v]), BW_d wN e3 id (by omega), fun u1 u2 => by unfold hfJ; rw [ef3]; exact fN u1 u2, fun z => dn (by rw [e3, ux_g _ _ _ (by decide)] at z; exact z)⟩ (by omega)
        have b355 : ∀ W, HEj R 1 rb a b W x → (rb = -1 → W = 0) → (rb ≠ -1 → W = M2 93 rb) → w_X12_join_b355 G Q f r k s i a rb x7 x8 x9 x M2 := fun W he h1 h2 => by
          unfold w_X12_join_b355 w_X12_join_b360 w_X12_join_b388
          refine ⟨fun u => absurd u (by decide), fun _ => ⟨fun u => ?_, fun u => by rw [← h1 u]; exact inn 1 W he⟩⟩
          have q : rb = b := by rcases hrb with v | v; exact absurd v.1 u; exact v
          exact ⟨by omega, by omega, fun v3 e3 _ => by rw [e3, ← h2 u]; exact inn 1 W he⟩
        refine ⟨fun u => ?_, fun u => ?_⟩
        · have q : b = a := by rcases hrb with v | v; exact v.2; omega
          exact b355 0 (Or.inl ⟨rfl, u, q, rfl⟩) (fun _ => rfl) (fun v => absurd u v)
        · have q : rb = b := by rcases hrb with v | v; exact absurd v.1 u; exact v
          have wb := w2 b t4 (by omega)
          refine ⟨by omega, by omega, fun v4 e4 _ => ⟨fun v => ?_, fun v => ?_⟩⟩
          · rw [q] at e4
            unfold w_X12_join_b360 w_X12_join_b388
            refine ⟨fun _ => inn 0 0 (Or.inr (Or.inr ⟨rfl, q, fun y => ?_, fun y => ?_, rfl⟩)), fun y => absurd rfl y⟩
            · have := wb.1 (Or.inl (Or.inr y)); omega
            · have := wb.1 (Or.inr y); omega
          · rw [q] at e4
            by_cases y : b = a
            · exact b355 x (Or.inr (Or.inl ⟨rfl, q, Or.inl ⟨y, rfl⟩⟩)) (fun y' => absurd y' u) (fun _ => by rw [q, y, a2])
            · have y' : R 96 b = 1 := Classical.not_not.mp (fun y' => v (by rw [e4]; exact wb.2.1 (fun h => h.elim id y) y'))
              exact b355 (R 93 b) (Or.inr (Or.inl ⟨rfl, q, Or.inr ⟨y', rfl⟩⟩)) (fun y'' => absurd y'' u) (fun _ => by rw [q]; exact (wb.2.2 y').symm)
      refine ⟨fun _ => it, fun h9 => ⟨fun h3 => ex (fun z => ?_), fun _ => it⟩⟩
      have hb : hbJ A R r := by rcases hs with h | h; exact h.2; omega
      exact DnJ_hf hr sM hb (fM (by omega) hb) z _
    unfold wb_X12_join_b282
    refine ⟨fun u => ?_, fun u => ⟨t2, by omega, fun v4 e4 _ => ?_⟩⟩
    · intro v2 e2 _
      rw [e2, jM.2.2.1]
      refine ⟨p0, p5, fun v3 e3 _ => ?_⟩
      rw [e3, ← jM.2.1.1]
      exact go _ (Or.inl ⟨u, rfl⟩)
    · have y : R 96 a = 1 := by rcases ba with v | v; omega; exact v.1
      have q := rg a t2 (by omega) y
      rw [(wM a t2 (by omega)).2.2 y] at e4
      rw [e4]
      exact ⟨by unfold ri_; omega, go _ (Or.inr ⟨by omega, rfl⟩)⟩
  have out2 : ∀ x8, H8j R x8 rb b → w_X12_join_b259 G Q r k s i a rb x7 x8 R := fun x8 h8 => by
    unfold w_X12_join_b259 w_X12_join_b280
    refine ⟨fun u => out x8 h8 0 (Or.inl ⟨u, rfl⟩), fun u => ⟨t2, by omega, fun v2 e2 _ => out x8 h8 v2 (Or.inr ⟨?_, e2⟩)⟩⟩
    rcases ba with v | v
    · omega
    · rw [e7]; exact v.1
  unfold w_X12_join_b99
  refine ⟨r0, by omega, fun v1 e1 _ => ⟨fun _ => ⟨by unfold ri_; omega, by unfold ri_; omega, by omega, by omega, fun v5 e5 _ => ⟨by omega, by omega, fun v6 e6 _ => ?_⟩⟩, fun y => by omega⟩⟩
  rw [← ei] at e5 e6 ⊢
  rw [t1] at e5
  rw [erb] at e6
  rw [e5, e6]
  refine ⟨t2, by omega, fun v7 e7' _ => ?_⟩
  rw [e7', ← e7]
  unfold w_X12_join_b254
  refine ⟨fun _ => out2 1 (Or.inl rfl), fun u => ?_⟩
  have q : rb = b := by rcases hrb with v | v; exact absurd v.1 u; exact v
  refine ⟨by omega, by omega, fun v9 e9 _ => ⟨fun y => out2 0 (Or.inr ⟨rfl, q, fun y' => ?_⟩), fun _ => out2 1 (Or.inl rfl)⟩⟩
  rw [q] at e9; omega
theorem p_join {D A : MM} {c : Nat} {p : Int} (hw : PW D c) (p0 : 0 ≤ p) (p5 : p < 5) (oA : OKW A) (n40 : D c 0 ≤ 40) : ∀ (d : Nat) (r k : Int) (R : MM), 0 ≤ r → r < A 261 3 → 0 ≤ k → k ≤ A 266 r → A 266 r - k < d → JS D c A p R → (R 0 138 = 0 ∨ R 0 138 = 1) → B01 (D c 0) R → PJk A (D c 0) (clD D c A) R r k → ∀ Q : Int → MM → Prop, (∀ x R', JPo A (D c 0) (clD D c A) R r x R' → Q x R') → gj_ d 0 Q [r, k] R := by
  intro d
  induction d with
  | zero => intro r k R r0 r1 k0 k1 kd; omega
  | succ d ih =>
  intro r k R r0 r1 k0 k1 kd hS hz hB hP Q hq
  have hr := hS.2.2.2.2.2 r r0 r1
  obtain ⟨g84, gk0, gk1, g85, g86, g87, gb1, gb4, ga0, ga1, gc0, gc1, g3, gh1, gh2, hat⟩ := id hr
  have r12 := oA.2.2.2.1
  have rg : ∀ v, 0 ≤ v → v < 9 → R 96 v = 1 → 0 ≤ R 93 v ∧ R 93 v < D c 0 := fun v a b e => by
    rcases hB v a b with w | w
    · omega
    · exact w.2
  show b_X12_join (gj_ d) Q r k R
  have core : ∀ s, HSj A R r s → (hbJ A R r → ¬ hfJ A (D c 0) R R r) → w_X12_join_b99 (gj_ d) Q r k s R := fun s hs no => by
    by_cases e : k = A 266 r
    · rw [e] at hP ⊢
      exact jn_head hr r0 r1 oA n40 hS.2.2.2.1 hB hP no hq
    · exact jn_at hw p0 p5 oA n40 hS hz hB r0 r1 k0 (by omega) hP (fun N j z b q Q' hq' => ih r (k + 1) N r0 r1 (by omega) (by omega) (by omega) j z b q Q' hq') hs hq
  have no0 : ¬ hbJ A R r → w_X12_join_b42 (gj_ d) Q r k R := fun h => by
    unfold w_X12_join_b42 w_X12_join_b43
    exact ⟨fun _ => core 0 (Or.inr ⟨rfl, h⟩) (fun q => absurd q h), fun q => absurd rfl q⟩
  have yes1 : hbJ A R r → w_X12_join_b38 (gj_ d) Q r k R := fun h => by
    have ra := rg _ ga0 (by omega) h.1
    have rb := rg _ gc0 (by omega) h.2
    have b91 : ∀ y, (A 273 (A 262 r) = 1 ∧ A 264 r = A 263 r ∨ A 273 (A 262 r) = 2 ∧ y = R 93 (A 264 r)) → w_X12_join_b91 (gj_ d) Q r k 1 y (R 93 (A 263 r)) (A 262 r) R := fun y hy => by
      unfold w_X12_join_b91
      refine p_fN (b' := R 93 (A 264 r)) gk0 gk1 oA.2.1 n40 (hS.2.2.2.1 _ gk0 gk1) ?_ ra.1 ra.2 ?_ (fun q _ => ⟨fun u => absurd u (by decide), fun _ => hq 1 R ⟨Or.inr rfl, SJ_r hz, BW_r hB, fun _ _ => q, fun z => DnJ_hf hr (SJ_r hz) h q z _⟩⟩) (fun q _ => ⟨fun _ => core 1 (Or.inl ⟨rfl, h⟩) (fun _ => q), fun u => absurd rfl u⟩)
      · rcases hy with u | u
        · exact Or.inl u.1
        · exact Or.inr ⟨u.1, by rw [u.2]; exact rb⟩
      · rcases hy with u | u
        · exact Or.inl ⟨u.1, by rw [u.2]⟩
        · exact Or.inr ⟨u.1, u.2.symm⟩
    unfold w_X12_join_b38 w_X12_join_b43
    refine ⟨fun q => absurd q (by decide), fun _ => ⟨r0, by omega, fun v2 e2 _ => ⟨r0, by omega, fun v3 e3 _ => ?_⟩⟩⟩
    rw [g84] at e2
    rw [e2, e3, g85]
    refine ⟨ga0, by omega, fun v4 e4 _ => ⟨r0, by omega, fun v5 e5 _ => ?_⟩⟩
    rw [e4, e5]
    refine ⟨fun u => ⟨r0, by omega, fun v7 e7 _ => ?_⟩, fun u => b91 0 ?_⟩
    · rcases g86 with v | v
      · exact absurd v.1 u
      · rw [e7, v.1]
        exact ⟨gc0, by omega, fun v8 e8 _ => b91 v8 (Or.inr ⟨v.2, e8⟩)⟩
    · rcases g86 with v | v
      · exact Or.inl ⟨v.2.2, v.2.1⟩
      · omega
  unfold b_X12_join
  refine ⟨r0, by omega, fun v1 e1 _ => ?_⟩
  rw [e1, g85]
  refine ⟨ga0, by omega, fun v2 e2 o2 => ⟨fun u => no0 (fun h => by have := h.1; omega), fun u => ⟨r0, by omega, fun v4 e4 _ => ⟨fun u4 => yes1 ?_, fun u4 => ⟨r0, by omega, fun v6 e6 _ => ?_⟩⟩⟩⟩⟩
  · rcases g86 with v | v
    · exact ⟨by omega, by rw [v.2.1]; omega⟩
    · omega
  · rcases g86 with v | v
    · omega
    · rw [e6, v.1]
      exact ⟨gc0, by omega, fun v7 e7 o7 => ⟨fun w => no0 (fun h => by have := h.2; omega), fun w => yes1 ⟨by omega, by omega⟩⟩⟩
