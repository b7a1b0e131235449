/-! doubles: the class -/
theorem jand_511 (x : Int) : jand x 511 = x % 512 := by
  unfold jand
  rw [pk_and (Ii x) (m := Ii 511) 9 (by decide), Ii_nat, nI_toInt (by omega)]
  show ((((x % 4294967296).toNat % 512 : Nat)) : Int) = x % 512
  omega
def bS (C : MM) (c : Nat) (t : Int) : Nat → Int
  | 0 => w64 (w64 (C (c + 2) t * 61) + C (c + 3) t)
  | k + 1 => w64 (w64 (bS C c t k * 31) + C (c + 9) (C (c + 4) t + k))
def bF (C : MM) (c : Nat) (t : Int) : Int := jand (w32 (jlxor (jlxor (bS C c t (pcn C c t).toNat) (jlushr (bS C c t (pcn C c t).toNat) 9)) (jlushr (bS C c t (pcn C c t).toNat) 32))) 511
theorem bF_bd (C : MM) (c : Nat) (t : Int) : 0 ≤ bF C c t ∧ bF C c t < 512 := by unfold bF; rw [jand_511]; omega
theorem bF_db {C : MM} {c : Nat} {t u : Int} (h : db C c t u) : bF C c t = bF C c u := by
  have key : ∀ k : Nat, (k : Int) ≤ pcn C c t → bS C c t k = bS C c u k := by
    intro k
    induction k with
    | zero => intro _; show w64 (w64 (C (c + 2) t * 61) + C (c + 3) t) = w64 (w64 (C (c + 2) u * 61) + C (c + 3) u); rw [h.1, h.2.1]
    | succ k ih =>
      intro hk
      show w64 (w64 (bS C c t k * 31) + C (c + 9) (C (c + 4) t + k)) = w64 (w64 (bS C c u k * 31) + C (c + 9) (C (c + 4) u + k))
      rw [ih (by omega), h.2.2 k (by omega) (by omega)]
  have e := db_p h
  have : bS C c t (pcn C c t).toNat = bS C c u (pcn C c u).toNat := by
    by_cases z : 0 ≤ pcn C c t
    · rw [key _ (by omega), e]
    · rw [← e, show (pcn C c t).toNat = 0 from by omega]
      show w64 (w64 (C (c + 2) t * 61) + C (c + 3) t) = w64 (w64 (C (c + 2) u * 61) + C (c + 3) u)
      rw [h.1, h.2.1]
  unfold bF
  rw [this]
theorem p_bucketOf {Q : Int → MM → Prop} {C R0 M : MM} {c : Nat} {t : Int} (hY : Rty C R0) (hw : PW C c) (fb : ∀ k, c ≤ k → k ≤ c + 12 → M k = C k) (t0 : 0 ≤ t) (t1 : t < C c 0) (hq : Q (bF C c t) M) : w_X8_bucketOf c Q t M := by
  have n4 := hw.2.1
  have hpc := pw_bd hY hw t0 t1
  have ht1 := (hw.2.2.2.1 t t0 t1).2.2.2.2.2.2.1
  have hf := pw_f hY hw t0 (by omega)
  have hf2 := pw_f hY hw (t := t + 1) (by omega) (by omega)
  have hmx := hw.2.2.2.2.1
  unfold w_X8_bucketOf w_X8_bucketOf_b28
  refine ⟨t0, by omega, fun v1 g1 _ => ⟨t0, by omega, fun v2 g2 _ => ⟨t0, by omega, fun v3 g3 _ => ?_⟩⟩⟩
  rw [fb (c + 2) (by omega) (by omega)] at g1
  rw [fb (c + 3) (by omega) (by omega)] at g2
  rw [fb (c + 4) (by omega) (by omega)] at g3
  refine loop4 _ (fun (x s a : Int) M1 => t = x ∧ M1 = M ∧ C (c + 4) t ≤ a ∧ a ≤ C (c + 4) (t + 1) ∧ s = bS C c t (a - C (c + 4) t).toNat) (fun (_ _ a : Int) _ => (C (c + 4) (t + 1) - a).toNat) ?_ _ _ _ _ ⟨rfl, rfl, by omega, by omega, by rw [g3, show (C (c + 4) t - C (c + 4) t).toNat = 0 from by omega, g1, g2]; rfl⟩
  rintro x s a M1 f ⟨rfl, rfl, a0, a1, hs⟩ ih
  have ew : w32 (t + 1) = t + 1 := w32_of (by unfold ri_; omega)
  unfold wb_X8_bucketOf_b28
  rw [ew]
  refine ⟨by omega, by omega, fun v1 g1 _ => ?_⟩
  rw [fb (c + 4) (by omega) (by omega)] at g1
  refine ⟨fun z => ?_, fun z => ⟨by omega, by omega, fun v3 g3 _ => ⟨by unfold ri_; omega, ih _ _ _ _ ⟨rfl, rfl, by omega, by omega, ?_⟩ (by omega)⟩⟩⟩
  · have : (a - C (c + 4) t).toNat = (pcn C c t).toNat := by omega
    rw [this] at hs
    rw [hs]
    exact hq
  · rw [fb (c + 9) (by omega) (by omega)] at g3
    rw [show (a + 1 - C (c + 4) t).toNat = (a - C (c + 4) t).toNat + 1 from by omega, g3, hs]
    show _ = w64 (w64 (bS C c t (a - C (c + 4) t).toNat * 31) + C (c + 9) (C (c + 4) t + ((a - C (c + 4) t).toNat : Nat)))
    rw [show C (c + 4) t + ((a - C (c + 4) t).toNat : Nat) = a from by omega]
theorem p_isTwin {Q : Int → MM → Prop} {C R0 M : MM} {c : Nat} {t u : Int} (hY : Rty C R0) (hw : PW C c) (fb : ∀ k, c ≤ k → k ≤ c + 12 → M k = C k) (t0 : 0 ≤ t) (t1 : t < C c 0) (u0 : 0 ≤ u) (u1 : u < C c 0) (q1 : db C c t u → Q 1 M) (q0 : ¬ db C c t u → Q 0 M) : w_X8_isTwin c Q t u M := by
  have n4 := hw.2.1
  have hpc := pw_bd hY hw t0 t1
  have ht1 := (hw.2.2.2.1 t t0 t1).2.2.2.2.2.2.1
  have hf := pw_f hY hw t0 (by omega)
  have hf2 := pw_f hY hw (t := t + 1) (by omega) (by omega)
  have hu1 := (hw.2.2.2.1 u u0 u1).2.2.2.2.2.2.1
  have hfu := pw_f hY hw u0 (by omega)
  have hfu2 := pw_f hY hw (t := u + 1) (by omega) (by omega)
  have hmx := hw.2.2.2.2.1
  unfold w_X8_isTwin w_X8_isTwin_b54
  refine ⟨t0, by omega, fun v1 g1 _ => ⟨u0, by omega, fun v2 g2 _ => ?_⟩⟩
  rw [fb (c + 2) (by omega) (by omega)] at g1 g2
  refine ⟨fun z => q0 fun h => z (by rw [g1, g2]; exact h.1), fun z => ⟨t0, by omega, fun v4 g4 _ => ⟨u0, by omega, fun v5 g5 _ => ?_⟩⟩⟩
  rw [fb (c + 3) (by omega) (by omega)] at g4 g5
  refine ⟨fun z2 => ⟨u0, by omega, fun v7 g7 _ => ⟨t0, by omega, fun v8 g8 _ => ?_⟩⟩, fun z2 => q0 fun h => z2 (by rw [g4, g5]; exact h.2.1)⟩
  rw [fb (c + 4) (by omega) (by omega)] at g7 g8
  have e2 : C (c + 2) t = C (c + 2) u := by rw [← g1, ← g2]; exact z
  have e3 : C (c + 3) t = C (c + 3) u := by rw [← g4, ← g5]; exact z2
  have ep : pcn C c t = pcn C c u := by unfold pcn; rw [e2, e3]
  refine ⟨by unfold ri_; omega, t0, by omega, fun v10 g10 _ => ?_⟩
  rw [fb (c + 4) (by omega) (by omega)] at g10
  refine loop4 _ (fun (x d a : Int) M1 => t = x ∧ v7 - v8 = d ∧ M1 = M ∧ C (c + 4) t ≤ a ∧ a ≤ C (c + 4) (t + 1) ∧ ∀ k, 0 ≤ k → C (c + 4) t + k < a → C (c + 9) (C (c + 4) t + k) = C (c + 9) (C (c + 4) u + k)) (fun (_ _ a : Int) _ => (C (c + 4) (t + 1) - a).toNat) ?_ _ _ _ _ ⟨rfl, rfl, rfl, by omega, by omega, fun k a b => by omega⟩
  rintro x d a M1 f ⟨rfl, rfl, rfl, a0, a1, hk⟩ ih
  unfold wb_X8_isTwin_b54
  refine ⟨by unfold ri_; omega, by omega, by omega, fun v2' g2' _ => ?_⟩
  rw [fb (c + 4) (by omega) (by omega)] at g2'
  refine ⟨fun y => q1 ⟨e2, e3, fun k k0 k1 => hk k k0 (by omega)⟩, fun y => ⟨by omega, by omega, fun v4' g4' _ => ⟨by unfold ri_; omega, by omega, by omega, fun v6 g6 _ => ?_⟩⟩⟩
  rw [fb (c + 9) (by omega) (by omega)] at g4' g6
  have ea : a = C (c + 4) t + (a - C (c + 4) t) := by omega
  have eb : a + (v7 - v8) = C (c + 4) u + (a - C (c + 4) t) := by omega
  refine ⟨fun y2 => ⟨by unfold ri_; omega, ih _ _ _ _ ⟨rfl, rfl, rfl, by omega, by omega, fun k k0 k1 => ?_⟩ (by omega)⟩, fun y2 => q0 fun h => y2 ?_⟩
  · by_cases e : C (c + 4) t + k < a
    · exact hk k k0 e
    · have : k = a - C (c + 4) t := by omega
      rw [this, ← ea, ← eb, ← g4', ← g6]; exact y2
  · have := h.2.2 (a - C (c + 4) t) (by omega) (by omega)
    rw [← ea, ← eb] at this
    rw [g4', g6]; exact this
/-- the first of its kind -/
def fD (C : MM) (c : Nat) (u : Int) : Prop := ∀ v, 0 ≤ v → v < u → ¬ db C c v u
theorem fD_u {C : MM} {c : Nat} {r r' : Int} (h : fD C c r) (h' : fD C c r') (r0 : 0 ≤ r) (r0' : 0 ≤ r') (hd : db C c r r') : r = r' := by
  by_cases q : r < r'
  · exact absurd hd (h' r r0 q)
  · by_cases q2 : r' < r
    · exact absurd (db_s hd) (h r' r0' q2)
    · omega
/-- the last first one of a bucket, below x -/
def LR (C : MM) (c : Nat) (b x r : Int) : Prop := (r = -1 ∨ (0 ≤ r ∧ r < x ∧ fD C c r ∧ bF C c r = b)) ∧ ∀ u, 0 ≤ u → r < u → u < x → fD C c u → bF C c u ≠ b
def tW (c k : Nat) : Prop := k = c + 26 ∨ k = c + 28 ∨ k = c + 30 ∨ k = c + 31 ∨ k = c + 32
def FGt (C M : MM) (c : Nat) : Prop := (∀ k, k ≠ c + 18 → ¬ tW c k → M k = C k) ∧ (∀ i, i ≠ 1 → i ≠ 11 → M (c + 18) i = C (c + 18) i) ∧ M (c + 18) 1 = jor (C (c + 18) 1) 8
theorem FGt_u {C M : MM} {c : Nat} (h : FGt C M c) {k : Nat} (hk : tW c k) (i v : Int) : FGt C (ux_ M k i v) c := by
  have hk2 : c + 18 ≠ k := by unfold tW at hk; omega
  exact ⟨fun q a d => by rw [ux_g _ _ _ (fun e => d (by rw [e]; exact hk)), h.1 q a d], fun j hj hj' => by rw [ux_c _ _ _ _ hk2, h.2.1 j hj hj'], by rw [ux_c _ _ _ _ hk2, h.2.2]⟩
theorem FGt_11 {C M : MM} {c : Nat} (h : FGt C M c) (v : Int) : FGt C (ux_ M (c + 18) 11 v) c := ⟨fun q a d => by rw [ux_g _ _ _ a, h.1 q a d], fun j hj hj' => by rw [ux_i _ _ _ hj', h.2.1 j hj hj'], by rw [ux_i _ _ _ (by decide), h.2.2]⟩
set_option maxHeartbeats 1000000 in
theorem p_needTwins {Q : Int → MM → Prop} {C R0 : MM} {c : Nat} (hY : Rty C R0) (hw : PW C c) (h0 : jand (C (c + 18) 1) 8 ≠ 0 → Q 0 C) (h1 : jand (C (c + 18) 1) 8 = 0 → ∀ M, FGt C M c → GPf C c (M (c + 26)) (M (c + 18) 11) → Q 0 M) : w_X8_needTwins (c + 18) c Q C := by
  have n0 := hw.1
  have n4 := hw.2.1
  have nn : (((C c 0).toNat : Nat) : Int) = C c 0 := by omega
  unfold w_X8_needTwins
  intro v1 g1 _
  rw [g1]
  refine ⟨fun z => ?_, h0⟩
  intro v3 g3 _ M4 e4
  have fbs : ∀ M1, FGt C M1 c → ∀ k, c ≤ k → k ≤ c + 12 → M1 k = C k := fun M1 h k a b => h.1 k (by omega) (by unfold tW; omega)
  have F4 : FGt C M4 c := ⟨fun k a b => by rw [e4, ux_g _ _ _ a], fun i hi _ => by rw [e4, ux_i _ _ _ hi], by rw [e4, ux_s, g3]⟩
  -- numbers
  have second : ∀ M, FGt C M c → (∀ u, 0 ≤ u → u < C c 0 → 0 ≤ M (c + 26) u ∧ M (c + 26) u ≤ u ∧ fD C c (M (c + 26) u) ∧ db C c (M (c + 26) u) u) → (∀ r, 0 ≤ r → r < C c 0 → fD C c r → M (c + 28) r = rk (db C c r) (C c 0).toNat) → M (c + 18) 11 = 0 → w_X8_needTwins_b164 (c + 18) c Q 0 M := by
    intro M hF h2 h3 h4
    refine loop2 _ (fun (x : Int) M2 => 0 ≤ x ∧ x ≤ C c 0 ∧ FGt C M2 c ∧ M2 (c + 28) = M (c + 28) ∧ M2 (c + 18) 11 = rk (rpG C c) x.toNat ∧ (∀ u, x ≤ u → u < C c 0 → M2 (c + 26) u = M (c + 26) u) ∧ (∀ r, 0 ≤ r → r < x → fD C c r → (rpG C c r → M2 (c + 30) r = rk (rpG C c) r.toNat) ∧ (¬ rpG C c r → M2 (c + 30) r = -1)) ∧ ∀ u, 0 ≤ u → u < x → (M2 (c + 26) u = -1 ∧ ∀ r, 0 ≤ r → r < C c 0 → rpG C c r → ¬ db C c r u) ∨ (∃ r, 0 ≤ r ∧ r < C c 0 ∧ rpG C c r ∧ db C c r u ∧ M2 (c + 26) u = rk (rpG C c) r.toNat)) (fun (x : Int) _ => (C c 0 - x).toNat) ?_ _ _ ⟨by omega, n0, hF, rfl, by rw [h4]; rfl, fun _ _ _ => rfl, fun r a b => by omega, fun u a b => by omega⟩
    rintro x M2 f ⟨x0, x1, F2, l2, r2, g2, p2, d2⟩ ih
    have fb := fbs M2 F2
    unfold wb_X8_needTwins_b164
    intro v1 y1 _
    rw [fb c (by omega) (by omega)] at y1
    subst y1
    refine ⟨fun zz => h1 z M2 F2 ⟨?_, fun u u0 u1 => d2 u u0 (by omega)⟩, fun zz => ⟨x0, by omega, fun v3 y3 _ => ?_⟩⟩
    · rw [r2, show x = C c 0 from by omega]
    have xn : x < C c 0 := by omega
    have xx : ((x.toNat : Nat) : Int) = x := by omega
    have y3' : v3 = M (c + 26) x := by rw [← g2 x (Int.le_refl _) xn]; exact y3
    obtain ⟨s0, s1, s2, s3⟩ := h2 x x0 xn
    rw [← y3'] at s0 s1 s2 s3
    have rkb := rk_bd (rpG C c) x.toNat
    have fin : ∀ M3, FGt C M3 c → M3 (c + 28) = M (c + 28) → M3 (c + 18) 11 = rk (rpG C c) (x.toNat + 1) → M3 (c + 26) = M2 (c + 26) → (∀ r, r ≠ x → M3 (c + 30) r = M2 (c + 30) r) → (∀ r, 0 ≤ r → r ≤ x → fD C c r → (rpG C c r → M3 (c + 30) r = rk (rpG C c) r.toNat) ∧ (¬ rpG C c r → M3 (c + 30) r = -1)) → w_X8_needTwins_b232 (c + 18) c Q f x v3 M3 := by
      intro M3 F3 l3 r3 g3 q3 q4
      unfold w_X8_needTwins_b232
      refine ⟨s0, by omega, fun w1 k1 _ => ⟨x0, by omega, fun M5 e5 => ⟨by unfold ri_; omega, ih _ _ ⟨by omega, by omega, by rw [e5]; exact FGt_u F3 (by unfold tW; omega) _ _, by rw [e5, ux_g _ _ _ (by omega)]; exact l3, by rw [e5, ux_c _ _ _ _ (by omega), r3, show (x + 1).toNat = x.toNat + 1 from by omega], fun u a b => ?_, fun r b0 b1 b2 => ?_, fun u a b => ?_⟩ (by omega)⟩⟩⟩
      · rw [e5, show c + 18 + 8 = c + 26 from by omega, ux_i _ _ _ (by omega), g3]; exact g2 u (by omega) b
      · rw [e5, ux_c _ _ _ _ (by omega)]; exact q4 r b0 (by omega) b2
      · rw [e5, show c + 18 + 8 = c + 26 from by omega]
        by_cases e : u = x
        · rw [e, ux_s]
          have k1' : w1 = M3 (c + 30) v3 := k1
          rw [k1']
          have q := q4 v3 s0 s1 s2
          by_cases hs : rpG C c v3
          · exact Or.inr ⟨v3, s0, by omega, hs, s3, q.1 hs⟩
          · refine Or.inl ⟨q.2 hs, fun r b0 b1 b2 w => hs ?_⟩
            have := fD_u (C := C) (c := c) b2.1 s2 b0 s0 (db_t w (db_s s3))
            rw [← this]; exact b2
        · rw [ux_i _ _ _ e, g3]; exact d2 u a (by omega)
    refine ⟨fun ne => ?_, fun eq => ⟨x0, by omega, fun v5 y5 _ => ?_⟩⟩
    · refine fin M2 F2 l2 ?_ rfl (fun _ _ => rfl) (fun r b0 b1 b2 => ?_)
      · rw [(rk_s x.toNat).2 (by rw [xx]; exact fun q => q.1 v3 s0 (by omega) s3), r2]
      · by_cases e : r = x
        · rw [e] at b2
          exact absurd s3 (b2 v3 s0 (by omega))
        · exact p2 r b0 (by omega) b2
    · rw [eq] at s2
      have y5' : v5 = rk (db C c x) (C c 0).toNat := by
        rw [← h3 x x0 xn s2, ← l2]; exact y5
      have two := (rk_two (P := db C c x) (n := (C c 0).toNat) x0 (by omega) (db_r C c x)).1
      rw [← y5', nn] at two
      have rpx : rpG C c x ↔ 1 < v5 := by
        rw [two]
        constructor
        · rintro ⟨-, u, a1, a2, a3⟩; exact ⟨u, by clear two; omega, a2, by clear two; omega, a3⟩
        · rintro ⟨u, a1, a2, a3, a4⟩
          refine ⟨s2, u, ?_, a2, a4⟩
          by_cases q : u < x
          · exact absurd (db_s a4) (s2 u a1 q)
          · clear two; omega
      clear two
      have step : ∀ w, (rpG C c x → w = rk (rpG C c) x.toNat) → (¬ rpG C c x → w = -1) → w_X8_needTwins_b207 (c + 18) c Q f x v3 w x M2 := by
        intro w w1 w2
        unfold w_X8_needTwins_b207
        refine ⟨x0, by omega, fun M5 e5 v6 b6 _ => ⟨x0, by omega, fun v7 b7 _ => ?_⟩⟩
        have F5 : FGt C M5 c := by rw [e5]; exact FGt_u F2 (by unfold tW; omega) _ _
        have b6' : v6 = rk (rpG C c) x.toNat := by rw [b6, e5, ux_c _ _ _ _ (by omega), r2]
        have b7' : v7 = v5 := by rw [b7, e5, ux_c _ _ _ _ (by omega)]; exact y5.symm
        have last : ∀ y : Int, (rpG C c x → y = 1) → (¬ rpG C c x → y = 0) → w_X8_needTwins_b228 (c + 18) c Q f x v3 y v6 M5 := by
          intro y y1 y2
          unfold w_X8_needTwins_b228
          have yb : y = 0 ∨ y = 1 := by by_cases q : rpG C c x; exact Or.inr (y1 q); exact Or.inl (y2 q)
          refine ⟨by unfold ri_; omega, fun M8 e8 => fin M8 (by rw [e8]; exact FGt_11 F5 _) (by rw [e8, ux_g _ _ _ (by omega), e5, ux_g _ _ _ (by omega), l2]) ?_ (by rw [e8, ux_g _ _ _ (by omega), e5, ux_g _ _ _ (by omega)]) (fun r hr => by rw [e8, ux_c _ _ _ _ (by omega), e5, show c + 18 + 12 = c + 30 from by omega, ux_i _ _ _ hr]) (fun r b0 b1 b2 => ?_)⟩
          · rw [e8, ux_s, b6']
            by_cases q : rpG C c x
            · rw [(rk_s x.toNat).1 (by rw [xx]; exact q), y1 q]
            · rw [(rk_s x.toNat).2 (by rw [xx]; exact q), y2 q]; omega
          · rw [e8, ux_c _ _ _ _ (by omega), e5, show c + 18 + 12 = c + 30 from by omega]
            by_cases e : r = x
            · rw [e, ux_s]; exact ⟨w1, w2⟩
            · rw [ux_i _ _ _ e]; exact p2 r b0 (by omega) b2
        rw [b7']
        exact ⟨fun q => last 0 (fun y => by have := rpx.mp y; omega) (fun _ => rfl), fun q => last 1 (fun _ => rfl) (fun y => absurd (rpx.mpr (by omega)) y)⟩
      refine ⟨fun q => step (-1) (fun y => by have := rpx.mp y; omega) (fun _ => rfl), fun q v7 b7 _ => step v7 (fun _ => by rw [b7]; exact r2) (fun y => absurd (rpx.mpr (by omega)) y)⟩
  refine p_fillI (by omega) ?_
  obtain ⟨M6, e6⟩ : ∃ M6, M6 = filled M4 (c + 18 + 14) 0 (512 : Nat) (-1) := ⟨_, rfl⟩
  rw [← e6]
  have f6 : ∀ k, k ≠ c + 32 → M6 k = M4 k := fun k a => funext fun i => by rw [e6]; unfold filled; rw [if_neg (by omega)]
  have F6 : FGt C M6 c := ⟨fun k a b => by rw [f6 k (by unfold tW at b; omega), F4.1 k a b], fun i a b => by rw [f6 _ (by omega), F4.2.1 i a b], by rw [f6 _ (by omega), F4.2.2]⟩
  have b6 : ∀ b, 0 ≤ b → b < 512 → M6 (c + 32) b = -1 := fun b a d => by rw [e6]; unfold filled; rw [if_pos (by omega)]
  refine loop2 _ (fun (x : Int) M2 => 0 ≤ x ∧ x ≤ C c 0 ∧ FGt C M2 c ∧ (∀ b, 0 ≤ b → b < 512 → LR C c b x (M2 (c + 32) b)) ∧ (∀ u, 0 ≤ u → u < x → fD C c u → LR C c (bF C c u) u (M2 (c + 31) u)) ∧ (∀ u, 0 ≤ u → u < x → 0 ≤ M2 (c + 26) u ∧ M2 (c + 26) u ≤ u ∧ fD C c (M2 (c + 26) u) ∧ db C c (M2 (c + 26) u) u) ∧ (∀ r, 0 ≤ r → r < x → fD C c r → M2 (c + 28) r = rk (db C c r) x.toNat)) (fun (x : Int) _ => (C c 0 - x).toNat) ?_ _ _ ⟨by omega, n0, F6, fun b a d => ⟨Or.inl (b6 b a d), fun u _ _ q => by omega⟩, fun u a b => by omega, fun u a b => by omega, fun r a b => by omega⟩
  rintro x M2 f ⟨x0, x1, F2, k1, k2, k3, k4⟩ ih
  have fb := fbs M2 F2
  unfold wb_X8_needTwins_b32
  intro v1 y1 _
  rw [fb c (by omega) (by omega)] at y1
  subst y1
  refine ⟨fun zz M3 e3 => second M3 (by rw [e3]; exact FGt_11 F2 _) (fun u a b => by rw [e3, ux_c _ _ _ _ (by omega)]; exact k3 u a (by omega)) (fun r a b d => by rw [e3, ux_c _ _ _ _ (by omega), k4 r a (by omega) d, show x = C c 0 from by omega]) (by rw [e3, ux_s]), fun zz => ?_⟩
  have xn : x < C c 0 := by omega
  have xx : ((x.toNat : Nat) : Int) = x := by omega
  have bb := bF_bd C c x
  refine p_bucketOf hY hw fb x0 xn fun _ => ⟨bb.1, bb.2, fun v6 y6 _ => ?_⟩
  have y6' : v6 = M2 (c + 32) (bF C c x) := y6
  -- its kind is known, or new
  have fin : ∀ s M3, 0 ≤ s → s ≤ x → fD C c s → db C c s x → FGt C M3 c → (∀ b, 0 ≤ b → b < 512 → LR C c b (x + 1) (M3 (c + 32) b)) → (∀ u, 0 ≤ u → u ≤ x → fD C c u → LR C c (bF C c u) u (M3 (c + 31) u)) → M3 (c + 26) = M2 (c + 26) → (∀ r, 0 ≤ r → r ≤ x → (r = x → s = x) → fD C c r → M3 (c + 28) r = rk (db C c r) x.toNat) → w_X8_needTwins_b132 (c + 18) c Q f x s M3 := by
    intro s M3 s0 s1 s2 s3 F3 q1 q2 q3 q4
    unfold w_X8_needTwins_b132
    refine ⟨x0, by omega, fun M5 e5 => ⟨s0, by omega, fun v2 b2 _ => ?_⟩⟩
    have b2' : v2 = rk (db C c s) x.toNat := by
      rw [b2, e5, ux_c _ _ _ _ (by omega)]
      exact q4 s s0 s1 (fun q => q) s2
    have rb := rk_bd (db C c s) x.toNat
    refine ⟨by unfold ri_; omega, s0, by omega, fun M7 e7 => ⟨by unfold ri_; omega, ih _ _ ⟨by omega, by omega, ?_, fun b a d => ?_, fun u a b d => ?_, fun u a b => ?_, fun r a b d => ?_⟩ (by omega)⟩⟩
    · rw [e7, e5]; exact FGt_u (FGt_u F3 (by unfold tW; omega) _ _) (by unfold tW; omega) _ _
    · rw [e7, ux_c _ _ _ _ (by omega), e5, ux_c _ _ _ _ (by omega)]; exact q1 b a d
    · rw [e7, ux_c _ _ _ _ (by omega), e5, ux_c _ _ _ _ (by omega)]; exact q2 u a (by omega) d
    · rw [e7, ux_c _ _ _ _ (by omega), e5, show c + 18 + 8 = c + 26 from by omega]
      by_cases e : u = x
      · rw [e, ux_s]; exact ⟨s0, s1, s2, s3⟩
      · rw [ux_i _ _ _ e, q3]; exact k3 u a (by omega)
    · rw [e7, show c + 18 + 10 = c + 28 from by omega, show (x + 1).toNat = x.toNat + 1 from by omega]
      by_cases e : r = s
      · rw [e, ux_s, (rk_s x.toNat).1 (by rw [xx]; exact s3), b2']
      · have hn : ¬ db C c r x := fun q => e (fD_u d s2 a s0 (db_t q (db_s s3)))
        have rx : r ≠ x := fun q => hn (by rw [q]; exact db_r C c x)
        rw [ux_i _ _ _ e, e5, ux_c _ _ _ _ (by omega), (rk_s x.toNat).2 (by rw [xx]; exact hn)]
        exact q4 r a (by omega) (fun q => absurd q rx) d
  refine loop5 _ (fun (a b s k : Int) M3 => x = a ∧ bF C c x = b ∧ M3 = M2 ∧ 0 ≤ k ∧ s + k ≤ x - 1 ∧ (s = -1 ∨ (0 ≤ s ∧ s < x ∧ fD C c s ∧ bF C c s = bF C c x)) ∧ ∀ u, 0 ≤ u → s < u → u < x → fD C c u → ¬ db C c u x) (fun (_ _ _ k : Int) _ => (C c 0 - k).toNat) ?_ _ _ _ _ _ ⟨rfl, rfl, rfl, by omega, ?_, ?_, ?_⟩
  · rintro a b s k M3 g ⟨rfl, rfl, rfl, k0, ks, hs, hn⟩ ih2
    unfold wb_X8_needTwins_b57
    intro v1 y1 _
    rw [fb c (by omega) (by omega)] at y1
    subst y1
    refine ⟨fun q => by rcases hs with y | y <;> omega, fun q => ⟨fun e => ?_, fun e => ?_⟩⟩
    · -- new
      have fx : fD C c x := fun v v0 v1 hv => by
        obtain ⟨a1, a2, a3, a4⟩ := k3 v v0 v1
        exact hn _ a1 (by omega) (by omega) a3 (db_t a4 hv)
      unfold w_X8_needTwins_b97
      refine ⟨fun q => absurd e q, fun _ => ⟨bb.1, bb.2, fun v2 b2 _ => ⟨x0, by omega, fun M5 e5 => ⟨bb.1, bb.2, fun M7 e7 => ⟨x0, by omega, fun M8 e8 => ?_⟩⟩⟩⟩⟩
      have b2' : v2 = M3 (c + 32) (bF C c x) := b2
      refine fin x M8 x0 (Int.le_refl _) fx (db_r C c x) ?_ (fun b a d => ?_) (fun u a b d => ?_) ?_ (fun r a b _ d => ?_)
      · rw [e8, e7, e5]; exact FGt_u (FGt_u (FGt_u F2 (by unfold tW; omega) _ _) (by unfold tW; omega) _ _) (by unfold tW; omega) _ _
      · rw [e8, ux_c _ _ _ _ (by omega), e7, show c + 18 + 14 = c + 32 from by omega]
        by_cases y : b = bF C c x
        · rw [y, ux_s]
          exact ⟨Or.inr ⟨x0, by omega, fx, rfl⟩, fun u a b d => by omega⟩
        · rw [ux_i _ _ _ y, e5, ux_c _ _ _ _ (by omega)]
          obtain ⟨w1, w2⟩ := k1 b a d
          refine ⟨by rcases w1 with w | w; exact Or.inl w; exact Or.inr ⟨w.1, by omega, w.2.2⟩, fun u u0 u1 u2 u3 => ?_⟩
          by_cases e : u = x
          · rw [e]; exact fun q => y q.symm
          · exact w2 u u0 u1 (by omega) u3
      · rw [e8, ux_c _ _ _ _ (by omega), e7, ux_c _ _ _ _ (by omega), e5, show c + 18 + 13 = c + 31 from by omega]
        by_cases y : u = x
        · rw [y, ux_s, b2']; exact k1 _ bb.1 bb.2
        · rw [ux_i _ _ _ y]; exact k2 u a (by omega) d
      · rw [e8, ux_g _ _ _ (by omega), e7, ux_g _ _ _ (by omega), e5, ux_g _ _ _ (by omega)]
      · rw [e8, show c + 18 + 10 = c + 28 from by omega]
        by_cases y : r = x
        · rw [y, ux_s]
          have : rk (db C c x) x.toNat = rk (fun _ => False) x.toNat := rk_c _ fun t a b => ⟨fun q => fx t a (by omega) (db_s q), fun q => q.elim⟩
          rw [this]
          have : ∀ m, rk (fun _ => False) m = 0 := by
            intro m
            induction m with
            | zero => rfl
            | succ m ih => rw [(rk_s m).2 id, ih]
          rw [this]
        · rw [ux_i _ _ _ y, e7, ux_c _ _ _ _ (by omega), e5, ux_c _ _ _ _ (by omega)]; exact k4 r a (by omega) d
    · rcases hs with hs | ⟨s0, s1, s2, s3⟩
      · exact absurd hs e
      · refine p_isTwin hY hw fb s0 (by omega) x0 xn (fun hd => ?_) (fun hd => ?_)
        · refine fun _ => ⟨fun _ => ?_, fun q => absurd q (by decide)⟩
          unfold w_X8_needTwins_b97
          refine ⟨fun _ => fin s M3 s0 (by omega) s2 hd F2 (fun b a d => ?_) (fun u a b d => ?_) rfl (fun r a b q d => ?_), fun q => absurd q e⟩
          · obtain ⟨w1, w2⟩ := k1 b a d
            refine ⟨by rcases w1 with w | w; exact Or.inl w; exact Or.inr ⟨w.1, by omega, w.2.2⟩, fun u u0 u1 u2 u3 => ?_⟩
            by_cases e2 : u = x
            · rw [e2] at u3; exact absurd hd (u3 s s0 s1)
            · exact w2 u u0 u1 (by omega) u3
          · by_cases e2 : u = x
            · rw [e2] at d; exact absurd hd (d s s0 s1)
            · exact k2 u a (by omega) d
          · by_cases e2 : r = x
            · have := q e2; omega
            · exact k4 r a (by omega) d
        · refine fun _ => ⟨fun q => absurd rfl q, fun _ => ⟨s0, by omega, fun v7 b7 _ => ⟨by unfold ri_; omega, ?_⟩⟩⟩
          have b7' : v7 = M3 (c + 31) s := b7
          obtain ⟨w1, w2⟩ := k2 s s0 s1 s2
          rw [← b7', s3] at w1 w2
          refine ih2 _ _ _ _ _ ⟨rfl, rfl, rfl, by omega, by rcases w1 with w | w <;> omega, by rcases w1 with w | w; exact Or.inl w; exact Or.inr ⟨w.1, by omega, w.2.2.1, w.2.2.2⟩, fun u u0 u1 u2 u3 hd2 => ?_⟩ (by omega)
          by_cases y : s < u
          · exact hn u u0 y u2 u3 hd2
          · by_cases y2 : u = s
            · rw [y2] at hd2; exact hd hd2
            · exact w2 u u0 u1 (by omega) u3 (bF_db hd2)
  · obtain ⟨w1, -⟩ := k1 _ bb.1 bb.2
    rw [← y6'] at w1
    rcases w1 with w | w <;> omega
  · obtain ⟨w1, -⟩ := k1 _ bb.1 bb.2
    rw [← y6'] at w1
    exact w1
  · obtain ⟨-, w2⟩ := k1 _ bb.1 bb.2
    rw [← y6'] at w2
    exact fun u u0 u1 u2 u3 hd => w2 u u0 u1 u2 u3 (bF_db hd)
