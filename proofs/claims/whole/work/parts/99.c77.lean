/-! rules worked out by the class: a fact is added -/
def KX (C : MM) (K : KK) : Prop := (∀ k a, 0 ≤ k → k < 9 → 0 ≤ a → a < 40 → BS (C 275 (k * 40 + a)) (fun x => K k a x) ∧ BS (C 276 (k * 40 + a)) (fun x => K k x a)) ∧ ∀ k, 0 ≤ k → k < 9 → BS (C 277 k) (fun x => K k x x)
def FAd (C C' : MM) : Prop := (∀ q, q ≠ 274 → q ≠ 275 → q ≠ 276 → q ≠ 277 → C' q = C q) ∧ ∀ i, i ≠ 9 → C' 274 i = C 274 i
theorem KX_f {C C' : MM} {K : KK} (h : KX C K) (e : ∀ q, q = 275 ∨ q = 276 ∨ q = 277 → C' q = C q) : KX C' K := by
  unfold KX at h ⊢
  rw [e 275 (by omega), e 276 (by omega), e 277 (by omega)]; exact h
theorem KX_e {C : MM} {K K' : KK} (h : KX C K) (e : ∀ k a b, 0 ≤ k → k < 9 → 0 ≤ a → 0 ≤ b → (K k a b ↔ K' k a b)) : KX C K' := ⟨fun k a x1 x2 x3 x4 => ⟨BS_e (h.1 k a x1 x2 x3 x4).1 (fun j => e k a j x1 x2 x3 (by omega)), BS_e (h.1 k a x1 x2 x3 x4).2 (fun j => e k j a x1 x2 (by omega) x3)⟩, fun k x1 x2 => BS_e (h.2 k x1 x2) (fun j => e k j j x1 x2 (by omega) (by omega))⟩
theorem p_add {C : MM} {K : KK} {k a b : Int} (h : KX C K) (k0 : 0 ≤ k) (k9 : k < 9) (a0 : 0 ≤ a) (a1 : a < 40) (b0 : 0 ≤ b) (b1 : b < 40) {Q : Int → MM → Prop} (h1 : K k a b → Q 0 C) (h0 : ¬ K k a b → ∀ C', FAd C C' → KX C' (addK K k a b) → C' 274 9 = 1 → Q 0 C') : w_X1_addFact Q k a b C := by
  unfold w_X1_addFact
  have r1 : ri_ (k * 40) := by unfold ri_; omega
  have r2 : ri_ (k * 40 + a) := by unfold ri_; omega
  have r3 : ri_ (k * 40 + b) := by unfold ri_; omega
  refine ⟨r1, r2, by omega, by omega, fun v3 e3 _ => ⟨fun z => ?_, fun z => ?_⟩⟩
  · rw [e3] at z
    have nk := (BS_bit (h.1 k a k0 k9 a0 a1).1 b0 b1).mp z
    refine ⟨r2, by omega, by omega, fun v6 e6 _ => ⟨by omega, by omega, fun M7 e7 => ⟨r3, by omega, by omega, fun v9 e9 _ => ⟨by omega, by omega, fun M10 e10 => ?_⟩⟩⟩⟩
    rw [e7, ux_g _ _ _ (by decide)] at e9
    have x275 : ∀ i, M10 275 i = if i = k * 40 + a then jlor v6 (jlshl 1 b) else C 275 i := fun i => by rw [e10, ux_g _ _ _ (by decide), e7, ux_v]
    have x276 : ∀ i, M10 276 i = if i = k * 40 + b then jlor v9 (jlshl 1 a) else C 276 i := fun i => by rw [e10, ux_v, e7, ux_g _ _ _ (by decide)]
    have xo : ∀ q, q ≠ 275 → q ≠ 276 → M10 q = C q := fun q x y => by rw [e10, ux_g _ _ _ y, e7, ux_g _ _ _ x]
    have fin : ∀ M13, (∀ q, q ≠ 277 → M13 q = M10 q) → (∀ k', 0 ≤ k' → k' < 9 → BS (M13 277 k') (fun x => addK K k a b k' x x)) → w_X1_addFact_b72 Q M13 := fun M13 g hd => by
      unfold w_X1_addFact_b72
      intro M1 e1
      have go : ∀ q, q ≠ 274 → M1 q = M13 q := fun q x => by rw [e1, ux_g _ _ _ x]
      refine h0 nk M1 ⟨fun q x1 x2 x3 x4 => by rw [go q x1, g q x4, xo q x2 x3], fun i hi => by rw [e1, ux_i _ _ _ hi, g 274 (by decide), xo 274 (by decide) (by decide)]⟩ ⟨fun k' a' x1 x2 x3 x4 => ⟨?_, ?_⟩, fun k' x1 x2 => by rw [go 277 (by decide)]; exact hd k' x1 x2⟩ (by rw [e1, ux_s])
      · rw [go 275 (by decide), g 275 (by decide), x275]
        by_cases y : k' * 40 + a' = k * 40 + a
        · have y1 : k' = k := by omega
          have y2 : a' = a := by omega
          rw [if_pos y, e6, y1, y2]
          exact BS_e (BS_or (h.1 k a k0 k9 a0 a1).1 b0 b1) (fun j => ⟨fun w => w.elim Or.inl (fun w => Or.inr ⟨rfl, rfl, w⟩), fun w => w.elim Or.inl (fun w => Or.inr w.2.2)⟩)
        · rw [if_neg y]
          exact BS_e (h.1 k' a' x1 x2 x3 x4).1 (fun j => ⟨Or.inl, fun w => w.elim id (fun w => absurd (by rw [w.1, w.2.1]) y)⟩)
      · rw [go 276 (by decide), g 276 (by decide), x276]
        by_cases y : k' * 40 + a' = k * 40 + b
        · have y1 : k' = k := by omega
          have y2 : a' = b := by omega
          rw [if_pos y, e9, y1, y2]
          exact BS_e (BS_or (h.1 k b k0 k9 b0 b1).2 a0 a1) (fun j => ⟨fun w => w.elim Or.inl (fun w => Or.inr ⟨rfl, w, rfl⟩), fun w => w.elim Or.inl (fun w => Or.inr w.2.1)⟩)
        · rw [if_neg y]
          exact BS_e (h.1 k' a' x1 x2 x3 x4).2 (fun j => ⟨Or.inl, fun w => w.elim id (fun w => absurd (by rw [w.1, w.2.2]) y)⟩)
    refine ⟨fun w => fin M10 (fun _ _ => rfl) (fun k' x1 x2 => ?_), fun w => ⟨k0, k9, fun v12 e12 _ => ⟨k0, k9, fun M13 e13 => fin M13 (fun q hq => by rw [e13, ux_g _ _ _ hq]) (fun k' x1 x2 => ?_)⟩⟩⟩
    · rw [xo 277 (by decide) (by decide)]
      exact BS_e (h.2 k' x1 x2) (fun j => ⟨Or.inl, fun y => y.elim id (fun y => absurd (by rw [← y.2.1, ← y.2.2]) w)⟩)
    · rw [e13, ux_v]
      rw [xo 277 (by decide) (by decide)] at e12
      by_cases y : k' = k
      · rw [if_pos y, e12, y]
        exact BS_e (BS_or (h.2 k k0 k9) a0 a1) (fun j => ⟨fun u => u.elim Or.inl (fun u => Or.inr ⟨rfl, u, by rw [u, w]⟩), fun u => u.elim Or.inl (fun u => Or.inr u.2.1)⟩)
      · rw [if_neg y, xo 277 (by decide) (by decide)]
        exact BS_e (h.2 k' x1 x2) (fun j => ⟨Or.inl, fun u => u.elim id (fun u => absurd u.1 y)⟩)
  · rw [e3] at z
    exact h1 (Classical.not_not.mp (fun y => z ((BS_bit (h.1 k a k0 k9 a0 a1).1 b0 b1).mpr y)))
/-! the state of the class while rules are worked out -/
def FBc (A : MM) (n : Int) (cl : Int → Int → Prop) (K : KK) (C : MM) : Prop := C 274 8 = ((261 : Nat) : Int) ∧ C 274 1 = n ∧ BS (C 274 2) (fun x => x < n) ∧ KX C K ∧ (∀ q, 262 ≤ q → q ≤ 270 → C q = A q) ∧ C 261 3 = A 261 3 ∧ ∀ r m, 0 ≤ r → r < A 261 3 → 0 ≤ m → m < A 266 r → A 267 (4 * r + m) = 9 → BS (C 278 (4 * r + m)) (fun x => x < n ∧ cl (4 * r + m) x)
def Cnd (A : MM) (n : Int) (cl : Int → Int → Prop) (K : KK) (r v : Int) (β : Int → Int) (c t : Int) : Prop := t < n ∧ ∀ m, 0 ≤ m → m < c → max (A 268 (4 * r + m)) (A 269 (4 * r + m)) = v → akH A cl K (4 * r + m) (upD β v t (A 268 (4 * r + m))) (upD β v t (A 269 (4 * r + m)))
theorem p_cand {A C : MM} {n r v : Int} {cl : Int → Int → Prop} {K : KK} (h : FBc A n cl K C) (n40 : n ≤ 40) (hr : RLA A r) (r0 : 0 ≤ r) (r1 : r < A 261 3) (r12 : A 261 3 ≤ 12) (v0 : 0 ≤ v) (hβ : ∀ w, 0 ≤ w → w < v → 0 ≤ C 279 w ∧ C 279 w < n) {Q : Int → MM → Prop} (hq : ∀ x, BS x (Cnd A n cl K r v (C 279) (A 266 r)) → Q x C) : w_X1_candidates Q r v C := by
  obtain ⟨h1, h2, h3, h4, h5, h6, h7⟩ := h
  obtain ⟨q1, q2, q3, q4, q5, q6, q7, q8, q9, q10⟩ := hr
  unfold w_X1_candidates w_X1_candidates_b8
  intro v1 e1 _
  refine loop5 _ (fun (x1 x2 x3 x5 : Int) M => r = x1 ∧ v = x2 ∧ C = M ∧ 0 ≤ x5 ∧ x5 ≤ A 266 r ∧ BS x3 (Cnd A n cl K r v (C 279) x5)) (fun _ _ _ x5 _ => (A 266 r - x5).toNat) ?_ _ _ _ _ _ ⟨rfl, rfl, rfl, by omega, by omega, by rw [e1]; exact BS_e h3 (fun j => ⟨fun y => ⟨y, fun m a b => by omega⟩, fun y => y.1⟩)⟩
  rintro _ _ x3 m _ f ⟨rfl, rfl, rfl, m0, m1, hb⟩ ih
  unfold wb_X1_candidates_b8
  refine ⟨h1, r0, by omega, fun v2 e2 _ => ⟨fun z => ?_, fun z => ?_⟩⟩
  · rw [e2, h5 266 (by omega) (by omega)] at z
    have : m = A 266 r := by omega
    rw [this] at hb; exact hq x3 hb
  rw [e2, h5 266 (by omega) (by omega)] at z
  obtain ⟨u1, u2, u3, u4, u5⟩ := q10 m m0 (by omega)
  have ei : r * 4 + m = 4 * r + m := by omega
  rw [ei]
  have rI : ri_ (4 * r + m) := by unfold ri_; omega
  have c267 : C 267 (4 * r + m) = A 267 (4 * r + m) := by rw [h5 267 (by omega) (by omega)]
  have c268 : C 268 (4 * r + m) = A 268 (4 * r + m) := by rw [h5 268 (by omega) (by omega)]
  have c269 : C 269 (4 * r + m) = A 269 (4 * r + m) := by rw [h5 269 (by omega) (by omega)]
  have nx : ∀ x', BS x' (Cnd A n cl K r v (C 279) (m + 1)) → w_X1_candidates_b184 Q f r v x' m C := fun x' hx => by
    unfold w_X1_candidates_b184
    exact ⟨by unfold ri_; omega, ih _ _ _ _ _ ⟨rfl, rfl, rfl, by omega, by omega, hx⟩ (by omega)⟩
  have st : ∀ (x : Int) (P : Int → Prop), BS x P → max (A 268 (4 * r + m)) (A 269 (4 * r + m)) = v → (∀ t, t < n → (P t ↔ akH A cl K (4 * r + m) (upD (C 279) v t (A 268 (4 * r + m))) (upD (C 279) v t (A 269 (4 * r + m))))) → w_X1_candidates_b184 Q f r v (jland x3 x) m C := fun x P hx hm hp => by
    refine nx _ (BS_e (BS_and hb hx) (fun j => ⟨fun ⟨y, y'⟩ => ⟨y.1, fun m' a b c => ?_⟩, fun y => ⟨⟨y.1, fun m' a b c => y.2 m' a (by omega) c⟩, (hp j y.1).mpr (y.2 m m0 (by omega) hm)⟩⟩))
    by_cases w : m' = m
    · rw [w]; exact (hp j y.1).mp y'
    · exact y.2 m' a (by omega) c
  refine ⟨by unfold ri_; omega, rI, h1, by omega, by omega, fun v7 e7 _ => ⟨h1, by omega, by omega, fun v9 e9 _ => ⟨h1, by omega, by omega, fun v11 e11 _ => ?_⟩⟩⟩
  rw [c268] at e7
  rw [c269] at e9
  rw [c267] at e11
  rw [e7, e9, e11]
  refine ⟨by unfold ri_; omega, fun hm => ⟨h1, by omega, by omega, fun v15 e15 _ => ?_⟩, fun hm => nx x3 (BS_e hb (fun j => ⟨fun y => ⟨y.1, fun m' a b c => ?_⟩, fun y => ⟨y.1, fun m' a b c => y.2 m' a (by omega) c⟩⟩))⟩
  rotate_left
  · by_cases w : m' = m
    · rw [w] at c; exact absurd c hm
    · exact y.2 m' a (by omega) c
  rw [c267] at e15
  rw [e15]
  refine ⟨fun k9 => ⟨fun hab => ⟨fun hav => ?_, fun hav => ?_⟩, fun hab => ⟨h1, by omega, by omega, fun v26 e26 _ => ?_⟩⟩, fun k9 => ⟨by omega, by omega, fun v28 e28 _ => ?_⟩⟩
  · have hbv : A 269 (4 * r + m) = v := by omega
    have hc := hβ _ u1 (by omega)
    refine ⟨by omega, by omega, fun v19 e19 _ => ?_⟩
    rw [e19]
    refine ⟨by unfold ri_; omega, by omega, by omega, fun v21 e21 _ => ?_⟩
    rw [e21]
    refine st _ _ (h4.1 (A 267 (4 * r + m)) (C 279 (A 268 (4 * r + m))) (by omega) (by omega) (by omega) (by omega)).1 hm (fun t ht => ?_)
    rw [hbv, upD_s, upD_o _ _ _ _ hav]
    exact ⟨fun y => Or.inr ⟨k9, y⟩, fun y => y.elim (fun y => absurd y.1 k9) (fun y => y.2)⟩
  · have hc := hβ _ u3 (by omega)
    refine ⟨by omega, by omega, fun v22 e22 _ => ?_⟩
    rw [e22]
    refine ⟨by unfold ri_; omega, by omega, by omega, fun v24 e24 _ => ?_⟩
    rw [e24]
    refine st _ _ (h4.1 (A 267 (4 * r + m)) (C 279 (A 269 (4 * r + m))) (by omega) (by omega) (by omega) (by omega)).2 hm (fun t ht => ?_)
    rw [hav, upD_s, upD_o _ _ _ _ (by omega)]
    exact ⟨fun y => Or.inr ⟨k9, y⟩, fun y => y.elim (fun y => absurd y.1 k9) (fun y => y.2)⟩
  · rw [c267] at e26
    rw [e26]
    refine ⟨by omega, by omega, fun v27 e27 _ => ?_⟩
    rw [e27]
    refine st _ _ (h4.2 (A 267 (4 * r + m)) (by omega) (by omega)) hm (fun t ht => ?_)
    rw [← hab, show A 268 (4 * r + m) = v from by omega, upD_s]
    exact ⟨fun y => Or.inr ⟨k9, y⟩, fun y => y.elim (fun y => absurd y.1 k9) (fun y => y.2)⟩
  · rw [e28]
    refine st _ _ (h7 r m r0 r1 m0 (by omega) k9) hm (fun t ht => ?_)
    have ab : A 269 (4 * r + m) = A 268 (4 * r + m) := by omega
    rw [ab, show A 268 (4 * r + m) = v from by omega, upD_s]
    exact ⟨fun y => Or.inl ⟨k9, y.2⟩, fun y => y.elim (fun y => ⟨ht, y.2⟩) (fun y => absurd k9 y.1)⟩
