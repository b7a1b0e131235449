/-! rules worked out by the class: all things are tried for a rule's variables -/
def FTt (C C' : MM) : Prop := (∀ q, q ≠ 274 → q ≠ 275 → q ≠ 276 → q ≠ 277 → q ≠ 279 → C' q = C q) ∧ ∀ i, i ≠ 9 → C' 274 i = C 274 i
def STp (A : MM) (n : Int) (cl : Int → Int → Prop) (C : MM) (K : KK) (C' : MM) (K' : KK) : Prop := FBc A n cl K' C' ∧ FTt C C' ∧ leK K K' ∧ (∀ L, leK K L → Clsd A n cl L → leK K' L) ∧ (C' 274 9 = 0 ∨ C' 274 9 = 1) ∧ (C' 274 9 = 0 → C 274 9 = 0 ∧ leK K' K) ∧ (C' 274 9 = 1 → C 274 9 = 1 ∨ newK K K')
theorem FBc_f {A C C' : MM} {n : Int} {cl : Int → Int → Prop} {K K' : KK} (h : FBc A n cl K C) (f : FTt C C') (x : KX C' K') : FBc A n cl K' C' := by
  obtain ⟨h1, h2, h3, h4, h5, h6, h7⟩ := h
  exact ⟨by rw [f.2 8 (by decide)]; exact h1, by rw [f.2 1 (by decide)]; exact h2, by rw [f.2 2 (by decide)]; exact h3, x, fun q a b => by rw [f.1 q (by omega) (by omega) (by omega) (by omega) (by omega)]; exact h5 q a b, by rw [f.1 261 (by decide) (by decide) (by decide) (by decide) (by decide)]; exact h6, by rw [f.1 278 (by decide) (by decide) (by decide) (by decide) (by decide)]; exact h7⟩
theorem FTt_r (C : MM) : FTt C C := ⟨fun _ _ _ _ _ _ => rfl, fun _ _ => rfl⟩
theorem FTt_t {C C' C'' : MM} (h : FTt C C') (h' : FTt C' C'') : FTt C C'' := ⟨fun q a b c d e => by rw [h'.1 q a b c d e, h.1 q a b c d e], fun i hi => by rw [h'.2 i hi, h.2 i hi]⟩
theorem FTt_a {C C' : MM} (h : FAd C C') : FTt C C' := ⟨fun q a b c d _ => h.1 q a b c d, h.2⟩
theorem STp_r {A C : MM} {n : Int} {cl : Int → Int → Prop} {K : KK} (h : FBc A n cl K C) (z : C 274 9 = 0 ∨ C 274 9 = 1) : STp A n cl C K C K := ⟨h, FTt_r C, leK_r K, fun _ h _ => h, z, fun z => ⟨z, leK_r K⟩, fun z => Or.inl z⟩
theorem STp_t {A C C' C'' : MM} {n : Int} {cl : Int → Int → Prop} {K K' K'' : KK} (h : STp A n cl C K C' K') (g : STp A n cl C' K' C'' K'') : STp A n cl C K C'' K'' := by
  obtain ⟨h1, h2, h3, h4, h5, h6, h7⟩ := h
  obtain ⟨g1, g2, g3, g4, g5, g6, g7⟩ := g
  refine ⟨g1, FTt_t h2 g2, leK_t h3 g3, fun L a b => g4 L (h4 L a b) b, g5, fun z => ⟨(h6 (g6 z).1).1, leK_t (g6 z).2 (h6 (g6 z).1).2⟩, fun z => ?_⟩
  rcases g7 z with y | y
  · rcases h7 y with x | x
    · exact Or.inl x
    · exact Or.inr (newK_l x g3)
  · exact Or.inr (newK_r h3 y)
/-- the parts of a rule's body that lie below v hold for what is chosen -/
def PSk (A : MM) (cl : Int → Int → Prop) (K : KK) (r v : Int) (β : Int → Int) : Prop := ∀ m, 0 ≤ m → m < A 266 r → max (A 268 (4 * r + m)) (A 269 (4 * r + m)) < v → akH A cl K (4 * r + m) (β (A 268 (4 * r + m))) (β (A 269 (4 * r + m)))
theorem p_try {A : MM} {n : Int} {cl : Int → Int → Prop} (oA : ∀ r, 0 ≤ r → r < A 261 3 → RLA A r) (r12 : A 261 3 ≤ 12) (a16 : A 261 16 ≤ 6) (n40 : n ≤ 40) : ∀ (d : Nat) (r v : Int) (C : MM) (K : KK), 0 ≤ r → r < A 261 3 → 0 ≤ v → v < A 265 r → A 265 r - v ≤ d → FBc A n cl K C → (∀ w, 0 ≤ w → w < v → 0 ≤ C 279 w ∧ C 279 w < n) → PSk A cl K r v (C 279) → (C 274 9 = 0 ∨ C 274 9 = 1) → ∀ Q : Int → MM → Prop, (∀ C' K', STp A n cl C K C' K' → (∀ w, 0 ≤ w → w < v → C' 279 w = C 279 w) → (C' 274 9 = 0 → CPk A n cl K r v (C 279)) → Q 0 C') → gt_ d 0 Q [r, v] C := by
  intro d
  induction d with
  | zero => intro r v C K r0 r1 v0 v1 vd; omega
  | succ d ih =>
  intro r v C K r0 r1 v0 v1 vd hF hβ hP hz Q hq
  obtain ⟨q1, q2, q3, q4, q5, q6, q7, q8, q9, q10⟩ := oA r r0 r1
  show b_X1_tryThings (gt_ d) Q r v C
  unfold b_X1_tryThings
  refine p_cand hF n40 (oA r r0 r1) r0 r1 r12 v0 hβ (fun x hx _ => ?_)
  -- what all choices have shown is what the variable has shown
  have all : (∀ j, 0 ≤ j → Cnd A n cl K r v (C 279) (A 266 r) j → CPk A n cl K r (v + 1) (upD (C 279) v j)) → CPk A n cl K r v (C 279) := fun h β' e b s => by
    have ag : ∀ w, 0 ≤ w → w < v + 1 → upD (C 279) v (β' v) w = β' w := fun w w0 w1 => by
      by_cases y : w = v
      · rw [y, upD_s]
      · rw [upD_o _ _ _ _ y]; exact (e w w0 (by omega)).symm
    have bv := b v v0 v1
    refine h (β' v) bv.1 ⟨bv.2, fun m m0 m1 hm => ?_⟩ β' (fun w w0 w1 => (ag w w0 w1).symm) b s
    obtain ⟨u1, u2, u3, u4, u5⟩ := q10 m m0 m1
    rw [ag _ u1 (by omega), ag _ u3 (by omega)]
    exact s m m0 m1
  have go2 : ∀ s0 s6 : Int, (s0 = 0 ∧ v + 1 < A 265 r ∨ s0 = 1 ∧ v + 1 = A 265 r) → (s6 = 1 ∨ s6 = 0 ∧ A 263 r ≠ v ∧ A 264 r ≠ v) → w_X1_tryThings_b65 (gt_ d) Q r v x s0 s6 0 C := fun s0 s6 h0 h6 => by
    unfold w_X1_tryThings_b65
    refine loop7 _ (fun (x1 x2 x3 x5 x6 t : Int) M => r = x1 ∧ v = x2 ∧ s0 = x5 ∧ s6 = x6 ∧ 0 ≤ t ∧ ∃ K1, STp A n cl C K M K1 ∧ (∀ w, 0 ≤ w → w < v → M 279 w = C 279 w) ∧ BS x3 (fun j => Cnd A n cl K r v (C 279) (A 266 r) j ∧ t ≤ j) ∧ (M 274 9 = 0 → ∀ j, 0 ≤ j → j < t → Cnd A n cl K r v (C 279) (A 266 r) j → CPk A n cl K r (v + 1) (upD (C 279) v j))) (fun _ _ _ _ _ t _ => (n - t).toNat) ?_ _ _ _ _ _ _ _ ⟨rfl, rfl, rfl, rfl, by omega, K, STp_r hF hz, fun _ _ _ => rfl, BS_e hx (fun j => ⟨fun y => ⟨y, by omega⟩, fun y => y.1⟩), fun _ j a b => by omega⟩
    rintro _ _ x3 _ _ t M f ⟨rfl, rfl, rfl, rfl, t0, K1, hS, hM, hb, hc⟩ ih7
    have ex : (∀ j, 0 ≤ j → Cnd A n cl K r v (C 279) (A 266 r) j → j < t) → Q 0 M := fun h => hq M K1 hS hM (fun z => all (fun j j0 hj => hc z j j0 (h j j0 hj) hj))
    unfold wb_X1_tryThings_b65
    intro w1 ew1 _
    rw [hS.1.2.1] at ew1
    rw [ew1]
    refine ⟨fun z => ex (fun j _ hj => by have := hj.1; omega), fun z => ⟨fun y => ex (fun j j0 hj => ?_), fun y => ⟨fun w => ?_, fun w => ?_⟩⟩⟩
    · rw [y] at hb
      have := BS_z hb j j0
      exact Classical.not_not.mp (fun u => this ⟨hj, by omega⟩)
    · -- a thing that may be chosen
      have ct : Cnd A n cl K r v (C 279) (A 266 r) t := (Classical.not_not.mp (fun u => w ((BS_bit hb t0 (by omega)).mpr u))).1
      have hb' : BS (jland x3 (jlxor (jlshl 1 t) (-1))) (fun j => Cnd A n cl K r v (C 279) (A 266 r) j ∧ t + 1 ≤ j) := BS_e (BS_clr hb t0 (by omega)) (fun j => ⟨fun u => ⟨u.1.1, by have := u.1.2; have := u.2; omega⟩, fun u => ⟨⟨u.1, by have := u.2; omega⟩, by have := u.2; omega⟩⟩)
      have nxt : ∀ M' K', STp A n cl C K M' K' → (∀ w, 0 ≤ w → w < v → M' 279 w = C 279 w) → (M' 274 9 = 0 → M 274 9 = 0 ∧ CPk A n cl K r (v + 1) (upD (C 279) v t)) → w_X1_tryThings_b183 (gt_ d) Q f r v (jland x3 (jlxor (jlshl 1 t) (-1))) s0 s6 t M' := fun M' K' g1 g2 g3 => by
        unfold w_X1_tryThings_b183
        refine ⟨by unfold ri_; omega, ih7 _ _ _ _ _ _ _ ⟨rfl, rfl, rfl, rfl, by omega, K', g1, g2, hb', fun z' j j0 j1 hj => ?_⟩ (by omega)⟩
        by_cases u : j = t
        · rw [u]; exact (g3 z').2
        · exact hc (g3 z').1 j j0 (by omega) hj
      refine ⟨v0, by omega, fun M5 e5 => ?_⟩
      have f5 : FTt M M5 := ⟨fun q a b c d' e => by rw [e5, ux_g _ _ _ e], fun i _ => by rw [e5, ux_g _ _ _ (by decide)]⟩
      have x5 : KX M5 K1 := KX_f hS.1.2.2.2.1 (fun q hq' => by rw [e5, ux_g _ _ _ (by omega)])
      have F5 : FBc A n cl K1 M5 := FBc_f hS.1 f5 x5
      have z5 : M5 274 9 = M 274 9 := by rw [e5, ux_g _ _ _ (by decide)]
      have S5 : STp A n cl C K M5 K1 := STp_t hS ⟨F5, f5, leK_r K1, fun _ h _ => h, by rw [z5]; exact hS.2.2.2.2.1, fun z' => ⟨by rw [← z5]; exact z', leK_r K1⟩, fun z' => Or.inl (by rw [← z5]; exact z')⟩
      have m5 : ∀ w, 0 ≤ w → w < v → M5 279 w = C 279 w := fun w w0 w1 => by rw [e5, ux_i _ _ _ (by omega)]; exact hM w w0 w1
      have u5 : ∀ w, 0 ≤ w → w < v + 1 → M5 279 w = upD (C 279) v t w := fun w w0 w1 => by
        by_cases u : w = v
        · rw [u, upD_s, e5, ux_s]
        · rw [upD_o _ _ _ _ u]; exact m5 w w0 (by omega)
      have b5 : ∀ w, 0 ≤ w → w < v + 1 → 0 ≤ M5 279 w ∧ M5 279 w < n := fun w w0 w1 => by
        rw [u5 w w0 w1]
        by_cases u : w = v
        · rw [u, upD_s]; omega
        · rw [upD_o _ _ _ _ u]; exact hβ w w0 (by omega)
      have P5 : PSk A cl K1 r (v + 1) (M5 279) := fun m m0 m1 hm => by
        obtain ⟨y1, y2, y3, y4, y5⟩ := q10 m m0 m1
        refine akH_m hS.2.2.1 ?_
        by_cases u : max (A 268 (4 * r + m)) (A 269 (4 * r + m)) = v
        · rw [u5 _ y1 (by omega), u5 _ y3 (by omega)]
          exact ct.2 m m0 m1 u
        · rw [m5 _ y1 (by omega), m5 _ y3 (by omega)]
          exact hP m m0 m1 (by omega)
      have last : s0 = 1 ∧ v + 1 = A 265 r → w_X1_tryThings_b136 (gt_ d) Q f r v (jland x3 (jlxor (jlshl 1 t) (-1))) s0 s6 t M5 := fun hl => by
        have c262 : M5 262 r = A 262 r := by rw [F5.2.2.2.2.1 262 (by omega) (by omega)]
        have c263 : M5 263 r = A 263 r := by rw [F5.2.2.2.2.1 263 (by omega) (by omega)]
        have c264 : M5 264 r = A 264 r := by rw [F5.2.2.2.2.1 264 (by omega) (by omega)]
        have ba := b5 (A 263 r) q5 (by omega)
        have bb := b5 (A 264 r) q7 (by omega)
        -- behind the fact
        have fin : ∀ M' K', STp A n cl C K M' K' → (∀ w, 0 ≤ w → w < v → M' 279 w = C 279 w) → (M' 274 9 = 0 → M 274 9 = 0 ∧ K (A 262 r) (M5 279 (A 263 r)) (M5 279 (A 264 r))) → (¬ s6 = 0 → w_X1_tryThings_b183 (gt_ d) Q f r v (jland x3 (jlxor (jlshl 1 t) (-1))) s0 s6 t M') ∧ (s6 = 0 → Q 0 M') := fun M' K' g1 g2 g3 => by
          refine ⟨fun _ => nxt M' K' g1 g2 (fun z' => ⟨(g3 z').1, fun β' e b s => ?_⟩), fun y6 => hq M' K' g1 g2 (fun z' β' e b s => ?_)⟩
          · have := (g3 z').2
            unfold HdK
            rw [e _ q5 (by omega), e _ q7 (by omega), ← u5 _ q5 (by omega), ← u5 _ q7 (by omega)]
            exact this
          · have := (g3 z').2
            have n6 : A 263 r ≠ v ∧ A 264 r ≠ v := by rcases h6 with h6 | h6; omega; exact h6.2
            unfold HdK
            rw [e _ q5 (by omega), e _ q7 (by omega), ← m5 _ q5 (by omega), ← m5 _ q7 (by omega)]
            exact this
        unfold w_X1_tryThings_b136
        refine ⟨F5.1, r0, by omega, fun v2 e2 _ => ⟨F5.1, r0, by omega, fun v4 e4 _ => ?_⟩⟩
        rw [c262] at e2
        rw [c263] at e4
        rw [e2, e4]
        refine ⟨q5, by omega, fun v5 e5' _ => ⟨F5.1, r0, by omega, fun v7 e7 _ => ?_⟩⟩
        rw [c264] at e7
        rw [e5', e7]
        refine ⟨q7, by omega, fun v8 e8 _ => ?_⟩
        rw [e8]
        refine p_add x5 q1 (by omega) ba.1 (by omega) bb.1 (by omega) (fun yes => fin M5 K1 S5 m5 (fun z' => ?_)) (fun no C' fa kx o9 => fin C' _ (STp_t S5 ⟨FBc_f F5 (FTt_a fa) kx, FTt_a fa, leK_add _ _ _ _, fun L hL cL => ?_, Or.inr o9, fun z' => by omega, fun _ => Or.inr (newK_add q1 (by omega) ba.1 (by omega) bb.1 (by omega) no)⟩) (fun w w0 w1 => by rw [fa.1 279 (by decide) (by decide) (by decide) (by decide)]; exact m5 w w0 w1) (fun z' => by omega))
        · have y := z5 ▸ z'
          exact ⟨y, (hS.2.2.2.2.2.1 y).2 _ _ _ yes⟩
        · rintro k' a' b' (y | ⟨rfl, rfl, rfl⟩)
          · exact hL _ _ _ y
          · exact cL r (M5 279) r0 r1 (fun w w0 w1 => b5 w w0 (by omega)) (fun m m0 m1 => akH_m hL (P5 m m0 m1 (by obtain ⟨y1, y2, y3, y4, y5⟩ := q10 m m0 m1; omega)))
      refine ⟨fun y0 => last (by omega), fun y0 => ⟨by unfold ri_; omega, fun y3 => by omega, fun _ => ⟨by unfold ri_; omega, ?_⟩⟩⟩
      refine ih r (v + 1) M5 K1 r0 r1 (by omega) (by omega) (by omega) F5 b5 P5 S5.2.2.2.2.1 _ (fun C' K' g1 g2 g3 => nxt C' K' (STp_t S5 g1) (fun w w0 w1 => by rw [g2 w w0 (by omega)]; exact m5 w w0 w1) (fun z' => ?_))
      have y : M 274 9 = 0 := by rw [← z5]; exact (g1.2.2.2.2.2.1 z').1
      exact ⟨y, CPk_w u5 (CPk_e (hS.2.2.2.2.2.1 y).2 hS.2.2.1 (g3 z'))⟩
    · -- a thing that may not
      have nt := (BS_bit hb t0 (by omega)).mp w
      unfold w_X1_tryThings_b183
      refine ⟨by unfold ri_; omega, ih7 _ _ _ _ _ _ _ ⟨rfl, rfl, rfl, rfl, by omega, K1, hS, hM, BS_e hb (fun j => ⟨fun u => ⟨u.1, ?_⟩, fun u => ⟨u.1, by have := u.2; omega⟩⟩), fun z' j j0 j1 hj => ?_⟩ (by omega)⟩
      · by_cases e : (j : Int) = t
        · rw [e] at u; exact absurd ⟨u.1, Int.le_refl _⟩ nt
        · have := u.2; omega
      · by_cases e : j = t
        · rw [e] at hj; exact absurd ⟨hj, Int.le_refl _⟩ nt
        · exact hc z' j j0 (by omega) hj
  have go1 : ∀ s0 : Int, (s0 = 0 ∧ v + 1 < A 265 r ∨ s0 = 1 ∧ v + 1 = A 265 r) → w_X1_tryThings_b27 (gt_ d) Q r v x s0 C := fun s0 h0 => by
    unfold w_X1_tryThings_b27 w_X1_tryThings_b55 w_X1_tryThings_b60
    refine ⟨hF.1, r0, by omega, fun v2 e2 _ => ⟨fun _ => go2 s0 1 h0 (Or.inl rfl), fun y => ⟨hF.1, r0, by omega, fun v5 e5 _ => ⟨fun y' => go2 s0 0 h0 (Or.inr ⟨rfl, ?_, ?_⟩), fun _ => go2 s0 1 h0 (Or.inl rfl)⟩⟩⟩⟩
    · rw [e2, hF.2.2.2.2.1 263 (by omega) (by omega)] at y; exact y
    · rw [e5, hF.2.2.2.2.1 264 (by omega) (by omega)] at y'; exact y'
  refine ⟨hF.1, r0, by omega, fun v4 e4 _ => ?_⟩
  rw [hF.2.2.2.2.1 265 (by omega) (by omega)] at e4
  rw [e4]
  exact ⟨by unfold ri_; omega, fun y => go1 0 (Or.inl ⟨rfl, by omega⟩), fun y => go1 1 (Or.inr ⟨rfl, by omega⟩)⟩
