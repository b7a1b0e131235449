/-! rules worked out by the class: what is given -/
def GvK (D : MM) (c : Nat) (T s u : Int) : KK := fun k a b => 0 ≤ a ∧ a < D c 0 ∧ 0 ≤ b ∧ b < D c 0 ∧ (k = 6 ∧ (a < T ∨ a = T) ∧ (∃ j, 0 ≤ j ∧ j < pcn D c a ∧ (a = T → j < s) ∧ lv D c a j = b) ∨ (k = 7 ∧ a = b ∨ k = 8 ∧ a ≠ b) ∧ (a < T ∨ a = T ∧ b < u))
def K0_ (D : MM) (c : Nat) : KK := fun k a b => 0 ≤ a ∧ a < D c 0 ∧ 0 ≤ b ∧ b < D c 0 ∧ (k = 6 ∧ (∃ j, 0 ≤ j ∧ j < pcn D c a ∧ lv D c a j = b) ∨ k = 7 ∧ a = b ∨ k = 8 ∧ a ≠ b)
theorem p_given {D R0 C : MM} {c : Nat} (hY : Rty D R0) (hw : PW D c) (hc : isP c) (n40 : D c 0 ≤ 40) (hD : ∀ q, q < 274 → C q = D q) (hn : C 274 1 = D c 0) (hx : KX C (fun _ _ _ => False)) {Q : Int → MM → Prop} (hq : ∀ C', FAd C C' → KX C' (K0_ D c) → Q 0 C') : w_X1_addGiven c Q C := by
  have n0 := hw.1
  have cb : c ≤ 178 := by unfold isP at hc; omega
  unfold w_X1_addGiven w_X1_addGiven_b2
  refine loop2 _ (fun (t : Int) M => 0 ≤ t ∧ t ≤ D c 0 ∧ FAd C M ∧ KX M (GvK D c t 0 0)) (fun t _ => (D c 0 - t).toNat) ?_ _ _ ⟨by omega, n0, ⟨fun _ _ _ _ _ => rfl, fun _ _ => rfl⟩, KX_e hx (fun k a b _ _ a0 b0 => ⟨False.elim, fun ⟨x1, x2, x3, x4, x5⟩ => by
    rcases x5 with ⟨y1, y2, j, j0, j1, j2, j3⟩ | ⟨y1, y2⟩
    · have := j2 (by omega); omega
    · omega⟩)⟩
  rintro t M f ⟨t0, t1, hM, hX⟩ ih
  have eM : ∀ {M' : MM}, FAd C M' → ∀ q, q < 274 → M' q = D q := fun h q a => by rw [h.1 q (by omega) (by omega) (by omega) (by omega)]; exact hD q a
  have nM : ∀ {M' : MM}, FAd C M' → M' 274 1 = D c 0 := fun h => by rw [h.2 1 (by decide)]; exact hn
  have trM : ∀ {M' M'' : MM}, FAd C M' → FAd M' M'' → FAd C M'' := fun h h' => ⟨fun q a b d e => by rw [h'.1 q a b d e, h.1 q a b d e], fun i hi => by rw [h'.2 i hi, h.2 i hi]⟩
  unfold wb_X1_addGiven_b2
  intro v1 e1 _
  rw [nM hM] at e1
  rw [e1]
  refine ⟨fun z => hq M hM (KX_e hX (fun k a b _ _ a0 b0 => ?_)), fun z => ⟨t0, by omega, fun v3 e3 _ => ?_⟩⟩
  · have et : t = D c 0 := by omega
    constructor
    · rintro ⟨x1, x2, x3, x4, x5⟩
      refine ⟨x1, x2, x3, x4, ?_⟩
      rcases x5 with ⟨y1, y2, j, j0, j1, j2, j3⟩ | ⟨y1, y2⟩
      · exact Or.inl ⟨y1, j, j0, j1, j3⟩
      · exact Or.inr y1
    · rintro ⟨x1, x2, x3, x4, x5⟩
      refine ⟨x1, x2, x3, x4, ?_⟩
      rcases x5 with ⟨y1, j, j0, j1, j3⟩ | y1
      · exact Or.inl ⟨y1, by omega, j, j0, j1, fun e => by omega, j3⟩
      · exact Or.inr ⟨y1, by omega⟩
  rw [eM hM (c + 4) (by omega)] at e3
  have pe := pw_end hY hw t0 (by omega : t < D c 0)
  have pb := pw_bd hY hw t0 (by omega : t < D c 0)
  -- the second loop: same and other
  have lp2 : ∀ M', FAd C M' → KX M' (GvK D c t (pcn D c t) 0) → w_X1_addGiven_b73 c Q f t 0 M' := fun M' hM' hX' => by
    unfold w_X1_addGiven_b73
    refine loop3 _ (fun (x u : Int) N => t = x ∧ 0 ≤ u ∧ u ≤ D c 0 ∧ FAd C N ∧ KX N (GvK D c t (pcn D c t) u)) (fun _ u _ => (D c 0 - u).toNat) ?_ _ _ _ ⟨rfl, by omega, n0, hM', hX'⟩
    rintro _ u N g ⟨rfl, u0, u1, hN, hXN⟩ ih2
    unfold wb_X1_addGiven_b73
    intro w1 ew1 _
    rw [nM hN] at ew1
    rw [ew1]
    refine ⟨fun y => ⟨by unfold ri_; omega, ih _ _ ⟨by omega, by omega, hN, KX_e hXN (fun k a b _ _ a0 b0 => ?_)⟩ (by omega)⟩, fun y => ?_⟩
    · have eu : u = D c 0 := by omega
      constructor
      · rintro ⟨x1, x2, x3, x4, x5⟩
        refine ⟨x1, x2, x3, x4, ?_⟩
        rcases x5 with ⟨y1, y2, j, j0, j1, j2, j3⟩ | ⟨y1, y2⟩
        · exact Or.inl ⟨y1, by omega, j, j0, j1, fun e => by omega, j3⟩
        · exact Or.inr ⟨y1, by omega⟩
      · rintro ⟨x1, x2, x3, x4, x5⟩
        refine ⟨x1, x2, x3, x4, ?_⟩
        rcases x5 with ⟨y1, y2, j, j0, j1, j2, j3⟩ | ⟨y1, y2⟩
        · have q : a ≠ t + 1 := fun e => by have := j2 e; omega
          exact Or.inl ⟨y1, by omega, j, j0, j1, fun e => by rw [← e]; exact j1, j3⟩
        · exact Or.inr ⟨y1, by omega⟩
    have one : ∀ k : Int, (k = 7 ∧ t = u ∨ k = 8 ∧ t ≠ u) → w_X1_addGiven_b94 c Q f g t u k N := fun k hk => by
      unfold w_X1_addGiven_b94
      have nx : ∀ N', FAd C N' → KX N' (GvK D c t (pcn D c t) (u + 1)) → ri_ (u + 1) ∧ g t (u + 1) N' := fun N' a b => ⟨by unfold ri_; omega, ih2 _ _ _ ⟨rfl, by omega, by omega, a, b⟩ (by omega)⟩
      have me : GvK D c t (pcn D c t) (u + 1) k t u := ⟨t0, by omega, u0, by omega, Or.inr ⟨by omega, by omega⟩⟩
      have eqv : ∀ k' a b, GvK D c t (pcn D c t) (u + 1) k' a b ↔ addK (GvK D c t (pcn D c t) u) k t u k' a b := fun k' a b => by
        constructor
        · rintro ⟨x1, x2, x3, x4, x5⟩
          rcases x5 with x5 | ⟨y1, y2⟩
          · exact Or.inl ⟨x1, x2, x3, x4, Or.inl x5⟩
          · by_cases e : a = t ∧ b = u
            · exact Or.inr ⟨by omega, e.1, e.2⟩
            · exact Or.inl ⟨x1, x2, x3, x4, Or.inr ⟨y1, by omega⟩⟩
        · rintro (⟨x1, x2, x3, x4, x5⟩ | ⟨e1', e2', e3'⟩)
          · refine ⟨x1, x2, x3, x4, ?_⟩
            rcases x5 with x5 | ⟨y1, y2⟩
            · exact Or.inl x5
            · exact Or.inr ⟨y1, by omega⟩
          · rw [e1', e2', e3']; exact me
      exact p_add hXN (by omega) (by omega) t0 (by omega) u0 (by omega) (fun w => nx N hN (KX_e hXN (fun k' a b _ _ _ _ => ⟨fun x => (eqv k' a b).mpr (Or.inl x), fun x => ((eqv k' a b).mp x).elim id (fun e => by rw [e.1, e.2.1, e.2.2]; exact w)⟩))) (fun _ N' f' x' _ => nx N' (trM hN f') (KX_e x' (fun k' a b _ _ _ _ => (eqv k' a b).symm)))
    exact ⟨fun w => one 8 (Or.inr ⟨rfl, w⟩), fun w => one 7 (Or.inl ⟨rfl, w⟩)⟩
  -- the first loop: links
  unfold w_X1_addGiven_b17
  refine loop3 _ (fun (x i : Int) N => t = x ∧ ∃ s, i = D (c + 4) t + s ∧ 0 ≤ s ∧ s ≤ pcn D c t ∧ FAd C N ∧ KX N (GvK D c t s 0)) (fun _ i _ => (D (c + 4) (t + 1) - i).toNat) ?_ _ _ _ ⟨rfl, 0, by rw [e3, Int.add_zero], by omega, pb.1, hM, hX⟩
  rintro _ i N g ⟨rfl, s, ei, s0, s1, hN, hXN⟩ ih2
  unfold wb_X1_addGiven_b17
  refine ⟨by unfold ri_; omega, by omega, by omega, fun v2 e2 _ => ?_⟩
  rw [eM hN (c + 4) (by omega), pe.2.1] at e2
  rw [e2]
  refine ⟨fun y => ?_, fun y => ?_⟩
  · have es : s = pcn D c t := by omega
    rw [es] at hXN
    exact lp2 N hN hXN
  have nx : ∀ N', FAd C N' → KX N' (GvK D c t (s + 1) 0) → w_X1_addGiven_b65 c Q f g t i N' := fun N' a b => by
    unfold w_X1_addGiven_b65
    exact ⟨by unfold ri_; omega, ih2 _ _ _ ⟨rfl, s + 1, by omega, by omega, by omega, a, b⟩ (by omega)⟩
  have sk : lv D c t s = -1 → w_X1_addGiven_b65 c Q f g t i N := fun hl => nx N hN (KX_e hXN (fun k a b _ _ a0 b0 => ⟨fun ⟨x1, x2, x3, x4, x5⟩ => ⟨x1, x2, x3, x4, x5.imp (fun ⟨y1, y2, j, j0, j1, j2, j3⟩ => ⟨y1, y2, j, j0, j1, fun e => by have := j2 e; omega, j3⟩) id⟩, fun ⟨x1, x2, x3, x4, x5⟩ => ⟨x1, x2, x3, x4, x5.imp (fun ⟨y1, y2, j, j0, j1, j2, j3⟩ => ⟨y1, y2, j, j0, j1, fun e => ?_, j3⟩) id⟩⟩))
  rotate_left
  · have q := j2 e
    have : j ≠ s := fun w => by rw [e, w, hl] at j3; omega
    omega
  have lvs := (pw_lv hw t0 (by omega : t < D c 0) s0 (by omega)).1
  have ldf : lv D c t s = if D (c + 10) i = 0 then -1 else D (c + 9) i := by unfold lv; rw [ei]
  refine ⟨by omega, by omega, fun v4 e4 _ => ⟨fun w => sk ?_, fun w => ⟨by omega, by omega, fun v6 e6 _ => ⟨fun w' => sk ?_, fun w' => ⟨by omega, by omega, fun v8 e8 _ => ?_⟩⟩⟩⟩⟩
  · rw [ldf, if_pos (by rw [← eM hN (c + 10) (by omega), ← e4]; exact w)]
  · rw [eM hN (c + 10) (by omega)] at e4
    rw [ldf, if_neg (by rw [← e4]; exact w), ← eM hN (c + 9) (by omega), ← e6]; exact w'
  rw [eM hN (c + 10) (by omega)] at e4
  rw [eM hN (c + 9) (by omega)] at e6 e8
  have el : lv D c t s = v8 := by rw [ldf, if_neg (by rw [← e4]; exact w), e8]
  have e68 : v6 = v8 := by rw [e6, e8]
  refine ⟨by unfold ri_; omega, ?_⟩
  have eqv : ∀ k' a b, GvK D c t (s + 1) 0 k' a b ↔ addK (GvK D c t s 0) 6 t v8 k' a b := fun k' a b => by
    constructor
    · rintro ⟨x1, x2, x3, x4, x5⟩
      rcases x5 with ⟨y1, y2, j, j0, j1, j2, j3⟩ | x5
      · by_cases e : a = t ∧ j = s
        · exact Or.inr ⟨y1, e.1, by rw [e.1, e.2, el] at j3; exact j3.symm⟩
        · exact Or.inl ⟨x1, x2, x3, x4, Or.inl ⟨y1, y2, j, j0, j1, fun q => by have := j2 q; omega, j3⟩⟩
      · exact Or.inl ⟨x1, x2, x3, x4, Or.inr x5⟩
    · rintro (⟨x1, x2, x3, x4, x5⟩ | ⟨e1', e2', e3'⟩)
      · exact ⟨x1, x2, x3, x4, x5.imp (fun ⟨y1, y2, j, j0, j1, j2, j3⟩ => ⟨y1, y2, j, j0, j1, fun e => by have := j2 e; omega, j3⟩) id⟩
      · rw [e1', e2', e3']
        exact ⟨t0, by omega, by omega, by omega, Or.inl ⟨rfl, Or.inr rfl, s, s0, by omega, fun _ => by omega, el⟩⟩
  exact p_add hXN (by decide) (by decide) t0 (by omega) (by omega) (by omega) (fun u => nx N hN (KX_e hXN (fun k' a b _ _ _ _ => ⟨fun x => (eqv k' a b).mpr (Or.inl x), fun x => ((eqv k' a b).mp x).elim id (fun e => by rw [e.1, e.2.1, e.2.2]; exact u)⟩))) (fun _ N' f' x' _ => nx N' (trM hN f') (KX_e x' (fun k' a b _ _ _ _ => (eqv k' a b).symm)))
