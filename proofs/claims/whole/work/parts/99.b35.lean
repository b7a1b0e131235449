/-! picture, member, on both sides -/
theorem loop9 {X Y Z U V W S T O : Type} (b : (X → Y → Z → U → V → W → S → T → O → Prop) → X → Y → Z → U → V → W → S → T → O → Prop) (I : X → Y → Z → U → V → W → S → T → O → Prop) (μ : X → Y → Z → U → V → W → S → T → O → Nat) (H : ∀ x y z u v w s t o f, I x y z u v w s t o → (∀ x' y' z' u' v' w' s' t' o', I x' y' z' u' v' w' s' t' o' → μ x' y' z' u' v' w' s' t' o' < μ x y z u v w s t o → f x' y' z' u' v' w' s' t' o') → b f x y z u v w s t o) (x : X) (y : Y) (z : Z) (u : U) (v : V) (w : W) (s : S) (t : T) (o : O) (h : I x y z u v w s t o) : ∃ n, jit (fun _ _ _ _ _ _ _ _ _ => False) b n x y z u v w s t o := by
  have K : ∀ (m : Nat) x y z u v w s t o, I x y z u v w s t o → μ x y z u v w s t o < m → jit (fun _ _ _ _ _ _ _ _ _ => False) b m x y z u v w s t o := by
    intro m
    induction m with
    | zero => intro x y z u v w s t o _ q; omega
    | succ m ih => intro x y z u v w s t o hi hm; exact H x y z u v w s t o _ hi fun x' y' z' u' v' w' s' t' o' hi' hl => ih x' y' z' u' v' w' s' t' o' hi' (by omega)
  exact ⟨_, K (μ x y z u v w s t o + 1) x y z u v w s t o h (by omega)⟩
theorem rk_inc {P : Int → Prop} {a b : Nat} (h : a ≤ b) : rk P a ≤ rk P b := by
  induction b with
  | zero => rw [show a = 0 from by omega]; exact Int.le_refl _
  | succ b ih =>
    by_cases z : a = b + 1
    · rw [z]; exact Int.le_refl _
    · have i := ih (by omega)
      by_cases q : P b
      · rw [(rk_s b).1 q]; omega
      · rw [(rk_s b).2 q]; exact i
theorem rk_st {P : Int → Prop} {r : Int} {b : Nat} (r0 : 0 ≤ r) (h : r < b) (hr : P r) : rk P r.toNat < rk P b := by
  have i := rk_inc (P := P) (a := r.toNat + 1) (b := b) (by omega)
  rw [(rk_s r.toNat).1 (by rw [show ((r.toNat : Nat) : Int) = r from by omega]; exact hr)] at i
  omega
theorem gp_f {C : MM} {c : Nat} {f : Int → Int} {n : Int} (g : GPf C c f n) {t : Int} (t0 : 0 ≤ t) (t1 : t < C c 0) (h : rpG C c t) : f t = rk (rpG C c) t.toNat := by
  rcases g.2 t t0 t1 with ⟨-, q⟩ | ⟨r, a, b, d, e, q⟩
  · exact absurd (db_r C c t) (q t t0 t1 h)
  · have : r = t := by
      by_cases z : r < t
      · exact absurd e (h.1 r a z)
      · by_cases z2 : t < r
        · exact absurd (db_s e) (d.1 t t0 z2)
        · omega
    rw [q, this]
theorem gp_at {C : MM} {c : Nat} {f : Int → Int} {n : Int} (g : GPf C c f n) {t : Int} (t0 : 0 ≤ t) (t1 : t < C c 0) (h : f t ≠ -1) : ∃ r, 0 ≤ r ∧ r ≤ t ∧ rpG C c r ∧ f t = rk (rpG C c) r.toNat ∧ (rpG C c t ↔ r = t) := by
  rcases g.2 t t0 t1 with ⟨q, -⟩ | ⟨r, a, b, d, e, q⟩
  · exact absurd q h
  · have le : r ≤ t := by
      by_cases z2 : t < r
      · exact absurd (db_s e) (d.1 t t0 z2)
      · omega
    refine ⟨r, a, le, d, q, fun ht => ?_, fun ht => ht ▸ d⟩
    by_cases z : r < t
    · exact absurd e (ht.1 r a z)
    · omega
theorem gp_now {C : MM} {c : Nat} {f : Int → Int} {n : Int} (g : GPf C c f n) {t : Int} (t0 : 0 ≤ t) (t1 : t < C c 0) : f t = rk (rpG C c) t.toNat ↔ rpG C c t := by
  refine ⟨fun h => ?_, gp_f g t0 t1⟩
  have b := rk_bd (rpG C c) t.toNat
  obtain ⟨r, r0, r1, hr, e, i⟩ := gp_at g t0 t1 (by omega)
  refine i.mpr ?_
  by_cases z : r = t
  · exact z
  · have := rk_st (b := t.toNat) r0 (by omega) hr
    omega
theorem p_first {Q : Int → MM → Prop} {C M : MM} {c : Nat} {p t n : Int} (g : GPf C c (fun t => M 50 (400 * p + t)) n) (p0 : 0 ≤ p) (p5 : p < 5) (n4 : C c 0 ≤ 400) (t0 : 0 ≤ t) (t1 : t < C c 0) (h : M 50 (400 * p + t) ≠ -1) (hq : ∀ r, (r = t ↔ rpG C c t) → Q r M) : w_X12_firstOfGroup Q p t M := by
  unfold w_X12_firstOfGroup w_X12_firstOfGroup_b2
  refine loop4 _ (fun (a b x : Int) M1 => p = a ∧ t = b ∧ M = M1 ∧ 0 ≤ x ∧ x ≤ t ∧ ∀ u, 0 ≤ u → u < x → M 50 (400 * p + u) ≠ M 50 (400 * p + t)) (fun (_ _ x : Int) _ => (t - x).toNat) ?_ _ _ _ _ ⟨rfl, rfl, rfl, by omega, t0, fun u a b => by omega⟩
  rintro _ _ x _ f ⟨rfl, rfl, rfl, x0, x1, hx⟩ ih
  unfold wb_X12_firstOfGroup_b2
  refine p_at p0 p5 x0 (by omega) fun _ => ⟨by omega, by omega, fun v3 e3 _ => p_at p0 p5 t0 (by omega) fun _ => ⟨by omega, by omega, fun v6 e6 _ => ⟨fun z => hq x ?_, fun z => ?_⟩⟩⟩
  · rw [e3, e6] at z
    obtain ⟨r, r0, r1, hr, er, i⟩ := gp_at g t0 t1 h
    have fr := gp_f g r0 (by omega) hr
    refine ⟨fun e => ?_, fun e => ?_⟩
    · refine i.mpr ?_
      by_cases y : r = t
      · exact y
      · exact absurd (fr.trans er.symm) (hx r r0 (by omega))
    · by_cases y : x = t
      · exact y
      · exfalso
        obtain ⟨s, s0, s1, hs, es, -⟩ := gp_at g x0 (by omega) (by show M 50 (400 * p + x) ≠ -1; rw [z]; exact h)
        have := rk_st (b := t.toNat) s0 (by omega) hs
        have ft := gp_f g t0 t1 e
        have es' : M 50 (400 * p + x) = _ := es
        have ft' : M 50 (400 * p + t) = _ := ft
        omega
  · have : x ≠ t := fun e => z (by rw [e3, e6, e])
    refine ⟨by unfold ri_; omega, ih _ _ _ _ ⟨rfl, rfl, rfl, by omega, by omega, fun u a b => ?_⟩ (by omega)⟩
    by_cases y : u = x
    · rw [y, ← e3, ← e6]; exact z
    · exact hx u a (by omega)
/-- depths climb with the numbers -/
theorem dp_m {C : MM} {c : Nat} (hw : PW C c) (n : Nat) : (n : Int) < C c 0 → ∀ a b : Int, 0 ≤ a → a ≤ b → b ≤ n → C (c + 5) a ≤ C (c + 5) b := by
  obtain ⟨-, -, -, -, -, -, -, -, -, -, -, -, hz, hl⟩ := id hw
  induction n with
  | zero => intro _ a b a0 ab b0; rw [show a = b from by omega]; exact Int.le_refl _
  | succ n ih =>
    intro hn a b a0 ab bn
    by_cases y : b = n + 1
    · by_cases y2 : a = n + 1
      · rw [y, y2]; exact Int.le_refl _
      · have i1 := ih (by omega) a n a0 (by omega) (by omega)
        have z0 := hz n (by omega) (by omega)
        have z1 := hz (n + 1) (by omega) (by omega)
        have l := hl n (by omega) (by omega)
        unfold PZ at z0 z1
        unfold lx at l
        dsimp only at l
        obtain ⟨-, z01, -, z02⟩ := z0
        obtain ⟨-, z11, -, z12⟩ := z1
        rw [y]
        rcases z12 with ⟨w1, w2⟩ | ⟨w1, w2, w3⟩
        · rcases z02 with ⟨v1, v2⟩ | ⟨v1, v2, v3⟩ <;> omega
        · rcases z02 with ⟨v1, v2⟩ | ⟨v1, v2, v3⟩
          · omega
          · have i2 := ih (by omega) (C (c + 6) n) (C (c + 6) (n + 1)) v1 (by omega) (by omega)
            omega
    · exact ih (by omega) a b a0 ab (by omega)
def dpl (C : MM) (c : Nat) (n : Int) : Int := if n = 0 then -1 else C (c + 5) (n - 1)
def dbS (C R : MM) (c : Nat) (p t : Int) : Prop := R 50 (400 * p + t) ≠ -1 ∧ ¬ rpG C c t
def hrS (C : MM) (c : Nat) (w t : Int) : Prop := C (c + 2) t < 20 ∧ 200 ≤ w ∧ w - 200 < C 8 0 ∧ heir C (C (c + 2) t) (w - 200)
def tpS (C : MM) (c : Nat) (w t : Int) : Prop := C (c + 2) t = w
theorem szt_bd {C R : MM} {c : Nat} (hY : Rty C R) (hw : PW C c) {t : Int} (t0 : 0 ≤ t) (t1 : t < C c 0) : 0 ≤ szt C c t ∧ szt C c t ≤ 8000 := by
  obtain ⟨-, -, a3, -, a5, a6, -⟩ := hw.2.2.2.1 t t0 t1
  exact sz_bd hY a3 a5 a6
set_option maxHeartbeats 2000000 in
theorem p_R_pic {Q : Int → MM → Prop} {C M : MM} {c : Nat} {p w : Int} (hY : Rty C M) (hw : PW C c) (hb : Rpb C M c p) (ht : Rtb C M c p) (p0 : 0 ≤ p) (p5 : p < 5) (gw : ri_ w) (h0 : w = 0 → Q (C c 0) M) (h1 : w = 1 → Q (M 53 p) M) (h2 : w = 2 → Q (M 54 p) M) (h3 : w = 3 → Q (sk (fun _ => True) (szt C c) (C c 0).toNat) M) (h4 : w = 4 → Q (sk (dbS C M c p) (szt C c) (C c 0).toNat) M) (h5 : w = 5 → Q (dpl C c (C c 0)) M) (h6 : 100 ≤ w → w < 200 → w - 100 < C 8 0 → Q (rk (tpS C c (w - 100)) (C c 0).toNat) M) (h7 : 200 ≤ w → w - 200 < C 8 0 → Q (rk (hrS C c w) (C c 0).toNat) M) (h8 : (w < 0 ∨ (5 < w ∧ w < 100) ∨ (100 ≤ w ∧ w < 200 ∧ C 8 0 ≤ w - 100) ∨ (200 ≤ w ∧ C 8 0 ≤ w - 200)) → Q (-1) M) : w_X12_picture_b32 Q p w 0 0 (-1) 0 0 0 M := by
  have n0 := hw.1
  have n4 := hw.2.1
  obtain ⟨b1, b2, b3, b4, b5⟩ := id hb
  have y1 := hY.1
  have y16 := hY.2.2.1
  have gw' := gw
  unfold ri_ at gw
  have gp := ht.2.2.2.2.2.2.2
  unfold w_X12_picture_b32
  refine loop9 _ (fun (a b x3 x4 x5 x6 x7 t : Int) M1 => p = a ∧ w = b ∧ M = M1 ∧ 0 ≤ t ∧ t ≤ C c 0 ∧ x3 = sk (fun _ => True) (szt C c) t.toNat ∧ x4 = sk (dbS C M c p) (szt C c) t.toNat ∧ x5 = dpl C c t ∧ x6 = rk (tpS C c (w32 (w - 100))) t.toNat ∧ x7 = rk (hrS C c w) t.toNat) (fun (_ _ _ _ _ _ _ t : Int) _ => (C c 0 - t).toNat) ?_ _ _ _ _ _ _ _ _ _ ⟨rfl, rfl, rfl, by omega, n0, rfl, rfl, rfl, rfl, rfl⟩
  rintro _ _ x3 x4 x5 x6 x7 t _ f ⟨rfl, rfl, rfl, t0, t1, e3, e4, e5, e6, e7⟩ ih
  unfold wb_X12_picture_b32
  refine ⟨p0, p5, fun v1 e1 _ => ?_⟩
  rw [← b1] at e1
  subst e1
  refine ⟨fun z => ?_, fun z => ?_⟩
  · have et : t = C c 0 := by omega
    subst et
    refine ⟨fun z1 => ⟨fun z2 => ⟨fun w0 => ⟨fun w1 => ⟨fun w2 => ⟨fun w3 => ⟨fun w4 => ⟨fun w5 => h8 (by omega), fun w5 => by rw [e5]; exact h5 w5⟩, fun w4 => by rw [e4]; exact h4 w4⟩, fun w3 => by rw [e3]; exact h3 w3⟩, fun w2 => ⟨p0, p5, fun v e _ => by rw [e]; exact h2 w2⟩⟩, fun w1 => ⟨p0, p5, fun v e _ => by rw [e]; exact h1 w1⟩⟩, fun w0 => ⟨p0, p5, fun v e _ => by rw [e, ← b1]; exact h0 w0⟩⟩, fun z2 => ⟨by unfold ri_; omega, p_R_isClass (fun a b _ => ⟨fun q => by omega, fun _ => ?_⟩) (fun a _ => ⟨fun _ => h8 (by omega), fun q => absurd rfl q⟩)⟩⟩, fun z1 => ⟨by unfold ri_; omega, p_R_isClass (fun a b _ => ⟨fun q => by omega, fun _ => ?_⟩) (fun a _ => ⟨fun _ => h8 (by omega), fun q => absurd rfl q⟩)⟩⟩
    · rw [e6, w32_of (by unfold ri_; omega)]; exact h6 (by omega) z1 (by omega)
    · rw [e7]; exact h7 (by omega) (by omega)
  · have tt : ((t.toNat : Nat) : Int) = t := by omega
    have t4 : (t + 1).toNat = t.toNat + 1 := by omega
    obtain ⟨c1, c2, c3, c4⟩ := b2 t t0 (by omega)
    obtain ⟨d5, -, -, -⟩ := ht.1 t t0 (by omega)
    obtain ⟨-, -, a3, -, a5, a6, -⟩ := hw.2.2.2.1 t t0 (by omega)
    have sb := szt_bd hY hw t0 (t := t) (by omega)
    have s3 := sk_bd (P := fun _ => True) (w := szt C c) t.toNat (fun u a b => szt_bd hY hw a (by omega))
    have s4 := sk_bd (P := dbS C M c p) (w := szt C c) t.toNat (fun u a b => szt_bd hY hw a (by omega))
    have r6 := rk_bd (tpS C c (w32 (w - 100))) t.toNat
    have r7 := rk_bd (hrS C c w) t.toNat
    have n3 := (sk_s (P := fun _ => True) (w := szt C c) t.toNat).1 trivial
    have n4' := sk_s (P := dbS C M c p) (w := szt C c) t.toNat
    have n6 := rk_s (P := tpS C c (w32 (w - 100))) t.toNat
    have n7 := rk_s (P := hrS C c w) t.toNat
    rw [tt] at n3 n4' n6 n7
    have last : ∀ s6 s7, s6 = rk (tpS C c (w32 (w - 100))) (t.toNat + 1) → ((hrS C c w t ∧ s7 = 1) ∨ (¬ hrS C c w t ∧ s7 = 0)) → w_X12_picture_b215 Q f p w (sk (fun _ => True) (szt C c) (t.toNat + 1)) (sk (dbS C M c p) (szt C c) (t.toNat + 1)) (dpl C c (t + 1)) s6 t s7 x7 M := fun s6 s7 q6 q7 => by
      unfold w_X12_picture_b215
      refine ⟨by unfold ri_; omega, by unfold ri_; omega, ih _ _ _ _ _ _ _ _ _ ⟨rfl, rfl, rfl, by omega, by omega, by rw [t4], by rw [t4], rfl, by rw [q6, t4], ?_⟩ (by omega)⟩
      rw [t4]
      rcases q7 with ⟨q, q'⟩ | ⟨q, q'⟩
      · rw [n7.1 q, q', e7]
      · rw [n7.2 q, q', e7]; omega
    have no : ∀ s6, s6 = rk (tpS C c (w32 (w - 100))) (t.toNat + 1) → ¬ hrS C c w t → w_X12_picture_b214 Q f p w (sk (fun _ => True) (szt C c) (t.toNat + 1)) (sk (dbS C M c p) (szt C c) (t.toNat + 1)) (dpl C c (t + 1)) s6 t x7 M := fun s6 q6 q7 => by
      unfold w_X12_picture_b214
      exact last s6 0 q6 (Or.inr ⟨q7, rfl⟩)
    have heirs : ∀ s0, ((tpS C c (w32 (w - 100)) t ∧ s0 = 1) ∨ (¬ tpS C c (w32 (w - 100)) t ∧ s0 = 0)) → w_X12_picture_b163 Q f p w (sk (fun _ => True) (szt C c) (t.toNat + 1)) (sk (dbS C M c p) (szt C c) (t.toNat + 1)) (dpl C c (t + 1)) x7 t (C (c + 2) t) s0 x6 M := fun s0 h => by
      have q6 : x6 + s0 = rk (tpS C c (w32 (w - 100))) (t.toNat + 1) := by
        rcases h with ⟨q, q'⟩ | ⟨q, q'⟩
        · rw [n6.1 q, q', e6]
        · rw [n6.2 q, q', e6]; omega
      unfold w_X12_picture_b163
      unfold vT at a3
      refine ⟨by unfold ri_; omega, p_R_isClass (fun a b _ => ⟨fun q => by omega, fun _ => ⟨fun z1 => no _ q6 ?_, fun z1 => ⟨by unfold ri_; omega, p_R_isClass (fun a' b' _ => ⟨fun q => by omega, fun _ => ⟨by unfold ri_; omega, p_R_is hY (by omega) (by omega) (by omega) (fun hh _ => ⟨fun q => by omega, fun _ => last _ 1 q6 (Or.inl ⟨⟨by omega, by omega, by omega, hh⟩, rfl⟩)⟩) (fun hh _ => ⟨fun _ => no _ q6 fun q => hh q.2.2.2, fun q => absurd rfl q⟩)⟩⟩) (fun a' _ => ⟨fun _ => no _ q6 ?_, fun q => absurd rfl q⟩)⟩⟩⟩) (fun a _ => ⟨fun _ => no _ q6 ?_, fun q => absurd rfl q⟩)⟩
      · intro q; have := q.2.1; omega
      · intro q; have := q.2.1; have := q.2.2.1; omega
      · intro q; have := q.1; omega
    have types : w_X12_picture_b145 Q f p w (sk (fun _ => True) (szt C c) (t.toNat + 1)) (sk (dbS C M c p) (szt C c) (t.toNat + 1)) x6 x7 t (C (c + 2) t) (dpl C c (t + 1)) M := by
      unfold w_X12_picture_b145
      exact ⟨fun q => heirs 0 (Or.inr ⟨q, rfl⟩), fun q => heirs 1 (Or.inl ⟨q, rfl⟩)⟩
    have d1 : dpl C c (t + 1) = C (c + 5) t := by unfold dpl; rw [if_neg (by omega), show t + 1 - 1 = t from by omega]
    have deep : ∀ s0, ((dbS C M c p t ∧ s0 = szt C c t) ∨ (¬ dbS C M c p t ∧ s0 = 0)) → w_X12_picture_b108 Q f p w (sk (fun _ => True) (szt C c) (t.toNat + 1)) x5 x6 x7 t (C (c + 2) t) s0 x4 M := fun s0 h => by
      have q4 : x4 + s0 = sk (dbS C M c p) (szt C c) (t.toNat + 1) := by
        rcases h with ⟨q, q'⟩ | ⟨q, q'⟩
        · rw [n4'.1 q, q', e4]
        · rw [n4'.2 q, q', e4]; omega
      unfold w_X12_picture_b108
      rw [q4]
      refine ⟨by unfold ri_; rcases h with ⟨q, q'⟩ | ⟨q, q'⟩ <;> omega, p_at p0 p5 t0 (by omega) fun _ => ⟨by omega, by omega, fun v4 e4' _ => ⟨fun q => ?_, fun q => p_at p0 p5 t0 (by omega) fun _ => ⟨by omega, by omega, fun v8 e8 _ => ?_⟩⟩⟩⟩
      · rw [← d5] at e4'
        have : x5 = dpl C c (t + 1) := by
          rw [d1, e5]
          unfold dpl
          rw [e5] at q
          unfold dpl at q
          have pz := (hw.2.2.2.2.2.2.2.2.2.2.2.2.1 t t0 (by omega)).2.1
          by_cases y : t = 0
          · rw [if_pos y] at q; omega
          · rw [if_neg y] at q ⊢
            have := dp_m hw t.toNat (by omega) (t - 1) t (by omega) (by omega) (by omega)
            omega
        rw [this]; exact types
      · rw [← d5] at e8
        rw [e8, ← d1]; exact types
    refine p_at p0 p5 t0 (by omega) fun _ => ⟨by omega, by omega, fun v24 e24 _ => p_sizeIn hY hw hb p0 p5 t0 (by omega) fun _ => ?_⟩
    rw [← c2] at e24
    subst e24
    have e3' : x3 + sz C (C (c + 2) t) (C (c + 3) t) = sk (fun _ => True) (szt C c) (t.toNat + 1) := by rw [n3, e3]; rfl
    rw [e3']
    have sb' : sz C (C (c + 2) t) (C (c + 3) t) = szt C c t := rfl
    refine ⟨by unfold ri_; omega, p_at p0 p5 t0 (by omega) fun _ => ⟨by omega, by omega, fun v30 e30 _ => ⟨fun q => ?_, fun q => p_first gp p0 p5 n4 t0 (by omega) (by rw [← e30]; exact q) fun r hr _ => ⟨fun q2 => ?_, fun q2 => p_sizeIn hY hw hb p0 p5 t0 (by omega) fun _ => ?_⟩⟩⟩⟩
    · unfold w_X12_picture_b107
      exact deep 0 (Or.inr ⟨fun y => y.1 (by rw [← e30]; exact q), rfl⟩)
    · unfold w_X12_picture_b107
      exact deep 0 (Or.inr ⟨fun y => y.2 (hr.mp q2), rfl⟩)
    · exact deep _ (Or.inl ⟨⟨by rw [← e30]; exact q, fun y => q2 (hr.mpr y)⟩, rfl⟩)
