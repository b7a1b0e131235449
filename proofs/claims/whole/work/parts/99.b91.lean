/-! atoms -/
variable {c : Nat} {C0 R0 : MM} {E : Nat → Int} {L : Nat} {b it : Int} {SM ST : SMt} {q : Int}
theorem Out_W {k : Nat} {n fo s st : Int} {nm nr_ sf : Int → Int} {a : Int} {P : CD} {lo : Int} {N : MM} {S : Nat → Int → Int → Int → CD → MM → Prop} {Wc Wr Wc' Wr' : (Int → MM → Prop) → MM → Prop} (h : Out c C0 R0 E L b it k n q fo s st nm nr_ sf a P lo N S Wc Wr) (hc : ∀ C w wq Q, SC c C0 k n q fo it s w st nm sf wq C → Wc Q C → Wc' Q C) (hr : ∀ R Q, SR C0 R0 E b k n q it s nr_ R → Wr Q R → Wr' Q R) : Out c C0 R0 E L b it k n q fo s st nm nr_ sf a P lo N S Wc' Wr' := by
  rcases h with ⟨k2, n2, st2, x2, P2, N2, kk, k2L, nn, n2L, ss, hS, cO, rO⟩ | ⟨f, pl, f0, cN, rN⟩
  · exact Or.inl ⟨k2, n2, st2, x2, P2, N2, kk, k2L, nn, n2L, ss, hS, fun C w wq w0 w1 hC hP Q hq => hc C w wq Q hC (cO C w wq w0 w1 hC hP Q hq), fun R hR hN Q hq => hr R Q hR (rO R hR hN Q hq)⟩
  · exact Or.inr ⟨f, pl, f0, fun C w wq w0 w1 hC hP Q hq => hc C w wq Q hC (cN C w wq w0 w1 hC hP Q hq), fun R hR hN Q hq => hr R Q hR (rN R hR hN Q hq)⟩
/-- one word that is one node -/
theorem J_leaf {k : Nat} {n fo s st : Int} {nm nr_ sf : Int → Int} {G : Nat → (Int → MM → Prop) → List Int → MM → Prop} (hc : Clo SM ST) (hT : TX C0 R0 E L) (b0 : 0 ≤ b) (b1 : b ≤ 360) (hk : k ≤ L) (n0 : 0 ≤ n) (n1 : n ≤ 120) (s0 : 0 ≤ s) (s1 : s ≤ fo) (st0 : 0 ≤ st) (st1 : st ≤ 3 * n + 30) (hw : 2 ≤ C0 4 k) (op f d kd A : Int) (hL : leafK (pone op f 0 d) (nnod kd A (-1) (-1) (wdR C0 R0 k)) s sf it (b + n) st) :
    Out c C0 R0 E L b it k n q fo s st nm nr_ sf st (fun _ _ => 0) (b + n) (fun _ _ => 0) (fun k' n' st' x P N => n < n' ∧ SE SM b n s fo st sf it st (b + n) k' n' st' x P N) (fun Q C => w_X6_readLeaf c (fun r M => (r = 0 ∨ r = 1) → Q r M) op f d C) (fun Q R => w_X12_readAtom_b364 G Q A kd R) := by
  have kL := TX_lt hT hk (show C0 4 k ≠ 0 by omega)
  by_cases n120 : n = 120
  · refine Or.inr ⟨4, C0 5 k, by omega, fun C w wq w0 w1 hC hP Q hq => ?_, fun R hR hN Q hq => ?_⟩
    · show w_X6_readLeaf c (fun r M => (r = 0 ∨ r = 1) → Q r M) op f d C
      unfold w_X6_readLeaf
      exact c_addN hC n0 n1 (fun z => by omega) (fun _ C' hC' _ => ⟨fun z => absurd rfl z, fun _ _ => hq C' hC'⟩)
    · show w_X12_readAtom_b364 G Q A kd R
      unfold w_X12_readAtom_b364
      exact r_node hR b0 b1 n0 n1 (fun z => by omega) (fun _ R1 h1 h78 r1 _ v3 e3 _ => ⟨fun z => by have := h1.2.1; omega, fun _ => hq _ _ h1⟩)
  · refine Or.inl ⟨k + 1, n + 1, st + 1, b + n, pone op f 0 d, nnod kd A (-1) (-1) (wdR C0 R0 k), by omega, kL, by omega, by omega, by omega, ⟨by omega, by omega, by omega, by omega, ?_⟩, fun C w wq w0 w1 hC hP Q hq => ?_, fun R hR hN Q hq => ?_⟩
    · have := hc.2.2.1 _ _ s sf fo it (b + n) st hL s0 s1
      rw [show b + n + 1 = b + (n + 1) from by omega] at this
      exact this
    · show w_X6_readLeaf c (fun r M => (r = 0 ∨ r = 1) → Q r M) op f d C
      unfold w_X6_readLeaf
      refine c_addN hC n0 n1 (fun _ C1 h1 r1 _ => ⟨fun _ => c_emit h1 st0 (by omega) (fun C2 h2 r2 u1 u2 u3 u4 _ => c_next hT.1 h2 hk (by omega) (fun C3 h3 r3 _ => hq C3 h3 (fun j i j0 j4 hi => by rw [r3 j j0, r2 j i j0 (by omega), r1 j j0]) (fun j i j0 j4 hi hi2 => ?_))), fun z => absurd z (by decide)⟩) (fun z => by omega)
      have y : i = st := by omega
      subst y
      rw [r3 j j0]
      exact pone_of u1 u2 u3 u4 j0 j4 _
    · show w_X12_readAtom_b364 G Q A kd R
      unfold w_X12_readAtom_b364
      refine r_node hR b0 b1 n0 n1 (fun _ R1 h1 r1 r71 g66 g67 g68 g69 g70 g0 _ v3 e3 _ => ⟨fun _ => ⟨by omega, by omega, fun M5 e5 => ?_⟩, fun z => by have := h1.2.2.1.1; omega⟩) (fun z => by omega)
      have h2 := SR_u h1 (j := 67) (by omega) (by omega) (i := b + n) A (by omega) (by omega)
      rw [← e5] at h2
      refine r_next hT h2 hk (by omega) (fun R' h3 r3 => hq R' h3 (fun j i j0 j4 hi => ?_) (fun j i j0 j4 hi hi2 => ?_))
      · have a1 : M5 j i = R1 j i := by rw [e5]; unfold ux_; rw [if_neg (by omega)]
        rw [r3 j (by omega), a1, r1 j (by omega) i (by omega)]
      · have y : i = b + n := by omega
        subst y
        rw [r3 j (by omega)]
        have mo : ∀ j, 66 ≤ j → j ≤ 70 → j ≠ 67 → M5 j (b + n) = R1 j (b + n) := fun j a d e => by rw [e5, ux_c _ _ _ _ e]
        exact nnod_of (by rw [mo 66 (by omega) (by omega) (by omega), g66]) (by rw [e5, ux_s]) (by rw [mo 68 (by omega) (by omega) (by omega), g68]) (by rw [mo 69 (by omega) (by omega) (by omega), g69]) (by rw [mo 70 (by omega) (by omega) (by omega), g70, SR_wd hR hw]) j0 j4 _
/-- a fault told at the word at hand, on both sides -/
theorem J_flt {k : Nat} {n fo s st : Int} {nm nr_ sf : Int → Int} {a : Int} {P : CD} {lo : Int} {N : MM} {S : Nat → Int → Int → Int → CD → MM → Prop} {Wc Wr : (Int → MM → Prop) → MM → Prop} (f : Int) (f0 : 0 < f) (hc : ∀ C w wq Q, 0 ≤ w → SC c C0 k n q fo it s w st nm sf wq C → (∀ C', CF c C0 f (C0 5 k) C' → Q 0 C') → Wc Q C) (hr : ∀ R Q, SR C0 R0 E b k n q it s nr_ R → (∀ x R', RF R0 b q s f (C0 5 k) R' → Q x R') → Wr Q R) : Out c C0 R0 E L b it k n q fo s st nm nr_ sf a P lo N S Wc Wr :=
  Or.inr ⟨f, C0 5 k, f0, fun C w wq w0 _ hC _ Q hq => hc C w wq Q w0 hC hq, fun R hR _ Q hq => hr R Q hR hq⟩
/-- the reference behind its look at the variables, for words that are none -/
theorem r_plain {Q : Int → MM → Prop} {R : MM} {W D : Int} {d : Nat} (h83 : R 0 83 = 0) (ht : tk R W D) (hK : Kd R) (hw : W = 3 ∨ W = 39 ∨ W = 40 ∨ W = 41 ∨ W = 58) (h : w_X12_readAtom_b309 (gr_ d) Q (if W = 3 then -1 else kp (W - 30)) 1 (-1) R) : gr_ (d + 1) 8 Q [] R := by
  have n2 := tk_num ht
  have go : ∀ x, x = (if W = 3 then -1 else kp (W - 30)) → (W = 3 ∨ x = 8 ∨ x = 9 ∨ x = 10 ∨ x = 27) → x < 13 ∨ 22 < x → x ≠ 28 → w_X12_readAtom_b98 (gr_ d) Q x R := fun x hx hx2 hx3 hx4 => by
    have e : w_X12_readAtom_b237 (gr_ d) Q x R := by
      unfold w_X12_readAtom_b237 w_X12_readAtom_b242 w_X12_readAtom_b263 w_X12_readAtom_b268
      refine ⟨fun _ => ⟨1, ?_⟩, fun z => absurd z (by decide)⟩
      show wb_X12_readAtom_b268 (gr_ d) Q _ x 1 (-1) 0 R
      unfold wb_X12_readAtom_b268
      rw [hx]
      exact fun v1 e1 _ => ⟨fun _ => h, fun _ => ⟨fun _ => h, fun z => absurd z (by decide)⟩⟩
    have e2 : w_X12_readAtom_b139 (gr_ d) Q x R := by
      unfold w_X12_readAtom_b139
      exact ⟨fun _ v2 e2 _ => ⟨fun _ => e, fun z => ⟨fun _ => e, fun y1 => ⟨fun _ => e, fun y2 => ⟨fun _ => e, fun y3 => ⟨fun y4 => absurd (show v2 = 2 by rw [e2]; exact n2.mpr (by omega)) z, fun _ => e⟩⟩⟩⟩⟩, fun z => absurd z hx4⟩
    unfold w_X12_readAtom_b98
    exact ⟨fun _ => e2, fun _ => ⟨fun _ => e2, fun _ => by omega⟩⟩
  show b_X12_readAtom (gr_ d) Q R
  unfold b_X12_readAtom
  refine fun v1 e1 _ => ⟨fun _ => r_kah ht hK (fun x x0 x1 xw _ => r_isS ht (x := 0) (by omega) (fun z => by omega) (fun _ _ => ⟨fun _ => ?_, fun z => absurd rfl z⟩) (by decide)) (fun z _ => r_isS ht (x := 0) (by omega) (fun z => by omega) (fun _ _ => ⟨fun _ => ?_, fun z => absurd rfl z⟩) (by decide)), fun z => by omega⟩
  · have e3 : kp x = (if W = 3 then -1 else kp (W - 30)) := by rw [if_neg (by omega)]; exact congrArg kp (by omega)
    have e4 : kp x = 8 ∨ kp x = 9 ∨ kp x = 10 ∨ kp x = 27 := by unfold kp; rw [if_neg (by omega), if_neg (by omega)]; omega
    have := go (kp x) e3 (Or.inr e4) (by omega) (by omega)
    exact ⟨fun _ => this, fun _ => ⟨fun _ => this, fun _ => by omega⟩⟩
  · have := go (-1) (by rw [if_pos (by omega)]) (Or.inl (by omega)) (by omega) (by omega)
    exact ⟨fun _ => this, fun _ => by omega⟩
/-- .. and where no word of an atom stands -/
theorem r_noAtom {Q : Int → MM → Prop} {R : MM} {W D : Int} {d : Nat} (h83 : R 0 83 = 0) (ht : tk R W D) (hK : Kd R) (hw : W ≠ 2 ∧ W ≠ 3 ∧ W ≠ 4 ∧ W ≠ 33 ∧ W ≠ 39 ∧ W ≠ 40 ∧ W ≠ 41 ∧ W ≠ 58 ∧ ¬ (44 ≤ W ∧ W ≤ 53)) (h : w_X12_wrong (fun _ M6 => (∀ v7, v7 = M6 0 91 → ri_ v7 → Q v7 M6)) R) : gr_ (d + 1) 8 Q [] R := by
  have n2 := tk_num ht
  have go : ∀ x, (x = -1 ∨ ∃ y, 0 ≤ y ∧ y < 29 ∧ W = 30 + y ∧ x = kp y) → w_X12_readAtom_b98 (gr_ d) Q x R ∧ (x < 13 ∨ 18 < x) := fun x hx => by
    have nx : x ≠ 8 ∧ x ≠ 9 ∧ x ≠ 10 ∧ x ≠ 27 ∧ x ≠ 28 ∧ (x < 13 ∨ 22 < x) := by
      rcases hx with rfl | ⟨y, y0, y1, y2, y3⟩
      · omega
      · unfold kp at y3
        split at y3
        · omega
        · split at y3 <;> omega
    clear hx
    have e2 : w_X12_readAtom_b139 (gr_ d) Q x R := by
      unfold w_X12_readAtom_b139 w_X12_readAtom_b242
      exact ⟨fun _ v2 e2 _ => ⟨fun z => absurd (n2.mp (by omega)) (by omega), fun z => ⟨fun y => by omega, fun y1 => ⟨fun y => by omega, fun y2 => ⟨fun y => by omega, fun y3 => ⟨fun _ => ⟨fun y => absurd rfl y, fun _ => r_isN ht (fun y => by omega) (fun _ _ => ⟨fun y => absurd rfl y, fun _ => h⟩)⟩, fun y => by omega⟩⟩⟩⟩⟩, fun z => by omega⟩
    refine ⟨?_, by omega⟩
    unfold w_X12_readAtom_b98
    exact ⟨fun _ => e2, fun _ => ⟨fun _ => e2, fun _ => by omega⟩⟩
  show b_X12_readAtom (gr_ d) Q R
  unfold b_X12_readAtom
  refine fun v1 e1 _ => ⟨fun _ => r_kah ht hK (fun x x0 x1 xw _ => r_isS ht (x := 0) (by omega) (fun z => by omega) (fun _ _ => ⟨fun _ => ?_, fun z => absurd rfl z⟩) (by decide)) (fun z _ => r_isS ht (x := 0) (by omega) (fun z => by omega) (fun _ _ => ⟨fun _ => ?_, fun z => absurd rfl z⟩) (by decide)), fun z => by omega⟩
  · obtain ⟨g1, g2⟩ := go (kp x) (Or.inr ⟨x, x0, x1, xw, rfl⟩)
    exact ⟨fun _ => g1, fun _ => ⟨fun _ => g1, fun _ => by omega⟩⟩
  · obtain ⟨g1, g2⟩ := go (-1) (Or.inl rfl)
    exact ⟨fun _ => g1, fun _ => by omega⟩
/-- .. and at a name -/
theorem r_nameIn {Q : Int → MM → Prop} {R : MM} {D : Int} {d : Nat} (h83 : R 0 83 = 0) (ht : tk R 2 D) (hK : Kd R) (h : w_X12_readAtom_b268 (gr_ d) Q (-1) 0 (-1) 0 R) : gr_ (d + 1) 8 Q [] R := by
  have n2 := tk_num ht
  have e2 : w_X12_readAtom_b139 (gr_ d) Q (-1) R := by
    unfold w_X12_readAtom_b139 w_X12_readAtom_b242 w_X12_readAtom_b263
    exact ⟨fun _ v2 e2 _ => ⟨fun z => absurd (n2.mp (by omega)) (by omega), fun z => ⟨fun y => by omega, fun y1 => ⟨fun y => by omega, fun y2 => ⟨fun y => by omega, fun y3 => ⟨fun _ => ⟨fun y => absurd rfl y, fun _ => r_isN ht (fun _ _ => ⟨fun _ => h, fun y => absurd y (by decide)⟩) (fun y => absurd rfl y)⟩, fun y => by omega⟩⟩⟩⟩⟩, fun z => by omega⟩
  show b_X12_readAtom (gr_ d) Q R
  unfold b_X12_readAtom w_X12_readAtom_b98
  refine fun v1 e1 _ => ⟨fun _ => r_kah ht hK (fun x x0 x1 xw => by omega) (fun z _ => r_isS ht (x := 0) (by omega) (fun z => by omega) (fun _ _ => ⟨fun _ => ⟨fun _ => ⟨fun _ => e2, fun y => by omega⟩, fun y => by omega⟩, fun z => absurd rfl z⟩) (by decide)), fun z => by omega⟩
theorem lastM {p : Int → Prop} : ∀ s : Nat, (∃ v, 0 ≤ v ∧ v < (s : Int) ∧ p v) → ∃ v, 0 ≤ v ∧ v < (s : Int) ∧ p v ∧ ∀ u, v < u → u < (s : Int) → ¬ p u
  | 0, ⟨v, v0, v1, _⟩ => by omega
  | s + 1, ⟨v, v0, v1, hv⟩ => by
    by_cases h : p s
    · exact ⟨s, by omega, by omega, h, fun u a d => by omega⟩
    · have : v ≠ s := fun e => h (by rw [← e]; exact hv)
      obtain ⟨v', a1, a2, a3, a4⟩ := lastM s ⟨v, v0, by omega, hv⟩
      refine ⟨v', a1, by omega, a3, fun u a d => ?_⟩
      by_cases e : u = s
      · rw [e]; exact h
      · exact a4 u a (by omega)
theorem c_var {k : Nat} {n fo s w st : Int} {nm sf wq : Int → Int} {C : MM} {Q : Int → MM → Prop} (hC : SC c C0 k n q fo it s w st nm sf wq C) (s0 : 0 ≤ s) (s10 : s ≤ 10) (h1 : ∀ v, 0 ≤ v → v < s → nm v = C0 6 k → (∀ u, v < u → u < s → nm u ≠ C0 6 k) → w_X6_readLeaf c (fun r M => (r = 0 ∨ r = 1) → Q r M) 5 (sf v) 0 C) (h0 : (∀ u, 0 ≤ u → u < s → nm u ≠ C0 6 k) → w_X6_fail c (fun r M => (r = 0 ∨ r = 1) → Q r M) 3 C) : w_X6_readVariable c Q C := by
  unfold w_X6_readVariable w_X6_readVariable_b7
  have h16 := hC.2.2.1.2.2.2.2.1
  refine fun v1 e1 _ => ⟨by unfold ri_; omega, ?_⟩
  refine loop2 _ (fun (x : Int) M => M = C ∧ -1 ≤ x ∧ x < s ∧ ∀ u, x < u → u < s → nm u ≠ C0 6 k) (fun (x : Int) _ => (x + 1).toNat) ?_ _ _ ⟨rfl, by omega, by omega, fun u a d => by omega⟩
  rintro x M g ⟨rfl, x0, x1, hx⟩ ih
  unfold wb_X6_readVariable_b7
  refine ⟨fun z => h0 (fun u u0 u1 => hx u (by omega) u1), fun z => ⟨by omega, by omega, fun v4 e4 _ v5 e5 _ => ?_⟩⟩
  rw [(hC.2.2.2.1.1 x (by omega) x1).1] at e4
  rw [hC.2.1.2.2.1] at e5
  refine ⟨fun y => ⟨by unfold ri_; omega, ih _ _ ⟨rfl, by omega, by omega, fun u a d => ?_⟩ (by omega)⟩, fun y => ⟨by omega, by omega, fun v8 e8 _ => ?_⟩⟩
  · by_cases e : u = x
    · rw [e, ← e4, ← e5]; exact y
    · exact hx u (by omega) d
  · rw [e8, (hC.2.2.2.1.1 x (by omega) x1).2]
    exact h1 x (by omega) x1 (by rw [← e4, ← e5]; exact y) hx
theorem r_var {k : Nat} {n s : Int} {nr_ : Int → Int} {R : MM} {Q : Int → MM → Prop} {G : Nat → (Int → MM → Prop) → List Int → MM → Prop} (hR : SR C0 R0 E b k n q it s nr_ R) (s0 : 0 ≤ s) (s10 : s ≤ 10) (hw : C0 4 k = 2) (h1 : ∀ v, 0 ≤ v → v < s → nr_ v = wdR C0 R0 k → (∀ u, v < u → u < s → nr_ u ≠ wdR C0 R0 k) → w_X12_readAtom_b309 G Q (-1) 0 v R) (h0 : (∀ u, 0 ≤ u → u < s → nr_ u ≠ wdR C0 R0 k) → w_X12_readAtom_b309 G Q (-1) 0 (-1) R) : w_X12_readAtom_b268 G Q (-1) 0 (-1) 0 R := by
  unfold w_X12_readAtom_b268
  have h94 := hR.2.2.1.2.2.2.2.1
  refine loop5 _ (fun (x1 x2 x3 x4 : Int) M => M = R ∧ x1 = -1 ∧ x2 = 0 ∧ 0 ≤ x4 ∧ x4 ≤ s ∧ ((x3 = -1 ∧ ∀ u, 0 ≤ u → u < x4 → nr_ u ≠ wdR C0 R0 k) ∨ (0 ≤ x3 ∧ x3 < x4 ∧ nr_ x3 = wdR C0 R0 k ∧ ∀ u, x3 < u → u < x4 → nr_ u ≠ wdR C0 R0 k))) (fun (_ _ _ x4 : Int) _ => (s - x4).toNat) ?_ _ _ _ _ _ ⟨rfl, rfl, rfl, by omega, s0, Or.inl ⟨rfl, fun u a d => by omega⟩⟩
  rintro x1 x2 x3 x4 M g ⟨rfl, rfl, rfl, x40, x41, hx⟩ ih
  unfold wb_X12_readAtom_b268 w_X12_readAtom_b302
  refine fun v1 e1 _ => ⟨fun z => ?_, fun z => ⟨fun y => absurd rfl y, fun _ => ⟨x40, by omega, fun v4 e4 _ v5 e5 _ => ⟨fun y => ⟨by unfold ri_; omega, ih _ _ _ _ _ ⟨rfl, rfl, rfl, by omega, by omega, ?_⟩ (by omega)⟩, fun y => ⟨by unfold ri_; omega, ih _ _ _ _ _ ⟨rfl, rfl, rfl, by omega, by omega, Or.inr ⟨by omega, by omega, ?_, fun u a d => by omega⟩⟩ (by omega)⟩⟩⟩⟩⟩
  · have xs : x4 = s := by omega
    subst xs
    rcases hx with ⟨rfl, hx⟩ | ⟨a1, a2, a3, a4⟩
    · exact h0 hx
    · exact h1 x3 a1 a2 a3 a4
  · rw [hR.2.2.2 x4 x40 (by omega)] at e4
    rw [SR_wd hR (by omega)] at e5
    have ne : nr_ x4 ≠ wdR C0 R0 k := fun e => y (by rw [e4, e5, e])
    rcases hx with ⟨rfl, hx⟩ | ⟨a1, a2, a3, a4⟩
    · refine Or.inl ⟨rfl, fun u a d => ?_⟩
      by_cases e : u = x4
      · rw [e]; exact ne
      · exact hx u a (by omega)
    · refine Or.inr ⟨a1, by omega, a3, fun u a d => ?_⟩
      by_cases e : u = x4
      · rw [e]; exact ne
      · exact a4 u a (by omega)
  · rw [hR.2.2.2 x4 x40 (by omega)] at e4
    rw [SR_wd hR (by omega)] at e5
    rw [← e4, ← e5]; exact y
