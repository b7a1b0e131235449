/-! load, on both sides -/
theorem RB_ld {C R C' R' : MM} (hB : RB C R) (hJ : Rjn C R) (c : ∀ k, k ≠ 0 → k ≠ 12 → k < 45 → C' k = C k) (u : ∀ i, 0 ≤ i → i < C 8 0 → C' 12 i = R' 16 i ∧ (C 12 i = 1 → C' 12 i = 1)) (v : ∀ i, C 8 0 ≤ i → i < 16 → C' 12 i = C 12 i) (r : ∀ k, k ∉ [0, 16, 36, 37] → k < 38 → R' k = R k) (r0 : ∀ i, i ∈ ([3, 20, 26, 27, 28, 29, 31, 36, 44] : List Int) → R' 0 i = R 0 i) : RB C' R' ∧ Rjn C' R' ∧ tyLe C C' := by
  obtain ⟨hA, hL, hH⟩ := hB
  have hY := hA.2.2.2.2
  have tlg : ∀ D : MM, (∀ k, k ≠ 0 → k ≠ 12 → k < 45 → D k = C k) → D 12 = C' 12 → tyLe C D := fun D d d12 => by
    refine ⟨by rw [d 8 (by omega) (by omega) (by omega)]; exact Int.le_refl _, fun e e0 e1 => ⟨by rw [d 9 (by omega) (by omega) (by omega)], by rw [d 11 (by omega) (by omega) (by omega)], fun w => ⟨by rw [d12]; exact (u e e0 e1).2 w, by rw [d 16 (by omega) (by omega) (by omega)], by rw [d 17 (by omega) (by omega) (by omega)], fun k j hk _ _ => by rw [d k (by omega) (by omega) (by omega)]⟩, fun k k0 k1 => ⟨by rw [d 14 (by omega) (by omega) (by omega)]; exact k1, fun q q0 q1 => by rw [d q (by omega) (by omega) (by omega)]⟩⟩⟩
  have tl := tlg C' c rfl
  have hpl : hpLe C C' := ⟨tl, fun o ho => ⟨⟨ho.1, by rw [c 26 (by omega) (by omega) (by omega)]; exact ho.2.1, by rw [c 27 (by omega) (by omega) (by omega)]; exact ho.2.2⟩, by rw [c 27 (by omega) (by omega) (by omega)], by rw [c 28 (by omega) (by omega) (by omega)], by rw [c 29 (by omega) (by omega) (by omega)]⟩⟩
  have hY' : Rty C' R' := Rty_12 hY (fun k a b d => c k (by omega) d (by omega)) (fun k a b _ e => r k (by simp only [List.mem_cons, List.not_mem_nil, or_false]; omega) (by omega)) (r0 20 (by decide)) u v
  -- only the row of used types is new
  have rst : ∀ D : MM, D 32 = C 32 → Rst D R' := fun D d => by
    have := hH.2.2.2.2.2.2.2.2.2.2.2.2.1
    unfold Rst at this ⊢
    rw [d, r 6 (by decide) (by omega)]; exact this
  obtain ⟨D, d12, dk⟩ : ∃ D : MM, D 12 = C' 12 ∧ ∀ k, k ≠ 12 → D k = C k := ⟨fun k => if k = 12 then C' 12 else C k, if_pos rfl, fun k hk => if_neg hk⟩
  have h1 : Rhp D R' := by
    refine (hp_ty hY hH (tlg D (fun k _ b _ => dk k b) d12) (fun d k d0 d1 k0 k1 => Or.inl ⟨by rw [dk 8 (by omega)] at d1; exact d1, by rw [dk 14 (by omega)] at k1; exact k1, by rw [dk 32 (by omega)]⟩) (fun k i a b => by rw [dk k (by omega)]) (rst _ (dk 32 (by omega))) (fun k hk => r k (by simp only [List.mem_cons, List.not_mem_nil, or_false] at hk ⊢; omega) (by simp only [List.mem_cons, List.not_mem_nil, or_false] at hk; omega)) (fun i hi => r0 i (by simp only [List.mem_cons, List.not_mem_nil, or_false] at hi ⊢; omega))).1
  have h2 : Rhp C' R' := by
    have ck : ∀ k, k ≠ 0 → k < 45 → C' k = D k := fun k a b => by
      by_cases z : k = 12
      · rw [z, d12]
      · rw [dk k z]; exact c k a z b
    refine Rhp_C h1 (fun k hk => ck k (by simp only [List.mem_cons, List.not_mem_nil, or_false] at hk; omega) (by simp only [List.mem_cons, List.not_mem_nil, or_false] at hk; omega)) (by rw [ck 8 (by omega) (by omega)]) (fun i _ => by rw [ck 26 (by omega) (by omega)]) (fun _ _ => rfl) (fun _ _ => rfl) ?_
    have q := h1.2.2.2.2.2.2.2.2.2.2.2.1
    unfold Rrt at q ⊢
    rw [hOk_eq (show C' 26 1 = D 26 1 by rw [ck 26 (by omega) (by omega)]) (ck 27 (by omega) (by omega)), ck 26 (by omega) (by omega), ck 33 (by omega) (by omega)]
    exact q
  refine ⟨⟨⟨?_, by rw [r 1 (by decide) (by omega)]; exact hA.2.1, by rw [r 2 (by decide) (by omega)]; exact hA.2.2.1, ?_, hY'⟩, Rlk_of hL (by rw [c 8 (by omega) (by omega) (by omega)]) (c 14 (by omega) (by omega) (by omega)) (c 19 (by omega) (by omega) (by omega)) (c 20 (by omega) (by omega) (by omega)), h2⟩, ?_, tl⟩
  · have t := hA.1
    unfold Rtape at t ⊢
    rw [c 1 (by omega) (by omega) (by omega), c 2 (by omega) (by omega) (by omega), c 3 (by omega) (by omega) (by omega), r 1 (by decide) (by omega), r 2 (by decide) (by omega), r0 3 (by decide)]
    exact t
  · unfold Rkey
    rw [c 7 (by omega) (by omega) (by omega), r 3 (by decide) (by omega)]
    exact hA.2.2.2.1
  · exact le_jn hY hH hpl hJ (fun k a b => c k (by omega) (by omega) (by omega)) (fun k a b => r k (by simp only [List.mem_cons, List.not_mem_nil, or_false]; omega) (by omega)) (fun i hi => r0 i (by simp only [List.mem_cons, List.not_mem_nil, or_false] at hi ⊢; omega))
theorem PF_e {C C' : MM} {c : Nat} (h : PF C c) (e : ∀ k, c ≤ k → k ≤ c + 32 → C' k = C k) : PF C' c := by
  unfold PF at h ⊢
  rw [e c (by omega) (by omega), e (c + 1) (by omega) (by omega), e (c + 4) (by omega) (by omega), e (c + 8) (by omega) (by omega), e (c + 13) (by omega) (by omega)]
  exact h
/-- the spare picture was written over -/
theorem ps_sp {C C' R R' R0 : MM} {cs : Int → Nat} (hY : Rty C R0) (h : pcs C R cs) (tl : tyLe C C') (hn : PF C' (cs 4)) (e : ∀ q, 45 ≤ q → q ≤ 210 → ¬ (cs 4 ≤ q ∧ q ≤ cs 4 + 32) → C' q = C q) (e5 : C' 0 5 = C 0 5) (r : ∀ k i q, 38 ≤ k → k ≤ 59 → 0 ≤ q → q < 4 → rw_ k q i → R' k i = R k i) : Rps C' R' := by
  obtain ⟨h1, h2, h3, h4, h5⟩ := h
  have i4 := h4 4 (by omega) (by omega)
  unfold isP at i4
  refine ⟨cs, fun p a b => ?_, by rw [e5]; exact h2, hn, h4, h5⟩
  have ip := h4 p a (by omega)
  have ne := h5 p 4 a b (by omega)
  unfold isP at ip
  exact ⟨by rw [e 45 (by omega) (by omega) (by omega)]; exact (h1 p a b).1, pic_fr hY (h1 p a b).2 tl (fun q x y => e q (by omega) (by omega) (by omega)) (fun k i x y z => r k i p x y a b z)⟩
/-- the spare picture takes the place of another -/
theorem ps_ex {C C' R R' R0 : MM} {cs : Int → Nat} {p : Int} (hY : Rty C R0) (p0 : 0 ≤ p) (p4 : p < 4) (h : pcs C R cs) (tl : tyLe C C') (hn : Rpic C' R' (cs 4) p) (e : ∀ q, 46 ≤ q → q ≤ 210 → ¬ (cs 4 ≤ q ∧ q ≤ cs 4 + 32) → C' q = C q) (ep : C' 45 p = cs 4) (eq : ∀ q, q ≠ p → C' 45 q = C 45 q) (e5 : C' 0 5 = cs p) (r : ∀ k i q, 38 ≤ k → k ≤ 59 → 0 ≤ q → q < 4 → q ≠ p → rw_ k q i → R' k i = R k i) : Rps C' R' := by
  obtain ⟨h1, h2, h3, h4, h5⟩ := h
  have i4 := h4 4 (by omega) (by omega)
  have ip := h4 p p0 (by omega)
  have n4 := h5 p 4 p0 p4 (by omega)
  have i4' := i4
  have ip' := ip
  unfold isP at i4' ip'
  have ne : ∀ a b, 0 ≤ a → a < 5 → 0 ≤ b → b < 5 → a ≠ b → cs a ≠ cs b := fun a b a0 a5 b0 b5 hab => by
    by_cases w : a < b
    · exact h5 a b a0 w b5
    · exact fun q => h5 b a b0 (by omega) a5 q.symm
  refine ⟨fun q => if q = p then cs 4 else if q = 4 then cs p else cs q, fun q a b => ?_, ?_, ?_, fun q a b => ?_, fun q s a b d => ?_⟩
  · show C' 45 q = ((if q = p then cs 4 else if q = 4 then cs p else cs q : Nat) : Int) ∧ Rpic C' R' (if q = p then cs 4 else if q = 4 then cs p else cs q) q
    by_cases z : q = p
    · rw [if_pos z, z]; exact ⟨ep, hn⟩
    · rw [if_neg z, if_neg (by omega)]
      have iq := h4 q a (by omega)
      have nq := ne q 4 a (by omega) (by omega) (by omega) (by omega)
      unfold isP at iq
      exact ⟨by rw [eq q z]; exact (h1 q a b).1, pic_fr hY (h1 q a b).2 tl (fun k x y => e k (by omega) (by omega) (by omega)) (fun k i x y w => r k i q x y a b z w)⟩
  · show C' 0 5 = ((if (4 : Int) = p then cs 4 else if (4 : Int) = 4 then cs p else cs 4 : Nat) : Int)
    rw [if_neg (by omega), if_pos rfl]; exact e5
  · show PF C' (if (4 : Int) = p then cs 4 else if (4 : Int) = 4 then cs p else cs 4)
    rw [if_neg (by omega), if_pos rfl]
    exact PF_e (PF_of (h1 p p0 p4).2.1) (fun k x y => e k (by omega) (by omega) (by omega))
  · show isP (if q = p then cs 4 else if q = 4 then cs p else cs q)
    by_cases z : q = p
    · rw [if_pos z]; exact i4
    · rw [if_neg z]
      by_cases z2 : q = 4
      · rw [if_pos z2]; exact ip
      · rw [if_neg z2]; exact h4 q a b
  · show (if q = p then cs 4 else if q = 4 then cs p else cs q) ≠ (if s = p then cs 4 else if s = 4 then cs p else cs s)
    by_cases z : q = p
    · rw [if_pos z, if_neg (by omega)]
      by_cases z2 : s = 4
      · rw [if_pos z2]; exact fun w => n4 w.symm
      · rw [if_neg z2]; exact ne 4 s (by omega) (by omega) (by omega) d (by omega)
    · rw [if_neg z, if_neg (by omega)]
      by_cases z3 : s = p
      · rw [if_pos z3]; exact ne q 4 a (by omega) (by omega) (by omega) (by omega)
      · rw [if_neg z3]
        by_cases z2 : s = 4
        · rw [if_pos z2]; exact ne q p a (by omega) p0 (by omega) z
        · rw [if_neg z2]; exact ne q s a (by omega) (by omega) d (by omega)
/-- types of the things are in use -/
noncomputable def usc (E C : MM) (B : Int → Int) (n : Int) (T : Nat) (i : Int) : Int := @ite _ (∃ u, u < T ∧ tY E B n u = i) (Classical.propDecidable _) 1 (C 12 i)
theorem usc_0 {E C : MM} {B : Int → Int} {n i : Int} {T : Nat} (h : ¬ ∃ u, u < T ∧ tY E B n u = i) : usc E C B n T i = C 12 i := if_neg h
theorem usc_1 {E C : MM} {B : Int → Int} {n i : Int} {T : Nat} (h : ∃ u, u < T ∧ tY E B n u = i) : usc E C B n T i = 1 := if_pos h
theorem p_useAll {Q : Int → MM → Prop} {X : String → MM → Prop} {E M R0 : MM} {c : Nat} {b0 n cn p : Int} {B : Int → Int} (hY : Rty M R0) (hc : isP c) (h5 : M 0 5 = (c : Int)) (hA : AT E B n cn) (e8 : M 8 0 = E 8 0) (hK : KT E M c b0 n B cn.toNat) (hq : ∀ N, (∀ k, k ≠ 12 → N k = M k) → (∀ i, N 12 i = usc E M B n cn.toNat i ∨ (¬ (0 ≤ i ∧ i < 16) ∧ N 12 i = M 12 i)) → w_X11_exchange (fun r4 M5 => ri_ r4 → Q r4 M5) p N) : w_X11_load_b63 Q X p 0 M := by
  obtain ⟨c0, c4, hA'⟩ := id hA
  have h16 := hY.2.2.1
  have mc := isP_m hc
  unfold w_X11_load_b63
  refine loop3 _ (fun (a t : Int) N => p = a ∧ ∃ T : Nat, t = T ∧ (T : Int) ≤ cn ∧ (∀ k, k ≠ 12 → N k = M k) ∧ ∀ i, N 12 i = usc E M B n T i ∨ (¬ (0 ≤ i ∧ i < 16) ∧ N 12 i = M 12 i)) (fun (_ t : Int) _ => (cn - t).toNat) ?_ _ _ _ ⟨rfl, 0, rfl, by omega, fun _ _ => rfl, fun i => Or.inl (by rw [usc_0 (fun ⟨u, hu, _⟩ => by omega)])⟩
  rintro _ t N f ⟨rfl, T, rfl, hT, oN, uN⟩ ih
  unfold wb_X11_load_b63
  refine ⟨c, by rw [oN 0 (by omega)]; exact h5, hc, fun v2 e2 _ => ?_⟩
  rw [oN c (by omega), hK.1] at e2
  refine ⟨fun z => hq N oN (by rw [show cn.toNat = T from by omega]; exact uN), fun z => ⟨c, by rw [oN 0 (by omega)]; exact h5, hc, by omega, by omega, fun v7 e7 _ => ?_⟩⟩
  rw [oN (c + 2) (by omega), (hK.2.2.1 T (by omega)).2.1] at e7
  have gt := (hA' T (by omega)).1.2.2.2.1
  subst e7
  have keep : ∀ i, i ≠ tY E B n T → usc E M B n T i = usc E M B n (T + 1) i := fun i hi => by
    by_cases w2 : ∃ u, u < T ∧ tY E B n u = i
    · obtain ⟨u, hu, q2⟩ := w2
      rw [usc_1 ⟨u, hu, q2⟩, usc_1 ⟨u, by omega, q2⟩]
    · have nn : ¬ ∃ u, u < T + 1 ∧ tY E B n u = i := fun ⟨u, hu, q2⟩ => by
        by_cases w3 : u = T
        · rw [w3] at q2; exact hi q2.symm
        · exact w2 ⟨u, by omega, q2⟩
      rw [usc_0 w2, usc_0 nn]
  unfold w_X10_use
  refine p_isClass (fun a b _ => ⟨fun w => absurd w (by decide), fun _ => ⟨a, by rw [oN 8 (by omega)] at b; omega, fun M4 e4 => ⟨by unfold ri_; omega, ih _ _ _ ⟨rfl, T + 1, by omega, by omega, fun k hk => by rw [e4]; funext i; rw [ux_c _ _ _ _ hk, oN k hk], fun i => ?_⟩ (by omega)⟩⟩⟩) (fun a _ => ⟨fun _ => ⟨by unfold ri_; omega, ih _ _ _ ⟨rfl, T + 1, by omega, by omega, oN, fun i => ?_⟩ (by omega)⟩, fun w => absurd rfl w⟩)
  · rw [e4]
    by_cases w : i = tY E B n T
    · rw [w, ux_s, usc_1 ⟨T, by omega, rfl⟩]; exact Or.inl rfl
    · rw [ux_i _ _ _ w, ← keep i w]; exact uN i
  · by_cases w : i = tY E B n T
    · have out : ¬ (0 ≤ i ∧ i < 16) := by
        rw [oN 8 (by omega), e8] at a
        unfold vT at gt
        omega
      rcases uN i with q | q
      · by_cases w2 : ∃ u, u < T ∧ tY E B n u = i
        · obtain ⟨u, hu, q2⟩ := w2
          rw [q, usc_1 ⟨u, hu, q2⟩, usc_1 ⟨u, by omega, q2⟩]; exact Or.inl rfl
        · rw [q, usc_0 w2]; exact Or.inr ⟨out, rfl⟩
      · exact Or.inr q
    · rw [← keep i w]; exact uN i
