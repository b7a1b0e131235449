/-! growth, on both sides -/
def shv (C : MM) (c : Nat) (t k : Int) : Int := if kA C (C (c + 2) t) k = 5 ∧ C (c + 9) (C (c + 4) t + k) ≠ -1 then C (c + 1) (C (c + 9) (C (c + 4) t + k)) else C (c + 9) (C (c + 4) t + k)
def SMp (C : MM) (c d : Nat) (t u : Int) : Prop := C (c + 2) t = C (d + 2) u ∧ C (c + 3) t = C (d + 3) u ∧ ∀ k, 0 ≤ k → k < pcn C c t → shv C c t k = shv C d u k
theorem pw_end {C R0 : MM} {c : Nat} (hY : Rty C R0) (h : PW C c) {t : Int} (t0 : 0 ≤ t) (t1 : t < C c 0) : 0 ≤ C (c + 4) t ∧ C (c + 4) (t + 1) = C (c + 4) t + pcn C c t ∧ C (c + 4) (t + 1) ≤ 4000 := by
  have e := (h.2.2.2.1 t t0 t1).2.2.2.2.2.2.1
  have f0 := pw_f hY h (t := t) t0 (by omega)
  have f1 := pw_f hY h (t := t + 1) (by omega) (by omega)
  have h5 := h.2.2.2.2.1
  exact ⟨f0.1, e, by omega⟩
theorem p_isSame {Q : Int → MM → Prop} {C M R0 : MM} {c d : Nat} {t u : Int} (hY : Rty C R0) (hw : PW C c) (hv : PW C d) (hc : c + 32 < 285) (hd : d + 32 < 285) (e : ∀ k, k ≠ 285 → M k = C k) (t0 : 0 ≤ t) (t1 : t < C c 0) (u0 : 0 ≤ u) (u1 : u < C d 0) (h1 : SMp C c d t u → Q 1 M) (h0 : ¬ SMp C c d t u → Q 0 M) : w_X5_isSame c d Q t u M := by
  have n4 := hw.2.1
  have m4 := hv.2.1
  unfold w_X5_isSame
  refine ⟨t0, by omega, fun v1 e1 _ => ⟨u0, by omega, fun v2 e2 _ => ?_⟩⟩
  rw [e (c + 2) (by omega)] at e1
  rw [e (d + 2) (by omega)] at e2
  refine ⟨fun z => h0 fun q => z (by rw [e1, e2]; exact q.1), fun z => ⟨t0, by omega, fun v4 e4 _ => ⟨u0, by omega, fun v5 e5 _ => ?_⟩⟩⟩
  rw [e (c + 3) (by omega)] at e4
  rw [e (d + 3) (by omega)] at e5
  refine ⟨fun z2 => ⟨u0, by omega, fun v7 e7 _ => ⟨t0, by omega, fun v8 e8 _ => ?_⟩⟩, fun z2 => h0 fun q => z2 (by rw [e4, e5]; exact q.2.1)⟩
  rw [e (d + 4) (by omega)] at e7
  rw [e (c + 4) (by omega)] at e8
  have sT : C (c + 2) t = C (d + 2) u := by rw [← e1, ← e2]; exact z
  have sL : C (c + 3) t = C (d + 3) u := by rw [← e4, ← e5]; exact z2
  have sp : pcn C c t = pcn C d u := by unfold pcn; rw [sT, sL]
  have bt := pw_end hY hw t0 t1
  have bu := pw_end hY hv u0 u1
  have pb := pw_bd hY hw t0 t1
  refine ⟨by unfold ri_; omega, t0, by omega, fun v10 e10 _ => ?_⟩
  rw [e (c + 4) (by omega)] at e10
  subst e7 e8 e10
  unfold w_X5_isSame_b55
  refine loop4 _ (fun (a b x : Int) M1 => t = a ∧ C (d + 4) u - C (c + 4) t = b ∧ M = M1 ∧ C (c + 4) t ≤ x ∧ x ≤ C (c + 4) t + pcn C c t ∧ ∀ k, 0 ≤ k → C (c + 4) t + k < x → shv C c t k = shv C d u k) (fun (_ _ x : Int) _ => (C (c + 4) (t + 1) - x).toNat) ?_ _ _ _ _ ⟨rfl, rfl, rfl, by omega, by omega, fun k a b => by omega⟩
  rintro _ _ x _ f ⟨rfl, rfl, rfl, x0, x1, hx⟩ ih
  unfold wb_X5_isSame_b55
  refine ⟨by unfold ri_; omega, by omega, by omega, fun v2 e2' _ => ?_⟩
  rw [e (c + 4) (by omega)] at e2'
  subst e2'
  refine ⟨fun y => h1 ⟨sT, sL, fun k a b => hx k a (by omega)⟩, fun y => ⟨by omega, by omega, fun v4 e4' _ => ⟨by unfold ri_; omega, by omega, by omega, fun v6 e6' _ => ⟨by omega, by omega, fun v7 e7' _ => ?_⟩⟩⟩⟩
  rw [e (c + 9) (by omega)] at e4'
  rw [e (d + 9) (by omega)] at e6'
  rw [e (c + 10) (by omega)] at e7'
  obtain ⟨k, ek⟩ : ∃ k, x = C (c + 4) t + k := ⟨x - C (c + 4) t, by omega⟩
  have k0 : 0 ≤ k := by omega
  have k1 : k < pcn C c t := by omega
  rw [ek] at e4' e7'
  rw [show x + (C (d + 4) u - C (c + 4) t) = C (d + 4) u + k from by omega] at e6'
  have pv := hw.2.2.2.2.2.1 t k t0 t1 k0 k1
  have pu := hv.2.2.2.2.2.1 u k u0 u1 k0 (by omega)
  have done : ∀ a b, a = shv C c t k → b = shv C d u k → w_X5_isSame_b151 c d Q f t (C (d + 4) u - C (c + 4) t) x a b M := fun a b qa qb => by
    unfold w_X5_isSame_b151
    refine ⟨fun q => ⟨by unfold ri_; omega, ih _ _ _ _ ⟨rfl, rfl, rfl, by omega, by omega, fun j a' b' => ?_⟩ (by omega)⟩, fun q => h0 fun y => q ?_⟩
    · by_cases w : j = k
      · rw [w, ← qa, ← qb]; exact q
      · exact hx j a' (by omega)
    · rw [qa, qb]; exact y.2.2 k k0 k1
  unfold PV at pv pu
  rw [← sT] at pu
  refine ⟨fun q => ?_, fun q => ?_⟩
  · have nk : kA C (C (c + 2) t) k ≠ 5 := fun w => by rw [e7', pv.1] at q; unfold lf at q; rw [if_pos w] at q; omega
    refine done _ _ ?_ ?_
    · unfold shv; rw [if_neg (fun w => nk w.1)]; exact e4'
    · unfold shv; rw [if_neg (fun w => nk (by rw [sT]; exact w.1))]; exact e6'
  · have nk : kA C (C (c + 2) t) k = 5 := by
      by_cases w : kA C (C (c + 2) t) k = 5
      · exact w
      · rw [e7', pv.1] at q; unfold lf at q; rw [if_neg w] at q; exact absurd rfl q
    have p1 := pv.2
    have p2 := pu.2
    rw [nk] at p1 p2
    unfold pK at p1 p2
    rw [← e4'] at p1
    rw [← e6'] at p2
    have p1' : v4 = -1 ∨ (0 ≤ v4 ∧ v4 < C c 0) := by
      rcases p1 with ⟨-, q | ⟨q, q', -⟩⟩ | ⟨q, -⟩
      · exact Or.inl q
      · exact Or.inr ⟨q, q'⟩
      · exact absurd rfl q
    have p2' : v6 = -1 ∨ (0 ≤ v6 ∧ v6 < C d 0) := by
      rcases p2 with ⟨-, q | ⟨q, q', -⟩⟩ | ⟨q, -⟩
      · exact Or.inl q
      · exact Or.inr ⟨q, q'⟩
      · exact absurd rfl q
    have two : ∀ a, a = shv C c t k → w_X5_isSame_b123 c d Q f t (C (d + 4) u - C (c + 4) t) x v6 a M := fun a qa => by
      unfold w_X5_isSame_b123 w_X5_isSame_b149
      refine ⟨fun w => ⟨by unfold ri_; omega, by omega, by omega, fun v3 e3' _ => done _ _ qa ?_⟩, fun w => done _ _ qa ?_⟩
      · rw [e (d + 1) (by omega), e6'] at e3'
        unfold shv; rw [if_pos ⟨by rw [← sT]; exact nk, by rw [← e6']; exact w⟩]; exact e3'
      · unfold shv; rw [if_neg (fun y => y.2 (by rw [← e6']; exact w)), ← e6']; exact w.symm
    refine ⟨fun w => ⟨by unfold ri_; omega, by omega, by omega, fun v11 e11 _ => two _ ?_⟩, fun w => two _ ?_⟩
    · rw [e (c + 1) (by omega), e4'] at e11
      unfold shv; rw [if_pos ⟨nk, by rw [← e4']; exact w⟩]; exact e11
    · unfold shv; rw [if_neg (fun y => y.2 (by rw [← e4']; exact w)), ← e4']; exact w.symm
def mis (C : MM) (c d : Nat) (t : Int) : Prop := C (d + 8) (C (c + 1) t) = -1
def chd (C : MM) (c d : Nat) (t : Int) : Prop := C (d + 8) (C (c + 1) t) ≠ -1 ∧ ¬ SMp C c d t (C (d + 8) (C (c + 1) t))
/-- the list of all t with P, in a row of a memory -/
def lst_ (M : MM) (a : Nat) (P : Int → Prop) (n : Int) : Prop := ∀ t, 0 ≤ t → t < n → P t → M a (rk P t.toNat) = t
theorem lst_in {M : MM} {a : Nat} {P : Int → Prop} {t : Int} (t0 : 0 ≤ t) (h : lst_ M a P t) (hp : P t) : lst_ (ux_ M a (rk P t.toNat) t) a P (t + 1) := fun u u0 u1 hu => by
  by_cases z : u = t
  · rw [z, ux_s]
  · have := rk_st (P := P) (b := t.toNat) u0 (by omega) hu
    rw [ux_i _ _ _ (by omega)]; exact h u u0 (by omega) hu
theorem lst_no {M : MM} {a : Nat} {P : Int → Prop} {t : Int} (h : lst_ M a P t) (hp : ¬ P t) : lst_ M a P (t + 1) := fun u u0 u1 hu => by
  by_cases z : u = t
  · rw [z] at hu; exact absurd hu hp
  · exact h u u0 (by omega) hu
theorem rk_ex {P : Int → Prop} (n : Nat) (k : Int) (k0 : 0 ≤ k) (h : k < rk P n) : ∃ t, 0 ≤ t ∧ t < (n : Int) ∧ P t ∧ rk P t.toNat = k := by
  induction n with
  | zero => have : rk P 0 = 0 := rfl; omega
  | succ n ih =>
    by_cases z : k < rk P n
    · obtain ⟨t, a, b, d⟩ := ih z
      exact ⟨t, a, by omega, d⟩
    · by_cases q : P n
      · rw [(rk_s n).1 q] at h
        exact ⟨n, by omega, by omega, q, by rw [show ((n : Int)).toNat = n from by omega]; omega⟩
      · rw [(rk_s n).2 q] at h; exact absurd h z
theorem lst_eq {A B : MM} {a b : Nat} {P : Int → Prop} {n : Nat} (h : lst_ A a P n) (h' : lst_ B b P n) (k : Int) (k0 : 0 ≤ k) (k1 : k < rk P n) : A a k = B b k := by
  obtain ⟨t, t0, t1, hp, e⟩ := rk_ex n k k0 k1
  rw [← e, h t t0 t1 hp, h' t t0 t1 hp]
theorem p_listMissing {Q : Int → MM → Prop} {C : MM} {c d : Nat} (hw : PW C c) (hc : c + 32 < 285) (hd : d + 32 < 285) (hq : ∀ M, (∀ k, k ≠ 285 → M k = C k) → lst_ M 285 (mis C c d) (C c 0) → Q (rk (mis C c d) (C c 0).toNat) M) : w_X5_listMissing c d 285 400 Q C := by
  have n0 := hw.1
  have n4 := hw.2.1
  unfold w_X5_listMissing w_X5_listMissing_b5
  refine loop3 _ (fun (s t : Int) M => (∀ k, k ≠ 285 → M k = C k) ∧ 0 ≤ t ∧ t ≤ C c 0 ∧ s = rk (mis C c d) t.toNat ∧ lst_ M 285 (mis C c d) t) (fun (_ t : Int) _ => (C c 0 - t).toNat) ?_ _ _ _ ⟨fun _ _ => rfl, by omega, n0, rfl, fun u a b => by omega⟩
  rintro s t M f ⟨hM, t0, t1, es, hl⟩ ih
  unfold wb_X5_listMissing_b5
  intro v1 e1 _
  rw [hM c (by omega)] at e1
  subst e1
  refine ⟨fun z => ?_, fun z => ⟨t0, by omega, fun v3 e3 _ => ?_⟩⟩
  · have et : t = C c 0 := by omega
    rw [es, et]; exact hq M hM (by rw [← et]; exact hl)
  · rw [hM (c + 1) (by omega)] at e3
    obtain ⟨o0, o4, -⟩ := hw.2.2.2.1 t t0 (by omega)
    have rb := rk_bd (mis C c d) t.toNat
    have nk := rk_s (P := mis C c d) t.toNat
    rw [show ((t.toNat : Nat) : Int) = t from by omega] at nk
    refine ⟨by omega, by omega, fun v4 e4 _ => ?_⟩
    rw [hM (d + 8) (by omega), e3] at e4
    unfold w_X5_listMissing_b38
    refine ⟨fun q => ⟨by unfold ri_; omega, ih _ _ _ ⟨hM, by omega, by omega, ?_, lst_no hl (fun y => q (by rw [e4]; exact y))⟩ (by omega)⟩, fun q => ⟨by omega, by omega, fun M6 e6 => ⟨by unfold ri_; omega, by unfold ri_; omega, ih _ _ _ ⟨fun k hk => ?_, by omega, by omega, ?_, ?_⟩ (by omega)⟩⟩⟩
    · rw [show (t + 1).toNat = t.toNat + 1 from by omega, nk.2 (fun y => q (by rw [e4]; exact y)), es]
    · rw [e6]; funext i; rw [ux_c _ _ _ _ hk, hM k hk]
    · rw [show (t + 1).toNat = t.toNat + 1 from by omega, nk.1 (by unfold mis; rw [← e4]; exact q), es]
    · rw [e6, es]; exact lst_in t0 hl (by unfold mis; rw [← e4]; exact q)
theorem p_listChanged {Q : Int → MM → Prop} {C R0 : MM} {c d : Nat} (hY : Rty C R0) (hw : PW C c) (hv : PW C d) (hc : c + 32 < 285) (hd : d + 32 < 285) (hq : ∀ M, (∀ k, k ≠ 285 → M k = C k) → lst_ M 285 (chd C c d) (C c 0) → Q (rk (chd C c d) (C c 0).toNat) M) : w_X5_listChanged c d 285 400 Q C := by
  have n0 := hw.1
  have n4 := hw.2.1
  unfold w_X5_listChanged w_X5_listChanged_b5
  refine loop3 _ (fun (s t : Int) M => (∀ k, k ≠ 285 → M k = C k) ∧ 0 ≤ t ∧ t ≤ C c 0 ∧ s = rk (chd C c d) t.toNat ∧ lst_ M 285 (chd C c d) t) (fun (_ t : Int) _ => (C c 0 - t).toNat) ?_ _ _ _ ⟨fun _ _ => rfl, by omega, n0, rfl, fun u a b => by omega⟩
  rintro s t M f ⟨hM, t0, t1, es, hl⟩ ih
  unfold wb_X5_listChanged_b5
  intro v1 e1 _
  rw [hM c (by omega)] at e1
  subst e1
  refine ⟨fun z => ?_, fun z => ⟨t0, by omega, fun v3 e3 _ => ?_⟩⟩
  · have et : t = C c 0 := by omega
    rw [es, et]; exact hq M hM (by rw [← et]; exact hl)
  · rw [hM (c + 1) (by omega)] at e3
    obtain ⟨o0, o4, -⟩ := hw.2.2.2.1 t t0 (by omega)
    have th := hv.2.2.2.2.2.2.1 (C (c + 1) t) o0 o4
    have rb := rk_bd (chd C c d) t.toNat
    have nk := rk_s (P := chd C c d) t.toNat
    rw [show ((t.toNat : Nat) : Int) = t from by omega] at nk
    have no : ¬ chd C c d t → w_X5_listChanged_b54 c d 285 400 Q f s t M := fun y => by
      unfold w_X5_listChanged_b54
      refine ⟨by unfold ri_; omega, ih _ _ _ ⟨hM, by omega, by omega, ?_, lst_no hl y⟩ (by omega)⟩
      rw [show (t + 1).toNat = t.toNat + 1 from by omega, nk.2 y, es]
    refine ⟨by omega, by omega, fun v4 e4 _ => ?_⟩
    rw [hM (d + 8) (by omega), e3] at e4
    refine ⟨fun q => no fun y => y.1 (by rw [← e4]; exact q), fun q => ?_⟩
    have v0 : 0 ≤ v4 ∧ v4 < C d 0 := by
      rw [← e4] at th
      rcases th with h | ⟨h, h', -⟩
      · exact absurd h q
      · exact ⟨h, h'⟩
    refine p_isSame hY hw hv hc hd hM t0 (by omega) v0.1 v0.2 (fun y _ => ⟨fun _ => no fun y' => y'.2 (by rw [← e4]; exact y), fun y' => absurd y' (by decide)⟩) (fun y _ => ⟨fun y' => absurd rfl y', fun _ => ?_⟩)
    have hp : chd C c d t := ⟨by rw [← e4]; exact q, by rw [← e4]; exact y⟩
    refine ⟨by omega, by omega, fun M6 e6 => ⟨by unfold ri_; omega, ?_⟩⟩
    unfold w_X5_listChanged_b54
    refine ⟨by unfold ri_; omega, ih _ _ _ ⟨fun k hk => ?_, by omega, by omega, ?_, ?_⟩ (by omega)⟩
    · rw [e6]; funext i; rw [ux_c _ _ _ _ hk, hM k hk]
    · rw [show (t + 1).toNat = t.toNat + 1 from by omega, nk.1 hp, es]
    · rw [e6, es]; exact lst_in t0 hl hp
