/-! what is told of a picture, as relations -/
def dm (C : MM) (c : Nat) (d t : Int) : Prop := ¬ rc (pE C c) (pZ C c) (fun x => x ≠ d) t
noncomputable def cD (C : MM) (c : Nat) (d : Int) : Int := rk (dm C c d) (C c 0).toNat
noncomputable def sk (P : Int → Prop) (w : Int → Int) : Nat → Int
  | 0 => 0
  | n + 1 => sk P w n + (@ite _ (P n) (Classical.propDecidable _) (w n) 0)
def szt (C : MM) (c : Nat) (t : Int) : Int := sz C (C (c + 2) t) (C (c + 3) t)
noncomputable def sD (C : MM) (c : Nat) (d : Int) : Int := sk (dm C c d) (szt C c) (C c 0).toNat
theorem sk_s {P : Int → Prop} {w : Int → Int} (n : Nat) : (P n → sk P w (n + 1) = sk P w n + w n) ∧ (¬ P n → sk P w (n + 1) = sk P w n) := by
  constructor
  · intro h
    show sk P w n + (@ite _ (P n) (Classical.propDecidable _) (w n) 0) = _
    rw [if_pos h]
  · intro h
    show sk P w n + (@ite _ (P n) (Classical.propDecidable _) (w n) 0) = _
    rw [if_neg h]; omega
theorem rk_c {P P' : Int → Prop} (n : Nat) (h : ∀ t : Int, 0 ≤ t → t < n → (P t ↔ P' t)) : rk P n = rk P' n := by
  induction n with
  | zero => rfl
  | succ n ih =>
    have i := ih fun t a b => h t a (by omega)
    by_cases z : P n
    · rw [(rk_s n).1 z, (rk_s n).1 ((h n (by omega) (by omega)).mp z), i]
    · rw [(rk_s n).2 z, (rk_s n).2 (fun q => z ((h n (by omega) (by omega)).mpr q)), i]
theorem sk_c {P P' : Int → Prop} {w w' : Int → Int} (n : Nat) (h : ∀ t : Int, 0 ≤ t → t < n → (P t ↔ P' t) ∧ w t = w' t) : sk P w n = sk P' w' n := by
  induction n with
  | zero => rfl
  | succ n ih =>
    have i := ih fun t a b => h t a (by omega)
    have hn := h n (by omega) (by omega)
    by_cases z : P n
    · rw [(sk_s n).1 z, (sk_s n).1 (hn.1.mp z), i, hn.2]
    · rw [(sk_s n).2 z, (sk_s n).2 (fun q => z (hn.1.mpr q)), i]
theorem dV_iff {C : MM} {c : Nat} (hw : PW C c) (d t : Int) : t ∈ dV C c d ↔ ¬ dm C c d t := by
  unfold dV dm
  rw [vis_iff hw (Or.inl rfl)]
  have : zb C c (-1) = pZ C c := by
    funext x
    exact propext ⟨fun q => by rcases q with q | q; exact q.2; exact absurd rfl q.1, fun q => Or.inl ⟨rfl, q⟩⟩
  rw [this]
  exact Iff.symm Classical.not_not
theorem ctV_eq {C : MM} {c : Nat} (hw : PW C c) (d : Int) (n : Nat) : ctV (dV C c d) n = rk (dm C c d) n := by
  induction n with
  | zero => rfl
  | succ n ih =>
    show ctV (dV C c d) n + (if (n : Int) ∈ dV C c d then 0 else 1) = _
    by_cases z : (n : Int) ∈ dV C c d
    · rw [if_pos z, (rk_s n).2 ((dV_iff hw d n).mp z), ih]; omega
    · have : dm C c d n := Classical.byContradiction fun q => z ((dV_iff hw d n).mpr q)
      rw [if_neg z, (rk_s n).1 this, ih]
theorem szV_eq {C : MM} {c : Nat} (hw : PW C c) (d : Int) (n : Nat) : szV C c (dV C c d) n = sk (dm C c d) (szt C c) n := by
  induction n with
  | zero => rfl
  | succ n ih =>
    show szV C c (dV C c d) n + (if (n : Int) ∈ dV C c d then 0 else szt C c n) = _
    by_cases z : (n : Int) ∈ dV C c d
    · rw [if_pos z, (sk_s n).2 ((dV_iff hw d n).mp z), ih]; omega
    · have : dm C c d n := Classical.byContradiction fun q => z ((dV_iff hw d n).mpr q)
      rw [if_neg z, (sk_s n).1 this, ih]
/-- the nearest dominator, by the number of what it dominates -/
def nDf (C : MM) (c : Nat) (t m : Int) : Prop := (m = -1 ∧ ∀ d, 0 ≤ d → d < C c 0 → d ≠ t → ¬ dm C c d t) ∨ (0 ≤ m ∧ m < C c 0 ∧ m ≠ t ∧ dm C c m t ∧ ∀ d, 0 ≤ d → d < C c 0 → d ≠ t → dm C c d t → cD C c m < cD C c d ∨ (cD C c m = cD C c d ∧ m ≤ d))
def DTf (C : MM) (c : Nat) (f g h : Int → Int) : Prop := ∀ t, 0 ≤ t → t < C c 0 → nDf C c t (f t) ∧ g t = sD C c t ∧ h t = cD C c t
theorem nDf_u {C : MM} {c : Nat} {t m m' : Int} (h : nDf C c t m) (h' : nDf C c t m') : m = m' := by
  rcases h with ⟨a1, a2⟩ | ⟨a1, a2, a3, a4, a5⟩
  · rcases h' with ⟨b1, b2⟩ | ⟨b1, b2, b3, b4, b5⟩
    · omega
    · exact absurd b4 (a2 m' b1 b2 b3)
  · rcases h' with ⟨b1, b2⟩ | ⟨b1, b2, b3, b4, b5⟩
    · exact absurd a4 (b2 m a1 a2 a3)
    · have q1 := a5 m' b1 b2 b3 b4
      have q2 := b5 m a1 a2 a3 a4
      omega
theorem dTab_of {C M : MM} {c : Nat} {p : Int} (hw : PW C c) (h : dTab C M c p (C c 0)) : DTf C c (fun t => M 46 (400 * p + t)) (fun t => M 47 (400 * p + t)) (fun t => M 48 (400 * p + t)) := by
  have ec : ∀ d, dC_ C c d = cD C c d := fun d => ctV_eq hw d _
  intro t t0 t1
  obtain ⟨a1, a2⟩ := h.1 t t0 t1
  refine ⟨?_, by show M 47 (400 * p + t) = _; rw [a2]; exact szV_eq hw t _, by show M 48 (400 * p + t) = _; rw [a1, ec]⟩
  rcases h.2 t t0 t1 with ⟨b1, b2⟩ | ⟨b1, b2, b3, b4, b5⟩
  · exact Or.inl ⟨b1, fun d d0 d1 d2 => (dV_iff hw d t).mp (b2 d d0 d1 d2)⟩
  · refine Or.inr ⟨b1, b2, b3, Classical.byContradiction fun q => b4 ((dV_iff hw _ t).mpr q), fun d d0 d1 d2 d3 => ?_⟩
    have := b5 d d0 d1 d2 (fun q => (dV_iff hw d t).mp q d3)
    rw [ec, ec] at this
    exact this
def RGf (C : MM) (c : Nat) (f : Int → Int) (n : Int) : Prop := n = rk (rp C c) (C c 0).toNat ∧ ∀ u, 0 ≤ u → u < C c 0 → (f u = -1 ∧ ∀ r, 0 ≤ r → r < C c 0 → rp C c r → ¬ sym_ C c r u) ∨ (∃ r, 0 ≤ r ∧ r < C c 0 ∧ rp C c r ∧ sym_ C c r u ∧ f u = rk (rp C c) r.toNat)
def GPf (C : MM) (c : Nat) (f : Int → Int) (n : Int) : Prop := n = rk (rpG C c) (C c 0).toNat ∧ ∀ u, 0 ≤ u → u < C c 0 → (f u = -1 ∧ ∀ r, 0 ≤ r → r < C c 0 → rpG C c r → ¬ db C c r u) ∨ (∃ r, 0 ≤ r ∧ r < C c 0 ∧ rpG C c r ∧ db C c r u ∧ f u = rk (rpG C c) r.toNat)
theorem DTf_u {C : MM} {c : Nat} {f g h f' g' h' : Int → Int} (a : DTf C c f g h) (b : DTf C c f' g' h') {t : Int} (t0 : 0 ≤ t) (t1 : t < C c 0) : f t = f' t ∧ g t = g' t ∧ h t = h' t := by
  obtain ⟨a1, a2, a3⟩ := a t t0 t1
  obtain ⟨b1, b2, b3⟩ := b t t0 t1
  exact ⟨nDf_u a1 b1, by rw [a2, b2], by rw [a3, b3]⟩
theorem RGf_u {C : MM} {c : Nat} {f f' : Int → Int} {n n' : Int} (a : RGf C c f n) (b : RGf C c f' n') : n = n' ∧ ∀ t, 0 ≤ t → t < C c 0 → f t = f' t := by
  refine ⟨by rw [a.1, b.1], fun t t0 t1 => ?_⟩
  rcases a.2 t t0 t1 with ⟨a1, a2⟩ | ⟨r, a1, a2, a3, a4, a5⟩
  · rcases b.2 t t0 t1 with ⟨b1, b2⟩ | ⟨r', b1, b2, b3, b4, b5⟩
    · rw [a1, b1]
    · exact absurd b4 (a2 r' b1 b2 b3)
  · rcases b.2 t t0 t1 with ⟨b1, b2⟩ | ⟨r', b1, b2, b3, b4, b5⟩
    · exact absurd a4 (b2 r a1 a2 a3)
    · rw [a5, b5, rp_un a3 b3 a1 b1 a4 b4]
theorem GPf_u {C : MM} {c : Nat} {f f' : Int → Int} {n n' : Int} (a : GPf C c f n) (b : GPf C c f' n') : n = n' ∧ ∀ t, 0 ≤ t → t < C c 0 → f t = f' t := by
  refine ⟨by rw [a.1, b.1], fun t t0 t1 => ?_⟩
  rcases a.2 t t0 t1 with ⟨a1, a2⟩ | ⟨r, a1, a2, a3, a4, a5⟩
  · rcases b.2 t t0 t1 with ⟨b1, b2⟩ | ⟨r', b1, b2, b3, b4, b5⟩
    · rw [a1, b1]
    · exact absurd b4 (a2 r' b1 b2 b3)
  · rcases b.2 t t0 t1 with ⟨b1, b2⟩ | ⟨r', b1, b2, b3, b4, b5⟩
    · exact absurd a4 (b2 r a1 a2 a3)
    · have hs := db_t a4 (db_s b4)
      have : r = r' := by
        by_cases q : r < r'
        · exact absurd hs (b3.1 r a1 q)
        · by_cases q2 : r' < r
          · exact absurd (db_s hs) (a3.1 r' b1 q2)
          · omega
      rw [a5, b5, this]
/-- the whole of a picture, on both sides; the class's tables where they are known -/
def Rtb (C R : MM) (c : Nat) (p : Int) : Prop := (∀ t, 0 ≤ t → t < C c 0 → C (c + 5) t = R 43 (400 * p + t) ∧ C (c + 6) t = R 44 (400 * p + t) ∧ C (c + 7) t = R 45 (400 * p + t) ∧ C (c + 13) t = R 59 (400 * p + t)) ∧ C c 16 = R 52 p ∧ 0 ≤ C c 16 ∧ C c 16 ≤ 400 ∧ (∀ k, 0 ≤ k → k < C c 16 → C (c + 14) k = R 51 (400 * p + k)) ∧ DTf C c (fun t => R 46 (400 * p + t)) (fun t => R 47 (400 * p + t)) (fun t => R 48 (400 * p + t)) ∧ RGf C c (fun t => R 49 (400 * p + t)) (R 53 p) ∧ GPf C c (fun t => R 50 (400 * p + t)) (R 54 p)
/-- what is told of a graph rests on these cells -/
theorem gr_eq {C C' R0 : MM} {c : Nat} (hY : Rty C R0) (hw : PW C c) (hl : tyLe C C') (e0 : C' c 0 = C c 0) (e11 : C' c 11 = C c 11) (e : ∀ q, c < q → q ≤ c + 12 → C' q = C q) : (∀ t, 0 ≤ t → t < C c 0 → pcn C' c t = pcn C c t ∧ szt C' c t = szt C c t ∧ (∀ k, 0 ≤ k → k < pcn C c t → kA C' (C (c + 2) t) k = kA C (C (c + 2) t) k ∧ lA C' (C (c + 2) t) k = lA C (C (c + 2) t) k)) ∧ pE C' c = pE C c ∧ pZ C' c = pZ C c := by
  have h16 := hY.2.2.1
  have hp : ∀ t, 0 ≤ t → t < C c 0 → pcn C' c t = pcn C c t ∧ szt C' c t = szt C c t ∧ (∀ k, 0 ≤ k → k < pcn C c t → kA C' (C (c + 2) t) k = kA C (C (c + 2) t) k ∧ lA C' (C (c + 2) t) k = lA C (C (c + 2) t) k) := by
    intro t t0 t1
    obtain ⟨-, -, a3, a4, -⟩ := hw.2.2.2.1 t t0 t1
    have h2 := e (c + 2) (by omega) (by omega)
    have h3 := e (c + 3) (by omega) (by omega)
    refine ⟨?_, ?_, fun k k0 k1 => le_kA hY hl a3 (fun q => (a4 q).1) k0 (fun q => pcn_c k1 q)⟩
    · unfold pcn
      rw [h2, h3]
      exact le_so hY hl a3 (fun q => (a4 q).1)
    · unfold szt sz
      rw [h2, h3]
      unfold vT at a3
      by_cases z : 20 ≤ C (c + 2) t
      · have hk : kA C' (C (c + 2) t) 0 = kA C (C (c + 2) t) 0 := by
          unfold kA
          by_cases z2 : 29 ≤ C (c + 2) t
          · rw [if_pos z2, if_pos z2]
          · rw [if_neg z2, if_neg z2, if_pos z, if_pos z]
        rw [if_pos z, if_pos z, hk]
      · rw [if_neg z, if_neg z, ((hl.2 (C (c + 2) t) (by omega) (by omega)).2.2.1 (a4 (by omega)).1).2.2.1]
  refine ⟨hp, ?_, ?_⟩
  · funext t u
    apply propext
    unfold pE lv
    rw [e0, e (c + 4) (by omega) (by omega), e (c + 9) (by omega) (by omega), e (c + 10) (by omega) (by omega)]
    constructor
    · rintro ⟨a1, a2, a3, k, a4, a5, a6⟩
      exact ⟨a1, a2, a3, k, a4, by rw [← (hp t a1 a2).1]; exact a5, a6⟩
    · rintro ⟨a1, a2, a3, k, a4, a5, a6⟩
      exact ⟨a1, a2, a3, k, a4, by rw [(hp t a1 a2).1]; exact a5, a6⟩
  · funext t
    unfold pZ
    rw [e11, e (c + 12) (by omega) (by omega)]
theorem sp_eq {C C' R0 : MM} {c : Nat} (hY : Rty C R0) (hw : PW C c) (hl : tyLe C C') (e0 : C' c 0 = C c 0) (e11 : C' c 11 = C c 11) (e : ∀ q, c < q → q ≤ c + 12 → C' q = C q) : (∀ f g h, DTf C c f g h → DTf C' c f g h) ∧ (∀ f n, RGf C c f n → RGf C' c f n) ∧ (∀ f n, GPf C c f n → GPf C' c f n) := by
  obtain ⟨hp, e1, e2⟩ := gr_eq hY hw hl e0 e11 e
  have n0 := hw.1
  have ec := e0
  have edm : dm C' c = dm C c := by funext d t; unfold dm; rw [e1, e2]
  have ecD : cD C' c = cD C c := by funext d; unfold cD; rw [edm, ec]
  have esD : sD C' c = sD C c := by
    funext d
    unfold sD
    rw [edm, ec]
    exact sk_c _ fun t t0 t1 => ⟨Iff.rfl, (hp t t0 (by omega)).2.1⟩
  have err : rr C' c = rr C c := by funext t u; unfold rr; rw [e1]
  have esy : sym_ C' c = sym_ C c := by funext t u; unfold sym_; rw [err]
  have erp : rp C' c = rp C c := by funext t; unfold rp; rw [esy]
  have edb : ∀ t u, 0 ≤ t → t < C c 0 → (db C' c t u ↔ db C c t u) := fun t u t0 t1 => by
    unfold db
    rw [(hp t t0 t1).1, e (c + 2) (by omega) (by omega), e (c + 3) (by omega) (by omega), e (c + 4) (by omega) (by omega), e (c + 9) (by omega) (by omega)]
  have eG : ∀ t, 0 ≤ t → t < C c 0 → (rpG C' c t ↔ rpG C c t) := fun t t0 t1 => by
    unfold rpG
    rw [ec]
    constructor
    · rintro ⟨a, u, b1, b2, b3⟩
      exact ⟨fun v v0 v1 q => a v v0 v1 ((edb v t v0 (by omega)).mpr q), u, b1, b2, (edb t u t0 t1).mp b3⟩
    · rintro ⟨a, u, b1, b2, b3⟩
      exact ⟨fun v v0 v1 q => a v v0 v1 ((edb v t v0 (by omega)).mp q), u, b1, b2, (edb t u t0 t1).mpr b3⟩
  refine ⟨fun f g h hd t t0 t1 => ?_, fun f n hd => ?_, fun f n hd => ?_⟩
  · rw [ec] at t1
    have := hd t t0 t1
    unfold nDf at this ⊢
    rw [edm, ecD, esD, ec]; exact this
  · unfold RGf at hd ⊢
    rw [erp, esy, ec]; exact hd
  · obtain ⟨d1, d2⟩ := hd
    have rkE : ∀ k : Nat, (k : Int) ≤ C c 0 → rk (rpG C' c) k = rk (rpG C c) k := fun k hk => rk_c k fun t t0 t1 => eG t t0 (by omega)
    refine ⟨by rw [ec, rkE _ (by omega)]; exact d1, fun u u0 u1 => ?_⟩
    rw [ec] at u1
    rcases d2 u u0 u1 with ⟨a1, a2⟩ | ⟨r, a1, a2, a3, a4, a5⟩
    · refine Or.inl ⟨a1, fun r r0 r1 r2 q => ?_⟩
      rw [ec] at r1
      exact a2 r r0 r1 ((eG r r0 r1).mp r2) ((edb r u r0 r1).mp q)
    · exact Or.inr ⟨r, a1, by rw [ec]; exact a2, (eG r a1 a2).mpr a3, (edb r u a1 a2).mpr a4, by rw [rkE _ (by omega)]; exact a5⟩
