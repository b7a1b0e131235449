/-! what a picture is, in the class's cells -/
def pcn (C : MM) (c : Nat) (t : Int) : Int := so C (C (c + 2) t) (C (c + 3) t)
def lv (C : MM) (c : Nat) (t k : Int) : Int := if C (c + 10) (C (c + 4) t + k) = 0 then -1 else C (c + 9) (C (c + 4) t + k)
/-- how a thing is met first -/
def FO (C : MM) (c : Nat) (t f s : Int) : Prop := (f = -1 ∧ ∃ r, 0 ≤ r ∧ r < C c 11 ∧ C (c + 12) r = t ∧ C (c + 11) r = s ∧ ∀ r', 0 ≤ r' → r' < r → C (c + 12) r' ≠ t) ∨ (0 ≤ f ∧ f < C c 0 ∧ 0 ≤ s ∧ s < pcn C c f ∧ lv C c f s = t ∧ (∀ r, 0 ≤ r → r < C c 11 → C (c + 12) r ≠ t) ∧ ∀ f' s', 0 ≤ f' → (f' < f ∨ (f' = f ∧ s' < s)) → 0 ≤ s' → s' < pcn C c f' → lv C c f' s' ≠ t)
theorem FO_inj {C : MM} {c : Nat} {t f s f' s' : Int} (h : FO C c t f s) (h' : FO C c t f' s') : f = f' ∧ s = s' := by
  rcases h with ⟨a1, r, a2, a3, a4, a5, a6⟩ | ⟨a1, a2, a3, a4, a5, a6, a7⟩
  · rcases h' with ⟨b1, r', b2, b3, b4, b5, b6⟩ | ⟨b1, b2, b3, b4, b5, b6, b7⟩
    · have : r = r' := by
        by_cases q : r < r'
        · exact absurd a4 (b6 r a2 q)
        · by_cases q2 : r' < r
          · exact absurd b4 (a6 r' b2 q2)
          · omega
      subst this
      exact ⟨by rw [a1, b1], by rw [← a5, ← b5]⟩
    · exact absurd a4 (b6 r a2 a3)
  · rcases h' with ⟨b1, r', b2, b3, b4, b5, b6⟩ | ⟨b1, b2, b3, b4, b5, b6, b7⟩
    · exact absurd b4 (a6 r' b2 b3)
    · by_cases q : f < f' ∨ (f = f' ∧ s < s')
      · exact absurd a5 (b7 f s a1 q a3 a4)
      · by_cases q2 : f' < f ∨ (f' = f ∧ s' < s)
        · exact absurd b5 (a7 f' s' b1 q2 b3 b4)
        · omega
def PT (C : MM) (c : Nat) (t : Int) : Prop := 0 ≤ C (c + 1) t ∧ C (c + 1) t < 400 ∧ vT (C 8 0) (C (c + 2) t) ∧ (C (c + 2) t < 20 → C 12 (C (c + 2) t) = 1 ∧ C (c + 3) t = 0) ∧ 0 ≤ C (c + 3) t ∧ C (c + 3) t ≤ 60 ∧ C (c + 4) (t + 1) = C (c + 4) t + pcn C c t ∧ C (c + 8) (C (c + 1) t) = t
def pK (C : MM) (c : Nat) (kd w v : Int) : Prop := (kd = 5 ∧ (v = -1 ∨ (0 ≤ v ∧ v < C c 0 ∧ ft C (C (c + 2) v) w))) ∨ (kd ≠ 5 ∧ vN kd v)
def PV (C : MM) (c : Nat) (t k : Int) : Prop := C (c + 10) (C (c + 4) t + k) = lf (kA C (C (c + 2) t) k) ∧ pK C c (kA C (C (c + 2) t) k) (lA C (C (c + 2) t) k) (C (c + 9) (C (c + 4) t + k))
def PZ (C : MM) (c : Nat) (t : Int) : Prop := FO C c t (C (c + 6) t) (C (c + 7) t) ∧ 0 ≤ C (c + 5) t ∧ C (c + 5) t ≤ t ∧ ((C (c + 6) t = -1 ∧ C (c + 5) t = 0) ∨ (0 ≤ C (c + 6) t ∧ C (c + 6) t < t ∧ C (c + 5) t = C (c + 5) (C (c + 6) t) + 1))
def PW (C : MM) (c : Nat) : Prop := 0 ≤ C c 0 ∧ C c 0 ≤ 400 ∧ C (c + 4) 0 = 0 ∧ (∀ t, 0 ≤ t → t < C c 0 → PT C c t) ∧ C (c + 4) (C c 0) ≤ 4000 ∧ (∀ t k, 0 ≤ t → t < C c 0 → 0 ≤ k → k < pcn C c t → PV C c t k) ∧ (∀ o, 0 ≤ o → o < 400 → C (c + 8) o = -1 ∨ (0 ≤ C (c + 8) o ∧ C (c + 8) o < C c 0 ∧ C (c + 1) (C (c + 8) o) = o)) ∧ 0 ≤ C c 11 ∧ C c 11 ≤ 108 ∧ (∀ r, 0 ≤ r → r < C c 11 → 0 ≤ C (c + 12) r ∧ C (c + 12) r < C c 0 ∧ 0 ≤ C (c + 11) r ∧ C (c + 11) r < 108) ∧ (∀ r, 0 ≤ r → r + 1 < C c 11 → C (c + 11) r < C (c + 11) (r + 1)) ∧ (∀ t, C c 0 ≤ t → t < 400 → C (c + 13) t = 0) ∧ (∀ t, 0 ≤ t → t < C c 0 → PZ C c t) ∧ (∀ t, 0 ≤ t → t + 1 < C c 0 → lx (C (c + 6) t, C (c + 7) t) (C (c + 6) (t + 1), C (c + 7) (t + 1)))
theorem PF_of {C : MM} {c : Nat} (h : PW C c) : PF C c := by
  obtain ⟨h1, h2, h3, h4, h5, h6, h7, h8, h9, h10, h11, h12, -⟩ := h
  refine ⟨h1, h2, h3, fun t a b => ⟨(h4 t a b).1, (h4 t a b).2.1⟩, fun o a b => ?_, h12⟩
  rcases h7 o a b with q | ⟨q1, q2, q3⟩
  · exact Or.inl q
  · exact Or.inr ⟨_, q1, q2, q3⟩
/-- the base of a picture, on both sides -/
def Rpb (C R : MM) (c : Nat) (p : Int) : Prop := C c 0 = R 38 p ∧ (∀ t, 0 ≤ t → t < C c 0 → C (c + 1) t = R 39 (400 * p + t) ∧ C (c + 2) t = R 40 (400 * p + t) ∧ C (c + 3) t = R 41 (400 * p + t) ∧ C (c + 4) t = R 42 (400 * p + t)) ∧ (∀ t k, 0 ≤ t → t < C c 0 → 0 ≤ k → k < pcn C c t → C (c + 9) (C (c + 4) t + k) = R 58 (4000 * p + (C (c + 4) t + k))) ∧ C c 11 = R 55 p ∧ ∀ r, 0 ≤ r → r < C c 11 → C (c + 11) r = R 56 (128 * p + r) ∧ C (c + 12) r = R 57 (128 * p + r)
/-- places of slots -/
theorem pw_bd {C R0 : MM} {c : Nat} (hY : Rty C R0) (h : PW C c) {t : Int} (t0 : 0 ≤ t) (t1 : t < C c 0) : 0 ≤ pcn C c t ∧ pcn C c t ≤ 96 := by
  obtain ⟨-, -, a3, -, a5, a6, -⟩ := h.2.2.2.1 t t0 t1
  exact so_bd hY a3 a5 a6
theorem pw_mono {C R0 : MM} {c : Nat} (hY : Rty C R0) (h : PW C c) (d : Nat) : ∀ t : Int, 0 ≤ t → t + d ≤ C c 0 → C (c + 4) t ≤ C (c + 4) (t + d) := by
  induction d with
  | zero => intro t _ _; simp
  | succ d ih =>
    intro t t0 t1
    have h1 := ih t t0 (by omega)
    have h2 := (h.2.2.2.1 (t + d) (by omega) (by omega)).2.2.2.2.2.2.1
    have h3 := pw_bd hY h (t := t + d) (by omega) (by omega)
    rw [show t + ((d + 1 : Nat) : Int) = t + d + 1 from by omega]
    omega
theorem pw_at {C R0 : MM} {c : Nat} (hY : Rty C R0) (h : PW C c) {t k : Int} (t0 : 0 ≤ t) (t1 : t < C c 0) (k0 : 0 ≤ k) (k1 : k < pcn C c t) : 0 ≤ C (c + 4) t ∧ C (c + 4) t + k < C (c + 4) (t + 1) ∧ C (c + 4) (t + 1) ≤ C (c + 4) (C c 0) ∧ C (c + 4) (C c 0) ≤ 4000 := by
  have m1 := pw_mono hY h t.toNat 0 (by omega) (by omega)
  have m2 := pw_mono hY h (C c 0 - (t + 1)).toNat (t + 1) (by omega) (by omega)
  have h2 := (h.2.2.2.1 t t0 t1).2.2.2.2.2.2.1
  have h3 := h.2.2.1
  have h5 := h.2.2.2.2.1
  rw [show (0 : Int) + (t.toNat : Nat) = t from by omega] at m1
  rw [show t + 1 + ((C c 0 - (t + 1)).toNat : Nat) = C c 0 from by omega] at m2
  omega
theorem pw_f {C R0 : MM} {c : Nat} (hY : Rty C R0) (h : PW C c) {t : Int} (t0 : 0 ≤ t) (t1 : t ≤ C c 0) : 0 ≤ C (c + 4) t ∧ C (c + 4) t ≤ C (c + 4) (C c 0) := by
  have m1 := pw_mono hY h t.toNat 0 (by omega) (by omega)
  have m2 := pw_mono hY h (C c 0 - t).toNat t (by omega) (by omega)
  have h3 := h.2.2.1
  rw [show (0 : Int) + (t.toNat : Nat) = t from by omega] at m1
  rw [show t + ((C c 0 - t).toNat : Nat) = C c 0 from by omega] at m2
  omega
/-- a link of a picture: nothing, or a thing -/
theorem pw_lv {C : MM} {c : Nat} (h : PW C c) {t k : Int} (t0 : 0 ≤ t) (t1 : t < C c 0) (k0 : 0 ≤ k) (k1 : k < pcn C c t) : (lv C c t k = -1 ∨ (0 ≤ lv C c t k ∧ lv C c t k < C c 0)) ∧ (kA C (C (c + 2) t) k = 5 → lv C c t k = C (c + 9) (C (c + 4) t + k)) ∧ (kA C (C (c + 2) t) k ≠ 5 → lv C c t k = -1) := by
  obtain ⟨a1, a2⟩ := h.2.2.2.2.2.1 t k t0 t1 k0 k1
  unfold lv
  rw [a1]
  unfold lf
  by_cases z : kA C (C (c + 2) t) k = 5
  · rw [if_pos z, if_neg (by omega)]
    refine ⟨?_, fun _ => rfl, fun q => absurd z q⟩
    rcases a2 with ⟨-, q | ⟨q1, q2, -⟩⟩ | ⟨q, -⟩
    · exact Or.inl q
    · exact Or.inr ⟨q1, q2⟩
    · exact absurd z q
  · rw [if_neg z, if_pos rfl]
    exact ⟨Or.inl rfl, fun q => absurd q z, fun _ => rfl⟩
theorem wk_eq {C C' : MM} (e : ∀ k, k < 46 → C' k = C k) : wkL C' = wkL C ∧ wkX C' = wkX C ∧ rtX C' = rtX C := by
  have esk : slk C' = slk C := by funext o k; unfold slk; rw [kA_fe (e 24 (by omega)), e 27 (by omega), e 29 (by omega), e 30 (by omega)]
  have eln : lnN C' = lnN C := by funext o; unfold lnN; rw [ln_eq (e 16 (by omega)) (e 27 (by omega)) (e 28 (by omega))]
  have est : stv C' = stv C := by funext f; unfold stv; rw [e 21 (by omega), e 19 (by omega), e 32 (by omega)]
  have enS : nS C' = nS C := by
    funext f
    induction f with
    | zero => rfl
    | succ f ih => rw [nS_s, nS_s, ih, e 21 (by omega), e 19 (by omega)]
  have exR : xRt C' = xRt C := by
    funext k
    induction k with
    | zero => rfl
    | succ k ih =>
      show mx (fm (fun k => C' 33 k) k []) (xRt C' k) (C' 33 k) (-1) k = mx (fm (fun k => C 33 k) k []) (xRt C k) (C 33 k) (-1) k
      rw [ih, e 33 (by omega)]
  have erT : rT C' = rT C := by
    funext k
    induction k with
    | zero => rfl
    | succ k ih =>
      show rT C' k ++ _ = rT C k ++ _
      rw [ih, e 33 (by omega)]
  have exS : xS C' = xS C := by
    funext f
    induction f with
    | zero => show xRt C' (C' 26 11).toNat = xRt C (C 26 11).toNat; rw [exR, e 26 (by omega)]
    | succ f ih =>
      show mx _ (xS C' f) _ _ _ = mx _ (xS C f) _ _ _
      rw [ih, est, enS, e 26 (by omega), e 33 (by omega)]
  have erS : rS C' = rS C := by
    funext f
    induction f with
    | zero => show rT C' (C' 26 11).toNat = rT C (C 26 11).toNat; rw [erT, e 26 (by omega)]
    | succ f ih =>
      show (if stv C' f = -1 then rS C' f else rS C' f ++ [(C' 26 11 + nS C' f, stv C' f)]) = (if stv C f = -1 then rS C f else rS C f ++ [(C 26 11 + nS C f, stv C f)])
      rw [ih, est, enS, e 26 (by omega)]
  have ert : rtL C' = rtL C := by unfold rtL; rw [est, e 8 (by omega), e 26 (by omega), e 33 (by omega)]
  have exb : ∀ m k L X, xb C' m k L X = xb C m k L X := by
    intro m
    induction m with
    | zero => intro k L X; rfl
    | succ m ih =>
      intro k L X
      show (if k < L.length then xb C' m (k + 1) (fm (slk C' (L.getD k 0)) (lnN C' (L.getD k 0)) L) (xf (slk C' (L.getD k 0)) k L X (lnN C' (L.getD k 0))) else X) = (if k < L.length then xb C m (k + 1) (fm (slk C (L.getD k 0)) (lnN C (L.getD k 0)) L) (xf (slk C (L.getD k 0)) k L X (lnN C (L.getD k 0))) else X)
      rw [ih, esk, eln]
  refine ⟨by unfold wkL; rw [esk, eln, ert], by unfold wkX; rw [exb, ert, exS, e 8 (by omega)], by unfold rtX; rw [erS, e 8 (by omega)]⟩
