/-! holders: the class -/
theorem hR_s {C : MM} {c : Nat} {t : Int} (r : Nat) : hR C c t (r + 1) = if C (c + 12) r = t then hR C c t r ++ [(-1, C (c + 11) r)] else hR C c t r := rfl
theorem hK_s {C : MM} {c : Nat} {t u : Int} (k : Nat) : hK C c t u (k + 1) = if lv C c u k = t then hK C c t u k ++ [(u, (k : Int))] else hK C c t u k := rfl
theorem hU_s {C : MM} {c : Nat} {t : Int} (u : Nat) : hU C c t (u + 1) = hU C c t u ++ hK C c t u (pcn C c u).toNat := rfl
theorem hR_m (C : MM) (c : Nat) (t : Int) (i j : Nat) (h : i ≤ j) : (hR C c t i).length ≤ (hR C c t j).length := by
  induction j with
  | zero => rw [show i = 0 from by omega]; omega
  | succ j ih =>
    by_cases e : i = j + 1
    · rw [e]; omega
    · have := ih (by omega)
      rw [hR_s]
      by_cases z : C (c + 12) j = t
      · rw [if_pos z, List.length_append]; omega
      · rw [if_neg z]; exact this
theorem hK_m (C : MM) (c : Nat) (t u : Int) (i j : Nat) (h : i ≤ j) : (hK C c t u i).length ≤ (hK C c t u j).length := by
  induction j with
  | zero => rw [show i = 0 from by omega]; omega
  | succ j ih =>
    by_cases e : i = j + 1
    · rw [e]; omega
    · have := ih (by omega)
      rw [hK_s]
      by_cases z : lv C c u j = t
      · rw [if_pos z, List.length_append]; omega
      · rw [if_neg z]; exact this
theorem hU_m (C : MM) (c : Nat) (t : Int) (i j : Nat) (h : i ≤ j) : (hU C c t i).length ≤ (hU C c t j).length := by
  induction j with
  | zero => rw [show i = 0 from by omega]; omega
  | succ j ih =>
    by_cases e : i = j + 1
    · rw [e]; omega
    · have := ih (by omega)
      rw [hU_s, List.length_append]; omega
/-- how often slots, side by side, link to a thing -/
def lvl (C : MM) (c : Nat) (a : Nat) : Int := if C (c + 10) a = 0 then -1 else C (c + 9) a
def nl (C : MM) (c : Nat) (t : Int) : Nat → Int
  | 0 => 0
  | a + 1 => nl C c t a + (if lvl C c a = t then 1 else 0)
theorem hK_nl {C : MM} {c : Nat} {t u : Int} (f0 : 0 ≤ C (c + 4) u) (k : Nat) : ((hK C c t u k).length : Int) = nl C c t ((C (c + 4) u).toNat + k) - nl C c t (C (c + 4) u).toNat := by
  induction k with
  | zero => show (0 : Int) = _; simp
  | succ k ih =>
    have e : nl C c t ((C (c + 4) u).toNat + (k + 1)) = nl C c t ((C (c + 4) u).toNat + k) + (if lvl C c ((C (c + 4) u).toNat + k) = t then 1 else 0) := rfl
    have el : lvl C c ((C (c + 4) u).toNat + k) = lv C c u k := by
      unfold lvl lv
      rw [show (((C (c + 4) u).toNat + k : Nat) : Int) = C (c + 4) u + k from by omega]
    rw [e, el, hK_s]
    by_cases z : lv C c u k = t
    · rw [if_pos z, if_pos z, List.length_append]; simp; omega
    · rw [if_neg z, if_neg z]; omega
theorem hU_nl {C R0 : MM} {c : Nat} (hY : Rty C R0) (hw : PW C c) {t : Int} (u : Nat) (hu : (u : Int) ≤ C c 0) : ((hU C c t u).length : Int) = (hR C c t (C c 11).toNat).length + nl C c t (C (c + 4) u).toNat := by
  induction u with
  | zero =>
    show ((hR C c t (C c 11).toNat).length : Int) = _
    rw [show C (c + 4) ((0 : Nat) : Int) = 0 from hw.2.2.1]
    show _ = _ + nl C c t 0
    show _ = _ + (0 : Int)
    omega
  | succ u ih =>
    have i := ih (by omega)
    have f0 := pw_f hY hw (t := u) (by omega) (by omega)
    have hk := hK_nl (C := C) (c := c) (t := t) (u := u) f0.1 (pcn C c u).toNat
    have hp := pw_bd hY hw (t := u) (by omega) (by omega)
    have e1 := (hw.2.2.2.1 u (by omega) (by omega)).2.2.2.2.2.2.1
    rw [hU_s, List.length_append, show (((u + 1 : Nat)) : Int) = (u : Int) + 1 from by omega, e1, show (C (c + 4) u + pcn C c u).toNat = (C (c + 4) u).toNat + (pcn C c u).toNat from by omega]
    omega
/-- sums over all things -/
def sumN (f : Int → Int) : Nat → Int
  | 0 => 0
  | n + 1 => sumN f n + f n
theorem sum_le {f g : Int → Int} (x : Int) (n : Nat) (h : ∀ t : Int, 0 ≤ t → t < n → f t ≤ g t + (if x = t then 1 else 0)) : sumN f n ≤ sumN g n + (if 0 ≤ x ∧ x < n then 1 else 0) := by
  induction n with
  | zero => rw [if_neg (by omega)]; exact Int.le_refl _
  | succ n ih =>
    have i := ih fun t a b => h t a (by omega)
    have hn := h n (by omega) (by omega)
    show sumN f n + f n ≤ sumN g n + g n + _
    by_cases z : x = n
    · rw [if_pos z] at hn
      rw [if_neg (by omega)] at i
      rw [if_pos (by omega)]; omega
    · rw [if_neg z] at hn
      by_cases z2 : 0 ≤ x ∧ x < n
      · rw [if_pos z2] at i
        rw [if_pos (by omega)]; omega
      · rw [if_neg z2] at i
        rw [if_neg (by omega)]; omega
theorem sum_c {f g : Int → Int} (n : Nat) (h : ∀ t : Int, 0 ≤ t → t < n → f t = g t) : sumN f n = sumN g n := by
  induction n with
  | zero => rfl
  | succ n ih =>
    show sumN f n + f n = sumN g n + g n
    rw [ih fun t a b => h t a (by omega), h n (by omega) (by omega)]
theorem sum_m {f : Int → Int} (h : ∀ t, 0 ≤ f t) (i j : Nat) (hij : i ≤ j) : sumN f i ≤ sumN f j := by
  induction j with
  | zero => rw [show i = 0 from by omega]; omega
  | succ j ih =>
    by_cases e : i = j + 1
    · rw [e]; omega
    · have := ih (by omega)
      have := h j
      show _ ≤ sumN f j + f j
      omega
theorem sum_R (C : MM) (c : Nat) (n r : Nat) : sumN (fun t => ((hR C c t r).length : Int)) n ≤ r := by
  induction r with
  | zero =>
    have : sumN (fun t => ((hR C c t 0).length : Int)) n = 0 := by
      induction n with
      | zero => rfl
      | succ n ih => show sumN _ n + 0 = 0; rw [ih]; rfl
    rw [this]; omega
  | succ r ih =>
    have := sum_le (f := fun t => ((hR C c t (r + 1)).length : Int)) (g := fun t => ((hR C c t r).length : Int)) (C (c + 12) r) n (fun t _ _ => by
      show ((hR C c t (r + 1)).length : Int) ≤ (hR C c t r).length + _
      rw [hR_s]
      by_cases z : C (c + 12) r = t
      · rw [if_pos z, if_pos z, List.length_append]; simp
      · rw [if_neg z, if_neg z]; omega)
    by_cases z : 0 ≤ C (c + 12) r ∧ C (c + 12) r < n
    · rw [if_pos z] at this; omega
    · rw [if_neg z] at this; omega
theorem sum_nl (C : MM) (c : Nat) (g : Int → Int) (n a : Nat) : sumN (fun t => g t + nl C c t a) n ≤ sumN g n + a := by
  induction a with
  | zero => rw [sum_c (f := fun t => g t + nl C c t 0) (g := g) n (fun t _ _ => by show g t + 0 = g t; omega)]; omega
  | succ a ih =>
    have := sum_le (f := fun t => g t + nl C c t (a + 1)) (g := fun t => g t + nl C c t a) (lvl C c a) n (fun t _ _ => by
      show g t + (nl C c t a + (if lvl C c a = t then 1 else 0)) ≤ g t + nl C c t a + _
      omega)
    by_cases z : 0 ≤ lvl C c a ∧ lvl C c a < n
    · rw [if_pos z] at this; omega
    · rw [if_neg z] at this; omega
/-- where a thing's holders begin -/
def hs (C : MM) (c : Nat) (t : Nat) : Int := sumN (fun t => ((hl C c t).length : Int)) t
theorem hs_bd {C R0 : MM} {c : Nat} (hY : Rty C R0) (hw : PW C c) : hs C c (C c 0).toNat ≤ 4108 := by
  have n0 := hw.1
  have r0 := hw.2.2.2.2.2.2.2.1
  have r1 := hw.2.2.2.2.2.2.2.2.1
  have hm := hw.2.2.2.2.1
  have hf := pw_f hY hw n0 (Int.le_refl _)
  have e : ∀ t : Int, ((hl C c t).length : Int) = (hR C c t (C c 11).toNat).length + nl C c t (C (c + 4) (C c 0)).toNat := fun t => by
    have := hU_nl hY hw (t := t) (C c 0).toNat (by omega)
    rw [show (((C c 0).toNat : Nat) : Int) = C c 0 from by omega] at this
    exact this
  unfold hs
  rw [sum_c (f := fun t => ((hl C c t).length : Int)) (g := fun t => ((hR C c t (C c 11).toNat).length : Int) + nl C c t (C (c + 4) (C c 0)).toNat) _ (fun t _ _ => e t)]
  have h1 := sum_nl C c (fun t => ((hR C c t (C c 11).toNat).length : Int)) (C c 0).toNat (C (c + 4) (C c 0)).toNat
  have h2 := sum_R C c (C c 0).toNat (C c 11).toNat
  omega
theorem hs_m (C : MM) (c : Nat) (i j : Nat) (h : i ≤ j) : hs C c i ≤ hs C c j := sum_m (fun t => by omega) i j h
theorem hs_s (C : MM) (c : Nat) (t : Nat) : hs C c (t + 1) = hs C c t + (hl C c t).length := rfl
/-- the class's rows of holders, as they fill -/
def HE (C M : MM) (c : Nat) (L : Int → List (Int × Int)) : Prop := ∀ t : Nat, (t : Int) < C c 0 → M (c + 31) t = hs C c t + (L t).length ∧ ∀ j : Nat, j < (L t).length → M (c + 20) (hs C c t + j) = ((L t).getD j (0, 0)).1 ∧ M (c + 21) (hs C c t + j) = ((L t).getD j (0, 0)).2
theorem p_addHolder {Q : Int → MM → Prop} {C R0 M : MM} {c : Nat} {L L' : Int → List (Int × Int)} {x a b : Int} (hY : Rty C R0) (hw : PW C c) (h : HE C M c L) (x0 : 0 ≤ x) (x1 : x < C c 0) (hl1 : ∀ t, (L t).length ≤ (hl C c t).length) (hlx : (L x).length < (hl C c x).length) (hL' : ∀ t : Int, 0 ≤ t → t < C c 0 → L' t = if t = x then L x ++ [(a, b)] else L t) (hq : ∀ M', (∀ k, k ≠ c + 20 → k ≠ c + 21 → k ≠ c + 31 → M' k = M k) → HE C M' c L' → Q 0 M') : w_X8_addHolder (c + 18) Q x a b M := by
  have n4 := hw.2.1
  have xx : ((x.toNat : Nat) : Int) = x := by omega
  have hx := (h x.toNat (by omega)).1
  rw [xx] at hx
  have b1 := hs_bd hY hw
  have b2 := hs_m C c (x.toNat + 1) (C c 0).toNat (by omega)
  have b3 := hs_s C c x.toNat
  rw [xx] at b3
  have b0 := hs_m C c 0 x.toNat (by omega)
  have z0 : hs C c 0 = 0 := rfl
  unfold w_X8_addHolder
  refine ⟨x0, by omega, fun v1 e1 _ => ?_⟩
  have e1' : v1 = hs C c x.toNat + (L x).length := by rw [e1]; exact hx
  refine ⟨by omega, by omega, fun M2 e2 => ⟨x0, by omega, fun v3 e3 _ => ?_⟩⟩
  have e3' : v3 = v1 := by rw [e3, e2, ux_c _ _ _ _ (by omega), e1]
  rw [e3']
  refine ⟨by omega, by omega, fun M4 e4 => ⟨x0, by omega, fun v5 e5 _ => ?_⟩⟩
  have e5' : v5 = v1 := by rw [e5, e4, e2, ux_c _ _ _ _ (by omega), ux_c _ _ _ _ (by omega), e1]
  rw [e5']
  refine ⟨by unfold ri_; omega, x0, by omega, fun M7 e7 => hq M7 (fun k p q r => funext fun i => by rw [e7, e4, e2, ux_c _ _ _ _ (by omega), ux_c _ _ _ _ (by omega), ux_c _ _ _ _ (by omega)]) fun t ht => ?_⟩
  obtain ⟨h1, h2⟩ := h t ht
  have y31 : M7 (c + 31) t = if (t : Int) = x then v1 + 1 else M (c + 31) t := by
    rw [e7]
    by_cases y : (t : Int) = x
    · rw [if_pos y, y, show c + 18 + 13 = c + 31 from by omega, ux_s]
    · rw [if_neg y, show c + 18 + 13 = c + 31 from by omega, ux_i _ _ _ y, e4, e2, ux_c _ _ _ _ (by omega), ux_c _ _ _ _ (by omega)]
  have y20 : ∀ i, M7 (c + 20) i = if i = v1 then a else M (c + 20) i := fun i => by
    rw [e7, ux_c _ _ _ _ (by omega), e4, ux_c _ _ _ _ (by omega), e2]
    by_cases y : i = v1
    · rw [if_pos y, y, show c + 18 + 2 = c + 20 from by omega, ux_s]
    · rw [if_neg y, show c + 18 + 2 = c + 20 from by omega, ux_i _ _ _ y]
  have y21 : ∀ i, M7 (c + 21) i = if i = v1 then b else M (c + 21) i := fun i => by
    rw [e7, ux_c _ _ _ _ (by omega), e4]
    by_cases y : i = v1
    · rw [if_pos y, y, show c + 18 + 3 = c + 21 from by omega, ux_s]
    · rw [if_neg y, show c + 18 + 3 = c + 21 from by omega, ux_i _ _ _ y, e2, ux_c _ _ _ _ (by omega)]
  rw [hL' t (by omega) ht, y31]
  by_cases y : (t : Int) = x
  · have et : t = x.toNat := by omega
    rw [if_pos y, if_pos y, List.length_append]
    refine ⟨by rw [e1', et]; simp; omega, fun j hj => ?_⟩
    simp at hj
    rw [y20, y21]
    by_cases yj : j = (L x).length
    · rw [if_pos (by rw [e1', et]; omega), if_pos (by rw [e1', et]; omega), yj, xg_last]
      exact ⟨rfl, rfl⟩
    · rw [if_neg (by rw [e1', et]; omega), if_neg (by rw [e1', et]; omega), xg_app (by omega)]
      have := h2 j (by rw [y]; omega)
      rw [y] at this
      exact this
  · rw [if_neg y, if_neg y]
    refine ⟨h1, fun j hj => ?_⟩
    have hne : hs C c t + j ≠ v1 := by
      have l1 := hl1 t
      rcases Nat.lt_or_ge t x.toNat with q | q
      · have m := hs_m C c (t + 1) x.toNat (by omega)
        have s := hs_s C c t
        omega
      · have m := hs_m C c (x.toNat + 1) t (by omega)
        omega
    rw [y20, y21, if_neg hne, if_neg hne]
    exact h2 j hj
theorem kb_1 : ∀ v : Fin 16, jand (jor (v.val : Int) 1) 1 ≠ 0 ∧ jand (jor (v.val : Int) 1) 2 = jand (v.val : Int) 2 ∧ jand (jor (v.val : Int) 1) 4 = jand (v.val : Int) 4 ∧ jand (jor (v.val : Int) 1) 8 = jand (v.val : Int) 8 ∧ 0 ≤ jor (v.val : Int) 1 ∧ jor (v.val : Int) 1 ≤ 15 := by decide
theorem kb_2 : ∀ v : Fin 16, jand (jor (v.val : Int) 2) 2 ≠ 0 ∧ jand (jor (v.val : Int) 2) 1 = jand (v.val : Int) 1 ∧ jand (jor (v.val : Int) 2) 4 = jand (v.val : Int) 4 ∧ jand (jor (v.val : Int) 2) 8 = jand (v.val : Int) 8 ∧ 0 ≤ jor (v.val : Int) 2 ∧ jor (v.val : Int) 2 ≤ 15 := by decide
theorem kb_4 : ∀ v : Fin 16, jand (jor (v.val : Int) 4) 4 ≠ 0 ∧ jand (jor (v.val : Int) 4) 1 = jand (v.val : Int) 1 ∧ jand (jor (v.val : Int) 4) 2 = jand (v.val : Int) 2 ∧ jand (jor (v.val : Int) 4) 8 = jand (v.val : Int) 8 ∧ 0 ≤ jor (v.val : Int) 4 ∧ jor (v.val : Int) 4 ≤ 15 := by decide
theorem kb_8 : ∀ v : Fin 16, jand (jor (v.val : Int) 8) 8 ≠ 0 ∧ jand (jor (v.val : Int) 8) 1 = jand (v.val : Int) 1 ∧ jand (jor (v.val : Int) 8) 2 = jand (v.val : Int) 2 ∧ jand (jor (v.val : Int) 8) 4 = jand (v.val : Int) 4 ∧ 0 ≤ jor (v.val : Int) 8 ∧ jor (v.val : Int) 8 ≤ 15 := by decide
