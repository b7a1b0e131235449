/-! like: what both search -/
theorem wd_ : True := (fun _ => trivial) @Stand.thenCaughtThrough
abbrev LkS := (Int → Int) × (Int → Int) × (Int → Int) × Int
def fu (f : Int → Int) (a b : Int) : Int → Int := fun x => if x = a then b else f x
theorem fu_s (f : Int → Int) (a b : Int) : fu f a b a = b := if_pos rfl
theorem fu_n (f : Int → Int) {a b x : Int} (h : x ≠ a) : fu f a b x = f x := if_neg h
def lk_nw (s : LkS) (a b : Int) : LkS := (fu s.1 a b, fu s.2.1 b a, fu s.2.2.1 s.2.2.2 a, s.2.2.2 + 1)
def lk_pair (s : LkS) (a b : Int) : Option LkS := if s.1 a = -1 ∧ s.2.1 b = -1 then some (lk_nw s a b) else if s.1 a = b then some s else none
def lk_sl (C : MM) (c d : Nat) (t u : Int) (s : LkS) (k : Int) : Option LkS := if kA C (C (c + 2) t) k = 5 ∧ C (c + 9) (C (c + 4) t + k) ≠ -1 ∧ C (d + 9) (C (d + 4) u + k) ≠ -1 then lk_pair s (C (c + 9) (C (c + 4) t + k)) (C (d + 9) (C (d + 4) u + k)) else if C (c + 9) (C (c + 4) t + k) = C (d + 9) (C (d + 4) u + k) then some s else none
def lk_sls (C : MM) (c d : Nat) (t u : Int) (s : LkS) : Nat → Option LkS
  | 0 => some s
  | k + 1 => (lk_sls C c d t u s k).bind fun s' => lk_sl C c d t u s' k
def lk_th (C : MM) (c d : Nat) (s : LkS) (t : Int) : Option LkS := if C (c + 2) t = C (d + 2) (s.1 t) ∧ C (c + 3) t = C (d + 3) (s.1 t) then lk_sls C c d t (s.1 t) s (pcn C c t).toNat else none
def lk_run (C : MM) (c d : Nat) : Nat → Int → LkS → Int
  | 0, _, _ => 1
  | f + 1, i, s => if s.2.2.2 ≤ i then 1 else match lk_th C c d s (s.2.2.1 i) with
    | none => 0
    | some s' => lk_run C c d f (i + 1) s'
theorem lk_s {C : MM} {c d : Nat} {t u : Int} {s s' : LkS} (k : Nat) (h : lk_sls C c d t u s k = some s') : lk_sls C c d t u s (k + 1) = lk_sl C c d t u s' k := by
  show (lk_sls C c d t u s k).bind _ = _
  rw [h]; rfl
theorem lk_no {C : MM} {c d : Nat} {t u : Int} {s : LkS} {k m : Nat} (h : lk_sls C c d t u s k = none) (hm : k ≤ m) : lk_sls C c d t u s m = none := by
  induction m with
  | zero => rw [show k = 0 from by omega] at h; exact h
  | succ m ih =>
    by_cases z : k = m + 1
    · rw [← z]; exact h
    · show (lk_sls C c d t u s m).bind _ = _
      rw [ih (by omega)]; rfl
def LRm (M : MM) (ka kb kq : Nat) (N D : Int) (s : LkS) : Prop := (∀ a, 0 ≤ a → a < N → M ka a = s.1 a) ∧ (∀ b, 0 ≤ b → b < D → M kb b = s.2.1 b) ∧ ∀ i, 0 ≤ i → i < s.2.2.2 → M kq i = s.2.2.1 i
def LI (N D : Int) (s : LkS) : Prop := (∀ i, 0 ≤ i → i < s.2.2.2 → 0 ≤ s.2.2.1 i ∧ s.2.2.1 i < N ∧ s.1 (s.2.2.1 i) ≠ -1) ∧ (∀ a, 0 ≤ a → a < N → s.1 a = -1 ∨ (0 ≤ s.1 a ∧ s.1 a < D)) ∧ s.2.2.2 = rk (fun a => s.1 a ≠ -1) N.toNat
theorem LI_nw {N D : Int} {s : LkS} {a b : Int} (h : LI N D s) (a0 : 0 ≤ a) (a1 : a < N) (b0 : 0 ≤ b) (b1 : b < D) (ha : s.1 a = -1) : LI N D (lk_nw s a b) ∧ s.2.2.2 < N ∧ 0 ≤ s.2.2.2 := by
  obtain ⟨h1, h2, h3⟩ := h
  have up := rk_up (P := fun x => s.1 x ≠ -1) (P' := fun x => (lk_nw s a b).1 x ≠ -1) a N.toNat a0 (by omega) (fun q => q ha) (fun x => by
    show fu s.1 a b x ≠ -1 ↔ _
    by_cases z : x = a
    · rw [z, fu_s]; exact ⟨fun _ => Or.inr rfl, fun _ => by omega⟩
    · rw [fu_n _ z]; exact ⟨fun q => Or.inl q, fun q => by rcases q with q | q; exact q; exact absurd q z⟩)
  have b' := rk_bd (fun x => (lk_nw s a b).1 x ≠ -1) N.toNat
  have b'' := rk_bd (fun x => s.1 x ≠ -1) N.toNat
  refine ⟨⟨fun i i0 i1 => ?_, fun x x0 x1 => ?_, ?_⟩, by omega, by omega⟩
  · show 0 ≤ fu s.2.2.1 s.2.2.2 a i ∧ fu s.2.2.1 s.2.2.2 a i < N ∧ fu s.1 a b (fu s.2.2.1 s.2.2.2 a i) ≠ -1
    by_cases z : i = s.2.2.2
    · rw [z, fu_s, fu_s]; exact ⟨a0, a1, by omega⟩
    · rw [fu_n _ z]
      have i1' : i < s.2.2.2 + 1 := i1
      obtain ⟨q1, q2, q3⟩ := h1 i i0 (by omega)
      refine ⟨q1, q2, ?_⟩
      rw [fu_n _ (fun y => q3 (by rw [y]; exact ha))]; exact q3
  · show fu s.1 a b x = -1 ∨ (0 ≤ fu s.1 a b x ∧ fu s.1 a b x < D)
    by_cases z : x = a
    · rw [z, fu_s]; exact Or.inr ⟨b0, b1⟩
    · rw [fu_n _ z]; exact h2 x x0 x1
  · show s.2.2.2 + 1 = _
    rw [up, h3]
theorem LRm_nw {M : MM} {ka kb kq : Nat} {N D : Int} {s : LkS} {a b : Int} (h : LRm M ka kb kq N D s) (x : ka ≠ kb) (y : ka ≠ kq) (z : kb ≠ kq) : LRm (ux_ (ux_ (ux_ M ka a b) kb b a) kq s.2.2.2 a) ka kb kq N D (lk_nw s a b) := by
  obtain ⟨h1, h2, h3⟩ := h
  refine ⟨fun i i0 i1 => ?_, fun i i0 i1 => ?_, fun i i0 i1 => ?_⟩
  · show _ = fu s.1 a b i
    rw [ux_c _ _ _ _ y, ux_c _ _ _ _ x]
    by_cases q : i = a
    · rw [q, ux_s, fu_s]
    · rw [ux_i _ _ _ q, fu_n _ q]; exact h1 i i0 i1
  · show _ = fu s.2.1 b a i
    rw [ux_c _ _ _ _ z]
    by_cases q : i = b
    · rw [q, ux_s, fu_s]
    · rw [ux_i _ _ _ q, fu_n _ q, ux_c _ _ _ _ (Ne.symm x)]; exact h2 i i0 i1
  · show _ = fu s.2.2.1 s.2.2.2 a i
    have i1' : i < s.2.2.2 + 1 := i1
    by_cases q : i = s.2.2.2
    · rw [q, ux_s, fu_s]
    · rw [ux_i _ _ _ q, fu_n _ q, ux_c _ _ _ _ (Ne.symm z), ux_c _ _ _ _ (Ne.symm y)]; exact h3 i i0 (by omega)
def FSc (C M : MM) : Prop := ∀ k, ¬ (46 ≤ k ∧ k ≤ 210 ∧ 28 ≤ k % 33 ∧ k % 33 ≤ 30) → M k = C k
theorem isP_m {c : Nat} (h : isP c) : c % 33 = 13 ∧ 46 ≤ c ∧ c ≤ 178 := by unfold isP at h; omega
set_option maxHeartbeats 1000000 in
theorem p_pairSlots {Q : Int → MM → Prop} {C M R0 : MM} {c d : Nat} {t : Int} {s : LkS} (hY : Rty C R0) (hw : PW C c) (hv : PW C d) (hc : isP c) (hd : isP d) (hF : FSc C M) (hR : LRm M (c + 15) (d + 16) (c + 17) (C c 0) (C d 0) s) (hI : LI (C c 0) (C d 0) s) (t0 : 0 ≤ t) (t1 : t < C c 0) (hs : s.1 t ≠ -1) (h1 : ∀ s' M', lk_th C c d s t = some s' → FSc C M' → LRm M' (c + 15) (d + 16) (c + 17) (C c 0) (C d 0) s' → LI (C c 0) (C d 0) s' → Q s'.2.2.2 M') (h0 : ∀ M', lk_th C c d s t = none → FSc C M' → Q (-1) M') : w_X5_pairSlots c d Q t s.2.2.2 M := by
  have n4 := hw.2.1
  have m4 := hv.2.1
  have mc := isP_m hc
  have md := isP_m hd
  have u01 : 0 ≤ s.1 t ∧ s.1 t < C d 0 := by
    rcases hI.2.1 t t0 t1 with q | q
    · exact absurd q hs
    · exact q
  obtain ⟨u0, u1⟩ := u01
  unfold w_X5_pairSlots
  refine ⟨t0, by omega, fun v1 e1 _ => ?_⟩
  rw [hR.1 t t0 t1] at e1
  subst e1
  refine ⟨t0, by omega, fun v2 e2 _ => ⟨u0, by omega, fun v3 e3 _ => ?_⟩⟩
  rw [hF (c + 2) (by omega)] at e2
  rw [hF (d + 2) (by omega)] at e3
  refine ⟨fun z => h0 M (by unfold lk_th; rw [if_neg (fun q => z (by rw [e2, e3]; exact q.1))]) hF, fun z => ⟨t0, by omega, fun v5 e5 _ => ⟨u0, by omega, fun v6 e6 _ => ?_⟩⟩⟩
  rw [hF (c + 3) (by omega)] at e5
  rw [hF (d + 3) (by omega)] at e6
  refine ⟨fun z2 => ⟨u0, by omega, fun v8 e8 _ => ⟨t0, by omega, fun v9 e9 _ => ?_⟩⟩, fun z2 => h0 M (by unfold lk_th; rw [if_neg (fun q => z2 (by rw [e5, e6]; exact q.2))]) hF⟩
  rw [hF (d + 4) (by omega)] at e8
  rw [hF (c + 4) (by omega)] at e9
  have sT : C (c + 2) t = C (d + 2) (s.1 t) := by rw [← e2, ← e3]; exact z
  have sL : C (c + 3) t = C (d + 3) (s.1 t) := by rw [← e5, ← e6]; exact z2
  have eth : lk_th C c d s t = lk_sls C c d t (s.1 t) s (pcn C c t).toNat := by unfold lk_th; rw [if_pos ⟨sT, sL⟩]
  rw [eth] at h1 h0
  have sp : pcn C c t = pcn C d (s.1 t) := by unfold pcn; rw [sT, sL]
  have bt := pw_end hY hw t0 t1
  have bu := pw_end hY hv u0 u1
  have pb := pw_bd hY hw t0 t1
  generalize hu : s.1 t = u at *
  refine ⟨by unfold ri_; omega, t0, by omega, fun v11 e11 _ => ?_⟩
  rw [hF (c + 4) (by omega)] at e11
  subst e8 e9 e11
  unfold w_X5_pairSlots_b69
  refine loop5 _ (fun (a n b x : Int) M1 => t = a ∧ C (d + 4) u - C (c + 4) t = b ∧ C (c + 4) t ≤ x ∧ x ≤ C (c + 4) t + pcn C c t ∧ ∃ s', lk_sls C c d t u s (x - C (c + 4) t).toNat = some s' ∧ n = s'.2.2.2 ∧ FSc C M1 ∧ LRm M1 (c + 15) (d + 16) (c + 17) (C c 0) (C d 0) s' ∧ LI (C c 0) (C d 0) s') (fun (_ _ _ x : Int) _ => (C (c + 4) (t + 1) - x).toNat) ?_ _ _ _ _ _ ⟨rfl, rfl, by omega, by omega, s, by rw [show (C (c + 4) t - C (c + 4) t).toNat = 0 from by omega]; rfl, rfl, hF, hR, hI⟩
  rintro _ n _ x M1 f ⟨rfl, rfl, x0, x1, s', es, rfl, hF', hR', hI'⟩ ih
  unfold wb_X5_pairSlots_b69
  refine ⟨by unfold ri_; omega, by omega, by omega, fun v2' e2' _ => ?_⟩
  rw [hF' (c + 4) (by omega)] at e2'
  subst e2'
  refine ⟨fun y => h1 s' M1 (by rw [← es, show (x - C (c + 4) t).toNat = (pcn C c t).toNat from by omega]) hF' hR' hI', fun y => ⟨by omega, by omega, fun v4 e4 _ => ⟨by unfold ri_; omega, by omega, by omega, fun v6' e6' _ => ⟨by omega, by omega, fun v7 e7 _ => ?_⟩⟩⟩⟩
  rw [hF' (c + 9) (by omega)] at e4
  rw [hF' (d + 9) (by omega)] at e6'
  rw [hF' (c + 10) (by omega)] at e7
  obtain ⟨k, ek⟩ : ∃ k : Nat, x = C (c + 4) t + k := ⟨(x - C (c + 4) t).toNat, by omega⟩
  have k1 : (k : Int) < pcn C c t := by omega
  rw [show (x - C (c + 4) t).toNat = k from by omega] at es
  have st := lk_s k es
  rw [ek] at e4 e7
  rw [show x + (C (d + 4) u - C (c + 4) t) = C (d + 4) u + k from by omega] at e6'
  have pv := hw.2.2.2.2.2.1 t k t0 t1 (by omega) k1
  have pu := hv.2.2.2.2.2.1 u k u0 u1 (by omega) (by omega)
  have yes : ∀ s'' M'', lk_sl C c d t u s' k = some s'' → FSc C M'' → LRm M'' (c + 15) (d + 16) (c + 17) (C c 0) (C d 0) s'' → LI (C c 0) (C d 0) s'' → w_X5_pairSlots_b220 c d Q f t s''.2.2.2 (C (d + 4) u - C (c + 4) t) x M'' := fun s'' M'' q1 q2 q3 q4 => by
    unfold w_X5_pairSlots_b220
    exact ⟨by unfold ri_; omega, ih _ _ _ _ _ ⟨rfl, rfl, by omega, by omega, s'', by rw [show (x + 1 - C (c + 4) t).toNat = k + 1 from by omega, st]; exact q1, rfl, q2, q3, q4⟩ (by omega)⟩
  have no : lk_sl C c d t u s' k = none → Q (-1) M1 := fun q => h0 M1 (lk_no (k := k + 1) (by rw [st]; exact q) (by omega)) hF'
  have cmp : ¬ (kA C (C (c + 2) t) k = 5 ∧ v4 ≠ -1 ∧ v6' ≠ -1) → w_X5_pairSlots_b131 c d Q f t s'.2.2.2 (C (d + 4) u - C (c + 4) t) x v4 v6' M1 := fun q => by
    have e : lk_sl C c d t u s' k = if v4 = v6' then some s' else none := by
      unfold lk_sl
      rw [← e4, ← e6', if_neg q]
    unfold w_X5_pairSlots_b131
    exact ⟨fun w => yes s' M1 (by rw [e, if_pos w]) hF' hR' hI', fun w => no (by rw [e, if_neg w])⟩
  unfold PV at pv pu
  rw [← sT] at pu
  refine ⟨fun q => cmp fun w => ?_, fun q => ⟨fun w => cmp fun w' => w'.2.1 w, fun w => ⟨fun w' => ?_, fun w' => cmp fun w'' => w''.2.2 w'⟩⟩⟩
  · rw [e7, pv.1] at q; unfold lf at q; rw [if_pos w.1] at q; omega
  · have nk : kA C (C (c + 2) t) k = 5 := by
      by_cases r : kA C (C (c + 2) t) k = 5
      · exact r
      · rw [e7, pv.1] at q; unfold lf at q; rw [if_neg r] at q; exact absurd rfl q
    have p1 := pv.2
    have p2 := pu.2
    rw [nk] at p1 p2
    unfold pK at p1 p2
    rw [← e4] at p1
    rw [← e6'] at p2
    have a01 : 0 ≤ v4 ∧ v4 < C c 0 := by
      rcases p1 with ⟨-, r | ⟨r, r', -⟩⟩ | ⟨r, -⟩
      · exact absurd r w
      · exact ⟨r, r'⟩
      · exact absurd rfl r
    have b01 : 0 ≤ v6' ∧ v6' < C d 0 := by
      rcases p2 with ⟨-, r | ⟨r, r', -⟩⟩ | ⟨r, -⟩
      · exact absurd r w'
      · exact ⟨r, r'⟩
      · exact absurd rfl r
    have e : lk_sl C c d t u s' k = lk_pair s' v4 v6' := by
      unfold lk_sl
      rw [← e4, ← e6', if_pos ⟨nk, w, w'⟩]
    have old : ¬ (s'.1 v4 = -1 ∧ s'.2.1 v6' = -1) → w_X5_pairSlots_b203 c d Q f t s'.2.2.2 (C (d + 4) u - C (c + 4) t) x v4 v6' M1 := fun r => by
      unfold w_X5_pairSlots_b203
      refine ⟨by unfold ri_; omega, by omega, by omega, fun v2 e2 _ => ?_⟩
      rw [hR'.1 v4 a01.1 a01.2] at e2
      exact ⟨fun y => yes s' M1 (by rw [e]; unfold lk_pair; rw [if_neg r, if_pos (by rw [← e2]; exact y)]) hF' hR' hI', fun y => no (by rw [e]; unfold lk_pair; rw [if_neg r, if_neg (by rw [← e2]; exact y)])⟩
    refine ⟨by unfold ri_; omega, by omega, by omega, fun v12 e12 _ => ?_⟩
    rw [hR'.1 v4 a01.1 a01.2] at e12
    refine ⟨fun r => old fun y => r (by rw [e12]; exact y.1), fun r => ⟨by unfold ri_; omega, by omega, by omega, fun v15 e15 _ => ?_⟩⟩
    rw [hR'.2.1 v6' b01.1 b01.2] at e15
    refine ⟨fun r' => old fun y => r' (by rw [e15]; exact y.2), fun r' => ?_⟩
    rw [e12] at r
    rw [e15] at r'
    obtain ⟨l1, l2, l3⟩ := LI_nw hI' a01.1 a01.2 b01.1 b01.2 r
    refine ⟨by unfold ri_; omega, by unfold ri_; omega, by omega, by omega, fun M19 e19 => ⟨by unfold ri_; omega, by unfold ri_; omega, by omega, by omega, fun M22 e22 => ⟨by unfold ri_; omega, by omega, by omega, fun M24 e24 => ⟨by unfold ri_; omega, yes (lk_nw s' v4 v6') M24 (by rw [e]; unfold lk_pair; rw [if_pos ⟨r, r'⟩]) (fun j hj => ?_) ?_ l1⟩⟩⟩⟩
    · rw [e24, e22, e19]; funext i; rw [ux_c _ _ _ _ (by omega), ux_c _ _ _ _ (by omega), ux_c _ _ _ _ (by omega), hF' j hj]
    · rw [e24, e22, e19]; exact LRm_nw hR' (by omega) (by omega) (by omega)
def lk_0 (a b : Int) : LkS := lk_nw (fun _ => -1, fun _ => -1, fun _ => 0, 0) a b
theorem LI_0 {N D a b : Int} (a0 : 0 ≤ a) (a1 : a < N) (b0 : 0 ≤ b) (b1 : b < D) : LI N D (lk_0 a b) := by
  refine (LI_nw ⟨fun i i0 i1 => ?_, fun x _ _ => Or.inl rfl, ?_⟩ a0 a1 b0 b1 rfl).1
  · have : i < 0 := i1
    omega
  · show (0 : Int) = _
    have z : ∀ n : Nat, rk (fun (_ : Int) => (-1 : Int) ≠ -1) n = 0 := by
      intro n
      induction n with
      | zero => rfl
      | succ n ih => rw [(rk_s n).2 (fun q => q rfl), ih]
    exact (z _).symm
theorem p_isLike {Q : Int → MM → Prop} {C R0 : MM} {c d : Nat} {a b : Int} (hY : Rty C R0) (hw : PW C c) (hv : PW C d) (hc : isP c) (hd : isP d) (a0 : 0 ≤ a) (a1 : a < C c 0) (b0 : 0 ≤ b) (b1 : b < C d 0) (hq : ∀ M, FSc C M → Q (lk_run C c d 401 0 (lk_0 a b)) M) : w_X5_isLike c d Q a b C := by
  have n4 := hw.2.1
  have m4 := hv.2.1
  have mc := isP_m hc
  have md := isP_m hd
  unfold w_X5_isLike
  intro v1 e1 _
  refine p_fillR (by decide) (by omega) (by omega) (by omega) fun v4 e4 _ => ?_
  have e4' : v4 = C d 0 := by rw [e4]; unfold filled; rw [if_neg (by omega)]
  refine p_fillR (by decide) (by omega) (by omega) (by omega) ⟨a0, by omega, fun M7 e7 => ⟨b0, by omega, fun M8 e8 M9 e9 => ?_⟩⟩
  rw [e1, e4'] at e7
  have hF : FSc C M9 := fun j hj => by
    rw [e9, e8, e7]; funext i
    rw [ux_c _ _ _ _ (by omega), ux_c _ _ _ _ (by omega), ux_c _ _ _ _ (by omega)]
    unfold filled
    rw [if_neg (by omega), if_neg (by omega)]
  have hR : LRm M9 (c + 15) (d + 16) (c + 17) (C c 0) (C d 0) (lk_0 a b) := by
    rw [e9, e8, e7]
    refine LRm_nw (s := (fun _ => -1, fun _ => -1, fun _ => 0, 0)) ⟨fun x x0 x1 => ?_, fun x x0 x1 => ?_, fun i i0 i1 => ?_⟩ (by omega) (by omega) (by omega)
    · unfold filled; rw [if_neg (by omega), if_pos ⟨rfl, by omega, by omega⟩]
    · unfold filled; rw [if_pos ⟨rfl, by omega, by omega⟩]
    · have : i < 0 := i1
      omega
  unfold w_X5_isLike_b53
  refine loop3 _ (fun (n i : Int) M => 0 ≤ i ∧ i ≤ 400 ∧ ∃ s, n = s.2.2.2 ∧ FSc C M ∧ LRm M (c + 15) (d + 16) (c + 17) (C c 0) (C d 0) s ∧ LI (C c 0) (C d 0) s ∧ lk_run C c d (401 - i).toNat i s = lk_run C c d 401 0 (lk_0 a b)) (fun (_ i : Int) _ => (400 - i).toNat) ?_ _ _ _ ⟨by omega, by omega, lk_0 a b, rfl, hF, hR, LI_0 a0 a1 b0 b1, rfl⟩
  rintro n i M f ⟨i0, i4, s, rfl, hF, hR, hI, er⟩ ih
  obtain ⟨g, eg⟩ : ∃ g : Nat, (401 - i).toNat = g + 1 := ⟨(400 - i).toNat, by omega⟩
  rw [eg] at er
  have er' : (if s.2.2.2 ≤ i then 1 else match lk_th C c d s (s.2.2.1 i) with | none => 0 | some s' => lk_run C c d g (i + 1) s') = lk_run C c d 401 0 (lk_0 a b) := er
  unfold wb_X5_isLike_b53
  have rb9 := rk_bd (fun a => s.1 a ≠ -1) (C c 0).toNat
  have en9 := hI.2.2
  have n09 := hw.1
  have m0 : M c 0 = C c 0 := by rw [hF c (by omega)]
  refine ⟨fun z => ?_, fun z v99 e99 _ => ⟨fun z9 => by exfalso; rw [m0] at e99; omega, fun z9 => ?_⟩⟩
  · rw [if_pos z] at er'
    rw [er']; exact hq M hF
  · rw [if_neg z] at er'
    have rb := rk_bd (fun a => s.1 a ≠ -1) (C c 0).toNat
    have en := hI.2.2
    obtain ⟨q1, q2, q3⟩ := hI.1 i i0 (by omega)
    refine ⟨by omega, by omega, fun v2 e2 _ => ?_⟩
    rw [hR.2.2 i i0 (by omega)] at e2
    rw [e2]
    refine p_pairSlots hY hw hv hc hd hF hR hI q1 q2 q3 (fun s' M' k1 k2 k3 k4 _ => ⟨fun _ => ⟨by unfold ri_; omega, ih _ _ _ ⟨by omega, by omega, s', rfl, k2, k3, k4, ?_⟩ (by omega)⟩, fun y => ?_⟩) (fun M' k1 k2 _ => ⟨fun y => absurd rfl y, fun _ => ?_⟩)
    · rw [k1] at er'
      rw [show (401 - (i + 1)).toNat = g from by omega]; exact er'
    · have := rk_bd (fun a => s'.1 a ≠ -1) (C c 0).toNat
      have := k4.2.2
      omega
    · rw [k1] at er'
      have er'' : (0 : Int) = lk_run C c d 401 0 (lk_0 a b) := er'
      rw [er'']; exact hq M' k2
