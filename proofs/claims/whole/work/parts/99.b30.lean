/-! rings: the search, the class -/
theorem ux_f (M : MM) (k : Nat) (i v : Int) : ux_ M k i v k = upD (M k) i v := funext fun x => by
  by_cases e : x = i
  · rw [e, ux_s, upD_s]
  · rw [ux_i _ _ _ e, upD_o _ _ _ _ e]
theorem ux_g (M : MM) {k k' : Nat} (i v : Int) (h : k' ≠ k) : ux_ M k i v k' = M k' := funext fun x => ux_c _ _ _ _ h
theorem p_nextLink {Q : Int → MM → Prop} {C R0 M : MM} {c : Nat} {t : Int} (hY : Rty C R0) (hw : PW C c) (fb : ∀ k, c ≤ k → k ≤ c + 12 → M k = C k) (t0 : 0 ≤ t) (t1 : t < C c 0) (h0 : C (c + 4) t ≤ M (c + 31) t) (h1 : M (c + 31) t ≤ C (c + 4) (t + 1)) (q1 : ∀ M', (∀ k, k ≠ c + 31 → M' k = M k) → (∀ i, i ≠ t → M' (c + 31) i = M (c + 31) i) → M' (c + 31) t = C (c + 4) (t + 1) → (∀ k, 0 ≤ k → k < pcn C c t → M (c + 31) t ≤ C (c + 4) t + k → lv C c t k = -1) → Q (-1) M') (q2 : ∀ M' j, (∀ k, k ≠ c + 31 → M' k = M k) → (∀ i, i ≠ t → M' (c + 31) i = M (c + 31) i) → 0 ≤ j → j < pcn C c t → M (c + 31) t ≤ C (c + 4) t + j → M' (c + 31) t = C (c + 4) t + j + 1 → 0 ≤ lv C c t j → lv C c t j < C c 0 → (∀ k, 0 ≤ k → k < j → M (c + 31) t ≤ C (c + 4) t + k → lv C c t k = -1) → Q (lv C c t j) M') : w_X8_nextLink (c + 18) c Q t M := by
  have n4 := hw.2.1
  have hpc := pw_bd hY hw t0 t1
  have ht1 := (hw.2.2.2.1 t t0 t1).2.2.2.2.2.2.1
  have hf := pw_f hY hw t0 (by omega)
  have hf2 := pw_f hY hw (t := t + 1) (by omega) (by omega)
  have hmx := hw.2.2.2.2.1
  unfold w_X8_nextLink w_X8_nextLink_b0
  refine loop2 _ (fun (x : Int) M1 => t = x ∧ (∀ k, k ≠ c + 31 → M1 k = M k) ∧ (∀ i, i ≠ t → M1 (c + 31) i = M (c + 31) i) ∧ M (c + 31) t ≤ M1 (c + 31) t ∧ M1 (c + 31) t ≤ C (c + 4) (t + 1) ∧ ∀ k, 0 ≤ k → C (c + 4) t + k < M1 (c + 31) t → M (c + 31) t ≤ C (c + 4) t + k → lv C c t k = -1) (fun _ M1 => (C (c + 4) (t + 1) - M1 (c + 31) t).toNat) ?_ _ _ ⟨rfl, fun _ _ => rfl, fun _ _ => rfl, Int.le_refl _, h1, fun k a b d => by omega⟩
  rintro x M1 f ⟨rfl, f1, f2, l1, l2, l3⟩ ih
  have fb1 : ∀ k, c ≤ k → k ≤ c + 12 → M1 k = C k := fun k a b => by rw [f1 k (by omega), fb k a b]
  unfold wb_X8_nextLink_b0
  refine ⟨t0, by omega, fun v1 g1 _ => ⟨by unfold ri_; omega, by omega, by omega, fun v3 g3 _ => ?_⟩⟩
  have g1' : v1 = M1 (c + 31) t := g1
  rw [fb1 (c + 4) (by omega) (by omega)] at g3
  refine ⟨fun z => q1 M1 f1 f2 (by omega) fun k a b d => l3 k a (by omega) d, fun z => ⟨t0, by omega, fun v5 g5 _ => ⟨t0, by omega, fun v6 g6 _ => ?_⟩⟩⟩
  have g5' : v5 = M1 (c + 31) t := g5
  have g6' : v6 = M1 (c + 31) t := g6
  refine ⟨by unfold ri_; omega, t0, by omega, fun M8 e8 => ⟨by omega, by omega, fun v9 g9 _ => ?_⟩⟩
  have f8 : ∀ k, k ≠ c + 31 → M8 k = M1 k := fun k hk => by rw [e8, ux_g _ _ _ (by omega)]
  have f8i : ∀ i, i ≠ t → M8 (c + 31) i = M1 (c + 31) i := fun i hi => by rw [e8, show c + 18 + 13 = c + 31 from by omega, ux_i _ _ _ hi]
  have f8t : M8 (c + 31) t = v6 + 1 := by rw [e8, show c + 18 + 13 = c + 31 from by omega, ux_s]
  rw [f8 (c + 10) (by omega), fb1 (c + 10) (by omega) (by omega)] at g9
  have k0 : 0 ≤ v5 - C (c + 4) t := by omega
  have k1 : v5 - C (c + 4) t < pcn C c t := by omega
  have hlv := (pw_lv hw t0 t1 k0 k1).1
  have elv : lv C c t (v5 - C (c + 4) t) = if C (c + 10) v5 = 0 then -1 else C (c + 9) v5 := by
    unfold lv
    rw [show C (c + 4) t + (v5 - C (c + 4) t) = v5 from by omega]
  have none : lv C c t (v5 - C (c + 4) t) = -1 → w_X8_nextLink_b64 (c + 18) c Q f t M8 := fun e => by
    unfold w_X8_nextLink_b64
    refine ih _ _ ⟨rfl, fun k hk => by rw [f8 k hk, f1 k hk], fun i hi => by rw [f8i i hi, f2 i hi], by omega, by omega, fun k a b d => ?_⟩ (by omega)
    by_cases y : C (c + 4) t + k < M1 (c + 31) t
    · exact l3 k a y d
    · rw [show k = v5 - C (c + 4) t from by omega]; exact e
  refine ⟨fun z9 => none (by rw [elv, if_pos (by rw [← g9]; exact z9)]), fun z9 => ⟨by omega, by omega, fun v11 g11 _ => ?_⟩⟩
  rw [f8 (c + 9) (by omega), fb1 (c + 9) (by omega) (by omega)] at g11
  rw [if_neg (by rw [← g9]; exact z9), ← g11] at elv
  refine ⟨fun z11 => none (by rw [elv]; exact z11), fun z11 => ⟨by omega, by omega, fun v13 g13 _ => ?_⟩⟩
  rw [f8 (c + 9) (by omega), fb1 (c + 9) (by omega) (by omega), ← g11] at g13
  subst g13
  rw [elv] at hlv
  refine ⟨by unfold ri_; omega, ?_⟩
  have := q2 M8 (v5 - C (c + 4) t) (fun k hk => by rw [f8 k hk, f1 k hk]) (fun i hi => by rw [f8i i hi, f2 i hi]) k0 k1 (by omega) (by omega) (by omega) (by omega) (fun k a b d => l3 k a (by omega) d)
  rw [elv] at this
  exact this
theorem p_closeRing {Q : Int → MM → Prop} {M : MM} {c : Nat} {t tp i0 : Int} (hi : 0 ≤ i0) (hi1 : i0 < tp) (ht : tp ≤ 400) (hs : ∀ i, 0 ≤ i → i < tp → 0 ≤ M (c + 29) i ∧ M (c + 29) i < 400) (he : M (c + 29) i0 = t) (hne : ∀ i, i0 < i → i < tp → M (c + 29) i ≠ t) (hq : ∀ M', (∀ k, k ≠ c + 25 → M' k = M k) → (∀ u, ((∃ k, i0 ≤ k ∧ k < tp ∧ M (c + 29) k = u) → M' (c + 25) u = t) ∧ ((¬ ∃ k, i0 ≤ k ∧ k < tp ∧ M (c + 29) k = u) → M' (c + 25) u = M (c + 25) u)) → Q i0 M') : w_X8_closeRing (c + 18) Q t tp M := by
  unfold w_X8_closeRing
  refine ⟨by unfold ri_; omega, ?_⟩
  refine loop3 _ (fun (x k : Int) M1 => t = x ∧ i0 ≤ k ∧ k < tp ∧ (∀ j, j ≠ c + 25 → M1 j = M j) ∧ ∀ u, ((∃ j, k < j ∧ j < tp ∧ M (c + 29) j = u) → M1 (c + 25) u = t) ∧ ((¬ ∃ j, k < j ∧ j < tp ∧ M (c + 29) j = u) → M1 (c + 25) u = M (c + 25) u)) (fun (_ k : Int) _ => (k + 1).toNat) ?_ _ _ _ ⟨rfl, by omega, by omega, fun _ _ => rfl, fun u => ⟨fun ⟨j, a, b, _⟩ => by omega, fun _ => rfl⟩⟩
  rintro x k M1 f ⟨rfl, k0, k1, f1, f2⟩ ih
  have hsk := hs k (by omega) k1
  unfold wb_X8_closeRing_b4
  refine ⟨fun z => by omega, fun z => ⟨by omega, by omega, fun v2 g2 _ => ?_⟩⟩
  rw [show c + 18 + 11 = c + 29 from by omega, f1 (c + 29) (by omega)] at g2
  refine ⟨by omega, by omega, fun M3 e3 => ⟨by omega, by omega, fun v4 g4 _ => ?_⟩⟩
  have f3 : ∀ j, j ≠ c + 25 → M3 j = M j := fun j hj => by rw [e3, ux_g _ _ _ (by omega), f1 j hj]
  have f3u : ∀ u, M3 (c + 25) u = if u = v2 then t else M1 (c + 25) u := fun u => by
    rw [e3, show c + 18 + 7 = c + 25 from by omega]
    by_cases y : u = v2
    · rw [if_pos y, y, ux_s]
    · rw [if_neg y, ux_i _ _ _ y]
  rw [show c + 18 + 11 = c + 29 from by omega, f3 (c + 29) (by omega), ← g2] at g4
  have st : ∀ u, ((∃ j, k ≤ j ∧ j < tp ∧ M (c + 29) j = u) → M3 (c + 25) u = t) ∧ ((¬ ∃ j, k ≤ j ∧ j < tp ∧ M (c + 29) j = u) → M3 (c + 25) u = M (c + 25) u) := by
    intro u
    rw [f3u]
    by_cases y : u = v2
    · rw [if_pos y]
      exact ⟨fun _ => rfl, fun q => absurd ⟨k, Int.le_refl _, k1, by rw [y, g2]⟩ q⟩
    · rw [if_neg y]
      refine ⟨fun ⟨j, a, b, d⟩ => (f2 u).1 ⟨j, ?_, b, d⟩, fun q => (f2 u).2 fun ⟨j, a, b, d⟩ => q ⟨j, by omega, b, d⟩⟩
      by_cases e : j = k
      · rw [e, ← g2] at d; exact absurd d.symm y
      · omega
  rw [g4]
  refine ⟨fun ne => ⟨by unfold ri_; omega, ih _ _ _ ⟨rfl, ?_, by omega, f3, ?_⟩ (by omega)⟩, fun e => ?_⟩
  · have : k ≠ i0 := fun q => ne (by rw [g2, q, he])
    omega
  · intro u
    have := st u
    refine ⟨fun ⟨j, a, b, d⟩ => this.1 ⟨j, by omega, b, d⟩, fun q => this.2 fun ⟨j, a, b, d⟩ => q ⟨j, by omega, b, d⟩⟩
  · have ek : k = i0 := by
      by_cases y : k = i0
      · exact y
      · exact absurd (by rw [← g2]; exact e) (hne k (by omega) k1)
    rw [ek] at st ⊢
    exact hq M3 f3 st
/-- the edges that were followed -/
def Pm (C : MM) (c : Nat) (M : MM) (u v : Int) : Prop := 0 ≤ u ∧ u < C c 0 ∧ 0 ≤ v ∧ ∃ k, 0 ≤ k ∧ k < pcn C c u ∧ C (c + 4) u + k < M (c + 31) u ∧ lv C c u k = v
def TM (C : MM) (c : Nat) (M : MM) (dp tp now : Int) : Prop := TJ C c (M (c + 27)) (M (c + 28)) (M (c + 25)) (M (c + 30)) (M (c + 29)) dp tp now (Pm C c M)
def cuB (C : MM) (c : Nat) (M : MM) : Prop := ∀ t, 0 ≤ t → t < C c 0 → C (c + 4) t ≤ M (c + 31) t ∧ M (c + 31) t ≤ C (c + 4) (t + 1)
def smC (C : MM) (c : Nat) (M : MM) : Int := sumN (fun t => C (c + 4) (t + 1) - M (c + 31) t) (C c 0).toNat
theorem sum_u {f g : Int → Int} (t : Int) (n : Nat) (h : ∀ x, x ≠ t → f x = g x) : sumN f n = sumN g n + (if 0 ≤ t ∧ t < n then f t - g t else 0) := by
  induction n with
  | zero => rw [if_neg (by omega)]; rfl
  | succ n ih =>
    show sumN f n + f n = sumN g n + g n + _
    by_cases e : t = n
    · rw [if_neg (by omega)] at ih
      rw [if_pos (by omega), ← e]; omega
    · have := h n (fun q => e q.symm)
      by_cases y : 0 ≤ t ∧ t < n
      · rw [if_pos y] at ih
        rw [if_pos (by omega)]; omega
      · rw [if_neg y] at ih
        rw [if_neg (by omega)]; omega
theorem smC_u {C M M' : MM} {c : Nat} {t : Int} (t0 : 0 ≤ t) (t1 : t < C c 0) (h : ∀ i, i ≠ t → M' (c + 31) i = M (c + 31) i) : smC C c M' = smC C c M + (M (c + 31) t - M' (c + 31) t) := by
  unfold smC
  rw [sum_u (f := fun t => C (c + 4) (t + 1) - M' (c + 31) t) (g := fun t => C (c + 4) (t + 1) - M (c + 31) t) t _ (fun x hx => by show _ = _; rw [h x hx]), if_pos (by omega)]
  omega
theorem smC_0 {C M : MM} {c : Nat} (n : Nat) (h : ∀ t : Int, 0 ≤ t → t < n → M (c + 31) t ≤ C (c + 4) (t + 1)) : 0 ≤ sumN (fun t => C (c + 4) (t + 1) - M (c + 31) t) n := by
  induction n with
  | zero => exact Int.le_refl _
  | succ n ih =>
    have := ih fun t a b => h t a (by omega)
    have := h n (by omega) (by omega)
    show 0 ≤ sumN (fun t => C (c + 4) (t + 1) - M (c + 31) t) n + (C (c + 4) (n + 1) - M (c + 31) n)
    omega
theorem smC_4 {C M : MM} {c : Nat} (n : Nat) (h : ∀ t : Int, 0 ≤ t → t < n → C (c + 4) t ≤ M (c + 31) t) : sumN (fun t => C (c + 4) (t + 1) - M (c + 31) t) n ≤ C (c + 4) n - C (c + 4) 0 := by
  induction n with
  | zero => show (0 : Int) ≤ C (c + 4) 0 - C (c + 4) 0; omega
  | succ n ih =>
    have := ih fun t a b => h t a (by omega)
    have := h n (by omega) (by omega)
    show sumN (fun t => C (c + 4) (t + 1) - M (c + 31) t) n + (C (c + 4) (n + 1) - M (c + 31) n) ≤ C (c + 4) ((n + 1 : Nat) : Int) - C (c + 4) 0
    rw [show ((n + 1 : Nat) : Int) = (n : Int) + 1 from by omega]
    omega
/-- cells of the search -/
def tC (c k : Nat) : Prop := k = c + 25 ∨ k = c + 27 ∨ k = c + 28 ∨ k = c + 29 ∨ k = c + 30 ∨ k = c + 31
theorem FG_u {C M : MM} {c : Nat} {b : Int} {S : Nat → Prop} (h : FG C M c b S) {k : Nat} (hk : S k) (hk2 : k ≠ c + 18) (i v : Int) : FG C (ux_ M k i v) c b S := ⟨fun q a d => by rw [ux_g _ _ _ (fun e => d (by rw [e]; exact hk)), h.1 q a d], fun j hj => by rw [ux_c _ _ _ _ (fun e => hk2 e.symm), h.2.1 j hj], by rw [ux_c _ _ _ _ (fun e => hk2 e.symm), h.2.2]⟩
theorem FG_k {C M M' : MM} {c : Nat} {b : Int} {S : Nat → Prop} (h : FG C M c b S) {k : Nat} (hk : S k) (hk2 : k ≠ c + 18) (e : ∀ q, q ≠ k → M' q = M q) : FG C M' c b S := ⟨fun q a d => by rw [e q (fun e => d (by rw [e]; exact hk)), h.1 q a d], fun j hj => by rw [e _ (fun e => hk2 e.symm), h.2.1 j hj], by rw [e _ (fun e => hk2 e.symm), h.2.2]⟩
set_option maxHeartbeats 1000000 in
theorem p_explore {Q : Int → MM → Prop} {C R0 M : MM} {c : Nat} {t now : Int} (hY : Rty C R0) (hw : PW C c) (hF : FG C M c 4 (tC c)) (t0 : 0 ≤ t) (t1 : t < C c 0) (hT : TM C c M 0 0 now) (hcu : cuB C c M) (ho : M (c + 27) t = -1) (hq : ∀ M' now', FG C M' c 4 (tC c) → TM C c M' 0 0 now' → cuB C c M' → M' (c + 27) t ≠ -1 → (∀ x, 0 ≤ x → x < C c 0 → M (c + 27) x ≠ -1 → M' (c + 27) x ≠ -1) → Q now' M') : w_X8_explore (c + 18) c Q t now M := by
  have n0 := hw.1
  have n4 := hw.2.1
  have hmx := hw.2.2.2.2.1
  have hz := hw.2.2.1
  have nn : (((C c 0).toNat : Nat) : Int) = C c 0 := by omega
  have fbs : ∀ M1, FG C M1 c 4 (tC c) → ∀ k, c ≤ k → k ≤ c + 12 → M1 k = C k := fun M1 h k a b => h.1 k (by omega) (by unfold tC; omega)
  have hnow : ∀ M1 dp tp now1, TM C c M1 dp tp now1 → 0 ≤ now1 ∧ now1 ≤ C c 0 ∧ (∀ v, 0 ≤ v → v < C c 0 → M1 (c + 27) v = -1 → now1 < C c 0) := by
    intro M1 dp tp now1 h
    have q := rk_bd (fun t => M1 (c + 27) t ≠ -1) (C c 0).toNat
    have e := h.nw
    refine ⟨by omega, by omega, fun v v0 v1 hv => ?_⟩
    have u := rk_up (P := fun t => M1 (c + 27) t ≠ -1) (P' := fun t => M1 (c + 27) t ≠ -1 ∨ t = v) v (C c 0).toNat v0 (by omega) (fun q => q hv) (fun _ => Iff.rfl)
    have q2 := rk_bd (fun t => M1 (c + 27) t ≠ -1 ∨ t = v) (C c 0).toNat
    omega
  have hnt := hnow _ _ _ _ hT
  unfold w_X8_explore w_X8_enter
  refine ⟨t0, by omega, fun M1 e1 => ⟨t0, by omega, fun M2 e2 => ⟨by unfold ri_; omega, fun _ M3 e3 M4 e4 => ?_⟩⟩⟩
  have E4 : TM C c M4 (0 + 1) (0 + 1) (now + 1) := by
    have hE := TJ_enter (Pd' := Pm C c M) hw hT t0 t1 ho (fun q => by omega) (fun u w => ⟨Or.inl, fun q => by rcases q with q | q; exact q; omega⟩)
    have y27 : M4 (c + 27) = upD (M (c + 27)) t now := by rw [e4, ux_g _ _ _ (by omega), e3, ux_g _ _ _ (by omega), e2, ux_g _ _ _ (by omega), e1, show c + 18 + 9 = c + 27 from by omega, ux_f]
    have y28 : M4 (c + 28) = upD (M (c + 28)) t now := by rw [e4, ux_g _ _ _ (by omega), e3, ux_g _ _ _ (by omega), e2, show c + 18 + 10 = c + 28 from by omega, ux_f, e1, ux_g _ _ _ (by omega)]
    have y25 : M4 (c + 25) = M (c + 25) := by rw [e4, ux_g _ _ _ (by omega), e3, ux_g _ _ _ (by omega), e2, ux_g _ _ _ (by omega), e1, ux_g _ _ _ (by omega)]
    have y31 : M4 (c + 31) = M (c + 31) := by rw [e4, ux_g _ _ _ (by omega), e3, ux_g _ _ _ (by omega), e2, ux_g _ _ _ (by omega), e1, ux_g _ _ _ (by omega)]
    have y30 : M4 (c + 30) = upD (M (c + 30)) 0 t := by rw [e4, ux_g _ _ _ (by omega), e3, show c + 18 + 12 = c + 30 from by omega, ux_f, e2, ux_g _ _ _ (by omega), e1, ux_g _ _ _ (by omega)]
    have y29 : M4 (c + 29) = upD (M (c + 29)) 0 t := by rw [e4, show c + 18 + 11 = c + 29 from by omega, ux_f, e3, ux_g _ _ _ (by omega), e2, ux_g _ _ _ (by omega), e1, ux_g _ _ _ (by omega)]
    unfold TM
    rw [y27, y28, y25, y30, y29]
    have : Pm C c M4 = Pm C c M := by funext u v; unfold Pm; rw [y31]
    rw [this]
    exact hE
  have F4 : FG C M4 c 4 (tC c) := by
    rw [e4]
    refine FG_u ?_ (by unfold tC; omega) (by omega) _ _
    rw [e3]
    refine FG_u ?_ (by unfold tC; omega) (by omega) _ _
    rw [e2]
    refine FG_u ?_ (by unfold tC; omega) (by omega) _ _
    rw [e1]
    exact FG_u hF (by unfold tC; omega) (by omega) _ _
  have y31 : M4 (c + 31) = M (c + 31) := by rw [e4, ux_g _ _ _ (by omega), e3, ux_g _ _ _ (by omega), e2, ux_g _ _ _ (by omega), e1, ux_g _ _ _ (by omega)]
  have o4 : ∀ x, M4 (c + 27) x = upD (M (c + 27)) t now x := fun x => by rw [e4, ux_g _ _ _ (by omega), e3, ux_g _ _ _ (by omega), e2, ux_g _ _ _ (by omega), e1, show c + 18 + 9 = c + 27 from by omega, ux_f]
  have cu4 : cuB C c M4 := fun x a b => by rw [y31]; exact hcu x a b
  have smb : ∀ M1, cuB C c M1 → 0 ≤ smC C c M1 ∧ smC C c M1 ≤ 4000 := fun M1 h => by
    have a := smC_0 (C := C) (M := M1) (c := c) (C c 0).toNat (fun t a b => (h t a (by omega)).2)
    have b := smC_4 (C := C) (M := M1) (c := c) (C c 0).toNat (fun t a b => (h t a (by omega)).1)
    rw [nn, hz] at b
    unfold smC
    omega
  refine loop5 _ (fun (nw dp tp st : Int) M5 => FG C M5 c 4 (tC c) ∧ TM C c M5 dp tp nw ∧ cuB C c M5 ∧ 0 ≤ st ∧ st + smC C c M5 + dp + (C c 0 - nw) ≤ 4500 ∧ M5 (c + 27) t ≠ -1 ∧ (∀ x, 0 ≤ x → x < C c 0 → M (c + 27) x ≠ -1 → M5 (c + 27) x ≠ -1)) (fun (nw dp tp st : Int) _ => (1000000 - st).toNat) ?_ _ _ _ _ _ ⟨F4, E4, cu4, by omega, by have := smb M4 cu4; omega, by rw [o4, upD_s]; omega, fun x a b hx => by
    rw [o4]
    by_cases y : x = t
    · rw [y, upD_s]; omega
    · rw [upD_o _ _ _ _ y]; exact hx⟩
  rintro nw dp tp st M5 f ⟨F5, T5, cu5, st0, pot, hm1, hm2⟩ ih
  have sb := smb M5 cu5
  obtain ⟨w0, w1, w2⟩ := hnow _ _ _ _ T5
  obtain ⟨b1, b2, b3, b4⟩ := T5.b0
  have fb := fbs M5 F5
  unfold wb_X8_explore_b31
  refine ⟨fun z => by omega, fun z => ⟨fun z1 => ?_, fun z1 => ⟨by unfold ri_; omega, by omega, by omega, fun v4 g4 _ => ?_⟩⟩⟩
  · have e : dp = 0 := by omega
    subst e
    exact hq M5 nw F5 (TJ_0 T5) cu5 hm1 hm2
  · have g4' : v4 = M5 (c + 30) (dp - 1) := g4
    have pt := T5.p1 (dp - 1) (by omega) (by omega)
    rw [← g4'] at pt
    obtain ⟨p0, p1, p2, p3⟩ := pt
    obtain ⟨cu1, cu2⟩ := cu5 v4 p0 p1
    have hpc := pw_bd hY hw p0 p1
    have ht1 := (hw.2.2.2.1 v4 p0 p1).2.2.2.2.2.2.1
    refine p_nextLink hY hw fb p0 p1 cu1 cu2 (fun M6 k1 k2 k3 k4 => ?_) (fun M6 j k1 k2 j0 j1 j2 k3 l0 l1 k4 => ?_)
    · -- nothing more: it is left
      refine fun _ => ⟨fun q => absurd rfl q, fun _ => ⟨by unfold ri_; omega, ?_⟩⟩
      have F6 : FG C M6 c 4 (tC c) := FG_k F5 (k := c + 31) (by unfold tC; omega) (by omega) k1
      have cu6 : cuB C c M6 := fun x a b => by
        by_cases y : x = v4
        · rw [y, k3]; omega
        · rw [k2 x y]; exact cu5 x a b
      have s6 := smC_u (C := C) (M := M5) (M' := M6) p0 p1 k2
      have eP : Pm C c M6 = Pm C c M5 := by
        funext u v
        apply propext
        unfold Pm
        by_cases y : u = v4
        · rw [y, k3]
          constructor
          · rintro ⟨a1, a2, a3, k, a4, a5, a6, a7⟩
            refine ⟨a1, a2, a3, k, a4, a5, ?_, a7⟩
            by_cases y2 : C (c + 4) v4 + k < M5 (c + 31) v4
            · exact y2
            · have := k4 k a4 a5 (by omega); omega
          · rintro ⟨a1, a2, a3, k, a4, a5, a6, a7⟩
            exact ⟨a1, a2, a3, k, a4, a5, by omega, a7⟩
        · rw [k2 u y]
      have T6 : TJ C c (M6 (c + 27)) (M6 (c + 28)) (M6 (c + 25)) (M6 (c + 30)) (M6 (c + 29)) dp tp nw (Pm C c M6) := by
        rw [eP, k1 (c + 27) (by omega), k1 (c + 28) (by omega), k1 (c + 25) (by omega), k1 (c + 30) (by omega), k1 (c + 29) (by omega)]
        exact T5
      have v46 : v4 = M6 (c + 30) (dp - 1) := by rw [k1 (c + 30) (by omega)]; exact g4'
      have hall : ∀ v, pE C c (M6 (c + 30) (dp - 1)) v → Pm C c M6 (M6 (c + 30) (dp - 1)) v := by
        rw [← v46]
        rintro v ⟨a1, a2, a3, k, a4, a5, a6⟩
        exact ⟨a1, a2, a3, k, a4, a5, by rw [k3]; omega, a6⟩
      -- behind the parent's low
      have pop : ∀ M7, (∀ k, k ≠ c + 28 → M7 k = M6 k) → (∀ x, ¬ (1 < dp ∧ x = M6 (c + 30) (dp - 2)) → M7 (c + 28) x = M6 (c + 28) x) → (1 < dp → M7 (c + 28) (M6 (c + 30) (dp - 2)) = min (M6 (c + 28) (M6 (c + 30) (dp - 2))) (M6 (c + 28) (M6 (c + 30) (dp - 1)))) → w_X8_explore_b115 (c + 18) c Q f nw (dp + (-1)) tp st v4 M7 := by
        intro M7 q1 q2 q3
        have F7 : FG C M7 c 4 (tC c) := FG_k F6 (k := c + 28) (by unfold tC; omega) (by omega) q1
        have cu7 : cuB C c M7 := fun x a b => by rw [q1 (c + 31) (by omega)]; exact cu6 x a b
        have s7 : smC C c M7 = smC C c M6 := by unfold smC; rw [q1 (c + 31) (by omega)]
        have eP7 : Pm C c M7 = Pm C c M6 := by funext u v; unfold Pm; rw [q1 (c + 31) (by omega)]
        have lo7 : M7 (c + 28) v4 = M6 (c + 28) v4 := q2 v4 fun y => by
          have := T6.p3 (dp - 2) (dp - 1) (by omega) (by omega) (by omega)
          rw [← y.2, ← v46] at this; omega
        have o7 : ∀ x, M7 (c + 27) x = M5 (c + 27) x := fun x => by rw [q1 (c + 27) (by omega), k1 (c + 27) (by omega)]
        unfold w_X8_explore_b115
        refine ⟨p0, by omega, fun v1 g1 _ => ⟨p0, by omega, fun v2 g2 _ => ?_⟩⟩
        have g1' : v1 = M6 (c + 28) (M6 (c + 30) (dp - 1)) := by rw [← v46, ← lo7]; exact g1
        have g2' : v2 = M6 (c + 27) (M6 (c + 30) (dp - 1)) := by rw [← v46, ← q1 (c + 27) (by omega)]; exact g2
        have lb := T6.lb (M6 (c + 30) (dp - 1)) (by rw [← v46]; exact p0) (by rw [← v46]; exact p1) (by rw [← v46, k1 (c + 27) (by omega)]; exact p2) (by rw [← v46, k1 (c + 25) (by omega)]; exact p3)
        refine ⟨fun ne => ?_, fun eq => ?_⟩
        · have T7 := TJ_pop hw T6 (by omega) hall q2 q3 (by omega)
          unfold w_X8_explore_b228
          refine ⟨by unfold ri_; omega, ih _ _ _ _ _ ⟨F7, ?_, cu7, by omega, by omega, by rw [o7]; exact hm1, fun x a b hx => by rw [o7]; exact hm2 x a b hx⟩ (by omega)⟩
          unfold TM
          rw [eP7, q1 (c + 27) (by omega), q1 (c + 25) (by omega), q1 (c + 30) (by omega), q1 (c + 29) (by omega)]
          exact T7
        · -- closed
          have pt6 := T6.p1 (dp - 1) (by omega) (by omega)
          obtain ⟨i0, a0, a1, a2⟩ := T6.s2 _ pt6.1 pt6.2.1 pt6.2.2.1 pt6.2.2.2
          have e29 : M7 (c + 29) = M6 (c + 29) := q1 (c + 29) (by omega)
          refine p_closeRing a0 a1 (by omega) (fun i x y => by rw [e29]; have := T6.s1 i x y; omega) (by rw [e29, a2, v46]) (fun i x y e => ?_) (fun M8 r1 r2 => ?_)
          · rw [e29, v46] at e
            have := T6.s3 i0 i a0 x y
            rw [a2, e] at this; omega
          · have F8 : FG C M8 c 4 (tC c) := FG_k F7 (k := c + 25) (by unfold tC; omega) (by omega) r1
            have o8 : ∀ x, M8 (c + 27) x = M5 (c + 27) x := fun x => by rw [r1 (c + 27) (by omega)]; exact o7 x
            have T8 := TJ_close (rg' := M8 (c + 25)) (tp' := i0) hw T6 (by omega) hall q2 q3 (by omega) a0 a1 a2 (fun u u0 u1 => by
              obtain ⟨y1, y2⟩ := r2 u
              rw [e29, q1 (c + 25) (by omega), v46] at *
              constructor
              · rintro ⟨x1, x2, x3⟩
                obtain ⟨i, z0, z1, z2⟩ := T6.s2 u u0 u1 x1 x2
                refine y1 ⟨i, ?_, z1, z2⟩
                by_cases y : i < i0
                · have := T6.s3 i i0 z0 y a1
                  rw [z2, a2] at this; omega
                · omega
              · intro x
                refine y2 fun ⟨i, z0, z1, z2⟩ => x ?_
                have s1 := T6.s1 i (by omega) z1
                rw [z2] at s1
                refine ⟨s1.2.2.1, s1.2.2.2, ?_⟩
                by_cases y : i = i0
                · rw [← z2, y, a2]; exact Int.le_refl _
                · have := T6.s3 i0 i a0 (by omega) z1
                  rw [z2, a2] at this; omega)
            unfold w_X8_explore_b228
            refine fun _ => ⟨by unfold ri_; omega, ih _ _ _ _ _ ⟨F8, ?_, fun x a b => by rw [r1 (c + 31) (by omega)]; exact cu7 x a b, by omega, by rw [show smC C c M8 = smC C c M7 from by unfold smC; rw [r1 (c + 31) (by omega)]]; omega, by rw [o8]; exact hm1, fun x a b hx => by rw [o8]; exact hm2 x a b hx⟩ (by omega)⟩
            unfold TM
            rw [show Pm C c M8 = Pm C c M6 from by rw [← eP7]; funext u v; unfold Pm; rw [r1 (c + 31) (by omega)], r1 (c + 27) (by omega), r1 (c + 28) (by omega), r1 (c + 30) (by omega), r1 (c + 29) (by omega), q1 (c + 27) (by omega), q1 (c + 30) (by omega), q1 (c + 29) (by omega)]
            exact T8
      refine ⟨fun z2 => pop M6 (fun _ _ => rfl) (fun _ _ => rfl) (fun q => by omega), fun z2 => ⟨by unfold ri_; omega, by omega, by omega, fun v24 g24 _ => ⟨by unfold ri_; omega, by omega, by omega, fun v26 g26 _ => ?_⟩⟩⟩
      have g24' : v24 = M6 (c + 30) (dp - 2) := by rw [show dp - 2 = dp + (-1) - 1 from by omega]; exact g24
      have g26' : v26 = M6 (c + 30) (dp - 2) := by rw [show dp - 2 = dp + (-1) - 1 from by omega]; exact g26
      have pp := T6.p1 (dp - 2) (by omega) (by omega)
      rw [← g24'] at pp
      refine ⟨by omega, by omega, fun v27 g27 _ => ⟨p0, by omega, fun v28 g28 _ => ⟨by omega, by omega, fun M29 e29 => ?_⟩⟩⟩
      rw [show c + 18 + 10 = c + 28 from by omega] at e29 g27 g28
      refine pop M29 (fun k hk => by rw [e29, ux_g _ _ _ (by omega)]) (fun x hx => ?_) (fun q => ?_)
      · rw [e29]
        exact ux_i _ _ _ fun y => hx ⟨by omega, by rw [y, g24']⟩
      · rw [e29, ← g24', ux_s, g27, g28, g26', ← g24', v46]
    · -- a link is followed
      obtain ⟨v, ev⟩ : ∃ v, v = lv C c v4 j := ⟨_, rfl⟩
      rw [← ev] at l0 l1 ⊢
      have F6 : FG C M6 c 4 (tC c) := FG_k F5 (k := c + 31) (by unfold tC; omega) (by omega) k1
      have cu6 : cuB C c M6 := fun x a b => by
        by_cases y : x = v4
        · rw [y, k3]; omega
        · rw [k2 x y]; exact cu5 x a b
      have s6 := smC_u (C := C) (M := M5) (M' := M6) p0 p1 k2
      have hE : pE C c (M5 (c + 30) (dp - 1)) v := by rw [← g4']; exact ⟨p0, p1, l0, j, j0, j1, ev.symm⟩
      have eP : ∀ u w, Pm C c M6 u w ↔ Pm C c M5 u w ∨ (u = M5 (c + 30) (dp - 1) ∧ w = v) := by
        intro u w
        rw [← g4']
        unfold Pm
        by_cases y : u = v4
        · rw [y, k3]
          constructor
          · rintro ⟨a1, a2, a3, k, a4, a5, a6, a7⟩
            by_cases y2 : C (c + 4) v4 + k < M5 (c + 31) v4
            · exact Or.inl ⟨a1, a2, a3, k, a4, a5, y2, a7⟩
            · by_cases y3 : k = j
              · rw [y3, ← ev] at a7; exact Or.inr ⟨rfl, a7.symm⟩
              · have := k4 k a4 (by omega) (by omega); omega
          · rintro (⟨a1, a2, a3, k, a4, a5, a6, a7⟩ | ⟨-, q⟩)
            · exact ⟨a1, a2, a3, k, a4, a5, by omega, a7⟩
            · rw [q]; exact ⟨p0, p1, l0, j, j0, j1, by omega, ev.symm⟩
        · rw [k2 u y]
          exact ⟨Or.inl, fun q => by rcases q with q | q; exact q; exact absurd q.1 y⟩
      have o6 : ∀ x, M6 (c + 27) x = M5 (c + 27) x := fun x => by rw [k1 (c + 27) (by omega)]
      refine fun _ => ⟨fun _ => ⟨l0, by omega, fun v8 g8 _ => ⟨fun z8 => ⟨l0, by omega, fun v10 g10 _ => ?_⟩, fun z8 => ?_⟩⟩, fun q => by omega⟩
      · have hov : M5 (c + 27) v ≠ -1 := by rw [← o6]; intro q; exact z8 (by rw [g8]; exact q)
        have g10' : v10 = M5 (c + 25) v := by rw [← k1 (c + 25) (by omega)]; exact g10
        refine ⟨fun z10 => ?_, fun z10 => ⟨p0, by omega, fun v12 g12 _ => ⟨l0, by omega, fun v13 g13 _ => ⟨p0, by omega, fun M14 e14 => ?_⟩⟩⟩⟩
        · have T6 := TJ_edge (lo' := M5 (c + 28)) hw T5 (by omega) hE hov eP (fun _ _ => rfl) (fun _ => rfl) (fun q => absurd (by rw [g10']; exact q) z10)
          unfold w_X8_explore_b228
          refine ⟨by unfold ri_; omega, ih _ _ _ _ _ ⟨F6, ?_, cu6, by omega, by omega, by rw [o6]; exact hm1, fun x a b hx => by rw [o6]; exact hm2 x a b hx⟩ (by omega)⟩
          unfold TM
          rw [k1 (c + 27) (by omega), k1 (c + 28) (by omega), k1 (c + 25) (by omega), k1 (c + 30) (by omega), k1 (c + 29) (by omega)]
          exact T6
        · rw [show c + 18 + 10 = c + 28 from by omega] at e14 g12
          rw [show c + 18 + 9 = c + 27 from by omega] at g13
          rw [k1 (c + 28) (by omega)] at g12
          rw [k1 (c + 27) (by omega)] at g13
          have y28 : M14 (c + 28) = upD (M5 (c + 28)) v4 (min v12 v13) := by rw [e14, ux_f, k1 (c + 28) (by omega)]
          have T6 := TJ_edge (lo' := M14 (c + 28)) hw T5 (by omega) hE hov eP (fun x hx => by rw [y28, upD_o _ _ _ _ (by rw [g4']; exact hx)]) (fun q => absurd (by rw [← g10']; exact z10) q) (fun q => by rw [← g4', y28, upD_s, g12, g13])
          unfold w_X8_explore_b228
          refine ⟨by unfold ri_; omega, ih _ _ _ _ _ ⟨by rw [e14]; exact FG_u F6 (by unfold tC; omega) (by omega) _ _, ?_, fun x a b => by rw [e14, ux_c _ _ _ _ (by omega)]; exact cu6 x a b, by omega, by rw [show smC C c M14 = smC C c M6 from by unfold smC; rw [e14, ux_g _ _ _ (by omega)]]; omega, by rw [e14, ux_c _ _ _ _ (by omega), o6]; exact hm1, fun x a b hx => by rw [e14, ux_c _ _ _ _ (by omega), o6]; exact hm2 x a b hx⟩ (by omega)⟩
          unfold TM
          rw [show Pm C c M14 = Pm C c M6 from by funext u v; unfold Pm; rw [e14, ux_c _ _ _ _ (by omega)], show M14 (c + 27) = M5 (c + 27) from by rw [e14, ux_g _ _ _ (by omega), k1 (c + 27) (by omega)], show M14 (c + 25) = M5 (c + 25) from by rw [e14, ux_g _ _ _ (by omega), k1 (c + 25) (by omega)], show M14 (c + 30) = M5 (c + 30) from by rw [e14, ux_g _ _ _ (by omega), k1 (c + 30) (by omega)], show M14 (c + 29) = M5 (c + 29) from by rw [e14, ux_g _ _ _ (by omega), k1 (c + 29) (by omega)]]
          exact T6
      · have hov : M5 (c + 27) v = -1 := by rw [← o6, ← z8]; exact g8.symm
        have wn := w2 v l0 l1 hov
        have T6 := TJ_enter (Pd' := Pm C c M6) hw T5 l0 l1 hov (fun _ => hE) (fun u w => by
          rw [eP u w]
          exact ⟨fun q => by rcases q with q | q; exact Or.inl q; exact Or.inr ⟨by omega, q⟩, fun q => by rcases q with q | q; exact Or.inl q; exact Or.inr q.2⟩)
        unfold w_X8_enter
        refine ⟨l0, by omega, fun M7 e7 => ⟨l0, by omega, fun M8 e8 => ⟨by unfold ri_; omega, fun _ => ⟨by omega, by omega, fun M17 e17 => ⟨by unfold ri_; omega, by omega, by omega, fun M19 e19 => ⟨by unfold ri_; omega, ?_⟩⟩⟩⟩⟩⟩
        have y27 : M19 (c + 27) = upD (M5 (c + 27)) v nw := by rw [e19, ux_g _ _ _ (by omega), e17, ux_g _ _ _ (by omega), e8, ux_g _ _ _ (by omega), e7, show c + 18 + 9 = c + 27 from by omega, ux_f, k1 (c + 27) (by omega)]
        have y28 : M19 (c + 28) = upD (M5 (c + 28)) v nw := by rw [e19, ux_g _ _ _ (by omega), e17, ux_g _ _ _ (by omega), e8, show c + 18 + 10 = c + 28 from by omega, ux_f, e7, ux_g _ _ _ (by omega), k1 (c + 28) (by omega)]
        have y25 : M19 (c + 25) = M5 (c + 25) := by rw [e19, ux_g _ _ _ (by omega), e17, ux_g _ _ _ (by omega), e8, ux_g _ _ _ (by omega), e7, ux_g _ _ _ (by omega), k1 (c + 25) (by omega)]
        have y31 : M19 (c + 31) = M6 (c + 31) := by rw [e19, ux_g _ _ _ (by omega), e17, ux_g _ _ _ (by omega), e8, ux_g _ _ _ (by omega), e7, ux_g _ _ _ (by omega)]
        have y30 : M19 (c + 30) = upD (M5 (c + 30)) dp v := by rw [e19, ux_g _ _ _ (by omega), e17, show c + 18 + 12 = c + 30 from by omega, ux_f, e8, ux_g _ _ _ (by omega), e7, ux_g _ _ _ (by omega), k1 (c + 30) (by omega)]
        have y29 : M19 (c + 29) = upD (M5 (c + 29)) tp v := by rw [e19, show c + 18 + 11 = c + 29 from by omega, ux_f, e17, ux_g _ _ _ (by omega), e8, ux_g _ _ _ (by omega), e7, ux_g _ _ _ (by omega), k1 (c + 29) (by omega)]
        have o19 : ∀ x, M5 (c + 27) x ≠ -1 → M19 (c + 27) x ≠ -1 := fun x hx => by
          rw [y27]
          by_cases y : x = v
          · rw [y, upD_s]; omega
          · rw [upD_o _ _ _ _ y]; exact hx
        have F19 : FG C M19 c 4 (tC c) := by
          rw [e19]
          refine FG_u ?_ (by unfold tC; omega) (by omega) _ _
          rw [e17]
          refine FG_u ?_ (by unfold tC; omega) (by omega) _ _
          rw [e8]
          refine FG_u ?_ (by unfold tC; omega) (by omega) _ _
          rw [e7]
          exact FG_u F6 (by unfold tC; omega) (by omega) _ _
        unfold w_X8_explore_b228
        refine ⟨by unfold ri_; omega, ih _ _ _ _ _ ⟨F19, ?_, fun x a b => by rw [y31]; exact cu6 x a b, by omega, by rw [show smC C c M19 = smC C c M6 from by unfold smC; rw [y31]]; omega, o19 t hm1, fun x a b hx => o19 x (hm2 x a b hx)⟩ (by omega)⟩
        unfold TM
        rw [show Pm C c M19 = Pm C c M6 from by funext u v; unfold Pm; rw [y31], y27, y28, y25, y30, y29]
        exact T6
