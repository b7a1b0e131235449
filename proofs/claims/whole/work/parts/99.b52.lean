/-! the walk of a picture that was read: the class -/
def wS (s : Int × Int) (v : Int) : Int × Int := if s.2 ≠ 0 then s else if v < s.1 then s else if v = s.1 then (s.1 + 1, 0) else (s.1, 1)
def wR (rt : Int → Int) : Nat → Int × Int
  | 0 => (0, 0)
  | r + 1 => wS (wR rt r) (rt r)
def wK (f : Int → Int) (s : Int × Int) : Nat → Int × Int
  | 0 => s
  | k + 1 => wS (wK f s k) (f k)
def wTh (lvf : Int → Int → Int) (cnt : Int → Int) (s0 : Int × Int) : Nat → Int × Int
  | 0 => s0
  | t + 1 => if (wTh lvf cnt s0 t).2 ≠ 0 ∨ (wTh lvf cnt s0 t).1 ≤ t then wTh lvf cnt s0 t else wK (lvf t) (wTh lvf cnt s0 t) (cnt t).toNat
theorem wS_b {s : Int × Int} {v : Int} (h : s.2 ≠ 0) : wS s v = s := if_pos h
theorem wS_1 {s : Int × Int} {v : Int} (h : s.2 = 0) (hv : v < s.1) : wS s v = s := by unfold wS; rw [if_neg (fun q => q h), if_pos hv]
theorem wS_2 {s : Int × Int} {v : Int} (h : s.2 = 0) (hv : v = s.1) : wS s v = (s.1 + 1, 0) := by unfold wS; rw [if_neg (fun q => q h), if_neg (by omega), if_pos hv]
theorem wS_3 {s : Int × Int} {v : Int} (h : s.2 = 0) (hv : s.1 < v) : wS s v = (s.1, 1) := by unfold wS; rw [if_neg (fun q => q h), if_neg (by omega), if_neg (by omega)]
theorem wR_no {rt : Int → Int} {r m : Nat} (h : (wR rt r).2 ≠ 0) (hm : r ≤ m) : wR rt m = wR rt r := by
  induction m with
  | zero => rw [show r = 0 from by omega]
  | succ m ih =>
    by_cases z : r = m + 1
    · rw [z]
    · show wS (wR rt m) _ = _
      rw [ih (by omega), wS_b h]
theorem wK_no {f : Int → Int} {s : Int × Int} {r m : Nat} (h : (wK f s r).2 ≠ 0) (hm : r ≤ m) : wK f s m = wK f s r := by
  induction m with
  | zero => rw [show r = 0 from by omega]
  | succ m ih =>
    by_cases z : r = m + 1
    · rw [z]
    · show wS (wK f s m) _ = _
      rw [ih (by omega), wS_b h]
theorem wTh_no {lvf : Int → Int → Int} {cnt : Int → Int} {s0 : Int × Int} {t m : Nat} (h : (wTh lvf cnt s0 t).2 ≠ 0 ∨ (wTh lvf cnt s0 t).1 ≤ t) (hm : t ≤ m) : wTh lvf cnt s0 m = wTh lvf cnt s0 t := by
  induction m with
  | zero => rw [show t = 0 from by omega]
  | succ m ih =>
    by_cases z : t = m + 1
    · rw [z]
    · have e := ih (by omega)
      show (if (wTh lvf cnt s0 m).2 ≠ 0 ∨ (wTh lvf cnt s0 m).1 ≤ m then wTh lvf cnt s0 m else _) = _
      rw [e, if_pos (by omega)]
/-- a picture before its ways are known -/
def PR (C : MM) (c : Nat) : Prop := 0 ≤ C c 0 ∧ C c 0 ≤ 400 ∧ C (c + 4) 0 = 0 ∧ (∀ t, 0 ≤ t → t < C c 0 → C (c + 4) (t + 1) = C (c + 4) t + pcn C c t ∧ 0 ≤ pcn C c t ∧ pcn C c t ≤ 96 ∧ 0 ≤ C (c + 4) t ∧ C (c + 4) (t + 1) ≤ 4000) ∧ (∀ t k, 0 ≤ t → t < C c 0 → 0 ≤ k → k < pcn C c t → (C (c + 10) (C (c + 4) t + k) = 0 ∨ C (c + 10) (C (c + 4) t + k) = 1) ∧ -1 ≤ lv C c t k ∧ lv C c t k < C c 0) ∧ 0 ≤ C c 11 ∧ C c 11 ≤ 108 ∧ (∀ r, 0 ≤ r → r < C c 11 → 0 ≤ C (c + 12) r ∧ C (c + 12) r < C c 0) ∧ (∀ r, 0 ≤ r → r + 1 < C c 11 → C (c + 11) r < C (c + 11) (r + 1))
theorem PR_up {C : MM} {c : Nat} (h : PR C c) {r r' : Int} (r0 : 0 ≤ r) (h1 : r < r') (h2 : r' < C c 11) : C (c + 11) r < C (c + 11) r' := by
  have K : ∀ d : Nat, r + 1 + d < C c 11 → C (c + 11) r < C (c + 11) (r + 1 + d) := by
    intro d
    induction d with
    | zero => intro q; rw [show r + 1 + ((0 : Nat) : Int) = r + 1 from by omega]; exact h.2.2.2.2.2.2.2.2 r r0 (by omega)
    | succ d ih =>
      intro q
      have a := ih (by omega)
      have b := h.2.2.2.2.2.2.2.2 (r + 1 + d) (by omega) (by omega)
      rw [show r + 1 + (((d + 1 : Nat)) : Int) = r + 1 + d + 1 from by omega]
      omega
  have := K (r' - r - 1).toNat (by omega)
  rw [show r + 1 + (((r' - r - 1).toNat : Nat) : Int) = r' from by omega] at this
  exact this
def W5 (C M : MM) (c : Nat) : Prop := ∀ k, k ≠ c + 5 → k ≠ c + 6 → k ≠ c + 7 → M k = C k
/-- a thing that a root is the first to hold -/
def fR (C : MM) (c : Nat) (u s : Int) : Prop := ∃ r, 0 ≤ r ∧ r < C c 11 ∧ C (c + 12) r = u ∧ C (c + 11) r = s ∧ ∀ r', 0 ≤ r' → r' < r → C (c + 12) r' ≠ u
def fK (C : MM) (c : Nat) (u f s : Int) : Prop := 0 ≤ f ∧ f < u ∧ 0 ≤ s ∧ s < pcn C c f ∧ lv C c f s = u ∧ (∀ r, 0 ≤ r → r < C c 11 → C (c + 12) r ≠ u) ∧ ∀ f' s', 0 ≤ f' → (f' < f ∨ (f' = f ∧ s' < s)) → 0 ≤ s' → s' < pcn C c f' → lv C c f' s' ≠ u
/-- ways of the things below x, found before place (t, k) -/
def WY (C M : MM) (c : Nat) (x t k : Int) : Prop := (∀ u, 0 ≤ u → u < x → ((M (c + 6) u = -1 ∧ M (c + 5) u = 0 ∧ fR C c u (M (c + 7) u)) ∨ (fK C c u (M (c + 6) u) (M (c + 7) u) ∧ (M (c + 6) u < t ∨ (M (c + 6) u = t ∧ M (c + 7) u < k)) ∧ M (c + 5) u = M (c + 5) (M (c + 6) u) + 1)) ∧ 0 ≤ M (c + 5) u ∧ M (c + 5) u ≤ u) ∧ ∀ u, 0 ≤ u → u + 1 < x → lx (M (c + 6) u, M (c + 7) u) (M (c + 6) (u + 1), M (c + 7) (u + 1))
theorem p_setWay {Q : Int → MM → Prop} {C M : MM} {c : Nat} {x f s d : Int} (x0 : 0 ≤ x) (x4 : x < 400) (hF : W5 C M c) (hd : (f = -1 ∧ d = 0) ∨ (0 ≤ f ∧ f < x ∧ d = M (c + 5) f + 1 ∧ ri_ d)) (hq : ∀ M', W5 C M' c → M' (c + 6) x = f → M' (c + 7) x = s → M' (c + 5) x = d → (∀ u, u ≠ x → M' (c + 5) u = M (c + 5) u ∧ M' (c + 6) u = M (c + 6) u ∧ M' (c + 7) u = M (c + 7) u) → Q 0 M') : w_X5_setWay c Q x f s M := by
  unfold w_X5_setWay w_X5_setWay_b36
  refine ⟨x0, x4, fun M1 e1 => ⟨x0, x4, fun M2 e2 => ?_⟩⟩
  have done : ∀ M3, M3 = ux_ M2 (c + 5) x d → Q 0 M3 := fun M3 e3 => hq M3 (fun k a b g => by rw [e3, e2, e1]; funext i; rw [ux_c _ _ _ _ a, ux_c _ _ _ _ g, ux_c _ _ _ _ b, hF k a b g]) (by rw [e3, e2, e1, ux_c _ _ _ _ (by omega), ux_c _ _ _ _ (by omega), ux_s]) (by rw [e3, e2, ux_c _ _ _ _ (by omega), ux_s]) (by rw [e3, ux_s]) (fun u hu => ⟨by rw [e3, e2, e1, ux_i _ _ _ hu, ux_c _ _ _ _ (by omega), ux_c _ _ _ _ (by omega)], by rw [e3, e2, e1, ux_c _ _ _ _ (by omega), ux_c _ _ _ _ (by omega), ux_i _ _ _ hu], by rw [e3, e2, e1, ux_c _ _ _ _ (by omega), ux_i _ _ _ hu, ux_c _ _ _ _ (by omega)]⟩)
  refine ⟨fun z => ⟨by omega, by omega, fun v4 e4 _ => ?_⟩, fun z => ⟨x0, x4, fun M3 e3 => done M3 (by rw [e3, show (0 : Int) = d from by omega])⟩⟩
  have : v4 = M (c + 5) f := by rw [e4, e2, e1, ux_c _ _ _ _ (by omega), ux_c _ _ _ _ (by omega)]
  rcases hd with ⟨a, b⟩ | ⟨a, b, g, g'⟩
  · exact absurd a z
  · exact ⟨by rw [this, ← g]; exact g', x0, x4, fun M3 e3 => done M3 (by rw [e3, this, g])⟩
theorem WY_k {C M : MM} {c : Nat} {x t k t' k' : Int} (h : WY C M c x t k) (hl : t < t' ∨ (t = t' ∧ k ≤ k')) : WY C M c x t' k' := by
  refine ⟨fun u a b => ?_, h.2⟩
  obtain ⟨g1, g2⟩ := h.1 u a b
  refine ⟨?_, g2⟩
  rcases g1 with g | ⟨g, g', g''⟩
  · exact Or.inl g
  · exact Or.inr ⟨g, by omega, g''⟩
theorem WY_e {C M : MM} {c : Nat} {x t t' : Int} (h : WY C M c x t 0) (hl : t ≤ t') : WY C M c x t' 0 := by
  by_cases z : t < t'
  · exact WY_k h (Or.inl z)
  · exact WY_k h (Or.inr ⟨by omega, by omega⟩)
theorem WY_new {C M M' : MM} {c : Nat} {x t k f s d : Int} (h : WY C M c x t k) (x0 : 0 ≤ x) (e6 : M' (c + 6) x = f) (e7 : M' (c + 7) x = s) (e5 : M' (c + 5) x = d) (eo : ∀ u, u ≠ x → M' (c + 5) u = M (c + 5) u ∧ M' (c + 6) u = M (c + 6) u ∧ M' (c + 7) u = M (c + 7) u) (hn : (f = -1 ∧ d = 0 ∧ fR C c x s) ∨ (fK C c x f s ∧ (f < t ∨ (f = t ∧ s < k)) ∧ d = M (c + 5) f + 1)) (hd : 0 ≤ d ∧ d ≤ x) (hx : 0 < x → lx (M (c + 6) (x - 1), M (c + 7) (x - 1)) (f, s)) : WY C M' c (x + 1) t k := by
  refine ⟨fun u a b => ?_, fun u a b => ?_⟩
  · by_cases z : u = x
    · rw [z, e6, e7, e5]
      refine ⟨?_, hd⟩
      rcases hn with g | ⟨g, g', g''⟩
      · exact Or.inl g
      · exact Or.inr ⟨g, g', by rw [(eo f (by have := g.2.1; omega)).1]; exact g''⟩
    · obtain ⟨o5, o6, o7⟩ := eo u z
      obtain ⟨g1, g2⟩ := h.1 u a (by omega)
      rw [o5, o6, o7]
      refine ⟨?_, g2⟩
      rcases g1 with g | ⟨g, g', g''⟩
      · exact Or.inl g
      · exact Or.inr ⟨g, g', by rw [(eo _ (by have := g.2.1; omega)).1]; exact g''⟩
  · obtain ⟨-, o6, o7⟩ := eo u (by omega)
    rw [o6, o7]
    by_cases z : u + 1 = x
    · rw [z, e6, e7, show u = x - 1 from by omega]; exact hx (by omega)
    · obtain ⟨-, p6, p7⟩ := eo (u + 1) z
      rw [p6, p7]; exact h.2 u a (by omega)
set_option maxHeartbeats 1000000 in
theorem p_findWays {Q : Int → MM → Prop} {C : MM} {c : Nat} {W : Int × Int} (hP : PR C c) (hWd : W = wTh (lv C c) (pcn C c) (wR (C (c + 12)) (C c 11).toNat) (C c 0).toNat) (hq : ∀ M, W5 C M c → WY C M c W.1 (C c 0) 0 → 0 ≤ W.1 → W.1 ≤ C c 0 → (W.2 ≠ 0 → W.1 < C c 0) → Q W.1 M) : w_X5_findWays c Q C := by
  obtain ⟨n0, n4, z4, hT, hV, r0, r1, hr, hi⟩ := id hP
  have bad : ∀ M x t k, 0 ≤ x → x < C c 0 → W5 C M c → WY C M c x t k → t < C c 0 → W = (x, 1) → Q x M := fun M x t k x0 x1 hF hY ht eW => by
    have := hq M hF (by rw [eW]; exact WY_k hY (Or.inl ht)) (by rw [eW]; exact x0) (by rw [eW]; show x ≤ C c 0; omega) (fun _ => by rw [eW]; exact x1)
    rw [eW] at this; exact this
  have slots : ∀ M x, W5 C M c → WY C M c x 0 0 → 0 ≤ x → x ≤ C c 0 → wR (C (c + 12)) (C c 11).toNat = (x, 0) → (∀ r, 0 ≤ r → r < C c 11 → C (c + 12) r < x) → w_X5_findWays_b57 c Q x 0 M := fun M x hF hW x0 x1 ew hrx => by
    unfold w_X5_findWays_b57
    refine loop3 _ (fun (x t : Int) M1 => ∃ T : Nat, t = T ∧ (T : Int) ≤ C c 0 ∧ wTh (lv C c) (pcn C c) (wR (C (c + 12)) (C c 11).toNat) T = (x, 0) ∧ W5 C M1 c ∧ WY C M1 c x t 0 ∧ 0 ≤ x ∧ x ≤ C c 0 ∧ (∀ r, 0 ≤ r → r < C c 11 → C (c + 12) r < x) ∧ (∀ f s, 0 ≤ f → f < t → 0 ≤ s → s < pcn C c f → lv C c f s < x)) (fun (_ t : Int) _ => (C c 0 - t).toNat) ?_ _ _ _ ⟨0, rfl, by omega, ew, hF, hW, x0, x1, hrx, fun f s a b => by omega⟩
    rintro x t M1 f ⟨T, rfl, hT1, eT, hF1, hW1, x0, x1, hrx, hlx⟩ ih
    unfold wb_X5_findWays_b57
    have m0 : M1 c 0 = C c 0 := by rw [hF1 c (by omega) (by omega) (by omega)]
    refine ⟨fun z => ?_, fun z v99 e99 _ => ⟨fun z9 => by exfalso; rw [m0] at e99; omega, fun z9 => ⟨by omega, by omega, fun v2 e2 _ => ?_⟩⟩⟩
    · have e := wTh_no (lvf := lv C c) (cnt := pcn C c) (s0 := wR (C (c + 12)) (C c 11).toNat) (t := T) (m := (C c 0).toNat) (Or.inr (by rw [eT]; exact z)) (by omega)
      have eW : W = (x, 0) := by rw [hWd, e, eT]
      have := hq M1 hF1 (by rw [eW]; exact WY_e hW1 hT1) (by rw [eW]; exact x0) (by rw [eW]; exact x1) (fun w => absurd (by rw [eW]) w)
      rw [eW] at this; exact this
    · rw [hF1 (c + 4) (by omega) (by omega) (by omega)] at e2
      subst e2
      obtain ⟨t1, t2, t3, t4, t5⟩ := hT T (by omega) (by omega)
      have stepT : wTh (lv C c) (pcn C c) (wR (C (c + 12)) (C c 11).toNat) (T + 1) = wK (lv C c T) (x, 0) (pcn C c T).toNat := by
        show (if (wTh (lv C c) (pcn C c) (wR (C (c + 12)) (C c 11).toNat) T).2 ≠ 0 ∨ (wTh (lv C c) (pcn C c) (wR (C (c + 12)) (C c 11).toNat) T).1 ≤ T then _ else wK (lv C c T) (wTh (lv C c) (pcn C c) (wR (C (c + 12)) (C c 11).toNat) T) (pcn C c T).toNat) = _
        rw [eT, if_neg (fun q => by rcases q with q | q; exact q rfl; exact z q)]
      unfold w_X5_findWays_b77
      refine loop4 _ (fun (y a p : Int) M2 => (T : Int) = a ∧ ∃ k : Nat, p = C (c + 4) T + k ∧ (k : Int) ≤ pcn C c T ∧ wK (lv C c T) (x, 0) k = (y, 0) ∧ W5 C M2 c ∧ WY C M2 c y T k ∧ x ≤ y ∧ y ≤ C c 0 ∧ (∀ r, 0 ≤ r → r < C c 11 → C (c + 12) r < y) ∧ (∀ f s : Int, 0 ≤ f → (f < T ∨ (f = T ∧ s < k)) → 0 ≤ s → s < pcn C c f → lv C c f s < y)) (fun (_ _ p : Int) _ => (C (c + 4) T + pcn C c T - p).toNat) ?_ _ _ _ _ ⟨rfl, 0, by omega, by omega, rfl, hF1, hW1, by omega, x1, hrx, fun f s a b d e => hlx f s a (by omega) d e⟩
      rintro y _ p M2 g ⟨rfl, k, rfl, hk, ek, hF2, hW2, xy, y1, hrx2, hlx2⟩ ih2
      unfold wb_X5_findWays_b77
      refine ⟨by unfold ri_; omega, by omega, by omega, fun v2 e2 _ => ?_⟩
      rw [hF2 (c + 4) (by omega) (by omega) (by omega), t1] at e2
      refine ⟨fun z2 => ⟨by unfold ri_; omega, ih _ _ _ ⟨T + 1, by omega, by omega, ?_, hF2, WY_k hW2 (Or.inl (by omega)), by omega, y1, hrx2, fun f s a b d e => ?_⟩ (by omega)⟩, fun z2 => ⟨by omega, by omega, fun v5 e5 _ => ?_⟩⟩
      · rw [stepT, show (pcn C c T).toNat = k from by omega, ek]
      · by_cases w : f = T
        · subst w; exact hlx2 _ s a (Or.inr ⟨rfl, by omega⟩) d e
        · exact hlx2 f s a (Or.inl (by omega)) d e
      · rw [hF2 (c + 10) (by omega) (by omega) (by omega)] at e5
        obtain ⟨w1, w2, w3⟩ := hV T k (by omega) (by omega) (by omega) (by omega)
        have stepK : wK (lv C c T) (x, 0) (k + 1) = wS (y, 0) (lv C c T k) := by show wS (wK (lv C c T) (x, 0) k) _ = _; rw [ek]
        have nxt : lv C c T k < y → w_X5_findWays_b150 c Q f g y T (C (c + 4) T + k) M2 := fun w => by
          unfold w_X5_findWays_b150
          refine ⟨by unfold ri_; omega, ih2 _ _ _ _ ⟨rfl, k + 1, by omega, by omega, by rw [stepK, wS_1 rfl w], hF2, WY_k hW2 (Or.inr ⟨rfl, by omega⟩), xy, y1, hrx2, fun f' s' a b d e => ?_⟩ (by omega)⟩
          by_cases q : f' = T ∧ s' = k
          · rw [q.1, q.2]; exact w
          · exact hlx2 f' s' a (by omega) d e
        have lvE : lv C c T k = if v5 = 0 then -1 else C (c + 9) (C (c + 4) T + k) := by unfold lv; rw [← e5]
        have mid : (v5 ≠ 0 → C (c + 9) (C (c + 4) T + k) ≤ y) → w_X5_findWays_b112 c Q f g y T (C (c + 4) T + k) M2 := fun hle => by
          unfold w_X5_findWays_b112
          refine ⟨by omega, by omega, fun w5 g5 _ => ?_⟩
          rw [hF2 (c + 10) (by omega) (by omega) (by omega), ← e5] at g5
          subst g5
          refine ⟨fun q => nxt (by rw [lvE, if_pos q]; omega), fun q => ⟨by omega, by omega, fun v3 e3 _ => ?_⟩⟩
          rw [hF2 (c + 9) (by omega) (by omega) (by omega)] at e3
          have := hle q
          rw [if_neg q] at lvE
          refine ⟨fun q2 => nxt (by omega), fun q2 => ⟨by omega, by omega, fun v6 e6 _ => ?_⟩⟩
          rw [hF2 (c + 4) (by omega) (by omega) (by omega)] at e6
          rw [e6, show C (c + 4) T + (k : Int) - C (c + 4) T = k from by omega]
          have gT := (hW2.1 T (by omega) (by omega)).2
          refine ⟨by unfold ri_; omega, p_setWay (C := C) (d := M2 (c + 5) T + 1) (by omega) (by omega) hF2 (Or.inr ⟨by omega, by omega, rfl, by unfold ri_; omega⟩) fun M3 hF3 b6 b7 b5 bo => ⟨by unfold ri_; omega, ?_⟩⟩
          unfold w_X5_findWays_b150
          refine ⟨by unfold ri_; omega, ih2 _ _ _ _ ⟨rfl, k + 1, by omega, by omega, by rw [stepK, wS_2 rfl (by omega)], hF3, ?_, by omega, by omega, fun r a b => by have := hrx2 r a b; omega, fun f' s' a b d e => ?_⟩ (by omega)⟩
          · refine WY_new (WY_k hW2 (Or.inr ⟨rfl, by omega⟩)) (by omega) b6 b7 b5 bo (Or.inr ⟨⟨by omega, by omega, by omega, by omega, by omega, fun r a b => by have := hrx2 r a b; omega, fun f' s' a b d e => by have := hlx2 f' s' a b d e; omega⟩, Or.inr ⟨rfl, by omega⟩, rfl⟩) ⟨by omega, by omega⟩ (fun q3 => ?_)
            rcases (hW2.1 (y - 1) (by omega) (by omega)).1 with ⟨g1, -, -⟩ | ⟨-, g2, -⟩
            · exact Or.inl (by rw [g1]; show (-1 : Int) < T; omega)
            · rcases g2 with g2 | ⟨g2, g3⟩
              · exact Or.inl g2
              · exact Or.inr ⟨g2, g3⟩
          · by_cases q3 : f' = T ∧ s' = k
            · rw [q3.1, q3.2]; omega
            · have := hlx2 f' s' a (by omega) d e; omega
        refine ⟨fun q => mid fun q2 => absurd q q2, fun q => ⟨by omega, by omega, fun v7 e7 _ => ?_⟩⟩
        rw [hF2 (c + 9) (by omega) (by omega) (by omega)] at e7
        refine ⟨fun q2 => mid fun _ => by omega, fun q2 => ?_⟩
        rw [if_neg q] at lvE
        have k1 : wK (lv C c T) (x, 0) (k + 1) = (y, 1) := by rw [stepK, wS_3 rfl (by show y < _; omega)]
        have k2 : wK (lv C c T) (x, 0) (pcn C c T).toNat = (y, 1) := by rw [wK_no (r := k + 1) (by rw [k1]; show (1 : Int) ≠ 0; decide) (by omega), k1]
        have k3 : wTh (lv C c) (pcn C c) (wR (C (c + 12)) (C c 11).toNat) (T + 1) = (y, 1) := by rw [stepT, k2]
        have eW : W = (y, 1) := by rw [hWd, wTh_no (t := T + 1) (Or.inl (by rw [k3]; show (1 : Int) ≠ 0; decide)) (by omega), k3]
        exact bad M2 y T k (by omega) (by omega) hF2 hW2 (by omega) eW
  unfold w_X5_findWays w_X5_findWays_b4
  refine loop3 _ (fun (x r : Int) M => ∃ T : Nat, r = T ∧ (T : Int) ≤ C c 11 ∧ wR (C (c + 12)) T = (x, 0) ∧ W5 C M c ∧ WY C M c x 0 0 ∧ 0 ≤ x ∧ x ≤ C c 0 ∧ (∀ q, 0 ≤ q → q < r → C (c + 12) q < x) ∧ (∀ u, 0 ≤ u → u < x → ∃ q, 0 ≤ q ∧ q < r ∧ C (c + 12) q = u)) (fun (_ r : Int) _ => (C c 11 - r).toNat) ?_ _ _ _ ⟨0, rfl, by omega, rfl, fun _ _ _ _ => rfl, ⟨fun u a b => by omega, fun u a b => by omega⟩, by omega, n0, fun q a b => by omega, fun u a b => by omega⟩
  rintro x r M f ⟨T, rfl, hT1, eT, hF, hW, x0, x1, hrx, hex⟩ ih
  unfold wb_X5_findWays_b4
  intro v1 e1 _
  rw [hF c (by omega) (by omega) (by omega)] at e1
  subst e1
  refine ⟨fun z => slots M x hF hW x0 x1 (by rw [show (C c 11).toNat = T from by omega]; exact eT) (fun q a b => hrx q a (by omega)), fun z => ⟨by omega, by omega, fun v3 e3 _ => ?_⟩⟩
  rw [hF (c + 12) (by omega) (by omega) (by omega)] at e3
  have hrT := hr T (by omega) (by omega)
  have stepR : wR (C (c + 12)) (T + 1) = wS (x, 0) (C (c + 12) T) := by show wS (wR (C (c + 12)) T) _ = _; rw [eT]
  refine ⟨fun q => ⟨by omega, by omega, fun v5 e5 _ => ?_⟩, fun q => ?_⟩
  · rw [hF (c + 12) (by omega) (by omega) (by omega)] at e5
    unfold w_X5_findWays_b49
    refine ⟨fun q2 => ⟨by unfold ri_; omega, ih _ _ _ ⟨T + 1, by omega, by omega, by rw [stepR, wS_1 rfl (by show _ < x; omega)], hF, hW, x0, x1, fun j a b => ?_, fun u a b => ?_⟩ (by omega)⟩, fun q2 => ⟨by omega, by omega, fun v7 e7 _ => ?_⟩⟩
    · by_cases w : j = T
      · rw [w]; omega
      · exact hrx j a (by omega)
    · obtain ⟨j, j0, j1, j2⟩ := hex u a b
      exact ⟨j, j0, by omega, j2⟩
    · rw [hF (c + 11) (by omega) (by omega) (by omega)] at e7
      refine p_setWay (C := C) (d := 0) x0 (by omega) hF (Or.inl ⟨rfl, rfl⟩) fun M3 hF3 b6 b7 b5 bo => ⟨by unfold ri_; omega, by unfold ri_; omega, ih _ _ _ ⟨T + 1, by omega, by omega, by rw [stepR, wS_2 rfl (by show _ = x; omega)], hF3, ?_, by omega, by omega, fun j a b => ?_, fun u a b => ?_⟩ (by omega)⟩
      · refine WY_new hW x0 b6 b7 b5 bo (Or.inl ⟨rfl, rfl, T, by omega, by omega, by omega, e7.symm, fun j a b => by have := hrx j a b; omega⟩) ⟨by omega, by omega⟩ (fun q3 => ?_)
        rcases (hW.1 (x - 1) (by omega) (by omega)).1 with ⟨g1, -, j, j0, j1, j2, j3, j4⟩ | ⟨g1, g2, -⟩
        · refine Or.inr ⟨g1, ?_⟩
          show M (c + 7) (x - 1) < v7
          obtain ⟨q, q0, q1, q2⟩ := hex (x - 1) (by omega) (by omega)
          have jT : j < T := by
            by_cases w : q < j
            · exact absurd q2 (j4 q q0 w)
            · omega
          rw [← j3, e7]; exact PR_up hP j0 jT (by omega)
        · have := g1.1; have := g1.2.2.1; omega
      · by_cases w : j = T
        · rw [w]; omega
        · have := hrx j a (by omega); omega
      · by_cases w : u = x
        · exact ⟨T, by omega, by omega, by omega⟩
        · obtain ⟨j, j0, j1, j2⟩ := hex u a (by omega)
          exact ⟨j, j0, by omega, j2⟩
  · have k1 : wR (C (c + 12)) (T + 1) = (x, 1) := by rw [stepR, wS_3 rfl (by show x < _; omega)]
    have k2 : wR (C (c + 12)) (C c 11).toNat = (x, 1) := by rw [wR_no (r := T + 1) (by rw [k1]; show (1 : Int) ≠ 0; decide) (by omega), k1]
    have eW : W = (x, 1) := by
      rw [hWd, wTh_no (t := 0) (m := (C c 0).toNat) (Or.inl (by show (wR (C (c + 12)) (C c 11).toNat).2 ≠ 0; rw [k2]; show (1 : Int) ≠ 0; decide)) (by omega)]
      exact k2
    exact bad M x 0 0 x0 (by omega) hF hW (by omega) eW
