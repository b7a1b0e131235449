/-! field in the reference; the classes with one field more -/
theorem uu00 (R : MM) (a b : Int) : ux_ (ux_ R 0 0 a) 0 0 b = ux_ R 0 0 b := by
  funext k i
  unfold ux_
  by_cases z : k = 0 ∧ i = 0
  · rw [if_pos z, if_pos z]
  · rw [if_neg z, if_neg z, if_neg z]
def rF (R : MM) (c x kd lk st : Int) : MM := fun k i => if k = 0 ∧ i = 0 then 0 else if k = 9 ∧ i = c then R 9 c + 1 else if k = 5 ∧ i = 6 * c + R 9 c then x else if k = 12 ∧ i = 6 * c + R 9 c then kd else if k = 13 ∧ i = 6 * c + R 9 c then (if kd = 5 then lk else -1) else if k = 17 ∧ i = 6 * c + R 9 c then st else if k = 6 ∧ i = 6 * c + R 9 c then (if kd = 5 then -1 else 0) else R k i
def fdB (R : MM) (kd lk v : Int) : Prop := v = 0 ∨ kd < 0 ∨ 5 < kd ∨ (kd = 5 ∧ ¬ (lk = -1 ∨ vT (R 0 20) lk))
def fdH (R : MM) (c v k : Int) : Prop := ¬ R 16 c = 0 ∨ R 9 c = 6 ∨ ∃ j, 0 ≤ j ∧ j < k ∧ R 5 (6 * c + j) = v
theorem fdH_s {R : MM} {c v k : Int} (h : ¬ fdH R c v k) (h2 : ¬ R 5 (6 * c + k) = v) : ¬ fdH R c v (k + 1) := by
  rintro (q | q | ⟨j, j0, j1, j2⟩)
  · exact h (Or.inl q)
  · exact h (Or.inr (Or.inl q))
  · by_cases e : j = k
    · subst e; exact h2 j2
    · exact h (Or.inr (Or.inr ⟨j, j0, by omega, j2⟩))
theorem fdH_m {R : MM} {c v k : Int} (h : fdH R c v k) : fdH R c v (k + 1) := by
  rcases h with q | q | ⟨j, j0, j1, j2⟩
  · exact Or.inl q
  · exact Or.inr (Or.inl q)
  · exact Or.inr (Or.inr ⟨j, j0, by omega, j2⟩)
set_option maxHeartbeats 1000000 in
theorem R_field {Q : Int → MM → Prop} {c kd lk st : Int} {R : MM} (glk : ri_ lk) (hst : st = 0 ∨ st = 1) (t1 : 0 ≤ R 0 3) (t2 : R 0 3 ≤ 4000) (n0 : 0 ≤ R 0 20) (n1 : R 0 20 ≤ 16) (ho : ∀ c, 0 ≤ c → c < R 0 20 → 0 ≤ R 9 c ∧ R 9 c ≤ 6)
    (hb : ¬ (0 ≤ c ∧ c < R 0 20) → Q 0 (ux_ R 0 0 1))
    (h2 : ∀ v, nmR R v → 0 ≤ c → c < R 0 20 → fdB R kd lk v → Q 0 (ux_ R 0 0 2))
    (h3 : ∀ v, nmR R v → 0 ≤ c → c < R 0 20 → ¬ fdB R kd lk v → fdH R c v (R 9 c) → Q 0 (ux_ R 0 0 3))
    (h : ∀ v, nmR R v → 0 ≤ c → c < R 0 20 → ¬ fdB R kd lk v → ¬ fdH R c v (R 9 c) → w_X12_layOut (fun _ M3 => (∀ M4, M4 = ux_ M3 0 3 0 → 0 ≤ c ∧ c < 16 ∧ (∀ v5, v5 = M4 9 c → ri_ v5 → ri_ (v5 - 1) ∧ (Q (v5 - 1) M4)))) c (rF R c v kd lk st)) : w_X12_field Q c kd lk st R := by
  have H14 : ∀ s, (s = 1 ∧ ¬ (0 ≤ c ∧ c < R 0 20)) ∨ (s = 0 ∧ 0 ≤ c ∧ c < R 0 20) → w_X12_field_b14 Q c kd lk st s R := by
    intro s hs
    unfold w_X12_field_b14
    intro M1 e1 v2 e2 g2
    have ev2 : v2 = s := by rw [e2, e1, ux_s]
    rcases hs with ⟨rfl, hs⟩ | ⟨rfl, c0, c1⟩
    · exact ⟨fun z => by omega, fun _ => by rw [e1]; exact hb hs⟩
    refine ⟨fun _ => ?_, fun z => by omega⟩
    rw [e1]
    have e3 : ux_ R 0 0 0 0 3 = R 0 3 := ux_i _ _ _ (by decide)
    have e20 : ux_ R 0 0 0 0 20 = R 0 20 := ux_i _ _ _ (by decide)
    have hc := ho c c0 c1
    refine p_R_tapeName (by rw [e3]; exact t1) (by rw [e3]; exact t2) (fun v hv _ => ?_)
    have hv' := nmR_00 hv
    have H62 : fdB R kd lk v → w_X12_field_b62 Q c kd lk st v (ux_ R 0 0 0) := by
      intro hB
      unfold w_X12_field_b62 w_X12_field_b67
      intro M1 e1 v2 e2 g2
      rw [uu00] at e1
      have ev2 : v2 = 2 := by rw [e2, e1, ux_s]
      exact ⟨fun z => by omega, fun _ => by rw [e1]; exact h2 v hv' c0 c1 hB⟩
    have H66 : ¬ fdB R kd lk v → w_X12_field_b66 Q c kd lk st v (ux_ R 0 0 0) := by
      intro hB
      have H167 : ∀ s, (s = 3 ∧ fdH R c v (R 9 c)) ∨ (s = 0 ∧ ¬ fdH R c v (R 9 c)) → w_X12_field_b167 Q c kd lk st v s (ux_ R 0 0 0) := by
        intro s hs
        unfold w_X12_field_b167
        intro M1 e1 v2 e2 g2
        rw [uu00] at e1
        have ev2 : v2 = s := by rw [e2, e1, ux_s]
        rcases hs with ⟨rfl, hs⟩ | ⟨rfl, hs⟩
        · exact ⟨fun z => by omega, fun _ => by rw [e1]; exact h3 v hv' c0 c1 hB hs⟩
        refine ⟨fun _ => ⟨by unfold ri_; omega, c0, by omega, fun v5 e5 g5 => ?_⟩, fun z => by omega⟩
        have r5 : v5 = R 9 c := by rw [e5, e1, ux_c _ _ _ _ (by decide)]
        subst r5
        refine ⟨by unfold ri_; omega, c0, by omega, fun v7 e7 g7 => ?_⟩
        have r7 : v7 = R 9 c := by rw [e7, e1, ux_c _ _ _ _ (by decide)]
        subst r7
        have hn6 : R 9 c ≠ 6 := fun q => hs (Or.inr (Or.inl q))
        have key := h v hv' c0 c1 hB hs
        refine ⟨by unfold ri_; omega, c0, by omega, fun M9 e9 => ⟨by omega, by omega, fun M10 e10 => ⟨by omega, by omega, fun M11 e11 => ⟨fun z5 => ?_, fun z5 => ?_⟩⟩⟩⟩
        · unfold w_X12_field_b235
          refine ⟨by omega, by omega, fun M12 e12 => ⟨by omega, by omega, hst, fun M13 e13 => ⟨fun _ => ?_, fun q => absurd q z5⟩⟩⟩
          unfold w_X12_field_b263
          refine ⟨by omega, by omega, fun M14 e14 => ?_⟩
          have fin : M14 = rF R c v kd lk st := by
            subst e14 e13 e12 e11 e10 e9 e1
            funext k i
            unfold rF ux_
            by_cases a : k = 0 ∨ k = 5 ∨ k = 6 ∨ k = 9 ∨ k = 12 ∨ k = 13 ∨ k = 17
            · rcases a with rfl | rfl | rfl | rfl | rfl | rfl | rfl <;> simp [z5]
            · rw [if_neg (by omega), if_neg (by omega), if_neg (by omega), if_neg (by omega), if_neg (by omega), if_neg (by omega), if_neg (by omega), if_neg (by omega), if_neg (by omega), if_neg (by omega), if_neg (by omega), if_neg (by omega), if_neg (by omega), if_neg (by omega)]
          rw [fin]; exact key
        · unfold w_X12_field_b235
          refine ⟨by omega, by omega, fun M12 e12 => ⟨by omega, by omega, hst, fun M13 e13 => ⟨fun q => absurd z5 q, fun _ => ?_⟩⟩⟩
          unfold w_X12_field_b263
          refine ⟨by omega, by omega, fun M14 e14 => ?_⟩
          have fin : M14 = rF R c v kd lk st := by
            subst e14 e13 e12 e11 e10 e9 e1
            funext k i
            unfold rF ux_
            by_cases a : k = 0 ∨ k = 5 ∨ k = 6 ∨ k = 9 ∨ k = 12 ∨ k = 13 ∨ k = 17
            · rcases a with rfl | rfl | rfl | rfl | rfl | rfl | rfl <;> simp [z5]
            · rw [if_neg (by omega), if_neg (by omega), if_neg (by omega), if_neg (by omega), if_neg (by omega), if_neg (by omega), if_neg (by omega), if_neg (by omega), if_neg (by omega), if_neg (by omega), if_neg (by omega), if_neg (by omega), if_neg (by omega), if_neg (by omega)]
          rw [fin]; exact key
      have H104 : ∀ g, (g = 1 ∧ fdH R c v 0) ∨ (g = 0 ∧ ¬ fdH R c v 0) → w_X12_field_b104 Q c kd lk st v g (ux_ R 0 0 0) := by
        intro g hg
        unfold w_X12_field_b104
        refine loop8 _ (fun a1 a2 a3 a4 a5 g k M1 => c = a1 ∧ kd = a2 ∧ lk = a3 ∧ st = a4 ∧ v = a5 ∧ M1 = ux_ R 0 0 0 ∧ 0 ≤ k ∧ k ≤ R 9 c ∧ ((g = 1 ∧ fdH R c v k) ∨ (g = 0 ∧ ¬ fdH R c v k))) (fun _ _ _ _ _ _ k _ => (R 9 c - k).toNat) ?_ _ _ _ _ _ _ _ _ ⟨rfl, rfl, rfl, rfl, rfl, rfl, by omega, by omega, hg⟩
        rintro _ _ _ _ _ g k _ f ⟨rfl, rfl, rfl, rfl, rfl, rfl, k0, k1, hg⟩ ih
        unfold wb_X12_field_b109
        refine ⟨c0, by omega, fun v1 e1 g1 => ?_⟩
        rw [ux_c _ _ _ _ (by decide)] at e1
        subst e1
        have hyes : k < R 9 c → fdH R c v (k + 1) → w_X12_field_b143 Q f c kd lk st v k (ux_ R 0 0 0) := by
          intro hk hh
          unfold w_X12_field_b143 w_X12_field_b148
          exact ⟨by unfold ri_; omega, ih _ _ _ _ _ _ _ _ ⟨rfl, rfl, rfl, rfl, rfl, rfl, by omega, by omega, Or.inl ⟨rfl, hh⟩⟩ (by omega)⟩
        refine ⟨fun z => ?_, fun z => ⟨fun zg => hyes (by omega) (fdH_m ?_), fun zg => ⟨by unfold ri_; omega, by unfold ri_; omega, by omega, by omega, fun v7 e7 g7 => ?_⟩⟩⟩
        · have ek : k = R 9 c := by omega
          subst ek
          rcases hg with ⟨rfl, hg⟩ | ⟨rfl, hg⟩
          · exact ⟨fun q => by omega, fun _ => H167 3 (Or.inl ⟨rfl, hg⟩)⟩
          · exact ⟨fun _ => H167 0 (Or.inr ⟨rfl, hg⟩), fun q => absurd rfl q⟩
        · rcases hg with ⟨_, hg⟩ | ⟨q, _⟩
          · exact hg
          · exact absurd q zg
        · rw [ux_c _ _ _ _ (by decide)] at e7
          have hno : ¬ fdH R c v k := by
            rcases hg with ⟨q, _⟩ | ⟨_, hg⟩
            · omega
            · exact hg
          refine ⟨fun z7 => ?_, fun z7 => hyes (by omega) (Or.inr (Or.inr ⟨k, k0, by omega, by rw [← e7]; exact z7⟩))⟩
          unfold w_X12_field_b148
          exact ⟨by unfold ri_; omega, ih _ _ _ _ _ _ _ _ ⟨rfl, rfl, rfl, rfl, rfl, rfl, by omega, by omega, Or.inr ⟨rfl, fdH_s hno (by rw [← e7]; exact z7)⟩⟩ (by omega)⟩
      unfold w_X12_field_b66 w_X12_field_b67
      intro M1 e1 v2 e2 g2
      rw [uu00] at e1
      have ev2 : v2 = 0 := by rw [e2, e1, ux_s]
      refine ⟨fun _ => ⟨c0, by omega, fun v4 e4 g4 => ?_⟩, fun z => by omega⟩
      rw [e1, ux_c _ _ _ _ (by decide)] at e4
      subst e4
      rw [e1]
      refine ⟨fun z => ?_, fun z => ⟨c0, by omega, fun v6 e6 g6 => ?_⟩⟩
      · exact H104 1 (Or.inl ⟨rfl, Or.inl z⟩)
      · rw [ux_c _ _ _ _ (by decide)] at e6
        subst e6
        refine ⟨fun z6 => H104 0 (Or.inr ⟨rfl, ?_⟩), fun z6 => H104 1 (Or.inl ⟨rfl, Or.inr (Or.inl z6)⟩)⟩
        rintro (q | q | ⟨j, j0, j1, -⟩)
        · exact q z
        · exact z6 q
        · omega
    refine ⟨fun z => H62 (Or.inl z), fun z => ⟨fun z2 => H62 (Or.inr (Or.inl z2)), fun z2 => ⟨fun z3 => H62 (Or.inr (Or.inr (Or.inl z3))), fun z3 => ⟨fun z4 => H66 ?_, fun z4 => ?_⟩⟩⟩⟩
    · rintro (q | q | q | q)
      · exact z q
      · exact z2 q
      · exact z3 q
      · exact z4 q.1
    · refine p_R_isLinkType glk (fun hh _ => ⟨fun _ => H66 ?_, fun q => by omega⟩) (fun hh _ => ⟨fun q => absurd rfl q, fun _ => H62 (Or.inr (Or.inr (Or.inr ⟨z4, by rw [e20] at hh; exact hh⟩)))⟩)
      rw [e20] at hh
      rintro (q | q | q | q)
      · exact z q
      · exact z2 q
      · exact z3 q
      · exact q.2 hh
  unfold w_X12_field
  exact p_R_isClass (fun c0 c1 _ => ⟨fun q => by omega, fun _ => H14 0 (Or.inr ⟨rfl, c0, c1⟩)⟩) (fun c0 _ => ⟨fun _ => H14 1 (Or.inl ⟨rfl, c0⟩), fun q => absurd rfl q⟩)
/-! the layout looks at the first k own fields alone -/
theorem lw_cong {st kd st' kd' : Int → Int} {b w e : Int} (k : Nat) (h : ∀ j : Nat, j < k → st' (b + j) = st (b + j) ∧ kd' (b + j) = kd (b + j)) : lw st' kd' b w e k = lw st kd b w e k := by
  induction k with
  | zero => rfl
  | succ k ih =>
    have h1 := h k (by omega)
    show (if st' (b + k) = 0 ∧ wdt (kd' (b + k)).toNat = w then rup (lw st' kd' b w e k) w + w else lw st' kd' b w e k) = (if st (b + k) = 0 ∧ wdt (kd (b + k)).toNat = w then rup (lw st kd b w e k) w + w else lw st kd b w e k)
    rw [h1.1, h1.2, ih fun j j1 => h j (by omega)]
theorem lb_cong {st kd st' kd' : Int → Int} {b e : Int} (n : Nat) (w : Int) (h : ∀ j : Nat, j < n → st' (b + j) = st (b + j) ∧ kd' (b + j) = kd (b + j)) : lb st' kd' b e n w = lb st kd b e n w := by
  unfold lb
  simp only [fun w e => lw_cong (st := st) (kd := kd) (st' := st') (kd' := kd') (b := b) (w := w) (e := e) n h]
theorem lp_cong {st kd st' kd' : Int → Int} {b e : Int} (n j : Nat) (hj : j < n) (h : ∀ j : Nat, j < n → st' (b + j) = st (b + j) ∧ kd' (b + j) = kd (b + j)) : lp st' kd' b e n j = lp st kd b e n j := by
  unfold lp
  rw [lb_cong n _ h, (h j hj).2, lw_cong j fun i i1 => h i (by omega)]
theorem ns_cong {st st' : Int → Int} {b : Int} (k : Nat) (h : ∀ j : Nat, j < k → st' (b + j) = st (b + j)) : ns st' b k = ns st b k := by
  induction k with
  | zero => rfl
  | succ k ih =>
    show ns st' b k + (if st' (b + k) = 0 then 1 else 0) = ns st b k + (if st (b + k) = 0 then 1 else 0)
    rw [h k (by omega), ih fun j j1 => h j (by omega)]
theorem sl_cong {st st' : Int → Int} {b base : Int} (j : Nat) (h : ∀ i : Nat, i < j + 1 → st' (b + i) = st (b + i)) : sl st' b base j = sl st b base j := by
  unfold sl
  rw [h j (by omega), ns_cong j fun i i1 => h i (by omega)]
theorem lb_st {st kd : Int → Int} {b e : Int} {n : Nat} (h : ¬ st (b + n) = 0) (w : Int) : lb st kd b e (n + 1) w = lb st kd b e n w := by
  have : ∀ w e, lw st kd b w e (n + 1) = lw st kd b w e n := fun w e => by
    show (if _ then _ else _) = _
    rw [if_neg (fun q => h q.1)]
  unfold lb
  simp only [this]
