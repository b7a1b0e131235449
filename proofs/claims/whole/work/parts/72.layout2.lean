/-! the layout, whole -/
theorem lm_next {M M1 : MM} {b e : Int} {n : Nat} {w w' : Int} (hn : ∀ j : Nat, j < n → isW (wdt (M 12 (b + j)).toNat)) (hw : (w = 8 ∧ w' = 4) ∨ (w = 4 ∧ w' = 2) ∨ (w = 2 ∧ w' = 1) ∨ (w = 1 ∧ w' = 0)) (h : lm M M1 b e n w n) : lm M M1 b e n w' 0 := by
  obtain ⟨l1, l2, l3⟩ := h
  refine ⟨l1, l2, fun j j1 hd => l3 j j1 ⟨hd.1, ?_⟩⟩
  have h1 := hn j j1
  obtain ⟨-, hd⟩ := hd
  unfold isW at h1
  omega
theorem lb_4 {st kd : Int → Int} {b e : Int} {n : Nat} : lw st kd b 8 (lb st kd b e n 8) n = lb st kd b e n 4 := by simp [lb]
theorem lb_2 {st kd : Int → Int} {b e : Int} {n : Nat} : lw st kd b 4 (lb st kd b e n 4) n = lb st kd b e n 2 := by simp [lb]
theorem lb_1 {st kd : Int → Int} {b e : Int} {n : Nat} : lw st kd b 2 (lb st kd b e n 2) n = lb st kd b e n 1 := by simp [lb]
theorem lb_0 {st kd : Int → Int} {b e : Int} {n : Nat} : lw st kd b 1 (lb st kd b e n 1) n = lb st kd b e n 0 := by simp [lb]
theorem lb_bd {st kd : Int → Int} {b e : Int} {n : Nat} (hn : n ≤ 6) (w : Int) (hw : isW w ∨ w = 0) : e ≤ lb st kd b e n w ∧ lb st kd b e n w ≤ e + 400 := by
  have h8 := lw_bd (st := st) (kd := kd) (b := b) (e := e) (Or.inl rfl) n
  have h4 := lw_bd (st := st) (kd := kd) (b := b) (e := lw st kd b 8 e n) (Or.inr (Or.inl rfl)) n
  have h2 := lw_bd (st := st) (kd := kd) (b := b) (e := lw st kd b 4 (lw st kd b 8 e n) n) (Or.inr (Or.inr (Or.inl rfl))) n
  have h1 := lw_bd (st := st) (kd := kd) (b := b) (e := lw st kd b 2 (lw st kd b 4 (lw st kd b 8 e n) n) n) (Or.inr (Or.inr (Or.inr rfl))) n
  have hw' : w = 8 ∨ w = 4 ∨ w = 2 ∨ w = 1 ∨ w = 0 := by unfold isW at hw; omega
  rcases hw' with rfl | rfl | rfl | rfl | rfl <;> (simp [lb]; omega)
set_option maxHeartbeats 600000 in
theorem p_R_passes {Q : Int → MM → Prop} {c e : Int} {n : Nat} {M : MM} (hc : 0 ≤ c) (hc2 : c < 16) (hn : n ≤ 6) (hown : M 9 c = n) (hkd : ∀ j : Nat, j < n → 0 ≤ M 12 (6 * c + j) ∧ M 12 (6 * c + j) ≤ 5) (he : 0 ≤ e) (he2 : e ≤ 8000)
    (h : ∀ M2, lm M M2 (6 * c) e n 0 0 → Q 0 (ux_ M2 11 c (lb (M 17) (M 12) (6 * c) e n 0))) : w_X12_layOut_b131 Q c e 8 M := by
  have hW : ∀ j : Nat, j < n → isW (wdt (M 12 (6 * c + j)).toNat) := fun j j1 => wdt_W (hkd j j1).1 (hkd j j1).2
  have hb := fun w hw => lb_bd (st := M 17) (kd := M 12) (b := 6 * c) (e := e) hn w hw
  refine ⟨5, ?_⟩
  show wb_X12_layOut_b131 Q (jit (fun _ _ _ _ => False) (wb_X12_layOut_b131 Q) 4) c e 8 M
  have e8 : lb (M 17) (M 12) (6 * c) e n 8 = e := by simp [lb]
  have st : ∀ (w : Int) (ag : Int → Int → Int → MM → Prop) (M0 : MM), isW w → lm M M0 (6 * c) e n w 0 → (∀ M2, lm M M2 (6 * c) e n w n → ag c (lw (M 17) (M 12) (6 * c) w (lb (M 17) (M 12) (6 * c) e n w) n) (w.tdiv 2) M2) → wb_X12_layOut_b131 Q ag c (lb (M 17) (M 12) (6 * c) e n w) w M0 := by
    intro w ag M0 hw hl hk
    have hb1 := hb w (Or.inl hw)
    unfold wb_X12_layOut_b131
    refine ⟨fun z => ?_, fun z => p_R_pass hw hc hc2 hn hown hkd (by omega) (by omega) hl hk⟩
    exfalso
    unfold isW at hw
    omega
  have s8 := st 8 (jit (fun _ _ _ _ => False) (wb_X12_layOut_b131 Q) 4) M (Or.inl rfl) ⟨fun _ _ _ => rfl, fun _ _ => rfl, fun j j1 hd => ?_⟩ fun M8 l8 => ?_
  · rw [e8] at s8; exact s8
  · have := hW j j1
    have hd2 := hd.2
    unfold isW at this
    omega
  rw [lb_4]
  refine st 4 _ M8 (Or.inr (Or.inl rfl)) (lm_next hW (by omega) l8) fun M4 l4 => ?_
  rw [lb_2]
  refine st 2 _ M4 (Or.inr (Or.inr (Or.inl rfl))) (lm_next hW (by omega) l4) fun M2 l2 => ?_
  rw [lb_1]
  refine st 1 _ M2 (Or.inr (Or.inr (Or.inr rfl))) (lm_next hW (by omega) l2) fun M1 l1 => ?_
  rw [lb_0]
  show wb_X12_layOut_b131 Q (jit (fun _ _ _ _ => False) (wb_X12_layOut_b131 Q) 0) c (lb (M 17) (M 12) (6 * c) e n 0) 0 M1
  unfold wb_X12_layOut_b131
  exact ⟨fun _ => ⟨hc, hc2, fun M3 e3 => by rw [e3]; exact h M1 (lm_next hW (by omega) l1)⟩, fun z => by omega⟩
/-- how many of the first k own fields are no statics -/
def ns (st : Int → Int) (b : Int) : Nat → Int
  | 0 => 0
  | k + 1 => ns st b k + (if st (b + k) = 0 then 1 else 0)
theorem ns_bd (st : Int → Int) (b : Int) (k : Nat) : 0 ≤ ns st b k ∧ ns st b k ≤ k := by
  induction k with
  | zero => exact ⟨by show (0 : Int) ≤ 0; omega, by show (0 : Int) ≤ 0; omega⟩
  | succ k ih =>
    show 0 ≤ ns st b k + (if st (b + k) = 0 then 1 else 0) ∧ ns st b k + (if st (b + k) = 0 then 1 else 0) ≤ _
    by_cases z : st (b + k) = 0
    · rw [if_pos z]; omega
    · rw [if_neg z]; omega
/-- a field's slot, or a static's number -/
def sl (st : Int → Int) (b base : Int) (j : Nat) : Int := if st (b + j) = 0 then base + ns st b j else j - ns st b j
set_option maxHeartbeats 800000 in
theorem p_R_layOut {Q : Int → MM → Prop} {c : Int} {n : Nat} {M : MM} {base e : Int} (hc : 0 ≤ c) (hc2 : c < 16) (hn : n ≤ 6) (hown : M 9 c = n) (hkd : ∀ j : Nat, j < n → 0 ≤ M 12 (6 * c + j) ∧ M 12 (6 * c + j) ≤ 5) (hp : -1 ≤ M 8 c) (hp2 : M 8 c < 16) (hbase : base = if M 8 c = -1 then 0 else M 10 (M 8 c)) (hpc : M 8 c ≠ c) (hee : e = if M 8 c = -1 then 12 else M 11 (M 8 c)) (hb0 : 0 ≤ base) (hb1 : base ≤ 200) (he : 0 ≤ e) (he2 : e ≤ 8000)
    (h : ∀ M', (∀ q i, q ≠ 10 → q ≠ 11 → q ≠ 14 → q ≠ 15 → M' q i = M q i) → (∀ i, i ≠ c → M' 10 i = M 10 i ∧ M' 11 i = M 11 i) → (∀ i, ¬ (6 * c ≤ i ∧ i < 6 * c + n) → M' 14 i = M 14 i ∧ M' 15 i = M 15 i) → M' 10 c = base + ns (M 17) (6 * c) n → M' 11 c = lb (M 17) (M 12) (6 * c) e n 0 → (∀ j : Nat, j < n → M' 14 (6 * c + j) = sl (M 17) (6 * c) base j ∧ (M 17 (6 * c + j) = 0 → M' 15 (6 * c + j) = lp (M 17) (M 12) (6 * c) e n j)) → Q 0 M') : w_X12_layOut Q c M := by
  have hfin : ∀ M1, (∀ q i, q ≠ 14 → M1 q i = M q i) → (∀ i, ¬ (6 * c ≤ i ∧ i < 6 * c + n) → M1 14 i = M 14 i) → (∀ j : Nat, j < n → M1 14 (6 * c + j) = sl (M 17) (6 * c) base j) → w_X12_layOut_b125 Q c e (ux_ M1 10 c (base + ns (M 17) (6 * c) n)) := by
    intro M1 f1 f2 f3
    have g : ∀ q i, q ≠ 14 → q ≠ 10 → ux_ M1 10 c (base + ns (M 17) (6 * c) n) q i = M q i := fun q i h1 h2 => by rw [ux_c _ _ _ _ h2]; exact f1 q i h1
    have g17 : ux_ M1 10 c (base + ns (M 17) (6 * c) n) 17 = M 17 := by funext i; exact g 17 i (by decide) (by decide)
    have g12 : ux_ M1 10 c (base + ns (M 17) (6 * c) n) 12 = M 12 := by funext i; exact g 12 i (by decide) (by decide)
    unfold w_X12_layOut_b125
    refine p_R_passes (n := n) hc hc2 hn (by rw [g 9 c (by decide) (by decide)]; exact hown) (by rw [g12]; exact hkd) he he2 fun M2 hl => ?_
    obtain ⟨l1, l2, l3⟩ := hl
    rw [g17, g12] at l3 ⊢
    refine h _ ?_ ?_ ?_ ?_ ?_ ?_
    · intro q i q1 q2 q3 q4; rw [ux_c _ _ _ _ q2, l1 q i q4]; exact g q i q3 q1
    · intro i hi; rw [ux_c _ _ _ _ (by decide), ux_i _ _ _ hi, l1 10 i (by decide), l1 11 i (by decide), ux_i _ _ _ hi, f1 10 i (by decide)]; exact ⟨rfl, g 11 i (by decide) (by decide)⟩
    · intro i hi; rw [ux_c _ _ _ _ (by decide), ux_c _ _ _ _ (by decide), l1 14 i (by decide), l2 i hi, ux_c _ _ _ _ (by decide)]; exact ⟨f2 i hi, g 15 i (by decide) (by decide)⟩
    · rw [ux_c _ _ _ _ (by decide), l1 10 c (by decide), ux_s]
    · rw [ux_s]
    · intro j j1
      rw [ux_c _ _ _ _ (by decide), ux_c _ _ _ _ (by decide), l1 14 _ (by decide), ux_c _ _ _ _ (by decide)]
      refine ⟨f3 j j1, fun hs => l3 j j1 ⟨hs, Or.inl ?_⟩⟩
      have := wdt_W (hkd j j1).1 (hkd j j1).2
      unfold isW at this
      omega
  have H : ∀ (m : Nat) (k : Nat) (M1 : MM), k ≤ n → (n : Int) - k < m → (∀ q i, q ≠ 14 → M1 q i = M q i) → (∀ i, ¬ (6 * c ≤ i ∧ i < 6 * c + n) → M1 14 i = M 14 i) → (∀ j : Nat, j < k → M1 14 (6 * c + j) = sl (M 17) (6 * c) base j) → jit (fun _ _ _ _ _ => False) (wb_X12_layOut_b31 Q) m c (base + ns (M 17) (6 * c) k) (k - ns (M 17) (6 * c) k) k M1 := by
    intro m
    induction m with
    | zero => intro k M1 k1 hm f1 f2 f3; omega
    | succ m ih =>
      intro k M1 k1 hm f1 f2 f3
      have hb := ns_bd (M 17) (6 * c) k
      show wb_X12_layOut_b31 Q (jit (fun _ _ _ _ _ => False) (wb_X12_layOut_b31 Q) m) c (base + ns (M 17) (6 * c) k) (k - ns (M 17) (6 * c) k) k M1
      unfold wb_X12_layOut_b31
      refine ⟨hc, hc2, fun v1 e1 g1 => ?_⟩
      rw [f1 9 c (by decide), hown] at e1
      subst e1
      refine ⟨fun z => ⟨hc, hc2, fun M3 e3 => ⟨hc, hc2, fun v4 e4 g4 => ?_⟩⟩, fun z => ⟨by unfold ri_; omega, by unfold ri_; omega, by omega, by omega, fun v10 e10 g10 => ?_⟩⟩
      · have e9 : k = n := by omega
        subst e9
        have e8 : v4 = M 8 c := by rw [e4, e3, ux_c _ _ _ _ (by decide)]; exact f1 8 c (by decide)
        have hfin' := hfin M1 f1 f2 f3
        rw [← e3] at hfin'
        refine ⟨fun z4 => ⟨hc, hc2, fun v6 e6 g6 => ?_⟩, fun z4 => ?_⟩
        · have e6' : v6 = M 8 c := by rw [e6, e3, ux_c _ _ _ _ (by decide)]; exact f1 8 c (by decide)
          refine ⟨by omega, by omega, fun v7 e7 g7 => ?_⟩
          have : v7 = e := by rw [e7, e3, ux_c _ _ _ _ (by decide), f1 11 _ (by decide), e6', hee, if_neg (by omega)]
          rw [this]; exact hfin'
        · have : e = 12 := by rw [hee, if_pos (by omega)]
          rw [this] at hfin'; exact hfin'
      · rw [f1 17 _ (by decide)] at e10
        have hkn : k < n := by omega
        have hnx : ∀ x, sl (M 17) (6 * c) base k = x → ((∀ q i, q ≠ 14 → ux_ M1 14 (6 * c + k) x q i = M q i) ∧ (∀ i, ¬ (6 * c ≤ i ∧ i < 6 * c + n) → ux_ M1 14 (6 * c + k) x 14 i = M 14 i) ∧ (∀ j : Nat, j < k + 1 → ux_ M1 14 (6 * c + k) x 14 (6 * c + j) = sl (M 17) (6 * c) base j)) := by
          intro x hx
          refine ⟨fun q i hq => by rw [ux_c _ _ _ _ hq]; exact f1 q i hq, fun i hi => by rw [ux_i _ _ _ (by omega)]; exact f2 i hi, fun j j1 => ?_⟩
          by_cases ej : j = k
          · subst ej; rw [ux_s]; exact hx.symm
          · rw [ux_i _ _ _ (by omega)]; exact f3 j (by omega)
        refine ⟨fun z10 => ⟨by omega, by omega, fun M12 e12 => ⟨by unfold ri_; omega, by unfold ri_; omega, ?_⟩⟩, fun z10 => ⟨by omega, by omega, fun M14 e14 => ⟨by unfold ri_; omega, by unfold ri_; omega, ?_⟩⟩⟩
        · have h17 : M 17 (6 * c + k) = 0 := by rw [← e10]; exact z10
          have := hnx (base + ns (M 17) (6 * c) k) (by unfold sl; rw [if_pos h17])
          have t := ih (k + 1) _ (by omega) (by omega) this.1 this.2.1 this.2.2
          rw [show ns (M 17) (6 * c) (k + 1) = ns (M 17) (6 * c) k + 1 from by show _ + (if _ then _ else _) = _; rw [if_pos h17]] at t
          rw [e12]
          rw [show base + ns (M 17) (6 * c) k + 1 = base + (ns (M 17) (6 * c) k + 1) from by omega, show (k : Int) - ns (M 17) (6 * c) k = ((k + 1 : Nat) : Int) - (ns (M 17) (6 * c) k + 1) from by omega]
          exact t
        · have h17 : ¬ M 17 (6 * c + k) = 0 := by rw [← e10]; exact z10
          have := hnx (k - ns (M 17) (6 * c) k) (by unfold sl; rw [if_neg h17])
          have t := ih (k + 1) _ (by omega) (by omega) this.1 this.2.1 this.2.2
          rw [show ns (M 17) (6 * c) (k + 1) = ns (M 17) (6 * c) k from by show _ + (if _ then _ else _) = _; rw [if_neg h17]; omega] at t
          rw [e14]
          rw [show (k : Int) - ns (M 17) (6 * c) k + 1 = ((k + 1 : Nat) : Int) - ns (M 17) (6 * c) k from by omega]
          exact t
  have Hs := H (n + 1) 0 M (by omega) (by omega) (fun _ _ _ => rfl) (fun _ _ => rfl) (fun j j1 => by omega)
  rw [show base + ns (M 17) (6 * c) 0 = base from by show base + 0 = base; omega, show ((0 : Nat) : Int) - ns (M 17) (6 * c) 0 = 0 from rfl] at Hs
  unfold w_X12_layOut
  refine ⟨hc, hc2, fun v1 e1 g1 => ?_⟩
  subst e1
  refine ⟨fun z => ⟨hc, hc2, fun v3 e3 g3 => ?_⟩, fun z => ?_⟩
  · subst e3
    refine ⟨by omega, by omega, fun v4 e4 g4 => ?_⟩
    have : v4 = base := by rw [e4, hbase, if_neg z]
    rw [this]; exact ⟨_, Hs⟩
  · have : base = 0 := by rw [hbase, if_pos z]
    rw [this] at Hs; exact ⟨_, Hs⟩
