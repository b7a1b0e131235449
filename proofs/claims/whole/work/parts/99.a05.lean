/-! walks through the heap, on both sides -/
def slk (C : MM) (o : Int) (k : Nat) : Int := if kA C (C 27 o) k = 5 then C 30 (C 29 o + k) else -1
def lnN (C : MM) (o : Int) : Nat := (ln C o).toNat
def stv (C : MM) (f : Nat) : Int := if C 21 f = 0 then -1 else if C 19 f = 5 then C 32 f else -1
def WC (C M : MM) (L : List Int) : Prop := (∀ k, k ≠ 34 → k ≠ 35 → M k = C k) ∧ wl (C 26 1) L ∧ (∀ k : Nat, k < L.length → M 34 k = L.getD k 0) ∧ ∀ o, 0 ≤ o → o < C 26 1 → M 35 o = ix L o
def WR (R M : MM) (L : List Int) : Prop := (∀ k, k ∉ [0, 36, 37] → M k = R k) ∧ (∀ i, i ≠ 47 → M 0 i = R 0 i) ∧ M 0 47 = L.length ∧ (∀ k : Nat, k < L.length → M 36 k = L.getD k 0) ∧ ∀ o, 0 ≤ o → o < 400 → M 37 o = ix L o
theorem p_meet {Q : Int → MM → Prop} {v x : Int} {C M : MM} {L : List Int} (h : WC C M L) (n0 : 0 ≤ C 26 1) (n4 : C 26 1 ≤ 400) (hv : v < C 26 1) (hx : x = L.length) (hq : ∀ M', WC C M' (mt L v) → ri_ ((mt L v).length : Int) → Q ((mt L v).length : Int) M') : w_X2_meet Q v x M := by
  obtain ⟨h1, h2, h3, h4⟩ := h
  have hl := wl_len h2 n0
  subst hx
  have same : mt L v = L → Q (L.length : Int) M := fun e => by
    have := hq M (by rw [e]; exact ⟨h1, h2, h3, h4⟩) (by rw [e]; unfold ri_; omega)
    rw [e] at this; exact this
  unfold w_X2_meet
  refine ⟨fun z => same (mt_neg z), fun z v2 e2 _ => ?_⟩
  rw [h1 26 (by decide) (by decide)] at e2
  subst e2
  refine ⟨fun q => by omega, fun _ => ⟨by unfold ri_; omega, by omega, by omega, fun v5 e5 _ => ?_⟩⟩
  rw [h4 v (by omega) hv] at e5
  refine ⟨fun z5 => ?_, fun z5 => same (mt_in ?_)⟩
  · have hn : v ∉ L := ix_m.mp (by rw [← e5]; exact z5)
    have hlt := wl_lt h2 (by omega) hv hn
    have em := mt_new (L := L) (v := v) (by omega) hn
    refine ⟨by unfold ri_; omega, by omega, by omega, fun M8 e8 => ⟨by unfold ri_; omega, by omega, by omega, fun M10 e10 => ⟨by unfold ri_; omega, ?_⟩⟩⟩
    have := hq M10 ?_ (by rw [em, List.length_append]; unfold ri_; simp; omega)
    · rw [em, List.length_append] at this
      simpa using this
    · rw [em]
      refine ⟨fun k a b => funext fun i => by rw [e10, e8, ux_c _ _ _ _ a, ux_c _ _ _ _ b, h1 k a b], by rw [← em]; exact mt_wl h2 hv, fun k hk => ?_, fun o o0 o1 => ?_⟩
      · rw [List.length_append] at hk
        simp at hk
        rw [e10]
        by_cases z : k = L.length
        · rw [z, ux_s, gD_last]
        · rw [ux_i _ _ _ (by omega), e8, ux_c _ _ _ _ (by decide), gD_app (by omega)]; exact h3 k (by omega)
      · rw [e10, ux_c _ _ _ _ (by decide), e8, ix_app hn]
        by_cases z : o = v
        · rw [if_pos z, z, ux_s]
        · rw [if_neg z, ux_i _ _ _ z]; exact h4 o o0 o1
  · by_cases q : v ∈ L
    · exact q
    · exact absurd (e5.trans (ix_out q)) z5
theorem p_R_meet {Q : Int → MM → Prop} {v n : Int} {R M : MM} {L : List Int} (h : WR R M L) (hw : wl n L) (n0 : 0 ≤ n) (n4 : n ≤ 400) (hv : v < n) (hq : ∀ M', WR R M' (mt L v) → Q 0 M') : w_X12_meet Q v M := by
  have h' := h
  obtain ⟨h1, h2, h3, h4, h5⟩ := h
  have hl := wl_len hw n0
  have same : mt L v = L → Q 0 M := fun e => hq M (by rw [e]; exact h')
  unfold w_X12_meet
  refine ⟨fun z => same (mt_neg z), fun z => ⟨by unfold ri_; omega, by omega, by omega, fun v3 e3 _ => ?_⟩⟩
  rw [h5 v (by omega) (by omega)] at e3
  refine ⟨fun z3 => ?_, fun z3 => same (mt_in ?_)⟩
  · have hn : v ∉ L := ix_m.mp (by rw [← e3]; exact z3)
    have hlt := wl_lt hw (by omega) hv hn
    have em := mt_new (L := L) (v := v) (by omega) hn
    refine ⟨by unfold ri_; omega, fun v6 e6 _ => ⟨by omega, by omega, fun M7 e7 v8 e8 _ => ?_⟩⟩
    rw [e7, ux_c _ _ _ _ (by decide), h3] at e8
    rw [h3] at e6
    subst e8 e6
    refine ⟨by unfold ri_; omega, by omega, by omega, fun M10 e10 v11 e11 _ => ?_⟩
    rw [e10, e7, ux_c _ _ _ _ (by decide), ux_c _ _ _ _ (by decide), h3] at e11
    subst e11
    refine ⟨by unfold ri_; omega, fun M13 e13 => hq M13 ?_⟩
    rw [em]
    refine ⟨fun k hk => funext fun i => ?_, fun i hi => ?_, ?_, fun k hk => ?_, fun o o0 o1 => ?_⟩
    · simp at hk
      rw [e13, e10, e7, ux_c _ _ _ _ (by omega), ux_c _ _ _ _ (by omega), ux_c _ _ _ _ (by omega), h1 k (by simp; omega)]
    · rw [e13, ux_i _ _ _ hi, e10, ux_c _ _ _ _ (by decide), e7, ux_c _ _ _ _ (by decide), h2 i hi]
    · rw [e13, ux_s, List.length_append]; simp
    · rw [List.length_append] at hk
      simp at hk
      rw [e13, ux_c _ _ _ _ (by decide), e10]
      by_cases z : k = L.length
      · rw [z, ux_s, gD_last]
      · rw [ux_i _ _ _ (by omega), e7, ux_c _ _ _ _ (by decide), gD_app (by omega)]; exact h4 k (by omega)
    · rw [e13, ux_c _ _ _ _ (by decide), e10, ux_c _ _ _ _ (by decide), e7, ix_app hn]
      by_cases z : o = v
      · rw [if_pos z, z, ux_s]
      · rw [if_neg z, ux_i _ _ _ z]; exact h5 o o0 o1
  · by_cases q : v ∈ L
    · exact q
    · exact absurd (e3.trans (ix_out q)) z3
/-- links of what is there are of things that are there -/
theorem slk_lt {C R R0 : MM} (hY : Rty C R0) (hH : Rhp C R) {o : Int} (ho : hOk C o) {k : Nat} (hk : k < lnN C o) : slk C o k = -1 ∨ hOk C (slk C o k) := by
  have := (hp_at hY hH ho).1
  unfold lnN at hk
  obtain ⟨-, -, b3⟩ := ((hH.2.2.2.2.2.2.2.2.2.1 o ho.1 ho.2.1).2 ho.2.2).2.2.2.2.2.2.2.2.2 k (by omega) (by omega)
  unfold slk
  by_cases z : kA C (C 27 o) k = 5
  · rw [if_pos z]
    rcases b3 with ⟨-, q | q⟩ | ⟨q, -⟩
    · exact Or.inl q
    · exact Or.inr q.1
    · exact absurd z q
  · rw [if_neg z]; exact Or.inl rfl
theorem p_slotsOf {Q : Int → MM → Prop} {o : Int} {C R R0 M : MM} (hY : Rty C R0) (hH : Rhp C R) (ho : hOk C o) (e : ∀ k, k ∈ [8, 16, 27, 28] → M k = C k) (h : ri_ (ln C o) → Q (ln C o) M) : w_X2_slotsOf Q o M := by
  have hat := hp_at hY hH ho
  have ho0 := ho.1
  have h16 := hY.2.2.1
  unfold w_X2_slotsOf
  refine ⟨ho0, by omega, fun v1 e1 _ => ⟨ho0, by omega, fun v2 e2 _ => ?_⟩⟩
  rw [e 27 (by decide)] at e1
  rw [e 28 (by decide)] at e2
  subst e1 e2
  refine p_so (by rw [e 8 (by decide)]; exact h16) (by rw [e 8 (by decide)]; exact (ob_ty hH ho).1) fun _ => ?_
  rw [so_eq (e 16 (by decide))]
  exact h (by unfold ri_; unfold ln at hat ⊢; omega)
theorem p_meetLinks {Q : Int → MM → Prop} {o x : Int} {C R R0 M : MM} {L : List Int} (hY : Rty C R0) (hH : Rhp C R) (ho : hOk C o) (h : WC C M L) (hx : x = L.length) (hq : ∀ M', WC C M' (fm (slk C o) (lnN C o) L) → ri_ ((fm (slk C o) (lnN C o) L).length : Int) → Q ((fm (slk C o) (lnN C o) L).length : Int) M') : w_X2_meetLinks Q o x M := by
  have hat := hp_at hY hH ho
  have ho0 := ho.1
  have hl : ((lnN C o : Nat) : Int) = ln C o := by unfold lnN; omega
  unfold w_X2_meetLinks
  refine ⟨ho0, by omega, fun v1 e1 _ => ?_⟩
  rw [h.1 29 (by decide) (by decide)] at e1
  subst e1
  refine p_slotsOf hY hH ho (fun k hk => h.1 k (by intro q; rw [q] at hk; revert hk; decide) (by intro q; rw [q] at hk; revert hk; decide)) fun _ _ => ⟨by unfold ri_; omega, ho0, by omega, fun v5 e5 _ => ?_⟩
  rw [h.1 29 (by decide) (by decide)] at e5
  subst e5
  refine loop4 _ (fun y a b M1 => C 29 o + ln C o = a ∧ C 29 o ≤ b ∧ b ≤ C 29 o + ln C o ∧ y = ((fm (slk C o) (b - C 29 o).toNat L).length : Int) ∧ WC C M1 (fm (slk C o) (b - C 29 o).toNat L)) (fun _ _ b _ => (C 29 o + ln C o - b).toNat) ?_ _ _ _ _ ⟨rfl, by omega, by omega, ?_, ?_⟩
  · rintro y _ b M1 f ⟨rfl, b0, b1, rfl, hw⟩ ih
    have hll := wl_len hw.2.1 hH.2.1
    unfold wb_X2_meetLinks_b24
    refine ⟨fun z => ?_, fun z => ⟨by omega, by omega, fun v2 e2 _ => ?_⟩⟩
    · have e : (b - C 29 o).toNat = lnN C o := by unfold lnN; omega
      rw [e] at hw ⊢
      exact hq M1 hw (by rw [e] at hll; unfold ri_; have := hH.2.2.1; omega)
    · obtain ⟨-, c2, -⟩ := ((hH.2.2.2.2.2.2.2.2.2.1 o ho.1 ho.2.1).2 ho.2.2).2.2.2.2.2.2.2.2.2 (b - C 29 o) (by omega) (by omega)
      rw [show C 29 o + (b - C 29 o) = b from by omega] at c2
      rw [hw.1 31 (by decide) (by decide), c2] at e2
      have sn : (b + 1 - C 29 o).toNat = (b - C 29 o).toNat + 1 := by omega
      have kk : (((b - C 29 o).toNat : Nat) : Int) = b - C 29 o := by omega
      have nxt : ∀ M2, WC C M2 (mt (fm (slk C o) (b - C 29 o).toNat L) (slk C o (b - C 29 o).toNat)) → w_X2_meetLinks_b54 Q f ((mt (fm (slk C o) (b - C 29 o).toNat L) (slk C o (b - C 29 o).toNat)).length : Int) (C 29 o + ln C o) b M2 := fun M2 hw2 => by
        unfold w_X2_meetLinks_b54
        exact ⟨by unfold ri_; omega, ih _ _ _ _ ⟨rfl, by omega, by omega, by rw [sn]; rfl, by rw [sn]; exact hw2⟩ (by omega)⟩
      by_cases zk : kA C (C 27 o) (b - C 29 o) = 5
      · rw [if_pos zk] at e2
        refine ⟨fun q => by omega, fun _ => ⟨by omega, by omega, fun v4 e4 _ => ?_⟩⟩
        rw [hw.1 30 (by decide) (by decide)] at e4
        have es : slk C o (b - C 29 o).toNat = v4 := by
          unfold slk
          rw [kk, if_pos zk, show C 29 o + (b - C 29 o) = b from by omega, e4]
        have hb := slk_lt hY hH ho (k := (b - C 29 o).toNat) (by unfold lnN; omega)
        rw [← es]
        exact p_meet hw hH.2.1 hH.2.2.1 (by rcases hb with q | q; omega; exact q.2.1) rfl (fun M' hm _ _ => nxt M' hm)
      · rw [if_neg zk] at e2
        refine ⟨fun _ => ?_, fun q => absurd e2 q⟩
        have es : slk C o (b - C 29 o).toNat = -1 := by
          unfold slk
          rw [kk, if_neg zk]
        have := nxt M1 (by rw [es, mt_neg (by omega)]; exact hw)
        rw [es, mt_neg (by omega)] at this
        exact this
  · rw [hx, show (C 29 o - C 29 o).toNat = 0 from by omega]; rfl
  · rw [show (C 29 o - C 29 o).toNat = 0 from by omega]; exact h
