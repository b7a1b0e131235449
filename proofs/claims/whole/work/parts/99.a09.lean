/-! collect, on both sides: the end -/
def dI (C R M : MM) (W : List Int) (o : Int) : Prop := (∀ k, k ∉ [0, 22, 36, 37] → M k = R k) ∧ (∀ i, i ∉ ([28, 47] : List Int) → M 0 i = R 0 i) ∧ M 0 28 = R 0 28 - (sm C o.toNat - nf C W o.toNat) ∧ (∀ i, M 22 i = if 0 ≤ i ∧ i < o ∧ i ∉ W then 0 else R 22 i) ∧ ∀ i, 0 ≤ i → i < 400 → M 37 i = ix W i
set_option maxHeartbeats 400000 in
theorem p_R_drop13 {Q : Int → MM → Prop} {C R M : MM} {W : List Int} (hY : Rty C R) (hH : Rhp C R) (hW : ∀ o ∈ W, hOk C o) (h : WR R M W) (hq : ∀ M', dI C R M' W (C 26 1) → Q (ct C (C 26 1).toNat - cw W (C 26 1).toNat) (ux_ M' 0 36 0)) : w_X12_collect_b13 Q 0 0 M := by
  have n0 := hH.2.1
  have n4 := hH.2.2.1
  have m1 := hH.1
  have hnn : ∀ o : Int, 0 ≤ o → o < ((C 26 1).toNat : Nat) → C 27 o ≠ -1 → 0 ≤ ln C o := fun o a b c => (hp_at hY hH ⟨a, by omega, c⟩).1
  have hWn : ∀ o ∈ W, C 27 o ≠ -1 := fun o ho => (hW o ho).2.2
  have h28 := hH.2.2.2.2.1
  have h6 := hH.2.2.2.2.2.1
  have h7 := hH.2.2.2.2.2.2.1
  refine loop3 _ (fun y o M1 => 0 ≤ o ∧ o ≤ C 26 1 ∧ y = ct C o.toNat - cw W o.toNat ∧ 0 ≤ y ∧ y ≤ o ∧ dI C R M1 W o) (fun _ o _ => (C 26 1 - o).toNat) ?_ _ _ _ ⟨by omega, n0, rfl, by omega, by omega, ?_⟩
  · rintro y o M1 f ⟨o0, o1, hy, y0, y1, i1, i2, i3, i4, i5⟩ ih
    have hle := nf_le hnn hWn o.toNat (by omega)
    have hsm := sm_mono hnn 0 o.toNat (by omega) (by omega)
    have hnf := nf_mono hnn hWn 0 o.toNat (by omega) (by omega)
    have hsm2 := sm_mono hnn o.toNat (C 26 1).toNat (by omega) (by omega)
    have z1 : sm C 0 = 0 := rfl
    have z2 : nf C W 0 = 0 := rfl
    have tn : (o + 1).toNat = o.toNat + 1 := by omega
    have oN : ((o.toNat : Nat) : Int) = o := by omega
    have es : sm C (o.toNat + 1) = sm C o.toNat + (if C 27 o = -1 then 0 else ln C o) := by
      show sm C o.toNat + (if C 27 ((o.toNat : Nat) : Int) = -1 then 0 else ln C ((o.toNat : Nat) : Int)) = _
      rw [oN]
    have en : nf C W (o.toNat + 1) = nf C W o.toNat + (if o ∈ W then ln C o else 0) := by
      show nf C W o.toNat + (if ((o.toNat : Nat) : Int) ∈ W then ln C ((o.toNat : Nat) : Int) else 0) = _
      rw [oN]
    have ec : ct C (o.toNat + 1) = ct C o.toNat + (if C 27 o = -1 then 0 else 1) := by
      show ct C o.toNat + (if C 27 ((o.toNat : Nat) : Int) = -1 then 0 else 1) = _
      rw [oN]
    have ew : cw W (o.toNat + 1) = cw W o.toNat + (if o ∈ W then 1 else 0) := by
      show cw W o.toNat + (if ((o.toNat : Nat) : Int) ∈ W then 1 else 0) = _
      rw [oN]
    unfold wb_X12_collect_b13
    intro v1 e1 _
    rw [i2 26 (by decide), ← m1] at e1
    subst e1
    refine ⟨fun z M3 e3 => ?_, fun z => ⟨o0, by omega, fun v4 e4 _ => ?_⟩⟩
    · have : o = C 26 1 := by omega
      subst this
      rw [e3, hy]
      exact hq M1 ⟨i1, i2, i3, i4, i5⟩
    · rw [i4, if_neg (by omega), (hH.2.2.2.2.2.2.2.2.2.1 o o0 (by omega)).1] at e4
      have same : (C 27 o = -1 ∨ o ∈ W) → w_X12_collect_b78 Q f y o M1 := by
        intro hs
        have hc : (if C 27 o = -1 then (0 : Int) else 1) = (if o ∈ W then 1 else 0) := by
          rcases hs with q | q
          · rw [if_pos q, if_neg (fun q2 => hWn o q2 q)]
          · rw [if_neg (hWn o q), if_pos q]
        have hl : (if C 27 o = -1 then (0 : Int) else ln C o) = (if o ∈ W then ln C o else 0) := by
          rcases hs with q | q
          · rw [if_pos q, if_neg (fun q2 => hWn o q2 q)]
          · rw [if_neg (hWn o q), if_pos q]
        have h0 : C 27 o = -1 → R 22 o = 0 := fun q => by rw [(hH.2.2.2.2.2.2.2.2.2.1 o o0 (by omega)).1, if_pos q]
        unfold w_X12_collect_b78
        refine ⟨by unfold ri_; omega, ih _ _ _ ⟨by omega, by omega, by rw [tn, ec, ew, hc]; omega, y0, by omega, i1, i2, by rw [tn, es, en, hl]; omega, fun i => ?_, i5⟩ (by omega)⟩
        rw [i4]
        by_cases q : i = o
        · subst q
          rw [if_neg (by omega)]
          by_cases q2 : i ∈ W
          · rw [if_neg (fun q3 => q3.2.2 q2)]
          · rw [if_pos ⟨o0, by omega, q2⟩]
            rcases hs with q3 | q3
            · exact h0 q3
            · exact absurd q3 q2
        · by_cases q2 : 0 ≤ i ∧ i < o ∧ i ∉ W
          · rw [if_pos q2, if_pos ⟨q2.1, by omega, q2.2.2⟩]
          · rw [if_neg q2, if_neg (fun q3 => q2 ⟨q3.1, ltne q3.2.1 q, q3.2.2⟩)]
      by_cases zz : C 27 o = -1
      · rw [if_pos zz] at e4
        exact ⟨fun _ => same (Or.inl zz), fun q => absurd e4 q⟩
      · rw [if_neg zz] at e4
        have ho : hOk C o := ⟨o0, by omega, zz⟩
        have hat := hp_at hY hH ho
        obtain ⟨ty, hv, -, tl, -⟩ := (hH.2.2.2.2.2.2.2.2.2.1 o o0 (by omega)).2 zz
        refine ⟨fun q => by omega, fun _ => ⟨o0, by omega, fun v6 e6 _ => ?_⟩⟩
        rw [i5 o o0 (by omega)] at e6
        refine ⟨fun z6 => ?_, fun z6 => same (Or.inr ?_)⟩
        · have hno : o ∉ W := ix_m.mp (by rw [← e6]; exact z6)
          refine ⟨o0, by omega, fun M8 e8 v9 e9 _ => ⟨o0, by omega, fun v10 e10 _ => ⟨o0, by omega, fun v11 e11 _ => ?_⟩⟩⟩
          rw [e8, ux_c _ _ _ _ (by decide), i3] at e9
          rw [e8, ux_c _ _ _ _ (by decide), i1 19 (by decide), ← ty] at e10
          rw [e8, ux_c _ _ _ _ (by decide), i1 20 (by decide), ← tl] at e11
          subst e9 e10 e11
          have hY8 : Rty C M8 := Rty_R hY (fun k a b _ => funext fun i => by rw [e8, ux_c _ _ _ _ (by omega), i1 k (by simp; omega)]) (by rw [e8, ux_c _ _ _ _ (by decide), i2 20 (by decide)])
          refine p_R_so hY8 hv fun _ => ?_
          rw [show so C (C 27 o) (C 28 o) = ln C o from rfl]
          rw [if_neg zz] at es ec
          rw [if_neg hno] at en ew
          have hle2 := nf_le hnn hWn (o.toNat + 1) (by omega)
          have hsm3 := sm_mono hnn (o.toNat + 1) (C 26 1).toNat (by omega) (by omega)
          refine ⟨by unfold ri_; omega, fun M15 e15 => ⟨by unfold ri_; omega, ?_⟩⟩
          unfold w_X12_collect_b78
          refine ⟨by unfold ri_; omega, ih _ _ _ ⟨by omega, by omega, by rw [tn, ec, ew]; omega, by omega, by omega, fun k hk => ?_, fun i hi => ?_, by rw [e15, ux_s, tn, es, en]; omega, fun i => ?_, fun i a b => ?_⟩ (by omega)⟩
          · simp at hk
            funext i
            rw [e15, ux_c _ _ _ _ (by omega), e8, ux_c _ _ _ _ (by omega), i1 k (by simp; omega)]
          · simp at hi
            rw [e15, ux_i _ _ _ (by omega), e8, ux_c _ _ _ _ (by decide), i2 i (by simp; omega)]
          · rw [e15, ux_c _ _ _ _ (by decide), e8]
            by_cases q : i = o
            · subst q; rw [ux_s, if_pos ⟨o0, by omega, hno⟩]
            · rw [ux_i _ _ _ q, i4]
              by_cases q2 : 0 ≤ i ∧ i < o ∧ i ∉ W
              · rw [if_pos q2, if_pos ⟨q2.1, by omega, q2.2.2⟩]
              · rw [if_neg q2, if_neg (fun q3 => q2 ⟨q3.1, ltne q3.2.1 q, q3.2.2⟩)]
          · rw [e15, ux_c _ _ _ _ (by decide), e8, ux_c _ _ _ _ (by decide)]; exact i5 i a b
        · by_cases q : o ∈ W
          · exact q
          · exact absurd (e6.trans (ix_out q)) z6
  · refine ⟨fun k hk => h.1 k (by intro q; revert hk q; simp; omega), fun i hi => h.2.1 i (fun q => hi (by rw [q]; decide)), ?_, fun i => ?_, h.2.2.2.2⟩
    · rw [h.2.1 28 (by decide)]
      show R 0 28 = R 0 28 - (0 - 0)
      omega
    · rw [if_neg (by omega), h.1 22 (by decide)]
/-- the class's walk -/
theorem p_C_bfs {Q : Int → MM → Prop} {C R R0 M : MM} (hY : Rty C R0) (hH : Rhp C R) (h : WC C M (rtL C)) (hq : ∀ M', WC C M' (wkL C) → ∀ v2, v2 = M' 26 2 → ri_ v2 → ri_ (v2 - (wkL C).length) ∧ w_X2_dropUnreached_b54 Q (wkL C).length (v2 - (wkL C).length) 0 0 M') : w_X2_dropUnreached_b11 Q (rtL C).length 0 M := by
  have hn0 := hH.2.1
  have hn4 := hH.2.2.1
  obtain ⟨rw1, rw2⟩ := rtL_wl hY hH
  refine loop3 _ (fun y k M2 => 0 ≤ k ∧ k ≤ 401 ∧ ∃ (L : List Int) (m : Nat), y = (L.length : Int) ∧ WC C M2 L ∧ (∀ o ∈ L, hOk C o) ∧ (m : Int) + k = 401 ∧ bf (slk C) (lnN C) m k.toNat L = wkL C) (fun _ k _ => (401 - k).toNat) ?_ _ _ _ ⟨by omega, by omega, rtL C, 401, rfl, h, rw2, by omega, rfl⟩
  rintro y k M2 f ⟨k0, k1, L, m, rfl, hm, hok, hmk, hbf⟩ ih
  have hll := wl_len hm.2.1 hn0
  unfold wb_X2_dropUnreached_b11 w_X2_dropUnreached_b42
  have m26 : M2 26 1 = C 26 1 := by rw [hm.1 26 (by decide) (by decide)]
  refine ⟨fun z v2 e2 g2 => ?_, fun z v9 e9 _ => ⟨fun z9 => by exfalso; rw [m26] at e9; omega, fun z9 => ⟨k0, by omega, fun v4 e4 _ => ?_⟩⟩⟩
  · have : bf (slk C) (lnN C) m k.toNat L = L := by
      cases m with
      | zero => rfl
      | succ m =>
        show (if k.toNat < L.length then _ else L) = L
        rw [if_neg (by omega)]
    rw [this] at hbf
    rw [hbf] at hm ⊢
    exact hq M2 hm v2 e2 g2
  · have kk : ((k.toNat : Nat) : Int) = k := by omega
    have hk := hm.2.2.1 k.toNat (by omega)
    rw [kk] at hk
    rw [hk] at e4
    subst e4
    have ho := hok _ (gD_mem (L := L) (k := k.toNat) (by omega))
    refine p_meetLinks hY hH ho hm rfl (fun M3 hm3 _ _ => ⟨by unfold ri_; omega, ih _ _ _ ⟨by omega, by omega, fm (slk C (L.getD k.toNat 0)) (lnN C (L.getD k.toNat 0)) L, m - 1, rfl, hm3, fm_ok _ hok (fun j hj => slk_lt hY hH ho hj), by omega, ?_⟩ (by omega)⟩)
    rw [← hbf]
    have em : m = (m - 1) + 1 := by omega
    conv => rhs; rw [em]
    show _ = (if k.toNat < L.length then _ else L)
    rw [if_pos (by omega), show (k + 1).toNat = k.toNat + 1 from by omega]
theorem bf_wl2 {C R R0 : MM} (hY : Rty C R0) (hH : Rhp C R) (m : Nat) : ∀ k L, wl (C 26 1) L → (∀ o ∈ L, hOk C o) → wl (C 26 1) (bf (slk C) (lnN C) m k L) := by
  induction m with
  | zero => intro k L h _; exact h
  | succ m ih =>
    intro k L h hok
    show wl _ (if k < L.length then bf (slk C) (lnN C) m (k + 1) (fm (slk C (L.getD k 0)) (lnN C (L.getD k 0)) L) else L)
    by_cases z : k < L.length
    · rw [if_pos z]
      have ho := hok _ (gD_mem z)
      exact ih _ _ (fm_wl h _ (slk_n hY hH _ ho)) (fm_ok _ hok (fun j hj => slk_lt hY hH ho hj))
    · rw [if_neg z]; exact h
/-- a walk of enough steps through what is there is closed -/
theorem bf_end2 {C R R0 : MM} (hY : Rty C R0) (hH : Rhp C R) {sl : Int → Nat → Int} (hs : ∀ o k, hOk C o → k < lnN C o → sl o k = -1 ∨ hOk C (sl o k)) (m : Nat) : ∀ (k : Nat) (L : List Int), wl (C 26 1) L → (∀ o ∈ L, hOk C o) → C 26 1 < (m : Int) + (k : Int) → (∀ j : Nat, j < k → j < L.length → ∀ i, i < lnN C (L.getD j 0) → 0 ≤ sl (L.getD j 0) i → sl (L.getD j 0) i ∈ L) → ∀ j : Nat, j < (bf sl (lnN C) m k L).length → ∀ i : Nat, i < lnN C ((bf sl (lnN C) m k L).getD j 0) → 0 ≤ sl ((bf sl (lnN C) m k L).getD j 0) i → sl ((bf sl (lnN C) m k L).getD j 0) i ∈ bf sl (lnN C) m k L := by
  have n0 := hH.2.1
  induction m with
  | zero =>
    intro k L h hok hk hc j hj i hi h0
    have := wl_len h n0
    have hj' : j < L.length := hj
    exact hc j (by omega) hj i hi h0
  | succ m ih =>
    intro k L h hok hk hc
    have e : bf sl (lnN C) (m + 1) k L = if k < L.length then bf sl (lnN C) m (k + 1) (fm (sl (L.getD k 0)) (lnN C (L.getD k 0)) L) else L := rfl
    by_cases z : k < L.length
    · rw [if_pos z] at e
      rw [e]
      have ho := hok _ (gD_mem z)
      refine ih _ _ (fm_wl h _ (fun j hj => by rcases hs _ j ho hj with q | q; omega; exact q.2.1)) (fm_ok _ hok (fun j hj => hs _ j ho hj)) (by omega) fun j hj hjl i hi h0 => ?_
      have jl : j < L.length := by omega
      rw [fm_gD jl] at hi h0 ⊢
      by_cases ej : j = k
      · rw [ej] at hi h0 ⊢
        exact fm_has _ i hi h0
      · exact fm_sub (hc j (by omega) jl i hi h0) _
    · rw [if_neg z] at e
      rw [e]
      exact fun j hj i hi h0 => hc j (by omega) hj i hi h0
theorem wk_closed {C R R0 : MM} (hY : Rty C R0) (hH : Rhp C R) {o : Int} (ho : o ∈ wkL C) {k : Nat} (hk : k < lnN C o) (h0 : 0 ≤ slk C o k) : slk C o k ∈ wkL C := by
  obtain ⟨rw1, rw2⟩ := rtL_wl hY hH
  have n4 := hH.2.2.1
  have hx := gD_ix ho
  have h1 : (ix (wkL C) o).toNat < (wkL C).length := by
    have : ix (wkL C) o ≠ -1 := fun q => (ix_m.mp q) ho
    have := (ix_lt (L := wkL C) (o := o)).1
    have := (ix_lt (L := wkL C) (o := o)).2
    omega
  have q := bf_end2 (sl := slk C) hY hH (fun o k ho hk => slk_lt hY hH ho hk) 401 0 (rtL C) rw1 rw2 (by omega) (fun j hj => by omega) _ h1 k
  have e : bf (slk C) (lnN C) 401 0 (rtL C) = wkL C := rfl
  rw [e, hx] at q
  exact q hk h0
theorem wkL_ok {C R R0 : MM} (hY : Rty C R0) (hH : Rhp C R) : wl (C 26 1) (wkL C) ∧ (∀ o ∈ wkL C, hOk C o) ∧ (∀ o ∈ rtL C, o ∈ wkL C) ∧ (∀ o ∈ wkL C, ∀ k, k < lnN C o → 0 ≤ slk C o k → slk C o k ∈ wkL C) := by
  obtain ⟨rw1, rw2⟩ := rtL_wl hY hH
  have ok := bf_ok hY hH (fun o k ho hk => slk_lt hY hH ho hk) 401 0 (rtL C) rw2
  refine ⟨⟨?_, fun o ho => ⟨(ok o ho).1, (ok o ho).2.1⟩⟩, ok, fun o ho => bf_sub _ _ _ ho, ?_⟩
  · have := bf_wl2 hY hH 401 0 (rtL C) rw1 rw2
    exact this.1
  · intro o ho k hk h0
    exact wk_closed hY hH ho hk h0

set_option maxHeartbeats 800000 in
theorem t_collect {C R : MM} (hB : RB C R) (hJ : Rjn C R) : w_X11_collect (fun r C' => w_X12_collect (fun r' R' => r = r' ∧ R' 0 0 = 0 ∧ RB C' R' ∧ Rjn C' R' ∧ (∀ k, k ∉ [26, 27, 29, 30, 31, 34, 35, 36] → C' k = C k) ∧ (∀ i, i ∉ ([2, 3] : List Int) → C' 26 i = C 26 i) ∧ (∀ i, i ≠ 6 → C' 36 i = C 36 i) ∧ (∀ k, k ∉ [0, 22, 36, 37] → R' k = R k) ∧ (∀ i, i ∉ ([0, 28, 36, 47] : List Int) → R' 0 i = R 0 i)) R) C := by
  have hH := hB.2.2
  have hY := hB.1.2.2.2.2
  have n0 := hH.2.1
  have n4 := hH.2.2.1
  unfold w_X11_collect w_X3_forgetUndo
  intro C0 e0
  have c0 : ∀ k, k ≠ 36 → C0 k = C k := fun k hk => funext fun i => by rw [e0, ux_c _ _ _ _ hk]
  have hY0 : Rty C0 R := Rty_C hY (fun k a b => c0 k (by omega))
  have hH0 : Rhp C0 R := Rhp_C hH (fun k hk => c0 k (by intro q; rw [q] at hk; revert hk; decide)) (by rw [c0 8 (by decide)]) (fun i _ => by rw [c0 26 (by decide)]) (fun _ _ => rfl) (fun _ _ => rfl) (by
    have q := hH.2.2.2.2.2.2.2.2.2.2.2.1
    unfold Rrt at q ⊢
    rw [c0 26 (by decide), c0 33 (by decide), hOk_eq (by rw [c0 26 (by decide)]) (c0 27 (by decide))]; exact q)
  have hB0 : RB C0 R := RB_of hB hH0 (fun k a b => c0 k (by omega)) (fun _ _ _ _ => rfl) (fun _ _ => rfl)
  have c26 : C0 26 = C 26 := c0 26 (by decide)
  obtain ⟨w1, w2, w3, w4⟩ := wkL_ok hY0 hH0
  have wlen := wl_len w1 (by rw [c26]; exact n0)
  unfold w_X2_dropUnreached
  refine p_clearMarks (by rw [c26]; exact n0) (by rw [c26]; exact n4) fun M1 hm1 => ?_
  refine p_meetRoots hY0 hH0 hm1 fun M2 hm2 _ _ => ?_
  refine p_C_bfs hY0 hH0 hm2 fun M3 hm3 v2 e2 g2 => ?_
  have h4 := hH.2.2.2.1
  have hcb := ct_bd C (C 26 1).toNat
  rw [hm3.1 26 (by decide) (by decide), c26] at e2
  subst e2
  rw [c26] at wlen
  refine ⟨by unfold ri_; omega, ?_⟩
  refine p_drop46 hY0 hH0 w2 hm3 fun M4 hI _ => ?_
  rw [c26] at hI
  rw [c26]
  -- the reference
  have R00Y : Rty C0 (ux_ R 0 0 0) := Rty_R hY0 (fun k a b _ => funext fun i => ux_c _ _ _ _ (by omega)) (ux_i _ _ _ (by decide))
  have R00H : Rhp C0 (ux_ R 0 0 0) := Rhp_R hH0 (fun k hk => funext fun i => ux_c _ _ _ _ (by intro q; rw [q] at hk; revert hk; decide)) (fun i hi => ux_i _ _ _ (by intro q; rw [q] at hi; revert hi; decide))
  unfold w_X12_collect
  intro A1 f1
  subst f1
  refine p_R_walkRoots R00Y R00H fun A2 hA2 => ?_
  refine p_R_drop13 R00Y R00H w2 hA2 fun A3 hI2 => ?_
  rw [c26] at hI2
  rw [c26]
  obtain ⟨i1, i2, i3, i4, i5, i6⟩ := hI
  obtain ⟨d1, d2, d3, d4, d5⟩ := hI2
  have ecw : cw (wkL C0) (C 26 1).toNat = (wkL C0).length := cw_len _ _ w1.1 (fun o ho => by have := w1.2 o ho; rw [c26] at this; omega)
  have ect : ct C0 = ct C := ct_eq (c0 27 (by decide))
  have eln : ln C0 = ln C := ln_eq (c0 16 (by decide)) (c0 27 (by decide)) (c0 28 (by decide))
  have esm : sm C0 = sm C := sm_eq (c0 16 (by decide)) (c0 27 (by decide)) (c0 28 (by decide))
  -- what is left of the class's memory
  have k26 : ∀ i, i ∉ ([2, 3] : List Int) → ux_ (ux_ M4 26 3 (nf C0 (wkL C0) (C 26 1).toNat)) 26 2 (wkL C0).length 26 i = C 26 i := by
    intro i hi
    simp at hi
    rw [ux_i _ _ _ (by omega), ux_i _ _ _ (by omega), i1 26 (by decide), c26]
  have kk : ∀ k, k ≠ 26 → ux_ (ux_ M4 26 3 (nf C0 (wkL C0) (C 26 1).toNat)) 26 2 (wkL C0).length k = M4 k := fun k hk => funext fun i => by rw [ux_c _ _ _ _ hk, ux_c _ _ _ _ hk]
  have kc : ∀ k, k ∉ [26, 27, 29, 30, 31, 34, 35, 36] → ux_ (ux_ M4 26 3 (nf C0 (wkL C0) (C 26 1).toNat)) 26 2 (wkL C0).length k = C k := by
    intro k hk
    simp at hk
    rw [kk k (by omega), i1 k (by simp; omega), c0 k (by omega)]
  have k36 : ∀ i, i ≠ 6 → ux_ (ux_ M4 26 3 (nf C0 (wkL C0) (C 26 1).toNat)) 26 2 (wkL C0).length 36 i = C 36 i := by
    intro i hi
    rw [kk 36 (by decide), i1 36 (by decide), e0, ux_i _ _ _ hi]
  have k366 : ux_ (ux_ M4 26 3 (nf C0 (wkL C0) (C 26 1).toNat)) 26 2 (wkL C0).length 36 6 = 0 := by rw [kk 36 (by decide), i1 36 (by decide), e0, ux_s]
  have rr : ∀ k, k ∉ [0, 22, 36, 37] → ux_ A3 0 36 0 k = R k := by
    intro k hk
    have hk0 : k ≠ 0 := fun q => hk (by rw [q]; decide)
    funext i
    rw [ux_c _ _ _ _ hk0, d1 k hk, ux_c _ _ _ _ hk0]
  have r0 : ∀ i, i ∉ ([0, 28, 36, 47] : List Int) → ux_ A3 0 36 0 0 i = R 0 i := by
    intro i hi
    simp at hi
    rw [ux_i _ _ _ (by omega), d2 i (by simp; omega), ux_i _ _ _ (by omega)]
  have r00 : ux_ A3 0 36 0 0 0 = 0 := by rw [ux_i _ _ _ (by decide), d2 0 (by decide), ux_s]
  have r28 : ux_ A3 0 36 0 0 28 = R 0 28 - (sm C (C 26 1).toNat - nf C0 (wkL C0) (C 26 1).toNat) := by rw [ux_i _ _ _ (by decide), d3, ux_i _ _ _ (by decide), esm]
  have r22 : ∀ i, ux_ A3 0 36 0 22 i = if 0 ≤ i ∧ i < C 26 1 ∧ i ∉ wkL C0 then 0 else R 22 i := by
    intro i
    rw [ux_c _ _ _ _ (by decide), d4, ux_c _ _ _ _ (by decide)]
  have m27 : ∀ i, ux_ (ux_ M4 26 3 (nf C0 (wkL C0) (C 26 1).toNat)) 26 2 (wkL C0).length 27 i = if 0 ≤ i ∧ i < C 26 1 ∧ i ∉ wkL C0 then -1 else C 27 i := by
    intro i
    rw [kk 27 (by decide), i3, c0 27 (by decide)]
  have inW : ∀ o, o ∈ wkL C0 → hOk C o := fun o ho => by
    have := w2 o ho
    unfold hOk at this ⊢
    rw [c26, c0 27 (by decide)] at this
    exact this
  have in27 : ∀ o, o ∈ wkL C0 → ux_ (ux_ M4 26 3 (nf C0 (wkL C0) (C 26 1).toNat)) 26 2 (wkL C0).length 27 o = C 27 o := fun o ho => by rw [m27, if_neg (fun q => q.2.2 ho)]
  have inOk : ∀ o, o ∈ wkL C0 → hOk (ux_ (ux_ M4 26 3 (nf C0 (wkL C0) (C 26 1).toNat)) 26 2 (wkL C0).length) o := fun o ho => ⟨(inW o ho).1, by rw [k26 1 (by decide)]; exact (inW o ho).2.1, by rw [in27 o ho]; exact (inW o ho).2.2⟩
  have okIn : ∀ o, 0 ≤ o → o < C 26 1 → ux_ (ux_ M4 26 3 (nf C0 (wkL C0) (C 26 1).toNat)) 26 2 (wkL C0).length 27 o ≠ -1 → o ∈ wkL C0 := fun o a b c => by
    by_cases q : o ∈ wkL C0
    · exact q
    · rw [m27, if_pos ⟨a, b, q⟩] at c; exact absurd rfl c
  have out27 : ∀ o, 0 ≤ o → o < C 26 1 → o ∉ wkL C0 → ux_ (ux_ M4 26 3 (nf C0 (wkL C0) (C 26 1).toNat)) 26 2 (wkL C0).length 27 o = -1 := fun o a b c => by rw [m27, if_pos ⟨a, b, c⟩]
  have lnW : ∀ o, o ∈ wkL C0 → ln (ux_ (ux_ M4 26 3 (nf C0 (wkL C0) (C 26 1).toNat)) 26 2 (wkL C0).length) o = ln C o := fun o ho => by
    unfold ln
    rw [in27 o ho, kc 28 (by decide), so_eq (kc 16 (by decide))]
  have smW : ∀ n : Nat, (n : Int) ≤ C 26 1 → sm (ux_ (ux_ M4 26 3 (nf C0 (wkL C0) (C 26 1).toNat)) 26 2 (wkL C0).length) n = nf C0 (wkL C0) n := by
    intro n
    induction n with
    | zero => intro _; rfl
    | succ n ih =>
      intro hn
      show sm _ n + (if ux_ (ux_ M4 26 3 (nf C0 (wkL C0) (C 26 1).toNat)) 26 2 (wkL C0).length 27 n = -1 then 0 else ln _ n) = nf C0 (wkL C0) n + (if (n : Int) ∈ wkL C0 then ln C0 n else 0)
      rw [ih (by omega)]
      by_cases q : (n : Int) ∈ wkL C0
      · rw [if_neg (inOk _ q).2.2, if_pos q, lnW _ q, eln]
      · rw [if_pos (out27 n (by omega) (by omega) q), if_neg q]
  have ctW : ∀ n : Nat, (n : Int) ≤ C 26 1 → ct (ux_ (ux_ M4 26 3 (nf C0 (wkL C0) (C 26 1).toNat)) 26 2 (wkL C0).length) n = cw (wkL C0) n := by
    intro n
    induction n with
    | zero => intro _; rfl
    | succ n ih =>
      intro hn
      show ct _ n + (if ux_ (ux_ M4 26 3 (nf C0 (wkL C0) (C 26 1).toNat)) 26 2 (wkL C0).length 27 n = -1 then 0 else 1) = cw (wkL C0) n + (if (n : Int) ∈ wkL C0 then 1 else 0)
      rw [ih (by omega)]
      by_cases q : (n : Int) ∈ wkL C0
      · rw [if_neg (inOk _ q).2.2, if_pos q]
      · rw [if_pos (out27 n (by omega) (by omega) q), if_neg q]
  have e11 := kc 11 (by decide)
  have vLW : ∀ v w, v = -1 ∨ v ∈ wkL C0 → vL C v w → vL (ux_ (ux_ M4 26 3 (nf C0 (wkL C0) (C 26 1).toNat)) 26 2 (wkL C0).length) v w := by
    intro v w hv h
    rcases h with h | ⟨h1, h2⟩
    · exact Or.inl h
    · rcases hv with hv | hv
      · have := h1.1; omega
      · exact Or.inr ⟨inOk v hv, by rw [in27 v hv, ft_eq e11]; exact h2⟩
  have hH1 := hH
  obtain ⟨h1, h2, h3, h4', h5, h6, h7, h8, h9, h10, h11, h12, h13, h14⟩ := hH
  have hnn : ∀ o : Int, 0 ≤ o → o < ((C 26 1).toNat : Nat) → C0 27 o ≠ -1 → 0 ≤ ln C0 o := fun o a b c => by
    rw [eln]; rw [c0 27 (by decide)] at c
    exact (hp_at hY hH1 ⟨a, by omega, c⟩).1
  have hle := nf_le hnn (fun o ho => (w2 o ho).2.2) (C 26 1).toNat (Nat.le_refl _)
  rw [esm] at hle
  have hH2 : Rhp (ux_ (ux_ M4 26 3 (nf C0 (wkL C0) (C 26 1).toNat)) 26 2 (wkL C0).length) (ux_ A3 0 36 0) := by
    refine ⟨?_, ?_, ?_, ?_, ?_, ?_, ?_, ?_, ?_, ?_, ?_, ?_, ?_, ?_⟩
    · rw [k26 1 (by decide), r0 26 (by decide)]; exact h1
    · rw [k26 1 (by decide)]; exact h2
    · rw [k26 1 (by decide)]; exact h3
    · rw [k26 1 (by decide), ux_s, ctW _ (by omega), ecw]
    · rw [ux_i _ _ _ (by decide), ux_s, r28, ← h5, ← h6]; omega
    · rw [k26 1 (by decide), ux_i _ _ _ (by decide), ux_s, smW _ (by omega)]
    · rw [ux_i _ _ _ (by decide), ux_s]; omega
    · rw [r0 27 (by decide)]; exact h8
    · rw [k26 1 (by decide), r0 27 (by decide)]; exact h9
    · rw [k26 1 (by decide)]
      intro o o0 o1
      unfold Rob
      by_cases q : o ∈ wkL C0
      · obtain ⟨q1, q2⟩ := h10 o o0 o1
        have hne := (inW o q).2.2
        obtain ⟨a1, a2, a3, a4, a5, a6, a7, a8, a9, a10⟩ := q2 hne
        have x29 : ux_ (ux_ M4 26 3 (nf C0 (wkL C0) (C 26 1).toNat)) 26 2 (wkL C0).length 29 o = nf C0 (wkL C0) o.toNat := by rw [kk 29 (by decide), i4, if_pos ⟨o0, o1, q⟩]
        have x22 : ux_ A3 0 36 0 22 o = R 22 o := by rw [r22, if_neg (fun q3 => q3.2.2 q)]
        rw [in27 o q, lnW o q, smW _ (by omega), kc 8 (by decide), kc 12 (by decide), kc 28 (by decide), kA_fe (kc 24 (by decide)), lA_fe (kc 25 (by decide)), x29, kk 30 (by decide), kk 31 (by decide), x22, rr 19 (by decide), rr 20 (by decide), rr 21 (by decide), rr 23 (by decide), r0 27 (by decide)]
        refine ⟨q1, fun _ => ⟨a1, a2, a3, a4, a5, a6, rfl, a8, a9, fun k k0 k1 => ?_⟩⟩
        obtain ⟨x1, x2⟩ := i5 o k q o1 k0 (by rw [eln]; exact k1)
        obtain ⟨b1, b2, b3⟩ := a10 k k0 k1
        rw [x1, x2, c0 29 (by decide), c0 30 (by decide), c0 31 (by decide)]
        refine ⟨b1, b2, ?_⟩
        rcases b3 with ⟨b4, b5⟩ | b4
        · refine Or.inl ⟨b4, vLW _ _ ?_ b5⟩
          have es : slk C0 o k.toNat = C 30 (C 29 o + k) := by
            unfold slk
            rw [kA_fe (c0 24 (by decide)), c0 27 (by decide), c0 29 (by decide), c0 30 (by decide), show ((k.toNat : Nat) : Int) = k from by omega, if_pos b4]
          have := w4 o q k.toNat (by unfold lnN; rw [eln]; omega)
          rw [es] at this
          rcases b5 with b6 | b6
          · exact Or.inl b6
          · exact Or.inr (this b6.1.1)
        · exact Or.inr b4
      · have x22 : ux_ A3 0 36 0 22 o = 0 := by rw [r22, if_pos ⟨o0, o1, q⟩]
        rw [out27 o o0 o1 q, x22, if_pos rfl]
        exact ⟨rfl, fun q2 => absurd rfl q2⟩
    · intro o o' o0 oo o1 ne ne'
      rw [k26 1 (by decide)] at o1
      have hi := okIn o o0 (by omega) ne
      have hi' := okIn o' (by omega) o1 ne'
      rw [lnW o hi, rr 21 (by decide)]
      exact h11 o o' o0 oo o1 (inW o hi).2.2 (inW o' hi').2.2
    · obtain ⟨g1, g2, g3, g4, g5⟩ := h12
      unfold Rrt
      rw [k26 11 (by decide), r0 31 (by decide), kc 33 (by decide), rr 24 (by decide)]
      refine ⟨g1, g2, g3, fun k k0 k1 => ⟨(g4 k k0 k1).1, inOk _ (w3 _ ?_)⟩, g5⟩
      have hb := (g4 k k0 k1).2.1
      have : (fun k : Nat => C0 33 (k : Int)) k.toNat = C 33 k := by
        show C0 33 ((k.toNat : Nat) : Int) = _
        rw [c0 33 (by decide), show ((k.toNat : Nat) : Int) = k from by omega]
      rw [← this]
      unfold rtL
      refine fm_sub (fm_has (f := fun k : Nat => C0 33 (k : Int)) _ k.toNat ?_ (by have e9 := this; show 0 ≤ (fun k : Nat => C0 33 (k : Int)) k.toNat; rw [e9]; exact hb)) _
      rw [c26]; omega
    · unfold Rst; rw [kc 32 (by decide), rr 6 (by decide)]; exact h13
    · unfold Rsv
      rw [kc 8 (by decide), kc 14 (by decide), kc 19 (by decide), kc 20 (by decide), kc 21 (by decide), kc 32 (by decide)]
      intro d k d0 d1 k0 k1 k2 k5
      have h := h14 d k d0 d1 k0 k1 k2 k5
      refine vLW _ _ ?_ h
      rcases h with h | h
      · exact Or.inl h
      · refine Or.inr (w3 _ ?_)
        have k6 := (hY.2.2.2.1 d d0 d1).1.2.2.2.2.2.2.2.2.2.1
        have eN : (((6 * d + k).toNat : Nat) : Int) = 6 * d + k := by omega
        have es : stv C0 (6 * d + k).toNat = C 32 (6 * d + k) := by
          unfold stv
          rw [eN, c0 21 (by decide), c0 19 (by decide), c0 32 (by decide), if_neg k2, if_pos k5]
        rw [← es]
        unfold rtL
        exact fm_has _ _ (by rw [c0 8 (by decide)]; omega) (by rw [es]; exact h.1.1)
  obtain ⟨j1, j2, j3, j4⟩ := hJ
  refine ⟨by rw [ecw, ect, h4'], r00, RB_of hB hH2 (fun k a b => kc k (by simp; omega)) (fun k a b _ => rr k (by simp; omega)) (fun i hi => r0 i (by revert hi; simp; omega)), ⟨by rw [k36 1 (by decide), r0 29 (by decide)]; exact j1, by rw [k36 1 (by decide)]; exact j2, ?_, ?_⟩, kc, k26, k36, rr, r0⟩
  · refine ⟨by rw [k36 5 (by decide)]; exact j3.1, by rw [k36 5 (by decide)]; exact j3.2.1, by rw [k366]; omega, by rw [k366]; omega, by rw [k366, ux_s], fun k k0 k1 => ?_⟩
    rw [k366] at k1; omega
  · exact Rwt_e j4 (k36 7 (by decide)) (fun k hk => kc k (by intro q; simp at q; rcases q with rfl | rfl | rfl | rfl | rfl | rfl | rfl | rfl <;> simp at hk)) (by rw [kc 8 (by decide)]; omega) (fun x k _ _ _ q => by rw [kc 14 (by decide)]; exact q) (r0 44 (by decide)) (fun k hk => rr k (by intro q; simp at q; rcases q with rfl | rfl | rfl | rfl <;> simp at hk))
