/-! the walk from the roots, on both sides -/
def rtL (C : MM) : List Int := fm (stv C) (6 * C 8 0).toNat (fm (fun k => C 33 k) (C 26 11).toNat [])
def wkL (C : MM) : List Int := bf (slk C) (lnN C) 401 0 (rtL C)
theorem stv_lt {C R R0 : MM} (hY : Rty C R0) (hH : Rhp C R) {f : Nat} (hf : (f : Int) < 6 * C 8 0) : stv C f = -1 ∨ hOk C (stv C f) := by
  have h16 := hY.2.2.1
  unfold stv
  by_cases z : C 21 f = 0
  · rw [if_pos z]; exact Or.inl rfl
  · rw [if_neg z]
    by_cases z2 : C 19 f = 5
    · rw [if_pos z2]
      have hk : (f : Int) - 6 * ((f : Int) / 6) < C 14 ((f : Int) / 6) := by
        by_cases q : C 14 ((f : Int) / 6) ≤ (f : Int) - 6 * ((f : Int) / 6)
        · have := hY.2.2.2.2.2 ((f : Int) / 6) ((f : Int) - 6 * ((f : Int) / 6)) (by omega) (by omega) q (by omega)
          rw [show 6 * ((f : Int) / 6) + ((f : Int) - 6 * ((f : Int) / 6)) = (f : Int) from by omega] at this
          exact absurd this z
        · omega
      have := hH.2.2.2.2.2.2.2.2.2.2.2.2.2 ((f : Int) / 6) ((f : Int) - 6 * ((f : Int) / 6)) (by omega) (by omega) (by omega) hk
      rw [show 6 * ((f : Int) / 6) + ((f : Int) - 6 * ((f : Int) / 6)) = (f : Int) from by omega] at this
      rcases this z z2 with q | q
      · exact Or.inl q
      · exact Or.inr q.1
    · rw [if_neg z2]; exact Or.inl rfl
theorem fm_ok {C : MM} {f : Nat → Int} {L : List Int} (k : Nat) (hL : ∀ o ∈ L, hOk C o) (hf : ∀ j, j < k → f j = -1 ∨ hOk C (f j)) : ∀ o ∈ fm f k L, hOk C o := by
  intro o ho
  rcases fm_only k ho with q | ⟨j, a, b, c⟩
  · exact hL o q
  · rcases hf j a with q | q
    · omega
    · rw [← b]; exact q
theorem bf_ok {C R R0 : MM} (hY : Rty C R0) (hH : Rhp C R) {sl : Int → Nat → Int} (hs : ∀ o k, hOk C o → k < lnN C o → sl o k = -1 ∨ hOk C (sl o k)) (m : Nat) : ∀ k L, (∀ o ∈ L, hOk C o) → ∀ o ∈ bf sl (lnN C) m k L, hOk C o := by
  induction m with
  | zero => intro k L h; exact h
  | succ m ih =>
    intro k L h
    have e : bf sl (lnN C) (m + 1) k L = if k < L.length then bf sl (lnN C) m (k + 1) (fm (sl (L.getD k 0)) (lnN C (L.getD k 0)) L) else L := rfl
    rw [e]
    by_cases z : k < L.length
    · rw [if_pos z]
      exact ih _ _ (fm_ok _ h fun j hj => hs _ j (h _ (gD_mem z)) hj)
    · rw [if_neg z]; exact h
theorem wl_ok {C : MM} {L : List Int} (hn : L.Nodup) (h : ∀ o ∈ L, hOk C o) : wl (C 26 1) L := ⟨hn, fun o ho => ⟨(h o ho).1, (h o ho).2.1⟩⟩
theorem rtL_wl {C R R0 : MM} (hY : Rty C R0) (hH : Rhp C R) : wl (C 26 1) (rtL C) ∧ ∀ o ∈ rtL C, hOk C o := by
  obtain ⟨g1, g2, g3, g4, g5⟩ := hH.2.2.2.2.2.2.2.2.2.2.2.1
  have h0 := hY.2.1
  have a : ∀ j, j < (C 26 11).toNat → hOk C (C 33 j) := fun j hj => (g4 j (by omega) (by omega)).2
  have b : ∀ j, j < (6 * C 8 0).toNat → stv C j = -1 ∨ hOk C (stv C j) := fun j hj => stv_lt hY hH (by omega)
  refine ⟨fm_wl (fm_wl ⟨List.nodup_nil, fun o ho => by simp at ho⟩ _ fun j hj => (a j hj).2.1) _ fun j hj => ?_, fm_ok _ (fm_ok _ (fun o ho => by simp at ho) fun j hj => Or.inr (a j hj)) b⟩
  have := hH.2.1
  rcases b j hj with q | q
  · omega
  · exact q.2.1
theorem slk_n {C R R0 : MM} (hY : Rty C R0) (hH : Rhp C R) : ∀ o, hOk C o → ∀ j, j < lnN C o → slk C o j < C 26 1 := by
  intro o ho j hj
  have := hH.2.1
  rcases slk_lt hY hH ho hj with q | q
  · omega
  · exact q.2.1
/-- the beginning of a walk: no marks -/
theorem p_clearMarks {Q : Int → MM → Prop} {C : MM} (n0 : 0 ≤ C 26 1) (n4 : C 26 1 ≤ 400) (h : ∀ M, WC C M [] → Q 0 M) : w_X2_clearMarks Q C := by
  unfold w_X2_clearMarks
  intro v1 e1 _
  subst e1
  refine p_fillR (by omega) (by omega) n0 (by omega) (h _ ⟨fun k _ hk => funext fun i => ?_, ⟨List.nodup_nil, fun o ho => by simp at ho⟩, fun k hk => by simp at hk, fun o o0 o1 => ?_⟩)
  · unfold filled; rw [if_neg (fun q => hk q.1)]
  · unfold filled; rw [if_pos ⟨rfl, o0, o1⟩]; rfl
theorem p_meetRoots {Q : Int → MM → Prop} {C R R0 M : MM} (hY : Rty C R0) (hH : Rhp C R) (h : WC C M []) (hq : ∀ M', WC C M' (rtL C) → ri_ ((rtL C).length : Int) → Q ((rtL C).length : Int) M') : w_X2_meetRoots Q M := by
  obtain ⟨g1, g2, g3, g4, g5⟩ := hH.2.2.2.2.2.2.2.2.2.2.2.1
  have h0 := hY.2.1
  have h16 := hY.2.2.1
  have hn0 := hH.2.1
  have hn4 := hH.2.2.1
  have second : ∀ M1 L0, WC C M1 L0 → L0 = fm (fun k => C 33 k) (C 26 11).toNat [] → w_X2_meetRoots_b33 Q (L0.length : Int) 0 M1 := by
    intro M1 L0 hw eL
    refine loop3 _ (fun y a M2 => 0 ≤ a ∧ a ≤ 6 * C 8 0 ∧ y = ((fm (stv C) a.toNat L0).length : Int) ∧ WC C M2 (fm (stv C) a.toNat L0)) (fun _ a _ => (6 * C 8 0 - a).toNat) ?_ _ _ _ ⟨by omega, by omega, rfl, hw⟩
    rintro y a M2 f ⟨a0, a1, rfl, hw2⟩ ih
    have hll := wl_len hw2.2.1 hn0
    unfold wb_X2_meetRoots_b33 w_X10_ownFields
    intro v1 e1 _
    rw [hw2.1 8 (by decide) (by decide)] at e1
    subst e1
    refine ⟨by unfold ri_; omega, fun _ => ⟨fun z => ?_, fun z => ?_⟩⟩
    · have e : a.toNat = (6 * C 8 0).toNat := by omega
      rw [e, eL] at hw2 hll ⊢
      exact hq M2 hw2 (by have : fm (stv C) (6 * C 8 0).toNat (fm (fun k => C 33 k) (C 26 11).toNat []) = rtL C := rfl
                          rw [this] at hll; unfold ri_; omega)
    · have sn : (a + 1).toNat = a.toNat + 1 := by omega
      have ka : ((a.toNat : Nat) : Int) = a := by omega
      have nxt : ∀ M3, WC C M3 (mt (fm (stv C) a.toNat L0) (stv C a.toNat)) → w_X2_meetRoots_b67 Q f ((mt (fm (stv C) a.toNat L0) (stv C a.toNat)).length : Int) a M3 := fun M3 hw3 => by
        unfold w_X2_meetRoots_b67
        exact ⟨by unfold ri_; omega, ih _ _ _ ⟨by omega, by omega, by rw [sn]; rfl, by rw [sn]; exact hw3⟩ (by omega)⟩
      have none : stv C a.toNat = -1 → w_X2_meetRoots_b67 Q f ((fm (stv C) a.toNat L0).length : Int) a M2 := fun es => by
        have := nxt M2 (by rw [es, mt_neg (by omega)]; exact hw2)
        rw [es, mt_neg (by omega)] at this
        exact this
      unfold w_X10_isLinkStatic
      refine ⟨a0, by omega, fun v4 e4 _ => ?_⟩
      rw [hw2.1 21 (by decide) (by decide)] at e4
      refine ⟨fun z4 _ => ⟨fun _ => none ?_, fun q => absurd rfl q⟩, fun z4 => ⟨a0, by omega, fun v6 e6 _ => ?_⟩⟩
      · unfold stv; rw [ka, if_pos (by rw [← e4]; exact z4)]
      · rw [hw2.1 19 (by decide) (by decide)] at e6
        refine ⟨fun z6 _ => ⟨fun _ => none ?_, fun q => absurd rfl q⟩, fun z6 _ => ⟨fun q => by omega, fun _ => ⟨a0, by omega, fun v7 e7 _ => ?_⟩⟩⟩
        · unfold stv; rw [ka, if_neg (by rw [← e4]; exact z4), if_neg (by rw [← e6]; exact z6)]
        · rw [hw2.1 32 (by decide) (by decide)] at e7
          have es : stv C a.toNat = v7 := by
            unfold stv; rw [ka, if_neg (by rw [← e4]; exact z4), if_pos (by rw [← e6]; exact z6), e7]
          have hb := stv_lt hY hH (f := a.toNat) (by omega)
          rw [← es]
          exact p_meet hw2 hn0 hn4 (by rcases hb with q | q; omega; exact q.2.1) rfl (fun M' hm _ _ => nxt M' hm)
  unfold w_X2_meetRoots
  refine loop3 _ (fun y a M2 => 0 ≤ a ∧ a ≤ C 26 11 ∧ y = ((fm (fun k => C 33 k) a.toNat []).length : Int) ∧ WC C M2 (fm (fun k => C 33 k) a.toNat [])) (fun _ a _ => (C 26 11 - a).toNat) ?_ _ _ _ ⟨by omega, by omega, rfl, h⟩
  rintro y a M2 f ⟨a0, a1, rfl, hw2⟩ ih
  have hll := wl_len hw2.2.1 hn0
  unfold wb_X2_meetRoots_b4
  intro v1 e1 _
  rw [hw2.1 26 (by decide) (by decide)] at e1
  subst e1
  refine ⟨fun z => second _ _ hw2 (by rw [show a = C 26 11 from by omega]), fun z => ⟨a0, by omega, fun v3 e3 _ => ?_⟩⟩
  rw [hw2.1 33 (by decide) (by decide)] at e3
  subst e3
  have ka : ((a.toNat : Nat) : Int) = a := by omega
  have sn : (a + 1).toNat = a.toNat + 1 := by omega
  refine p_meet hw2 hn0 hn4 (g4 a a0 (by omega)).2.2.1 rfl (fun M' hm _ _ => ⟨by unfold ri_; omega, ih _ _ _ ⟨by omega, by omega, ?_, ?_⟩ (by omega)⟩)
  · rw [sn]; show _ = ((mt (fm (fun k => C 33 k) a.toNat []) (C 33 a.toNat)).length : Int); rw [ka]
  · rw [sn]; show WC C M' (mt (fm (fun k => C 33 k) a.toNat []) (C 33 a.toNat)); rw [ka]; exact hm
/-- the reference: no marks, then the roots -/
theorem p_R_begin {Q : Int → MM → Prop} {R : MM} (h : ∀ M, WR R M [] → Q 0 M) : w_X12_beginWalk Q R := by
  unfold w_X12_beginWalk
  intro M1 e1
  refine loop2 _ (fun a M2 => 0 ≤ a ∧ a ≤ 400 ∧ filled M1 37 0 a (-1) = M2) (fun a _ => (400 - a).toNat) ?_ _ _ ⟨by omega, by omega, ?_⟩
  · rintro a _ f ⟨a0, a1, rfl⟩ ih
    unfold wb_X12_beginWalk_b7
    refine ⟨fun z => h _ ⟨fun k hk => funext fun i => ?_, fun i hi => ?_, ?_, fun k hk => by simp at hk, fun o o0 o1 => ?_⟩, fun z => ⟨a0, by omega, fun M3 e3 => ⟨by unfold ri_; omega, ih _ _ ⟨by omega, by omega, ?_⟩ (by omega)⟩⟩⟩
    · simp at hk
      unfold filled
      rw [if_neg (by omega), e1, ux_c _ _ _ _ (by omega)]
    · unfold filled
      rw [if_neg (by omega), e1, ux_i _ _ _ hi]
    · unfold filled
      rw [if_neg (by omega), e1, ux_s]; rfl
    · unfold filled
      rw [if_pos (by omega)]; rfl
    · rw [e3]
      funext k i
      unfold ux_ filled
      by_cases z2 : k = 37 ∧ i = a
      · rw [if_pos z2, if_pos (by omega)]
      · rw [if_neg z2]
        by_cases z3 : k = 37 ∧ 0 ≤ i ∧ i < a
        · rw [if_pos z3, if_pos (by omega)]
        · rw [if_neg z3, if_neg (by omega)]
  · funext k i
    unfold filled
    rw [if_neg (by omega)]
/-- a class, or one above it, is kept apart -/
def ap (C : MM) (t : Int) : Prop := t < 20 ∧ ∃ m, 0 ≤ upn C t m ∧ C 13 (upn C t m) ≠ 0
theorem upn_dn {C : MM} (hp : pOk C) {t : Int} (t0 : 0 ≤ t) (t1 : t < C 8 0) (m : Nat) : upn C t m = -1 ∨ upn C t m + m ≤ t := by
  induction m with
  | zero => exact Or.inr (by show t + 0 ≤ t; omega)
  | succ m ih =>
    rw [upn_s]
    by_cases z : upn C t m = -1
    · rw [if_pos z]; exact Or.inl rfl
    · rw [if_neg z]
      have hb := upn_in hp (c := t) (by omega) t1 m
      have := hp.2 (upn C t m) (by omega) hb.2
      rcases ih with q | q
      · exact absurd q z
      · omega
theorem p_isApart {Q : Int → MM → Prop} {t : Int} {M : MM} (hp : pOk M) (ht : vT (M 8 0) t) (h1 : ap M t → Q 1 M) (h0 : ¬ ap M t → Q 0 M) : w_X10_isApart Q t M := by
  have h16 := hp.1
  unfold vT at ht
  unfold w_X10_isApart w_X10_isArray
  refine ⟨fun z _ => ⟨fun _ => ?_, fun q => absurd rfl q⟩, fun z _ => ⟨fun q => by omega, fun _ => ?_⟩⟩
  · unfold w_X10_isApart_b12
    have t1 : t < M 8 0 := by omega
    have t0 : 0 ≤ t := by omega
    refine loop3 _ (fun x n M1 => M = M1 ∧ 0 ≤ n ∧ n ≤ 16 ∧ x = upn M t n.toNat ∧ ∀ j : Nat, (j : Int) < n → upn M t j = -1 ∨ M 13 (upn M t j) = 0) (fun _ n _ => (16 - n).toNat) ?_ _ _ _ ⟨rfl, by omega, by omega, rfl, fun j hj => by omega⟩
    rintro x n _ f ⟨rfl, n0, n1, hx, hj⟩ ih
    have hb := upn_in hp (c := t) (by omega) t1 n.toNat
    rw [← hx] at hb
    unfold wb_X10_isApart_b15
    have none : (∀ m, 0 ≤ upn M t m → M 13 (upn M t m) = 0) → Q 0 M := fun q => h0 (fun q2 => by obtain ⟨-, m, a, b⟩ := q2; exact b (q m a))
    refine ⟨fun zn => none fun m hm => ?_, fun zn => ⟨fun zx => none fun m hm => ?_, fun zx => ⟨by omega, by omega, fun v3 e3 _ => ⟨fun z3 => ⟨by omega, by omega, fun v5 e5 _ => ⟨by unfold ri_; omega, ih _ _ _ ⟨rfl, by omega, by omega, ?_, fun j hjn => ?_⟩ (by omega)⟩⟩, fun z3 => h1 ⟨by omega, n.toNat, by rw [← hx]; omega, by rw [← hx, ← e3]; exact z3⟩⟩⟩⟩⟩
    · have hd := upn_dn hp t0 t1 m
      by_cases q : (m : Int) < n
      · rcases hj m q with q2 | q2
        · omega
        · exact q2
      · omega
    · by_cases q : (m : Int) < n
      · rcases hj m q with q2 | q2
        · omega
        · exact q2
      · have := upn_stay M t n.toNat (by rw [← hx]; exact zx) (m - n.toNat)
        rw [show n.toNat + (m - n.toNat) = m from by omega] at this
        omega
    · rw [show (n + 1).toNat = n.toNat + 1 from by omega, upn_s, ← hx, if_neg zx, e5]
    · by_cases q : (j : Int) < n
      · exact hj j q
      · have : j = n.toNat := by omega
        rw [this, ← hx, ← e3]; exact Or.inr z3
  · unfold w_X10_isApart_b12
    refine loop3 _ (fun x n M1 => M = M1 ∧ x = -1 ∧ n = 0) (fun _ _ _ => 0) ?_ _ _ _ ⟨rfl, rfl, rfl⟩
    rintro x n _ f ⟨rfl, rfl, rfl⟩ ih
    unfold wb_X10_isApart_b15
    exact ⟨fun q => by omega, fun _ => ⟨fun _ => h0 (fun q => by have := q.1; omega), fun q => absurd rfl q⟩⟩
theorem p_R_isApart {Q : Int → MM → Prop} {o : Int} {C R M : MM} (hY : Rty C M) (o0 : 0 ≤ o) (o1 : o < 400) (e19 : M 19 o = C 27 o) (ht : vT (C 8 0) (C 27 o)) (h1 : ap C (C 27 o) → Q 1 M) (h0 : ¬ ap C (C 27 o) → Q 0 M) : w_X12_isApart Q o M := by
  have h16 := hY.2.2.1
  have h20 := hY.1
  have hp := pOk_of hY
  unfold vT at ht
  unfold w_X12_isApart
  refine loop4 _ (fun a x n M1 => o = a ∧ M = M1 ∧ 0 ≤ n ∧ n ≤ C 8 0 ∧ ((x = 1 ∧ ap C (C 27 o)) ∨ (x = 0 ∧ ∀ c, 0 ≤ c → c < n → ¬ (C 13 c ≠ 0 ∧ C 27 o < 20 ∧ heir C (C 27 o) c)))) (fun _ _ n _ => (C 8 0 - n).toNat) ?_ _ _ _ _ ⟨rfl, rfl, by omega, hY.2.1, Or.inr ⟨rfl, fun c a b => by omega⟩⟩
  rintro _ x n _ f ⟨rfl, rfl, n0, n1, hx⟩ ih
  have fin : (x = 0 → ¬ ap C (C 27 o)) → (x = 0 ∨ x = 1) ∧ Q x M := fun q => by
    rcases hx with ⟨q1, q2⟩ | ⟨q1, -⟩
    · exact ⟨Or.inr q1, by rw [q1]; exact h1 q2⟩
    · exact ⟨Or.inl q1, by rw [q1]; exact h0 (q q1)⟩
  unfold wb_X12_isApart_b4
  intro v1 e1 _
  rw [← h20] at e1
  subst e1
  refine ⟨fun z => fin fun x0 q => ?_, fun z => ⟨o0, o1, fun v3 e3 _ => ?_⟩⟩
  · rcases hx with ⟨q1, -⟩ | ⟨-, q2⟩
    · omega
    · obtain ⟨a, m, b, c⟩ := q
      exact q2 (upn C (C 27 o) m) b (by have := (upn_in hp (c := C 27 o) (by omega) (by omega) m).2; omega) ⟨c, a, m, rfl⟩
  · rw [e19] at e3
    subst e3
    refine p_R_isClass (fun c0 c1 _ => ⟨fun q => by omega, fun _ => ?_⟩) (fun c0 _ => ⟨fun _ => fin fun _ q => ?_, fun q => absurd rfl q⟩)
    · rw [← h20] at c1
      have e18 : C 13 n = M 18 n := (hY.2.2.2.1 n n0 (by omega)).1.2.2.2.2.2.2.1
      have yes : ap C (C 27 o) → w_X12_isApart_b52 Q f o n M := fun q => by
        unfold w_X12_isApart_b52 w_X12_isApart_b57
        exact ⟨by unfold ri_; omega, ih _ _ _ _ ⟨rfl, rfl, by omega, by omega, Or.inl ⟨rfl, q⟩⟩ (by omega)⟩
      have no : x = 0 → ¬ (C 13 n ≠ 0 ∧ heir C (C 27 o) n) → w_X12_isApart_b56 Q f o n M := fun x0 q => by
        unfold w_X12_isApart_b56 w_X12_isApart_b57
        refine ⟨by unfold ri_; omega, ih _ _ _ _ ⟨rfl, rfl, by omega, by omega, Or.inr ⟨rfl, fun c a b => ?_⟩⟩ (by omega)⟩
        rcases hx with ⟨q1, -⟩ | ⟨-, q2⟩
        · omega
        · by_cases e : c = n
          · rw [e]; exact fun q3 => q ⟨q3.1, q3.2.2⟩
          · exact q2 c a (by omega)
      refine ⟨fun zx => yes ?_, fun zx => ⟨n0, by omega, fun v8 e8 _ => ?_⟩⟩
      · rcases hx with ⟨-, q⟩ | ⟨q1, -⟩
        · exact q
        · exact absurd q1 zx
      · rw [← e18] at e8
        refine ⟨fun z8 => no zx fun q => q.1 (by rw [← e8]; exact z8), fun z8 => ⟨o0, o1, fun v10 e10 _ => ?_⟩⟩
        rw [e19] at e10
        subst e10
        refine p_R_is hY c0 c1 (by omega) (fun hh _ => ⟨fun q => by omega, fun _ => yes ?_⟩) (fun hh _ => ⟨fun _ => no zx fun q => hh q.2, fun q => absurd rfl q⟩)
        obtain ⟨m, hm⟩ := hh
        exact ⟨by omega, m, by rw [hm]; exact n0, by rw [hm, ← e8]; exact z8⟩
    · rw [← h20] at c0
      have := q.1
      omega
