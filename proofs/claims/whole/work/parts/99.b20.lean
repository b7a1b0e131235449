/-! lost, on both sides -/
def VC (C M : MM) (c : Nat) (L : List Int) : Prop := (∀ k, k ≠ c + 15 → k ≠ c + 17 → M k = C k) ∧ wl (C c 0) L ∧ (∀ k : Nat, k < L.length → M (c + 17) k = L.getD k 0) ∧ ∀ t, 0 ≤ t → t < C c 0 → M (c + 15) t = if t ∈ L then 1 else 0
def sC (C : MM) (c : Nat) (t : Int) : Prop := C (c + 13) t = 0
theorem p_preach {Q : Int → MM → Prop} {C M : MM} {c : Nat} {u x : Int} {L : List Int} (n0 : 0 ≤ C c 0) (n4 : C c 0 ≤ 400) (u0 : 0 ≤ u) (u1 : u < C c 0) (h : VC C M c L) (hx : x = L.length) (hq : ∀ M', VC C M' c (mt L (fl (sC C c) u)) → ri_ ((mt L (fl (sC C c) u)).length : Int) → Q ((mt L (fl (sC C c) u)).length : Int) M') : w_X5_reach c Q u x M := by
  have h' := h
  obtain ⟨h1, h2, h3, h4⟩ := h
  have hll := wl_len h2 n0
  subst hx
  have same : u ∈ L ∨ ¬ sC C c u → Q (L.length : Int) M := fun hs => by
    have e : mt L (fl (sC C c) u) = L := by
      rcases hs with q | q
      · rcases fl_or (sC C c) u with ⟨e, -⟩ | ⟨e, -⟩
        · rw [e, mt_in q]
        · rw [e, mt_neg (by omega)]
      · rw [fl_n q, mt_neg (by omega)]
    have := hq M (by rw [e]; exact h') (by rw [e]; unfold ri_; omega)
    rw [e] at this; exact this
  unfold w_X5_reach
  refine ⟨u0, by omega, fun v1 e1 _ => ?_⟩
  rw [h4 u u0 u1] at e1
  refine ⟨fun z => same (Or.inl ?_), fun z => ⟨u0, by omega, fun v3 e3 _ => ?_⟩⟩
  · by_cases q : u ∈ L
    · exact q
    · rw [if_neg q] at e1; exact absurd e1 z
  · have hn : u ∉ L := fun q => by rw [if_pos q] at e1; omega
    have hlt := wl_lt h2 u0 u1 hn
    rw [h1 (c + 13) (by omega) (by omega)] at e3
    refine ⟨fun z3 => ⟨u0, by omega, fun M5 e5 => ⟨by omega, by omega, fun M6 e6 => ⟨by unfold ri_; omega, ?_⟩⟩⟩, fun z3 => same (Or.inr fun q => z3 (by rw [e3]; exact q))⟩
    have hs : sC C c u := by unfold sC; rw [← e3]; exact z3
    have em : mt L (fl (sC C c) u) = L ++ [u] := by rw [fl_y hs, mt_new u0 hn]
    have hw' := mt_wl h2 (v := fl (sC C c) u) (by rw [fl_y hs]; exact u1)
    have := hq M6 ⟨fun k a b => funext fun i => by rw [e6, e5, ux_c _ _ _ _ b, ux_c _ _ _ _ a, h1 k a b], hw', fun k hk => ?_, fun t t0 t1 => ?_⟩ (by rw [em, List.length_append]; unfold ri_; simp; omega)
    · rw [em, List.length_append] at this; simpa using this
    · rw [em] at hk ⊢
      rw [List.length_append] at hk
      simp at hk
      rw [e6]
      by_cases y : k = L.length
      · rw [y, ux_s, gD_last]
      · rw [ux_i _ _ _ (by omega), e5, ux_c _ _ _ _ (by omega), gD_app (by omega)]; exact h3 k (by omega)
    · rw [e6, ux_c _ _ _ _ (by omega), e5, em]
      by_cases y : t = u
      · rw [y, ux_s, if_pos (List.mem_append_right _ (List.mem_singleton.mpr rfl))]
      · rw [ux_i _ _ _ y, h4 t t0 t1]
        by_cases y2 : t ∈ L
        · rw [if_pos y2, if_pos (List.mem_append_left _ y2)]
        · have y3 : ¬ t ∈ L ++ [u] := fun q => by
            rw [List.mem_append, List.mem_singleton] at q
            rcases q with q | q
            · exact y2 q
            · exact y q
          rw [if_neg y2, if_neg y3]
/-- the lost ones are listed -/
def lsT (M : MM) (q : Nat) (b : Int) (V : List Int) (t : Int) : Prop := ∀ u, 0 ≤ u → u < t → u ∉ V → M q (b + ctV V u.toNat) = u
theorem ctV_mono (V : List Int) (i j : Nat) (h : i ≤ j) : ctV V i ≤ ctV V j := by
  induction j with
  | zero => rw [show i = 0 from by omega]; omega
  | succ j ih =>
    by_cases e : i = j + 1
    · rw [e]; omega
    · have := ih (by omega)
      show _ ≤ ctV V j + (if (j : Int) ∈ V then 0 else 1)
      by_cases z : (j : Int) ∈ V
      · rw [if_pos z]; omega
      · rw [if_neg z]; omega
theorem ctV_sur (V : List Int) (n : Nat) : ∀ k : Int, 0 ≤ k → k < ctV V n → ∃ u : Int, 0 ≤ u ∧ u < n ∧ u ∉ V ∧ ctV V u.toNat = k := by
  induction n with
  | zero =>
    intro k k0 k1
    have e : ctV V 0 = 0 := rfl
    omega
  | succ n ih =>
    intro k k0 k1
    have e : ctV V (n + 1) = ctV V n + (if (n : Int) ∈ V then 0 else 1) := rfl
    by_cases z : k < ctV V n
    · obtain ⟨u, a, b, d⟩ := ih k k0 z
      exact ⟨u, a, by omega, d⟩
    · by_cases y : (n : Int) ∈ V
      · rw [if_pos y] at e; omega
      · rw [if_neg y] at e
        exact ⟨n, by omega, by omega, y, by rw [show ((n : Int)).toNat = n from by omega]; omega⟩
theorem ctV_c {V V' : List Int} (n : Nat) (h : ∀ u : Int, 0 ≤ u → u < n → (u ∈ V ↔ u ∈ V')) : ctV V n = ctV V' n := by
  induction n with
  | zero => rfl
  | succ n ih =>
    show ctV V n + (if (n : Int) ∈ V then 0 else 1) = ctV V' n + (if (n : Int) ∈ V' then 0 else 1)
    rw [ih fun u a b => h u a (by omega)]
    by_cases z : (n : Int) ∈ V
    · rw [if_pos z, if_pos ((h n (by omega) (by omega)).mp z)]
    · rw [if_neg z, if_neg (fun q => z ((h n (by omega) (by omega)).mpr q))]
theorem lsT_put {M : MM} {q : Nat} {b t : Int} {V : List Int} (h : lsT M q b V t) (t0 : 0 ≤ t) (hn : t ∉ V) : lsT (ux_ M q (b + ctV V t.toNat) t) q b V (t + 1) := by
  intro u u0 u1 hu
  by_cases y : u = t
  · rw [y, ux_s]
  · have : ctV V (u.toNat + 1) ≤ ctV V t.toNat := ctV_mono V _ _ (by omega)
    have e : ctV V (u.toNat + 1) = ctV V u.toNat + (if ((u.toNat : Nat) : Int) ∈ V then 0 else 1) := rfl
    rw [show ((u.toNat : Nat) : Int) = u from by omega, if_neg hu] at e
    rw [ux_i _ _ _ (by omega)]
    exact h u u0 (by omega) hu
set_option maxHeartbeats 1000000 in
theorem p_findLost {Q : Int → MM → Prop} {C R0 : MM} {c : Nat} (hY : Rty C R0) (hw : PW C c) (hq : ∀ M, (∀ k, k ≠ c → k ≠ c + 14 → k ≠ c + 15 → k ≠ c + 17 → M k = C k) → (∀ i, i ≠ 16 → M c i = C c i) → M c 16 = ctV (vis C c (sC C c) (beg C c (sC C c) (-1))) (C c 0).toNat → lsT M (c + 14) 0 (vis C c (sC C c) (beg C c (sC C c) (-1))) (C c 0) → Q (ctV (vis C c (sC C c) (beg C c (sC C c) (-1))) (C c 0).toNat) M) : w_X5_findLost c Q C := by
  have n0 := hw.1
  have n4 := hw.2.1
  obtain ⟨-, -, -, -, -, -, -, r0, r1, hr, -⟩ := id hw
  -- the list of the lost
  have fourth : ∀ M V, V = vis C c (sC C c) (beg C c (sC C c) (-1)) → VC C M c V → ∀ M2, M2 = ux_ M c 16 0 → w_X5_findLost_b141 c Q 0 M2 := by
    intro M V eV hm M2 e2
    subst eV
    refine loop2 _ (fun (t : Int) M3 => 0 ≤ t ∧ t ≤ C c 0 ∧ (∀ k, k ≠ c → k ≠ c + 14 → M3 k = M k) ∧ (∀ i, i ≠ 16 → M3 c i = C c i) ∧ M3 c 16 = ctV (vis C c (sC C c) (beg C c (sC C c) (-1))) t.toNat ∧ lsT M3 (c + 14) 0 (vis C c (sC C c) (beg C c (sC C c) (-1))) t) (fun (t : Int) _ => (C c 0 - t).toNat) ?_ _ _ ⟨by omega, n0, fun k a b => funext fun i => by rw [e2, ux_c _ _ _ _ a], fun i hi => by rw [e2, ux_i _ _ _ hi, hm.1 c (by omega) (by omega)], by rw [e2, ux_s]; rfl, fun u a b => by omega⟩
    rintro t M3 f ⟨t0, t1, k1, k2, k3, k4⟩ ih
    have tt : ((t.toNat : Nat) : Int) = t := by omega
    have cb := ctV_bd (vis C c (sC C c) (beg C c (sC C c) (-1))) t.toNat
    have es : ctV (vis C c (sC C c) (beg C c (sC C c) (-1))) (t.toNat + 1) = ctV (vis C c (sC C c) (beg C c (sC C c) (-1))) t.toNat + (if t ∈ vis C c (sC C c) (beg C c (sC C c) (-1)) then 0 else 1) := by
      show ctV _ t.toNat + (if ((t.toNat : Nat) : Int) ∈ _ then 0 else 1) = _
      rw [tt]
    unfold wb_X5_findLost_b141
    intro v1 e1 _
    rw [k2 0 (by decide)] at e1
    subst e1
    refine ⟨fun z v3 e3 _ => ?_, fun z => ⟨t0, by omega, fun v4 e4 _ => ?_⟩⟩
    · have et : t = C c 0 := by omega
      rw [et] at k3 k4
      rw [e3, k3]
      exact hq M3 (fun k a b d e => by rw [k1 k a b, hm.1 k d e]) k2 k3 k4
    · rw [k1 (c + 15) (by omega) (by omega), hm.2.2.2 t t0 (by omega)] at e4
      refine ⟨fun z4 => ?_, fun z4 v6 e6 _ => ?_⟩
      · have hin : t ∈ vis C c (sC C c) (beg C c (sC C c) (-1)) := by
          by_cases y : t ∈ vis C c (sC C c) (beg C c (sC C c) (-1))
          · exact y
          · rw [if_neg y] at e4; exact absurd e4 z4
        rw [if_pos hin] at es
        unfold w_X5_findLost_b178
        refine ⟨by unfold ri_; omega, ih _ _ ⟨by omega, by omega, k1, k2, by rw [show (t + 1).toNat = t.toNat + 1 from by omega, es, k3]; omega, fun u u0 u1 hu => k4 u u0 (ltne u1 (fun y => hu (by rw [y]; exact hin))) hu⟩ (by omega)⟩
      · have hno : t ∉ vis C c (sC C c) (beg C c (sC C c) (-1)) := fun y => by rw [if_pos y] at e4; omega
        rw [if_neg hno] at es
        rw [k3] at e6
        rw [e6]
        refine ⟨by omega, by omega, fun M7 e7 v8 e8 _ => ?_⟩
        rw [e7, ux_c _ _ _ _ (by omega), k3] at e8
        rw [e8]
        refine ⟨by unfold ri_; omega, fun M10 e10 => ?_⟩
        unfold w_X5_findLost_b178
        refine ⟨by unfold ri_; omega, ih _ _ ⟨by omega, by omega, fun k a b => funext fun i => by rw [e10, ux_c _ _ _ _ a, e7, ux_c _ _ _ _ b, k1 k a b], fun i hi => by rw [e10, ux_i _ _ _ hi, e7, ux_c _ _ _ _ (by omega), k2 i hi], by rw [e10, ux_s, show (t + 1).toNat = t.toNat + 1 from by omega, es], ?_⟩ (by omega)⟩
        have := lsT_put k4 t0 hno
        intro u u0 u1 hu
        have q := this u u0 u1 hu
        rw [e10, ux_c _ _ _ _ (by omega), e7]
        rw [show (0 : Int) + ctV (vis C c (sC C c) (beg C c (sC C c) (-1))) t.toNat = ctV (vis C c (sC C c) (beg C c (sC C c) (-1))) t.toNat from by omega] at q
        exact q
  have third : ∀ M, VC C M c (beg C c (sC C c) (-1)) → w_X5_findLost_b45 c Q ((beg C c (sC C c) (-1)).length : Int) 0 M := by
    intro M hm0
    refine loop3 _ (fun (y k : Int) M1 => 0 ≤ k ∧ k ≤ 401 ∧ ∃ (L : List Int) (m : Nat), y = (L.length : Int) ∧ VC C M1 c L ∧ (m : Int) + k = 401 ∧ bf (psl C c (sC C c)) (pln C c) m k.toNat L = vis C c (sC C c) (beg C c (sC C c) (-1))) (fun _ (k : Int) _ => (401 - k).toNat) ?_ _ _ _ ⟨by omega, by omega, _, 401, rfl, hm0, by omega, rfl⟩
    rintro y k M1 f ⟨k0, k1, L, m, rfl, hm, hmk, hbf⟩ ih
    have hll := wl_len hm.2.1 n0
    unfold wb_X5_findLost_b45 w_X5_findLost_b134
    have m0 : M1 c 0 = C c 0 := by rw [hm.1 c (by omega) (by omega)]
    refine ⟨fun z M2 e2 => ?_, fun z v99 e99 _ => ⟨fun z9 => by exfalso; rw [m0] at e99; omega, fun z9 => ⟨k0, by omega, fun v3 e3 _ => ?_⟩⟩⟩
    · have : bf (psl C c (sC C c)) (pln C c) m k.toNat L = L := by
        cases m with
        | zero => rfl
        | succ m =>
          show (if k.toNat < L.length then _ else L) = L
          rw [if_neg (by omega)]
      rw [this] at hbf
      exact fourth M1 L hbf hm M2 e2
    · have kk : ((k.toNat : Nat) : Int) = k := by omega
      have kl : k.toNat < L.length := by omega
      have hk := hm.2.2.1 k.toNat kl
      rw [kk] at hk
      have hx := hm.2.1.2 _ (gD_mem kl)
      obtain ⟨t, et⟩ : ∃ t, t = L.getD k.toNat 0 := ⟨_, rfl⟩
      rw [← et] at hk hx
      rw [hk] at e3
      rw [e3]
      obtain ⟨t0, t1⟩ := hx
      have hpc := pw_bd hY hw t0 t1
      have ht1 := (hw.2.2.2.1 t t0 t1).2.2.2.2.2.2.1
      have hf := pw_f hY hw t0 (by omega)
      have hf2 := pw_f hY hw (t := t + 1) (by omega) (by omega)
      have hmx := hw.2.2.2.2.1
      refine ⟨t0, by omega, fun v4 e4 _ => ?_⟩
      rw [hm.1 (c + 4) (by omega) (by omega)] at e4
      rw [e4]
      refine loop4 _ (fun (y k' b : Int) M2 => k = k' ∧ C (c + 4) t ≤ b ∧ b ≤ C (c + 4) (t + 1) ∧ y = ((fm (psl C c (sC C c) t) (b - C (c + 4) t).toNat L).length : Int) ∧ VC C M2 c (fm (psl C c (sC C c) t) (b - C (c + 4) t).toNat L)) (fun _ _ (b : Int) _ => (C (c + 4) (t + 1) - b).toNat) ?_ _ _ _ _ ⟨rfl, by omega, by omega, by rw [show (C (c + 4) t - C (c + 4) t).toNat = 0 from by omega]; rfl, by rw [show (C (c + 4) t - C (c + 4) t).toNat = 0 from by omega]; exact hm⟩
      rintro y _ b M2 g ⟨rfl, b0, b1, rfl, hm2⟩ ih2
      have h17 : M2 (c + 17) k = t := by
        have q := hm2.2.2.1 k.toNat (Nat.lt_of_lt_of_le kl (fm_len _))
        rw [kk, fm_gD kl, ← et] at q
        exact q
      unfold wb_X5_findLost_b70
      refine ⟨k0, by omega, fun v1 e1 _ => ?_⟩
      rw [h17] at e1
      rw [e1]
      refine ⟨by unfold ri_; omega, by omega, by omega, fun v3 e3' _ => ?_⟩
      rw [hm2.1 (c + 4) (by omega) (by omega)] at e3'
      rw [e3']
      refine ⟨fun z2 => ⟨by unfold ri_; omega, ih _ _ _ ⟨by omega, by omega, fm (psl C c (sC C c) t) (pln C c t) L, m - 1, ?_, ?_, by omega, ?_⟩ (by omega)⟩, fun z2 => ⟨by omega, by omega, fun v6 e6 _ => ?_⟩⟩
      · rw [show (b - C (c + 4) t).toNat = pln C c t from by unfold pln; omega]
      · rw [show pln C c t = (b - C (c + 4) t).toNat from by unfold pln; omega]; exact hm2
      · rw [← hbf]
        have em : m = (m - 1) + 1 := by omega
        conv => rhs; rw [em]
        show _ = (if k.toNat < L.length then _ else L)
        rw [if_pos kl, show (k + 1).toNat = k.toNat + 1 from by omega, ← et]
      · have jj : (((b - C (c + 4) t).toNat : Nat) : Int) = b - C (c + 4) t := by omega
        have sn : (b + 1 - C (c + 4) t).toNat = (b - C (c + 4) t).toNat + 1 := by omega
        obtain ⟨l1, l2, l3⟩ := pw_lv hw t0 t1 (k := b - C (c + 4) t) (by omega) (by omega)
        have elv : lv C c t (b - C (c + 4) t) = if C (c + 10) b = 0 then -1 else C (c + 9) b := by
          unfold lv
          rw [show C (c + 4) t + (b - C (c + 4) t) = b from by omega]
        have nxt : ∀ M3, VC C M3 c (mt (fm (psl C c (sC C c) t) (b - C (c + 4) t).toNat L) (psl C c (sC C c) t (b - C (c + 4) t).toNat)) → w_X5_findLost_b122 c Q f g ((mt (fm (psl C c (sC C c) t) (b - C (c + 4) t).toNat L) (psl C c (sC C c) t (b - C (c + 4) t).toNat)).length : Int) k b M3 := fun M3 hm3 => by
          unfold w_X5_findLost_b122
          exact ⟨by unfold ri_; omega, ih2 _ _ _ _ ⟨rfl, by omega, by omega, by rw [sn]; rfl, by rw [sn]; exact hm3⟩ (by omega)⟩
        have none : lv C c t (b - C (c + 4) t) = -1 → w_X5_findLost_b122 c Q f g ((fm (psl C c (sC C c) t) (b - C (c + 4) t).toNat L).length : Int) k b M2 := fun e => by
          have ep : psl C c (sC C c) t (b - C (c + 4) t).toNat = -1 := by
            unfold psl
            rw [jj, e]
            rcases fl_or (sC C c) (-1) with ⟨e, -⟩ | ⟨e, -⟩ <;> exact e
          have := nxt M2 (by rw [ep, mt_neg (by omega)]; exact hm2)
          rw [ep, mt_neg (by omega)] at this
          exact this
        rw [hm2.1 (c + 10) (by omega) (by omega)] at e6
        refine ⟨fun z6 => none (by rw [elv, if_pos (by rw [← e6]; exact z6)]), fun z6 => ⟨by omega, by omega, fun v8 e8 _ => ?_⟩⟩
        rw [hm2.1 (c + 9) (by omega) (by omega)] at e8
        rw [if_neg (by rw [← e6]; exact z6), ← e8] at elv
        refine ⟨fun z8 => none (by rw [elv]; exact z8), fun z8 => ⟨by omega, by omega, fun v10 e10 _ => ?_⟩⟩
        rw [hm2.1 (c + 9) (by omega) (by omega), ← e8] at e10
        subst e10
        rw [elv] at l1
        refine ⟨by unfold ri_; omega, p_preach n0 n4 (by omega) (by omega) hm2 rfl (fun M3 hm3 _ _ => ?_)⟩
        have ep : psl C c (sC C c) t (b - C (c + 4) t).toNat = fl (sC C c) v10 := by unfold psl; rw [jj, elv]
        rw [← ep] at hm3 ⊢
        exact nxt M3 hm3
  unfold w_X5_findLost
  intro v1 e1 _
  subst e1
  refine p_fillR (by omega) (by omega) n0 (by omega) ?_
  refine loop3 _ (fun (y r : Int) M1 => 0 ≤ r ∧ r ≤ C c 11 ∧ y = ((fm (fun r => fl (sC C c) (C (c + 12) r)) r.toNat []).length : Int) ∧ VC C M1 c (fm (fun r => fl (sC C c) (C (c + 12) r)) r.toNat [])) (fun _ (r : Int) _ => (C c 11 - r).toNat) ?_ _ _ _ ⟨by omega, r0, rfl, ⟨fun k a _ => funext fun i => ?_, ⟨List.nodup_nil, fun o ho => by simp [fm] at ho⟩, fun k hk => by simp [fm] at hk, fun t t0 t1 => ?_⟩⟩
  · rintro y r M1 f ⟨q0, q1, rfl, hm⟩ ih
    have rr : ((r.toNat : Nat) : Int) = r := by omega
    unfold wb_X5_findLost_b17
    intro v1 e1 _
    rw [hm.1 c (by omega) (by omega)] at e1
    subst e1
    refine ⟨fun z => ?_, fun z => ⟨q0, by omega, fun v3 e3 _ => ?_⟩⟩
    · have e : beg C c (sC C c) (-1) = fm (fun r => fl (sC C c) (C (c + 12) r)) r.toNat [] := by
        unfold beg prL
        rw [if_pos rfl, show (C c 11).toNat = r.toNat from by omega]
      rw [← e] at hm ⊢
      exact third M1 hm
    · rw [hm.1 (c + 12) (by omega) (by omega)] at e3
      obtain ⟨y1, y2, -⟩ := hr r q0 (by omega)
      rw [e3]
      refine p_preach n0 n4 y1 y2 hm rfl (fun M2 hm2 _ _ => ⟨by unfold ri_; omega, ih _ _ _ ⟨by omega, by omega, ?_, ?_⟩ (by omega)⟩)
      · rw [show (r + 1).toNat = r.toNat + 1 from by omega]
        show _ = ((mt (fm (fun r => fl (sC C c) (C (c + 12) r)) r.toNat []) (fl (sC C c) (C (c + 12) (r.toNat : Nat)))).length : Int)
        rw [rr]
      · rw [show (r + 1).toNat = r.toNat + 1 from by omega]
        show VC C M2 c (mt (fm (fun r => fl (sC C c) (C (c + 12) r)) r.toNat []) (fl (sC C c) (C (c + 12) (r.toNat : Nat))))
        rw [rr]; exact hm2
  · unfold filled; rw [if_neg (by omega)]
  · unfold filled; rw [if_pos ⟨rfl, t0, t1⟩]; rfl
