/-! dominators: meeting, the common one -/
theorem p_meeting {Q : Int → MM → Prop} {M : MM} {c : Nat} {n a b : Int} (n4 : n ≤ 400) (hw : oW (M (c + 22)) n) (ha : oS_ (M (c + 22)) n a) (hb : oS_ (M (c + 22)) n b) (hq : ∀ m, oS_ (M (c + 22)) n m → ca (M (c + 22)) a m → ca (M (c + 22)) b m → (∀ d, ca (M (c + 22)) a d → ca (M (c + 22)) b d → ca (M (c + 22)) m d) → Q m M) : w_X8_meeting (c + 18) Q a b M := by
  unfold w_X8_meeting w_X8_meeting_b8
  refine loop4 _ (fun (x y k : Int) M1 => M1 = M ∧ oS_ (M (c + 22)) n x ∧ oS_ (M (c + 22)) n y ∧ ca (M (c + 22)) a x ∧ ca (M (c + 22)) b y ∧ (∀ d, ca (M (c + 22)) a d → ca (M (c + 22)) b d → ca (M (c + 22)) x d ∧ ca (M (c + 22)) y d) ∧ 0 ≤ k ∧ k + x + y ≤ 800) (fun (x y k : Int) _ => (1000000 - k).toNat) ?_ _ _ _ _ ⟨rfl, ha, hb, ca_r _ _, ca_r _ _, fun d p q => ⟨p, q⟩, Int.le_refl _, by rcases ha with q | q <;> rcases hb with q' | q' <;> omega⟩
  rintro x y k M1 f ⟨rfl, hx, hy, ax, by_, hd, k0, k1⟩ ih
  have gx : -1 ≤ x ∧ x < 400 := by rcases hx with q | q <;> omega
  have gy : -1 ≤ y ∧ y < 400 := by rcases hy with q | q <;> omega
  have nxt : ∀ z, oS_ (M1 (c + 22)) n z → 0 ≤ z → oS_ (M1 (c + 22)) n (M1 (c + 22) z) ∧ M1 (c + 22) z < z := by
    intro z hz z0
    rcases hz with q | ⟨z0, z1, z2⟩
    · omega
    · rcases hw z z0 z1 with q | ⟨q1, q2, q3⟩
      · exact absurd q z2
      · refine ⟨?_, q2⟩
        by_cases y : M1 (c + 22) z = -1
        · exact Or.inl y
        · exact Or.inr ⟨by omega, by omega, q3 (by omega)⟩
  unfold wb_X8_meeting_b8
  refine ⟨fun z => by omega, fun z => ⟨fun e => ?_, fun e => ⟨fun l => ⟨by omega, by omega, fun v g _ => ?_⟩, fun l => ⟨by omega, by omega, fun v g _ => ?_⟩⟩⟩⟩
  · subst e
    exact hq x hx ax by_ fun d p q => (hd d p q).1
  · unfold w_X8_meeting_b46
    have hn := nxt y hy (by omega)
    have g' : v = M1 (c + 22) y := g
    subst g'
    refine ⟨by unfold ri_; omega, ih _ _ _ _ ⟨rfl, hx, hn.1, ax, ca_t by_ ((ca_c (by omega)).mpr (Or.inr (ca_r _ _))), fun d p q => ?_, by omega, by omega⟩ (by omega)⟩
    obtain ⟨d1, d2⟩ := hd d p q
    refine ⟨d1, ?_⟩
    rw [ca_c (by omega)] at d2
    rcases d2 with d2 | d2
    · have := (ca_l hw hx d1).2; omega
    · exact d2
  · unfold w_X8_meeting_b46
    have hn := nxt x hx (by omega)
    have g' : v = M1 (c + 22) x := g
    subst g'
    refine ⟨by unfold ri_; omega, ih _ _ _ _ ⟨rfl, hn.1, hy, ca_t ax ((ca_c (by omega)).mpr (Or.inr (ca_r _ _))), by_, fun d p q => ?_, by omega, by omega⟩ (by omega)⟩
    obtain ⟨d1, d2⟩ := hd d p q
    refine ⟨?_, d2⟩
    rw [ca_c (by omega)] at d1
    rcases d1 with d1 | d1
    · have := (ca_l hw hy d2).2; omega
    · exact d1
/-- who holds, in the lists -/
theorem hR_in {C : MM} {c : Nat} {t : Int} (r : Nat) (h : Int) : (∃ s, (h, s) ∈ hR C c t r) ↔ h = -1 ∧ ∃ j : Nat, j < r ∧ C (c + 12) j = t := by
  induction r with
  | zero => constructor; · rintro ⟨s, q⟩; cases q
            · rintro ⟨-, j, q, -⟩; omega
  | succ r ih =>
    rw [hR_s]
    by_cases z : C (c + 12) r = t
    · rw [if_pos z]
      constructor
      · rintro ⟨s, q⟩
        rcases List.mem_append.mp q with q | q
        · obtain ⟨a, j, b, d⟩ := ih.mp ⟨s, q⟩
          exact ⟨a, j, by omega, d⟩
        · simp at q; exact ⟨q.1, r, by omega, z⟩
      · rintro ⟨a, -⟩
        exact ⟨_, List.mem_append.mpr (Or.inr (by rw [a]; exact List.mem_singleton.mpr rfl))⟩
    · rw [if_neg z, ih]
      constructor
      · rintro ⟨a, j, b, d⟩; exact ⟨a, j, by omega, d⟩
      · rintro ⟨a, j, b, d⟩
        refine ⟨a, j, ?_, d⟩
        by_cases y : j = r
        · rw [y] at d; exact absurd d z
        · omega
theorem hK_in {C : MM} {c : Nat} {t u : Int} (k : Nat) (h : Int) : (∃ s, (h, s) ∈ hK C c t u k) ↔ h = u ∧ ∃ j : Nat, j < k ∧ lv C c u j = t := by
  induction k with
  | zero => constructor; · rintro ⟨s, q⟩; cases q
            · rintro ⟨-, j, q, -⟩; omega
  | succ r ih =>
    rw [hK_s]
    by_cases z : lv C c u r = t
    · rw [if_pos z]
      constructor
      · rintro ⟨s, q⟩
        rcases List.mem_append.mp q with q | q
        · obtain ⟨a, j, b, d⟩ := ih.mp ⟨s, q⟩
          exact ⟨a, j, by omega, d⟩
        · simp at q; exact ⟨q.1, r, by omega, z⟩
      · rintro ⟨a, -⟩
        exact ⟨_, List.mem_append.mpr (Or.inr (by rw [a]; exact List.mem_singleton.mpr rfl))⟩
    · rw [if_neg z, ih]
      constructor
      · rintro ⟨a, j, b, d⟩; exact ⟨a, j, by omega, d⟩
      · rintro ⟨a, j, b, d⟩
        refine ⟨a, j, ?_, d⟩
        by_cases y : j = r
        · rw [y] at d; exact absurd d z
        · omega
theorem hl_in {C : MM} {c : Nat} {t : Int} (n0 : 0 ≤ C c 0) (t0 : 0 ≤ t) (h : Int) : (∃ s, (h, s) ∈ hl C c t) ↔ (h = -1 ∧ pZ C c t) ∨ pE C c h t := by
  have key : ∀ u : Nat, (u : Int) ≤ C c 0 → ((∃ s, (h, s) ∈ hU C c t u) ↔ (h = -1 ∧ pZ C c t) ∨ (h < u ∧ pE C c h t)) := by
    intro u
    induction u with
    | zero =>
      intro _
      show (∃ s, (h, s) ∈ hR C c t (C c 11).toNat) ↔ _
      rw [hR_in]
      constructor
      · rintro ⟨a, j, b, d⟩; exact Or.inl ⟨a, j, by omega, by omega, d⟩
      · rintro (⟨a, j, b, d, e⟩ | ⟨a, b⟩)
        · exact ⟨a, j.toNat, by omega, by rw [show ((j.toNat : Nat) : Int) = j from by omega]; exact e⟩
        · have := b.1; omega
    | succ u ih =>
      intro hu
      rw [hU_s]
      have i := ih (by omega)
      constructor
      · rintro ⟨s, q⟩
        rcases List.mem_append.mp q with q | q
        · rcases i.mp ⟨s, q⟩ with y | y
          · exact Or.inl y
          · exact Or.inr ⟨by omega, y.2⟩
        · obtain ⟨a, j, b, d⟩ := (hK_in _ h).mp ⟨s, q⟩
          exact Or.inr ⟨by omega, by omega, by omega, t0, j, by omega, by rw [a]; omega, by rw [a]; exact d⟩
      · rintro (y | ⟨y1, y2⟩)
        · obtain ⟨s, q⟩ := i.mpr (Or.inl y)
          exact ⟨s, List.mem_append.mpr (Or.inl q)⟩
        · by_cases z : h < u
          · obtain ⟨s, q⟩ := i.mpr (Or.inr ⟨z, y2⟩)
            exact ⟨s, List.mem_append.mpr (Or.inl q)⟩
          · have e : h = u := by omega
            obtain ⟨a1, a2, a3, k, a4, a5, a6⟩ := y2
            rw [e] at a5 a6
            obtain ⟨s, q⟩ := (hK_in (C := C) (c := c) (t := t) (u := (u : Int)) (pcn C c u).toNat h).mpr ⟨e, k.toNat, by omega, by rw [show ((k.toNat : Nat) : Int) = k from by omega]; exact a6⟩
            exact ⟨s, List.mem_append.mpr (Or.inr q)⟩
  unfold hl
  rw [key _ (by omega)]
  constructor
  · rintro (q | q)
    · exact Or.inl q
    · exact Or.inr q.2
  · rintro (q | q)
    · exact Or.inl q
    · exact Or.inr ⟨by have := q.2.1; omega, q⟩
theorem gdE {α : Type} (d : α) (L : List α) : ∀ (j : Nat) (h : j < L.length), L.getD j d = L[j] := by
  induction L with
  | nil => intro j h; exact absurd h (Nat.not_lt_zero j)
  | cons a L ih =>
    intro j h
    cases j with
    | zero => rfl
    | succ j => exact ih j (Nat.lt_of_succ_lt_succ h)
theorem hl_at {C : MM} {c : Nat} {t h : Int} : (∃ s, (h, s) ∈ hl C c t) ↔ ∃ j : Nat, j < (hl C c t).length ∧ ((hl C c t).getD j (0, 0)).1 = h := by
  constructor
  · rintro ⟨s, q⟩
    obtain ⟨j, hj, e⟩ := List.mem_iff_getElem.mp q
    exact ⟨j, hj, by rw [gdE _ _ _ hj, e]⟩
  · rintro ⟨j, hj, e⟩
    rw [gdE _ _ _ hj] at e
    exact ⟨_, by rw [← e]; exact List.getElem_mem hj⟩
/-- what has no more than its own worth is passed over -/
def Vd (δ : Int → Int) (t h : Int) : Prop := h ≠ t ∧ (h = -1 ∨ δ h ≠ -2)
theorem p_commonDominator {Q : Int → MM → Prop} {C M : MM} {c : Nat} {t : Int} (hwp : PW C c) (t0 : 0 ≤ t) (t1 : t < C c 0) (hw : oW (M (c + 22)) (C c 0)) (h1 : M (c + 19) (t + 1) = M (c + 19) t + (hl C c t).length) (h2 : ∀ j : Nat, j < (hl C c t).length → M (c + 20) (M (c + 19) t + j) = ((hl C c t).getD j (0, 0)).1) (h3 : 0 ≤ M (c + 19) t) (h4 : M (c + 19) (t + 1) ≤ 4108) (hx : pZ C c t ∨ ∃ h, pE C c h t ∧ h ≠ t ∧ M (c + 22) h ≠ -2) (hq : ∀ m, oS_ (M (c + 22)) (C c 0) m → (pZ C c t → m = -1) → (∀ h, pE C c h t → h ≠ t → M (c + 22) h ≠ -2 → ca (M (c + 22)) h m) → (∀ d, (pZ C c t → d = -1) → (∀ h, pE C c h t → h ≠ t → M (c + 22) h ≠ -2 → ca (M (c + 22)) h d) → ca (M (c + 22)) m d) → Q m M) : w_X8_commonDominator (c + 18) Q t M := by
  have n0 := hwp.1
  have n4 := hwp.2.1
  have hin : ∀ h, (∃ j : Nat, j < (hl C c t).length ∧ ((hl C c t).getD j (0, 0)).1 = h) ↔ (h = -1 ∧ pZ C c t) ∨ pE C c h t := fun h => by rw [← hl_at, hl_in n0 t0]
  have hos : ∀ j : Nat, j < (hl C c t).length → Vd (M (c + 22)) t ((hl C c t).getD j (0, 0)).1 → oS_ (M (c + 22)) (C c 0) ((hl C c t).getD j (0, 0)).1 := by
    intro j hj hv
    rcases (hin _).mp ⟨j, hj, rfl⟩ with q | q
    · exact Or.inl q.1
    · refine Or.inr ⟨q.1, q.2.1, ?_⟩
      rcases hv.2 with y | y
      · have := q.1; omega
      · exact y
  unfold w_X8_commonDominator w_X8_commonDominator_b10
  refine ⟨t0, by omega, fun v1 e1 _ => ?_⟩
  have e1' : v1 = M (c + 19) t := e1
  refine loop4 _ (fun (x1 x2 x3 : Int) M1 => t = x1 ∧ M1 = M ∧ ∃ i : Nat, x3 = M (c + 19) t + i ∧ i ≤ (hl C c t).length ∧ ((x2 = -2 ∧ ∀ j : Nat, j < i → ¬ Vd (M (c + 22)) t ((hl C c t).getD j (0, 0)).1) ∨ (oS_ (M (c + 22)) (C c 0) x2 ∧ (∀ j : Nat, j < i → Vd (M (c + 22)) t ((hl C c t).getD j (0, 0)).1 → ca (M (c + 22)) ((hl C c t).getD j (0, 0)).1 x2) ∧ ∀ d, (∀ j : Nat, j < i → Vd (M (c + 22)) t ((hl C c t).getD j (0, 0)).1 → ca (M (c + 22)) ((hl C c t).getD j (0, 0)).1 d) → ca (M (c + 22)) x2 d))) (fun (x1 x2 x3 : Int) _ => (M (c + 19) (t + 1) - x3).toNat) ?_ _ _ _ _ ⟨rfl, rfl, 0, by omega, by omega, Or.inl ⟨rfl, fun j hj => by omega⟩⟩
  rintro x1 x2 x3 M1 f ⟨rfl, rfl, i, e3, hi, hI⟩ ih
  unfold wb_X8_commonDominator_b10
  refine ⟨by unfold ri_; omega, by omega, by omega, fun v2 e2 _ => ?_⟩
  have e2' : v2 = M1 (c + 19) (t + 1) := e2
  refine ⟨fun z2 => ?_, fun z2 => ⟨by omega, by omega, fun v4 e4 _ => ?_⟩⟩
  · have ei : i = (hl C c t).length := by omega
    have hVZ : pZ C c t → Vd (M1 (c + 22)) t (-1) := fun _ => ⟨by omega, Or.inl rfl⟩
    rcases hI with ⟨-, q⟩ | ⟨q1, q2, q3⟩
    · exfalso
      rcases hx with y | ⟨h, y1, y2, y3⟩
      · obtain ⟨j, hj, e⟩ := (hin (-1)).mpr (Or.inl ⟨rfl, y⟩)
        exact q j (by omega) (by rw [e]; exact hVZ y)
      · obtain ⟨j, hj, e⟩ := (hin h).mpr (Or.inr y1)
        exact q j (by omega) (by rw [e]; exact ⟨y2, Or.inr y3⟩)
    · refine hq x2 q1 (fun y => ?_) (fun h y1 y2 y3 => ?_) fun d d1 d2 => q3 d fun j hj hv => ?_
      · obtain ⟨j, hj, e⟩ := (hin (-1)).mpr (Or.inl ⟨rfl, y⟩)
        have := q2 j (by omega) (by rw [e]; exact hVZ y)
        rw [e, ca_n] at this; exact this
      · obtain ⟨j, hj, e⟩ := (hin h).mpr (Or.inr y1)
        have := q2 j (by omega) (by rw [e]; exact ⟨y2, Or.inr y3⟩)
        rw [e] at this; exact this
      · rcases (hin _).mp ⟨j, by omega, rfl⟩ with y | y
        · rw [y.1, d1 y.2]; exact ca_r _ _
        · refine d2 _ y hv.1 ?_
          rcases hv.2 with w | w
          · have := y.1; omega
          · exact w
  · have e4' : v4 = ((hl C c t).getD i (0, 0)).1 := by
      rw [← h2 i (by omega), ← e3]; exact e4
    have skip : ¬ Vd (M1 (c + 22)) t v4 → w_X8_commonDominator_b76 (c + 18) Q f t x2 x3 M1 := by
      intro hv
      unfold w_X8_commonDominator_b76
      refine ⟨by unfold ri_; omega, ih _ _ _ _ ⟨rfl, rfl, i + 1, by omega, by omega, ?_⟩ (by omega)⟩
      have st : ∀ j : Nat, j < i + 1 → Vd (M1 (c + 22)) t ((hl C c t).getD j (0, 0)).1 → j < i := fun j hj h => by
        by_cases y : j = i
        · rw [y, ← e4'] at h; exact absurd h hv
        · omega
      rcases hI with ⟨q1, q2⟩ | ⟨q1, q2, q3⟩
      · exact Or.inl ⟨q1, fun j hj h => q2 j (st j hj h) h⟩
      · exact Or.inr ⟨q1, fun j hj h => q2 j (st j hj h) h, fun d hd => q3 d fun j hj h => hd j (by omega) h⟩
    have take : Vd (M1 (c + 22)) t v4 → w_X8_commonDominator_b57 (c + 18) Q f t x2 x3 v4 M1 := by
      intro hv
      have hv4 : oS_ (M1 (c + 22)) (C c 0) v4 := by rw [e4'] at hv ⊢; exact hos i (by omega) hv
      unfold w_X8_commonDominator_b57 w_X8_commonDominator_b75 w_X8_commonDominator_b76
      refine ⟨fun z => ?_, fun z => ?_⟩
      · rcases hI with ⟨q1, -⟩ | ⟨q1, q2, q3⟩
        · exact absurd q1 z
        · refine p_meeting n4 hw q1 hv4 fun m m1 m2 m3 m4 => ?_
          refine fun _ => ⟨by unfold ri_; omega, ih _ _ _ _ ⟨rfl, rfl, i + 1, by omega, by omega, Or.inr ⟨m1, fun j hj h => ?_, fun d hd => m4 d (q3 d fun j hj h => hd j (by omega) h) (by have := hd i (by omega) (by rw [← e4']; exact hv); rw [← e4'] at this; exact this)⟩⟩ (by omega)⟩
          by_cases y : j = i
          · rw [y, ← e4']; exact m3
          · exact ca_t (q2 j (by omega) h) m2
      · rcases hI with ⟨-, q⟩ | ⟨q1, -⟩
        · refine ⟨by unfold ri_; omega, ih _ _ _ _ ⟨rfl, rfl, i + 1, by omega, by omega, Or.inr ⟨hv4, fun j hj h => ?_, fun d hd => by have := hd i (by omega) (by rw [← e4']; exact hv); rw [← e4'] at this; exact this⟩⟩ (by omega)⟩
          by_cases y : j = i
          · rw [y, ← e4']; exact ca_r _ _
          · exact absurd h (q j (by omega))
        · rcases q1 with y | y <;> omega
    refine ⟨fun z4 => skip (fun h => h.1 z4), fun z4 => ⟨fun z5 => take ⟨z4, Or.inl z5⟩, fun z5 => ?_⟩⟩
    have hr : 0 ≤ v4 ∧ v4 < C c 0 := by
      rcases (hin v4).mp ⟨i, by omega, e4'.symm⟩ with q | q
      · exact absurd q.1 z5
      · exact ⟨q.1, q.2.1⟩
    refine ⟨hr.1, by omega, fun v7 e7 _ => ?_⟩
    have e7' : v7 = M1 (c + 22) v4 := e7
    refine ⟨fun z7 => take ⟨z4, Or.inr (by rw [← e7']; exact z7)⟩, fun z7 => skip fun h => ?_⟩
    rcases h.2 with q | q
    · exact z5 q
    · exact q (by rw [← e7']; exact z7)
