/-! a field of that name, in the reference -/
/-- own field k of class x has that name and isn't static -/
def ofN (C : MM) (x k D : Int) : Prop := 0 ≤ k ∧ k < C 14 x ∧ C 21 (6 * x + k) = 0 ∧ C 18 (6 * x + k) = D
theorem fd_sl {C R : MM} (hY : Rty C R) {c : Int} (c0 : 0 ≤ c) (c1 : c < C 8 0) {m : Nat} {x k : Int} (hm : upn C c m = x) (x0 : 0 ≤ x) (x1 : x < C 8 0) (k0 : 0 ≤ k) (k1 : k < C 14 x) (hs : C 21 (6 * x + k) = 0) (hc : C 22 (6 * x + k) < C 16 c) : C 23 (96 * c + C 22 (6 * x + k)) = C 18 (6 * x + k) ∧ C 24 (96 * c + C 22 (6 * x + k)) = C 19 (6 * x + k) := by
  have hp := pOk_of hY
  have o := own_sl hY x0 x1 k0 k1 hs
  have b0 : 0 ≤ bsC C x := by
    unfold bsC
    split
    · omega
    · have := hp.2 x x0 x1
      exact (ty_bd hY (C 11 x) (by omega) (by omega)).1
  obtain ⟨m9, x9, k9, q1, q2, q3, q4, q5, q6, q7, q8, q9⟩ := (hY.2.2.2.1 c c0 c1).2.2.1 (C 22 (6 * x + k)) (by omega) hc
  have x9l : x9 < C 8 0 := by have := (upn_in hp (c := c) (by omega) c1 m9).2; rw [q1] at this; exact this
  have o9 := own_sl hY q2 x9l q3 q4 q5
  have ex : x = x9 := by
    by_cases e : m = m9
    · rw [← hm, ← q1, e]
    · by_cases l : m < m9
      · have := upn_sl hY c0 c1 m (m9 - m - 1)
        rw [show m + (m9 - m - 1) + 1 = m9 from by omega, q1, hm] at this
        have := this q2
        omega
      · have := upn_sl hY c0 c1 m9 (m - m9 - 1)
        rw [show m9 + (m - m9 - 1) + 1 = m from by omega, q1, hm] at this
        have := this x0
        omega
  subst ex
  have ek : k = k9 := own_inj hY x0 x1 k0 k1 hs q3 q4 q5 q6.symm
  subst ek
  exact ⟨q7, q8⟩
/-- the slots of the class above lie among the class's own -/
theorem up16 {C R : MM} (hY : Rty C R) {c : Int} (c0 : 0 ≤ c) (c1 : c < C 8 0) (m : Nat) (h : 0 ≤ upn C c m) : C 16 (upn C c m) ≤ C 16 c := by
  have hp := pOk_of hY
  cases m with
  | zero => exact Int.le_refl _
  | succ m =>
    have := upn_sl hY c0 c1 0 m
    rw [show 0 + m + 1 = m + 1 from by omega] at this
    have h2 := this h
    have h3 : bsC C (upn C c 0) ≤ C 16 c := by
      show bsC C c ≤ C 16 c
      have l2 := (hY.2.2.2.1 c c0 c1).2.1.2.1
      have := ns_bd (C 21) (6 * c) (C 14 c).toNat
      omega
    omega
theorem fdN {C R : MM} (hY : Rty C R) {c D : Int} (c0 : 0 ≤ c) (c1 : c < C 8 0) {m : Nat} {x k : Int} (hm : upn C c m = x) (x0 : 0 ≤ x) (hk : ofN C x k D) (hl : ∀ j, k < j → ¬ ofN C x j D) (hj : ∀ j, j < m → ∀ i, ¬ ofN C (upn C c j) i D) : slN C c D (C 22 (6 * x + k)) := by
  have hp := pOk_of hY
  have x1 : x < C 8 0 := by have := (upn_in hp (c := c) (by omega) c1 m).2; rw [hm] at this; exact this
  obtain ⟨k0, k1, k2, k3⟩ := hk
  have o := own_sl hY x0 x1 k0 k1 k2
  have b0 : 0 ≤ bsC C x := by
    unfold bsC
    split
    · omega
    · have := hp.2 x x0 x1
      exact (ty_bd hY (C 11 x) (by omega) (by omega)).1
  have u16 := up16 hY c0 c1 m (by rw [hm]; exact x0)
  rw [hm] at u16
  have fs := fd_sl hY c0 c1 hm x0 x1 k0 k1 k2 (by omega)
  refine Or.inr ⟨by omega, by omega, by rw [fs.1]; exact k3, fun i i0 i1 e => ?_⟩
  obtain ⟨m9, x9, k9, q1, q2, q3, q4, q5, q6, q7, q8, q9⟩ := (hY.2.2.2.1 c c0 c1).2.2.1 i (by omega) i1
  have x9l : x9 < C 8 0 := by have := (upn_in hp (c := c) (by omega) c1 m9).2; rw [q1] at this; exact this
  have o9 := own_sl hY q2 x9l q3 q4 q5
  have f9 : ofN C x9 k9 D := ⟨q3, q4, q5, by rw [← q7]; exact e⟩
  by_cases lt : m9 < m
  · exact hj m9 lt k9 (by rw [q1]; exact f9)
  · by_cases gt : m < m9
    · have := upn_sl hY c0 c1 m (m9 - m - 1)
      rw [show m + (m9 - m - 1) + 1 = m9 from by omega, q1, hm] at this
      have := this q2
      omega
    · have em : m9 = m := by omega
      rw [em, hm] at q1
      subst q1
      refine hl k9 ?_ f9
      by_cases lk : k < k9
      · exact lk
      · by_cases ek : k = k9
        · subst ek; omega
        · have := ns_lt (st := C 21) (b := 6 * x) (i := k9.toNat) (j := k.toNat) (by omega) (by rw [show ((k9.toNat : Nat) : Int) = k9 from by omega]; exact q5)
          omega
theorem fdN0 {C R : MM} (hY : Rty C R) {c D : Int} (c0 : 0 ≤ c) (c1 : c < C 8 0) (hj : ∀ j, 0 ≤ upn C c j → ∀ i, ¬ ofN C (upn C c j) i D) : slN C c D (-1) := by
  refine Or.inl ⟨rfl, fun i i0 i1 e => ?_⟩
  obtain ⟨m9, x9, k9, q1, q2, q3, q4, q5, q6, q7, q8, q9⟩ := (hY.2.2.2.1 c c0 c1).2.2.1 i (by omega) i1
  exact hj m9 (by rw [q1]; exact q2) k9 (by rw [q1]; exact ⟨q3, q4, q5, by rw [← q7]; exact e⟩)
set_option maxHeartbeats 400000 in
theorem p_R_wfF {Q : Int → MM → Prop} {C R : MM} {c D w t : Int} (hY : Rty C R) (c0 : 0 ≤ c) (c1 : c < C 8 0) (hw : nr D w) (h0 : slN C c D (-1) → w_X12_workField_b121 Q t (-1) R) (h1 : ∀ f, 0 ≤ f → f < 96 → 0 ≤ C 22 f → slN C c D (C 22 f) → C 22 f = R 14 f → C 24 (96 * c + C 22 f) = R 12 f → w_X12_workField_b121 Q t f R) : w_X12_workField_b27 Q t w (-1) c R := by
  have hp := pOk_of hY
  have h16 := hY.2.2.1
  have e8 : ∀ x, 0 ≤ x → x < C 8 0 → R 8 x = C 11 x := fun x x0 x1 => (hY.2.2.2.1 x x0 x1).1.2.2.1.symm
  have e9 : ∀ x, 0 ≤ x → x < C 8 0 → R 9 x = C 14 x ∧ 0 ≤ C 14 x ∧ C 14 x ≤ 6 := fun x x0 x1 => by
    obtain ⟨-, -, -, -, -, -, -, a, d, e, -⟩ := (hY.2.2.2.1 x x0 x1).1
    exact ⟨a.symm, d, e⟩
  unfold w_X12_workField_b27
  refine loop5 _ (fun (a d f x : Int) M => t = a ∧ w = d ∧ M = R ∧ ∃ m : Nat, upn C c m = x ∧ ((f = -1 ∧ ∀ j, j < m → ∀ i, ¬ ofN C (upn C c j) i D) ∨ (∃ (n : Nat) (y k : Int), n + 1 = m ∧ upn C c n = y ∧ 0 ≤ y ∧ f = 6 * y + k ∧ ofN C y k D ∧ (∀ j, k < j → ¬ ofN C y j D) ∧ ∀ j, j < n → ∀ i, ¬ ofN C (upn C c j) i D))) (fun _ _ _ (x : Int) _ => (x + 1).toNat) ?_ _ _ _ _ _ ⟨rfl, rfl, rfl, 0, rfl, Or.inl ⟨rfl, fun j hj => absurd hj (by omega)⟩⟩
  rintro _ _ f x M g ⟨rfl, rfl, rfl, m, hm, hf⟩ ih
  have hin := upn_in hp (c := c) (by omega) c1 m
  rw [hm] at hin
  have found : ∀ (n : Nat) (y k : Int), upn C c n = y → 0 ≤ y → f = 6 * y + k → ofN C y k D → (∀ j, k < j → ¬ ofN C y j D) → (∀ j, j < n → ∀ i, ¬ ofN C (upn C c j) i D) → w_X12_workField_b121 Q t f M := fun n y k hn y0 hf hk hl hj => by
    have y1 : y < C 8 0 := by have := (upn_in hp (c := c) (by omega) c1 n).2; rw [hn] at this; exact this
    have u16 := up16 hY c0 c1 n (by rw [hn]; exact y0)
    rw [hn] at u16
    have o := own_sl hY y0 y1 hk.1 hk.2.1 hk.2.2.1
    have fr := (hY.2.2.2.1 y y0 y1).2.2.2 k hk.1 hk.2.1
    have e6 := e9 y y0 y1
    have hk' := hk
    obtain ⟨a1, a2, a3, a4⟩ := hk'
    rw [hf]
    have b0 : 0 ≤ bsC C y := by
      unfold bsC
      split
      · omega
      · have := hp.2 y y0 y1
        exact (ty_bd hY (C 11 y) (by omega) (by omega)).1
    refine h1 _ (by omega) (by omega) (by omega) (fdN hY c0 c1 hn y0 hk hl hj) fr.2.2.2.2.2.2 ?_
    rw [(fd_sl hY c0 c1 hn y0 y1 a1 a2 a3 (by omega)).2]
    exact fr.2.1
  unfold wb_X12_workField_b27
  refine ⟨fun zx => ?_, fun zx => ⟨fun zf => ?_, fun zf => ?_⟩⟩
  · rcases hf with ⟨rfl, hj⟩ | ⟨n, y, k, -, hn, y0, e, hk, hl, hj⟩
    · refine h0 (fdN0 hY c0 c1 (fun j u0 i => ?_))
      by_cases jm : j < m
      · exact hj j jm i
      · have := upn_stay C c m (by rw [hm]; exact zx) (j - m)
        rw [show m + (j - m) = j from by omega] at this
        omega
    · exact found n y k hn y0 e hk hl hj
  · rcases hf with ⟨e, hj⟩ | ⟨n, y, k, -, hn, y0, e, hk, hl, hj⟩
    · exact absurd e zf
    · exact found n y k hn y0 e hk hl hj
  · have x0 : 0 ≤ x := by omega
    have hj : ∀ j, j < m → ∀ i, ¬ ofN C (upn C c j) i D := by
      rcases hf with ⟨-, hj⟩ | ⟨n, y, k, -, hn, y0, e, hk, -⟩
      · exact hj
      · have := hk.1; omega
    obtain ⟨a9, n0, n6⟩ := e9 x x0 hin.2
    unfold w_X12_workField_b42
    refine loop6 _ (fun (a d f y k : Int) M2 => t = a ∧ w = d ∧ x = y ∧ M2 = M ∧ 0 ≤ k ∧ k ≤ C 14 x ∧ ((f = -1 ∧ ∀ i, i < k → ¬ ofN C x i D) ∨ (∃ i, i < k ∧ f = 6 * x + i ∧ ofN C x i D ∧ ∀ j, i < j → j < k → ¬ ofN C x j D))) (fun _ _ _ _ (k : Int) _ => (C 14 x - k).toNat) ?_ _ _ _ _ _ _ ⟨rfl, rfl, rfl, rfl, by omega, n0, Or.inl ⟨zf, fun i hi h => by have := h.1; omega⟩⟩
    rintro _ _ f2 _ k M2 g2 ⟨rfl, rfl, rfl, rfl, k0, k1, hf2⟩ ih2
    unfold wb_X12_workField_b42
    refine ⟨x0, by omega, fun v1 e1 _ => ⟨fun z => ⟨x0, by omega, fun v3 e3 _ => ?_⟩, fun z => ⟨by unfold ri_; omega, by unfold ri_; omega, by omega, by omega, fun v6 e6 _ => ?_⟩⟩⟩
    · have kk : k = C 14 x := by omega
      rw [e8 x x0 hin.2] at e3
      have pd := hp.2 x x0 hin.2
      refine ih _ _ _ _ _ ⟨rfl, rfl, rfl, m + 1, by rw [upn_s, hm, if_neg zx, e3], ?_⟩ (by omega)
      rcases hf2 with ⟨rfl, hi⟩ | ⟨i, i1, rfl, hi, hl⟩
      · refine Or.inl ⟨rfl, fun j jm i => ?_⟩
        by_cases e : j = m
        · rw [e, hm]
          intro h
          exact hi i (by have := h.2.1; omega) h
        · exact hj j (by omega) i
      · exact Or.inr ⟨m, x, i, rfl, hm, x0, rfl, hi, fun j hj2 h => hl j hj2 (by have := h.2.1; omega) h, hj⟩
    · obtain ⟨f1, f2', f3, f4, f5, f6, f7⟩ := (hY.2.2.2.1 x x0 hin.2).2.2.2 k k0 (by omega)
      have keep : ¬ ofN C x k D → w_X12_workField_b99 Q g g2 t w f2 x k M2 := fun hno => by
        unfold w_X12_workField_b99 w_X12_workField_b101
        refine ⟨by unfold ri_; omega, ih2 _ _ _ _ _ _ ⟨rfl, rfl, rfl, rfl, by omega, by omega, ?_⟩ (by omega)⟩
        rcases hf2 with ⟨rfl, hi⟩ | ⟨i, i1, rfl, hi, hl⟩
        · refine Or.inl ⟨rfl, fun i hi2 => ?_⟩
          by_cases e : i = k
          · rw [e]; exact hno
          · exact hi i (by omega)
        · refine Or.inr ⟨i, by omega, rfl, hi, fun j j1 j2 => ?_⟩
          by_cases e : j = k
          · rw [e]; exact hno
          · exact hl j j1 (by omega)
      refine ⟨fun y => keep (fun h => y (by rw [e6, ← f6]; exact h.2.2.1)), fun y => ⟨by unfold ri_; omega, by unfold ri_; omega, by omega, by omega, fun v10 e10 _ => ⟨fun y2 => keep (fun h => y2 ?_), fun y2 => ⟨by unfold ri_; omega, by unfold ri_; omega, ?_⟩⟩⟩⟩
      · rw [e10]; exact (nr_eq f1 hw).mp h.2.2.2
      · unfold w_X12_workField_b101
        refine ⟨by unfold ri_; omega, ih2 _ _ _ _ _ _ ⟨rfl, rfl, rfl, rfl, by omega, by omega, Or.inr ⟨k, by omega, rfl, ⟨k0, by omega, by rw [f6, ← e6]; exact y, (nr_eq f1 hw).mpr (by rw [← e10]; exact y2)⟩, fun j j1 j2 => by omega⟩⟩ (by omega)⟩
