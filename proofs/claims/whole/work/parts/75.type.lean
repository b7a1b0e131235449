/-! type, in the reference -/
theorem nmR_00 {R : MM} {x v : Int} (h : nmR (ux_ R 0 0 x) v) : nmR R v := by
  have e1 : ux_ R 0 0 x 1 = R 1 := by funext i; exact ux_c _ _ _ _ (by decide)
  have e3 : ux_ R 0 0 x 3 = R 3 := by funext i; exact ux_c _ _ _ _ (by decide)
  have e0 : ux_ R 0 0 x 0 3 = R 0 3 := ux_i _ _ _ (by decide)
  unfold nmR at h ⊢
  rw [e1, e3, e0] at h
  exact h
set_option maxHeartbeats 400000 in
theorem R_type_bad {Q : Int → MM → Prop} {u l : Int} {R : MM} (hb : (u ≠ -1 ∧ ¬ (0 ≤ u ∧ u < R 0 20)) ∨ l < 0 ∨ 3 < l) (h : Q 0 (ux_ R 0 0 1)) : w_X12_type Q u l R := by
  have H23 : w_X12_type_b23 Q u l R := by
    unfold w_X12_type_b23 w_X12_type_b28
    intro M1 e1 v2 e2 g2
    have : v2 = 1 := by rw [e2, e1, ux_s]
    exact ⟨fun z => by omega, fun _ => by rw [e1]; exact h⟩
  have H14 : ¬ (u ≠ -1 ∧ ¬ (0 ≤ u ∧ u < R 0 20)) → w_X12_type_b14 Q u l R := by
    intro hn
    unfold w_X12_type_b14
    exact ⟨fun _ => H23, fun z => ⟨fun z2 => by omega, fun _ => H23⟩⟩
  unfold w_X12_type
  refine ⟨fun z => H14 (by omega), fun z => p_R_isClass (fun c0 c1 _ => ⟨fun q => by omega, fun _ => H14 (by omega)⟩) (fun c0 _ => ⟨fun _ => H23, fun q => absurd rfl q⟩)⟩
/-- the reference's memory once the class is added, before its layout -/
def rAdd (R : MM) (u l x : Int) : MM := fun k i => if k = 0 ∧ i = 0 then 0 else if k = 0 ∧ i = 20 then R 0 20 + 1 else if k = 4 ∧ i = R 0 20 then x else if k = 7 ∧ i = R 0 20 then l else if k = 8 ∧ i = R 0 20 then u else if k = 9 ∧ i = R 0 20 then 0 else if k = 16 ∧ u ≠ -1 ∧ i = u then 1 else if k = 16 ∧ i = R 0 20 then 0 else R k i
set_option maxHeartbeats 800000 in
theorem R_type_ok {Q : Int → MM → Prop} {u l : Int} {R : MM} (hu : u = -1 ∨ (0 ≤ u ∧ u < R 0 20)) (hl : 0 ≤ l) (hl2 : l ≤ 3) (t1 : 0 ≤ R 0 3) (t2 : R 0 3 ≤ 4000) (n0 : 0 ≤ R 0 20) (n1 : R 0 20 ≤ 16)
    (h2 : ∀ v, nmR R v → v = 0 → Q 0 (ux_ R 0 0 2))
    (h3 : ∀ v, nmR R v → v ≠ 0 → (R 0 20 = 16 ∨ ∃ c, 0 ≤ c ∧ c < R 0 20 ∧ R 7 c = l ∧ R 4 c = v) → Q 0 (ux_ R 0 0 3))
    (h : ∀ v, nmR R v → v ≠ 0 → R 0 20 ≠ 16 → (∀ c, 0 ≤ c → c < R 0 20 → ¬ (R 7 c = l ∧ R 4 c = v)) → w_X12_type_b229 Q (R 0 20) (rAdd R u l v)) : w_X12_type Q u l R := by
  have uu : ∀ a b : Int, ux_ (ux_ R 0 0 a) 0 0 b = ux_ R 0 0 b := by
    intro a b
    funext k i
    unfold ux_
    by_cases z : k = 0 ∧ i = 0
    · rw [if_pos z, if_pos z]
    · rw [if_neg z, if_neg z, if_neg z]
  have H149 : ∀ v, nmR R v → v ≠ 0 → ∀ s, (s = 3 ∧ (R 0 20 = 16 ∨ ∃ c, 0 ≤ c ∧ c < R 0 20 ∧ R 7 c = l ∧ R 4 c = v)) ∨ (s = 0 ∧ R 0 20 ≠ 16 ∧ ∀ c, 0 ≤ c → c < R 0 20 → ¬ (R 7 c = l ∧ R 4 c = v)) → w_X12_type_b149 Q u l v s (ux_ R 0 0 0) := by
    intro v hv hv0 s hs
    unfold w_X12_type_b149
    intro M1 e1 v2 e2 g2
    rw [uu] at e1
    have ev2 : v2 = s := by rw [e2, e1, ux_s]
    rcases hs with ⟨rfl, hs⟩ | ⟨rfl, hs, hs2⟩
    · exact ⟨fun z => by omega, fun _ => by rw [e1]; exact h3 v hv hv0 hs⟩
    · refine ⟨fun _ v4 e4 g4 v5 e5 g5 => ?_, fun z => by omega⟩
      have e4' : v4 = R 0 20 := by rw [e4, e1, ux_i _ _ _ (by decide)]
      have e5' : v5 = R 0 20 := by rw [e5, e1, ux_i _ _ _ (by decide)]
      subst e4' e5'
      have key : ∀ M, M = rAdd R u l v → w_X12_type_b229 Q (R 0 20) M := fun M e => by rw [e]; exact h v hv hv0 hs hs2
      have hlt : R 0 20 < 16 := by omega
      refine ⟨by unfold ri_; omega, fun M7 e7 => ⟨n0, hlt, fun M8 e8 => ⟨n0, hlt, fun M9 e9 => ⟨n0, hlt, fun M10 e10 => ⟨n0, hlt, fun M11 e11 => ⟨n0, hlt, fun M12 e12 => ⟨fun zu => key _ ?_, fun zu => ⟨by omega, by omega, fun M14 e14 => key _ ?_⟩⟩⟩⟩⟩⟩⟩⟩
      · subst e12 e11 e10 e9 e8 e7 e1
        funext k i
        unfold rAdd ux_
        by_cases a : k = 0
        · subst a; simp; grind
        · simp [a]; grind
      · subst e14 e12 e11 e10 e9 e8 e7 e1
        funext k i
        unfold rAdd ux_
        by_cases a : k = 0
        · subst a; simp; grind
        · simp [a, zu]; grind
  have H88 : ∀ v, nmR R v → v ≠ 0 → ∀ (m : Nat) (g k : Int), 0 ≤ k → k ≤ R 0 20 → R 0 20 - k < m → (g = 0 ∨ g = 1) → (g = 1 ↔ (R 0 20 = 16 ∨ ∃ c, 0 ≤ c ∧ c < k ∧ R 7 c = l ∧ R 4 c = v)) → jit (fun _ _ _ _ _ _ => False) (wb_X12_type_b88 Q) m u l v g k (ux_ R 0 0 0) := by
    intro v hv hv0 m
    induction m with
    | zero => intro g k k0 k1 hm hg hi; omega
    | succ m ih =>
      intro g k k0 k1 hm hg hi
      show wb_X12_type_b88 Q (jit (fun _ _ _ _ _ _ => False) (wb_X12_type_b88 Q) m) u l v g k (ux_ R 0 0 0)
      have hy : k < R 0 20 → (R 0 20 = 16 ∨ ∃ c, 0 ≤ c ∧ c < k + 1 ∧ R 7 c = l ∧ R 4 c = v) → w_X12_type_b125 Q (jit (fun _ _ _ _ _ _ => False) (wb_X12_type_b88 Q) m) u l v k (ux_ R 0 0 0) := by
        intro hk hh
        unfold w_X12_type_b125 w_X12_type_b130
        exact ⟨by unfold ri_; omega, ih 1 (k + 1) (by omega) (by omega) (by omega) (Or.inr rfl) ⟨fun _ => hh, fun _ => rfl⟩⟩
      have hnn : k < R 0 20 → ¬ (R 0 20 = 16 ∨ ∃ c, 0 ≤ c ∧ c < k + 1 ∧ R 7 c = l ∧ R 4 c = v) → w_X12_type_b129 Q (jit (fun _ _ _ _ _ _ => False) (wb_X12_type_b88 Q) m) u l v k (ux_ R 0 0 0) := by
        intro hk hh
        unfold w_X12_type_b129 w_X12_type_b130
        exact ⟨by unfold ri_; omega, ih 0 (k + 1) (by omega) (by omega) (by omega) (Or.inl rfl) ⟨fun q => by omega, fun q => absurd q hh⟩⟩
      have hlast : ¬ (R 0 20 = 16 ∨ ∃ c, 0 ≤ c ∧ c < k ∧ R 7 c = l ∧ R 4 c = v) → ¬ (R 7 k = l ∧ R 4 k = v) → ¬ (R 0 20 = 16 ∨ ∃ c, 0 ≤ c ∧ c < k + 1 ∧ R 7 c = l ∧ R 4 c = v) := by
        intro a b q
        rcases q with q | ⟨c, c0, c1, c2, c3⟩
        · exact a (Or.inl q)
        · by_cases e : c = k
          · subst e; exact b ⟨c2, c3⟩
          · exact a (Or.inr ⟨c, c0, by omega, c2, c3⟩)
      unfold wb_X12_type_b88
      intro v1 e1 g1
      rw [ux_i _ _ _ (by decide)] at e1
      subst e1
      refine ⟨fun z => ?_, fun z => ⟨fun zg => hy (by omega) ?_, fun zg => ⟨k0, by omega, fun v5 e5 g5 => ?_⟩⟩⟩
      · have ek : k = R 0 20 := by omega
        subst ek
        refine ⟨fun zg => H149 v hv hv0 0 (Or.inr ⟨rfl, fun q => by have := hi.mpr (Or.inl q); omega, fun c c0 c1 c2 => by have := hi.mpr (Or.inr ⟨c, c0, c1, c2⟩); omega⟩), fun zg => H149 v hv hv0 3 (Or.inl ⟨rfl, hi.mp (hg.resolve_left zg)⟩)⟩
      · rcases hi.mp (hg.resolve_left zg) with q | ⟨c, c0, c1, c2⟩
        · exact Or.inl q
        · exact Or.inr ⟨c, c0, by omega, c2⟩
      · rw [ux_c _ _ _ _ (by decide)] at e5
        have hno : ¬ (R 0 20 = 16 ∨ ∃ c, 0 ≤ c ∧ c < k ∧ R 7 c = l ∧ R 4 c = v) := fun q => by have := hi.mpr q; omega
        refine ⟨fun z5 => hnn (by omega) (hlast hno (fun q => z5 (by rw [e5]; exact q.1))), fun z5 => ⟨k0, by omega, fun v7 e7 g7 => ?_⟩⟩
        rw [ux_c _ _ _ _ (by decide)] at e7
        exact ⟨fun z7 => hnn (by omega) (hlast hno (fun q => z7 (by rw [e7]; exact q.2))), fun z7 => hy (by omega) (Or.inr ⟨k, k0, by omega, by rw [← e5]; exact z5, by rw [← e7]; exact z7⟩)⟩
  have H28 : w_X12_type_b28 Q u l 0 R := by
    unfold w_X12_type_b28
    intro M1 e1 v2 e2 g2
    have ev2 : v2 = 0 := by rw [e2, e1, ux_s]
    refine ⟨fun _ => ?_, fun z => by omega⟩
    rw [e1]
    have e3 : ux_ R 0 0 0 0 3 = R 0 3 := ux_i _ _ _ (by decide)
    refine p_R_tapeName (by rw [e3]; exact t1) (by rw [e3]; exact t2) (fun v hv _ => ⟨fun z => ?_, fun z => ?_⟩)
    · have hv' := nmR_00 hv
      unfold w_X12_type_b57
      intro M5 e5 v6 e6 g6
      rw [uu] at e5
      have ev6 : v6 = 0 := by rw [e6, e5, ux_s]
      refine ⟨fun _ v4 e4 g4 => ?_, fun q => by omega⟩
      have e4' : v4 = R 0 20 := by rw [e4, e5, ux_i _ _ _ (by decide)]
      subst e4'
      rw [e5]
      unfold w_X12_type_b83
      exact ⟨fun z4 => ⟨_, H88 v hv' z (R 0 20 + 1).toNat 0 0 (by omega) n0 (by omega) (Or.inl rfl) ⟨fun q => by omega, fun q => by rcases q with q | ⟨c, c0, c1, -⟩; exact absurd q z4; omega⟩⟩, fun z4 => ⟨_, H88 v hv' z (R 0 20 + 1).toNat 1 0 (by omega) n0 (by omega) (Or.inr rfl) ⟨fun _ => Or.inl z4, fun _ => rfl⟩⟩⟩
    · have hv' := nmR_00 hv
      unfold w_X12_type_b57
      intro M5 e5 v6 e6 g6
      rw [uu] at e5
      have ev6 : v6 = 2 := by rw [e6, e5, ux_s]
      exact ⟨fun q => by omega, fun _ => by rw [e5]; exact h2 v hv' z⟩
  have H14 : w_X12_type_b14 Q u l R := by
    unfold w_X12_type_b14
    exact ⟨fun z => by omega, fun _ => ⟨fun _ => H28, fun z => by omega⟩⟩
  unfold w_X12_type
  exact ⟨fun _ => H14, fun z => p_R_isClass (fun c0 c1 _ => ⟨fun q => by omega, fun _ => H14⟩) (fun c0 _ => ⟨fun _ => by exfalso; omega, fun q => absurd rfl q⟩)⟩
