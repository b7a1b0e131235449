/-! rules worked out by the reference: the state of a join -/
theorem loopO (b : (Int → Int → Int → Int → Int → Int → Int → Int → Int → Int → MM → Prop) → Int → Int → Int → Int → Int → Int → Int → Int → Int → Int → MM → Prop) (c0 c1 c2 c3 c4 c5 c6 c7 : Int) (I : Int → Int → MM → Prop) (μ : Int → Int → MM → Nat) (H : ∀ x y M f, I x y M → (∀ x' y' M', I x' y' M' → μ x' y' M' < μ x y M → f c0 c1 c2 c3 c4 c5 c6 c7 x' y' M') → b f c0 c1 c2 c3 c4 c5 c6 c7 x y M) (x y : Int) (M : MM) (h : I x y M) : ∃ n, jit (fun _ _ _ _ _ _ _ _ _ _ _ => False) b n c0 c1 c2 c3 c4 c5 c6 c7 x y M := by
  have K : ∀ (m : Nat) x y M, I x y M → μ x y M < m → jit (fun _ _ _ _ _ _ _ _ _ _ _ => False) b m c0 c1 c2 c3 c4 c5 c6 c7 x y M := by
    intro m
    induction m with
    | zero => intro x y M _ q; omega
    | succ m ih => intro x y M hi hm; exact H x y M _ hi fun x' y' M' hi' hl => ih x' y' M' hi' (by omega)
  exact ⟨_, K (μ x y M + 1) x y M h (by omega)⟩
theorem loopI (b : (Int → Int → Int → Int → Int → Int → Int → Int → Int → Int → Int → Int → MM → Prop) → Int → Int → Int → Int → Int → Int → Int → Int → Int → Int → Int → Int → MM → Prop) (c0 c1 c2 c3 c4 c5 c6 c7 c8 c9 : Int) (I : Int → Int → MM → Prop) (μ : Int → Int → MM → Nat) (H : ∀ x y M f, I x y M → (∀ x' y' M', I x' y' M' → μ x' y' M' < μ x y M → f c0 c1 c2 c3 c4 c5 c6 c7 x' c8 c9 y' M') → b f c0 c1 c2 c3 c4 c5 c6 c7 x c8 c9 y M) (x y : Int) (M : MM) (h : I x y M) : ∃ n, jit (fun _ _ _ _ _ _ _ _ _ _ _ _ _ => False) b n c0 c1 c2 c3 c4 c5 c6 c7 x c8 c9 y M := by
  have K : ∀ (m : Nat) x y M, I x y M → μ x y M < m → jit (fun _ _ _ _ _ _ _ _ _ _ _ _ _ => False) b m c0 c1 c2 c3 c4 c5 c6 c7 x c8 c9 y M := by
    intro m
    induction m with
    | zero => intro x y M _ q; omega
    | succ m ih => intro x y M hi hm; exact H x y M _ hi fun x' y' M' hi' hl => ih x' y' M' hi' (by omega)
  exact ⟨_, K (μ x y M + 1) x y M h (by omega)⟩
def OutJ (A : MM) (n : Int) (R M : MM) : Prop := (∀ i, M 94 i = R 94 i ∨ ∃ k a, 0 ≤ k ∧ k < A 261 16 ∧ A 273 k = 1 ∧ 0 ≤ a ∧ a < n ∧ i = 40 * k + a) ∧ ∀ i, M 95 i = R 95 i ∨ ∃ k a b, 0 ≤ k ∧ k < A 261 16 ∧ A 273 k = 2 ∧ 0 ≤ a ∧ a < n ∧ 0 ≤ b ∧ b < n ∧ i = 1600 * k + 40 * a + b
theorem OutJ_r (A : MM) (n : Int) (R : MM) : OutJ A n R R := ⟨fun _ => Or.inl rfl, fun _ => Or.inl rfl⟩
theorem OutJ_t {A R M M' : MM} {n : Int} (h : OutJ A n R M) (g : OutJ A n M M') : OutJ A n R M' := ⟨fun i => (g.1 i).elim (fun e => (h.1 i).imp (fun e' => by rw [e, e']) id) Or.inr, fun i => (g.2 i).elim (fun e => (h.2 i).imp (fun e' => by rw [e, e']) id) Or.inr⟩
def SJ (A : MM) (n : Int) (cl : Int → Int → Prop) (R M : MM) : Prop := FJ R M ∧ leK (FRk A n R) (FRk A n M) ∧ (∀ L, leK (FRk A n R) L → Clsd A n cl L → leK (FRk A n M) L) ∧ (M 0 138 = 0 ∨ M 0 138 = 1) ∧ (M 0 138 = 0 → R 0 138 = 0 ∧ leK (FRk A n M) (FRk A n R)) ∧ (M 0 138 = 1 → R 0 138 = 1 ∨ newK (FRk A n R) (FRk A n M)) ∧ OutJ A n R M
def BW (R M : MM) (S : Int → Prop) : Prop := ∀ v, 0 ≤ v → v < 9 → (S v ∨ R 96 v = 1 → M 96 v = 1) ∧ (¬ S v → R 96 v ≠ 1 → M 96 v = 0) ∧ (R 96 v = 1 → M 93 v = R 93 v)
def hbJ (A R : MM) (r : Int) : Prop := R 96 (A 263 r) = 1 ∧ R 96 (A 264 r) = 1
def hfJ (A : MM) (n : Int) (R M : MM) (r : Int) : Prop := FRk A n M (A 262 r) (R 93 (A 263 r)) (R 93 (A 264 r))
def DnJ (A : MM) (n : Int) (cl : Int → Int → Prop) (R : MM) (r : Int) (P : (Int → Int) → Prop) : Prop := ∀ β', (∀ v, 0 ≤ v → v < A 265 r → R 96 v = 1 → β' v = R 93 v) → Bnd A n r β' → Sat A cl (FRk A n R) r β' → P β' → HdK A (FRk A n R) r β'
def JPo (A : MM) (n : Int) (cl : Int → Int → Prop) (R : MM) (r x : Int) (R' : MM) : Prop := (x = 0 ∨ x = 1) ∧ SJ A n cl R R' ∧ BW R R' (fun _ => False) ∧ (x = 1 → hbJ A R r → hfJ A n R R' r) ∧ (R' 0 138 = 0 → DnJ A n cl R r (fun _ => True))
def B01 (n : Int) (R : MM) : Prop := ∀ v, 0 ≤ v → v < 9 → R 96 v = 0 ∨ R 96 v = 1 ∧ 0 ≤ R 93 v ∧ R 93 v < n
def PJk (A : MM) (n : Int) (cl : Int → Int → Prop) (R : MM) (r k : Int) : Prop := ∀ m, 0 ≤ m → m < k → R 96 (A 268 (4 * r + m)) = 1 ∧ R 96 (A 269 (4 * r + m)) = 1 ∧ akH A cl (FRk A n R) (4 * r + m) (R 93 (A 268 (4 * r + m))) (R 93 (A 269 (4 * r + m)))
theorem SJ_r {A R : MM} {n : Int} {cl : Int → Int → Prop} (z : R 0 138 = 0 ∨ R 0 138 = 1) : SJ A n cl R R := ⟨FJ_r R, leK_r _, fun _ h _ => h, z, fun z => ⟨z, leK_r _⟩, fun z => Or.inl z, OutJ_r A n R⟩
theorem SJ_t {A R M M' : MM} {n : Int} {cl : Int → Int → Prop} (h : SJ A n cl R M) (g : SJ A n cl M M') : SJ A n cl R M' := by
  obtain ⟨h1, h2, h3, h4, h5, h6, h7⟩ := h
  obtain ⟨g1, g2, g3, g4, g5, g6, g7⟩ := g
  refine ⟨FJ_t h1 g1, leK_t h2 g2, fun L a b => g3 L (h3 L a b) b, g4, fun z => ⟨(h5 (g5 z).1).1, leK_t (g5 z).2 (h5 (g5 z).1).2⟩, fun z => ?_, OutJ_t h7 g7⟩
  rcases g6 z with y | y
  · rcases h6 y with x | x
    · exact Or.inl x
    · exact Or.inr (newK_l x g2)
  · exact Or.inr (newK_r h2 y)
theorem SJ_b {A R M M' : MM} {n : Int} {cl : Int → Int → Prop} (h : SJ A n cl R M) (e : ∀ k, k ≠ 93 → k ≠ 96 → M' k = M k) : SJ A n cl R M' := by
  have ef : FRk A n M' = FRk A n M := FRk_e (e 94 (by decide) (by decide)) (e 95 (by decide) (by decide)) (e 61 (by decide) (by decide))
  unfold SJ FJ OutJ at h ⊢
  rw [ef, e 0 (by decide) (by decide), e 94 (by decide) (by decide), e 95 (by decide) (by decide)]
  exact ⟨⟨fun k a b => by rw [e k (by omega) (by omega)]; exact h.1.1 k a b, h.1.2⟩, h.2⟩
theorem BW_r {n : Int} {R : MM} (h : B01 n R) : BW R R (fun _ => False) := fun v a b => ⟨fun x => x.elim False.elim id, fun _ y => (h v a b).elim id (fun z => absurd z.1 y), fun _ => rfl⟩
theorem BW_t {R N M : MM} {S : Int → Prop} (h : BW R N S) (g : BW N M (fun _ => False)) : BW R M S := fun v a b => ⟨fun x => (g v a b).1 (Or.inr ((h v a b).1 x)), fun x y => (g v a b).2.1 id (by rw [(h v a b).2.1 x y]; decide), fun x => by rw [(g v a b).2.2 ((h v a b).1 (Or.inr x)), (h v a b).2.2 x]⟩
/-- one more is bound -/
theorem BW_u {R M M' : MM} {S : Int → Prop} {w x : Int} (h : BW R M S) (e : M' = ux_ (ux_ M 93 w x) 96 w 1) (hx : R 96 w = 1 → x = R 93 w) : BW R M' (fun v => S v ∨ v = w) := fun v a b => by
  have e96 : M' 96 v = if v = w then 1 else M 96 v := by rw [e, ux_v, ux_g _ _ _ (by decide)]
  have e93 : M' 93 v = if v = w then x else M 93 v := by rw [e, ux_g _ _ _ (by decide), ux_v]
  rw [e96, e93]
  by_cases y : v = w
  · rw [if_pos y, if_pos y]
    exact ⟨fun _ => rfl, fun z => absurd (Or.inr y) z, fun z => by rw [y] at z ⊢; exact hx z⟩
  · rw [if_neg y, if_neg y]
    exact ⟨fun z => (h v a b).1 (z.elim (fun z => z.elim Or.inl (fun q => absurd q y)) Or.inr), fun z1 z2 => (h v a b).2.1 (fun q => z1 (Or.inl q)) z2, (h v a b).2.2⟩
/-- and no more -/
theorem BW_d {R M M' : MM} {S : Int → Prop} {w : Int} (h : BW R M (fun v => S v ∨ v = w)) (e : M' = ux_ M 96 w 0) (hS : ¬ S w) (hR : R 96 w ≠ 1) : BW R M' S := fun v a b => by
  have e96 : M' 96 v = if v = w then 0 else M 96 v := by rw [e, ux_v]
  have e93 : M' 93 v = M 93 v := by rw [e, ux_g _ _ _ (by decide)]
  rw [e96, e93]
  by_cases y : v = w
  · rw [if_pos y]
    exact ⟨fun z => z.elim (fun z => absurd (by rw [← y]; exact z) hS) (fun z => absurd (by rw [← y]; exact z) hR), fun _ _ => rfl, (h v a b).2.2⟩
  · rw [if_neg y]
    exact ⟨fun z => (h v a b).1 (z.elim (fun z => Or.inl (Or.inl z)) Or.inr), fun z1 z2 => (h v a b).2.1 (fun q => q.elim z1 (fun q => y q)) z2, (h v a b).2.2⟩
/-- it was bound anyway -/
theorem BW_k {R M : MM} {S : Int → Prop} {w : Int} (h : BW R M (fun v => S v ∨ v = w)) (hw : S w ∨ R 96 w = 1) : BW R M S := fun v a b => ⟨fun z => (h v a b).1 (z.elim (fun z => Or.inl (Or.inl z)) Or.inr), fun z1 z2 => (h v a b).2.1 (fun q => q.elim z1 (fun q => hw.elim (fun y => z1 (by rw [q]; exact y)) (fun y => z2 (by rw [q]; exact y)))) z2, (h v a b).2.2⟩
theorem BW_z {R M M' : MM} {w : Int} (h : BW R M (fun _ => False)) (e : M' = ux_ M 96 w 0) (hR : R 96 w ≠ 1) : BW R M' (fun _ => False) := fun v a b => by
  have e96 : M' 96 v = if v = w then 0 else M 96 v := by rw [e, ux_v]
  have e93 : M' 93 v = M 93 v := by rw [e, ux_g _ _ _ (by decide)]
  rw [e96, e93]
  by_cases y : v = w
  · rw [if_pos y]
    exact ⟨fun z => z.elim False.elim (fun z => absurd (by rw [← y]; exact z) hR), fun _ _ => rfl, (h v a b).2.2⟩
  · rw [if_neg y]
    exact h v a b
