/-! dominators: one update keeps what is known -/
def dJ (E : Int → Int → Prop) (Z : Int → Prop) (n : Int) (δ : Int → Int) (D : Int → Int → Prop) : Prop := (oW δ n) ∧ (∀ x d, 0 ≤ x → x < n → δ x ≠ -2 → ¬ rc E Z (fun y => y ≠ d) x → ca δ x d) ∧ (∀ x e, 0 ≤ x → x < n → δ x ≠ -2 → ca δ x e → 0 ≤ e → e ≠ x → rc E (E e) (fun y => e < y) x) ∧ (∀ x d, 0 ≤ x → x < n → δ x ≠ -2 → ca δ x d → 0 ≤ d → d ≠ x → D x d) ∧ (∀ x y d, D x y → D y d → D x d) ∧ (∀ x d, D x d → 0 ≤ d ∧ d < x) ∧ (∀ x d, 0 ≤ x → x < n → ¬ Z x → 0 ≤ d → d < x → (∀ h, E h x → h ≠ x → d = h ∨ D h d) → D x d) ∧ (∀ x d, 0 ≤ x → x < n → δ x = -2 → 0 ≤ d → d < x → D x d)
theorem dJ.w {E : Int → Int → Prop} {Z : Int → Prop} {n : Int} {δ : Int → Int} {D : Int → Int → Prop} (h : dJ E Z n δ D) : oW δ n := h.1
theorem dJ.lo {E : Int → Int → Prop} {Z : Int → Prop} {n : Int} {δ : Int → Int} {D : Int → Int → Prop} (h : dJ E Z n δ D) : ∀ x d, 0 ≤ x → x < n → δ x ≠ -2 → ¬ rc E Z (fun y => y ≠ d) x → ca δ x d := h.2.1
theorem dJ.p {E : Int → Int → Prop} {Z : Int → Prop} {n : Int} {δ : Int → Int} {D : Int → Int → Prop} (h : dJ E Z n δ D) : ∀ x e, 0 ≤ x → x < n → δ x ≠ -2 → ca δ x e → 0 ≤ e → e ≠ x → rc E (E e) (fun y => e < y) x := h.2.2.1
theorem dJ.j {E : Int → Int → Prop} {Z : Int → Prop} {n : Int} {δ : Int → Int} {D : Int → Int → Prop} (h : dJ E Z n δ D) : ∀ x d, 0 ≤ x → x < n → δ x ≠ -2 → ca δ x d → 0 ≤ d → d ≠ x → D x d := h.2.2.2.1
theorem dJ.t {E : Int → Int → Prop} {Z : Int → Prop} {n : Int} {δ : Int → Int} {D : Int → Int → Prop} (h : dJ E Z n δ D) : ∀ x y d, D x y → D y d → D x d := h.2.2.2.2.1
theorem dJ.r {E : Int → Int → Prop} {Z : Int → Prop} {n : Int} {δ : Int → Int} {D : Int → Int → Prop} (h : dJ E Z n δ D) : ∀ x d, D x d → 0 ≤ d ∧ d < x := h.2.2.2.2.2.1
theorem dJ.u {E : Int → Int → Prop} {Z : Int → Prop} {n : Int} {δ : Int → Int} {D : Int → Int → Prop} (h : dJ E Z n δ D) : ∀ x d, 0 ≤ x → x < n → ¬ Z x → 0 ≤ d → d < x → (∀ h, E h x → h ≠ x → d = h ∨ D h d) → D x d := h.2.2.2.2.2.2.1
theorem dJ.n {E : Int → Int → Prop} {Z : Int → Prop} {n : Int} {δ : Int → Int} {D : Int → Int → Prop} (h : dJ E Z n δ D) : ∀ x d, 0 ≤ x → x < n → δ x = -2 → 0 ≤ d → d < x → D x d := h.2.2.2.2.2.2.2
def uD (E : Int → Int → Prop) (Z : Int → Prop) (D : Int → Int → Prop) (t : Int) : Int → Int → Prop := fun x d => (x = t ∧ 0 ≤ d ∧ d < t ∧ ¬ Z t ∧ ∀ h, E h t → h ≠ t → d = h ∨ D h d) ∨ (x ≠ t ∧ D x d)
theorem uD_s {E : Int → Int → Prop} {Z : Int → Prop} {D : Int → Int → Prop} {t d : Int} (h : uD E Z D t t d) : 0 ≤ d ∧ d < t ∧ ¬ Z t ∧ ∀ h, E h t → h ≠ t → d = h ∨ D h d := by
  rcases h with q | q
  · exact q.2
  · exact absurd rfl q.1
theorem uD_le {E : Int → Int → Prop} {Z : Int → Prop} {n : Int} {δ : Int → Int} {D : Int → Int → Prop} (hI : dJ E Z n δ D) {t : Int} (t0 : 0 ≤ t) (t1 : t < n) {x d : Int} (h : uD E Z D t x d) : D x d := by
  rcases h with ⟨rfl, a, b, e, f⟩ | q
  · exact hI.u x d t0 t1 e a b f
  · exact q.2
theorem dJ_up {E : Int → Int → Prop} {Z : Int → Prop} {n : Int} {δ : Int → Int} {D : Int → Int → Prop} (hE : ∀ u v, E u v → 0 ≤ u ∧ u < n ∧ 0 ≤ v ∧ v < n) (hI : dJ E Z n δ D) {t m : Int} (t0 : 0 ≤ t) (t1 : t < n) (hm : oS_ δ n m) (hmt : m < t) (hb : ∀ x, 0 ≤ x → x < t → δ x ≠ -2) (hz : Z t → m = -1) (hv : ∀ h, E h t → h ≠ t → δ h ≠ -2 → ca δ h m) (hc : ∀ d, (Z t → d = -1) → (∀ h, E h t → h ≠ t → δ h ≠ -2 → ca δ h d) → ca δ m d) (hx : Z t ∨ ∃ h, E h t ∧ h ≠ t ∧ δ h ≠ -2) : dJ E Z n (upD δ t m) (uD E Z D t) := by
  have hw := hI.w
  have hw' := upD_W hw t0 t1 hm hmt
  have hlo : ∀ h, E h t → 0 ≤ h ∧ h < n := fun h e => ⟨(hE h t e).1, (hE h t e).2.1⟩
  -- what lies on the new chain of t
  have chm : ∀ d, ca δ m d → oS_ δ n d ∧ d ≤ m := fun d h => ca_l hw hm h
  have chh : ∀ d h, ca δ m d → E h t → h ≠ t → δ h ≠ -2 → ca δ h d := fun d h q e ne s => ca_t (hv h e ne s) q
  have pt : ∀ e, ca δ m e → 0 ≤ e → rc E (E e) (fun y => e < y) t := by
    intro e he e0
    have hle := (chm e he).2
    rcases hx with q | ⟨h, h1, h2, h3⟩
    · have := hz q; omega
    · by_cases z : e = h
      · rw [z]; exact rc_z h1 (by omega)
      · have := hI.p h e (hlo h h1).1 (hlo h h1).2 h3 (chh e h he h1 h2 h3) e0 z
        exact rc_e this h1 (by omega)
  have dt : ∀ e, ca δ m e → 0 ≤ e → uD E Z D t t e := by
    intro e he e0
    have hle := (chm e he).2
    refine Or.inl ⟨rfl, e0, by omega, fun q => ?_, fun h h1 h2 => ?_⟩
    · have := hz q; omega
    · by_cases s : δ h = -2
      · refine Or.inr (hI.n h e (hlo h h1).1 (hlo h h1).2 s e0 ?_)
        have : ¬ h < t := fun q => hb h (hlo h h1).1 q s
        omega
      · by_cases z : e = h
        · exact Or.inl z
        · exact Or.inr (hI.j h e (hlo h h1).1 (hlo h h1).2 s (chh e h he h1 h2 s) e0 z)
  have set : ∀ x, x ≠ t → 0 ≤ x → x < n → upD δ t m x ≠ -2 → δ x ≠ -2 := fun x h _ _ => by rw [upD_o _ _ _ _ h]; exact id
  have up : ∀ x d, 0 ≤ x → x < n → (δ x ≠ -2 ∨ x = t) → (ca (upD δ t m) x d ↔ (((ca δ x t ∨ x = t) ∧ ((t ≤ d ∧ (ca δ x d ∨ d = x)) ∨ ca δ m d)) ∨ (¬ (ca δ x t ∨ x = t) ∧ ca δ x d))) := fun x d x0 x1 h => upD_c hw t0 t1 hm hmt (x + 1).toNat x d (by rcases h with q | q; exact Or.inl (Or.inr ⟨x0, x1, q⟩); exact Or.inr q) (by omega)
  have upt : ∀ d, ca (upD δ t m) t d ↔ d = t ∨ ca δ m d := fun d => by
    rw [ca_c t0, upD_s, upD_below hw (m + 1).toNat m d hm hmt (by rcases hm with q | q <;> omega)]
  have lot : ∀ d, ¬ rc E Z (fun y => y ≠ d) t → d = t ∨ ca δ m d := by
    intro d hd
    by_cases z : d = t
    · exact Or.inl z
    · refine Or.inr (hc d (fun q => absurd (rc_z q (fun e => z e.symm)) hd) fun h h1 h2 h3 => ?_)
      refine hI.lo h d (hlo h h1).1 (hlo h h1).2 h3 fun q => hd (rc_e q h1 (fun e => z e.symm))
  refine ⟨hw', ?_, ?_, ?_, ?_, ?_, ?_, ?_⟩
  · intro x d x0 x1 hs hd
    by_cases z : x = t
    · rw [z, upt]; rw [z] at hd; exact lot d hd
    · have hs' := set x z x0 x1 hs
      have hcd := hI.lo x d x0 x1 hs' hd
      rw [up x d x0 x1 (Or.inl hs')]
      by_cases hct : ca δ x t
      · refine Or.inl ⟨Or.inl hct, ?_⟩
        by_cases q : t ≤ d
        · exact Or.inl ⟨q, Or.inl hcd⟩
        · have : ¬ rc E Z (fun y => y ≠ d) t := fun y => hd (by
            have pp := hI.p x t x0 x1 hs' hct t0 (fun e => z e.symm)
            exact rc_i (P := fun v => rc E Z (fun y => y ≠ d) v) (fun v a b => rc_e y a (by omega)) (fun v v' a b s => rc_e a b (by omega)) x pp)
          rcases lot d this with q' | q'
          · omega
          · exact Or.inr q'
      · exact Or.inr ⟨by rintro (q | q); exact hct q; exact z q, hcd⟩
  · intro x e x0 x1 hs he e0 ne
    by_cases z : x = t
    · rw [z, upt] at he
      rcases he with q | q
      · exact absurd (by rw [q, z]) ne
      · rw [z]; exact pt e q e0
    · have hs' := set x z x0 x1 hs
      rw [up x e x0 x1 (Or.inl hs')] at he
      rcases he with ⟨q, ⟨-, b⟩ | b⟩ | ⟨-, b⟩
      · rcases b with b | b
        · exact hI.p x e x0 x1 hs' b e0 ne
        · exact absurd b ne
      · rcases q with q | q
        · have p1 := pt e b e0
          have p2 := hI.p x t x0 x1 hs' q t0 (fun y => z y.symm)
          have hle := (chm e b).2
          exact rc_i (P := fun v => rc E (E e) (fun y => e < y) v) (fun v a s => rc_e p1 a (by omega)) (fun v v' a b s => rc_e a b (by omega)) x p2
        · exact absurd q z
      · exact hI.p x e x0 x1 hs' b e0 ne
  · intro x d x0 x1 hs hd d0 ne
    by_cases z : x = t
    · rw [z, upt] at hd
      rcases hd with q | q
      · exact absurd (by rw [q, z]) ne
      · rw [z]; exact dt d q d0
    · have hs' := set x z x0 x1 hs
      refine Or.inr ⟨z, ?_⟩
      rw [up x d x0 x1 (Or.inl hs')] at hd
      rcases hd with ⟨q, ⟨-, b⟩ | b⟩ | ⟨-, b⟩
      · rcases b with b | b
        · exact hI.j x d x0 x1 hs' b d0 ne
        · exact absurd b ne
      · rcases q with q | q
        · exact hI.t x t d (hI.j x t x0 x1 hs' q t0 (fun y => z y.symm)) (uD_le hI t0 t1 (dt d b d0))
        · exact absurd q z
      · exact hI.j x d x0 x1 hs' b d0 ne
  · intro x y d h1 h2
    by_cases z : x = t
    · rw [z] at h1 ⊢
      obtain ⟨a1, a2, a3, a4⟩ := uD_s h1
      have h2' := uD_le hI t0 t1 h2
      have hr := hI.r y d h2'
      refine Or.inl ⟨rfl, hr.1, by omega, a3, fun h e1 e2 => ?_⟩
      rcases a4 h e1 e2 with q | q
      · rw [← q]; exact Or.inr h2'
      · exact Or.inr (hI.t _ _ _ q h2')
    · rcases h1 with q | q
      · exact absurd q.1 z
      · exact Or.inr ⟨z, hI.t _ _ _ q.2 (uD_le hI t0 t1 h2)⟩
  · intro x d h
    exact hI.r x d (uD_le hI t0 t1 h)
  · intro x d x0 x1 hnz d0 d1 h
    by_cases z : x = t
    · rw [z] at hnz d1 h ⊢
      exact Or.inl ⟨rfl, d0, d1, hnz, fun g e1 e2 => by rcases h g e1 e2 with q | q; exact Or.inl q; exact Or.inr (uD_le hI t0 t1 q)⟩
    · exact Or.inr ⟨z, hI.u x d x0 x1 hnz d0 d1 fun g e1 e2 => by rcases h g e1 e2 with q | q; exact Or.inl q; exact Or.inr (uD_le hI t0 t1 q)⟩
  · intro x d x0 x1 hs d0 d1
    by_cases z : x = t
    · rw [z, upD_s] at hs
      rcases hm with q | q <;> omega
    · rw [upD_o _ _ _ _ z] at hs
      exact Or.inr ⟨z, hI.n x d x0 x1 hs d0 d1⟩
/-- how far it is after a number of passes -/
def dK (E : Int → Int → Prop) (Z : Int → Prop) (n : Int) (D : Int → Int → Prop) (k : Nat) : Prop := ∀ x d, 0 ≤ x → x < n → D x d → ∀ i, i < k → ¬ rch E Z (fun y => y ≠ d) i x
theorem rch_S {E : Int → Int → Prop} {Z S : Int → Prop} (k : Nat) (t : Int) (h : rch E Z S k t) : S t := rc_s ⟨k, h⟩
/-- within a pass: those below τ are one step further -/
theorem dK_up {E : Int → Int → Prop} {Z : Int → Prop} {n : Int} {δ : Int → Int} {D : Int → Int → Prop} (hE : ∀ u v, E u v → 0 ≤ u ∧ u < n ∧ 0 ≤ v ∧ v < n) (hI : dJ E Z n δ D) {t : Int} (t0 : 0 ≤ t) (t1 : t < n) {k : Nat} (hk : dK E Z n D k) (hb : ∀ x d, 0 ≤ x → x < t → D x d → ∀ i, i < k + 1 → ¬ rch E Z (fun y => y ≠ d) i x) : dK E Z n (uD E Z D t) k ∧ ∀ x d, 0 ≤ x → x < t + 1 → uD E Z D t x d → ∀ i, i < k + 1 → ¬ rch E Z (fun y => y ≠ d) i x := by
  refine ⟨fun x d x0 x1 h => hk x d x0 x1 (uD_le hI t0 t1 h), fun x d x0 x1 h i hi => ?_⟩
  by_cases z : x = t
  · rw [z] at h ⊢
    obtain ⟨a1, a2, a3, a4⟩ := uD_s h
    have hD := uD_le hI t0 t1 h
    by_cases q : i < k
    · exact hk t d t0 t1 hD i q
    · have : i = k := by omega
      rw [this]
      cases k with
      | zero => exact fun y => a3 y.1
      | succ k =>
        rintro (y | ⟨-, v, y1, y2⟩)
        · exact hk t d t0 t1 hD k (by omega) y
        · by_cases e : v = t
          · rw [e] at y1; exact hk t d t0 t1 hD k (by omega) y1
          · rcases a4 v y2 e with q' | q'
            · exact rch_S k v y1 q'.symm
            · exact hk v d (hE v t y2).1 (hE v t y2).2.1 q' k (by omega) y1
  · exact hb x d x0 (by omega) (uD_le hI t0 t1 h) i hi
/-- what is reached at all is reached in as many steps as there are things -/
theorem rk_lt {P P' : Int → Prop} (n : Nat) (h : ∀ t, P t → P' t) : rk P n ≤ rk P' n ∧ ∀ t : Int, 0 ≤ t → t < n → P' t → ¬ P t → rk P n < rk P' n := by
  induction n with
  | zero => exact ⟨Int.le_refl _, fun t a b => by omega⟩
  | succ n ih =>
    have hb : rk P (n + 1) ≤ rk P' (n + 1) := by
      by_cases z : P n
      · rw [(rk_s n).1 z, (rk_s n).1 (h _ z)]; omega
      · by_cases z' : P' n
        · rw [(rk_s n).2 z, (rk_s n).1 z']; omega
        · rw [(rk_s n).2 z, (rk_s n).2 z']; exact ih.1
    refine ⟨hb, fun t a b p' np => ?_⟩
    by_cases e : t = n
    · rw [e] at p' np
      rw [(rk_s n).2 np, (rk_s n).1 p']; omega
    · have := ih.2 t a (by omega) p' np
      by_cases z : P n
      · rw [(rk_s n).1 z, (rk_s n).1 (h _ z)]; omega
      · by_cases z' : P' n
        · rw [(rk_s n).2 z, (rk_s n).1 z']; omega
        · rw [(rk_s n).2 z, (rk_s n).2 z']; exact this
theorem rch_m {E : Int → Int → Prop} {Z S : Int → Prop} {t : Int} (i j : Nat) (h : i ≤ j) (hr : rch E Z S i t) : rch E Z S j t := by
  induction j with
  | zero => rw [show i = 0 from by omega] at hr; exact hr
  | succ j ih =>
    by_cases e : i = j + 1
    · rw [← e]; exact hr
    · exact Or.inl (ih (by omega))
theorem rch_all {E : Int → Int → Prop} {Z S : Int → Prop} {n : Nat} (hE : ∀ u v, E u v → 0 ≤ v ∧ v < n) (hZ : ∀ v, Z v → 0 ≤ v ∧ v < n) {t : Int} (h : rc E Z S t) : rch E Z S n t := by
  have hin : ∀ k x, rch E Z S k x → 0 ≤ x ∧ x < n := by
    intro k
    induction k with
    | zero => intro x q; exact hZ x q.1
    | succ k ih =>
      rintro x (q | ⟨-, u, -, q⟩)
      · exact ih x q
      · exact hE u x q
  -- stable at some step
  have st : ∀ k : Nat, (∀ x, rch E Z S (k + 1) x → rch E Z S k x) → ∀ j x, rch E Z S j x → rch E Z S k x := by
    intro k hk j
    induction j with
    | zero => intro x q; exact rch_m 0 k (by omega) q
    | succ j ih =>
      rintro x (q | ⟨s, u, q1, q2⟩)
      · exact ih x q
      · exact hk x (Or.inr ⟨s, u, ih u q1, q2⟩)
  have grow : ∀ k : Nat, (∃ j, j ≤ k ∧ ∀ x, rch E Z S (j + 1) x → rch E Z S j x) ∨ (k : Int) + 1 ≤ rk (rch E Z S (k + 1)) n := by
    intro k
    induction k with
    | zero =>
      by_cases q : ∀ x, rch E Z S 1 x → rch E Z S 0 x
      · exact Or.inl ⟨0, by omega, q⟩
      · refine Or.inr ?_
        obtain ⟨x, hx⟩ := Classical.not_forall.mp q
        obtain ⟨h1, h2⟩ := Classical.not_imp.mp hx
        have := (rk_lt (P := rch E Z S 0) (P' := rch E Z S 1) n (fun t q => Or.inl q)).2 x (hin 1 x h1).1 (hin 1 x h1).2 h1 h2
        have := rk_bd (rch E Z S 0) n
        show (0 : Int) + 1 ≤ rk (rch E Z S 1) n
        omega
    | succ k ih =>
      rcases ih with ⟨j, hj, q⟩ | ih
      · exact Or.inl ⟨j, by omega, q⟩
      · by_cases q : ∀ x, rch E Z S (k + 1 + 1) x → rch E Z S (k + 1) x
        · exact Or.inl ⟨k + 1, by omega, q⟩
        · refine Or.inr ?_
          obtain ⟨x, hx⟩ := Classical.not_forall.mp q
          obtain ⟨h1, h2⟩ := Classical.not_imp.mp hx
          have := (rk_lt (P := rch E Z S (k + 1)) (P' := rch E Z S (k + 1 + 1)) n (fun t q => Or.inl q)).2 x (hin _ x h1).1 (hin _ x h1).2 h1 h2
          omega
  obtain ⟨k, hk⟩ := h
  rcases grow n with ⟨j, hj, q⟩ | q
  · exact rch_m j n hj (st j q k t hk)
  · have := rk_bd (rch E Z S (n + 1)) n
    omega
/-- no pointer has changed in a pass: the chains are the dominators -/
theorem dJ_fix {E : Int → Int → Prop} {Z : Int → Prop} {n : Int} {δ : Int → Int} (hw : oW δ n) (hE : ∀ u v, E u v → 0 ≤ u ∧ u < n ∧ 0 ≤ v ∧ v < n) (hZ : ∀ v, Z v → 0 ≤ v ∧ v < n) (hf : ∀ t, 0 ≤ t → t < n → δ t ≠ -2 ∧ (Z t → δ t = -1) ∧ ∀ h, E h t → h ≠ t → ca δ h (δ t)) {t d : Int} (d0 : 0 ≤ d) (hc : ca δ t d) : ¬ rc E Z (fun y => y ≠ d) t := by
  intro h
  refine rc_i (P := fun x => 0 ≤ x ∧ x < n ∧ ¬ ca δ x d) (S := fun y => y ≠ d) ?_ ?_ t h |>.2.2 hc
  · intro x hz hs
    obtain ⟨x0, x1⟩ := hZ x hz
    refine ⟨x0, x1, fun q => ?_⟩
    rw [ca_c x0, (hf x x0 x1).2.1 hz, ca_n] at q
    rcases q with q | q
    · exact hs q.symm
    · omega
  · rintro u x ⟨u0, u1, hu⟩ he hs
    obtain ⟨-, -, x0, x1⟩ := hE u x he
    refine ⟨x0, x1, fun q => ?_⟩
    by_cases z : u = x
    · rw [z] at hu; exact hu q
    · rw [ca_c x0] at q
      rcases q with q | q
      · exact hs q.symm
      · exact hu (ca_t ((hf x x0 x1).2.2 u he z) q)
