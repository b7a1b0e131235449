/-! chains of dominators -/
def an (δ : Int → Int) : Nat → Int → Int
  | 0, x => x
  | k + 1, x => if an δ k x < 0 then an δ k x else δ (an δ k x)
def ca (δ : Int → Int) (x d : Int) : Prop := ∃ k, an δ k x = d
/-- every one that is set points to a smaller one that is set, or to none -/
def oW (δ : Int → Int) (n : Int) : Prop := ∀ t, 0 ≤ t → t < n → δ t = -2 ∨ (-1 ≤ δ t ∧ δ t < t ∧ (0 ≤ δ t → δ (δ t) ≠ -2))
/-- set, or none -/
def oS_ (δ : Int → Int) (n x : Int) : Prop := x = -1 ∨ (0 ≤ x ∧ x < n ∧ δ x ≠ -2)
theorem an_s (δ : Int → Int) (k : Nat) (x : Int) : an δ (k + 1) x = if an δ k x < 0 then an δ k x else δ (an δ k x) := rfl
theorem an_f (δ : Int → Int) (k : Nat) : ∀ x, 0 ≤ x → an δ (k + 1) x = an δ k (δ x) := by
  induction k with
  | zero => intro x hx; show (if x < 0 then x else δ x) = δ x; rw [if_neg (by omega)]
  | succ k ih =>
    intro x hx
    rw [an_s, ih x hx, an_s δ k (δ x)]
theorem an_n (δ : Int → Int) (k : Nat) (x : Int) (h : x < 0) : an δ k x = x := by
  induction k with
  | zero => rfl
  | succ k ih => rw [an_s, ih, if_pos h]
theorem ca_r (δ : Int → Int) (x : Int) : ca δ x x := ⟨0, rfl⟩
theorem ca_t {δ : Int → Int} {x y z : Int} (h : ca δ x y) (h' : ca δ y z) : ca δ x z := by
  obtain ⟨k, hk⟩ := h
  obtain ⟨j, hj⟩ := h'
  refine ⟨k + j, ?_⟩
  have : ∀ j, an δ (k + j) x = an δ j y := by
    intro j
    induction j with
    | zero => exact hk
    | succ j ih => show an δ (k + j + 1) x = _; rw [an_s, ih, an_s]
  rw [this]; exact hj
theorem ca_c {δ : Int → Int} {x d : Int} (hx : 0 ≤ x) : ca δ x d ↔ d = x ∨ ca δ (δ x) d := by
  constructor
  · rintro ⟨k, hk⟩
    cases k with
    | zero => exact Or.inl hk.symm
    | succ k => rw [an_f δ k x hx] at hk; exact Or.inr ⟨k, hk⟩
  · rintro (rfl | ⟨k, hk⟩)
    · exact ca_r _ _
    · exact ⟨k + 1, by rw [an_f δ k x hx]; exact hk⟩
theorem ca_n {δ : Int → Int} {d : Int} : ca δ (-1) d ↔ d = -1 := by
  constructor
  · rintro ⟨k, hk⟩; rw [an_n δ k (-1) (by omega)] at hk; exact hk.symm
  · rintro rfl; exact ca_r _ _
/-- numbers fall along a chain, and it ends at none -/
theorem ca_le {δ : Int → Int} {n : Int} (hw : oW δ n) (m : Nat) : ∀ x d, oS_ δ n x → x < m → ca δ x d → oS_ δ n d ∧ d ≤ x := by
  induction m with
  | zero =>
    intro x d hx hm h
    rcases hx with rfl | ⟨a, -⟩
    · rw [ca_n] at h; exact ⟨Or.inl h, by omega⟩
    · omega
  | succ m ih =>
    intro x d hx hm h
    rcases hx with rfl | ⟨a, b, e⟩
    · rw [ca_n] at h; exact ⟨Or.inl h, by omega⟩
    · rw [ca_c a] at h
      rcases h with rfl | h
      · exact ⟨Or.inr ⟨a, b, e⟩, Int.le_refl _⟩
      · rcases hw x a b with q | ⟨q1, q2, q3⟩
        · exact absurd q e
        · have hs : oS_ δ n (δ x) := by
            by_cases z : δ x = -1
            · exact Or.inl z
            · exact Or.inr ⟨by omega, by omega, q3 (by omega)⟩
          obtain ⟨y1, y2⟩ := ih (δ x) d hs (by omega) h
          exact ⟨y1, by omega⟩
theorem ca_l {δ : Int → Int} {n x d : Int} (hw : oW δ n) (hx : oS_ δ n x) (h : ca δ x d) : oS_ δ n d ∧ d ≤ x := ca_le hw (x + 1).toNat x d hx (by rcases hx with q | q <;> omega) h
theorem ca_e {δ : Int → Int} {n : Int} (hw : oW δ n) (m : Nat) : ∀ x, oS_ δ n x → x < m → ca δ x (-1) := by
  induction m with
  | zero => intro x hx hm; rcases hx with rfl | ⟨a, -⟩; exact ca_r _ _; omega
  | succ m ih =>
    intro x hx hm
    rcases hx with rfl | ⟨a, b, e⟩
    · exact ca_r _ _
    · rcases hw x a b with q | ⟨q1, q2, q3⟩
      · exact absurd q e
      · rw [ca_c a]
        refine Or.inr (ih _ ?_ (by omega))
        by_cases z : δ x = -1
        · exact Or.inl z
        · exact Or.inr ⟨by omega, by omega, q3 (by omega)⟩
theorem ca_s {δ : Int → Int} {n x d : Int} (hw : oW δ n) (hx : oS_ δ n x) (h : ca δ x d) (hne : d ≠ x) : d < x := by have := (ca_l hw hx h).2; omega
/-- two of one chain: the smaller lies on the chain of the larger -/
theorem ca_o {δ : Int → Int} {n : Int} (hw : oW δ n) (m : Nat) : ∀ x d e, oS_ δ n x → x < m → ca δ x d → ca δ x e → d ≤ e → ca δ e d := by
  induction m with
  | zero =>
    intro x d e hx hm h h' hle
    rcases hx with rfl | ⟨a, -⟩
    · rw [ca_n] at h h'; rw [h, h']; exact ca_r _ _
    · omega
  | succ m ih =>
    intro x d e hx hm h h' hle
    rcases hx with rfl | ⟨a, b, e0⟩
    · rw [ca_n] at h h'; rw [h, h']; exact ca_r _ _
    · by_cases z : e = x
      · rw [z]; exact h
      · have he := ca_s hw (Or.inr ⟨a, b, e0⟩) h' z
        rw [ca_c a] at h h'
        rcases h' with q | h'
        · exact absurd q z
        · rcases h with q | h
          · omega
          · rcases hw x a b with q | ⟨q1, q2, q3⟩
            · exact absurd q e0
            · have hs : oS_ δ n (δ x) := by
                by_cases z : δ x = -1
                · exact Or.inl z
                · exact Or.inr ⟨by omega, by omega, q3 (by omega)⟩
              exact ih (δ x) d e hs (by omega) h h' hle
/-- one pointer is set anew -/
def upD (δ : Int → Int) (t m : Int) : Int → Int := fun x => if x = t then m else δ x
theorem upD_s (δ : Int → Int) (t m : Int) : upD δ t m t = m := by unfold upD; rw [if_pos rfl]
theorem upD_o (δ : Int → Int) (t m x : Int) (h : x ≠ t) : upD δ t m x = δ x := by unfold upD; rw [if_neg h]
theorem upD_W {δ : Int → Int} {n t m : Int} (hw : oW δ n) (t0 : 0 ≤ t) (t1 : t < n) (hm : oS_ δ n m) (hmt : m < t) : oW (upD δ t m) n := by
  intro x x0 x1
  by_cases z : x = t
  · rw [z, upD_s]
    refine Or.inr ⟨?_, hmt, fun h => ?_⟩
    · rcases hm with q | q <;> omega
    · rw [upD_o _ _ _ _ (by omega)]
      rcases hm with q | q
      · omega
      · exact q.2.2
  · rw [upD_o _ _ _ _ z]
    rcases hw x x0 x1 with q | ⟨q1, q2, q3⟩
    · exact Or.inl q
    · refine Or.inr ⟨q1, q2, fun h => ?_⟩
      by_cases z2 : δ x = t
      · rw [z2, upD_s]
        rcases hm with q | q <;> omega
      · rw [upD_o _ _ _ _ z2]; exact q3 h
theorem upD_below {δ : Int → Int} {n t m : Int} (hw : oW δ n) (k : Nat) : ∀ x d, oS_ δ n x → x < t → x < k → (ca (upD δ t m) x d ↔ ca δ x d) := by
  induction k with
  | zero =>
    intro x d hx _ hk
    rcases hx with rfl | ⟨a, -⟩
    · rw [ca_n, ca_n]
    · omega
  | succ k ih =>
    intro x d hx hxt hk
    rcases hx with rfl | ⟨a, b, e⟩
    · rw [ca_n, ca_n]
    · rw [ca_c a, ca_c a, upD_o _ _ _ _ (by omega)]
      rcases hw x a b with q | ⟨q1, q2, q3⟩
      · exact absurd q e
      · have hs : oS_ δ n (δ x) := by
          by_cases z : δ x = -1
          · exact Or.inl z
          · exact Or.inr ⟨by omega, by omega, q3 (by omega)⟩
        rw [ih (δ x) d hs (by omega) (by omega)]
/-- the chains behind it -/
theorem upD_c {δ : Int → Int} {n t m : Int} (hw : oW δ n) (t0 : 0 ≤ t) (t1 : t < n) (hm : oS_ δ n m) (hmt : m < t) (k : Nat) : ∀ x d, (oS_ δ n x ∨ x = t) → x < k → (ca (upD δ t m) x d ↔ (((ca δ x t ∨ x = t) ∧ ((t ≤ d ∧ (ca δ x d ∨ d = x)) ∨ ca δ m d)) ∨ (¬ (ca δ x t ∨ x = t) ∧ ca δ x d))) := by
  have hmb : ∀ d, ca (upD δ t m) m d ↔ ca δ m d := fun d => upD_below hw (m + 1).toNat m d hm hmt (by rcases hm with q | q <;> omega)
  induction k with
  | zero =>
    intro x d hx hk
    rcases hx with (rfl | ⟨a, -⟩) | rfl
    · rw [ca_n, ca_n, ca_n]
      constructor
      · intro q; exact Or.inr ⟨by omega, q⟩
      · rintro (⟨q, -⟩ | ⟨-, q⟩)
        · omega
        · exact q
    · omega
    · omega
  | succ k ih =>
    intro x d hx hk
    by_cases zt : x = t
    · subst zt
      rw [ca_c t0, upD_s, hmb]
      constructor
      · rintro (rfl | q)
        · exact Or.inl ⟨Or.inr rfl, Or.inl ⟨Int.le_refl _, Or.inr rfl⟩⟩
        · exact Or.inl ⟨Or.inr rfl, Or.inr q⟩
      · rintro (⟨-, ⟨q1, q2⟩ | q⟩ | ⟨q, -⟩)
        · rcases q2 with q2 | q2
          · by_cases hs : oS_ δ n x
            · have := (ca_l hw hs q2).2
              exact Or.inl (by omega)
            · -- x is not set: its chain is itself and what is below none
              rw [ca_c t0] at q2
              rcases q2 with q2 | q2
              · exact Or.inl q2
              · have e : δ x = -2 := Classical.byContradiction fun q => hs (Or.inr ⟨t0, t1, q⟩)
                obtain ⟨j, hj⟩ := q2
                rw [e, an_n δ j (-2) (by omega)] at hj
                omega
          · exact Or.inl q2
        · exact Or.inr q
        · exact absurd (Or.inr rfl) q
    · have hx' : oS_ δ n x := by rcases hx with q | q; exact q; exact absurd q zt
      rcases hx' with rfl | ⟨a, b, e⟩
      · rw [ca_n, ca_n, ca_n]
        constructor
        · intro q; exact Or.inr ⟨by omega, q⟩
        · rintro (⟨q, -⟩ | ⟨-, q⟩)
          · omega
          · exact q
      · rcases hw x a b with q | ⟨q1, q2, q3⟩
        · exact absurd q e
        have hs : oS_ δ n (δ x) := by
          by_cases z : δ x = -1
          · exact Or.inl z
          · exact Or.inr ⟨by omega, by omega, q3 (by omega)⟩
        have I := ih (δ x) d (Or.inl hs) (by omega)
        rw [ca_c a, upD_o _ _ _ _ zt, I]
        have et : ca δ x t ↔ ca δ (δ x) t := by
          rw [ca_c a]
          exact ⟨fun q => by rcases q with q | q; exact absurd q.symm zt; exact q, Or.inr⟩
        have ht' : (ca δ (δ x) t ∨ δ x = t) ↔ (ca δ x t ∨ x = t) := by
          rw [et]
          constructor
          · rintro (q | q)
            · exact Or.inl q
            · exact Or.inl (by rw [q]; exact ca_r _ _)
          · rintro (q | q)
            · exact Or.inl q
            · exact absurd q zt
        rw [ht']
        by_cases hc : ca δ x t ∨ x = t
        · have hxt : t ≤ x := by
            rcases hc with q | q
            · exact (ca_l hw (Or.inr ⟨a, b, e⟩) q).2
            · omega
          constructor
          · rintro (rfl | ⟨-, ⟨y1, y2⟩ | y⟩ | ⟨y, -⟩)
            · exact Or.inl ⟨hc, Or.inl ⟨hxt, Or.inr rfl⟩⟩
            · refine Or.inl ⟨hc, Or.inl ⟨y1, Or.inl ?_⟩⟩
              rw [ca_c a]
              rcases y2 with y2 | y2
              · exact Or.inr y2
              · exact Or.inr (by rw [y2]; exact ca_r _ _)
            · exact Or.inl ⟨hc, Or.inr y⟩
            · exact absurd hc y
          · rintro (⟨-, ⟨y1, y2⟩ | y⟩ | ⟨y, -⟩)
            · rcases y2 with y2 | y2
              · rw [ca_c a] at y2
                rcases y2 with y2 | y2
                · exact Or.inl y2
                · exact Or.inr (Or.inl ⟨hc, Or.inl ⟨y1, Or.inl y2⟩⟩)
              · exact Or.inl y2
            · exact Or.inr (Or.inl ⟨hc, Or.inr y⟩)
            · exact absurd hc y
        · rw [ca_c a (d := d)]
          constructor
          · rintro (rfl | ⟨y, -⟩ | ⟨-, y⟩)
            · exact Or.inr ⟨hc, Or.inl rfl⟩
            · exact absurd y hc
            · exact Or.inr ⟨hc, Or.inr y⟩
          · rintro (⟨y, -⟩ | ⟨-, y⟩)
            · exact absurd y hc
            · rcases y with y | y
              · exact Or.inl y
              · exact Or.inr (Or.inr ⟨hc, y⟩)
