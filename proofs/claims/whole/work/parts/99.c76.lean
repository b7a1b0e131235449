/-! what rules say: the least relations for which they hold -/
abbrev KK : Type := Int → Int → Int → Prop
def akH (A : MM) (cl : Int → Int → Prop) (K : KK) (i a b : Int) : Prop := A 267 i = 9 ∧ cl i a ∨ A 267 i ≠ 9 ∧ K (A 267 i) a b
def Bnd (A : MM) (n r : Int) (β : Int → Int) : Prop := ∀ v, 0 ≤ v → v < A 265 r → 0 ≤ β v ∧ β v < n
def Sat (A : MM) (cl : Int → Int → Prop) (K : KK) (r : Int) (β : Int → Int) : Prop := ∀ m, 0 ≤ m → m < A 266 r → akH A cl K (4 * r + m) (β (A 268 (4 * r + m))) (β (A 269 (4 * r + m)))
def HdK (A : MM) (K : KK) (r : Int) (β : Int → Int) : Prop := K (A 262 r) (β (A 263 r)) (β (A 264 r))
def Clsd (A : MM) (n : Int) (cl : Int → Int → Prop) (K : KK) : Prop := ∀ r β, 0 ≤ r → r < A 261 3 → Bnd A n r β → Sat A cl K r β → HdK A K r β
def leK (K K' : KK) : Prop := ∀ k a b, K k a b → K' k a b
def LstK (A : MM) (n : Int) (cl : Int → Int → Prop) (K0 K : KK) : Prop := leK K0 K ∧ Clsd A n cl K ∧ ∀ L, leK K0 L → Clsd A n cl L → leK K L
def addK (K : KK) (k a b : Int) : KK := fun k' a' b' => K k' a' b' ∨ k' = k ∧ a' = a ∧ b' = b
def newK (K K' : KK) : Prop := ∃ k a b, 0 ≤ k ∧ k < 6 ∧ 0 ≤ a ∧ a < 40 ∧ 0 ≤ b ∧ b < 40 ∧ K' k a b ∧ ¬ K k a b
/-- what a rule says, for all that agrees with what is chosen ahead of v -/
def CPk (A : MM) (n : Int) (cl : Int → Int → Prop) (K : KK) (r v : Int) (β : Int → Int) : Prop := ∀ β', (∀ w, 0 ≤ w → w < v → β' w = β w) → Bnd A n r β' → Sat A cl K r β' → HdK A K r β'
theorem leK_r (K : KK) : leK K K := fun _ _ _ h => h
theorem leK_t {K K' K'' : KK} (h : leK K K') (h' : leK K' K'') : leK K K'' := fun k a b x => h' k a b (h k a b x)
theorem akH_m {A : MM} {cl : Int → Int → Prop} {K K' : KK} {i a b : Int} (h : leK K K') (x : akH A cl K i a b) : akH A cl K' i a b := by
  rcases x with x | ⟨x, y⟩
  · exact Or.inl x
  · exact Or.inr ⟨x, h _ _ _ y⟩
theorem Sat_m {A : MM} {cl : Int → Int → Prop} {K K' : KK} {r : Int} {β : Int → Int} (h : leK K K') (x : Sat A cl K r β) : Sat A cl K' r β := fun m a b => akH_m h (x m a b)
theorem CPk_e {A : MM} {n r v : Int} {cl : Int → Int → Prop} {K K' : KK} {β : Int → Int} (h : leK K K') (h' : leK K' K) (x : CPk A n cl K r v β) : CPk A n cl K' r v β := fun β' e b s => h _ _ _ (x β' e b (Sat_m h' s))
theorem CPk_w {A : MM} {n r v : Int} {cl : Int → Int → Prop} {K : KK} {β γ : Int → Int} (h : ∀ w, 0 ≤ w → w < v → β w = γ w) (x : CPk A n cl K r v β) : CPk A n cl K r v γ := fun β' e b s => x β' (fun w a c => by rw [e w a c, h w a c]) b s
theorem LstK_u {A : MM} {n : Int} {cl : Int → Int → Prop} {K0 K K' : KK} (h : LstK A n cl K0 K) (h' : LstK A n cl K0 K') (k a b : Int) : K k a b ↔ K' k a b := ⟨h.2.2 K' h'.1 h'.2.1 k a b, h'.2.2 K h.1 h.2.1 k a b⟩
theorem leK_add (K : KK) (k a b : Int) : leK K (addK K k a b) := fun _ _ _ h => Or.inl h
theorem newK_add {K : KK} {k a b : Int} (k0 : 0 ≤ k) (k1 : k < 6) (a0 : 0 ≤ a) (a1 : a < 40) (b0 : 0 ≤ b) (b1 : b < 40) (h : ¬ K k a b) : newK K (addK K k a b) := ⟨k, a, b, k0, k1, a0, a1, b0, b1, Or.inr ⟨rfl, rfl, rfl⟩, h⟩
theorem newK_l {K K' K'' : KK} (h : newK K K') (l : leK K' K'') : newK K K'' := by
  obtain ⟨k, a, b, x1, x2, x3, x4, x5, x6, x7, x8⟩ := h
  exact ⟨k, a, b, x1, x2, x3, x4, x5, x6, l _ _ _ x7, x8⟩
theorem newK_r {K K' K'' : KK} (l : leK K K') (h : newK K' K'') : newK K K'' := by
  obtain ⟨k, a, b, x1, x2, x3, x4, x5, x6, x7, x8⟩ := h
  exact ⟨k, a, b, x1, x2, x3, x4, x5, x6, x7, fun y => x8 (l _ _ _ y)⟩
theorem cntB_m {f g : Nat → Bool} : ∀ {n : Nat}, (∀ j, j < n → f j = true → g j = true) → cntB f n ≤ cntB g n := by
  intro n
  induction n with
  | zero => intro _; exact Nat.le_refl _
  | succ n ih =>
    intro h
    have := ih (fun j hj => h j (by omega))
    have l := h n (by omega)
    unfold cntB
    by_cases x : f n = true
    · rw [if_pos x, if_pos (l x)]; omega
    · rw [if_neg x]; omega
theorem cntB_s {f g : Nat → Bool} : ∀ {n : Nat}, (∀ j, j < n → f j = true → g j = true) → (∃ j, j < n ∧ g j = true ∧ ¬ f j = true) → cntB f n < cntB g n := by
  intro n
  induction n with
  | zero => rintro _ ⟨j, a, _⟩; omega
  | succ n ih =>
    rintro h ⟨j, a, b, c⟩
    have l := h n (by omega)
    unfold cntB
    by_cases e : j = n
    · rw [e] at b c
      have := cntB_m (f := f) (g := g) (n := n) (fun j hj => h j (by omega))
      rw [if_neg c, if_pos b]; omega
    · have := ih (fun j hj => h j (by omega)) ⟨j, by omega, b, c⟩
      by_cases x : f n = true
      · rw [if_pos x, if_pos (l x)]; omega
      · rw [if_neg x]; omega
noncomputable def bK (K : KK) (j : Nat) : Bool := @decide (K ((j / 1600 : Nat) : Int) ((j / 40 % 40 : Nat) : Int) ((j % 40 : Nat) : Int)) (Classical.propDecidable _)
noncomputable def mK (K : KK) : Nat := cntB (bK K) 9600
theorem bK_t (K : KK) (j : Nat) : bK K j = true ↔ K ((j / 1600 : Nat) : Int) ((j / 40 % 40 : Nat) : Int) ((j % 40 : Nat) : Int) := by
  unfold bK
  exact @decide_eq_true_iff _ (Classical.propDecidable _)
theorem mK_le (K : KK) : mK K ≤ 9600 := cntB_le _ _
theorem mK_lt {K K' : KK} (h : leK K K') (w : newK K K') : mK K < mK K' := by
  obtain ⟨k, a, b, x1, x2, x3, x4, x5, x6, x7, x8⟩ := w
  refine cntB_s (fun j _ y => (bK_t K' j).mpr (h _ _ _ ((bK_t K j).mp y))) ?_
  obtain ⟨k', rfl⟩ : ∃ m : Nat, k = m := ⟨k.toNat, by omega⟩
  obtain ⟨a', rfl⟩ : ∃ m : Nat, a = m := ⟨a.toNat, by omega⟩
  obtain ⟨b', rfl⟩ : ∃ m : Nat, b = m := ⟨b.toNat, by omega⟩
  have e1 : (1600 * k' + 40 * a' + b') / 1600 = k' := by omega
  have e2 : (1600 * k' + 40 * a' + b') / 40 % 40 = a' := by omega
  have e3 : (1600 * k' + 40 * a' + b') % 40 = b' := by omega
  refine ⟨1600 * k' + 40 * a' + b', by omega, (bK_t K' _).mpr ?_, fun y => x8 ?_⟩
  · rw [e1, e2, e3]; exact x7
  · have := (bK_t K _).mp y
    rw [e1, e2, e3] at this; exact this
