/-! what a reading comes to, on both sides -/
noncomputable def wdR (C0 R0 : MM) (k : Nat) : Int := if C0 4 k = 2 then Classical.epsilon (fun w => nr (C0 6 k) w) else if C0 4 k = 3 then C0 6 k else if C0 4 k < 20 then sgb (C0 4 k - 4).toNat else if C0 4 k = 20 then 8509 else if C0 4 k = 21 then 15421 else if C0 4 k = 22 then 15933 else R0 3 (kp (C0 4 k - 30))
theorem tk_wd {C0 R0 R : MM} {k : Nat} (h : tk R (C0 4 k) (C0 6 k)) (e3 : R 3 = R0 3) (hw : 2 ≤ C0 4 k) : R 0 85 = wdR C0 R0 k := by
  unfold wdR
  rcases h with ⟨a, b⟩ | ⟨a, b⟩ | ⟨a, b, d, -⟩ | ⟨a, b, d⟩ | ⟨j, j0, j1, a, b, d⟩ | ⟨a, b, d⟩ | ⟨a, b, d⟩ | ⟨a, b, d⟩ | ⟨j, j0, j1, a, b, d⟩
  · omega
  · omega
  · rw [if_pos a]
    have : nr (C0 6 k) (Classical.epsilon (fun w => nr (C0 6 k) w)) := Classical.epsilon_spec (p := fun w => nr (C0 6 k) w) ⟨_, d⟩
    exact (nr_eq d this).mp rfl
  · rw [if_neg (by omega), if_pos a]; exact d
  · rw [if_neg (by omega), if_neg (by omega), if_pos (by omega), d]
    exact congrArg sgb (by omega)
  · rw [if_neg (by omega), if_neg (by omega), if_neg (by omega), if_pos a]; exact d
  · rw [if_neg (by omega), if_neg (by omega), if_neg (by omega), if_neg (by omega), if_pos a]; exact d
  · rw [if_neg (by omega), if_neg (by omega), if_neg (by omega), if_neg (by omega), if_neg (by omega), if_pos a]; exact d
  · rw [if_neg (by omega), if_neg (by omega), if_neg (by omega), if_neg (by omega), if_neg (by omega), if_neg (by omega), d, e3, a]
    exact congrArg (fun z => R0 3 (kp z)) (by omega)
theorem SR_wd {C0 R0 R : MM} {E : Nat → Int} {b : Int} {k : Nat} {n q it s : Int} {nr_ : Int → Int} (h : SR C0 R0 E b k n q it s nr_ R) (hw : 2 ≤ C0 4 k) : R 0 85 = wdR C0 R0 k := tk_wd h.2.1.2.2 (h.1.1 3 (by decide) (by omega)) hw
theorem wd_nr {C0 R0 : MM} {E : Nat → Int} {L k : Nat} (hT : TKS C0 E L) (hk : k ≤ L) (hw : C0 4 k = 2) : nr (C0 6 k) (wdR C0 R0 k) := by
  unfold wdR
  rw [if_pos hw]
  refine Classical.epsilon_spec (p := fun w => nr (C0 6 k) w) ?_
  obtain ⟨-, -, -, hs⟩ := hT.2.2.2.2 k hk
  rw [hw] at hs
  rcases hs with ⟨z1, z2, z3, z4⟩ | ⟨z1, z2, z3, z4, z5⟩ | ⟨z1, z2, z3, z4, z5⟩ | ⟨z1, z2, z3, z4⟩
  · omega
  · split at z4 <;> omega
  · rcases z4 with ⟨-, z4⟩ | ⟨z4, -⟩
    · omega
    · exact ⟨_, fun i => C0 2 (C0 5 k + i), (E (k + 1) - C0 5 k).toNat, by omega, fun i i0 i1 => z3.2.2.1 (C0 5 k + i) (by omega) (by omega), by rw [z5]; exact fr_sh _ _ _ _ _, rfl⟩
  · exfalso
    unfold sgn at z3
    rcases z3 with ⟨-, -, z, -⟩ | ⟨-, -, z⟩
    · omega
    · exact sg0_2 z
theorem p10_le : ∀ n : Nat, n ≤ 18 → (10 : Int) ^ n ≤ 1000000000000000000 := by decide
theorem f10_nn {s : Int → Int} {a : Int} : ∀ n : Nat, n ≤ 18 → (∀ i, 0 ≤ i → i < (n : Int) → isD (s (a + i))) → 0 ≤ fr f10 s a 0 n ∧ fr f10 s a 0 n < 10 ^ n
  | 0, _, _ => ⟨Int.le_refl _, by show (0 : Int) < 10 ^ 0; decide⟩
  | n + 1, hn, h => by
    obtain ⟨i1, i2⟩ := f10_nn n (by omega) (fun i i0 i1 => h i i0 (by omega))
    have d := h n (by omega) (by omega)
    show 0 ≤ f10 (fr f10 s a 0 n) (s (a + n)) ∧ f10 (fr f10 s a 0 n) (s (a + n)) < 10 ^ (n + 1)
    have hp : (10 : Int) ^ (n + 1) = 10 ^ n * 10 := Int.pow_succ _ _
    have hb := p10_le (n + 1) hn
    unfold isD at d
    rw [hp] at hb ⊢
    generalize fr f10 s a 0 n = x at *
    unfold f10
    generalize (10 : Int) ^ n = y at *
    generalize s (a + n) = z at *
    rw [w64_of (x := x * 10) (by unfold rl_; omega), w64_of (x := x * 10 + z) (by unfold rl_; omega), w64_of (x := x * 10 + z - 48) (by unfold rl_; omega)]
    omega
theorem num_nn {C0 : MM} {E : Nat → Int} {L k : Nat} (hT : TKS C0 E L) (hk : k ≤ L) (hw : C0 4 k = 3) : 0 ≤ C0 6 k := by
  obtain ⟨-, -, -, hs⟩ := hT.2.2.2.2 k hk
  rw [hw] at hs
  rcases hs with ⟨z1, z2, z3, z4⟩ | ⟨z1, z2, z3, z4, z5⟩ | ⟨z1, z2, z3, z4, z5⟩ | ⟨z1, z2, z3, z4⟩
  · omega
  · rw [z5]
    by_cases e18 : 18 < E (k + 1) - C0 5 k
    · rw [if_pos e18] at z4; omega
    · exact (f10_nn _ (by omega) (fun i i0 i1 => z3.2.2.1 (C0 5 k + i) (by omega) (by omega))).1
  · rcases z4 with ⟨-, z4⟩ | ⟨z4, z6⟩
    · omega
    · unfold kw at z6
      rcases z6 with ⟨w, -⟩ | ⟨j, j0, j1, w, -⟩ <;> omega
  · omega
/-- where a fault stands the reference's readers come back at once -/
theorem z8 {Q : Int → MM → Prop} {R : MM} {b f : Int} {d : Nat} (hd : 1 ≤ d) (h83 : R 0 83 = f) (f0 : 0 < f) (h91 : R 0 91 = b) (hq : Q b R) : gr_ d 8 Q [] R := by
  obtain ⟨d, rfl⟩ : ∃ e, d = e + 1 := ⟨d - 1, by omega⟩
  show b_X12_readAtom (gr_ d) Q R
  unfold b_X12_readAtom
  intro v1 e1 _
  exact ⟨fun z => by omega, fun _ v18 e18 _ => by rw [e18, h91]; exact hq⟩
theorem z7 {Q : Int → MM → Prop} {R : MM} {b f : Int} {d : Nat} (hd : 2 ≤ d) (h83 : R 0 83 = f) (f0 : 0 < f) (h91 : R 0 91 = b) (hq : Q b R) : gr_ d 7 Q [] R := by
  obtain ⟨d, rfl⟩ : ∃ e, d = e + 1 := ⟨d - 1, by omega⟩
  show b_X12_readP (gr_ d) Q R
  unfold b_X12_readP w_X12_readP_b5
  refine z8 (by omega) h83 f0 h91 (fun _ => ⟨1, ?_⟩)
  show wb_X12_readP_b5 (gr_ d) Q _ b R
  unfold wb_X12_readP_b5
  intro v1 e1 _
  exact ⟨fun _ => hq, fun z => by omega⟩
theorem z6 {Q : Int → MM → Prop} {R : MM} {b f : Int} {d : Nat} (hd : 3 ≤ d) (h83 : R 0 83 = f) (f0 : 0 < f) (h91 : R 0 91 = b) (hq : Q b R) : gr_ d 6 Q [] R := by
  obtain ⟨d, rfl⟩ : ∃ e, d = e + 1 := ⟨d - 1, by omega⟩
  show b_X12_readTurned (gr_ d) Q R
  unfold b_X12_readTurned w_X12_readTurned_b17
  intro v1 e1 _
  exact ⟨fun _ => z7 (by omega) h83 f0 h91 (fun _ => hq), fun z => by omega⟩
theorem z5 {Q : Int → MM → Prop} {R : MM} {b f : Int} {d : Nat} (hd : 4 ≤ d) (h83 : R 0 83 = f) (f0 : 0 < f) (h91 : R 0 91 = b) (hq : Q b R) : gr_ d 5 Q [] R := by
  obtain ⟨d, rfl⟩ : ∃ e, d = e + 1 := ⟨d - 1, by omega⟩
  show b_X12_readProduct (gr_ d) Q R
  unfold b_X12_readProduct w_X12_readProduct_b5
  refine z6 (by omega) h83 f0 h91 (fun _ => ⟨1, ?_⟩)
  show wb_X12_readProduct_b5 (gr_ d) Q _ b R
  unfold wb_X12_readProduct_b5
  intro v1 e1 _
  exact ⟨fun _ => hq, fun z => by omega⟩
theorem z4 {Q : Int → MM → Prop} {R : MM} {b f : Int} {d : Nat} (hd : 5 ≤ d) (h83 : R 0 83 = f) (f0 : 0 < f) (h91 : R 0 91 = b) (hq : Q b R) : gr_ d 4 Q [] R := by
  obtain ⟨d, rfl⟩ : ∃ e, d = e + 1 := ⟨d - 1, by omega⟩
  show b_X12_readSum (gr_ d) Q R
  unfold b_X12_readSum w_X12_readSum_b5
  refine z5 (by omega) h83 f0 h91 (fun _ => ⟨1, ?_⟩)
  show wb_X12_readSum_b5 (gr_ d) Q _ b R
  unfold wb_X12_readSum_b5
  intro v1 e1 _
  exact ⟨fun _ => hq, fun z => by omega⟩
theorem z3 {Q : Int → MM → Prop} {R : MM} {b f : Int} {d : Nat} (hd : 6 ≤ d) (h83 : R 0 83 = f) (f0 : 0 < f) (h91 : R 0 91 = b) (hq : Q b R) : gr_ d 3 Q [] R := by
  obtain ⟨d, rfl⟩ : ∃ e, d = e + 1 := ⟨d - 1, by omega⟩
  show b_X12_readCompared (gr_ d) Q R
  unfold b_X12_readCompared
  refine z4 (by omega) h83 f0 h91 (fun _ v3 e3 _ => ⟨fun z => by omega, fun _ => hq⟩)
theorem z2 {Q : Int → MM → Prop} {R : MM} {b f : Int} {d : Nat} (hd : 7 ≤ d) (h83 : R 0 83 = f) (f0 : 0 < f) (h91 : R 0 91 = b) (hq : Q b R) : gr_ d 2 Q [] R := by
  obtain ⟨d, rfl⟩ : ∃ e, d = e + 1 := ⟨d - 1, by omega⟩
  show b_X12_readNot (gr_ d) Q R
  unfold b_X12_readNot w_X12_readNot_b16
  intro v1 e1 _
  exact ⟨fun _ => z3 (by omega) h83 f0 h91 (fun _ => hq), fun z => by omega⟩
theorem z1 {Q : Int → MM → Prop} {R : MM} {b f : Int} {d : Nat} (hd : 8 ≤ d) (h83 : R 0 83 = f) (f0 : 0 < f) (h91 : R 0 91 = b) (hq : Q b R) : gr_ d 1 Q [] R := by
  obtain ⟨d, rfl⟩ : ∃ e, d = e + 1 := ⟨d - 1, by omega⟩
  show b_X12_readAnd (gr_ d) Q R
  unfold b_X12_readAnd w_X12_readAnd_b5
  refine z2 (by omega) h83 f0 h91 (fun _ => ⟨1, ?_⟩)
  show wb_X12_readAnd_b5 (gr_ d) Q _ b R
  unfold wb_X12_readAnd_b5
  intro v1 e1 _
  exact ⟨fun _ => hq, fun z => by omega⟩
theorem z10 {Q : Int → MM → Prop} {R : MM} {b f : Int} {d : Nat} (hd : 1 ≤ d) (h83 : R 0 83 = f) (f0 : 0 < f) (h91 : R 0 91 = b) (hq : Q b R) : gr_ d 10 Q [] R := by
  obtain ⟨d, rfl⟩ : ∃ e, d = e + 1 := ⟨d - 1, by omega⟩
  show b_X12_readSet (gr_ d) Q R
  unfold b_X12_readSet
  intro v1 e1 _
  exact ⟨fun z => by omega, fun _ v18 e18 _ => by rw [e18, h91]; exact hq⟩
abbrev CD : Type := Nat → Int → Int
def cOK (c : Nat) (C0 : MM) (it : Int) (k : Nat) (n q fo s st : Int) (nm sf : Int → Int) (a : Int) (P : CD) (k' : Nat) (n' st' : Int) (P' : CD) (W : (Int → MM → Prop) → MM → Prop) : Prop :=
  ∀ C w wq, 0 ≤ w → w ≤ n → SC c C0 k n q fo it s w st nm sf wq C → (∀ j i, 0 < j → j ≤ 4 → a ≤ i → i < st → C (c + j) i = P j i) → ∀ Q, (∀ C', SC c C0 k' n' q fo it s w st' nm sf wq C' → (∀ j i, 0 < j → j ≤ 4 → i < a → C' (c + j) i = C (c + j) i) → (∀ j i, 0 < j → j ≤ 4 → a ≤ i → i < st' → C' (c + j) i = P' j i) → Q 1 C') → W Q C
def cNo (c : Nat) (C0 : MM) (it : Int) (k : Nat) (n q fo s st : Int) (nm sf : Int → Int) (a : Int) (P : CD) (f pl : Int) (W : (Int → MM → Prop) → MM → Prop) : Prop :=
  ∀ C w wq, 0 ≤ w → w ≤ n → SC c C0 k n q fo it s w st nm sf wq C → (∀ j i, 0 < j → j ≤ 4 → a ≤ i → i < st → C (c + j) i = P j i) → ∀ Q, (∀ C', CF c C0 f pl C' → Q 0 C') → W Q C
def rOK (C0 R0 : MM) (E : Nat → Int) (b it : Int) (k : Nat) (n q s : Int) (nr_ : Int → Int) (lo : Int) (N : MM) (k' : Nat) (n' x : Int) (N' : MM) (W : (Int → MM → Prop) → MM → Prop) : Prop :=
  ∀ R, SR C0 R0 E b k n q it s nr_ R → (∀ j i, 66 ≤ j → j ≤ 70 → lo ≤ i → i < b + n → R j i = N j i) → ∀ Q, (∀ R', SR C0 R0 E b k' n' q it s nr_ R' → (∀ j i, 66 ≤ j → j ≤ 70 → i < lo → R' j i = R j i) → (∀ j i, 66 ≤ j → j ≤ 70 → lo ≤ i → i < b + n' → R' j i = N' j i) → Q x R') → W Q R
def rNo (C0 R0 : MM) (E : Nat → Int) (b it : Int) (k : Nat) (n q s : Int) (nr_ : Int → Int) (lo : Int) (N : MM) (f pl : Int) (W : (Int → MM → Prop) → MM → Prop) : Prop :=
  ∀ R, SR C0 R0 E b k n q it s nr_ R → (∀ j i, 66 ≤ j → j ≤ 70 → lo ≤ i → i < b + n → R j i = N j i) → ∀ Q, (∀ x R', RF R0 b q s f pl R' → Q x R') → W Q R
/-- it comes well, the same on both sides, or there is a fault, the same on both sides -/
def Out (c : Nat) (C0 R0 : MM) (E : Nat → Int) (L : Nat) (b it : Int) (k : Nat) (n q fo s st : Int) (nm nr_ sf : Int → Int) (a : Int) (P : CD) (lo : Int) (N : MM) (S : Nat → Int → Int → Int → CD → MM → Prop) (Wc Wr : (Int → MM → Prop) → MM → Prop) : Prop :=
  (∃ (k' : Nat) (n' st' x : Int) (P' : CD) (N' : MM), k ≤ k' ∧ k' ≤ L ∧ n ≤ n' ∧ n' ≤ 120 ∧ st ≤ st' ∧ S k' n' st' x P' N' ∧ cOK c C0 it k n q fo s st nm sf a P k' n' st' P' Wc ∧ rOK C0 R0 E b it k n q s nr_ lo N k' n' x N' Wr) ∨
  ∃ f pl, 0 < f ∧ cNo c C0 it k n q fo s st nm sf a P f pl Wc ∧ rNo C0 R0 E b it k n q s nr_ lo N f pl Wr
/-- what code and nodes can be made of -/
def leafK (P : CD) (N : MM) (s : Int) (sf : Int → Int) (it x a : Int) : Prop := (P 1 a = 0 ∧ N 66 x = 100 ∧ N 70 x = P 4 a) ∨ (P 1 a = 1 ∧ N 66 x = 8) ∨ (P 1 a = 2 ∧ N 66 x = 9) ∨ (P 1 a = 3 ∧ N 66 x = 10) ∨ (P 1 a = 4 ∧ N 66 x = 28 ∧ N 70 x = P 4 a ∧ 0 ≤ P 4 a) ∨ (P 1 a = 5 ∧ P 2 a = 0 ∧ it = 1 ∧ N 66 x = 27) ∨ (P 1 a = 5 ∧ N 66 x = 101 ∧ 0 ≤ N 67 x ∧ N 67 x < s ∧ P 2 a = sf (N 67 x))
def oneK (P : CD) (N : MM) (y a : Int) : Prop := (7 ≤ P 1 a ∧ P 1 a ≤ 10 ∧ N 66 y = P 1 a + 12) ∨ (P 1 a = 11 ∧ N 66 y = 114 ∧ nr (P 4 a) (N 70 y)) ∨ (P 1 a = 12 ∧ N 66 y = 113) ∨ (P 1 a = 13 ∧ N 66 y = 7) ∨ (P 1 a = 14 ∧ N 66 y = 11 ∧ nr (P 4 a) (N 70 y))
def twoK (P : CD) (N : MM) (y a : Int) : Prop := (P 1 a = 15 ∧ N 66 y = 115) ∨ (16 ≤ P 1 a ∧ P 1 a ≤ 26 ∧ N 66 y = P 1 a + 86)
def scn (sf : Int → Int) (s fo : Int) : Int → Int := fun i => if i = s then fo else sf i
abbrev SMt : Type := CD → MM → Int → (Int → Int) → Int → Int → Int → Int → Int → Int → Int → Prop
def CloA (SM : SMt) : Prop := ∀ P N s sf fo it x a b lo hi, SM P N s sf fo it x a b lo hi → ∀ P' N' sf' lo' hi', (∀ j i, 0 < j → j ≤ 4 → a ≤ i → i < b → P' j i = P j i) → (∀ j i, 66 ≤ j → j ≤ 70 → lo ≤ i → i < hi → N' j i = N j i) → (∀ i, 0 ≤ i → i < s → sf' i = sf i) → lo' ≤ lo → hi ≤ hi' → SM P' N' s sf' fo it x a b lo' hi'
def CloL (SM : SMt) : Prop := ∀ P N s sf fo it x a, leafK P N s sf it x a → 0 ≤ s → s ≤ fo → SM P N s sf fo it x a (a + 1) x (x + 1)
def Clo1 (SM : SMt) : Prop := ∀ P N s sf fo it y a e lo hi x lo1 hi1, SM P N s sf fo it x a e lo1 hi1 → oneK P N y e → N 67 y = x → lo ≤ y → y < hi → lo ≤ lo1 → hi1 ≤ hi → hi1 - lo1 + 1 ≤ hi - lo → SM P N s sf fo it y a (e + 1) lo hi
def Clo2 (SM : SMt) : Prop := ∀ P N s sf fo it y a e1 e2 lo hi x1 lo1 hi1 x2 lo2 hi2, SM P N s sf fo it x1 a e1 lo1 hi1 → SM P N s sf fo it x2 e1 e2 lo2 hi2 → twoK P N y e2 → N 67 y = x1 → N 68 y = x2 → lo ≤ y → y < hi → lo ≤ lo1 → hi1 ≤ hi → lo ≤ lo2 → hi2 ≤ hi → (hi1 - lo1) + (hi2 - lo2) + 1 ≤ hi - lo → SM P N s sf fo it y a (e2 + 1) lo hi
def Clo3 (SM : SMt) : Prop := ∀ P N s sf fo it y a e1 e2 lo hi x1 lo1 hi1 x2 lo2 hi2, SM P N s sf fo it x1 a e1 lo1 hi1 → SM P N s sf fo it x2 (e1 + 1) e2 lo2 hi2 → (P 1 e1 = 33 ∧ N 66 y = 5 ∨ P 1 e1 = 34 ∧ N 66 y = 6) → P 3 e1 = e2 + 1 → P 1 e2 = 35 → N 67 y = x1 → N 68 y = x2 → lo ≤ y → y < hi → lo ≤ lo1 → hi1 ≤ hi → lo ≤ lo2 → hi2 ≤ hi → (hi1 - lo1) + (hi2 - lo2) + 1 ≤ hi - lo → SM P N s sf fo it y a (e2 + 1) lo hi
def CloS (SM ST : SMt) : Prop := (∀ P N s sf fo it x a, (P 1 a = 29 ∧ N 66 x = 2 ∨ P 1 a = 27 ∧ N 66 x = 0 ∧ nr (P 4 a) (N 70 x) ∨ P 1 a = 28 ∧ N 66 x = 1 ∧ nr (P 4 a) (N 70 x)) → P 2 a = fo → 0 ≤ s → s ≤ fo → ST P N s sf fo it x a (a + 1) x (x + 1)) ∧
  ∀ P N s sf fo it y a e lo hi x lo1 hi1, SM P N s sf fo it x a e lo1 hi1 → 30 ≤ P 1 e → P 1 e ≤ 32 → P 2 e = fo → N 66 y = P 1 e - 6 → N 67 y = x → lo ≤ y → y < hi → lo ≤ lo1 → hi1 ≤ hi → hi1 - lo1 + 1 ≤ hi - lo → ST P N s sf fo it y a (e + 1) lo hi
def CloF (SM ST : SMt) : Prop := ∀ P N s sf fo it y a e1 e2 e3 lo hi loS hiS loW hiW loB hiB kd, ST P N s sf (fo + 1) it (N 67 y) (a + 1) e1 loS hiS → 0 ≤ s → s ≤ fo → fo < 10 → 44 ≤ kd → kd ≤ 49 → N 66 y = kd - 31 → P 1 a = 6 → P 2 a = fo + 1 → P 4 a = kd → P 1 e1 = 36 → P 2 e1 = fo + 1 → P 3 e1 = e3 + 1 →
  (N 68 y = -1 ∧ e2 = e1 + 1 ∨ 0 ≤ N 68 y ∧ P 1 (e2 - 1) = 37 ∧ P 3 (e2 - 1) = e1 ∧ SM P N (s + 1) (scn sf s (fo + 1)) (fo + 1) it (N 68 y) (e1 + 1) (e2 - 1) loW hiW) →
  (kd = 44 ∧ e3 = e2 ∨ kd ≠ 44 ∧ SM P N (s + 1) (scn sf s (fo + 1)) (fo + 1) it (N 69 y) e2 e3 loB hiB) →
  P 1 e3 = 38 → P 2 e3 = fo + 1 → P 3 e3 = e1 → P 4 e3 = kd → P 1 (e3 + 1) = 39 → P 2 (e3 + 1) = fo + 1 → P 4 (e3 + 1) = kd →
  lo ≤ y → y < hi → lo ≤ loS → hiS ≤ hi → lo ≤ loW → hiW ≤ hi → lo ≤ loB → hiB ≤ hi → loS ≤ hiS → loW ≤ hiW → loB ≤ hiB → (hiS - loS) + (hiW - loW) + (hiB - loB) + 1 ≤ hi - lo → SM P N s sf fo it y a (e3 + 2) lo hi
def Clo (SM ST : SMt) : Prop := CloA SM ∧ CloA ST ∧ CloL SM ∧ Clo1 SM ∧ Clo2 SM ∧ Clo3 SM ∧ CloS SM ST ∧ CloF SM ST
/-- what comes of an expression -/
def SE (SM : SMt) (b n s fo st : Int) (sf : Int → Int) (it a lo : Int) : Nat → Int → Int → Int → CD → MM → Prop := fun _ n' st' x P N => st' ≤ st + 3 * (n' - n) ∧ lo ≤ x ∧ x < b + n' ∧ SM P N s sf fo it x a st' lo (b + n')
/-- a pair of readers, the one of the class, the other of the reference, at nest q -/
def Jt (c : Nat) (C0 R0 : MM) (E : Nat → Int) (L : Nat) (b it : Int) (SM : SMt) (q : Int) (jc jr : Nat) (ec er : Int) : Prop :=
  ∀ (dp dq : Nat) (k : Nat) (n fo s st : Int) (nm nr_ sf : Int → Int), 14 * (10 - q) + ec ≤ dp → 12 * (10 - q) + 2 * (120 - n) + er ≤ dq → k ≤ L → 0 ≤ n → n ≤ 120 → 0 ≤ s → s ≤ fo → fo ≤ q → 0 ≤ st → st ≤ 3 * n + 30 → (∀ i, 0 ≤ i → i < s → nr (nm i) (nr_ i)) →
  Out c C0 R0 E L b it k n q fo s st nm nr_ sf st (fun _ _ => 0) (b + n) (fun _ _ => 0) (fun k' n' st' x P N => n < n' ∧ SE SM b n s fo st sf it st (b + n) k' n' st' x P N) (fun Q C => gq_ c dp jc Q [] C) (fun Q R => gr_ dq jr Q [] R)
