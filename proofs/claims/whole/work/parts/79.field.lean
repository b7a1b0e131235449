/-! loops, once for all; then field on both sides -/
theorem loop2 {X Y : Type} (b : (X → Y → Prop) → X → Y → Prop) (I : X → Y → Prop) (μ : X → Y → Nat) (H : ∀ x y f, I x y → (∀ x' y', I x' y' → μ x' y' < μ x y → f x' y') → b f x y) (x : X) (y : Y) (h : I x y) : ∃ n, jit (fun _ _ => False) b n x y := by
  have K : ∀ (m : Nat) x y, I x y → μ x y < m → jit (fun _ _ => False) b m x y := by
    intro m
    induction m with
    | zero => intro x y _ q; omega
    | succ m ih => intro x y hi hm; exact H x y _ hi fun x' y' hi' hl => ih x' y' hi' (by omega)
  exact ⟨_, K (μ x y + 1) x y h (by omega)⟩
theorem loop3 {X Y Z : Type} (b : (X → Y → Z → Prop) → X → Y → Z → Prop) (I : X → Y → Z → Prop) (μ : X → Y → Z → Nat) (H : ∀ x y z f, I x y z → (∀ x' y' z', I x' y' z' → μ x' y' z' < μ x y z → f x' y' z') → b f x y z) (x : X) (y : Y) (z : Z) (h : I x y z) : ∃ n, jit (fun _ _ _ => False) b n x y z := by
  have K : ∀ (m : Nat) x y z, I x y z → μ x y z < m → jit (fun _ _ _ => False) b m x y z := by
    intro m
    induction m with
    | zero => intro x y z _ q; omega
    | succ m ih => intro x y z hi hm; exact H x y z _ hi fun x' y' z' hi' hl => ih x' y' z' hi' (by omega)
  exact ⟨_, K (μ x y z + 1) x y z h (by omega)⟩
theorem loop4 {X Y Z U : Type} (b : (X → Y → Z → U → Prop) → X → Y → Z → U → Prop) (I : X → Y → Z → U → Prop) (μ : X → Y → Z → U → Nat) (H : ∀ x y z u f, I x y z u → (∀ x' y' z' u', I x' y' z' u' → μ x' y' z' u' < μ x y z u → f x' y' z' u') → b f x y z u) (x : X) (y : Y) (z : Z) (u : U) (h : I x y z u) : ∃ n, jit (fun _ _ _ _ => False) b n x y z u := by
  have K : ∀ (m : Nat) x y z u, I x y z u → μ x y z u < m → jit (fun _ _ _ _ => False) b m x y z u := by
    intro m
    induction m with
    | zero => intro x y z u _ q; omega
    | succ m ih => intro x y z u hi hm; exact H x y z u _ hi fun x' y' z' u' hi' hl => ih x' y' z' u' hi' (by omega)
  exact ⟨_, K (μ x y z u + 1) x y z u h (by omega)⟩
theorem loop5 {X Y Z U V : Type} (b : (X → Y → Z → U → V → Prop) → X → Y → Z → U → V → Prop) (I : X → Y → Z → U → V → Prop) (μ : X → Y → Z → U → V → Nat) (H : ∀ x y z u v f, I x y z u v → (∀ x' y' z' u' v', I x' y' z' u' v' → μ x' y' z' u' v' < μ x y z u v → f x' y' z' u' v') → b f x y z u v) (x : X) (y : Y) (z : Z) (u : U) (v : V) (h : I x y z u v) : ∃ n, jit (fun _ _ _ _ _ => False) b n x y z u v := by
  have K : ∀ (m : Nat) x y z u v, I x y z u v → μ x y z u v < m → jit (fun _ _ _ _ _ => False) b m x y z u v := by
    intro m
    induction m with
    | zero => intro x y z u v _ q; omega
    | succ m ih => intro x y z u v hi hm; exact H x y z u v _ hi fun x' y' z' u' v' hi' hl => ih x' y' z' u' v' hi' (by omega)
  exact ⟨_, K (μ x y z u v + 1) x y z u v h (by omega)⟩
theorem loop6 {X Y Z U V W : Type} (b : (X → Y → Z → U → V → W → Prop) → X → Y → Z → U → V → W → Prop) (I : X → Y → Z → U → V → W → Prop) (μ : X → Y → Z → U → V → W → Nat) (H : ∀ x y z u v w f, I x y z u v w → (∀ x' y' z' u' v' w', I x' y' z' u' v' w' → μ x' y' z' u' v' w' < μ x y z u v w → f x' y' z' u' v' w') → b f x y z u v w) (x : X) (y : Y) (z : Z) (u : U) (v : V) (w : W) (h : I x y z u v w) : ∃ n, jit (fun _ _ _ _ _ _ => False) b n x y z u v w := by
  have K : ∀ (m : Nat) x y z u v w, I x y z u v w → μ x y z u v w < m → jit (fun _ _ _ _ _ _ => False) b m x y z u v w := by
    intro m
    induction m with
    | zero => intro x y z u v w _ q; omega
    | succ m ih => intro x y z u v w hi hm; exact H x y z u v w _ hi fun x' y' z' u' v' w' hi' hl => ih x' y' z' u' v' w' hi' (by omega)
  exact ⟨_, K (μ x y z u v w + 1) x y z u v w h (by omega)⟩
theorem loop7 {X Y Z U V W S : Type} (b : (X → Y → Z → U → V → W → S → Prop) → X → Y → Z → U → V → W → S → Prop) (I : X → Y → Z → U → V → W → S → Prop) (μ : X → Y → Z → U → V → W → S → Nat) (H : ∀ x y z u v w s f, I x y z u v w s → (∀ x' y' z' u' v' w' s', I x' y' z' u' v' w' s' → μ x' y' z' u' v' w' s' < μ x y z u v w s → f x' y' z' u' v' w' s') → b f x y z u v w s) (x : X) (y : Y) (z : Z) (u : U) (v : V) (w : W) (s : S) (h : I x y z u v w s) : ∃ n, jit (fun _ _ _ _ _ _ _ => False) b n x y z u v w s := by
  have K : ∀ (m : Nat) x y z u v w s, I x y z u v w s → μ x y z u v w s < m → jit (fun _ _ _ _ _ _ _ => False) b m x y z u v w s := by
    intro m
    induction m with
    | zero => intro x y z u v w s _ q; omega
    | succ m ih => intro x y z u v w s hi hm; exact H x y z u v w s _ hi fun x' y' z' u' v' w' s' hi' hl => ih x' y' z' u' v' w' s' hi' (by omega)
  exact ⟨_, K (μ x y z u v w s + 1) x y z u v w s h (by omega)⟩
theorem loop8 {X Y Z U V W S T : Type} (b : (X → Y → Z → U → V → W → S → T → Prop) → X → Y → Z → U → V → W → S → T → Prop) (I : X → Y → Z → U → V → W → S → T → Prop) (μ : X → Y → Z → U → V → W → S → T → Nat) (H : ∀ x y z u v w s t f, I x y z u v w s t → (∀ x' y' z' u' v' w' s' t', I x' y' z' u' v' w' s' t' → μ x' y' z' u' v' w' s' t' < μ x y z u v w s t → f x' y' z' u' v' w' s' t') → b f x y z u v w s t) (x : X) (y : Y) (z : Z) (u : U) (v : V) (w : W) (s : S) (t : T) (h : I x y z u v w s t) : ∃ n, jit (fun _ _ _ _ _ _ _ _ => False) b n x y z u v w s t := by
  have K : ∀ (m : Nat) x y z u v w s t, I x y z u v w s t → μ x y z u v w s t < m → jit (fun _ _ _ _ _ _ _ _ => False) b m x y z u v w s t := by
    intro m
    induction m with
    | zero => intro x y z u v w s t _ q; omega
    | succ m ih => intro x y z u v w s t hi hm; exact H x y z u v w s t _ hi fun x' y' z' u' v' w' s' t' hi' hl => ih x' y' z' u' v' w' s' t' hi' (by omega)
  exact ⟨_, K (μ x y z u v w s t + 1) x y z u v w s t h (by omega)⟩
theorem p_isType {Q : Int → MM → Prop} {p : Int} {M : MM} (gp : ri_ p) (h1 : vT (M 8 0) p → Q 1 M) (h0 : ¬ vT (M 8 0) p → Q 0 M) : w_X10_isType Q p M := by
  unfold vT at h1 h0
  have hb : ¬ (0 ≤ p ∧ p < M 8 0) → ¬ (20 ≤ p ∧ p ≤ 24) → w_X10_isType_b20 Q p M := by
    intro a b
    unfold w_X10_isType_b20
    refine ⟨fun z => h1 (by omega), fun z => ⟨fun z2 => h0 (by omega), fun z2 => ⟨by unfold ri_ at *; omega, ?_⟩⟩⟩
    exact p_isClass (fun c0 c1 _ => ⟨fun q => by omega, fun _ => h1 (by omega)⟩) (fun c0 _ => ⟨fun _ => h0 (by omega), fun q => absurd rfl q⟩)
  unfold w_X10_isType
  exact p_isClass (fun c0 c1 _ => ⟨fun _ => h1 (by omega), fun q => by omega⟩) (fun c0 _ => ⟨fun q => absurd rfl q, fun _ => ⟨fun z => hb c0 (by omega), fun z => ⟨fun z2 => h1 (by omega), fun z2 => hb c0 (by omega)⟩⟩⟩)
theorem p_R_isLinkType {Q : Int → MM → Prop} {p : Int} {M : MM} (gp : ri_ p) (h1 : p = -1 ∨ vT (M 0 20) p → Q 1 M) (h0 : ¬ (p = -1 ∨ vT (M 0 20) p) → Q 0 M) : w_X12_isLinkType Q p M := by
  unfold vT at h1 h0
  have hb : ¬ p = -1 → ¬ (0 ≤ p ∧ p < M 0 20) → ¬ (20 ≤ p ∧ p ≤ 24) → w_X12_isLinkType_b25 Q p M := by
    intro a a2 b
    unfold w_X12_isLinkType_b25
    refine ⟨fun z => h1 (by omega), fun z => ⟨fun z2 => h0 (by omega), fun z2 => ⟨by unfold ri_ at *; omega, ?_⟩⟩⟩
    exact p_R_isClass (fun c0 c1 _ => ⟨fun q => by omega, fun _ => h1 (by omega)⟩) (fun c0 _ => ⟨fun _ => h0 (by omega), fun q => absurd rfl q⟩)
  unfold w_X12_isLinkType
  exact ⟨fun z => h1 (Or.inl z), fun z => p_R_isClass (fun c0 c1 _ => ⟨fun _ => h1 (by omega), fun q => by omega⟩) (fun c0 _ => ⟨fun q => absurd rfl q, fun _ => ⟨fun z2 => hb z c0 (by omega), fun z2 => ⟨fun z3 => h1 (by omega), fun z3 => hb z c0 (by omega)⟩⟩⟩)⟩
theorem p_hasField {Q : Int → MM → Prop} {c x : Int} {M : MM} (c0 : 0 ≤ c) (c1 : c < 16) (n0 : 0 ≤ M 14 c) (n1 : M 14 c ≤ 6) (h1 : ∀ k, 0 ≤ k → k < M 14 c → M 18 (6 * c + k) = x → Q 1 M) (h0 : (∀ k, 0 ≤ k → k < M 14 c → M 18 (6 * c + k) ≠ x) → Q 0 M) : w_X10_hasFieldNamed Q c x M := by
  unfold w_X10_hasFieldNamed
  refine loop4 _ (fun a b k M1 => a = c ∧ b = x ∧ M1 = M ∧ 0 ≤ k ∧ k ≤ M 14 c ∧ ∀ j, 0 ≤ j → j < k → M 18 (6 * c + j) ≠ x) (fun _ _ k _ => (M 14 c - k).toNat) ?_ c x 0 M ⟨rfl, rfl, rfl, by omega, n0, fun j j0 j1 => by omega⟩
  rintro _ _ k _ f ⟨rfl, rfl, rfl, k0, k1, hj⟩ ih
  unfold wb_X10_hasFieldNamed_b3
  refine ⟨c0, c1, fun v e g => ?_⟩
  subst e
  refine ⟨fun z => h0 fun j j0 j1 => hj j j0 (by omega), fun z => ⟨by unfold ri_; omega, by unfold ri_; omega, by omega, by omega, fun v5 e5 g5 => ⟨fun z5 => ⟨by unfold ri_; omega, ih _ _ _ _ ⟨rfl, rfl, rfl, by omega, by omega, fun j j0 j1 => ?_⟩ (by omega)⟩, fun z5 => h1 k k0 (by omega) (by rw [← z5, e5, Int.mul_comm])⟩⟩⟩
  by_cases e : j = k
  · rw [e]; intro q; exact z5 (by rw [e5, Int.mul_comm]; exact q)
  · exact hj j j0 (by omega)
theorem p_hasField_ {Q : Int → MM → Prop} {c k : Int} {M : MM} (n1 : M 8 0 ≤ 16) (h1 : 0 ≤ c → c < M 8 0 → 0 ≤ k → k < M 14 c → Q 1 M) (h0 : ¬ (0 ≤ c ∧ c < M 8 0 ∧ 0 ≤ k ∧ k < M 14 c) → Q 0 M) : w_X10_hasField Q c k M := by
  unfold w_X10_hasField
  exact p_isClass (fun c0 c1 _ => ⟨fun q => by omega, fun _ => ⟨fun z => h0 (by omega), fun z => ⟨c0, by omega, fun v e g => by subst e; exact ⟨fun z2 => h0 (by omega), fun z2 => h1 c0 c1 (by omega) (by omega)⟩⟩⟩⟩) (fun c0 _ => ⟨fun _ => h0 (by omega), fun q => absurd rfl q⟩)
/-- the class's memory with one own field more; the end of the fields is laid out behind it -/
def aF (C : MM) (c x kd lk st : Int) : MM := fun k i => if k = 14 ∧ i = c then C 14 c + 1 else if k = 18 ∧ i = 6 * c + C 14 c then x else if k = 19 ∧ i = 6 * c + C 14 c then kd else if k = 20 ∧ i = 6 * c + C 14 c then lk else if k = 21 ∧ i = 6 * c + C 14 c then st else if k = 22 ∧ i = 6 * c + C 14 c then (if st = 0 then C 16 c else C 15 c) else if k = 15 ∧ i = c ∧ st ≠ 0 then C 15 c + 1 else if k = 16 ∧ i = c ∧ st = 0 then C 16 c + 1 else if k = 23 ∧ st = 0 ∧ i = 96 * c + C 16 c then x else if k = 24 ∧ st = 0 ∧ i = 96 * c + C 16 c then kd else if k = 25 ∧ st = 0 ∧ i = 96 * c + C 16 c then lk else C k i
set_option maxHeartbeats 1000000 in
theorem p_addField {Q : Int → MM → Prop} {c x kd lk st : Int} {C : MM} (c0 : 0 ≤ c) (c1 : c < 16) (n0 : 0 ≤ C 14 c) (n1 : C 14 c < 6) (s0 : 0 ≤ C 16 c) (s1 : C 16 c < 96) (t0 : 0 ≤ C 15 c) (t1 : C 15 c ≤ 6) (hk : 0 ≤ kd) (hk2 : kd ≤ 5)
    (hkd : ∀ j : Nat, (j : Int) < C 14 c → 0 ≤ C 19 (6 * c + j) ∧ C 19 (6 * c + j) ≤ 5) (hp : -1 ≤ C 11 c) (hp2 : C 11 c < c) (he : 0 ≤ enC C c) (he2 : enC C c ≤ 8000)
    (h1 : ¬ st = 0 → Q (C 14 c) (aF C c x kd lk st)) (h0 : st = 0 → Q (C 14 c) (ux_ (aF C c x kd lk st) 17 c (lb (aF C c x kd lk st 21) (aF C c x kd lk st 19) (6 * c) (enC C c) (C 14 c + 1).toNat 0))) : w_X10_addField Q c x kd lk st C := by
  unfold w_X10_addField
  refine ⟨c0, c1, fun v1 e1 g1 => ⟨by unfold ri_; omega, ?_⟩⟩
  subst e1
  refine ⟨by unfold ri_; omega, c0, c1, fun v4 e4 g4 => ?_⟩
  subst e4
  rw [show c * 6 + C 14 c = 6 * c + C 14 c from by omega]
  refine ⟨by unfold ri_; omega, c0, c1, fun M6 e6 => ⟨by omega, by omega, fun M7 e7 => ⟨by omega, by omega, fun M8 e8 => ⟨by omega, by omega, fun M9 e9 => ⟨by omega, by omega, fun M10 e10 => ⟨fun z => ?_, fun z => ?_⟩⟩⟩⟩⟩⟩
  · have q16 : M10 16 c = C 16 c := by subst e10 e9 e8 e7 e6; simp [ux_]
    refine ⟨by unfold ri_; omega, c0, c1, fun v13 e13 g13 => ⟨by unfold ri_; omega, c0, c1, fun v15 e15 g15 => ⟨by omega, by omega, fun M16 e16 => ⟨c0, c1, fun v17 e17 g17 => ?_⟩⟩⟩⟩
    have r13 : v13 = C 16 c := by rw [e13, q16]
    have r15 : v15 = C 16 c := by rw [e15, q16]
    have r17 : v17 = C 16 c := by rw [e17, e16, ux_c _ _ _ _ (by decide), q16]
    subst r13
    rw [show c * 96 + C 16 c = 96 * c + C 16 c from by omega]
    refine ⟨by unfold ri_; omega, c0, c1, fun M19 e19 => ⟨by omega, by omega, fun M20 e20 => ⟨by omega, by omega, fun M21 e21 => ⟨by omega, by omega, fun M22 e22 => ?_⟩⟩⟩⟩
    have fin : M22 = aF C c x kd lk st := by
      subst e22 e21 e20 e19 e16 e10 e9 e8 e7 e6
      funext k i
      unfold aF ux_
      rw [r15, r17]
      by_cases a : k = 14 ∨ k = 15 ∨ k = 16 ∨ k = 18 ∨ k = 19 ∨ k = 20 ∨ k = 21 ∨ k = 22 ∨ k = 23 ∨ k = 24 ∨ k = 25
      · rcases a with rfl | rfl | rfl | rfl | rfl | rfl | rfl | rfl | rfl | rfl | rfl <;> simp [z]
      · rw [if_neg (by omega), if_neg (by omega), if_neg (by omega), if_neg (by omega), if_neg (by omega), if_neg (by omega), if_neg (by omega), if_neg (by omega), if_neg (by omega), if_neg (by omega), if_neg (by omega), if_neg (by omega), if_neg (by omega), if_neg (by omega), if_neg (by omega), if_neg (by omega), if_neg (by omega), if_neg (by omega), if_neg (by omega), if_neg (by omega), if_neg (by omega)]
    rw [fin]
    have a11 : aF C c x kd lk st 11 = C 11 := by funext i; simp [aF]
    have a17 : aF C c x kd lk st 17 = C 17 := by funext i; simp [aF]
    have a14 : aF C c x kd lk st 14 c = C 14 c + 1 := by simp [aF]
    have hh : (((C 14 c + 1).toNat : Nat) : Int) = C 14 c + 1 := by omega
    refine p_firstByte (n := (C 14 c + 1).toNat) (e := enC C c) c0 c1 (by omega) (by rw [a14, hh]) ?_ (by rw [a11]; exact hp) (by rw [a11]; omega) (by rw [a11, a17]; rfl) he he2 (fun k k1 kt _ => by omega) (fun _ _ => ⟨c0, c1, fun M25 e25 => by rw [e25]; exact h0 z⟩)
    intro j j1
    by_cases ej : (j : Int) = C 14 c
    · have : aF C c x kd lk st 19 (6 * c + j) = kd := by rw [ej]; simp [aF]
      rw [this]; exact ⟨hk, hk2⟩
    · have : aF C c x kd lk st 19 (6 * c + j) = C 19 (6 * c + j) := by
        unfold aF
        simp
        intro q; omega
      rw [this]; exact hkd j (by omega)
  · have q15 : M10 15 c = C 15 c := by subst e10 e9 e8 e7 e6; simp [ux_]
    refine ⟨c0, c1, fun v26 e26 g26 => ⟨by omega, by omega, fun M27 e27 => ⟨c0, c1, fun v28 e28 g28 => ?_⟩⟩⟩
    have r26 : v26 = C 15 c := by rw [e26, q15]
    have r28 : v28 = C 15 c := by rw [e28, e27, ux_c _ _ _ _ (by decide), q15]
    refine ⟨by unfold ri_; omega, c0, c1, fun M30 e30 => ?_⟩
    have fin : M30 = aF C c x kd lk st := by
      subst e30 e27 e10 e9 e8 e7 e6
      funext k i
      unfold aF ux_
      rw [r26, r28]
      by_cases a : k = 14 ∨ k = 15 ∨ k = 16 ∨ k = 18 ∨ k = 19 ∨ k = 20 ∨ k = 21 ∨ k = 22 ∨ k = 23 ∨ k = 24 ∨ k = 25
      · rcases a with rfl | rfl | rfl | rfl | rfl | rfl | rfl | rfl | rfl | rfl | rfl <;> simp [z]
      · rw [if_neg (by omega), if_neg (by omega), if_neg (by omega), if_neg (by omega), if_neg (by omega), if_neg (by omega), if_neg (by omega), if_neg (by omega), if_neg (by omega), if_neg (by omega), if_neg (by omega), if_neg (by omega), if_neg (by omega), if_neg (by omega), if_neg (by omega), if_neg (by omega), if_neg (by omega), if_neg (by omega)]
    rw [fin]
    exact h1 z
