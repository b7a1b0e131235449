/-! a question is read: the reference's state, and what its small steps do -/
def Kd (R : MM) : Prop := ∀ i j, 0 ≤ i → i < 29 → 0 ≤ j → j < 29 → R 3 i = R 3 j → i = j
def Fpr (b : Int) (R0 R : MM) : Prop := (∀ k, k ≠ 0 → (k < 66 ∨ 71 < k) → R k = R0 k) ∧ (∀ k, 66 ≤ k → k ≤ 70 → ∀ i, (i < b ∨ b + 120 ≤ i) → R k i = R0 k i) ∧ ∀ i, i ∉ ([78, 79, 80, 83, 84, 85, 91, 92, 93, 94, 95] : List Int) → R 0 i = R0 0 i
/-- the text's words, for both -/
def TX (C0 R0 : MM) (E : Nat → Int) (L : Nat) : Prop := TKS C0 E L ∧ C0 1 1 = R0 0 3 ∧ C0 1 1 ≤ 4000 ∧ (∀ i, 0 ≤ i → i < C0 1 1 → C0 2 i = R0 1 i % 256) ∧ Rkey C0 R0 ∧ Kd R0
def Wr (C0 : MM) (E : Nat → Int) (k : Nat) (R : MM) : Prop := R 0 78 = E (k + 1) ∧ R 0 79 = C0 5 k ∧ tk R (C0 4 k) (C0 6 k)
def Gl (b n q it s : Int) (R : MM) : Prop := R 0 83 = 0 ∧ R 0 91 = b ∧ R 0 92 = n ∧ R 0 93 = q ∧ R 0 94 = s ∧ R 0 95 = it
def SR (C0 R0 : MM) (E : Nat → Int) (b : Int) (k : Nat) (n q it s : Int) (nr_ : Int → Int) (R : MM) : Prop := Fpr b R0 R ∧ Wr C0 E k R ∧ Gl b n q it s R ∧ ∀ i, 0 ≤ i → i < s → R 71 i = nr_ i
def RF (R0 : MM) (b q s f pl : Int) (R : MM) : Prop := Fpr b R0 R ∧ R 0 83 = f ∧ R 0 84 = pl ∧ R 0 91 = b ∧ R 0 93 = q ∧ R 0 94 = s
theorem Fpr_FA {b : Int} {R0 R R' : MM} (h : Fpr b R0 R) (hA : FA R R') : Fpr b R0 R' := by
  refine ⟨fun k a d => by rw [hA.1 k a]; exact h.1 k a d, fun k a d i hi => by rw [hA.1 k (by omega)]; exact h.2.1 k a d i hi, fun i hi => ?_⟩
  rw [hA.2 i (fun y => hi (by simp only [List.mem_cons, List.not_mem_nil, or_false] at y ⊢; omega))]
  exact h.2.2 i hi
theorem Fpr_u {b : Int} {R0 R : MM} (h : Fpr b R0 R) {k : Nat} (k0 : 66 ≤ k) (k1 : k ≤ 70) {i : Int} (v : Int) (i0 : b ≤ i) (i1 : i < b + 120) : Fpr b R0 (ux_ R k i v) := by
  refine ⟨fun j a d => by rw [ux_g _ _ _ (by omega)]; exact h.1 j a d, fun j a d x hx => ?_, fun x hx => by rw [ux_c _ _ _ _ (by omega)]; exact h.2.2 x hx⟩
  by_cases y : j = k
  · rw [y, ux_i _ _ _ (by omega)]; exact h.2.1 k k0 k1 x hx
  · rw [ux_c _ _ _ _ y]; exact h.2.1 j a d x hx
theorem Fpr_71 {b : Int} {R0 R : MM} (h : Fpr b R0 R) (i v : Int) : Fpr b R0 (ux_ R 71 i v) :=
  ⟨fun j a d => by rw [ux_g _ _ _ (by omega)]; exact h.1 j a d, fun j a d x hx => by rw [ux_g _ _ _ (by omega)]; exact h.2.1 j a d x hx, fun x hx => by rw [ux_c _ _ _ _ (by omega)]; exact h.2.2 x hx⟩
theorem Fpr_0 {b : Int} {R0 R : MM} (h : Fpr b R0 R) {i : Int} (v : Int) (hi : i ∈ ([78, 79, 80, 83, 84, 85, 91, 92, 93, 94, 95] : List Int)) : Fpr b R0 (ux_ R 0 i v) :=
  ⟨fun j a d => by rw [ux_g _ _ _ a]; exact h.1 j a d, fun j a d x hx => by rw [ux_g _ _ _ (by omega)]; exact h.2.1 j a d x hx, fun x hx => by rw [ux_i _ _ _ (fun y => hx (by rw [y]; exact hi))]; exact h.2.2 x hx⟩
theorem TX_lt {C0 R0 : MM} {E : Nat → Int} {L k : Nat} (hT : TX C0 R0 E L) (hk : k ≤ L) (hw : C0 4 k ≠ 0) : k + 1 ≤ L := by
  by_cases w : k = L
  · rw [w] at hw; exact absurd hT.1.2.2.1 hw
  · omega
theorem r_adv {C0 R0 R : MM} {E : Nat → Int} {L k : Nat} {b : Int} (hT : TX C0 R0 E L) (hF : Fpr b R0 R) (h78 : R 0 78 = E (k + 1)) (hk : k + 1 ≤ L) {Q : Int → MM → Prop} (hq : ∀ R', FA R R' → Wr C0 E (k + 1) R' → Q 0 R') : w_X12_advance Q R := by
  obtain ⟨t1, t2, t3, t4, t5, t6⟩ := hT
  obtain ⟨s1, s2, s3⟩ := t1.2.2.2.2 (k + 1) hk
  refine p_adv (C := C0) (by rw [hF.2.2 3 (by decide)]; exact t2) t3 (fun i a c => by rw [hF.1 1 (by decide) (by omega)]; exact t4 i a c) (fun i a c => by rw [hF.1 3 (by decide) (by omega)]; exact t5 i a c) h78 s1 s3 fun N' f1 f2 f3 f4 => hq N' f1 ⟨f2, f3, f4⟩
/-- words that are told apart -/
theorem sgb_inj : ∀ i, i < 16 → ∀ j, j < 16 → sgb i = sgb j → i = j := by decide
theorem sgb_no : ∀ i, i < 16 → sgb i ≠ 8509 ∧ sgb i ≠ 15421 ∧ sgb i ≠ 15933 := by decide
theorem tk_bad {R : MM} {W D : Int} (h : tk R W D) : R 0 80 = 4 ↔ W = 1 := by
  rcases h with ⟨a, b⟩ | ⟨a, b⟩ | ⟨a, b, -⟩ | ⟨a, b, -⟩ | ⟨j, j0, j1, a, b, -⟩ | ⟨a, b, -⟩ | ⟨a, b, -⟩ | ⟨a, b, -⟩ | ⟨j, j0, j1, a, b, -⟩ <;> omega
theorem tk_num {R : MM} {W D : Int} (h : tk R W D) : R 0 80 = 2 ↔ W = 3 := by
  rcases h with ⟨a, b⟩ | ⟨a, b⟩ | ⟨a, b, -⟩ | ⟨a, b, -⟩ | ⟨j, j0, j1, a, b, -⟩ | ⟨a, b, -⟩ | ⟨a, b, -⟩ | ⟨a, b, -⟩ | ⟨j, j0, j1, a, b, -⟩ <;> omega
theorem tk_end {R : MM} {W D : Int} (h : tk R W D) : R 0 80 = 0 ↔ W = 0 := by
  rcases h with ⟨a, b⟩ | ⟨a, b⟩ | ⟨a, b, -⟩ | ⟨a, b, -⟩ | ⟨j, j0, j1, a, b, -⟩ | ⟨a, b, -⟩ | ⟨a, b, -⟩ | ⟨a, b, -⟩ | ⟨j, j0, j1, a, b, -⟩ <;> omega
theorem tk_sg {R : MM} {W D : Int} (h : tk R W D) {x : Nat} (hx : x < 16) : R 0 80 = 3 ∧ R 0 85 = sgb x ↔ W = 4 + x := by
  have no := sgb_no x hx
  rcases h with ⟨a, b⟩ | ⟨a, b⟩ | ⟨a, b, -⟩ | ⟨a, b, -⟩ | ⟨j, j0, j1, a, b, d⟩ | ⟨a, b, d⟩ | ⟨a, b, d⟩ | ⟨a, b, d⟩ | ⟨j, j0, j1, a, b, -⟩
  · omega
  · omega
  · omega
  · omega
  · constructor
    · rintro ⟨-, e⟩
      have := sgb_inj j.toNat (by omega) x hx (by rw [← d]; exact e)
      omega
    · intro e
      refine ⟨b, ?_⟩
      rw [d]
      exact congrArg sgb (by omega)
  · exact ⟨fun e => by omega, fun e => by omega⟩
  · exact ⟨fun e => by omega, fun e => by omega⟩
  · exact ⟨fun e => by omega, fun e => by omega⟩
  · omega
theorem tk_s2 {R : MM} {W D : Int} (h : tk R W D) {x : Int} (hx : x = 20 ∨ x = 21 ∨ x = 22) : R 0 80 = 3 ∧ R 0 85 = (if x = 20 then 8509 else if x = 21 then 15421 else 15933) ↔ W = x := by
  rcases h with ⟨a, b⟩ | ⟨a, b⟩ | ⟨a, b, -⟩ | ⟨a, b, -⟩ | ⟨j, j0, j1, a, b, d⟩ | ⟨a, b, d⟩ | ⟨a, b, d⟩ | ⟨a, b, d⟩ | ⟨j, j0, j1, a, b, -⟩
  · omega
  · omega
  · omega
  · omega
  · have no := sgb_no j.toNat (by omega)
    rw [← d] at no
    rcases hx with rfl | rfl | rfl <;> constructor <;> intro e <;> simp at * <;> omega
  · rcases hx with rfl | rfl | rfl <;> constructor <;> intro e <;> simp at * <;> omega
  · rcases hx with rfl | rfl | rfl <;> constructor <;> intro e <;> simp at * <;> omega
  · rcases hx with rfl | rfl | rfl <;> constructor <;> intro e <;> simp at * <;> omega
  · omega
theorem kp_inj {i j : Int} (i0 : 0 ≤ i) (i1 : i < 29) (j0 : 0 ≤ j) (j1 : j < 29) (h : kp i = kp j) : i = j := by
  unfold kp at h
  split at h <;> split at h <;> (try split at h) <;> (try split at h) <;> omega
theorem kp_r {i : Int} (i0 : 0 ≤ i) (i1 : i < 29) : 0 ≤ kp i ∧ kp i < 29 := by
  unfold kp
  split
  · omega
  · split <;> omega
theorem kp_c {x : Int} (hx : 0 ≤ x) (h2 : x < 29) : ∃ k, 0 ≤ k ∧ k < 29 ∧ kp k = x := by
  by_cases a : x ≤ 2
  · exact ⟨x, hx, h2, by unfold kp; rw [if_pos a]⟩
  · by_cases b : x = 28
    · exact ⟨3, by omega, by omega, by rw [b]; decide⟩
    · exact ⟨x + 1, by omega, by omega, by unfold kp; rw [if_neg (by omega), if_neg (by omega)]; omega⟩
theorem tk_key {R : MM} {W D : Int} (h : tk R W D) (hK : Kd R) {x : Int} (x0 : 0 ≤ x) (x1 : x < 29) : R 0 80 = 1 ∧ R 0 85 = R 3 (kp x) ↔ W = 30 + x := by
  have xr := kp_r x0 x1
  rcases h with ⟨a, b⟩ | ⟨a, b⟩ | ⟨a, b, -, d⟩ | ⟨a, b, -⟩ | ⟨j, j0, j1, a, b, d⟩ | ⟨a, b, d⟩ | ⟨a, b, d⟩ | ⟨a, b, d⟩ | ⟨j, j0, j1, a, b, d⟩
  · omega
  · omega
  · exact ⟨fun e => absurd e.2.symm (d _ xr.1 xr.2), fun e => by omega⟩
  · omega
  · omega
  · omega
  · omega
  · omega
  · have jr := kp_r j0 j1
    constructor
    · rintro ⟨-, e⟩
      rw [d] at e
      have := kp_inj j0 j1 x0 x1 (hK _ _ jr.1 jr.2 xr.1 xr.2 e)
      omega
    · intro e
      exact ⟨b, by rw [d, show j = x from by omega]⟩
theorem tk_nm {R : MM} {W D : Int} (h : tk R W D) : R 0 80 = 1 ∧ (∀ j, 0 ≤ j → j < 29 → R 3 j ≠ R 0 85) ↔ W = 2 := by
  rcases h with ⟨a, b⟩ | ⟨a, b⟩ | ⟨a, b, -, d⟩ | ⟨a, b, -⟩ | ⟨j, j0, j1, a, b, d⟩ | ⟨a, b, d⟩ | ⟨a, b, d⟩ | ⟨a, b, d⟩ | ⟨j, j0, j1, a, b, d⟩
  · omega
  · omega
  · exact ⟨fun _ => a, fun _ => ⟨b, d⟩⟩
  · omega
  · omega
  · omega
  · omega
  · omega
  · have jr := kp_r j0 j1
    exact ⟨fun e => absurd d.symm (e.2 _ jr.1 jr.2), fun e => by omega⟩
theorem tk_nr {R : MM} {D : Int} (h : tk R 2 D) : nr D (R 0 85) := by
  rcases h with ⟨a, b⟩ | ⟨a, b⟩ | ⟨a, b, d, -⟩ | ⟨a, b, -⟩ | ⟨j, j0, j1, a, b, d⟩ | ⟨a, b, d⟩ | ⟨a, b, d⟩ | ⟨a, b, d⟩ | ⟨j, j0, j1, a, b, d⟩ <;> first | exact d | omega
theorem tk_v {R : MM} {D : Int} (h : tk R 3 D) : R 0 85 = D := by
  rcases h with ⟨a, b⟩ | ⟨a, b⟩ | ⟨a, b, d, -⟩ | ⟨a, b, d⟩ | ⟨j, j0, j1, a, b, d⟩ | ⟨a, b, d⟩ | ⟨a, b, d⟩ | ⟨a, b, d⟩ | ⟨j, j0, j1, a, b, d⟩ <;> first | exact d | omega
theorem tk_W {R : MM} {W D : Int} (h : tk R W D) : 0 ≤ W ∧ W ≤ 22 ∨ 30 ≤ W ∧ W < 59 := by
  rcases h with ⟨a, b⟩ | ⟨a, b⟩ | ⟨a, b, -⟩ | ⟨a, b, -⟩ | ⟨j, j0, j1, a, b, -⟩ | ⟨a, b, -⟩ | ⟨a, b, -⟩ | ⟨a, b, -⟩ | ⟨j, j0, j1, a, b, -⟩ <;> omega
theorem r_isS {R : MM} {W D : Int} (h : tk R W D) {x : Nat} (hx : x < 16) {Q : Int → MM → Prop} (h1 : W = 4 + x → Q 1 R) (h0 : W ≠ 4 + x → Q 0 R) {y : Int} (hy : y = sgb x) : w_X12_isSign Q y R := by
  have := tk_sg h hx
  unfold w_X12_isSign
  intro v1 e1 _
  refine ⟨fun z => h0 (fun e => z (by rw [e1]; exact (this.mpr e).1)), fun z v3 e3 _ => ⟨fun z2 => h0 (fun e => z2 (by rw [e3, hy]; exact (this.mpr e).2)), fun z2 => h1 (this.mp ⟨by rw [← e1]; exact z, by rw [← e3, ← hy]; exact z2⟩)⟩⟩
theorem r_isS2 {R : MM} {W D : Int} (h : tk R W D) {x : Int} (hx : x = 20 ∨ x = 21 ∨ x = 22) {Q : Int → MM → Prop} (h1 : W = x → Q 1 R) (h0 : W ≠ x → Q 0 R) {y : Int} (hy : y = if x = 20 then 8509 else if x = 21 then 15421 else 15933) : w_X12_isSign Q y R := by
  have := tk_s2 h hx
  unfold w_X12_isSign
  intro v1 e1 _
  refine ⟨fun z => h0 (fun e => z (by rw [e1]; exact (this.mpr e).1)), fun z v3 e3 _ => ⟨fun z2 => h0 (fun e => z2 (by rw [e3, hy]; exact (this.mpr e).2)), fun z2 => h1 (this.mp ⟨by rw [← e1]; exact z, by rw [← e3, ← hy]; exact z2⟩)⟩⟩
theorem r_isK {R : MM} {W D : Int} (h : tk R W D) (hK : Kd R) {x : Int} (x0 : 0 ≤ x) (x1 : x < 29) {Q : Int → MM → Prop} (h1 : W = 30 + x → Q 1 R) (h0 : W ≠ 30 + x → Q 0 R) {y : Int} (hy : y = kp x) : w_X12_isKey Q y R := by
  have := tk_key h hK x0 x1
  have xr := kp_r x0 x1
  unfold w_X12_isKey
  intro v1 e1 _
  refine ⟨fun z => h0 (fun e => z (by rw [e1]; exact (this.mpr e).1)), fun z v3 e3 _ => ⟨by omega, by omega, fun v4 e4 _ => ⟨fun z2 => h0 (fun e => z2 (by rw [e3, e4, hy]; exact (this.mpr e).2)), fun z2 => h1 (this.mp ⟨by rw [← e1]; exact z, by rw [← e3, z2, e4, hy]⟩)⟩⟩⟩
theorem r_isN {R : MM} {W D : Int} (h : tk R W D) {Q : Int → MM → Prop} (h1 : W = 2 → Q 1 R) (h0 : W ≠ 2 → Q 0 R) : w_X12_isName Q R := by
  have := tk_nm h
  unfold w_X12_isName
  intro v1 e1 _
  refine ⟨fun z => h0 (fun e => z (by rw [e1]; exact (this.mpr e).1)), fun z v3 e3 _ => p_R_keyOf (fun k k0 k1 k2 _ _ => ⟨fun _ => h0 (fun e => (this.mpr e).2 k k0 k1 (by rw [← e3]; exact k2)), fun y => by omega⟩) (fun k0 _ => ⟨fun y => absurd rfl y, fun _ => h1 (this.mp ⟨by rw [← e1]; exact z, by rw [← e3]; exact k0⟩)⟩)⟩
theorem r_kah {R : MM} {W D : Int} (h : tk R W D) (hK : Kd R) {Q : Int → MM → Prop} (h1 : ∀ x, 0 ≤ x → x < 29 → W = 30 + x → Q (kp x) R) (h0 : W < 30 → Q (-1) R) : w_X12_keyAtHand Q R := by
  have W' := tk_W h
  unfold w_X12_keyAtHand
  intro v1 e1 _
  refine ⟨fun z => h0 (by
    by_cases y : W < 30
    · exact y
    · exact absurd (by rw [e1]; exact ((tk_key h hK (x := W - 30) (by omega) (by omega)).mpr (by omega)).1) z), fun z v3 e3 _ => p_R_keyOf (fun k k0 k1 k2 _ _ => ?_) (fun k0 _ => h0 ?_)⟩
  · obtain ⟨x, x0, x1, x2⟩ := kp_c k0 k1
    rw [← x2] at k2 ⊢
    exact h1 x x0 x1 ((tk_key h hK x0 x1).mp ⟨by rw [← e1]; exact z, by rw [← e3]; exact k2.symm⟩)
  · have := (tk_nm h).mp ⟨by rw [← e1]; exact z, by rw [← e3]; exact k0⟩
    omega
/-- the reference's small steps -/
theorem r_fail {C0 R0 R : MM} {E : Nat → Int} {b : Int} {k : Nat} {n q it s : Int} {nr_ : Int → Int} (h : SR C0 R0 E b k n q it s nr_ R) {Q : Int → MM → Prop} {f pl : Int} (hp : pl = C0 5 k) (hq : ∀ R', RF R0 b q s f (C0 5 k) R' → R' 0 78 = E (k + 1) → (∀ j, j ≠ 0 → R' j = R j) → (∀ i, i ≠ 83 → i ≠ 84 → R' 0 i = R 0 i) → Q 0 R') : w_X12_fail Q f pl R := by
  obtain ⟨hF, ⟨w1, w2, w3⟩, ⟨g1, g2, g3, g4, g5, g6⟩, hN⟩ := h
  unfold w_X12_fail
  intro v1 e1 _
  refine ⟨fun _ M3 e3 M4 e4 => ?_, fun z => by omega⟩
  have o : ∀ i, i ≠ 83 → i ≠ 84 → M4 0 i = R 0 i := fun i a c => by rw [e4, e3, ux_i _ _ _ c, ux_i _ _ _ a]
  refine hq M4 ⟨by rw [e4, e3]; exact Fpr_0 (Fpr_0 hF _ (by decide)) _ (by decide), by rw [e4, ux_i _ _ _ (by decide), e3, ux_s], by rw [e4, ux_s, hp], by rw [o 91 (by decide) (by decide)]; exact g2, by rw [o 93 (by decide) (by decide)]; exact g4, by rw [o 94 (by decide) (by decide)]; exact g5⟩ (by rw [o 78 (by decide) (by decide)]; exact w1) (fun j hj => by rw [e4, e3, ux_g _ _ _ hj, ux_g _ _ _ hj]) o
theorem r_wrong {C0 R0 R : MM} {E : Nat → Int} {b : Int} {k : Nat} {n q it s : Int} {nr_ : Int → Int} (h : SR C0 R0 E b k n q it s nr_ R) {Q : Int → MM → Prop} (hq : ∀ R', RF R0 b q s (if C0 4 k = 1 then 2 else 1) (C0 5 k) R' → (∀ j, j ≠ 0 → R' j = R j) → Q 0 R') : w_X12_wrong Q R := by
  have bd := tk_bad h.2.1.2.2
  have w2 := h.2.1.2.1
  unfold w_X12_wrong w_X12_wrong_b14
  intro v1 e1 _
  refine ⟨fun z v1 e1' _ => r_fail h (by rw [e1', w2]) (fun R' a _ c _ => hq R' ?_ c), fun z v1 e1' _ => r_fail h (by rw [e1', w2]) (fun R' a _ c _ => hq R' ?_ c)⟩
  · rw [if_neg (fun y => z (by rw [e1]; exact bd.mpr y))]; exact a
  · rw [if_pos (bd.mp (by rw [← e1]; exact z))]; exact a
theorem r_nodeF {R : MM} {b f : Int} (h83 : R 0 83 = f) (f0 : 0 < f) (h91 : R 0 91 = b) {Q : Int → MM → Prop} {x : Int} (hq : Q b R) : w_X12_node Q x R := by
  unfold w_X12_node w_X12_node_b25
  intro v1 e1 _
  exact ⟨fun _ v1 e1 _ => ⟨fun z => by omega, fun _ v15 e15 _ => by rw [e15, h91]; exact hq⟩, fun z => by omega⟩
theorem r_node {C0 R0 R : MM} {E : Nat → Int} {b : Int} {k : Nat} {n q it s : Int} {nr_ : Int → Int} (h : SR C0 R0 E b k n q it s nr_ R) (b0 : 0 ≤ b) (b1 : b ≤ 360) (n0 : 0 ≤ n) (n1 : n ≤ 120) {Q : Int → MM → Prop} {x : Int} (h1 : n < 120 → ∀ R', SR C0 R0 E b k (n + 1) q it s nr_ R' → (∀ j, j ≠ 0 → ∀ i, i ≠ b + n → R' j i = R j i) → R' 71 = R 71 → R' 66 (b + n) = x → R' 67 (b + n) = -1 → R' 68 (b + n) = -1 → R' 69 (b + n) = -1 → R' 70 (b + n) = R 0 85 → (∀ i, i ≠ 92 → R' 0 i = R 0 i) → Q (b + n) R') (h0 : n = 120 → ∀ R', RF R0 b q s 4 (C0 5 k) R' → R' 0 78 = E (k + 1) → (∀ j, j ≠ 0 → R' j = R j) → Q b R') : w_X12_node Q x R := by
  obtain ⟨hF, ⟨w1, w2, w3⟩, ⟨g1, g2, g3, g4, g5, g6⟩, hN⟩ := id h
  unfold w_X12_node
  intro v1 e1 _
  refine ⟨fun z => by omega, fun _ v3 e3 _ => ⟨fun z => ?_, fun z v5 e5 _ => r_fail h (by rw [e5, w2]) fun R' a c d g => ?_⟩⟩
  · unfold w_X12_node_b25
    intro v1 e1 _
    refine ⟨fun _ v3 e3' _ v4 e4 _ => ?_, fun z => by omega⟩
    have vb : v3 + v4 = b + n := by omega
    rw [vb]
    refine ⟨by unfold ri_; omega, fun v6 e6 _ => ⟨by unfold ri_; omega, fun M8 e8 => ⟨by omega, by omega, fun M9 e9 => ⟨by omega, by omega, fun M10 e10 => ⟨by omega, by omega, fun M11 e11 => ⟨by omega, by omega, fun M12 e12 v13 e13 _ => ⟨by omega, by omega, fun M14 e14 => ?_⟩⟩⟩⟩⟩⟩⟩
    have z14 : M14 0 = M8 0 := by rw [e14, ux_g _ _ _ (by omega), e12, ux_g _ _ _ (by omega), e11, ux_g _ _ _ (by omega), e10, ux_g _ _ _ (by omega), e9, ux_g _ _ _ (by omega)]
    have o0 : ∀ i, i ≠ 92 → M14 0 i = R 0 i := fun i hi => by rw [z14, e8, ux_i _ _ _ hi]
    have w85 : v13 = R 0 85 := by rw [e13, ← o0 85 (by decide), z14, e12, ux_g _ _ _ (by omega), e11, ux_g _ _ _ (by omega), e10, ux_g _ _ _ (by omega), e9, ux_g _ _ _ (by omega)]
    have oo : ∀ j, j ≠ 0 → ∀ i, i ≠ b + n → M14 j i = R j i := fun j a i hi => by
      rw [e14, e12, e11, e10, e9, e8]
      unfold ux_
      rw [if_neg (fun y => hi y.2), if_neg (fun y => hi y.2), if_neg (fun y => hi y.2), if_neg (fun y => hi y.2), if_neg (fun y => hi y.2), if_neg (fun y => a y.1)]
    have o71 : M14 71 = R 71 := by rw [e14, ux_g _ _ _ (by omega), e12, ux_g _ _ _ (by omega), e11, ux_g _ _ _ (by omega), e10, ux_g _ _ _ (by omega), e9, ux_g _ _ _ (by omega), e8, ux_g _ _ _ (by omega)]
    have o3 : M14 3 = R 3 := by rw [e14, ux_g _ _ _ (by omega), e12, ux_g _ _ _ (by omega), e11, ux_g _ _ _ (by omega), e10, ux_g _ _ _ (by omega), e9, ux_g _ _ _ (by omega), e8, ux_g _ _ _ (by omega)]
    refine h1 (by omega) M14 ⟨?_, ⟨by rw [o0 78 (by decide)]; exact w1, by rw [o0 79 (by decide)]; exact w2, ?_⟩, ⟨by rw [o0 83 (by decide)]; exact g1, by rw [o0 91 (by decide)]; exact g2, by rw [z14, e8, ux_s]; omega, by rw [o0 93 (by decide)]; exact g4, by rw [o0 94 (by decide)]; exact g5, by rw [o0 95 (by decide)]; exact g6⟩, fun i a c => by rw [o71]; exact hN i a c⟩ oo o71 ?_ ?_ ?_ ?_ ?_ o0
    · rw [e14, e12, e11, e10, e9, e8]
      exact Fpr_u (Fpr_u (Fpr_u (Fpr_u (Fpr_u (Fpr_0 hF _ (by decide)) (by omega) (by omega) _ (by omega) (by omega)) (by omega) (by omega) _ (by omega) (by omega)) (by omega) (by omega) _ (by omega) (by omega)) (by omega) (by omega) _ (by omega) (by omega)) (by omega) (by omega) _ (by omega) (by omega)
    · unfold tk at w3 ⊢
      rw [o0 80 (by decide), o0 85 (by decide), o3]
      exact w3
    · rw [e14, ux_c _ _ _ _ (by omega), e12, ux_c _ _ _ _ (by omega), e11, ux_c _ _ _ _ (by omega), e10, ux_c _ _ _ _ (by omega), e9, ux_s]
    · rw [e14, ux_c _ _ _ _ (by omega), e12, ux_c _ _ _ _ (by omega), e11, ux_c _ _ _ _ (by omega), e10, ux_s]
    · rw [e14, ux_c _ _ _ _ (by omega), e12, ux_c _ _ _ _ (by omega), e11, ux_s]
    · rw [e14, ux_c _ _ _ _ (by omega), e12, ux_s]
    · rw [e14, ux_s, w85]
  · unfold w_X12_node_b25
    intro v1 e1 _
    refine ⟨fun z => by have := a.2.1; omega, fun _ v15 e15 _ => ?_⟩
    rw [e15, a.2.2.2.1]
    exact h0 (by omega) R' a c d
/-- the nests become another number -/
theorem SR_93 {C0 R0 R : MM} {E : Nat → Int} {b : Int} {k : Nat} {n q it s : Int} {nr_ : Int → Int} (h : SR C0 R0 E b k n q it s nr_ R) (v : Int) : SR C0 R0 E b k n v it s nr_ (ux_ R 0 93 v) := by
  obtain ⟨hF, ⟨w1, w2, w3⟩, ⟨g1, g2, g3, g4, g5, g6⟩, hN⟩ := id h
  refine ⟨Fpr_0 hF _ (by decide), ⟨by rw [ux_i _ _ _ (by decide)]; exact w1, by rw [ux_i _ _ _ (by decide)]; exact w2, ?_⟩, ⟨by rw [ux_i _ _ _ (by decide)]; exact g1, by rw [ux_i _ _ _ (by decide)]; exact g2, by rw [ux_i _ _ _ (by decide)]; exact g3, ux_s _ _ _ _, by rw [ux_i _ _ _ (by decide)]; exact g5, by rw [ux_i _ _ _ (by decide)]; exact g6⟩, fun i a c => by rw [ux_c _ _ _ _ (by decide)]; exact hN i a c⟩
  unfold tk at w3 ⊢
  rw [ux_i _ _ _ (by decide), ux_i _ _ _ (by decide), ux_g _ _ _ (by decide)]
  exact w3
theorem RF_93 {R0 R : MM} {b q s f pl : Int} (h : RF R0 b q s f pl R) (v : Int) : RF R0 b v s f pl (ux_ R 0 93 v) := by
  obtain ⟨h1, h2, h3, h4, h5, h6⟩ := h
  exact ⟨Fpr_0 h1 _ (by decide), by rw [ux_i _ _ _ (by decide)]; exact h2, by rw [ux_i _ _ _ (by decide)]; exact h3, by rw [ux_i _ _ _ (by decide)]; exact h4, ux_s _ _ _ _, by rw [ux_i _ _ _ (by decide)]; exact h6⟩
theorem RF_94 {R0 R : MM} {b q s f pl : Int} (h : RF R0 b q s f pl R) (v : Int) : RF R0 b q v f pl (ux_ R 0 94 v) := by
  obtain ⟨h1, h2, h3, h4, h5, h6⟩ := h
  exact ⟨Fpr_0 h1 _ (by decide), by rw [ux_i _ _ _ (by decide)]; exact h2, by rw [ux_i _ _ _ (by decide)]; exact h3, by rw [ux_i _ _ _ (by decide)]; exact h4, by rw [ux_i _ _ _ (by decide)]; exact h5, ux_s _ _ _ _⟩
theorem RF_u {R0 R : MM} {b q s f pl : Int} (h : RF R0 b q s f pl R) {k : Nat} (k0 : 66 ≤ k) (k1 : k ≤ 70) {i : Int} (v : Int) (i0 : b ≤ i) (i1 : i < b + 120) : RF R0 b q s f pl (ux_ R k i v) := by
  obtain ⟨h1, h2, h3, h4, h5, h6⟩ := h
  exact ⟨Fpr_u h1 k0 k1 _ i0 i1, by rw [ux_c _ _ _ _ (by omega)]; exact h2, by rw [ux_c _ _ _ _ (by omega)]; exact h3, by rw [ux_c _ _ _ _ (by omega)]; exact h4, by rw [ux_c _ _ _ _ (by omega)]; exact h5, by rw [ux_c _ _ _ _ (by omega)]; exact h6⟩
theorem RF_71 {R0 R : MM} {b q s f pl : Int} (h : RF R0 b q s f pl R) (i v : Int) : RF R0 b q s f pl (ux_ R 71 i v) := by
  obtain ⟨h1, h2, h3, h4, h5, h6⟩ := h
  exact ⟨Fpr_71 h1 _ _, by rw [ux_c _ _ _ _ (by omega)]; exact h2, by rw [ux_c _ _ _ _ (by omega)]; exact h3, by rw [ux_c _ _ _ _ (by omega)]; exact h4, by rw [ux_c _ _ _ _ (by omega)]; exact h5, by rw [ux_c _ _ _ _ (by omega)]; exact h6⟩
theorem RF_A {R0 R R' : MM} {b q s f pl : Int} (h : RF R0 b q s f pl R) (hA : FA R R') : RF R0 b q s f pl R' := by
  obtain ⟨h1, h2, h3, h4, h5, h6⟩ := h
  exact ⟨Fpr_FA h1 hA, by rw [hA.2 83 (by decide)]; exact h2, by rw [hA.2 84 (by decide)]; exact h3, by rw [hA.2 91 (by decide)]; exact h4, by rw [hA.2 93 (by decide)]; exact h5, by rw [hA.2 94 (by decide)]; exact h6⟩
/-- a node's part is written -/
theorem SR_u {C0 R0 R : MM} {E : Nat → Int} {b : Int} {k : Nat} {n q it s : Int} {nr_ : Int → Int} (h : SR C0 R0 E b k n q it s nr_ R) {j : Nat} (j0 : 66 ≤ j) (j1 : j ≤ 70) {i : Int} (v : Int) (i0 : b ≤ i) (i1 : i < b + 120) : SR C0 R0 E b k n q it s nr_ (ux_ R j i v) := by
  obtain ⟨hF, ⟨w1, w2, w3⟩, ⟨g1, g2, g3, g4, g5, g6⟩, hN⟩ := id h
  refine ⟨Fpr_u hF j0 j1 _ i0 i1, ⟨by rw [ux_c _ _ _ _ (by omega)]; exact w1, by rw [ux_c _ _ _ _ (by omega)]; exact w2, ?_⟩, ⟨by rw [ux_c _ _ _ _ (by omega)]; exact g1, by rw [ux_c _ _ _ _ (by omega)]; exact g2, by rw [ux_c _ _ _ _ (by omega)]; exact g3, by rw [ux_c _ _ _ _ (by omega)]; exact g4, by rw [ux_c _ _ _ _ (by omega)]; exact g5, by rw [ux_c _ _ _ _ (by omega)]; exact g6⟩, fun x a c => by rw [ux_c _ _ _ _ (by omega)]; exact hN x a c⟩
  unfold tk at w3 ⊢
  rw [ux_c _ _ _ _ (by omega), ux_c _ _ _ _ (by omega), ux_g _ _ _ (by omega)]
  exact w3
theorem r_next {C0 R0 R : MM} {E : Nat → Int} {L : Nat} {b : Int} {k : Nat} {n q it s : Int} {nr_ : Int → Int} (hT : TX C0 R0 E L) (h : SR C0 R0 E b k n q it s nr_ R) (hk : k ≤ L) (hw : C0 4 k ≠ 0) {Q : Int → MM → Prop} (hq : ∀ R', SR C0 R0 E b (k + 1) n q it s nr_ R' → (∀ j, j ≠ 0 → R' j = R j) → Q 0 R') : w_X12_advance Q R := by
  obtain ⟨hF, ⟨w1, w2, w3⟩, ⟨g1, g2, g3, g4, g5, g6⟩, hN⟩ := id h
  refine r_adv hT hF w1 (TX_lt hT hk hw) fun R' hA hW => hq R' ⟨Fpr_FA hF hA, hW, ⟨by rw [hA.2 83 (by decide)]; exact g1, by rw [hA.2 91 (by decide)]; exact g2, by rw [hA.2 92 (by decide)]; exact g3, by rw [hA.2 93 (by decide)]; exact g4, by rw [hA.2 94 (by decide)]; exact g5, by rw [hA.2 95 (by decide)]; exact g6⟩, fun i a c => by rw [hA.1 71 (by decide)]; exact hN i a c⟩ (fun j hj => hA.1 j hj)
theorem SR_K {C0 R0 R : MM} {E : Nat → Int} {L : Nat} {b : Int} {k : Nat} {n q it s : Int} {nr_ : Int → Int} (hT : TX C0 R0 E L) (h : SR C0 R0 E b k n q it s nr_ R) : Kd R := fun i j a c d e g => by
  rw [h.1.1 3 (by decide) (by omega)] at g
  exact hT.2.2.2.2.2 i j a c d e g
