/-! questions worked out: the states of both machines -/
def CB (M0 M : MM) : Prop := (∀ k, k < 219 ∨ 234 < k ∨ 231 < k ∧ M0 219 2 ≠ 211 → M k = M0 k) ∧ ∀ i, i ≠ 3 → i ≠ 6 → (i ≠ 20 ∨ M0 219 2 ≠ 211) → M 219 i = M0 219 i
def SI (B : Int) (M : MM) : Prop := ∀ f, 0 ≤ f → f < 11 → 0 ≤ M 231 f ∧ M 231 f ≤ B + M 219 3 ∧ (∀ t, 0 ≤ t → t < 400 → M 230 (400 * f + t) ≤ M 231 f) ∧ 0 ≤ M 223 f
/-- what an expression may change: the stack from tp on, the frames behind fo -/
def EWc (tp fo : Int) (M M' : MM) : Prop := (∀ k, k < 219 ∨ 231 < k → M' k = M k) ∧ (∀ i, i ≠ 3 → i ≠ 6 → M' 219 i = M 219 i) ∧ (∀ i, i < tp → M' 220 i = M 220 i ∧ M' 221 i = M 221 i) ∧ (∀ k i, 222 ≤ k → k ≤ 228 → i ≤ fo → M' k i = M k i) ∧ (∀ k i, 229 ≤ k → k ≤ 230 → i < 400 * (fo + 1) → M' k i = M k i) ∧ ∀ i, i ≤ fo → M' 231 i = M 231 i
theorem EWc_t {tp fo tp' fo' : Int} {M M1 M2 : MM} (h : EWc tp fo M M1) (h' : EWc tp' fo' M1 M2) (ht : tp ≤ tp') (hf : fo ≤ fo') : EWc tp fo M M2 := by
  obtain ⟨a1, a2, a3, a4, a5, a6⟩ := h
  obtain ⟨b1, b2, b3, b4, b5, b6⟩ := h'
  exact ⟨fun k hk => by rw [b1 k hk, a1 k hk], fun i x y => by rw [b2 i x y, a2 i x y], fun i hi => by rw [(b3 i (by omega)).1, (b3 i (by omega)).2]; exact a3 i hi, fun k i x y z => by rw [b4 k i x y (by omega), a4 k i x y z], fun k i x y z => by rw [b5 k i x y (by omega), a5 k i x y z], fun i x => by rw [b6 i (by omega), a6 i x]⟩
theorem EWc_r (tp fo : Int) (M : MM) : EWc tp fo M M := ⟨fun _ _ => rfl, fun _ _ _ => rfl, fun _ _ => ⟨rfl, rfl⟩, fun _ _ _ _ _ => rfl, fun _ _ _ _ _ => rfl, fun _ _ => rfl⟩
theorem CB_F {tp fo : Int} {M0 M M' : MM} (h : CB M0 M) (hF : EWc tp fo M M') : CB M0 M' := ⟨fun k hk => by rw [hF.1 k (by omega), h.1 k hk], fun i a b d => by rw [hF.2.1 i a b, h.2 i a b d]⟩
/-- the run over the steps: t more may be done -/
def KSq (c : Nat) (M0 : MM) (K : Nat → Int → MM → Prop) (X : MM → Prop) : Prop := (∀ t a M, CB M0 M → a < M0 c 5 → M 219 3 ≤ 30000 → w_X4_execute (fun r M8 => ri_ r → K t r M8) a M → K (t + 1) a M) ∧ ∀ t a M, CB M0 M → 30000 < M 219 3 → X M → K t a M
def EnvQ (c pc : Nat) (M0 R0 : MM) (p B : Int) : Prop := isG c ∧ isP pc ∧ M0 219 2 = c ∧ M0 219 1 = pc ∧ M0 c 5 ≤ 500 ∧ Rty M0 R0 ∧ PW M0 pc ∧ Rpb M0 R0 pc p ∧ 0 ≤ p ∧ p < 5 ∧ (∀ t, 0 ≤ t → t < M0 pc 0 → M0 (pc + 5) t = R0 43 (400 * p + t)) ∧ 0 ≤ B ∧ B + 30001 ≤ 2147483646
def VV (n so v : Int) : Prop := so = 0 ∨ (so = 1 ∧ (v = 0 ∨ v = 1)) ∨ (so = 2 ∧ 0 ≤ v ∧ v < n) ∨ (so = 3 ∧ v = 0) ∨ (so = 4 ∧ v = 0)
def CV (s : Int) (sf : Int → Int) (it : Int) (vr : Int → Int) (iv : Int) (M : MM) : Prop := (∀ i, 0 ≤ i → i < s → M 226 (sf i) = vr i) ∧ (it = 1 → M 226 0 = iv)
def CRun (c pc : Nat) (M0 : MM) (B s : Int) (sf : Int → Int) (fo it : Int) (vr : Int → Int) (iv a b sz so v cost : Int) : Prop :=
  ∀ (K : Nat → Int → MM → Prop) (X : MM → Prop), KSq c M0 K X → ∀ (t : Nat) (M : MM) (tp m : Int), CB M0 M → SI B M → M 219 6 = tp → 0 ≤ tp → tp + sz ≤ 121 → M 219 3 = m → 0 ≤ m → m ≤ 30000 → CV s sf it vr iv M → 4 * (30001 - m) ≤ t →
  (m + cost ≤ 30000 → ∀ (t' : Nat) (M' : MM), (t : Int) ≤ t' + 4 * cost → EWc tp fo M M' → SI B M' → M' 219 6 = tp + 1 → M' 220 tp = so → M' 221 tp = v → M' 219 3 = m + cost → K t' b M') →
  (30000 < m + cost → ∀ M', CB M0 M' → SI B M' → M' 219 3 = 30001 → X M') → K t a M
def RB0 (p : Int) (R0 R : MM) : Prop := ((∀ k, 4 ≤ k → k ≤ 18 → k ≠ 6 → R k = R0 k) ∧ R 0 20 = R0 0 20) ∧ ((∀ j i, 66 ≤ j → j ≤ 70 → R0 0 (-1) ≤ i → i < R0 0 (-2) → R j i = R0 j i) ∧ ∀ (M0 : MM) (pc : Nat), Rty M0 R0 → PW M0 pc → Rpb M0 R0 pc p → Rpb M0 R pc p ∧ ∀ t, 0 ≤ t → t < M0 pc 0 → R 43 (400 * p + t) = R0 43 (400 * p + t) ∧ (R0 0 (-3) = 1 → R 47 (400 * p + t) = R0 47 (400 * p + t))) ∧ R 0 97 = p
theorem RB0_m {p : Int} {R0 R R' : MM} (h : RB0 p R0 R) (e : ∀ k, k ∉ [0, 60, 62, 71, 72, 73, 74, 75, 76, 77] → R' k = R k) (e20 : R' 0 20 = R 0 20) (e97 : R' 0 97 = R 0 97) : RB0 p R0 R' := by
  obtain ⟨⟨h1, h2⟩, ⟨h3, h4⟩, h5⟩ := h
  refine ⟨⟨fun k a b c => by rw [e k (by simp; omega)]; exact h1 k a b c, by rw [e20]; exact h2⟩, ⟨fun j i j0 j1 a b => by rw [e j (by simp; omega)]; exact h3 j i j0 j1 a b, fun M0 pc hy hw hb => ?_⟩, by rw [e97]; exact h5⟩
  obtain ⟨a, b⟩ := h4 M0 pc hy hw hb
  exact ⟨Rpb_M a (fun k hk => e k (by intro q; simp at q hk; omega)), fun t t0 t1 => by rw [e 43 (by decide), e 47 (by decide)]; exact b t t0 t1⟩
theorem Y_r {p : Int} {M0 R0 R : MM} (hY : Rty M0 R0) (hR : RB0 p R0 R) : Rty M0 R := Rty_R hY (fun k a b c => hR.1.1 k a b c) hR.1.2
theorem B_e {c pc : Nat} {M0 R0 R : MM} {p B : Int} (hE : EnvQ c pc M0 R0 p B) (hR : RB0 p R0 R) : Rpb M0 R pc p := (hR.2.1.2 M0 pc hE.2.2.2.2.2.1 hE.2.2.2.2.2.2.1 hE.2.2.2.2.2.2.2.1).1
theorem rc40 {c pc : Nat} {M0 R0 R : MM} {p B t : Int} (hE : EnvQ c pc M0 R0 p B) (hR : RB0 p R0 R) (t0 : 0 ≤ t) (t1 : t < M0 pc 0) : R 40 (400 * p + t) = M0 (pc + 2) t ∧ R 41 (400 * p + t) = M0 (pc + 3) t ∧ R 43 (400 * p + t) = R0 43 (400 * p + t) ∧ (R0 0 (-3) = 1 → R 47 (400 * p + t) = R0 47 (400 * p + t)) := ⟨((B_e hE hR).2.1 t t0 t1).2.1.symm, ((B_e hE hR).2.1 t t0 t1).2.2.1.symm, (hR.2.1.2 M0 pc hE.2.2.2.2.2.1 hE.2.2.2.2.2.2.1 hE.2.2.2.2.2.2.2.1).2 t t0 t1⟩
def EWr (l : Int) (R R' : MM) : Prop := (∀ k, k ∉ [0, 60, 62, 72, 73, 74] → R' k = R k) ∧ (∀ i, i ∉ ([73, 98, 99, 102, 103] : List Int) → R' 0 i = R 0 i) ∧ (∀ i, i < l ∨ i = 11 → R' 72 i = R 72 i ∧ R' 74 i = R 74 i) ∧ ∀ i, i < 4400 * l ∨ 48400 ≤ i → R' 73 i = R 73 i
theorem EWr_t {l l' : Int} {R R1 R2 : MM} (h : EWr l R R1) (h' : EWr l' R1 R2) (hl : l ≤ l') : EWr l R R2 := by
  obtain ⟨a1, a2, a3, a4⟩ := h
  obtain ⟨b1, b2, b3, b4⟩ := h'
  exact ⟨fun k hk => by rw [b1 k hk, a1 k hk], fun i hi => by rw [b2 i hi, a2 i hi], fun i hi => by rw [(b3 i (by omega)).1, (b3 i (by omega)).2]; exact a3 i hi, fun i hi => by rw [b4 i (by omega), a4 i hi]⟩
theorem EWr_r (l : Int) (R : MM) : EWr l R R := ⟨fun _ _ => rfl, fun _ _ => rfl, fun _ _ => ⟨rfl, rfl⟩, fun _ _ => rfl⟩
theorem RB0_F {p l : Int} {R0 R R' : MM} (h : RB0 p R0 R) (hF : EWr l R R') : RB0 p R0 R' := RB0_m h (fun k hk => hF.1 k (fun y => hk (by simp only [List.mem_cons, List.not_mem_nil, or_false] at y ⊢; omega))) (hF.2.1 20 (by decide)) (hF.2.1 97 (by decide))
theorem EWr_u {l : Int} {R R' : MM} (h : EWr l R R') {i : Int} (v : Int) (hi : i ∈ ([73, 98, 99, 102, 103] : List Int)) : EWr l R (ux_ R' 0 i v) := ⟨fun k hk => by rw [ux_g _ _ _ (fun y => hk (by rw [y]; decide)), h.1 k hk], fun j hj => by rw [ux_i _ _ _ (fun y => hj (by rw [y]; exact hi)), h.2.1 j hj], fun j hj => by rw [ux_g _ _ _ (by decide), ux_g _ _ _ (by decide)]; exact h.2.2.1 j hj, fun j hj => by rw [ux_g _ _ _ (by decide)]; exact h.2.2.2 j hj⟩
def RRun (R0 : MM) (p s it : Int) (vr : Int → Int) (iv x sz so v cost : Int) : Prop :=
  ∀ (d : Nat) (R : MM) (m : Int), 2 * sz ≤ d → RB0 p R0 R → R 0 98 = m → 0 ≤ m → m ≤ 30000 → R 0 103 = 0 → R 0 101 = s → (∀ i, 0 ≤ i → i < s → R 72 i = vr i) → (it = 1 → R 0 100 = iv) → ∀ Q : Int → MM → Prop,
  (m + cost ≤ 30000 → ∀ R', EWr s R R' → R' 0 98 = m + cost → R' 0 103 = 0 → R' 0 99 = so → R' 0 102 = v → Q 0 R') → (30000 < m + cost → ∀ R', EWr s R R' → R' 0 103 = 1 → R' 0 99 = 4 → Q 0 R') → gw_ d 0 Q [x] R
def KL (P : CD) (N : MM) (a b lo hi : Int) : Prop := ∀ i, a ≤ i → i < b → P 1 i = 8 → ∃ j, lo ≤ j ∧ j < hi ∧ N 66 j = 20
def UsQ (P : CD) (a b : Int) (M0 R0 : MM) (pc : Nat) (p : Int) : Prop := (∀ i, a ≤ i → i < b → P 1 i = 8 → R0 0 (-3) = 1 ∧ ∀ t, 0 ≤ t → t < M0 pc 0 → M0 (pc + 23) t = R0 47 (400 * p + t)) ∧ ∀ i, a ≤ i → i < b → P 1 i = 31 → HD M0 pc
def cAg (P : CD) (M0 : MM) (c : Nat) (a b : Int) : Prop := ∀ j i, 0 < j → j ≤ 4 → a ≤ i → i < b → M0 (c + j) i = P j i
def nAg (N R0 : MM) (lo hi : Int) : Prop := (R0 0 (-1) ≤ lo ∧ hi ≤ R0 0 (-2)) ∧ ∀ j i, 66 ≤ j → j ≤ 70 → lo ≤ i → i < hi → R0 j i = N j i
theorem nAg_s {N R0 : MM} {lo hi lo' hi' : Int} (h : nAg N R0 lo hi) (h1 : lo ≤ lo') (h2 : hi' ≤ hi) : nAg N R0 lo' hi' := ⟨⟨by have := h.1; omega, by have := h.1; omega⟩, fun j i a b c d => h.2 j i a b (by omega) (by omega)⟩
theorem RBn {p lo hi : Int} {N R0 R : MM} (hR : RB0 p R0 R) (hn : nAg N R0 lo hi) {j : Nat} {i : Int} (j0 : 66 ≤ j) (j1 : j ≤ 70) (i0 : lo ≤ i) (i1 : i < hi) : R j i = N j i := by
  rw [hR.2.1.1 j i j0 j1 (by have := hn.1; omega) (by have := hn.1; omega)]; exact hn.2 j i j0 j1 i0 i1
def vOK (n s : Int) (sf : Int → Int) (fo it : Int) (vr : Int → Int) (iv : Int) : Prop := 0 ≤ s ∧ s ≤ 10 ∧ 0 ≤ fo ∧ fo ≤ 10 ∧ (∀ i, 0 ≤ i → i < s → 0 ≤ sf i ∧ sf i ≤ fo ∧ 0 ≤ vr i ∧ vr i < n) ∧ (it = 1 → 0 ≤ iv ∧ iv < n)
def Sem : SMt := fun P N s sf fo it x a b lo hi => a < b ∧ lo < hi ∧ lo ≤ x ∧ x < hi ∧ KL P N a b lo hi ∧ ∀ (c pc : Nat) (M0 R0 : MM) (p B : Int) (vr : Int → Int) (iv : Int), EnvQ c pc M0 R0 p B → 0 ≤ a → b ≤ M0 c 5 → 0 ≤ lo → hi ≤ 480 → cAg P M0 c a b → nAg N R0 lo hi → UsQ P a b M0 R0 pc p → vOK (M0 pc 0) s sf fo it vr iv →
  ∃ so v cost, VV (M0 pc 0) so v ∧ 1 ≤ cost ∧ CRun c pc M0 B s sf fo it vr iv a b (hi - lo) so v cost ∧ RRun R0 p s it vr iv x (hi - lo) so v cost
theorem Sem_A : CloA Sem := by
  intro P N s sf fo it x a b lo hi h P' N' sf' lo' hi' hP hN hf hl hh
  obtain ⟨h1, h2, h3, h4, h5, h6⟩ := h
  refine ⟨h1, by omega, by omega, by omega, fun i i0 i1 e => ?_, fun c pc M0 R0 p B vr iv hE a0 b5 l0 h480 hc hn hu hv => ?_⟩
  · obtain ⟨j, j0, j1, j2⟩ := h5 i i0 i1 (by rw [← hP 1 i (by omega) (by omega) i0 i1]; exact e)
    exact ⟨j, by omega, by omega, by rw [hN 66 j (by omega) (by omega) j0 j1]; exact j2⟩
  · obtain ⟨so, v, cost, e1, e2, e3, e4⟩ := h6 c pc M0 R0 p B vr iv hE a0 b5 (by omega) (by omega) (fun j i j0 j4 i0 i1 => by rw [hc j i j0 j4 i0 i1]; exact hP j i j0 j4 i0 i1) ⟨⟨by have := hn.1; omega, by have := hn.1; omega⟩, fun j i j0 j4 i0 i1 => by rw [hn.2 j i j0 j4 (by omega) (by omega)]; exact hN j i j0 j4 i0 i1⟩ ⟨fun i i0 i1 e => hu.1 i i0 i1 (by rw [hP 1 i (by omega) (by omega) i0 i1]; exact e), fun i i0 i1 e => hu.2 i i0 i1 (by rw [hP 1 i (by omega) (by omega) i0 i1]; exact e)⟩ ⟨hv.1, hv.2.1, hv.2.2.1, hv.2.2.2.1, fun i i0 i1 => by rw [← hf i i0 i1]; exact hv.2.2.2.2.1 i i0 i1, hv.2.2.2.2.2⟩
    refine ⟨so, v, cost, e1, e2, fun K X hK t M tp m hC hS htp tp0 tp1 hm m0 m1 hcv ht hq hx => ?_, fun d R m hd => ?_⟩
    · exact e3 K X hK t M tp m hC hS htp tp0 (by omega) hm m0 m1 ⟨fun i i0 i1 => by rw [← hf i i0 i1]; exact hcv.1 i i0 i1, hcv.2⟩ ht hq hx
    · exact e4 d R m (by omega)
/-- a value is pushed -/
def Psh (tp so v : Int) (M M' : MM) : Prop := (∀ k, k ≠ 219 → k ≠ 220 → k ≠ 221 → M' k = M k) ∧ (∀ i, i ≠ 6 → M' 219 i = M 219 i) ∧ M' 219 6 = tp + 1 ∧ (∀ i, i ≠ tp → M' 220 i = M 220 i ∧ M' 221 i = M 221 i) ∧ M' 220 tp = so ∧ M' 221 tp = v
theorem p_push {Q : Int → MM → Prop} {M : MM} {tp so v : Int} (h6 : M 219 6 = tp) (t0 : 0 ≤ tp) (t1 : tp < 121) (hq : ∀ M', Psh tp so v M M' → Q 0 M') : w_X4_push Q so v M := by
  unfold w_X4_push
  intro v1 e1 _
  refine ⟨fun z => by omega, fun _ v3 e3 _ => ⟨by omega, by omega, fun M4 e4 v5 e5 _ => ?_⟩⟩
  rw [e4, ux_c _ _ _ _ (by decide)] at e5
  refine ⟨by omega, by omega, fun M6 e6 v7 e7 _ => ?_⟩
  rw [e6, ux_c _ _ _ _ (by decide), e4, ux_c _ _ _ _ (by decide)] at e7
  refine ⟨by unfold ri_; omega, fun M9 e9 => hq M9 ?_⟩
  have a3 : v3 = tp := by omega
  have a5 : v5 = tp := by omega
  have a7 : v7 = tp := by omega
  subst a3
  rw [a5] at e6
  rw [a7] at e9
  refine ⟨fun k x y z => by rw [e9, ux_g _ _ _ x, e6, ux_g _ _ _ z, e4, ux_g _ _ _ y], fun i hi => by rw [e9, ux_i _ _ _ hi, e6, ux_c _ _ _ _ (by decide), e4, ux_c _ _ _ _ (by decide)], by rw [e9, ux_s], fun i hi => ⟨by rw [e9, ux_c _ _ _ _ (by decide), e6, ux_c _ _ _ _ (by decide), e4, ux_i _ _ _ hi], by rw [e9, ux_c _ _ _ _ (by decide), e6, ux_i _ _ _ hi, e4, ux_c _ _ _ _ (by decide)]⟩, by rw [e9, ux_c _ _ _ _ (by decide), e6, ux_c _ _ _ _ (by decide), e4, ux_s], by rw [e9, ux_c _ _ _ _ (by decide), e6, ux_s]⟩
theorem p_pushT {Q : Int → MM → Prop} {M : MM} {tp : Int} {z : Int} (h6 : M 219 6 = tp) (t0 : 0 ≤ tp) (t1 : tp < 121) (z01 : z = 0 ∨ z = 1) (hq : ∀ M', Psh tp 1 z M M' → Q 0 M') : w_X4_pushTruth Q z M := by
  unfold w_X4_pushTruth w_X4_pushTruth_b11
  refine ⟨fun e => p_push h6 t0 t1 (fun M' h => hq M' (by rw [e]; exact h)), fun e => p_push h6 t0 t1 (fun M' h => hq M' ?_)⟩
  rcases z01 with y | y
  · exact absurd y e
  · rw [y]; exact h
/-- one metered step -/
theorem K_op {c pc : Nat} {M0 R0 M : MM} {p B : Int} {K : Nat → Int → MM → Prop} {X : MM → Prop} {t : Nat} {a m o : Int} (hE : EnvQ c pc M0 R0 p B) (hK : KSq c M0 K X) (hC : CB M0 M) (hm : M 219 3 = m) (m0 : 0 ≤ m) (m1 : m ≤ 30000) (a0 : 0 ≤ a) (a1 : a < M0 c 5) (ho : M0 (c + 1) a = o) (o35 : o < 35) (h : ∀ M6, M6 = ux_ M 219 3 (m + 1) → w_X4_execute_b26 (fun r M8 => ri_ r → K t r M8) a o M6) : K (t + 1) a M := by
  obtain ⟨g1, g2, g3, g4, g5, -⟩ := hE
  have gc : c < 219 ∨ 231 < c := by unfold isG at g1; omega
  have gc1 : c + 1 < 219 ∨ 234 < c + 1 := by unfold isG at g1; omega
  refine hK.1 t a M hC a1 (by omega) ?_
  unfold w_X4_execute
  refine ⟨c, by rw [hC.2 2 (by decide) (by decide) (Or.inl (by decide))]; exact g3, g1, a0, by omega, fun v2 e2 _ => ?_⟩
  rw [hC.1 _ (by omega), ho] at e2
  rw [e2]
  exact ⟨fun z => by omega, fun _ v4 e4 _ => ⟨by unfold ri_; omega, fun M6 e6 => h M6 (by rw [e6, e4, hm])⟩⟩
theorem K_qt {c pc : Nat} {M0 R0 M : MM} {p B : Int} {K : Nat → Int → MM → Prop} {X : MM → Prop} {t : Nat} {a o : Int} (hE : EnvQ c pc M0 R0 p B) (hK : KSq c M0 K X) (hC : CB M0 M) (m1 : M 219 3 ≤ 30000) (a0 : 0 ≤ a) (a1 : a < M0 c 5) (ho : M0 (c + 1) a = o) (o35 : 35 ≤ o) (h : w_X4_jump (fun r5 M6 => ri_ r5 → (fun r M8 => ri_ r → K t r M8) r5 M6) o a M) : K (t + 1) a M := by
  obtain ⟨g1, g2, g3, g4, g5, -⟩ := hE
  have gc1 : c + 1 < 219 ∨ 234 < c + 1 := by unfold isG at g1; omega
  refine hK.1 t a M hC a1 m1 ?_
  unfold w_X4_execute
  refine ⟨c, by rw [hC.2 2 (by decide) (by decide) (Or.inl (by decide))]; exact g3, g1, a0, by omega, fun v2 e2 _ => ?_⟩
  rw [hC.1 _ (by omega), ho] at e2
  rw [e2]
  refine ⟨fun _ => ?_, fun z => by omega⟩
  unfold w_X4_execute_b26
  exact ⟨fun _ => ⟨fun _ => ⟨fun _ => ⟨fun _ => h, fun z => by omega⟩, fun z => by omega⟩, fun z => by omega⟩, fun z => by omega⟩
/-- the meter goes on by one -/
theorem mt1 {B tp fo m : Int} {M M6 : MM} (hS : SI B M) (hm : M 219 3 = m) (e : M6 = ux_ M 219 3 (m + 1)) : EWc tp fo M M6 ∧ SI B M6 ∧ M6 219 3 = m + 1 ∧ (∀ i, i ≠ 3 → M6 219 i = M 219 i) ∧ ∀ k, k ≠ 219 → M6 k = M k := by
  have o : ∀ k, k ≠ 219 → M6 k = M k := fun k hk => by rw [e]; exact ux_g _ _ _ hk
  have i' : ∀ i, i ≠ 3 → M6 219 i = M 219 i := fun i hi => by rw [e, ux_i _ _ _ hi]
  refine ⟨⟨fun k hk => o k (by omega), fun i a _ => i' i a, fun i _ => ⟨by rw [o 220 (by decide)], by rw [o 221 (by decide)]⟩, fun k i a b _ => by rw [o k (by omega)], fun k i a b _ => by rw [o k (by omega)], fun i _ => by rw [o 231 (by decide)]⟩, fun f f0 f1 => ?_, by rw [e, ux_s], i', o⟩
  obtain ⟨s1, s2, s3⟩ := hS f f0 f1
  rw [o 231 (by decide), o 230 (by decide), o 223 (by decide), e, ux_s]
  exact ⟨s1, by omega, s3⟩
/-- a value's end: the run goes on, or is spent -/
theorem K_fin {c : Nat} {M0 M M' : MM} {B : Int} {K : Nat → Int → MM → Prop} {X : MM → Prop} {t t' : Nat} {b tp fo m cost so v : Int} (hK : KSq c M0 K X) (hC : CB M0 M) (hF : EWc tp fo M M') (hS : SI B M') (h6 : M' 219 6 = tp + 1) (hs : M' 220 tp = so) (hv : M' 221 tp = v) (h3 : M' 219 3 = m + cost) (hm : m + cost ≤ 30001) (ht : (t : Int) ≤ t' + 4 * cost) (hq : m + cost ≤ 30000 → ∀ (t' : Nat) (M' : MM), (t : Int) ≤ t' + 4 * cost → EWc tp fo M M' → SI B M' → M' 219 6 = tp + 1 → M' 220 tp = so → M' 221 tp = v → M' 219 3 = m + cost → K t' b M') (hx : 30000 < m + cost → ∀ M', CB M0 M' → SI B M' → M' 219 3 = 30001 → X M') : K t' b M' := by
  by_cases z : m + cost ≤ 30000
  · exact hq z t' M' ht hF hS h6 hs hv h3
  · exact hK.2 t' b M' (CB_F hC hF) (by omega) (hx (by omega) M' (CB_F hC hF) hS (by omega))
/-- a push over a state whose stack stands at tp -/
theorem Psh_F {tp so v fo : Int} {M M' : MM} {B : Int} (h : Psh tp so v M M') (hS : SI B M) : EWc tp fo M M' ∧ SI B M' ∧ M' 219 6 = tp + 1 ∧ M' 220 tp = so ∧ M' 221 tp = v ∧ M' 219 3 = M 219 3 := by
  obtain ⟨h1, h2, h3, h4, h5, h6⟩ := h
  refine ⟨⟨fun k hk => h1 k (by omega) (by omega) (by omega), fun i _ b => h2 i b, fun i hi => h4 i (by omega), fun k i a b _ => by rw [h1 k (by omega) (by omega) (by omega)], fun k i a b _ => by rw [h1 k (by omega) (by omega) (by omega)], fun i _ => by rw [h1 231 (by decide) (by decide) (by decide)]⟩, fun f f0 f1 => ?_, h3, h5, h6, h2 3 (by decide)⟩
  rw [h1 231 (by decide) (by decide) (by decide), h1 230 (by decide) (by decide) (by decide), h1 223 (by decide) (by decide) (by decide), h2 3 (by decide)]
  exact hS f f0 f1
/-- the reference's meter: it goes on by one, or all is spent -/
theorem r_stp {R0 R : MM} {p m : Int} {Q : Int → MM → Prop} (hm : R 0 98 = m) (m0 : 0 ≤ m) (m1 : m ≤ 30000) (h1 : m < 30000 → Q 0 (ux_ R 0 98 (m + 1))) (h0 : m = 30000 → Q 0 (ux_ R 0 103 1)) : w_X12_step Q R := by
  unfold w_X12_step
  intro v1 e1 _
  refine ⟨fun z v3 e3 _ => ⟨by unfold ri_; omega, fun M5 e5 => ?_⟩, fun z M6 e6 => ?_⟩
  · rw [e5, show v3 = m from by omega]; exact h1 (by omega)
  · rw [e6]; exact h0 (by omega)
/-- work begins: the node's kind decides -/
theorem r_work {R0 R : MM} {p m l : Int} {Q : Int → MM → Prop} {d : Nat} {x k : Int} (x0 : 0 ≤ x) (x1 : x < 480) (hk : R 66 x = k) (hm : R 0 98 = m) (m0 : 0 ≤ m) (m1 : m ≤ 30000) (h103 : R 0 103 = 0) (h1 : m < 30000 → ∀ R1, R1 = ux_ R 0 98 (m + 1) → (k < 13 → w_X12_work_b50 (gw_ d) Q x k R1) ∧ (¬ k < 13 → (18 < k → w_X12_work_b50 (gw_ d) Q x k R1) ∧ (¬ 18 < k → gw_ d 6 (fun _ M7 => Q 0 M7) [x] R1))) (h0 : m = 30000 → ∀ R', EWr l R R' → R' 0 103 = 1 → R' 0 99 = 4 → Q 0 R') : gw_ (d + 1) 0 Q [x] R := by
  show b_X12_work (gw_ d) Q x R
  unfold b_X12_work
  refine fun v1 e1 _ => ⟨fun z => absurd (by rw [e1]; exact h103) z, fun _ => r_stp (R0 := R0) (p := p) hm m0 m1 (fun z => ?_) (fun z => ?_)⟩
  · unfold w_X12_work_b11
    refine fun v1 e1 _ => ⟨fun _ => ⟨x0, x1, fun v3 e3 _ => ?_⟩, fun y => absurd (by rw [e1, ux_i _ _ _ (by decide)]; exact h103) y⟩
    rw [ux_c _ _ _ _ (by decide), hk] at e3
    rw [e3]
    exact h1 z _ rfl
  · unfold w_X12_work_b11 w_X12_nothing w_X12_give
    refine fun v1 e1 _ => ⟨fun y => by rw [e1, ux_s] at y; omega, fun _ M1 g1 M2 g2 => h0 z M2 ?_ ?_ (by rw [g2, ux_i _ _ _ (by decide), g1, ux_s])⟩
    · rw [g2, g1]; exact EWr_u (EWr_u (EWr_u (EWr_r _ _) _ (by decide)) _ (by decide)) _ (by decide)
    · rw [g2, g1, ux_i _ _ _ (by decide), ux_i _ _ _ (by decide), ux_s]
theorem r_giv {R : MM} {Q : Int → MM → Prop} {so v l : Int} (hq : ∀ R', EWr l R R' → R' 0 98 = R 0 98 → R' 0 103 = R 0 103 → R' 0 99 = so → R' 0 102 = v → Q 0 R') : w_X12_give Q so v R := by
  unfold w_X12_give
  intro M1 e1 M2 e2
  refine hq M2 (by rw [e2, e1]; exact EWr_u (EWr_u (EWr_r _ _) _ (by decide)) _ (by decide)) ?_ ?_ ?_ ?_
  · rw [e2, e1, ux_i _ _ _ (by decide), ux_i _ _ _ (by decide)]
  · rw [e2, e1, ux_i _ _ _ (by decide), ux_i _ _ _ (by decide)]
  · rw [e2, ux_i _ _ _ (by decide), e1, ux_s]
  · rw [e2, ux_s]
