/-! sets worked out: the states -/
def ES (s l : Int) (R R' : MM) : Prop := (∀ k, k ∉ [0, 60, 62, 72, 73, 74] → R' k = R k) ∧ (∀ i, i ∉ ([73, 98, 99, 102, 103] : List Int) → R' 0 i = R 0 i) ∧ (∀ i, i < s ∨ i = 11 → R' 72 i = R 72 i ∧ (i ≠ l → R' 74 i = R 74 i)) ∧ ∀ i, i < 4400 * s ∨ 48400 ≤ i → i < 4400 * l ∨ 4400 * l + 4400 ≤ i → R' 73 i = R 73 i
theorem ES_t {s l : Int} {R R1 R2 : MM} (h : ES s l R R1) (h' : ES s l R1 R2) : ES s l R R2 := by
  obtain ⟨a1, a2, a3, a4⟩ := h
  obtain ⟨b1, b2, b3, b4⟩ := h'
  exact ⟨fun k hk => by rw [b1 k hk, a1 k hk], fun i hi => by rw [b2 i hi, a2 i hi], fun i hi => ⟨by rw [(b3 i hi).1, (a3 i hi).1], fun hl => by rw [(b3 i hi).2 hl, (a3 i hi).2 hl]⟩, fun i hi hj => by rw [b4 i hi hj, a4 i hi hj]⟩
theorem ES_r (s l : Int) (R : MM) : ES s l R R := ⟨fun _ _ => rfl, fun _ _ => rfl, fun _ _ => ⟨rfl, fun _ => rfl⟩, fun _ _ _ => rfl⟩
theorem ES_E {s l : Int} {R R' : MM} (h : EWr s R R') : ES s l R R' := ⟨h.1, h.2.1, fun i hi => ⟨(h.2.2.1 i hi).1, fun _ => (h.2.2.1 i hi).2⟩, fun i hi _ => h.2.2.2 i hi⟩
theorem E_ES {s : Int} {R R' : MM} (h : ES s s R R') (s1 : s ≤ 10) : EWr s R R' := ⟨h.1, h.2.1, fun i hi => ⟨(h.2.2.1 i hi).1, (h.2.2.1 i hi).2 (by omega)⟩, fun i hi => h.2.2.2 i hi (by omega)⟩
theorem RB0_S {p s l : Int} {R0 R R' : MM} (h : RB0 p R0 R) (hF : ES s l R R') : RB0 p R0 R' := RB0_m h (fun k hk => hF.1 k (fun y => hk (by simp only [List.mem_cons, List.not_mem_nil, or_false] at y ⊢; omega))) (hF.2.1 20 (by decide)) (hF.2.1 97 (by decide))
/-- a list is gathered -/
def GS (s l : Int) (R R' : MM) (L : List Int) : Prop := ES s l R R' ∧ R' 74 l = L.length ∧ (∀ k : Nat, k < L.length → R' 73 (4400 * l + k) = L.getD k 0) ∧ R' 0 98 = R 0 98 ∧ R' 0 103 = R 0 103
theorem r_gat {Q : Int → MM → Prop} {R R1 : MM} {s l v : Int} {L : List Int} (s0 : 0 ≤ s) (s1 : s ≤ 10) (hl : l = s ∨ l = 11) (hL : L.length < 4400) (h : GS s l R R1 L) (hq : ∀ R', GS s l R R' (L ++ [v]) → (∀ k, k ≠ 73 → k ≠ 74 → R' k = R1 k) → Q 0 R') : w_X12_gather Q l v R1 := by
  obtain ⟨h1, h2, h3, h4, h5⟩ := h
  unfold w_X12_gather
  refine ⟨by unfold ri_; omega, by omega, by omega, fun v2 e2 _ => ⟨by unfold ri_; omega, by omega, by omega, fun M4 e4 => ⟨by omega, by omega, fun v5 e5 _ => ⟨by unfold ri_; rw [e4, ux_c _ _ _ _ (by decide)] at e5; omega, by omega, by omega, fun M7 e7 => hq M7 ?_ (fun k a b => by rw [e7, ux_g _ _ _ b, e4, ux_g _ _ _ a])⟩⟩⟩⟩
  rw [e4, ux_c _ _ _ _ (by decide)] at e5
  refine ⟨ES_t h1 ⟨fun k hk => by rw [e7, ux_g _ _ _ (fun y => hk (by rw [y]; decide)), e4, ux_g _ _ _ (fun y => hk (by rw [y]; decide))], fun i _ => by rw [e7, ux_c _ _ _ _ (by decide), e4, ux_c _ _ _ _ (by decide)], fun i _ => ⟨by rw [e7, ux_c _ _ _ _ (by decide), e4, ux_c _ _ _ _ (by decide)], fun il => by rw [e7, ux_i _ _ _ il, e4, ux_c _ _ _ _ (by decide)]⟩, fun i _ hi => by rw [e7, ux_c _ _ _ _ (by decide), e4, ux_i _ _ _ (by omega)]⟩, ?_, fun k hk => ?_, ?_, ?_⟩
  · rw [e7, ux_s, List.length_append]; simp; omega
  · rw [List.length_append] at hk
    simp at hk
    rw [e7, ux_c _ _ _ _ (by decide), e4]
    by_cases y : k = L.length
    · rw [y, gD_last, show 4400 * l + ((L.length : Nat) : Int) = 4400 * l + v2 from by omega, ux_s]
    · rw [ux_i _ _ _ (by omega), gD_app (by omega)]
      exact h3 k (by omega)
  · rw [e7, ux_c _ _ _ _ (by decide), e4, ux_c _ _ _ _ (by decide)]; exact h4
  · rw [e7, ux_c _ _ _ _ (by decide), e4, ux_c _ _ _ _ (by decide)]; exact h5
def SetC (c pc : Nat) (M0 : MM) (B s : Int) (sf : Int → Int) (fo it : Int) (vr : Int → Int) (iv a b sz : Int) (ts : List Int) (cost : Int) : Prop :=
  ∀ (K : Nat → Int → MM → Prop) (X : MM → Prop), KSq c M0 K X → ∀ (t : Nat) (M : MM) (tp m : Int), CB M0 M → SI B M → M 219 6 = tp → 0 ≤ tp → tp + sz ≤ 121 → M 219 3 = m → 0 ≤ m → m ≤ 30000 → CV s sf it vr iv M → 4 * (30001 - m) ≤ t →
  (m + cost ≤ 30000 → ∀ (t' : Nat) (M' : MM), (t : Int) ≤ t' + 4 * cost → EWc tp (fo - 1) M M' → SI B M' → M' 219 6 = tp → M' 219 3 = m + cost → (∀ k, 226 ≤ k → k ≤ 228 → M' k fo = M k fo) → Gv M0 fo (M0 pc 0) B ts M' → K t' b M') →
  (30000 < m + cost → ∀ M', CB M0 M' → SI B M' → M' 219 3 = 30001 → X M') → K t a M
def SetR (R0 : MM) (p s it : Int) (vr : Int → Int) (iv x sz l : Int) (ts : List Int) (cost : Int) : Prop :=
  ∀ (d : Nat) (R : MM) (m : Int), 2 * sz ≤ d → RB0 p R0 R → R 0 98 = m → 0 ≤ m → m ≤ 30000 → R 0 103 = 0 → R 0 101 = s → (∀ i, 0 ≤ i → i < s → R 72 i = vr i) → (it = 1 → R 0 100 = iv) → ∀ Q : Int → MM → Prop,
  (m + cost ≤ 30000 → ∀ R', ES s l R R' → R' 0 98 = m + cost → R' 0 103 = 0 → R' 74 l = ts.length → (∀ k : Nat, k < ts.length → R' 73 (4400 * l + k) = ts.getD k 0) → Q 0 R') → (30000 < m + cost → ∀ R', ES s l R R' → R' 0 103 = 1 → R' 74 l = 0 → Q 0 R') → gw_ d 5 Q [x, l] R
def SemS : SMt := fun P N s sf fo it x a b lo hi => a < b ∧ lo < hi ∧ lo ≤ x ∧ x < hi ∧ KL P N a b lo hi ∧ ∀ (c pc : Nat) (M0 R0 : MM) (p B : Int) (vr : Int → Int) (iv : Int), EnvQ c pc M0 R0 p B → 0 ≤ a → b ≤ M0 c 5 → 0 ≤ lo → hi ≤ 480 → cAg P M0 c a b → nAg N R0 lo hi → UsQ P a b M0 R0 pc p → vOK (M0 pc 0) s sf fo it vr iv →
  ∃ (ts : List Int) (cost : Int), (∀ t ∈ ts, 0 ≤ t ∧ t < M0 pc 0) ∧ ts.length ≤ 4000 ∧ 1 ≤ cost ∧ SetC c pc M0 B s sf fo it vr iv a b (hi - lo) ts cost ∧ ∀ l, l = s ∨ l = 11 → SetR R0 p s it vr iv x (hi - lo) l ts cost
theorem SemS_A : CloA SemS := by
  intro P N s sf fo it x a b lo hi h P' N' sf' lo' hi' hP hN hf hl hh
  obtain ⟨h1, h2, h3, h4, h5, h6⟩ := h
  refine ⟨h1, by omega, by omega, by omega, fun i i0 i1 e => ?_, fun c pc M0 R0 p B vr iv hE a0 b5 l0 h480 hc hn hu hv => ?_⟩
  · obtain ⟨j, j0, j1, j2⟩ := h5 i i0 i1 (by rw [← hP 1 i (by omega) (by omega) i0 i1]; exact e)
    exact ⟨j, by omega, by omega, by rw [hN 66 j (by omega) (by omega) j0 j1]; exact j2⟩
  · obtain ⟨ts, cost, e1, e2, e5, e3, e4⟩ := h6 c pc M0 R0 p B vr iv hE a0 b5 (by omega) (by omega) (fun j i j0 j4 i0 i1 => by rw [hc j i j0 j4 i0 i1]; exact hP j i j0 j4 i0 i1) ⟨⟨by have := hn.1; omega, by have := hn.1; omega⟩, fun j i j0 j4 i0 i1 => by rw [hn.2 j i j0 j4 (by omega) (by omega)]; exact hN j i j0 j4 i0 i1⟩ ⟨fun i i0 i1 e => hu.1 i i0 i1 (by rw [hP 1 i (by omega) (by omega) i0 i1]; exact e), fun i i0 i1 e => hu.2 i i0 i1 (by rw [hP 1 i (by omega) (by omega) i0 i1]; exact e)⟩ ⟨hv.1, hv.2.1, hv.2.2.1, hv.2.2.2.1, fun i i0 i1 => by rw [← hf i i0 i1]; exact hv.2.2.2.2.1 i i0 i1, hv.2.2.2.2.2⟩
    refine ⟨ts, cost, e1, e2, e5, fun K X hK t M tp m hC hS htp tp0 tp1 hm m0 m1 hcv ht hq hx => ?_, fun l hl d R m hd => ?_⟩
    · exact e3 K X hK t M tp m hC hS htp tp0 (by omega) hm m0 m1 ⟨fun i i0 i1 => by rw [← hf i i0 i1]; exact hcv.1 i i0 i1, hcv.2⟩ ht hq hx
    · exact e4 l hl d R m (by omega)
/-- what the beginning of a set may change -/
def FB_ (f : Int) (M M' : MM) : Prop := (∀ k, k ∉ [219, 222, 223, 224, 225, 229, 230, 231] → M' k = M k) ∧ (∀ i, i ≠ 6 → M' 219 i = M 219 i) ∧ (∀ k i, 222 ≤ k → k ≤ 225 → i ≠ f → M' k i = M k i) ∧ (∀ k i, 229 ≤ k → k ≤ 230 → (i < 400 * f ∨ 400 * f + 400 ≤ i) → M' k i = M k i) ∧ ∀ i, i ≠ f → M' 231 i = M 231 i
theorem FB_r (f : Int) (M : MM) : FB_ f M M := ⟨fun _ _ => rfl, fun _ _ => rfl, fun _ _ _ _ _ => rfl, fun _ _ _ _ _ => rfl, fun _ _ => rfl⟩
theorem FB_t {f : Int} {M M1 M2 : MM} (h : FB_ f M M1) (h' : FB_ f M1 M2) : FB_ f M M2 := ⟨fun k hk => by rw [h'.1 k hk, h.1 k hk], fun i hi => by rw [h'.2.1 i hi, h.2.1 i hi], fun k i a b d => by rw [h'.2.2.1 k i a b d, h.2.2.1 k i a b d], fun k i a b d => by rw [h'.2.2.2.1 k i a b d, h.2.2.2.1 k i a b d], fun i hi => by rw [h'.2.2.2.2 i hi, h.2.2.2.2 i hi]⟩
theorem FB_u {f : Int} {M : MM} {k : Nat} (k0 : 222 ≤ k) (k1 : k ≤ 225) (v : Int) : FB_ f M (ux_ M k f v) := ⟨fun j hj => ux_g _ _ _ (fun y => by rw [y] at hj; simp at hj; omega), fun i _ => ux_c _ _ _ _ (by omega), fun j i _ _ d => by
    by_cases e : j = k
    · rw [e, ux_i _ _ _ d]
    · rw [ux_c _ _ _ _ e], fun j i _ _ _ => ux_c _ _ _ _ (by omega), fun i _ => ux_c _ _ _ _ (by omega)⟩
theorem FB_6 {f v : Int} {M : MM} : FB_ f M (ux_ M 219 6 v) := ⟨fun j hj => ux_g _ _ _ (fun y => by rw [y] at hj; simp at hj), fun i hi => ux_i _ _ _ hi, fun j i _ _ _ => ux_c _ _ _ _ (by omega), fun j i _ _ _ => ux_c _ _ _ _ (by omega), fun i _ => ux_c _ _ _ _ (by omega)⟩
theorem FB_CB {f : Int} {M0 M M' : MM} (h : FB_ f M M') (hC : CB M0 M) : CB M0 M' := ⟨fun k hk => by rw [h.1 k (by simp; omega)]; exact hC.1 k hk, fun i a b d => by rw [h.2.1 i b]; exact hC.2 i a b d⟩
theorem FB_E {f tp : Int} {M M' : MM} (h : FB_ f M M') : EWc tp (f - 1) M M' := ⟨fun k hk => h.1 k (by simp; omega), fun i _ b => h.2.1 i b, fun i _ => ⟨by rw [h.1 220 (by decide)], by rw [h.1 221 (by decide)]⟩, fun k i a b d => by
    by_cases e : k ≤ 225
    · exact h.2.2.1 k i a e (by omega)
    · rw [h.1 k (by simp; omega)], fun k i a b d => h.2.2.2.1 k i a b (Or.inl (by omega)), fun i hi => h.2.2.2.2 i (by omega)⟩
/-- stamps and what was seen stand as they stood -/
theorem SI_w {B : Int} {M M' : MM} (h : SI B M) (h1 : M' 230 = M 230) (h2 : M' 231 = M 231) (h3 : M' 219 3 = M 219 3) (h4 : ∀ f, 0 ≤ f → f < 11 → 0 ≤ M 223 f → 0 ≤ M' 223 f) : SI B M' := fun f f0 f1 => by rw [h1, h2, h3]; exact ⟨(h f f0 f1).1, (h f f0 f1).2.1, (h f f0 f1).2.2.1, h4 f f0 f1 (h f f0 f1).2.2.2⟩
theorem c_bs {Q : Int → MM → Prop} {c pc : Nat} {M0 R0 M : MM} {p B : Int} {P : CD} {a b e fo o tp so v : Int} (hE : EnvQ c pc M0 R0 p B) (hC : CB M0 M) (hc : cAg P M0 c a b) (a0 : 0 ≤ a) (b5 : b ≤ M0 c 5) (e0 : a ≤ e) (e1 : e < b) (hf : P 2 e = fo) (f0 : 0 ≤ fo) (f1 : fo < 11) (o0 : 27 ≤ o) (h30 : 30 ≤ o → M 219 6 = tp + 1 ∧ M 220 tp = so ∧ M 221 tp = v ∧ 0 ≤ tp ∧ tp < 121 ∧ (so = 2 → 0 ≤ v ∧ v < 400))
    (h : ∀ M7, M7 = ux_ (ux_ (ux_ M 222 fo o) 224 fo 0) 225 fo (M0 pc 0) → (o ≤ 28 → w_X4_beginSet_b49 Q o e fo M7) ∧ (o = 29 → Q 0 M7) ∧ (30 ≤ o → ∀ M14, M14 = ux_ (ux_ M7 219 6 tp) 225 fo 0 → (so ≠ 2 → Q 0 M14) ∧ (so = 2 → w_X4_beginFrom (fun _ M22 => Q 0 M22) o fo v M14))) : w_X4_beginSet Q o e M := by
  obtain ⟨⟨_, u1, u2, rfl⟩, u4⟩ := c_at hE hC hc (e := e) e0 e1
  obtain ⟨q1, q2, q3⟩ := q_pic hE hC
  have b50 := hE.2.2.2.2.1
  unfold w_X4_beginSet
  refine ⟨_, u1, u2, by omega, by omega, fun v2 e2 _ => ?_⟩
  rw [u4 2 (by omega) (by omega), hf] at e2
  rw [e2]
  refine ⟨f0, f1, fun M3 e3 => ⟨f0, f1, fun M4 e4 => ⟨pc, by rw [e4, ux_c _ _ _ _ (by decide), e3, ux_c _ _ _ _ (by decide)]; exact q1, q2, fun v6 e6 _ => ⟨f0, f1, fun M7 e7 => ?_⟩⟩⟩⟩
  have pp : pc < 219 := by unfold isP at q2; omega
  rw [e4, ux_c _ _ _ _ (by omega), e3, ux_c _ _ _ _ (by omega), show M pc = M0 pc from q3 0 (by omega)] at e6
  obtain ⟨h1, h2, h3⟩ := h M7 (by rw [e7, e6, e4, e3])
  refine ⟨fun z => h1 (by omega), fun z => ⟨fun z2 => ⟨fun z3 => h2 z3, fun z3 v11 e11 _ => ?_⟩, fun z2 => h1 (by omega)⟩⟩
  obtain ⟨g1, g2, g3, g4, g5, g6⟩ := h30 (by omega)
  rw [e7, ux_c _ _ _ _ (by decide), e4, ux_c _ _ _ _ (by decide), e3, ux_c _ _ _ _ (by decide), g1] at e11
  refine ⟨by unfold ri_; omega, fun M13 e13 => ⟨f0, f1, fun M14 e14 => ?_⟩⟩
  rw [show max 0 (v11 - 1) = tp from by omega] at e13
  obtain ⟨k1, k2⟩ := h3 (by omega) M14 (by rw [e14, e13])
  have t6 : M14 219 6 = tp := by rw [e14, ux_c _ _ _ _ (by decide), e13, ux_s]
  have t20 : M14 220 = M 220 := by rw [e14, ux_g _ _ _ (by decide), e13, ux_g _ _ _ (by decide), e7, ux_g _ _ _ (by decide), e4, ux_g _ _ _ (by decide), e3, ux_g _ _ _ (by decide)]
  have t21 : M14 221 = M 221 := by rw [e14, ux_g _ _ _ (by decide), e13, ux_g _ _ _ (by decide), e7, ux_g _ _ _ (by decide), e4, ux_g _ _ _ (by decide), e3, ux_g _ _ _ (by decide)]
  intro v15 e15 _
  rw [t6] at e15
  rw [e15]
  refine ⟨g4, g5, fun v16 e16 _ => ?_⟩
  rw [t20, g2] at e16
  rw [e16]
  refine ⟨k1, fun z v18 e18 _ => ?_⟩
  rw [t6] at e18
  rw [e18]
  refine ⟨g4, g5, fun v19 e19 _ => ?_⟩
  rw [t21, g3] at e19
  rw [e19]
  exact ⟨by have := g6 z; unfold ri_; omega, k2 z⟩
