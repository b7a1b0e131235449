/-! questions worked out: what a set gives -/
def lsG (ga : Int → Int) (i : Int) : Nat → List Int
  | 0 => []
  | n + 1 => if ga i = -1 then lsG ga (i + 1) n else ga i :: lsG ga (i + 1) n
theorem lsG_mem {ga : Int → Int} : ∀ (n : Nat) (i t : Int), t ∈ lsG ga i n → ∃ j, i ≤ j ∧ j < i + n ∧ ga j = t ∧ t ≠ -1
  | 0, i, t, h => by cases h
  | n + 1, i, t, h => by
    unfold lsG at h
    by_cases z : ga i = -1
    · rw [if_pos z] at h
      obtain ⟨j, a, b, d⟩ := lsG_mem n (i + 1) t h
      exact ⟨j, by omega, by omega, d⟩
    · rw [if_neg z] at h
      rcases List.mem_cons.mp h with h | h
      · exact ⟨i, by omega, by omega, h.symm, by rw [h]; exact z⟩
      · obtain ⟨j, a, b, d⟩ := lsG_mem n (i + 1) t h
        exact ⟨j, by omega, by omega, d⟩
theorem lsG_len {ga : Int → Int} : ∀ (n : Nat) (i : Int), (lsG ga i n).length ≤ n
  | 0, i => Nat.le_refl _
  | n + 1, i => by
    have := lsG_len (ga := ga) n (i + 1)
    unfold lsG
    split
    · omega
    · simp; omega
theorem lsG_s {ga : Int → Int} : ∀ (n : Nat) (i : Int), lsG ga i (n + 1) = lsG ga i n ++ (if ga (i + n) = -1 then [] else [ga (i + n)])
  | 0, i => by
    show (if ga i = -1 then [] else [ga i]) = [] ++ (if ga (i + 0) = -1 then [] else [ga (i + 0)])
    rw [Int.add_zero]; rfl
  | n + 1, i => by
    have ih := lsG_s (ga := ga) n (i + 1)
    rw [show i + 1 + (n : Int) = i + ((n + 1 : Nat) : Int) from by omega] at ih
    show (if ga i = -1 then lsG ga (i + 1) (n + 1) else ga i :: lsG ga (i + 1) (n + 1)) = (if ga i = -1 then lsG ga (i + 1) n else ga i :: lsG ga (i + 1) n) ++ _
    rw [ih]
    by_cases z : ga i = -1
    · rw [if_pos z, if_pos z]
    · rw [if_neg z, if_neg z]; rfl
theorem lsG_eq {ga gb : Int → Int} : ∀ (n : Nat) (i : Int), (∀ j, i ≤ j → j < i + n → ga j = gb j) → lsG ga i n = lsG gb i n
  | 0, i, h => rfl
  | n + 1, i, h => by
    unfold lsG
    rw [h i (by omega) (by omega), lsG_eq n (i + 1) (fun j a b => h j (by omega) (by omega))]
def FN (f : Int) (M M' : MM) : Prop := (∀ k, k ∉ [223, 224, 225, 229, 230] → M' k = M k) ∧ (∀ k i, 223 ≤ k → k ≤ 225 → i ≠ f → M' k i = M k i) ∧ (∀ k i, 229 ≤ k → k ≤ 230 → (i < 400 * f ∨ 400 * f + 400 ≤ i) → M' k i = M k i) ∧ ∀ B, SI B M → SI B M'
def Sm (f : Int) (M M2 : MM) : Prop := (∀ k, 222 ≤ k → k ≤ 225 → M2 k f = M k f) ∧ (∀ k i, 229 ≤ k → k ≤ 230 → 400 * f ≤ i → i < 400 * f + 400 → M2 k i = M k i) ∧ M2 231 f = M 231 f
theorem Sm_r (f : Int) (M : MM) : Sm f M M := ⟨fun _ _ _ => rfl, fun _ _ _ _ _ _ => rfl, rfl⟩
theorem FN_CB {f : Int} {M0 M M' : MM} (h : FN f M M') (hC : CB M0 M) : CB M0 M' := ⟨fun k hk => by rw [h.1 k (by simp; omega)]; exact hC.1 k hk, fun i a b d => by rw [h.1 219 (by decide)]; exact hC.2 i a b d⟩
theorem FN_r (f : Int) (M : MM) : FN f M M := ⟨fun _ _ => rfl, fun _ _ _ _ _ => rfl, fun _ _ _ _ _ => rfl, fun _ h => h⟩
theorem FN_t {f : Int} {M M1 M2 : MM} (h : FN f M M1) (h' : FN f M1 M2) : FN f M M2 := ⟨fun k hk => by rw [h'.1 k hk, h.1 k hk], fun k i a b d => by rw [h'.2.1 k i a b d, h.2.1 k i a b d], fun k i a b d => by rw [h'.2.2.1 k i a b d, h.2.2.1 k i a b d], fun B hB => h'.2.2.2 B (h.2.2.2 B hB)⟩
/-- a number of the frame is written -/
theorem FN_u {f : Int} {M : MM} {k : Nat} (k0 : 223 ≤ k) (k1 : k ≤ 225) (v : Int) (hv : k = 223 → 0 ≤ v) : FN f M (ux_ M k f v) := ⟨fun j hj => ux_g _ _ _ (fun y => by rw [y] at hj; simp at hj; omega), fun j i a b d => by
    by_cases e : j = k
    · rw [e, ux_i _ _ _ d]
    · rw [ux_c _ _ _ _ e], fun j i a b _ => ux_c _ _ _ _ (by omega), fun B h g g0 g1 => by
    have q := h g g0 g1
    rw [ux_g _ _ _ (show 231 ≠ k by omega), ux_g _ _ _ (show 219 ≠ k by omega), ux_g _ _ _ (show 230 ≠ k by omega)]
    refine ⟨q.1, q.2.1, q.2.2.1, ?_⟩
    by_cases e : 223 = k
    · by_cases y : g = f
      · rw [e, y, ux_s]; exact hv e.symm
      · rw [← e, ux_i _ _ _ y]; exact q.2.2.2
    · rw [ux_g _ _ _ e]; exact q.2.2.2⟩
def nxt (Q : Int → MM → Prop) (f : Int) (M : MM) : Prop := (¬ M 222 f = 32 → w_X4_nextThing Q f M) ∧ (M 222 f = 32 → w_X4_nextReached Q f M)
def Gv (M0 : MM) (f n B : Int) : List Int → MM → Prop
  | [], M => ∀ M2, CB M0 M2 → SI B M2 → Sm f M M2 → ∀ Q, (∀ M', FN f M2 M' → Q (-1) M') → nxt Q f M2
  | t :: ts, M => 0 ≤ t ∧ t < n ∧ ∀ M2, CB M0 M2 → SI B M2 → Sm f M M2 → ∀ Q, (∀ M', FN f M2 M' → Gv M0 f n B ts M' → Q t M') → nxt Q f M2
theorem Gv_Sm {M0 : MM} {f n B : Int} {L : List Int} {M M1 : MM} (h : Gv M0 f n B L M) (hs : Sm f M M1) : Gv M0 f n B L M1 := by
  have tr : ∀ M2, Sm f M1 M2 → Sm f M M2 := fun M2 h2 => ⟨fun k a b => by rw [h2.1 k a b, hs.1 k a b], fun k i a b d e => by rw [h2.2.1 k i a b d e, hs.2.1 k i a b d e], by rw [h2.2.2, hs.2.2]⟩
  cases L with
  | nil => exact fun M2 a b d => h M2 a b (tr M2 d)
  | cons t ts => exact ⟨h.1, h.2.1, fun M2 a b d => h.2.2 M2 a b (tr M2 d)⟩
/-- the frame that goes over places -/
def NS (f kd src i e : Int) (M : MM) : Prop := M 222 f = kd ∧ M 223 f = src ∧ M 224 f = i ∧ M 225 f = e
theorem NT {M0 : MM} {f kd src lo hi : Int} {ga : Int → Int} (f0 : 0 ≤ f) (f1 : f < 11) (hi0 : 0 ≤ lo) (hi1 : hi ≤ 5000)
    (hg : ∀ M2, CB M0 M2 → M2 222 f = kd → M2 223 f = src → ∀ x, lo ≤ x → x < hi → ∀ Q : Int → MM → Prop, Q (ga x) M2 → w_X4_giveAt Q f x M2) : ∀ (n : Nat) (i : Int) (M : MM), CB M0 M → NS f kd src i (i + n) M → lo ≤ i → i + n ≤ hi →
    (lsG ga i n = [] → ∀ Q : Int → MM → Prop, (∀ M', FN f M M' → Q (-1) M') → w_X4_nextThing Q f M) ∧ ∀ t ts, lsG ga i n = t :: ts → ∀ Q : Int → MM → Prop, (∀ M' (j : Int) (m : Nat), FN f M M' → NS f kd src j (j + m) M' → lsG ga j m = ts → lo ≤ j → j + m ≤ hi → m < n → Q t M') → w_X4_nextThing Q f M := by
  intro n
  induction n with
  | zero =>
    intro i M hC hN l0 l1
    obtain ⟨n1, n2, n3, n4⟩ := hN
    refine ⟨fun _ Q hq => ?_, fun t ts h => by unfold lsG at h; cases h⟩
    unfold w_X4_nextThing w_X4_nextThing_b0
    refine ⟨1, ?_⟩
    show wb_X4_nextThing_b0 Q _ f M
    unfold wb_X4_nextThing_b0
    exact ⟨f0, f1, fun v1 e1 _ => ⟨f0, f1, fun v2 e2 _ => ⟨fun _ => hq M (FN_r f M), fun z => by omega⟩⟩⟩
  | succ n ih =>
    intro i M hC hN l0 l1
    obtain ⟨n1, n2, n3, n4⟩ := id hN
    obtain ⟨M7, e7⟩ : ∃ M7, M7 = ux_ M 224 f (i + 1) := ⟨_, rfl⟩
    have hF7 : FN f M M7 := by rw [e7]; exact FN_u (by omega) (by omega) _ (fun y => absurd y (by decide))
    have hC7 := FN_CB hF7 hC
    have hN7 : NS f kd src (i + 1) (i + 1 + n) M7 := ⟨by rw [e7, ux_c _ _ _ _ (by decide)]; exact n1, by rw [e7, ux_c _ _ _ _ (by decide)]; exact n2, by rw [e7, ux_s], by rw [e7, ux_c _ _ _ _ (by decide), n4]; omega⟩
    obtain ⟨ih1, ih2⟩ := ih (i + 1) M7 hC7 hN7 (by omega) (by omega)
    have go : ∀ Q : Int → MM → Prop, (ga i = -1 → w_X4_nextThing Q f M7) → (ga i ≠ -1 → Q (ga i) M7) → w_X4_nextThing Q f M := fun Q h1 h2 => by
      unfold w_X4_nextThing w_X4_nextThing_b0
      have body : ∀ g : Int → MM → Prop, (ga i = -1 → g f M7) → wb_X4_nextThing_b0 Q g f M := fun g hgg => by
        unfold wb_X4_nextThing_b0
        refine ⟨f0, f1, fun v1 e1 _ => ⟨f0, f1, fun v2 e2 _ => ⟨fun z => by omega, fun _ => ⟨f0, f1, fun v4 e4 _ => ⟨f0, f1, fun v5 e5 _ => ⟨by unfold ri_; omega, f0, f1, fun M7' e7' => ?_⟩⟩⟩⟩⟩⟩
        have : M7' = M7 := by rw [e7', e7, show v5 = i from by omega]
        rw [this, show v4 = i from by omega]
        exact hg M7 hC7 hN7.1 hN7.2.1 i l0 (by omega) _ (fun _ => ⟨fun z => hgg z, fun z => h2 z⟩)
      by_cases z : ga i = -1
      · have := h1 z
        unfold w_X4_nextThing w_X4_nextThing_b0 at this
        obtain ⟨m, hm⟩ := this
        exact ⟨m + 1, body _ (fun _ => hm)⟩
      · exact ⟨1, body _ (fun q => absurd q z)⟩
    refine ⟨fun hl Q hq => go Q (fun z => ?_) (fun z => ?_), fun t ts hl Q hq => go Q (fun z => ?_) (fun z => ?_)⟩
    · unfold lsG at hl
      rw [if_pos z] at hl
      exact ih1 hl Q (fun M' h => hq M' (FN_t hF7 h))
    · unfold lsG at hl
      rw [if_neg z] at hl
      cases hl
    · unfold lsG at hl
      rw [if_pos z] at hl
      exact ih2 t ts hl Q (fun M' j m h a b d e g => hq M' j m (FN_t hF7 h) a b d e (by omega))
    · unfold lsG at hl
      rw [if_neg z] at hl
      injection hl with h1 h2
      rw [h1]
      exact hq M7 (i + 1) n hF7 hN7 h2 (by omega) (by omega) (by omega)
theorem Gv_N {M0 : MM} {f kd src lo hi nn B : Int} {ga : Int → Int} (f0 : 0 ≤ f) (f1 : f < 11) (hi0 : 0 ≤ lo) (hi1 : hi ≤ 5000) (k32 : kd ≠ 32) (hv : ∀ x, lo ≤ x → x < hi → ga x = -1 ∨ (0 ≤ ga x ∧ ga x < nn))
    (hg : ∀ M2, CB M0 M2 → M2 222 f = kd → M2 223 f = src → ∀ x, lo ≤ x → x < hi → ∀ Q : Int → MM → Prop, Q (ga x) M2 → w_X4_giveAt Q f x M2) : ∀ (n : Nat) (i : Int) (M : MM), NS f kd src i (i + n) M → lo ≤ i → i + n ≤ hi → Gv M0 f nn B (lsG ga i n) M := by
  intro n
  induction n using Nat.strongRecOn with
  | ind n ih =>
  intro i M hN l0 l1
  have tr : ∀ M2, Sm f M M2 → NS f kd src i (i + n) M2 := fun M2 h => ⟨by rw [h.1 222 (by omega) (by omega)]; exact hN.1, by rw [h.1 223 (by omega) (by omega)]; exact hN.2.1, by rw [h.1 224 (by omega) (by omega)]; exact hN.2.2.1, by rw [h.1 225 (by omega) (by omega)]; exact hN.2.2.2⟩
  cases hL : lsG ga i n with
  | nil =>
    intro M2 hC2 _ hS Q hq
    have h2 := tr M2 hS
    exact ⟨fun _ => (NT f0 f1 hi0 hi1 hg n i M2 hC2 h2 l0 l1).1 hL Q hq, fun z => absurd (by rw [← h2.1]; exact z) k32⟩
  | cons t ts =>
    obtain ⟨j, j0, j1, j2, j3⟩ := lsG_mem n i t (by rw [hL]; exact List.mem_cons_self)
    have hvj := hv j (by omega) (by omega)
    refine ⟨by omega, by omega, fun M2 hC2 _ hS Q hq => ?_⟩
    have h2 := tr M2 hS
    refine ⟨fun _ => (NT f0 f1 hi0 hi1 hg n i M2 hC2 h2 l0 l1).2 t ts hL Q (fun M' j m hF hN' hl a b d => hq M' hF ?_), fun z => absurd (by rw [← h2.1]; exact z) k32⟩
    rw [← hl]
    exact ih m d j M' hN' a b
