/-! collect, on both sides -/
theorem ltne {i o : Int} (h : i < o + 1) (e : i ≠ o) : i < o := by omega
def nf (C : MM) (W : List Int) : Nat → Int
  | 0 => 0
  | n + 1 => nf C W n + (if (n : Int) ∈ W then ln C n else 0)
def cw (W : List Int) : Nat → Int
  | 0 => 0
  | n + 1 => cw W n + (if (n : Int) ∈ W then 1 else 0)
theorem cw_cong {W V : List Int} (n : Nat) (h : ∀ i : Int, 0 ≤ i → i < n → (i ∈ W ↔ i ∈ V)) : cw W n = cw V n := by
  induction n with
  | zero => rfl
  | succ n ih =>
    show cw W n + (if (n : Int) ∈ W then 1 else 0) = cw V n + (if (n : Int) ∈ V then 1 else 0)
    rw [ih fun i a b => h i a (by omega)]
    by_cases z : (n : Int) ∈ W
    · rw [if_pos z, if_pos ((h n (by omega) (by omega)).mp z)]
    · rw [if_neg z, if_neg fun q => z ((h n (by omega) (by omega)).mpr q)]
theorem cw_len (n : Nat) : ∀ W : List Int, W.Nodup → (∀ o ∈ W, 0 ≤ o ∧ o < (n : Int)) → cw W n = W.length := by
  induction n with
  | zero =>
    intro W _ h
    cases W with
    | nil => rfl
    | cons a l => have := h a (List.mem_cons_self ..); omega
  | succ n ih =>
    intro W hd h
    show cw W n + (if (n : Int) ∈ W then 1 else 0) = _
    by_cases z : (n : Int) ∈ W
    · have h1 := ih (W.erase (n : Int)) (hd.erase _) (fun o ho => by
        have := (hd.mem_erase_iff).mp ho
        have := h o this.2
        omega)
      rw [List.length_erase_of_mem z] at h1
      have h2 : cw W n = cw (W.erase (n : Int)) n := cw_cong n fun i a b => by
        rw [hd.mem_erase_iff]
        exact ⟨fun q => ⟨by omega, q⟩, fun q => q.2⟩
      have := List.length_pos_of_mem z
      rw [if_pos z, h2, h1]; omega
    · rw [if_neg z, ih W hd (fun o ho => by
        have q := h o ho
        have : o ≠ n := fun e => z (by rw [← e]; exact ho)
        omega)]
      omega
theorem nf_le {C : MM} {W : List Int} {n : Nat} (h : ∀ o : Int, 0 ≤ o → o < n → C 27 o ≠ -1 → 0 ≤ ln C o) (hW : ∀ o ∈ W, C 27 o ≠ -1) (k : Nat) (hk : k ≤ n) : nf C W k ≤ sm C k := by
  induction k with
  | zero => exact Int.le_refl _
  | succ k ih =>
    have := ih (by omega)
    show nf C W k + (if (k : Int) ∈ W then ln C k else 0) ≤ sm C k + (if C 27 k = -1 then 0 else ln C k)
    by_cases z : (k : Int) ∈ W
    · rw [if_pos z, if_neg (hW _ z)]; omega
    · rw [if_neg z]
      by_cases z2 : C 27 k = -1
      · rw [if_pos z2]; omega
      · rw [if_neg z2]; have := h k (by omega) (by omega) z2; omega
theorem nf_mono {C : MM} {W : List Int} {n : Nat} (h : ∀ o : Int, 0 ≤ o → o < n → C 27 o ≠ -1 → 0 ≤ ln C o) (hW : ∀ o ∈ W, C 27 o ≠ -1) (i j : Nat) (hi : i ≤ j) (hj : j ≤ n) : nf C W i ≤ nf C W j := by
  induction j with
  | zero => rw [show i = 0 from by omega]; omega
  | succ j ih =>
    by_cases e : i = j + 1
    · rw [e]; omega
    · have := ih (by omega) (by omega)
      show _ ≤ nf C W j + (if (j : Int) ∈ W then ln C j else 0)
      by_cases z : (j : Int) ∈ W
      · rw [if_pos z]; have := h j (by omega) (by omega) (hW _ z); omega
      · rw [if_neg z]; omega
def mvd (M : MM) (f t n : Int) : MM := fun c i => if (c = 30 ∨ c = 31) ∧ t ≤ i ∧ i < t + n then M c (i - t + f) else M c i
theorem p_moveSlots {Q : Int → MM → Prop} {f t n : Int} {M : MM} (t0 : 0 ≤ t) (tf : t ≤ f) (n0 : 0 ≤ n) (fn : f + n ≤ 4000) (h : Q 0 (mvd M f t n)) : w_X2_moveSlots Q f t n M := by
  unfold w_X2_moveSlots
  refine loop5 _ (fun a b c k M1 => f = a ∧ t = b ∧ n = c ∧ 0 ≤ k ∧ k ≤ n ∧ mvd M f t k = M1) (fun _ _ _ k _ => (n - k).toNat) ?_ _ _ _ _ _ ⟨rfl, rfl, rfl, by omega, n0, ?_⟩
  · rintro _ _ _ k _ g ⟨rfl, rfl, rfl, k0, k1, rfl⟩ ih
    unfold wb_X2_moveSlots_b3
    refine ⟨fun z => by rw [show k = n from by omega]; exact h, fun z => ⟨by unfold ri_; omega, by unfold ri_; omega, by omega, by omega, fun v4 e4 _ => ⟨by omega, by omega, fun M5 e5 => ⟨by unfold ri_; omega, by unfold ri_; omega, by omega, by omega, fun v8 e8 _ => ⟨by omega, by omega, fun M9 e9 => ⟨by unfold ri_; omega, ih _ _ _ _ _ ⟨rfl, rfl, rfl, by omega, by omega, ?_⟩ (by omega)⟩⟩⟩⟩⟩⟩
    have r4 : v4 = M 30 (f + k) := by rw [e4]; unfold mvd; rw [if_neg (by omega)]
    have r8 : v8 = M 31 (f + k) := by rw [e8, e5, ux_c _ _ _ _ (by decide)]; unfold mvd; rw [if_neg (by omega)]
    rw [e9, e5, r4, r8]
    funext c i
    unfold ux_ mvd
    by_cases c1 : c = 31
    · subst c1
      by_cases z2 : i = t + k
      · subst z2; rw [if_pos (by omega), if_pos ⟨rfl, rfl⟩, show t + k - t + f = f + k from by omega]
      · rw [if_neg (c := 31 = 31 ∧ i = t + k) (by omega), if_neg (c := 31 = 30 ∧ i = t + k) (by omega)]
        by_cases z3 : t ≤ i ∧ i < t + k
        · rw [if_pos (by omega), if_pos (by omega)]
        · rw [if_neg (by omega), if_neg (by omega)]
    · by_cases c2 : c = 30
      · subst c2
        rw [if_neg (c := 30 = 31 ∧ i = t + k) (by omega)]
        by_cases z2 : i = t + k
        · subst z2; rw [if_pos (by omega), if_pos ⟨rfl, rfl⟩, show t + k - t + f = f + k from by omega]
        · rw [if_neg (c := 30 = 30 ∧ i = t + k) (by omega)]
          by_cases z3 : t ≤ i ∧ i < t + k
          · rw [if_pos (by omega), if_pos (by omega)]
          · rw [if_neg (by omega), if_neg (by omega)]
      · rw [if_neg (by omega), if_neg (by omega), if_neg (by omega), if_neg (by omega)]
  · funext c i
    unfold mvd
    rw [if_neg (by omega)]
/-- in the midst of the moves -/
def cI (C : MM) (W : List Int) (M : MM) (o : Int) : Prop := (∀ k, k ∉ [27, 29, 30, 31, 34, 35] → M k = C k) ∧ (∀ i, 0 ≤ i → i < C 26 1 → M 35 i = ix W i) ∧ (∀ i, M 27 i = if 0 ≤ i ∧ i < o ∧ i ∉ W then -1 else C 27 i) ∧ (∀ i, M 29 i = if 0 ≤ i ∧ i < o ∧ i ∈ W then nf C W i.toNat else C 29 i) ∧ (∀ i k, i ∈ W → i < o → 0 ≤ k → k < ln C i → M 30 (nf C W i.toNat + k) = C 30 (C 29 i + k) ∧ M 31 (nf C W i.toNat + k) = C 31 (C 29 i + k)) ∧ (∀ i k, hOk C i → o ≤ i → 0 ≤ k → k < ln C i → M 30 (C 29 i + k) = C 30 (C 29 i + k) ∧ M 31 (C 29 i + k) = C 31 (C 29 i + k))
set_option maxHeartbeats 800000 in
theorem p_drop46 {Q : Int → MM → Prop} {C R R0 M : MM} {W : List Int} {x1 x2 : Int} (hY : Rty C R0) (hH : Rhp C R) (hW : ∀ o ∈ W, hOk C o) (h : WC C M W) (hq : ∀ M', cI C W M' (C 26 1) → Q x2 (ux_ (ux_ M' 26 3 (nf C W (C 26 1).toNat)) 26 2 x1)) : w_X2_dropUnreached_b54 Q x1 x2 0 0 M := by
  have n0 := hH.2.1
  have n4 := hH.2.2.1
  have h16 := hY.2.2.1
  have hnn : ∀ o : Int, 0 ≤ o → o < ((C 26 1).toNat : Nat) → C 27 o ≠ -1 → 0 ≤ ln C o := fun o a b c => (hp_at hY hH ⟨a, by omega, c⟩).1
  have hWn : ∀ o ∈ W, C 27 o ≠ -1 := fun o ho => (hW o ho).2.2
  have hsm : ∀ o, hOk C o → C 29 o = sm C o.toNat := fun o ho => ((hH.2.2.2.2.2.2.2.2.2.1 o ho.1 ho.2.1).2 ho.2.2).2.2.2.2.2.2.1
  refine loop5 _ (fun a b y o M1 => x1 = a ∧ x2 = b ∧ 0 ≤ o ∧ o ≤ C 26 1 ∧ y = nf C W o.toNat ∧ cI C W M1 o) (fun _ _ _ o _ => (C 26 1 - o).toNat) ?_ _ _ _ _ _ ⟨rfl, rfl, by omega, n0, rfl, ?_⟩
  · rintro _ _ y o M1 f ⟨rfl, rfl, o0, o1, rfl, hI⟩ ih
    obtain ⟨i1, i2, i3, i4, i5, i6⟩ := hI
    unfold wb_X2_dropUnreached_b54
    intro v1 e1 _
    rw [i1 26 (by decide)] at e1
    subst e1
    refine ⟨fun z M3 e3 M4 e4 => ?_, fun z => ⟨o0, by omega, fun v5 e5 _ => ?_⟩⟩
    · have : o = C 26 1 := by omega
      subst this
      rw [e4, e3]
      exact hq M1 ⟨i1, i2, i3, i4, i5, i6⟩
    · rw [i3, if_neg (by omega)] at e5
      subst e5
      have tn : (o + 1).toNat = o.toNat + 1 := by omega
      have oN : ((o.toNat : Nat) : Int) = o := by omega
      have nfs : nf C W (o.toNat + 1) = nf C W o.toNat + (if o ∈ W then ln C o else 0) := by
        show nf C W o.toNat + (if ((o.toNat : Nat) : Int) ∈ W then ln C ((o.toNat : Nat) : Int) else 0) = _
        rw [oN]
      have out : o ∉ W → ∀ M2, (∀ k, k ≠ 27 → M2 k = M1 k) → (∀ i, M2 27 i = if i = o then -1 else M1 27 i) → w_X2_dropUnreached_b134 Q f x1 x2 (nf C W o.toNat) o M2 := by
        intro ho M2 m1 m2
        unfold w_X2_dropUnreached_b134
        refine ⟨by unfold ri_; omega, ih _ _ _ _ _ ⟨rfl, rfl, by omega, by omega, by rw [tn, nfs, if_neg ho]; omega, ?_⟩ (by omega)⟩
        refine ⟨fun k hk => by rw [m1 k (fun q => hk (by rw [q]; decide)), i1 k hk], fun i a b => by rw [m1 35 (by decide)]; exact i2 i a b, fun i => ?_, fun i => ?_, fun i k a b c d => ?_, fun i k a b c d => ?_⟩
        · rw [m2, i3]
          by_cases q : i = o
          · rw [if_pos q, if_pos (by rw [q]; exact ⟨o0, by omega, ho⟩)]
          · rw [if_neg q]
            by_cases q2 : 0 ≤ i ∧ i < o ∧ i ∉ W
            · rw [if_pos q2, if_pos ⟨q2.1, by omega, q2.2.2⟩]
            · rw [if_neg q2, if_neg (fun q3 => q2 ⟨q3.1, by omega, q3.2.2⟩)]
        · rw [m1 29 (by decide), i4]
          by_cases q2 : 0 ≤ i ∧ i < o ∧ i ∈ W
          · rw [if_pos q2, if_pos ⟨q2.1, by omega, q2.2.2⟩]
          · rw [if_neg q2, if_neg (fun q3 => q2 ⟨q3.1, ltne q3.2.1 (fun e => ho (by rw [← e]; exact q3.2.2)), q3.2.2⟩)]
        · rw [m1 30 (by decide), m1 31 (by decide)]
          have : i ≠ o := fun e => ho (by rw [← e]; exact a)
          exact i5 i k a (by omega) c d
        · rw [m1 30 (by decide), m1 31 (by decide)]; exact i6 i k a (by omega) c d
      refine ⟨fun z5 => ?_, fun z5 => ?_⟩
      · have ho : hOk C o := ⟨o0, by omega, z5⟩
        have hat := hp_at hY hH ho
        unfold w_X2_slotsOf
        refine ⟨o0, by omega, fun v1 e1 _ => ⟨o0, by omega, fun v2 e2 _ => ?_⟩⟩
        rw [i3, if_neg (by omega)] at e1
        rw [i1 28 (by decide)] at e2
        subst e1 e2
        refine p_so (by rw [i1 8 (by decide)]; exact h16) (by rw [i1 8 (by decide)]; exact (ob_ty hH ho).1) fun _ _ => ?_
        rw [so_eq (i1 16 (by decide)), show so C (C 27 o) (C 28 o) = ln C o from rfl]
        refine ⟨o0, by omega, fun v9 e9 _ => ?_⟩
        rw [i2 o o0 (by omega)] at e9
        refine ⟨fun z9 => ⟨o0, by omega, fun v11 e11 _ => ?_⟩, fun z9 => ⟨o0, by omega, fun M16 e16 => ?_⟩⟩
        · have hin : o ∈ W := by
            by_cases q : o ∈ W
            · exact q
            · exact absurd (e9.trans (ix_out q)) z9
          rw [i4, if_neg (by omega)] at e11
          subst e11
          have hle := nf_le hnn hWn o.toNat (by omega)
          have hge := nf_mono hnn hWn 0 o.toNat (by omega) (by omega)
          have hz : nf C W 0 = 0 := rfl
          rw [← hsm o ho] at hle
          refine p_moveSlots (by omega) hle hat.1 (by omega) ⟨o0, by omega, fun M14 e14 => ⟨by unfold ri_; omega, ?_⟩⟩
          unfold w_X2_dropUnreached_b134
          refine ⟨by unfold ri_; omega, ih _ _ _ _ _ ⟨rfl, rfl, by omega, by omega, by rw [tn, nfs, if_pos hin], ?_⟩ (by omega)⟩
          have mk : ∀ k, k ∉ [27, 29, 30, 31, 34, 35] → M14 k = C k := by
            intro k hk
            simp at hk
            funext i
            rw [e14, ux_c _ _ _ _ (by omega)]
            unfold mvd
            rw [if_neg (by omega), i1 k (by simp; omega)]
          have m27 : ∀ i, M14 27 i = M1 27 i := fun i => by rw [e14, ux_c _ _ _ _ (by decide)]; unfold mvd; rw [if_neg (by omega)]
          have m35 : ∀ i, M14 35 i = M1 35 i := fun i => by rw [e14, ux_c _ _ _ _ (by decide)]; unfold mvd; rw [if_neg (by omega)]
          have m30 : ∀ c i, c = 30 ∨ c = 31 → M14 c i = if nf C W o.toNat ≤ i ∧ i < nf C W o.toNat + ln C o then M1 c (i - nf C W o.toNat + C 29 o) else M1 c i := by
            intro c i hc
            rw [e14, ux_c _ _ _ _ (by omega)]
            unfold mvd
            by_cases q : nf C W o.toNat ≤ i ∧ i < nf C W o.toNat + ln C o
            · rw [if_pos ⟨hc, q⟩, if_pos q]
            · rw [if_neg (fun q2 => q q2.2), if_neg q]
          refine ⟨mk, fun i a b => by rw [m35]; exact i2 i a b, fun i => ?_, fun i => ?_, fun i k a b c d => ?_, fun i k a b c d => ?_⟩
          · rw [m27, i3]
            by_cases q2 : 0 ≤ i ∧ i < o ∧ i ∉ W
            · rw [if_pos q2, if_pos ⟨q2.1, by omega, q2.2.2⟩]
            · rw [if_neg q2, if_neg (fun q3 => q2 ⟨q3.1, ltne q3.2.1 (fun e => q3.2.2 (by rw [e]; exact hin)), q3.2.2⟩)]
          · rw [e14]
            by_cases q : i = o
            · subst q; rw [ux_s, if_pos ⟨o0, by omega, hin⟩]
            · rw [ux_i _ _ _ q]
              unfold mvd
              rw [if_neg (by omega), i4]
              by_cases q2 : 0 ≤ i ∧ i < o ∧ i ∈ W
              · rw [if_pos q2, if_pos ⟨q2.1, by omega, q2.2.2⟩]
              · rw [if_neg q2, if_neg (fun q3 => q2 ⟨q3.1, by omega, q3.2.2⟩)]
          · by_cases q : i = o
            · subst q
              rw [m30 30 _ (Or.inl rfl), m30 31 _ (Or.inr rfl), if_pos (by omega), if_pos (by omega), show nf C W i.toNat + k - nf C W i.toNat + C 29 i = C 29 i + k from by omega]
              exact i6 i k ho (by omega) c d
            · have hi := hW i a
              have hi0 := hi.1
              have hm := nf_mono hnn hWn (i.toNat + 1) o.toNat (by omega) (by omega)
              have es : nf C W (i.toNat + 1) = nf C W i.toNat + ln C i := by
                show nf C W i.toNat + (if ((i.toNat : Nat) : Int) ∈ W then ln C ((i.toNat : Nat) : Int) else 0) = _
                rw [show ((i.toNat : Nat) : Int) = i from by omega, if_pos a]
              rw [m30 30 _ (Or.inl rfl), m30 31 _ (Or.inr rfl), if_neg (by omega), if_neg (by omega)]
              exact i5 i k a (by omega) c d
          · have hd := hp_dis hY hH ho a (by omega)
            rw [m30 30 _ (Or.inl rfl), m30 31 _ (Or.inr rfl), if_neg (by omega), if_neg (by omega)]
            exact i6 i k a (by omega) c d
        · have hno : o ∉ W := ix_m.mp (by rw [← e9]; exact z9)
          refine out hno M16 (fun k hk => funext fun i => by rw [e16, ux_c _ _ _ _ hk]) (fun i => ?_)
          rw [e16]
          by_cases q : i = o
          · rw [if_pos q, q, ux_s]
          · rw [if_neg q, ux_i _ _ _ q]
      · have hno : o ∉ W := fun q => hWn o q z5
        refine out hno M1 (fun _ _ => rfl) (fun i => ?_)
        by_cases q : i = o
        · rw [if_pos q, q, i3, if_neg (by omega)]; exact z5
        · rw [if_neg q]
  · refine ⟨fun k hk => h.1 k (fun q => hk (by rw [q]; decide)) (fun q => hk (by rw [q]; decide)), h.2.2.2, fun i => by rw [if_neg (by omega), h.1 27 (by decide) (by decide)], fun i => by rw [if_neg (by omega), h.1 29 (by decide) (by decide)], fun i k a b => by have := (hW i a).1; omega, fun i k a b c d => by rw [h.1 30 (by decide) (by decide), h.1 31 (by decide) (by decide)]; exact ⟨rfl, rfl⟩⟩
