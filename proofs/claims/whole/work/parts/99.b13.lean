/-! dominators, in the reference -/
noncomputable def dV (C : MM) (c : Nat) (d : Int) : List Int := vis C c (fun x => x ≠ d) (beg C c (fun x => x ≠ d) (-1))
theorem sB_0 (A : MM) (p d : Int) : sB A p d 0 = fun x => x ≠ d := by
  funext x
  unfold sB
  exact propext ⟨fun q => q.1, fun q => ⟨q, Or.inl rfl⟩⟩
def ctV (V : List Int) : Nat → Int
  | 0 => 0
  | n + 1 => ctV V n + (if (n : Int) ∈ V then 0 else 1)
def szV (C : MM) (c : Nat) (V : List Int) : Nat → Int
  | 0 => 0
  | n + 1 => szV C c V n + (if (n : Int) ∈ V then 0 else sz C (C (c + 2) n) (C (c + 3) n))
theorem ctV_bd (V : List Int) (n : Nat) : 0 ≤ ctV V n ∧ ctV V n ≤ n := by
  induction n with
  | zero => exact ⟨Int.le_refl _, Int.le_refl _⟩
  | succ n ih =>
    show 0 ≤ ctV V n + (if (n : Int) ∈ V then 0 else 1) ∧ ctV V n + (if (n : Int) ∈ V then 0 else 1) ≤ _
    by_cases z : (n : Int) ∈ V
    · rw [if_pos z]; omega
    · rw [if_neg z]; omega
theorem szV_bd {C R0 : MM} {c : Nat} (hY : Rty C R0) (hw : PW C c) (V : List Int) (n : Nat) (hn : (n : Int) ≤ C c 0) : 0 ≤ szV C c V n ∧ szV C c V n ≤ 8000 * n := by
  induction n with
  | zero => exact ⟨Int.le_refl _, Int.le_refl _⟩
  | succ n ih =>
    have := ih (by omega)
    obtain ⟨-, -, a3, -, a5, a6, -⟩ := hw.2.2.2.1 n (by omega) (by omega)
    have hs := sz_bd hY a3 a5 a6
    show 0 ≤ szV C c V n + (if (n : Int) ∈ V then 0 else sz C (C (c + 2) n) (C (c + 3) n)) ∧ szV C c V n + (if (n : Int) ∈ V then 0 else sz C (C (c + 2) n) (C (c + 3) n)) ≤ _
    by_cases z : (n : Int) ∈ V
    · rw [if_pos z]; omega
    · rw [if_neg z]; omega
theorem p_sizeIn {Q : Int → MM → Prop} {C M : MM} {c : Nat} {p t : Int} (hY : Rty C M) (hw : PW C c) (hb : Rpb C M c p) (p0 : 0 ≤ p) (p5 : p < 5) (t0 : 0 ≤ t) (t1 : t < C c 0) (h : Q (sz C (C (c + 2) t) (C (c + 3) t)) M) : w_X12_sizeIn Q p t M := by
  have n4 := hw.2.1
  obtain ⟨b1, b2, b3, b4⟩ := hb.2.1 t t0 t1
  obtain ⟨-, -, a3, -, a5, a6, -⟩ := hw.2.2.2.1 t t0 t1
  unfold w_X12_sizeIn
  refine p_at p0 p5 t0 (by omega) fun _ => ⟨by omega, by omega, fun v3 e3 _ => p_at p0 p5 t0 (by omega) fun _ => ⟨by omega, by omega, fun v6 e6 _ => ?_⟩⟩
  rw [← b2] at e3
  rw [← b3] at e6
  subst e3 e6
  exact p_R_size hY a3 a5 a6 fun _ => h
/-- the nearest of the dominators d < D of t, as the reference finds it -/
noncomputable def dC_ (C : MM) (c : Nat) (d : Int) : Int := ctV (dV C c d) (C c 0).toNat
def nD (C : MM) (c : Nat) (D t m : Int) : Prop := (m = -1 ∧ ∀ d, 0 ≤ d → d < D → d ≠ t → t ∈ dV C c d) ∨ (0 ≤ m ∧ m < D ∧ m ≠ t ∧ t ∉ dV C c m ∧ ∀ d, 0 ≤ d → d < D → d ≠ t → t ∉ dV C c d → dC_ C c m < dC_ C c d ∨ (dC_ C c m = dC_ C c d ∧ m ≤ d))
def dTab (C M : MM) (c : Nat) (p D : Int) : Prop := (∀ d, 0 ≤ d → d < D → M 48 (400 * p + d) = dC_ C c d ∧ M 47 (400 * p + d) = szV C c (dV C c d) (C c 0).toNat) ∧ ∀ t, 0 ≤ t → t < C c 0 → nD C c D t (M 46 (400 * p + t))
/-- only these rows of the picture, and what is scratch, have changed -/
def dF (A M : MM) (p : Int) : Prop := (∀ k, k ∉ [0, 46, 47, 48, 60, 62] → M k = A k) ∧ (∀ i, i ≠ 73 → M 0 i = A 0 i) ∧ ∀ k i, (k = 46 ∨ k = 47 ∨ k = 48) → ¬ (400 * p ≤ i ∧ i < 400 * p + 400) → M k i = A k i
theorem dF_Y {C A M : MM} {p : Int} (hY : Rty C A) (h : dF A M p) : Rty C M := Rty_R hY (fun k a b _ => h.1 k (by simp; omega)) (h.2.1 20 (by decide))
theorem dF_b {C A M : MM} {c : Nat} {p : Int} (hb : Rpb C A c p) (h : dF A M p) : Rpb C M c p := Rpb_M hb (fun k hk => h.1 k (by intro q; simp at q hk; omega))
theorem dF_V {A M M' : MM} {p n : Int} {L : List Int} (h : dF A M p) (hv : VR M M' n L) : dF A M' p := by
  refine ⟨fun k hk => ?_, fun i hi => by rw [hv.2.1 i hi, h.2.1 i hi], fun k i hk hi => ?_⟩
  · simp at hk
    rw [hv.1 k (by simp; omega), h.1 k (by simp; omega)]
  · rw [hv.1 k (by simp; omega)]; exact h.2.2 k i hk hi
theorem dF_u {A M : MM} {p : Int} (h : dF A M p) {k : Nat} {i v : Int} (hk : k = 46 ∨ k = 47 ∨ k = 48) (i0 : 400 * p ≤ i) (i1 : i < 400 * p + 400) : dF A (ux_ M k i v) p := by
  refine ⟨fun q hq => funext fun j => ?_, fun j hj => ?_, fun q j hq hj => ?_⟩
  · simp at hq
    rw [ux_c _ _ _ _ (by omega), h.1 q (by simp; omega)]
  · rw [ux_c _ _ _ _ (by omega), h.2.1 j hj]
  · by_cases z : q = k
    · subst z
      rw [ux_i _ _ _ (by omega)]; exact h.2.2 q j hq hj
    · rw [ux_c _ _ _ _ z]; exact h.2.2 q j hq hj
set_option maxHeartbeats 1000000 in
theorem p_R_findDominators {Q : Int → MM → Prop} {C A : MM} {c : Nat} {p : Int} (hY : Rty C A) (hw : PW C c) (hb : Rpb C A c p) (p0 : 0 ≤ p) (p5 : p < 5) (hq : ∀ M, dF A M p → dTab C M c p (C c 0) → Q 0 M) : w_X12_findDominators Q p A := by
  have n0 := hw.1
  have n4 := hw.2.1
  have main : ∀ M, dF A M p → dTab C M c p 0 → w_X12_findDominators_b32 Q p 0 M := by
    intro M hF hT
    refine loop3 _ (fun (a d : Int) M1 => p = a ∧ 0 ≤ d ∧ d ≤ C c 0 ∧ dF A M1 p ∧ dTab C M1 c p d) (fun _ (d : Int) _ => (C c 0 - d).toNat) ?_ _ _ _ ⟨rfl, by omega, n0, hF, hT⟩
    rintro _ d M1 f ⟨rfl, d0, d1, hF1, hT1⟩ ih
    have hb1 := dF_b hb hF1
    unfold wb_X12_findDominators_b32
    refine ⟨p0, p5, fun v1 e1 _ => ?_⟩
    rw [← hb1.1] at e1
    subst e1
    refine ⟨fun z => hq M1 hF1 (by rw [show C c 0 = d from by omega]; exact hT1), fun z => ?_⟩
    refine p_R_reach (dF_Y hY hF1) hw hb1 p0 p5 (Or.inl rfl) (Or.inl rfl) fun M2 hv => ?_
    rw [sB_0] at hv
    have ev : vis C c (fun x => x ≠ d) (beg C c (fun x => x ≠ d) (-1)) = dV C c d := rfl
    rw [ev] at hv
    have hF2 := dF_V hF1 hv
    have t2 : dTab C M2 c p d := by
      unfold dTab at hT1 ⊢
      rw [hv.1 46 (by decide), hv.1 47 (by decide), hv.1 48 (by decide)]; exact hT1
    have m60 := hv.2.2.2.2.2
    have hY2 := dF_Y hY hF2
    have hb2 := dF_b hb hF2
    -- counts
    refine loop6 _ (fun (a b n s t : Int) M3 => p = a ∧ d = b ∧ M2 = M3 ∧ 0 ≤ t ∧ t ≤ C c 0 ∧ n = ctV (dV C c d) t.toNat ∧ s = szV C c (dV C c d) t.toNat) (fun _ _ _ _ (t : Int) _ => (C c 0 - t).toNat) ?_ _ _ _ _ _ _ ⟨rfl, rfl, rfl, by omega, n0, rfl, rfl⟩
    rintro _ _ n s t _ g ⟨rfl, rfl, rfl, t0, t1, hn, hs⟩ ih2
    have tt : ((t.toNat : Nat) : Int) = t := by omega
    have cb := ctV_bd (dV C c d) t.toNat
    have sb' := szV_bd hY hw (dV C c d) t.toNat (by omega)
    unfold wb_X12_findDominators_b58
    refine ⟨p0, p5, fun v1 e1 _ => ?_⟩
    rw [← hb2.1] at e1
    subst e1
    refine ⟨fun z2 => ?_, fun z2 => ⟨t0, by omega, fun v9 e9 _ => ?_⟩⟩
    · have et : t.toNat = (C c 0).toNat := by omega
      have en : n = dC_ C c d := by rw [hn, et]; rfl
      refine p_at p0 p5 d0 (by omega) fun _ => ⟨by omega, by omega, fun M5 e5 => p_at p0 p5 d0 (by omega) fun _ => ⟨by omega, by omega, fun M8 e8 => ?_⟩⟩
      have hF8 : dF A M8 p := by rw [e8, e5]; exact dF_u (dF_u hF2 (by omega) (by omega) (by omega)) (by omega) (by omega) (by omega)
      have x48 : ∀ i, M8 48 i = if i = 400 * p + d then n else M2 48 i := fun i => by
        rw [e8, ux_c _ _ _ _ (by decide), e5]
        by_cases y : i = 400 * p + d
        · rw [if_pos y, y, ux_s]
        · rw [if_neg y, ux_i _ _ _ y]
      have x47 : ∀ i, M8 47 i = if i = 400 * p + d then s else M2 47 i := fun i => by
        rw [e8]
        by_cases y : i = 400 * p + d
        · rw [if_pos y, y, ux_s]
        · rw [if_neg y, ux_i _ _ _ y, e5, ux_c _ _ _ _ (by decide)]
      have x46 : ∀ i, M8 46 i = M2 46 i := fun i => by rw [e8, e5, ux_c _ _ _ _ (by decide), ux_c _ _ _ _ (by decide)]
      have x60 : ∀ i, M8 60 i = M2 60 i := fun i => by rw [e8, e5, ux_c _ _ _ _ (by decide), ux_c _ _ _ _ (by decide)]
      have tab : ∀ e, 0 ≤ e → e < d + 1 → M8 48 (400 * p + e) = dC_ C c e ∧ M8 47 (400 * p + e) = szV C c (dV C c e) (C c 0).toNat := by
        intro e e0 e1
        rw [x48, x47]
        by_cases y : e = d
        · rw [if_pos (by omega), if_pos (by omega), y]; exact ⟨en, by rw [hs, et]⟩
        · rw [if_neg (by omega), if_neg (by omega)]; exact t2.1 e e0 (by omega)
      -- the dominators so far, with this one
      refine loop5 _ (fun (a b m u : Int) M9 => p = a ∧ d = b ∧ n = m ∧ 0 ≤ u ∧ u ≤ C c 0 ∧ dF A M9 p ∧ (∀ k, k ≠ 46 → M9 k = M8 k) ∧ (∀ x, 0 ≤ x → x < u → nD C c (d + 1) x (M9 46 (400 * p + x))) ∧ (∀ x, u ≤ x → x < C c 0 → M9 46 (400 * p + x) = M2 46 (400 * p + x))) (fun _ _ _ (u : Int) _ => (C c 0 - u).toNat) ?_ _ _ _ _ _ ⟨rfl, rfl, rfl, by omega, n0, hF8, fun _ _ => rfl, fun x a b => by omega, fun x _ _ => x46 _⟩
      rintro _ _ _ u M9 h ⟨rfl, rfl, rfl, u0, u1, hF9, f9, hd1, hd2⟩ ih3
      have hb9 := dF_b hb hF9
      unfold wb_X12_findDominators_b147
      refine ⟨p0, p5, fun v1 e1 _ => ?_⟩
      rw [← hb9.1] at e1
      subst e1
      refine ⟨fun z3 => ⟨by unfold ri_; omega, ih _ _ _ ⟨rfl, by omega, by omega, hF9, ⟨fun e e0 e1 => by rw [f9 48 (by decide), f9 47 (by decide)]; exact tab e e0 e1, fun x x0 x1 => hd1 x x0 (by omega)⟩⟩ (by omega)⟩, fun z3 => ⟨u0, by omega, fun v4 e4 _ => ?_⟩⟩
      rw [f9 60 (by decide), x60, m60 u u0 (by omega)] at e4
      have old := t2.2 u u0 (by omega)
      rw [← hd2 u (by omega) (by omega)] at old
      have nxt : nD C c (d + 1) u (M9 46 (400 * p + u)) → w_X12_findDominators_b226 Q f h p d n u M9 := fun q => by
        unfold w_X12_findDominators_b226
        refine ⟨by unfold ri_; omega, ih3 _ _ _ _ _ ⟨rfl, rfl, rfl, by omega, by omega, hF9, f9, fun x x0 x1 => ?_, fun x x0 x1 => hd2 x (by omega) x1⟩ (by omega)⟩
        by_cases y : x = u
        · rw [y]; exact q
        · exact hd1 x x0 (by omega)
      have keep : (d ≠ u → u ∈ dV C c d) → nD C c (d + 1) u (M9 46 (400 * p + u)) := fun hk => by
        rcases old with ⟨a1, a2⟩ | ⟨a1, a2, a3, a4, a5⟩
        · refine Or.inl ⟨a1, fun e e0 e1 e2 => ?_⟩
          by_cases y : e = d
          · rw [y]; exact hk (by omega)
          · exact a2 e e0 (by omega) e2
        · refine Or.inr ⟨a1, by omega, a3, a4, fun e e0 e1 e2 e3 => ?_⟩
          by_cases y : e = d
          · exact absurd (by rw [y]; exact hk (by omega)) e3
          · exact a5 e e0 (by omega) e2 e3
      refine ⟨fun z4 => nxt (keep fun _ => ?_), fun z4 => ⟨fun zu => ?_, fun zu => nxt (keep fun q => absurd zu.symm q)⟩⟩
      · by_cases y : u ∈ dV C c d
        · exact y
        · rw [if_neg y] at e4; exact absurd e4 z4
      · have hno : u ∉ dV C c d := fun y => by rw [if_pos y] at e4; omega
        have put : nD C c (d + 1) u d → w_X12_findDominators_b213 Q f h p d n u M9 := fun q => by
          unfold w_X12_findDominators_b213
          refine p_at p0 p5 u0 (by omega) fun _ => ⟨by omega, by omega, fun N e => ?_⟩
          unfold w_X12_findDominators_b226
          refine ⟨by unfold ri_; omega, ih3 _ _ _ _ _ ⟨rfl, rfl, rfl, by omega, by omega, by rw [e]; exact dF_u hF9 (by omega) (by omega) (by omega), fun k hk => by funext i; rw [e, ux_c _ _ _ _ hk, f9 k hk], fun x x0 x1 => ?_, fun x x0 x1 => ?_⟩ (by omega)⟩
          · rw [e]
            by_cases y : x = u
            · rw [y, ux_s]; exact q
            · rw [ux_i _ _ _ (by omega)]; exact hd1 x x0 (by omega)
          · rw [e, ux_i _ _ _ (by omega)]; exact hd2 x (by omega) x1
        refine p_at p0 p5 u0 (by omega) fun _ => ⟨by omega, by omega, fun v9 e9 _ => ⟨fun z9 => put ?_, fun z9 => ?_⟩⟩
        · rcases old with ⟨a1, a2⟩ | ⟨a1, -⟩
          · refine Or.inr ⟨d0, by omega, fun q => zu q.symm, hno, fun e e0 e1 e2 e3 => ?_⟩
            by_cases y : e = d
            · rw [y]; exact Or.inr ⟨rfl, by omega⟩
            · exact absurd (a2 e e0 (by omega) e2) e3
          · omega
        · rcases old with ⟨a1, -⟩ | ⟨a1, a2, a3, a4, a5⟩
          · omega
          · rw [← e9] at a1 a2 a3 a4 a5
            refine p_at p0 p5 a1 (by omega) fun _ => ⟨by omega, by omega, fun v13 e13 _ => ?_⟩
            rw [f9 48 (by decide), (tab v9 a1 (by omega)).1] at e13
            refine ⟨fun z13 => nxt ?_, fun z13 => put ?_⟩
            · rw [← e9]
              refine Or.inr ⟨a1, by omega, a3, a4, fun e e0 e1 e2 e3 => ?_⟩
              by_cases y : e = d
              · rw [y, ← en]; omega
              · exact a5 e e0 (by omega) e2 e3
            · refine Or.inr ⟨d0, by omega, fun q => zu q.symm, hno, fun e e0 e1 e2 e3 => ?_⟩
              by_cases y : e = d
              · rw [y]; exact Or.inr ⟨rfl, by omega⟩
              · have := a5 e e0 (by omega) e2 e3
                rw [← en]
                omega
    · rw [m60 t t0 (by omega)] at e9
      obtain ⟨-, -, a3, -, a5, a6, -⟩ := hw.2.2.2.1 t t0 (by omega)
      have hsz := sz_bd hY a3 a5 a6
      have last : ∀ s0 n', n' = ctV (dV C c d) (t.toNat + 1) → s + s0 = szV C c (dV C c d) (t.toNat + 1) → 0 ≤ s0 → s0 ≤ 8000 → w_X12_findDominators_b110 Q f g p d n' t s0 s M2 := by
        intro s0 n' h1 h2 h3 h4
        unfold w_X12_findDominators_b110
        exact ⟨by unfold ri_; omega, by unfold ri_; omega, ih2 _ _ _ _ _ _ ⟨rfl, rfl, rfl, by omega, by omega, by rw [show (t + 1).toNat = t.toNat + 1 from by omega]; exact h1, by rw [show (t + 1).toNat = t.toNat + 1 from by omega]; exact h2⟩ (by omega)⟩
      have ec : ctV (dV C c d) (t.toNat + 1) = n + (if t ∈ dV C c d then 0 else 1) := by
        show ctV (dV C c d) t.toNat + (if ((t.toNat : Nat) : Int) ∈ dV C c d then 0 else 1) = _
        rw [tt, hn]
      have es : szV C c (dV C c d) (t.toNat + 1) = s + (if t ∈ dV C c d then 0 else sz C (C (c + 2) t) (C (c + 3) t)) := by
        show szV C c (dV C c d) t.toNat + (if ((t.toNat : Nat) : Int) ∈ dV C c d then 0 else sz C (C (c + 2) ((t.toNat : Nat) : Int)) (C (c + 3) ((t.toNat : Nat) : Int))) = _
        rw [tt, hs]
      unfold w_X12_findDominators_b85
      refine ⟨fun z9 => ⟨by unfold ri_; omega, t0, by omega, fun v2 e2 _ => ?_⟩, fun z9 => ⟨by unfold ri_; omega, t0, by omega, fun v2 e2 _ => ?_⟩⟩
      · rw [m60 t t0 (by omega)] at e2
        have hno : t ∉ dV C c d := fun y => by rw [if_pos y] at e9; omega
        rw [if_neg hno] at e2 ec es
        exact ⟨fun _ => p_sizeIn hY2 hw hb2 p0 p5 t0 (by omega) fun _ => last _ _ (by rw [ec]) (by rw [es]) hsz.1 hsz.2, fun q => absurd e2 q⟩
      · rw [m60 t t0 (by omega)] at e2
        have hin : t ∈ dV C c d := by
          by_cases y : t ∈ dV C c d
          · exact y
          · rw [if_neg y] at e9; exact absurd e9 z9
        rw [if_pos hin] at e2 ec es
        exact ⟨fun q => by omega, fun _ => last 0 _ (by rw [ec]) (by rw [es]) (by omega) (by omega)⟩
  unfold w_X12_findDominators
  refine loop3 _ (fun (a t : Int) M1 => p = a ∧ 0 ≤ t ∧ t ≤ C c 0 ∧ dF A M1 p ∧ ∀ u, 0 ≤ u → u < t → M1 46 (400 * p + u) = -1) (fun _ (t : Int) _ => (C c 0 - t).toNat) ?_ _ _ _ ⟨rfl, by omega, n0, ⟨fun _ _ => rfl, fun _ _ => rfl, fun _ _ _ _ => rfl⟩, fun u a b => by omega⟩
  rintro _ t M1 f ⟨rfl, t0, t1, hF, hm⟩ ih
  have hb1 := dF_b hb hF
  unfold wb_X12_findDominators_b2
  refine ⟨p0, p5, fun v1 e1 _ => ?_⟩
  rw [← hb1.1] at e1
  subst e1
  refine ⟨fun z => main M1 hF ⟨fun d a b => by omega, fun x x0 x1 => Or.inl ⟨hm x x0 (by omega), fun d a b => by omega⟩⟩, fun z => p_at p0 p5 t0 (by omega) fun _ => ⟨by omega, by omega, fun M5 e5 => ⟨by unfold ri_; omega, ih _ _ _ ⟨rfl, by omega, by omega, by rw [e5]; exact dF_u hF (by omega) (by omega) (by omega), fun u u0 u1 => ?_⟩ (by omega)⟩⟩⟩
  rw [e5]
  by_cases y : u = t
  · rw [y, ux_s]
  · rw [ux_i _ _ _ (by omega)]; exact hm u u0 (by omega)
