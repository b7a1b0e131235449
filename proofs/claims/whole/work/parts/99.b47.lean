/-! bytes read as a picture: numbers -/
abbrev N4 := Int × Int × Int × Int
def rdG (B : Int → Int) (n s : Int) : Nat → Int → Int → N4
  | 0, a, _ => (3, s, 0, a)
  | f + 1, a, v => if n ≤ a then (1, n, 0, a) else if (a - s = 9 ∧ 1 < B a) ∨ (0 < a - s ∧ B a = 0) then (3, s, 0, a + 1) else if 128 ≤ B a then rdG B n s f (a + 1) (jlor v (jlshl (jland (B a) 127) (7 * (a - s)))) else (0, -1, jlor v (jlshl (jland (B a) 127) (7 * (a - s))), a + 1)
def rd (B : Int → Int) (n s : Int) : N4 := rdG B n s 10 s 0
theorem rdG_p {B : Int → Int} {n s : Int} (f : Nat) (a v : Int) (h : (rdG B n s f a v).1 = 0) : a < (rdG B n s f a v).2.2.2 ∧ (rdG B n s f a v).2.2.2 ≤ n ∧ rl_ (rdG B n s f a v).2.2.1 := by
  induction f generalizing a v with
  | zero => exact absurd (show (3 : Int) = 0 from h) (by decide)
  | succ f ih =>
    unfold rdG at h ⊢
    by_cases z : n ≤ a
    · rw [if_pos z] at h; exact absurd (show (1 : Int) = 0 from h) (by decide)
    · rw [if_neg z] at h ⊢
      by_cases z2 : (a - s = 9 ∧ 1 < B a) ∨ (0 < a - s ∧ B a = 0)
      · rw [if_pos z2] at h; exact absurd (show (3 : Int) = 0 from h) (by decide)
      · rw [if_neg z2] at h ⊢
        by_cases z3 : 128 ≤ B a
        · rw [if_pos z3] at h ⊢
          have := ih _ _ h
          exact ⟨by omega, this.2⟩
        · rw [if_neg z3] at h ⊢
          exact ⟨by show a < a + 1; omega, by show a + 1 ≤ n; omega, rl_of _⟩
theorem rd_p {B : Int → Int} {n s : Int} (h : (rd B n s).1 = 0) : s < (rd B n s).2.2.2 ∧ (rd B n s).2.2.2 ≤ n ∧ rl_ (rd B n s).2.2.1 := rdG_p 10 s 0 h
theorem rdG_f {B : Int → Int} {n s : Int} (f : Nat) (a v : Int) : (rdG B n s f a v).1 = 0 ∨ (rdG B n s f a v).1 = 1 ∨ (rdG B n s f a v).1 = 3 := by
  induction f generalizing a v with
  | zero => exact Or.inr (Or.inr rfl)
  | succ f ih =>
    unfold rdG
    by_cases z : n ≤ a
    · rw [if_pos z]; exact Or.inr (Or.inl rfl)
    · rw [if_neg z]
      by_cases z2 : (a - s = 9 ∧ 1 < B a) ∨ (0 < a - s ∧ B a = 0)
      · rw [if_pos z2]; exact Or.inr (Or.inr rfl)
      · rw [if_neg z2]
        by_cases z3 : 128 ≤ B a
        · rw [if_pos z3]; exact ih _ _
        · rw [if_neg z3]; exact Or.inl rfl
/-- of the class's reader only these places change -/
def O28 (M M' : MM) : Prop := (∀ k, k ≠ 280 → M' k = M k) ∧ ∀ i, i ∉ ([9, 10, 13, 14] : List Int) → M' 280 i = M 280 i
theorem O28_t {A B D : MM} (h : O28 A B) (h' : O28 B D) : O28 A D := ⟨fun k a => by rw [h'.1 k a, h.1 k a], fun i a => by rw [h'.2 i a, h.2 i a]⟩
theorem O28_u {M : MM} {i x : Int} (hi : i ∈ ([9, 10, 13, 14] : List Int)) : O28 M (ux_ M 280 i x) := ⟨fun k a => funext fun j => ux_c _ _ _ _ a, fun j a => ux_i _ _ _ (fun y => a (by rw [y]; exact hi))⟩
/-- the class reads bytes B, n of them, out of cell a from b0 on -/
def Sc (M : MM) (a : Nat) (b0 n : Int) (B : Int → Int) : Prop := M 280 6 = (a : Int) ∧ M 280 7 = b0 ∧ M 280 8 = b0 + n ∧ (∃ na : Nat, ksC[a]? = some (0, na) ∧ (na : Int) < 2147483648 ∧ b0 + n ≤ na) ∧ 0 ≤ b0 ∧ 0 ≤ n ∧ (∀ i, 0 ≤ i → i < n → M a (b0 + i) = B i ∧ 0 ≤ B i ∧ B i < 256) ∧ a ≠ 280
theorem Sc_o {M M' : MM} {a : Nat} {b0 n : Int} {B : Int → Int} (h : Sc M a b0 n B) (o : O28 M M') : Sc M' a b0 n B := by
  obtain ⟨h1, h2, h3, h4, h5, h6, h7, h8⟩ := h
  exact ⟨by rw [o.2 6 (by decide)]; exact h1, by rw [o.2 7 (by decide)]; exact h2, by rw [o.2 8 (by decide)]; exact h3, h4, h5, h6, fun i a b => by rw [o.1 _ h8]; exact h7 i a b, h8⟩
theorem p_cfail {Q : Int → MM → Prop} {M : MM} {a : Nat} {b0 n f x : Int} {B : Int → Int} (hS : Sc M a b0 n B) (hx : ri_ (x - b0)) (hq : ∀ M', O28 M M' → M' 280 13 = f → M' 280 14 = x - b0 → M' 280 10 = M 280 10 → Q 0 M') : w_X0_fail Q f x M := by
  unfold w_X0_fail
  intro M1 e1 v2 e2 _
  have : v2 = b0 := by rw [e2, e1, ux_i _ _ _ (by decide)]; exact hS.2.1
  rw [this]
  refine ⟨hx, fun M4 e4 => hq M4 ?_ ?_ ?_ ?_⟩
  · rw [e4, e1]; exact O28_t (O28_u (by decide)) (O28_u (by decide))
  · rw [e4, e1, ux_i _ _ _ (by decide), ux_s]
  · rw [e4, ux_s]
  · rw [e4, e1, ux_i _ _ _ (by decide), ux_i _ _ _ (by decide)]
set_option maxHeartbeats 1000000 in
theorem p_readNumber {Q : Int → MM → Prop} {M : MM} {a : Nat} {b0 n s : Int} {B : Int → Int} (hS : Sc M a b0 n B) (s0 : 0 ≤ s) (s1 : s ≤ n) (h9 : M 280 9 = b0 + s) (h13 : M 280 13 = 0) (q0 : (rd B n s).1 = 0 → ∀ M', O28 M M' → M' 280 9 = b0 + (rd B n s).2.2.2 → M' 280 10 = b0 + s → M' 280 13 = 0 → M' 280 14 = M 280 14 → Q (rd B n s).2.2.1 M') (q1 : (rd B n s).1 ≠ 0 → ∀ M', O28 M M' → M' 280 10 = b0 + s → M' 280 13 = (rd B n s).1 → M' 280 14 = (rd B n s).2.1 → Q 0 M') : w_X0_readNumber Q M := by
  obtain ⟨h6, h7, h8, ⟨na, k1, k2, k3⟩, b00, n0, hB, ha⟩ := id hS
  unfold w_X0_readNumber w_X0_readNumber_b12
  intro v1 e1 _ M2 e2
  rw [h9] at e1
  refine loop3 _ (fun (v k : Int) M1 => 0 ≤ k ∧ k ≤ 9 ∧ s + k ≤ n ∧ O28 M M1 ∧ M1 280 9 = b0 + (s + k) ∧ M1 280 10 = b0 + s ∧ M1 280 13 = 0 ∧ M1 280 14 = M 280 14 ∧ rd B n s = rdG B n s (10 - k.toNat) (s + k) v) (fun (_ k : Int) _ => (10 - k).toNat) ?_ _ _ _ ⟨by omega, by omega, by omega, by rw [e2]; exact O28_u (by decide), by rw [e2, ux_i _ _ _ (by decide), h9]; omega, by rw [e2, ux_s, e1], by rw [e2, ux_i _ _ _ (by decide)]; exact h13, by rw [e2, ux_i _ _ _ (by decide)], by rw [show s + 0 = s from by omega]; rfl⟩
  rintro v k M1 f ⟨k0, k9, kn, hO, m9, m10, m13, m14, er⟩ ih
  have hS1 := Sc_o hS hO
  obtain ⟨m, em⟩ : ∃ m : Nat, 10 - k.toNat = m + 1 := ⟨9 - k.toNat, by omega⟩
  rw [em] at er
  unfold rdG at er
  rw [show s + k - s = k from by omega] at er
  have no3 : ∀ M3 : MM, O28 M M3 → M3 280 10 = b0 + s → rd B n s = (3, s, 0, s + k + 1) → w_X0_readNumber_b117 Q M3 := fun M3 o3 t10 e3 => by
    unfold w_X0_readNumber_b117
    intro v1 e1 _
    rw [t10] at e1
    have g := k3
    refine p_cfail (Sc_o hS o3) (by unfold ri_; omega) fun M' o' x13 x14 x10 _ => q1 (by rw [e3]; show (3 : Int) ≠ 0; decide) M' (O28_t o3 o') (by rw [x10, t10]) (by rw [x13, e3]) (by rw [x14, e3, e1]; show b0 + s - b0 = s; omega)
  unfold wb_X0_readNumber_b12
  refine ⟨fun z => by omega, fun z v2 e2' _ v3 e3' _ => ?_⟩
  rw [m9] at e2'
  rw [hO.2 8 (by decide), h8] at e3'
  refine ⟨fun z2 => ?_, fun z2 v13 e13 _ => ?_⟩
  · rw [if_neg (by omega)] at er
    obtain ⟨b1, b2, b3⟩ := hB (s + k) (by omega) (by omega)
    refine ⟨a, na, by rw [hO.2 6 (by decide)]; exact h6, k1, by omega, fun v6 e6 _ => ?_⟩
    rw [m9] at e6
    refine ⟨by omega, by omega, fun v7 e7 _ v8 e8 _ => ?_⟩
    rw [m9] at e8
    have ev : v7 = B (s + k) := by rw [e7, e6, hO.1 a ha]; exact b1
    refine ⟨by unfold ri_; omega, fun M10 e10 => ?_⟩
    have hO' : O28 M M10 := O28_t hO (by rw [e10]; exact O28_u (by decide))
    have t10 : M10 280 10 = b0 + s := by rw [e10, ux_i _ _ _ (by decide)]; exact m10
    have t13 : M10 280 13 = 0 := by rw [e10, ux_i _ _ _ (by decide)]; exact m13
    have t14 : M10 280 14 = M 280 14 := by rw [e10, ux_i _ _ _ (by decide)]; exact m14
    have t9 : M10 280 9 = b0 + (s + (k + 1)) := by rw [e10, ux_s, e8]; omega
    have good : ¬ ((k = 9 ∧ 1 < B (s + k)) ∨ (0 < k ∧ B (s + k) = 0)) → w_X0_readNumber_b86 Q f v k v7 M10 := fun g => by
      rw [if_neg g] at er
      unfold w_X0_readNumber_b86
      refine ⟨by unfold ri_; omega, fun y => ⟨by unfold ri_; omega, ih _ _ _ ⟨by omega, by omega, by omega, hO', t9, t10, t13, t14, ?_⟩ (by omega)⟩, fun y => ?_⟩
      · rw [if_pos (by omega)] at er
        rw [er, ev, show (10 - (k + 1).toNat) = m from by omega, show s + k + 1 = s + (k + 1) from by omega]
      · rw [if_neg (by omega)] at er
        rw [ev]
        have : (rd B n s).2.2.1 = jlor v (jlshl (jland (B (s + k)) 127) (7 * k)) := by rw [er]
        rw [← this]
        exact q0 (by rw [er]) M10 hO' (by rw [t9, er]; show _ = b0 + (s + k + 1); omega) t10 t13 t14
    have bad : ((k = 9 ∧ 1 < B (s + k)) ∨ (0 < k ∧ B (s + k) = 0)) → w_X0_readNumber_b117 Q M10 := fun g => by
      rw [if_pos g] at er
      exact no3 M10 hO' t10 er
    have mid : ¬ (k = 9 ∧ 1 < B (s + k)) → w_X0_readNumber_b74 Q f v k v7 M10 := fun g => by
      unfold w_X0_readNumber_b74
      exact ⟨fun y => good (by omega), fun y => ⟨fun y2 => good (by omega), fun y2 => bad (Or.inr ⟨by omega, by omega⟩)⟩⟩
    exact ⟨fun y => mid (by omega), fun y => ⟨fun y2 => bad (Or.inl ⟨y, by omega⟩), fun y2 => mid (by omega)⟩⟩
  · rw [if_pos (by omega)] at er
    rw [hO.2 8 (by decide), h8] at e13
    refine p_cfail hS1 (by unfold ri_; omega) fun M' o' x13 x14 x10 _ => q1 (by rw [er]; show (1 : Int) ≠ 0; decide) M' (O28_t hO o') (by rw [x10, m10]) (by rw [x13, er]) (by rw [x14, er, e13]; show b0 + n - b0 = n; omega)
/-- the first fault of two -/
def ff (a b : Int × Int) : Int × Int := if a.1 = 0 then b else a
def okF : Int × Int := (0, -1)
theorem ff_0 {a b : Int × Int} (h : a.1 = 0) : ff a b = b := if_pos h
theorem ff_1 {a b : Int × Int} (h : a.1 ≠ 0) : ff a b = a := if_neg h
noncomputable def cnd (P : Prop) (x : Int × Int) : Int × Int := @ite _ P (Classical.propDecidable _) x okF
theorem cnd_1 {P : Prop} {x : Int × Int} (h : P) : cnd P x = x := if_pos h
theorem cnd_0 {P : Prop} {x : Int × Int} (h : ¬ P) : cnd P x = okF := if_neg h
def nff (B : Int → Int) (n s : Int) : Int × Int := if (rd B n s).1 = 0 then okF else ((rd B n s).1, (rd B n s).2.1)
noncomputable def upf (B : Int → Int) (n s m : Int) : Int × Int := ff (nff B n s) (cnd ((rd B n s).2.2.1 < 0 ∨ m < (rd B n s).2.2.1) (4, s))
theorem nff_0 {B : Int → Int} {n s : Int} : (nff B n s).1 = 0 ↔ (rd B n s).1 = 0 := by
  unfold nff
  by_cases z : (rd B n s).1 = 0
  · rw [if_pos z]; exact ⟨fun _ => z, fun _ => rfl⟩
  · rw [if_neg z]
theorem upf_0 {B : Int → Int} {n s m : Int} (h : (upf B n s m).1 = 0) : (rd B n s).1 = 0 ∧ 0 ≤ (rd B n s).2.2.1 ∧ (rd B n s).2.2.1 ≤ m := by
  unfold upf at h
  by_cases z : (nff B n s).1 = 0
  · rw [ff_0 z] at h
    by_cases z2 : (rd B n s).2.2.1 < 0 ∨ m < (rd B n s).2.2.1
    · rw [cnd_1 z2] at h; exact absurd (show (4 : Int) = 0 from h) (by decide)
    · exact ⟨nff_0.mp z, by omega, by omega⟩
  · rw [ff_1 z] at h; exact absurd h z
/-- where the class's reader stands -/
def RdC (M : MM) (b0 s : Int) (x : Int × Int) : Prop := M 280 13 = x.1 ∧ (x.1 = 0 → M 280 9 = b0 + s) ∧ M 280 14 = x.2
theorem p_readUpTo {Q : Int → MM → Prop} {M : MM} {a : Nat} {b0 n s m : Int} {B : Int → Int} (hm : ri_ m) (hS : Sc M a b0 n B) (s0 : 0 ≤ s) (s1 : s ≤ n) (hR : RdC M b0 s okF) (q0 : (upf B n s m).1 = 0 → ∀ M', O28 M M' → RdC M' b0 (rd B n s).2.2.2 okF → M' 280 10 = b0 + s → Q (rd B n s).2.2.1 M') (q1 : (upf B n s m).1 ≠ 0 → ∀ M', O28 M M' → M' 280 10 = b0 + s → M' 280 13 = (upf B n s m).1 → M' 280 14 = (upf B n s m).2 → Q (-1) M') : w_X0_readUpTo Q m M := by
  unfold ri_ at hm
  obtain ⟨-, -, -, ⟨na, -, k2, k3⟩, b00, n0, -, -⟩ := id hS
  unfold w_X0_readUpTo
  refine p_readNumber hS s0 s1 (hR.2.1 rfl) hR.1 (fun z M' hO m9 m10 m13 m14 _ v3 e3 _ => ?_) (fun z M' hO m10 m13 m14 _ v3 e3 _ => ?_)
  · have nz := nff_0.mpr z
    have bad : ((rd B n s).2.2.1 < 0 ∨ m < (rd B n s).2.2.1) → w_X0_readUpTo_b25 Q (rd B n s).2.2.1 M' := fun g => by
      have e : upf B n s m = (4, s) := by unfold upf; rw [ff_0 nz, cnd_1 g]
      unfold w_X0_readUpTo_b25 w_X0_readUpTo_b35
      intro v1 e1 _
      rw [m10] at e1
      refine p_cfail (Sc_o hS hO) (by unfold ri_; omega) fun M2 o2 x13 x14 x10 _ v4 e4 _ => ⟨fun _ => q1 (by rw [e]; show (4 : Int) ≠ 0; decide) M2 (O28_t hO o2) (by rw [x10, m10]) (by rw [x13, e]) (by rw [x14, e, e1]; show b0 + s - b0 = s; omega), fun y => ?_⟩
      rw [x13] at e4; omega
    have good : ¬ ((rd B n s).2.2.1 < 0 ∨ m < (rd B n s).2.2.1) → w_X0_readUpTo_b35 Q (rd B n s).2.2.1 M' := fun g => by
      have e : upf B n s m = okF := by unfold upf; rw [ff_0 nz, cnd_0 g]
      unfold w_X0_readUpTo_b35
      intro v1 e1 _
      rw [m13] at e1
      exact ⟨fun y => absurd e1 y, fun _ => ⟨by unfold ri_; omega, q0 (by rw [e]; rfl) M' hO ⟨m13, fun _ => m9, by rw [m14]; exact hR.2.2⟩ m10⟩⟩
    rw [m13] at e3
    exact ⟨fun y => absurd e3 y, fun _ => ⟨fun y => bad (Or.inl y), fun y => ⟨fun y2 => good (by omega), fun y2 => bad (Or.inr (by omega))⟩⟩⟩
  · have nz : (nff B n s).1 ≠ 0 := fun y => z (nff_0.mp y)
    have e : upf B n s m = ((rd B n s).1, (rd B n s).2.1) := by unfold upf; rw [ff_1 nz]; unfold nff; rw [if_neg z]
    rw [m13] at e3
    refine ⟨fun _ => ?_, fun y => by omega⟩
    unfold w_X0_readUpTo_b35
    intro v1 e1 _
    rw [m13] at e1
    exact ⟨fun _ => q1 (by rw [e]; exact z) M' hO m10 (by rw [m13, e]) (by rw [m14, e]), fun y => by omega⟩
