/-! bytes read as a picture: the reference's numbers -/
def O83 (M M' : MM) : Prop := (∀ k, k ≠ 0 → M' k = M k) ∧ ∀ i, i ∉ ([83, 84, 142, 143] : List Int) → M' 0 i = M 0 i
theorem O83_t {A B D : MM} (h : O83 A B) (h' : O83 B D) : O83 A D := ⟨fun k a => by rw [h'.1 k a, h.1 k a], fun i a => by rw [h'.2 i a, h.2 i a]⟩
theorem O83_r (A : MM) : O83 A A := ⟨fun _ _ => rfl, fun _ _ => rfl⟩
theorem O83_u {M : MM} {i x : Int} (hi : i ∈ ([83, 84, 142, 143] : List Int)) : O83 M (ux_ M 0 i x) := ⟨fun k a => funext fun j => ux_c _ _ _ _ a, fun j a => ux_i _ _ _ (fun y => a (by rw [y]; exact hi))⟩
def Sr (M : MM) (n : Int) (B : Int → Int) : Prop := M 0 141 = n ∧ 0 ≤ n ∧ n ≤ 9000 ∧ ∀ i, 0 ≤ i → i < n → M 98 i % 256 = B i ∧ 0 ≤ B i ∧ B i < 256
theorem Sr_o {M M' : MM} {n : Int} {B : Int → Int} (h : Sr M n B) (o : O83 M M') : Sr M' n B := ⟨by rw [o.2 141 (by decide)]; exact h.1, h.2.1, h.2.2.1, fun i a b => by rw [o.1 98 (by decide)]; exact h.2.2.2 i a b⟩
def RdR (M : MM) (s : Int) (x : Int × Int) : Prop := M 0 83 = x.1 ∧ M 0 84 = x.2 ∧ (x.1 = 0 → M 0 142 = s)
theorem p_rfail {Q : Int → MM → Prop} {M : MM} {f x : Int} (h : M 0 83 = 0) (hq : ∀ M', O83 M M' → M' 0 83 = f → M' 0 84 = x → M' 0 142 = M 0 142 → M' 0 143 = M 0 143 → Q 0 M') : w_X12_fail Q f x M := by
  unfold w_X12_fail
  intro v1 e1 _
  rw [h] at e1
  refine ⟨fun _ M3 e3 M4 e4 => hq M4 ?_ ?_ ?_ ?_ ?_, fun z => by omega⟩
  · rw [e4, e3]; exact O83_t (O83_u (by decide)) (O83_u (by decide))
  · rw [e4, e3, ux_i _ _ _ (by decide), ux_s]
  · rw [e4, ux_s]
  · rw [e4, e3, ux_i _ _ _ (by decide), ux_i _ _ _ (by decide)]
  · rw [e4, e3, ux_i _ _ _ (by decide), ux_i _ _ _ (by decide)]
theorem p_rfail1 {Q : Int → MM → Prop} {M : MM} {f x : Int} (h : 0 < M 0 83) (hq : Q 0 M) : w_X12_fail Q f x M := by
  unfold w_X12_fail
  intro v1 e1 _
  exact ⟨fun z => by omega, fun _ => hq⟩
set_option maxHeartbeats 1000000 in
theorem p_takeNumber {Q : Int → MM → Prop} {M : MM} {n s : Int} {B : Int → Int} (hS : Sr M n B) (s0 : 0 ≤ s) (s1 : s ≤ n) (hR : RdR M s okF) (q0 : (rd B n s).1 = 0 → ∀ M', O83 M M' → RdR M' (rd B n s).2.2.2 okF → M' 0 143 = s → Q (rd B n s).2.2.1 M') (q1 : (rd B n s).1 ≠ 0 → ∀ M' v, O83 M M' → M' 0 83 = (rd B n s).1 → M' 0 84 = (rd B n s).2.1 → M' 0 143 = s → Q v M') : w_X12_takeNumber Q M := by
  obtain ⟨h1, n0, n9, hB⟩ := id hS
  have h142 := hR.2.2 rfl
  unfold w_X12_takeNumber w_X12_takeNumber_b12
  intro v1 e1 _ M2 e2
  rw [h142] at e1
  refine loop3 _ (fun (v k : Int) M1 => O83 M M1 ∧ M1 0 143 = s ∧ 0 ≤ k ∧ k ≤ 10 ∧ ((k ≤ 9 ∧ s + k ≤ n ∧ RdR M1 (s + k) okF ∧ rd B n s = rdG B n s (10 - k.toNat) (s + k) v) ∨ ((rd B n s).1 ≠ 0 ∧ M1 0 83 = (rd B n s).1 ∧ M1 0 84 = (rd B n s).2.1))) (fun (_ k : Int) _ => (11 - k).toNat) ?_ _ _ _ ⟨by rw [e2]; exact O83_u (by decide), by rw [e2, ux_s, e1], by omega, by omega, Or.inl ⟨by omega, by omega, ⟨by rw [e2, ux_i _ _ _ (by decide)]; exact hR.1, by rw [e2, ux_i _ _ _ (by decide)]; exact hR.2.1, fun _ => by rw [e2, ux_i _ _ _ (by decide), h142]; omega⟩, by rw [show s + 0 = s from by omega]; rfl⟩⟩
  rintro v k M1 f ⟨hO, m143, k0, k10, hk⟩ ih
  unfold wb_X12_takeNumber_b12
  intro w1 f1 _
  rcases hk with ⟨k9, kn, hR1, er⟩ | ⟨g1, g2, g3⟩
  · have m83 : M1 0 83 = 0 := hR1.1
    have m142 := hR1.2.2 rfl
    rw [m83] at f1
    refine ⟨fun z => absurd f1 z, fun _ v3 e3 _ v4 e4 _ => ?_⟩
    rw [m142] at e3
    rw [hO.2 141 (by decide), h1] at e4
    obtain ⟨m, em⟩ : ∃ m : Nat, 10 - k.toNat = m + 1 := ⟨9 - k.toNat, by omega⟩
    rw [em] at er
    unfold rdG at er
    rw [show s + k - s = k from by omega] at er
    refine ⟨fun z v6 e6 _ => ?_, fun z v16 e16 _ => ?_⟩
    · rw [if_neg (by omega)] at er
      rw [m142] at e6
      refine ⟨by omega, by omega, fun v7 e7 _ v8 e8 _ => ?_⟩
      rw [m142] at e8
      obtain ⟨b1, b2, b3⟩ := hB (s + k) (by omega) (by omega)
      have ev : jand v7 255 = B (s + k) := by rw [jand_255, e7, e6, hO.1 98 (by decide)]; exact b1
      rw [ev]
      refine ⟨by unfold ri_; omega, fun M10 e10 => ?_⟩
      have hO' : O83 M M10 := O83_t hO (by rw [e10]; exact O83_u (by decide))
      have t143 : M10 0 143 = s := by rw [e10, ux_i _ _ _ (by decide)]; exact m143
      have t83 : M10 0 83 = 0 := by rw [e10, ux_i _ _ _ (by decide)]; exact m83
      have t84 : M10 0 84 = -1 := by rw [e10, ux_i _ _ _ (by decide)]; exact hR1.2.1
      have t142 : M10 0 142 = s + (k + 1) := by rw [e10, ux_s, e8]; omega
      have go : ¬ (k = 9 ∧ 1 < B (s + k)) → w_X12_takeNumber_b87 Q f v k (B (s + k)) M10 := fun g => by
        unfold w_X12_takeNumber_b87
        refine ⟨by unfold ri_; omega, fun y => ?_, fun y => ⟨by unfold ri_; omega, ih _ _ _ ⟨hO', t143, by omega, by omega, Or.inl ⟨by omega, by omega, ⟨t83, t84, fun _ => t142⟩, ?_⟩⟩ (by omega)⟩⟩
        · have fin : ¬ (0 < k ∧ B (s + k) = 0) → Q (jlor v (jlshl (jland (B (s + k)) 127) (7 * k))) M10 := fun g2 => by
            rw [if_neg (by omega), if_neg (by omega)] at er
            have := q0 (by rw [er]) M10 hO' ⟨t83, t84, fun _ => by rw [t142, er]; show _ = s + k + 1; omega⟩ t143
            rw [er] at this
            exact this
          refine ⟨fun y2 => fin (by omega), fun y2 => ⟨fun y3 => fin (by omega), fun y3 v5 e5 _ => ?_⟩⟩
          rw [if_pos (Or.inr ⟨by omega, y2⟩)] at er
          rw [t143] at e5
          exact p_rfail t83 fun M7 o7 x83 x84 x142 x143 => q1 (by rw [er]; show (3 : Int) ≠ 0; decide) M7 _ (O83_t hO' o7) (by rw [x83, er]) (by rw [x84, e5, er]) (by rw [x143, t143])
        · rw [if_neg (by omega), if_pos (by omega)] at er
          rw [er, show (10 - (k + 1).toNat) = m from by omega, show s + k + 1 = s + (k + 1) from by omega]
      refine ⟨fun y => go (by omega), fun y => ⟨fun y2 => go (by omega), fun y2 v13 e13 _ => ?_⟩⟩
      rw [if_pos (Or.inl ⟨y, by omega⟩)] at er
      rw [t143] at e13
      refine p_rfail t83 fun M15 o15 x83 x84 x142 x143 => ?_
      have nz : (rd B n s).1 ≠ 0 := by rw [er]; show (3 : Int) ≠ 0; decide
      have hO'' := O83_t hO' o15
      have y83 : M15 0 83 = (rd B n s).1 := by rw [x83, er]
      have y84 : M15 0 84 = (rd B n s).2.1 := by rw [x84, e13, er]
      have y143 : M15 0 143 = s := by rw [x143, t143]
      unfold w_X12_takeNumber_b87
      refine ⟨by unfold ri_; omega, fun y3 => ⟨fun y4 => q1 nz M15 _ hO'' y83 y84 y143, fun y4 => ⟨fun y5 => q1 nz M15 _ hO'' y83 y84 y143, fun y5 v5 e5 _ => p_rfail1 (by rw [x83]; decide) (q1 nz M15 _ hO'' y83 y84 y143)⟩⟩, fun y3 => ⟨by unfold ri_; omega, ih _ _ _ ⟨hO'', y143, by omega, by omega, Or.inr ⟨nz, y83, y84⟩⟩ (by omega)⟩⟩
    · rw [if_pos (by omega)] at er
      rw [hO.2 141 (by decide), h1] at e16
      exact p_rfail m83 fun M7 o7 x83 x84 x142 x143 => q1 (by rw [er]; show (1 : Int) ≠ 0; decide) M7 _ (O83_t hO o7) (by rw [x83, er]) (by rw [x84, e16, er]) (by rw [x143, m143])
  · rw [g2] at f1
    exact ⟨fun _ => q1 g1 M1 _ hO g2 g3 m143, fun z => absurd (by rw [← f1]; exact z) g1⟩
theorem p_R_isNum {Q : Int → MM → Prop} {k v : Int} {R : MM} (k0 : 0 ≤ k) (k5 : k < 5) (h1 : vN k v → Q 1 R) (h0 : ¬ vN k v → Q 0 R) : w_X12_isOfKind Q k (-1) v R := by
  unfold vN at h1 h0
  unfold w_X12_isOfKind w_X12_isOfKind_b100
  have hk : k = 0 ∨ k = 1 ∨ k = 2 ∨ k = 3 ∨ k = 4 := by omega
  refine ⟨fun _ => ⟨fun a0 => ⟨fun a1 => ⟨fun a2 => ⟨fun a3 => ⟨fun _ => ⟨fun _ => h1 (by omega), fun q => absurd rfl q⟩, fun q => by omega⟩, fun a3 => ⟨fun _ => ⟨fun q => absurd q (by decide), fun _ => ⟨by unfold ri_; decide, ?_⟩⟩, fun q => by omega⟩⟩, fun a2 => ⟨fun _ => ⟨fun q => absurd q (by decide), fun _ => ⟨by unfold ri_; decide, ?_⟩⟩, fun q => by omega⟩⟩, fun a1 => ⟨fun _ => ⟨fun q => absurd q (by decide), fun _ => ⟨by unfold ri_; decide, ?_⟩⟩, fun q => by omega⟩⟩, fun a0 => ⟨fun q => absurd a0 q, fun _ => ⟨fun z => h1 (by omega), fun z => ⟨fun z2 => h0 (by omega), fun z2 => h1 (by omega)⟩⟩⟩⟩, fun q => by omega⟩
  · rw [show (32 : Int) - 1 = 31 from rfl, sh31.2, sh31.1]
    exact ⟨fun z => h0 (by omega), fun z => ⟨by unfold ri_; decide, fun z2 => h0 (by omega), fun z2 => h1 (by omega)⟩⟩
  · rw [show (16 : Int) - 1 = 15 from rfl, sh15.2, sh15.1]
    exact ⟨fun z => h0 (by omega), fun z => ⟨by unfold ri_; decide, fun z2 => h0 (by omega), fun z2 => h1 (by omega)⟩⟩
  · rw [show (8 : Int) - 1 = 7 from rfl, sh7.2, sh7.1]
    exact ⟨fun z => h0 (by omega), fun z => ⟨by unfold ri_; decide, fun z2 => h0 (by omega), fun z2 => h1 (by omega)⟩⟩
theorem p_R_isType {Q : Int → MM → Prop} {p : Int} {M : MM} (h16 : M 0 20 ≤ 16) (h1 : vT (M 0 20) p → Q 1 M) (h0 : ¬ vT (M 0 20) p → Q 0 M) : w_X12_isType Q p M := by
  unfold w_X12_isType
  refine ⟨fun z => h0 (by unfold vT; omega), fun z => ⟨fun z2 => h0 (by unfold vT; omega), fun z2 => ⟨by unfold ri_; omega, p_R_isClass (fun a b _ => ⟨fun _ => h1 (Or.inl ⟨a, b⟩), fun q => absurd q (by decide)⟩) (fun a _ => ⟨fun q => absurd rfl q, fun _ => ⟨by unfold ri_; omega, p_R_isArr (by unfold ri_; omega) h16 (fun _ v _ => ⟨fun q => absurd q (by decide), fun _ => h1 v⟩) (fun v _ => ⟨fun _ => h0 fun q => ?_, fun q => absurd rfl q⟩)⟩⟩)⟩⟩⟩
  by_cases w : 20 ≤ p
  · exact v ⟨w, q⟩
  · unfold vT at q; omega
