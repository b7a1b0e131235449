/-! rules worked out by the class: classes by name, and all rounds -/
def clD (D : MM) (c : Nat) (A : MM) (i a : Int) : Prop := D (c + 2) a < 20 ∧ isN D (D (c + 2) a) (A 270 i)
theorem isN_e {C C' : MM} (h9 : C' 9 = C 9) (h11 : C' 11 = C 11) (t d : Int) : isN C' t d ↔ isN C t d := by
  unfold isN
  rw [h9]
  constructor
  · rintro ⟨m, a, b⟩
    rw [upn_eq h11] at a b
    exact ⟨m, a, b⟩
  · rintro ⟨m, a, b⟩
    refine ⟨m, ?_, ?_⟩
    · rw [upn_eq h11]; exact a
    · rw [upn_eq h11]; exact b
theorem p_classes {D R0 A C : MM} {c : Nat} (hY : Rty D R0) (hw : PW D c) (hc : isP c) (n40 : D c 0 ≤ 40) (oA : OKW A) (hD : ∀ q, q < 261 → C q = D q) (h8 : C 274 8 = ((261 : Nat) : Int)) (hn : C 274 1 = D c 0) (hA : ∀ q, 262 ≤ q → q ≤ 270 → C q = A q) (h3 : C 261 3 = A 261 3) {Q : Int → MM → Prop} (hq : ∀ C', (∀ q, q ≠ 278 → C' q = C q) → (∀ r m, 0 ≤ r → r < A 261 3 → 0 ≤ m → m < A 266 r → A 267 (4 * r + m) = 9 → BS (C' 278 (4 * r + m)) (fun x => x < D c 0 ∧ clD D c A (4 * r + m) x)) → Q 0 C') : w_X1_findClasses c Q C := by
  have n0 := hw.1
  have cb : c ≤ 178 := by unfold isP at hc; omega
  have r12 := oA.2.2.2.1
  unfold w_X1_findClasses w_X1_findClasses_b2
  refine loop2 _ (fun (r : Int) M => 0 ≤ r ∧ r ≤ A 261 3 ∧ (∀ q, q ≠ 278 → M q = C q) ∧ ∀ r' m', 0 ≤ r' → r' < A 261 3 → 0 ≤ m' → m' < A 266 r' → r' < r → A 267 (4 * r' + m') = 9 → BS (M 278 (4 * r' + m')) (fun x => x < D c 0 ∧ clD D c A (4 * r' + m') x)) (fun r _ => (A 261 3 - r).toNat) ?_ _ _ ⟨by omega, oA.2.2.1, fun _ _ => rfl, fun r' m' a _ _ _ b => by omega⟩
  rintro r M f ⟨r0, r1, hM, hB⟩ ih
  unfold wb_X1_findClasses_b2
  refine ⟨by rw [hM 274 (by decide)]; exact h8, fun v2 e2 _ => ?_⟩
  rw [hM 261 (by decide), h3] at e2
  rw [e2]
  refine ⟨fun z => hq M hM (fun r' m' a b d e => hB r' m' a b d e (by omega)), fun z => ?_⟩
  obtain ⟨q1, q2, q3, q4, q5, q6, q7, q8, q9, q10⟩ := oA.2.2.2.2.2 r r0 (by omega)
  unfold w_X1_findClasses_b15
  refine loop3 _ (fun (x m : Int) N => r = x ∧ 0 ≤ m ∧ m ≤ A 266 r ∧ (∀ q, q ≠ 278 → N q = C q) ∧ ∀ r' m', 0 ≤ r' → r' < A 261 3 → 0 ≤ m' → m' < A 266 r' → (r' < r ∨ r' = r ∧ m' < m) → A 267 (4 * r' + m') = 9 → BS (N 278 (4 * r' + m')) (fun x => x < D c 0 ∧ clD D c A (4 * r' + m') x)) (fun _ m _ => (A 266 r - m).toNat) ?_ _ _ _ ⟨rfl, by omega, by omega, hM, fun r' m' a b d e w => hB r' m' a b d e (by omega)⟩
  rintro _ m N g ⟨rfl, m0, m1, hN, hBN⟩ ih2
  unfold wb_X1_findClasses_b15
  refine ⟨by rw [hN 274 (by decide)]; exact h8, r0, by omega, fun w2 ew2 _ => ?_⟩
  rw [hN 266 (by decide), hA 266 (by omega) (by omega)] at ew2
  rw [ew2]
  have fi : A 266 r ≤ m → ∀ r' m', m' < A 266 r' → r' < r + 1 → r' < r ∨ r' = r ∧ m' < m := fun y r' m' e w => by
    by_cases x : r' = r
    · rw [x] at e; omega
    · omega
  refine ⟨fun y => ⟨by unfold ri_; omega, ih _ _ ⟨by omega, by omega, hN, fun r' m' a b d e w => hBN r' m' a b d e (fi y r' m' e w)⟩ (by omega)⟩, fun y => ?_⟩
  have ei : r * 4 + m = 4 * r + m := by omega
  rw [ei]
  have mlt : m < A 266 r := by omega
  refine ⟨by unfold ri_; omega, by unfold ri_; omega, by omega, by omega, fun M7 e7 => ?_⟩
  have nx : ∀ N', (∀ q, q ≠ 278 → N' q = C q) → (∀ j, j ≠ 4 * r + m → N' 278 j = N 278 j) → (A 267 (4 * r + m) = 9 → BS (N' 278 (4 * r + m)) (fun x => x < D c 0 ∧ clD D c A (4 * r + m) x)) → w_X1_findClasses_b117 c Q f g r m N' := fun N' a b d => by
    unfold w_X1_findClasses_b117
    refine ⟨by unfold ri_; omega, ih2 _ _ _ ⟨rfl, by omega, by omega, a, fun r' m' x1 x2 x3 x4 x5 x6 => ?_⟩ (by omega)⟩
    by_cases u : r' = r ∧ m' = m
    · rw [u.1, u.2] at x6 ⊢; exact d x6
    · have y4 := (oA.2.2.2.2.2 r' x1 x2).2.2.2.1
      rw [b _ (by omega)]
      exact hBN r' m' x1 x2 x3 x4 (by omega) x6
  unfold w_X1_findClasses_b46
  refine loop5 _ (fun (x2 x3 x4 t : Int) N' => r = x2 ∧ m = x3 ∧ 4 * r + m = x4 ∧ 0 ≤ t ∧ t ≤ D c 0 ∧ (∀ q, q ≠ 278 → N' q = C q) ∧ (∀ j, j ≠ 4 * r + m → N' 278 j = N 278 j) ∧ BS (N' 278 (4 * r + m)) (fun x => x < t ∧ clD D c A (4 * r + m) x) ∧ (A 267 (4 * r + m) ≠ 9 → t = 0)) (fun _ _ _ t _ => (D c 0 - t).toNat) ?_ _ _ _ _ _ ⟨rfl, rfl, rfl, by omega, n0, fun q hq' => by rw [e7, ux_g _ _ _ hq']; exact hN q hq', fun j hj => by rw [e7, ux_i _ _ _ hj], by rw [e7, ux_s]; exact BS_0 (fun j w => by have := w.1; omega), fun _ => rfl⟩
  rintro _ _ _ t N' g' ⟨rfl, rfl, rfl, t0, t1, hN', hJ, hBt, hk⟩ ih3
  unfold wb_X1_findClasses_b46
  intro u1 eu1 _
  rw [hN' 274 (by decide), hn] at eu1
  rw [eu1]
  refine ⟨fun w => nx N' hN' hJ (fun _ => ?_), fun w => ⟨by rw [hN' 274 (by decide)]; exact h8, by omega, by omega, fun u4 eu4 _ => ?_⟩⟩
  · have : t = D c 0 := by omega
    rw [this] at hBt; exact hBt
  rw [hN' 267 (by decide), hA 267 (by omega) (by omega)] at eu4
  rw [eu4]
  refine ⟨fun k9 => nx N' hN' hJ (fun k => absurd k k9), fun k9 => ⟨t0, by omega, fun u6 eu6 _ => ⟨by rw [hN' 274 (by decide)]; exact h8, by omega, by omega, fun u8 eu8 _ => ?_⟩⟩⟩
  rw [hN' (c + 2) (by omega), hD (c + 2) (by omega)] at eu6
  rw [hN' 270 (by decide), hA 270 (by omega) (by omega)] at eu8
  have o : ∀ q, q < 261 → N' q = D q := fun q a => by rw [hN' q (by omega)]; exact hD q a
  have hY' : Rty N' R0 := Rty_C hY (fun k a b => o k (by omega))
  have pt := (hw.2.2.2.1 t t0 (by omega)).2.2.1
  have ct : (u6 < 20 ∧ isN N' u6 u8) ↔ clD D c A (4 * r + m) t := by
    unfold clD
    rw [isN_e (o 9 (by omega)) (o 11 (by omega)), eu6, eu8]
  have go : ∀ N2, (∀ q, q ≠ 278 → N2 q = C q) → (∀ j, j ≠ 4 * r + m → N2 278 j = N 278 j) → BS (N2 278 (4 * r + m)) (fun x => x < t + 1 ∧ clD D c A (4 * r + m) x) → w_X1_findClasses_b111 c Q f g g' r m (4 * r + m) t N2 := fun N2 a b d => by
    unfold w_X1_findClasses_b111
    exact ⟨by unfold ri_; omega, ih3 _ _ _ _ _ ⟨rfl, rfl, rfl, by omega, by omega, a, b, d, fun k => absurd k9 k⟩ (by omega)⟩
  refine p_isNamed hY' (by rw [o 8 (by omega), eu6]; exact pt) (fun l1 l2 _ => ⟨fun x => absurd x (by decide), fun _ => ⟨by omega, by omega, fun v12 e12 _ => ⟨by omega, by omega, fun M13 e13 => go M13 (fun q a => by rw [e13, ux_g _ _ _ a]; exact hN' q a) (fun j hj => by rw [e13, ux_i _ _ _ hj]; exact hJ j hj) ?_⟩⟩⟩) (fun l _ => ⟨fun _ => go N' hN' hJ ?_, fun x => absurd rfl x⟩)
  · rw [e13, ux_s, e12]
    refine BS_e (BS_or hBt t0 (by omega)) (fun j => ⟨fun x => ?_, fun x => ?_⟩)
    · rcases x with x | x
      · exact ⟨by have := x.1; omega, x.2⟩
      · rw [x]; exact ⟨by omega, ct.mp ⟨l1, l2⟩⟩
    · by_cases e : (j : Int) = t
      · exact Or.inr e
      · exact Or.inl ⟨by have := x.1; omega, x.2⟩
  · refine BS_e hBt (fun j => ⟨fun x => ⟨by have := x.1; omega, x.2⟩, fun x => ⟨?_, x.2⟩⟩)
    have e : (j : Int) ≠ t := fun e => l (ct.mpr (by rw [← e]; exact x.2))
    have := x.1; omega
theorem p_work {D R0 A : MM} {c : Nat} (hY : Rty D R0) (hw : PW D c) (hc : isP c) (n40 : D c 0 ≤ 40) (oA : OKW A) (hA : ∀ q, 262 ≤ q → q ≤ 270 → D q = A q) (h3 : D 261 3 = A 261 3) {Q : Int → MM → Prop} (hq : ∀ C' K, (∀ q, q < 274 ∨ 279 < q → C' q = D q) → FBc A (D c 0) (clD D c A) K C' → LstK A (D c 0) (clD D c A) (K0_ D c) K → Q 0 C') : w_X1_workOut c Q D := by
  have n0 := hw.1
  have cb : c ≤ 178 := by unfold isP at hc; omega
  unfold w_X1_workOut
  intro M1 e1 v2 e2 _ M3 e3 v4 e4 _ M5 e5
  rw [e1, ux_g _ _ _ (by omega)] at e2
  rw [e3, ux_s, e2, show min (D c 0) 40 = D c 0 from by omega] at e4
  have o5 : ∀ q, q ≠ 274 → M5 q = D q := fun q a => by rw [e5, ux_g _ _ _ a, e3, ux_g _ _ _ a, e1, ux_g _ _ _ a]
  have x1 : M5 274 1 = D c 0 := by rw [e5, ux_i _ _ _ (by decide), e3, ux_s, e2]; omega
  have x2 : M5 274 2 = w64 (jlshl 1 (D c 0) - 1) := by rw [e5, ux_s, e4]
  have x8 : M5 274 8 = ((261 : Nat) : Int) := by rw [e5, ux_i _ _ _ (by decide), e3, ux_i _ _ _ (by decide), e1, ux_s]
  refine p_fillL (by decide) (p_fillL (by decide) (p_fillL (by decide) ?_))
  obtain ⟨M6, e6⟩ : ∃ M6, M6 = filled (filled (filled M5 275 0 ((360 : Nat) : Int) 0) 276 0 ((360 : Nat) : Int) 0) 277 0 ((9 : Nat) : Int) 0 := ⟨_, rfl⟩
  rw [← e6]
  have o6 : ∀ q, q ≠ 275 → q ≠ 276 → q ≠ 277 → M6 q = M5 q := fun q a b d => by
    funext i
    rw [e6]; unfold filled
    rw [if_neg (fun y => d y.1), if_neg (fun y => b y.1), if_neg (fun y => a y.1)]
  have z5 : ∀ i, 0 ≤ i → i < 360 → M6 275 i = 0 := fun i a b => by
    rw [e6]; unfold filled
    rw [if_neg (fun y => absurd y.1 (by decide)), if_neg (fun y => absurd y.1 (by decide)), if_pos ⟨rfl, a, by omega⟩]
  have z6 : ∀ i, 0 ≤ i → i < 360 → M6 276 i = 0 := fun i a b => by
    rw [e6]; unfold filled
    rw [if_neg (fun y => absurd y.1 (by decide)), if_pos ⟨rfl, a, by omega⟩]
  have z7 : ∀ i, 0 ≤ i → i < 9 → M6 277 i = 0 := fun i a b => by
    rw [e6]; unfold filled
    rw [if_pos ⟨rfl, a, by omega⟩]
  have kx0 : KX M6 (fun _ _ _ => False) := ⟨fun k a k0 k1 a0 a1 => ⟨by rw [z5 _ (by omega) (by omega)]; exact BS_0 (fun _ => id), by rw [z6 _ (by omega) (by omega)]; exact BS_0 (fun _ => id)⟩, fun k k0 k1 => by rw [z7 _ k0 k1]; exact BS_0 (fun _ => id)⟩
  have d6 : ∀ q, q < 274 ∨ 279 < q → M6 q = D q := fun q a => by rw [o6 q (by omega) (by omega) (by omega), o5 q (by omega)]
  refine p_given hY hw hc n40 (fun q a => d6 q (by omega)) (by rw [o6 274 (by decide) (by decide) (by decide)]; exact x1) kx0 (fun C1 f1 kx1 => ?_)
  have c8 : C1 274 8 = ((261 : Nat) : Int) := by rw [f1.2 8 (by decide), o6 274 (by decide) (by decide) (by decide)]; exact x8
  have c1 : C1 274 1 = D c 0 := by rw [f1.2 1 (by decide), o6 274 (by decide) (by decide) (by decide)]; exact x1
  have c2 : C1 274 2 = w64 (jlshl 1 (D c 0) - 1) := by rw [f1.2 2 (by decide), o6 274 (by decide) (by decide) (by decide)]; exact x2
  have d1 : ∀ q, q < 274 ∨ 279 < q → C1 q = D q := fun q a => by rw [f1.1 q (by omega) (by omega) (by omega) (by omega)]; exact d6 q a
  refine p_classes hY hw hc n40 oA (fun q a => d1 q (by omega)) c8 c1 (fun q a b => by rw [d1 q (by omega)]; exact hA q a b) (by rw [d1 261 (by omega)]; exact h3) (fun C2 f2 hcl M16 e16 => ?_)
  have d16 : ∀ q, q < 274 ∨ 279 < q → M16 q = D q := fun q a => by rw [e16, ux_g _ _ _ (by omega), f2 q (by omega)]; exact d1 q a
  have i16 : ∀ i, i ≠ 9 → M16 274 i = C1 274 i := fun i hi => by rw [e16, ux_i _ _ _ hi, f2 274 (by decide)]
  have F16 : FBc A (D c 0) (clD D c A) (K0_ D c) M16 := ⟨by rw [i16 8 (by decide)]; exact c8, by rw [i16 1 (by decide)]; exact c1, by rw [i16 2 (by decide), c2]; exact BS_full n0 n40, KX_f kx1 (fun q hq' => by rw [e16, ux_g _ _ _ (by omega), f2 q (by omega)]), fun q a b => by rw [d16 q (by omega)]; exact hA q a b, by rw [d16 261 (by omega)]; exact h3, fun r m a b d e k => by rw [e16, ux_g _ _ _ (by decide)]; exact hcl r m a b d e k⟩
  have s16 : M16 274 9 = 1 := by rw [e16, ux_s]
  unfold w_X1_workOut_b71
  refine loop2 _ (fun (x3 : Int) M => 0 ≤ x3 ∧ (∀ q, q < 274 ∨ 279 < q → M q = D q) ∧ ∃ K, FBc A (D c 0) (clD D c A) K M ∧ leK (K0_ D c) K ∧ (∀ L, leK (K0_ D c) L → Clsd A (D c 0) (clD D c A) L → leK K L) ∧ (M 274 9 = 0 ∧ Clsd A (D c 0) (clD D c A) K ∧ x3 ≤ mK K + 1 ∨ M 274 9 = 1 ∧ x3 ≤ mK K)) (fun x3 _ => (9602 - x3).toNat) ?_ _ _ ⟨by omega, d16, K0_ D c, F16, leK_r _, fun _ h _ => h, Or.inr ⟨s16, by omega⟩⟩
  rintro x3 M f ⟨x0, dM, K, hF, hl, hs, hz⟩ ih
  have mb := mK_le K
  unfold wb_X1_workOut_b71
  refine ⟨fun z => by omega, fun z v2' e2' _ => ⟨fun y => ?_, fun y M4 e4' => ?_⟩⟩
  · rcases hz with hz | hz
    · exact hq M K dM hF ⟨hl, hz.2.1, hs⟩
    · omega
  have h1 : M 274 9 = 1 ∧ x3 ≤ mK K := by
    rcases hz with hz | hz
    · omega
    · exact hz
  have f4 : FTt M M4 := ⟨fun q a _ _ _ _ => by rw [e4', ux_g _ _ _ a], fun i hi => by rw [e4', ux_i _ _ _ hi]⟩
  have F4 : FBc A (D c 0) (clD D c A) K M4 := FBc_f hF f4 (KX_f hF.2.2.2.1 (fun q hq' => by rw [e4', ux_g _ _ _ (by omega)]))
  have s4 : M4 274 9 = 0 := by rw [e4', ux_s]
  have d4 : ∀ q, q < 274 ∨ 279 < q → M4 q = D q := fun q a => by rw [e4', ux_g _ _ _ (by omega)]; exact dM q a
  unfold w_X1_workOut_b92
  refine loop3 _ (fun (x r : Int) N => x3 = x ∧ 0 ≤ r ∧ r ≤ A 261 3 ∧ ∃ K', STp A (D c 0) (clD D c A) M4 K N K' ∧ (N 274 9 = 0 → ∀ r', 0 ≤ r' → r' < r → CPk A (D c 0) (clD D c A) K r' 0 (fun _ => 0))) (fun _ r _ => (A 261 3 - r).toNat) ?_ _ _ _ ⟨rfl, by omega, oA.2.2.1, K, STp_r F4 (Or.inl s4), fun _ r' a b => by omega⟩
  rintro _ r N g ⟨rfl, r0, r1, K', hS, hC⟩ ih2
  have dN : ∀ q, q < 274 ∨ 279 < q → N q = D q := fun q a => by rw [hS.2.1.1 q (by omega) (by omega) (by omega) (by omega) (by omega)]; exact d4 q a
  unfold wb_X1_workOut_b92
  refine ⟨hS.1.1, fun v2'' e2'' _ => ?_⟩
  rw [hS.1.2.2.2.2.2.1] at e2''
  rw [e2'']
  refine ⟨fun w => ⟨by unfold ri_; omega, ih _ _ ⟨by omega, dN, K', hS.1, leK_t hl hS.2.2.1, fun L a b => hS.2.2.2.1 L (hs L a b) b, ?_⟩ (by omega)⟩, fun w => ?_⟩
  · rcases hS.2.2.2.2.1 with k | k
    · have l := (hS.2.2.2.2.2.1 k).2
      refine Or.inl ⟨k, fun r' β a b bd st => ?_, ?_⟩
      · exact CPk_e hS.2.2.1 l (hC k r' a (by omega)) β (fun w w0 w1 => by omega) bd st
      · have : mK K ≤ mK K' := cntB_m (fun j _ y => (bK_t K' j).mpr (hS.2.2.1 _ _ _ ((bK_t K j).mp y)))
        omega
    · refine Or.inr ⟨k, ?_⟩
      rcases hS.2.2.2.2.2.2 k with u | u
      · omega
      · have := mK_lt hS.2.2.1 u
        omega
  have rl := oA.2.2.2.2.2 r r0 (by omega)
  have r12 := oA.2.2.2.1
  unfold w_X1_tryThings
  refine p_try oA.2.2.2.2.2 oA.2.2.2.1 oA.2.1 n40 12 r 0 N K' r0 (by omega) (by omega) (by have := rl.2.2.2.2.1; have := rl.2.2.2.2.2.1; omega) (by have := rl.2.2.2.2.2.2.2.2.1; omega) hS.1 (fun w a b => by omega) (fun m m0 m1 hm => ?_) hS.2.2.2.2.1 _ (fun C' K'' hT hf hc' => ⟨by unfold ri_; omega, ih2 _ _ _ ⟨rfl, by omega, by omega, K'', STp_t hS hT, fun z' r' a b => ?_⟩ (by omega)⟩)
  · have := (rl.2.2.2.2.2.2.2.2.2 m m0 m1).1
    omega
  · have zN := (hT.2.2.2.2.2.1 z').1
    by_cases e : r' = r
    · rw [e]
      exact CPk_w (fun w a b => by omega) (CPk_e (hS.2.2.2.2.2.1 zN).2 hS.2.2.1 (hc' z'))
    · exact hC zN r' a (by omega)
