/-! recall, on both sides -/
theorem p_readRec {Q : Int → MM → Prop} {C R0 : MM} {c K num : Nat} {g : Int} {ps : Nat → Int} (hY : Rty C R0) (hL : Rlk C) (hc : isP c) (hP : PF C c) (hG : LG C ps K g) (h4 : C 280 4 = g) (hn : num < K) (hq : ∀ E M, EMd C E c 282 (ps num + 2) (lnL C (ps num)) → Rty E R0 → Rlk E → (dcF E (bL C (ps num)) (lnL C (ps num))).1 = 0 → (∀ u : Nat, u < (nvl (bL C (ps num)) (lnL C (ps num)) 0).toNat → tY E (bL C (ps num)) (lnL C (ps num)) u < 20 → C 12 (tY E (bL C (ps num)) (lnL C (ps num)) u) = 1) → FDw E M c → DOK E M c (ps num + 2) (lnL C (ps num)) (bL C (ps num)) (nvl (bL C (ps num)) (lnL C (ps num)) 0) → (∀ k, ¬ (c ≤ k ∧ k ≤ c + 18) → k ≠ 280 → k ≠ 283 → k ≠ 284 → M k = C k) → (∀ i, i ∉ ([6, 7, 8, 9, 10, 13, 14] : List Int) → M 280 i = C 280 i) → PW M c → Q 1 M) : w_X0_readRecord c Q num C := by
  have g8 := hG.2.2.1
  have K8 := hG.2.2.2.1
  have by_ := hG.2.2.2.2.1
  unfold w_X0_readRecord w_X0_readRecord_b5
  refine loop4 _ (fun (x1 x3 x4 : Int) M => (num : Int) = x1 ∧ C = M ∧ ∃ j : Nat, x4 = j ∧ j ≤ num ∧ x3 = ps j) (fun (x1 _ x4 : Int) _ => (x1 - x4).toNat) ?_ _ _ _ _ ⟨rfl, rfl, 0, rfl, by omega, hG.1.symm⟩
  rintro _ x3 x4 _ f ⟨rfl, rfl, j, rfl, jn, rfl⟩ ih
  have pj := LG_0 hG (i := j) (by omega)
  have y := hG.2.2.2.2.2 j (by omega)
  unfold wb_X0_readRecord_b5
  refine ⟨fun z => ?_, fun z => ⟨fun w => by omega, fun _ => p_recEnd (n := g) pj.1 (by omega) h4 g8 by_ (fun w => by omega) (fun w1 w2 => by omega) (fun w1 w2 _ => ⟨by unfold ri_; omega, ih _ _ _ _ ⟨rfl, rfl, j + 1, by omega, by omega, y.2.2.1.symm⟩ (by omega)⟩)⟩⟩
  have ej : j = num := by omega
  subst ej
  unfold w_X0_readRecord_b28
  refine ⟨fun _ => p_recEnd (n := g) pj.1 (by omega) h4 g8 by_ (fun w => by omega) (fun w1 w2 => by omega) (fun w1 w2 _ => ?_), fun w => by omega⟩
  unfold w_X0_readRecord_b42
  refine ⟨fun w => by omega, fun _ => ⟨by unfold ri_; omega, p_decR (B := bL C (ps j)) hY hL hc hP pj.1 (by omega) (by omega) (fun i i0 i1 => bL_b by_ y.1 (by omega) i0 i1) y.2.2.2.2 fun E M a1 a2 a3 a4 a5 a6 a7 a8 a9 a10 _ => ⟨fun w => absurd w (by decide), fun _ => hq E M a1 a2 a3 a4 a5 a6 a7 a8 a9 a10⟩⟩⟩
theorem Rpb_dec {E M M4 M9 A8 R0 : MM} {c : Nat} {b0 n cn p : Int} {B : Int → Int} (hYE : Rty E R0) (hD : DOK E M c b0 n B cn) (kM : ∀ k, c ≤ k → k ≤ c + 18 → M4 k = M k) (e16 : M4 16 = E 16) (hR8 : ROK E A8 n B cn) (k38 : M9 38 p = cn) (kt : ∀ u : Nat, u < cn.toNat → M9 39 (400 * p + u) = tO E B n u ∧ M9 40 (400 * p + u) = tY E B n u ∧ M9 41 (400 * p + u) = tL E B n u ∧ M9 42 (400 * p + u) = tF E B n u) (kv : ∀ i, 0 ≤ i → i < 4000 → M9 58 (4000 * p + i) = A8 58 (16000 + i)) (k55 : M9 55 p = rC E B n cn) (kr : ∀ r : Nat, r < (rC E B n cn).toNat → M9 56 (128 * p + r) = rN E B n cn r ∧ M9 57 (128 * p + r) = rQ E B n cn r) : M4 c 0 = cn ∧ Rpb M4 M9 c p := by
  obtain ⟨hA, hK, hsl, hl, hrc0, hrc1, hrt, hKR, hW⟩ := id hD
  obtain ⟨c0, c4, hA'⟩ := id hA
  have ec0 : M4 c 0 = cn := by rw [kM c (by omega) (by omega), hK.1]; omega
  have pc : ∀ T : Nat, (T : Int) < cn → pcn M4 c T = tN E B n T := fun T hT => by
    have q := hK.2.2.1 T (by omega)
    unfold pcn tN so
    rw [kM (c + 2) (by omega) (by omega), kM (c + 3) (by omega) (by omega), q.2.1, q.2.2.1, e16]
  have tl' : ∀ u : Nat, u ≤ cn.toNat → 0 ≤ tF E B n u ∧ tF E B n u ≤ tF E B n cn.toNat := fun u hu => tF_le hYE (t := cn.toNat) (fun u hu => (hA' u (by omega)).1) hu
  refine ⟨ec0, by rw [ec0, k38], fun t a b => ?_, fun t k a b d f => ?_, ?_, fun r a b => ?_⟩
  · obtain ⟨T, rfl⟩ : ∃ T : Nat, t = T := ⟨t.toNat, by omega⟩
    have q := hK.2.2.1 T (by omega)
    have q' := kt T (by omega)
    rw [kM (c + 1) (by omega) (by omega), kM (c + 2) (by omega) (by omega), kM (c + 3) (by omega) (by omega), kM (c + 4) (by omega) (by omega), q.1, q.2.1, q.2.2.1, KT_4 hK (u := T) (by omega), q'.1, q'.2.1, q'.2.2.1, q'.2.2.2]
    exact ⟨rfl, rfl, rfl, rfl⟩
  · obtain ⟨T, rfl⟩ : ∃ T : Nat, t = T := ⟨t.toNat, by omega⟩
    obtain ⟨K, rfl⟩ : ∃ K : Nat, k = K := ⟨k.toNat, by omega⟩
    rw [ec0] at b
    rw [pc T b] at f
    have f4 := (hA' T b).1.2.2.2.2.2.2.2.1
    have t0 := (tl' T (by omega)).1
    rw [kM (c + 9) (by omega) (by omega), kM (c + 4) (by omega) (by omega), KT_4 hK (u := T) (by omega), (hsl T (by omega) K (by omega)).1, kv _ (by omega) (by omega), (hR8.2.2.1 T (by omega) K (by omega)).1]
  · rw [kM c (by omega) (by omega), hKR.1, k55]; omega
  · have e11 : M4 c 11 = rC E B n cn := by rw [kM c (by omega) (by omega), hKR.1]; omega
    obtain ⟨T, rfl⟩ : ∃ T : Nat, r = T := ⟨r.toNat, by omega⟩
    rw [kM (c + 11) (by omega) (by omega), kM (c + 12) (by omega) (by omega), (hKR.2 T (by omega)).1, (hKR.2 T (by omega)).2, (kr T (by omega)).1, (kr T (by omega)).2]
    exact ⟨rfl, rfl⟩
