/-! a set of classes as bits -/
theorem sh_k : ∀ k : Fin 16, ((Ii ((k.val : Nat) : Int) &&& 31).toBitVec.smod 32).toNat = k.val := by decide
theorem jshl_1 : ∀ k : Fin 16, jshl 1 ((k.val : Nat) : Int) = ((2 ^ k.val : Nat) : Int) := by decide
theorem jshr_k {n k : Nat} (hn : n < 65536) (hk : k < 16) : jshr (n : Int) (k : Int) = ((n / 2 ^ k : Nat) : Int) := by
  unfold jshr
  rw [pk_shr (Ii n) (Ii k &&& 31) k (sh_k ⟨k, hk⟩), Ii_toInt (by unfold ri_; omega), Int.shiftRight_eq_div_pow]
  exact (Int.natCast_ediv n (2 ^ k)).symm
theorem jand_1 (x : Int) : jand x 1 = x % 2 := by
  unfold jand
  rw [pk_and (Ii x) (m := Ii 1) 1 (by decide), Ii_nat, nI_toInt (by omega)]
  show ((((x % 4294967296).toNat % 2 : Nat)) : Int) = x % 2
  omega
theorem bit_t {n k : Nat} (hn : n < 65536) (hk : k < 16) : jand (jshr (n : Int) (k : Int)) 1 = 0 ↔ n.testBit k = false := by
  rw [jshr_k hn hk, jand_1, Nat.testBit_eq_decide_div_mod_eq]
  simp only [decide_eq_false_iff_not]
  omega
theorem or_k {n k : Nat} (hn : n < 65536) (hk : k < 16) : jor (n : Int) (jshl 1 (k : Int)) = ((n ||| 2 ^ k : Nat) : Int) ∧ n ||| 2 ^ k < 65536 := by
  have h2 : 2 ^ k < 2 ^ 16 := Nat.pow_lt_pow_right (by omega) hk
  have h3 : n ||| 2 ^ k < 2 ^ 16 := Nat.or_lt_two_pow hn h2
  have e := jshl_1 ⟨k, hk⟩
  refine ⟨?_, h3⟩
  rw [show jshl 1 (k : Int) = ((2 ^ k : Nat) : Int) from e]
  unfold jor
  refine i_ofn ?_ (by omega)
  rw [Int32.toBitVec_or, BitVec.toNat_or, Ii_nat, Ii_nat]
  generalize 2 ^ k = y at *
  rw [show (((n : Nat) : Int) % 4294967296).toNat = n from by omega, show (((y : Nat) : Int) % 4294967296).toNat = y from by omega]
/-- the classes that a name picks -/
def pk_ (M0 : MM) (ow D : Int) (j : Int) : Prop := (ow = 0 ∧ isN M0 j D) ∨ (ow = 1 ∧ M0 9 j = D)
theorem p_cls {Q : Int → MM → Prop} {M0 R0 M : MM} {D ow : Int} (hY : Rty M0 R0) (hC : CB M0 M) (ho : ow = 0 ∨ ow = 1) (hq : ∀ n : Nat, n < 65536 → (∀ j : Nat, j < 16 → (n.testBit j = true ↔ (j : Int) < M0 8 0 ∧ pk_ M0 ow D j)) → Q n M) : w_X4_classesNamed Q D ow M := by
  have h16 := hY.2.2.1
  have h0 := hY.2.1
  have e8 : M 8 = M0 8 := hC.1 8 (by omega)
  have e9 : M 9 = M0 9 := hC.1 9 (by omega)
  have hYM := Y_c hY hC
  unfold w_X4_classesNamed w_X4_classesNamed_b6
  refine loop5 _ (fun (a b x k : Int) M1 => D = a ∧ ow = b ∧ M1 = M ∧ 0 ≤ k ∧ k ≤ M0 8 0 ∧ ∃ n : Nat, x = n ∧ n < 65536 ∧ ∀ j : Nat, j < 16 → (n.testBit j = true ↔ (j : Int) < k ∧ pk_ M0 ow D j)) (fun _ _ _ (k : Int) _ => (M0 8 0 - k).toNat) ?_ _ _ _ _ _ ⟨rfl, rfl, rfl, by omega, by omega, 0, rfl, by omega, fun j hj => ⟨fun z => absurd z (by rw [Nat.zero_testBit]; decide), fun z => by omega⟩⟩
  rintro _ _ x k M1 f ⟨rfl, rfl, rfl, k0, k1, n, rfl, hn, hb⟩ ih
  unfold wb_X4_classesNamed_b6
  intro v1 e1 _
  rw [e8] at e1
  refine ⟨fun z => hq n hn (fun j hj => by rw [hb j hj, show k = M0 8 0 from by omega]), fun z => ?_⟩
  have n62 : ¬ pk_ M0 ow D k → w_X4_classesNamed_b62 Q f D ow n k M1 := fun hp => by
    unfold w_X4_classesNamed_b62
    refine ⟨by unfold ri_; omega, ih _ _ _ _ _ ⟨rfl, rfl, rfl, by omega, by omega, n, rfl, hn, fun j hj => ?_⟩ (by omega)⟩
    rw [hb j hj]
    refine ⟨fun y => ⟨by omega, y.2⟩, fun y => ⟨?_, y.2⟩⟩
    by_cases e : (j : Int) = k
    · rw [e] at y; exact absurd y.2 hp
    · omega
  have n53 : pk_ M0 ow D k → w_X4_classesNamed_b53 Q f D ow n k M1 := fun hp => by
    unfold w_X4_classesNamed_b53 w_X4_classesNamed_b62
    obtain ⟨kn, rfl⟩ : ∃ kn : Nat, k = kn := ⟨k.toNat, by omega⟩
    obtain ⟨g1, g2⟩ := or_k hn (show kn < 16 by omega)
    refine ⟨by unfold ri_; omega, ih _ _ _ _ _ ⟨rfl, rfl, rfl, by omega, by omega, _, g1, g2, fun j hj => ?_⟩ (by omega)⟩
    rw [Nat.testBit_or, Bool.or_eq_true, hb j hj, Nat.testBit_two_pow, decide_eq_true_eq]
    refine ⟨fun y => ?_, fun y => ?_⟩
    · rcases y with y | y
      · exact ⟨by omega, y.2⟩
      · rw [← y]; exact ⟨by omega, hp⟩
    · by_cases e : kn = j
      · exact Or.inr e
      · exact Or.inl ⟨by omega, y.2⟩
  refine ⟨fun zo => p_isNamed hYM (by unfold vT; rw [e8]; omega) (fun _ hN _ => ⟨fun y => absurd y (by decide), fun _ => n53 (Or.inl ⟨zo, (isN_c hC _ _).mp hN⟩)⟩) (fun hN _ => ⟨fun _ => n62 ?_, fun y => absurd rfl y⟩), fun zo => ⟨k0, by omega, fun v7 e7 _ => ?_⟩⟩
  · rintro (⟨-, h⟩ | ⟨h, -⟩)
    · exact hN ⟨by omega, (isN_c hC _ _).mpr h⟩
    · omega
  · rw [e9] at e7
    refine ⟨fun z7 => n62 ?_, fun z7 => n53 (Or.inr ⟨by omega, by omega⟩)⟩
    rintro (⟨h, -⟩ | ⟨-, h⟩)
    · exact zo h
    · exact z7 (by rw [e7]; exact h)
