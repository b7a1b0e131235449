/-! a set of things as the bits of a long -/
def BS (v : Int) (P : Int → Prop) : Prop := ∃ n : Nat, v = n ∧ n < 1099511627776 ∧ ∀ j : Nat, n.testBit j = true ↔ P j
theorem lsh_k : ∀ k : Fin 41, jlshl 1 ((k.val : Nat) : Int) = ((2 ^ k.val : Nat) : Int) := by decide
theorem lsk_k : ∀ k : Fin 40, (((Ii ((k.val : Nat) : Int)).toInt64 &&& 63).toBitVec.smod 64).toNat = k.val := by decide
theorem lclr_k : ∀ k : Fin 40, (Ll (jlxor (jlshl 1 ((k.val : Nat) : Int)) (-1))).toBitVec = ~~~ (BitVec.ofNat 64 (2 ^ k.val)) := by decide
theorem lfull_k : ∀ k : Fin 41, w64 (jlshl 1 ((k.val : Nat) : Int) - 1) = ((2 ^ k.val - 1 : Nat) : Int) := by decide
theorem BS_0 {P : Int → Prop} (h : ∀ j : Nat, ¬ P j) : BS 0 P := ⟨0, rfl, by decide, fun j => by rw [Nat.zero_testBit]; exact ⟨fun z => absurd z (by decide), fun z => absurd z (h j)⟩⟩
theorem BS_e {v : Int} {P P' : Int → Prop} (h : BS v P) (e : ∀ j : Nat, P j ↔ P' j) : BS v P' := by
  obtain ⟨n, a, b, c⟩ := h
  exact ⟨n, a, b, fun j => (c j).trans (e j)⟩
theorem BS_lt {v : Int} {P : Int → Prop} (h : BS v P) {j : Int} (j0 : 0 ≤ j) (hj : P j) : j < 40 := by
  obtain ⟨n, a, b, c⟩ := h
  obtain ⟨m, rfl⟩ : ∃ m : Nat, j = m := ⟨j.toNat, by omega⟩
  have := (c m).mpr hj
  by_cases y : m < 40
  · omega
  · have z : n.testBit m = false := Nat.testBit_lt_two_pow (Nat.lt_of_lt_of_le b (by
      have : 2 ^ 40 ≤ 2 ^ m := Nat.pow_le_pow_right (by omega) (by omega)
      exact this))
    rw [z] at this; exact absurd this (by decide)
theorem BS_z {P : Int → Prop} (h : BS 0 P) (j : Int) (j0 : 0 ≤ j) : ¬ P j := by
  obtain ⟨n, a, b, c⟩ := h
  obtain ⟨m, rfl⟩ : ∃ m : Nat, j = m := ⟨j.toNat, by omega⟩
  have e : n = 0 := by omega
  rw [e] at c
  intro z
  have := (c m).mpr z
  rw [Nat.zero_testBit] at this; exact absurd this (by decide)
theorem BS_bit {v k : Int} {P : Int → Prop} (h : BS v P) (k0 : 0 ≤ k) (k1 : k < 40) : jland (jlshr v k) 1 = 0 ↔ ¬ P k := by
  obtain ⟨n, rfl, b, c⟩ := h
  obtain ⟨m, rfl⟩ : ∃ m : Nat, k = m := ⟨k.toNat, by omega⟩
  have e : jlshr (n : Int) (m : Int) = ((n / 2 ^ m : Nat) : Int) := by
    unfold jlshr
    rw [l_shr (Ll n) _ m (lsk_k ⟨m, by omega⟩), Ll_toInt (by unfold rl_; omega), Int.shiftRight_eq_div_pow]
    exact (Int.natCast_ediv n (2 ^ m)).symm
  rw [e, jland_1, ← c m, Nat.testBit_eq_decide_div_mod_eq]
  simp only [decide_eq_true_eq]
  omega
theorem jland_n {n m : Nat} (hn : n < 9223372036854775808) (hm : m < 9223372036854775808) : jland (n : Int) (m : Int) = ((n &&& m : Nat) : Int) := by
  unfold jland
  refine l_ofn ?_ (Nat.lt_of_le_of_lt Nat.and_le_left hn)
  rw [Int64.toBitVec_and, BitVec.toNat_and, Ll_nat, Ll_nat]
  rw [show (((n : Nat) : Int) % 18446744073709551616).toNat = n from by omega, show (((m : Nat) : Int) % 18446744073709551616).toNat = m from by omega]
theorem BS_and {u v : Int} {P P' : Int → Prop} (h : BS v P) (h' : BS u P') : BS (jland v u) (fun j => P j ∧ P' j) := by
  obtain ⟨n, rfl, b, c⟩ := h
  obtain ⟨m, rfl, b', c'⟩ := h'
  refine ⟨n &&& m, jland_n (by omega) (by omega), Nat.lt_of_le_of_lt Nat.and_le_left b, fun j => ?_⟩
  rw [Nat.testBit_and, Bool.and_eq_true, c j, c' j]
theorem BS_or {v k : Int} {P : Int → Prop} (h : BS v P) (k0 : 0 ≤ k) (k1 : k < 40) : BS (jlor v (jlshl 1 k)) (fun j => P j ∨ j = k) := by
  obtain ⟨n, rfl, b, c⟩ := h
  obtain ⟨m, rfl⟩ : ∃ m : Nat, k = m := ⟨k.toNat, by omega⟩
  have h2 : 2 ^ m < 2 ^ 40 := Nat.pow_lt_pow_right (by omega) (by omega)
  have h3 : n ||| 2 ^ m < 2 ^ 40 := Nat.or_lt_two_pow b h2
  refine ⟨n ||| 2 ^ m, ?_, h3, fun j => ?_⟩
  · rw [show jlshl 1 (m : Int) = ((2 ^ m : Nat) : Int) from lsh_k ⟨m, by omega⟩]
    unfold jlor
    refine l_ofn ?_ (Nat.lt_trans h3 (by decide))
    rw [Int64.toBitVec_or, BitVec.toNat_or, Ll_nat, Ll_nat]
    generalize 2 ^ m = y at *
    rw [show (((n : Nat) : Int) % 18446744073709551616).toNat = n from by omega, show (((y : Nat) : Int) % 18446744073709551616).toNat = y from by omega]
  · rw [Nat.testBit_or, Bool.or_eq_true, c j, Nat.testBit_two_pow, decide_eq_true_eq]
    have : m = j ↔ (j : Int) = m := by omega
    rw [this]
theorem BS_clr {v k : Int} {P : Int → Prop} (h : BS v P) (k0 : 0 ≤ k) (k1 : k < 40) : BS (jland v (jlxor (jlshl 1 k) (-1))) (fun j => P j ∧ j ≠ k) := by
  obtain ⟨n, rfl, b, c⟩ := h
  obtain ⟨m, rfl⟩ : ∃ m : Nat, k = m := ⟨k.toNat, by omega⟩
  have e : (Ll n &&& Ll (jlxor (jlshl 1 (m : Int)) (-1))).toBitVec.toNat = n &&& (~~~ (BitVec.ofNat 64 (2 ^ m))).toNat := by
    rw [Int64.toBitVec_and, BitVec.toNat_and, Ll_nat, lclr_k ⟨m, by omega⟩]
    rw [show (((n : Nat) : Int) % 18446744073709551616).toNat = n from by omega]
  have le : n &&& (~~~ (BitVec.ofNat 64 (2 ^ m))).toNat ≤ n := Nat.and_le_left
  refine ⟨n &&& (~~~ (BitVec.ofNat 64 (2 ^ m))).toNat, by unfold jland; exact l_ofn e (by omega), by omega, fun j => ?_⟩
  rw [Nat.testBit_and, Bool.and_eq_true, c j]
  refine and_congr_right fun hp => ?_
  have j40 := BS_lt ⟨n, rfl, b, c⟩ (by omega) hp
  rw [← BitVec.getLsbD, BitVec.getLsbD_not, BitVec.getLsbD_ofNat, Nat.testBit_two_pow]
  have hj : j < 64 := by omega
  simp only [hj, decide_true, Bool.true_and, Bool.not_eq_true', decide_eq_false_iff_not]
  omega
theorem BS_full {n : Int} (n0 : 0 ≤ n) (n1 : n ≤ 40) : BS (w64 (jlshl 1 n - 1)) (fun j => j < n) := by
  obtain ⟨m, rfl⟩ : ∃ m : Nat, n = m := ⟨n.toNat, by omega⟩
  have h2 : 2 ^ m ≤ 2 ^ 40 := Nat.pow_le_pow_right (by omega) (by omega)
  have h3 : 0 < 2 ^ m := Nat.two_pow_pos _
  refine ⟨2 ^ m - 1, lfull_k ⟨m, by omega⟩, by omega, fun j => ?_⟩
  rw [Nat.testBit_two_pow_sub_one, decide_eq_true_eq]
  omega
/-- how many of the first n are so -/
def cntB (f : Nat → Bool) : Nat → Nat
  | 0 => 0
  | n + 1 => cntB f n + if f n then 1 else 0
theorem cntB_le (f : Nat → Bool) (n : Nat) : cntB f n ≤ n := by
  induction n with
  | zero => exact Nat.le_refl _
  | succ n ih => unfold cntB; split <;> omega
theorem cntB_e {f g : Nat → Bool} : ∀ {n : Nat}, (∀ j, j < n → f j = g j) → cntB f n = cntB g n := by
  intro n
  induction n with
  | zero => intro _; rfl
  | succ n ih => intro h; unfold cntB; rw [ih (fun j hj => h j (by omega)), h n (by omega)]
theorem cntB_add (f : Nat → Bool) (a : Nat) : ∀ b : Nat, cntB f (a + b) = cntB f a + cntB (fun j => f (a + j)) b := by
  intro b
  induction b with
  | zero => rfl
  | succ b ih =>
    show cntB f (a + b) + (if f (a + b) then 1 else 0) = cntB f a + (cntB (fun j => f (a + j)) b + if f (a + b) then 1 else 0)
    rw [ih, Nat.add_assoc]
