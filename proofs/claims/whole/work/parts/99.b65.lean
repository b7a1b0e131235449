/-! what was written is read again: numbers -/
theorem l_shl (v s : Int64) (k : Nat) (hs : (s.toBitVec.smod 64).toNat = k) : (v <<< s).toBitVec = v.toBitVec <<< k := by rw [← hs]; rfl
theorem sh7k (k : Nat) (hk : k ≤ 9) : (((Ii (7 * (k : Int))).toInt64 &&& 63).toBitVec.smod 64).toNat = 7 * k := by
  have : k = 0 ∨ k = 1 ∨ k = 2 ∨ k = 3 ∨ k = 4 ∨ k = 5 ∨ k = 6 ∨ k = 7 ∨ k = 8 ∨ k = 9 := by omega
  rcases this with rfl | rfl | rfl | rfl | rfl | rfl | rfl | rfl | rfl | rfl <;> decide
theorem p128 (k : Nat) : (128 : Int) ^ k = ((2 ^ (7 * k) : Nat) : Int) := by
  induction k with
  | zero => rfl
  | succ k ih =>
    rw [Int.pow_succ, ih, show 7 * (k + 1) = 7 * k + 7 from by omega, Nat.pow_add]
    rw [show (2 : Nat) ^ 7 = 128 from by decide]
    omega
theorem or_add {v d : Int} (k : Nat) (hk : k ≤ 9) (v0 : 0 ≤ v) (v1 : v < 128 ^ k) (d0 : 0 ≤ d) (hd : v + d * 128 ^ k < 18446744073709551616) : jlor v (jlshl d (7 * (k : Int))) = w64 (v + d * 128 ^ k) := by
  have e : (Ll v ||| (Ll d <<< ((Ii (7 * (k : Int))).toInt64 &&& 63))) = Ll (v + d * 128 ^ k) := by
    apply Int64.toBitVec_inj.mp
    apply BitVec.eq_of_toNat_eq
    have p := p128 k
    have pp : 0 < (2 : Nat) ^ (7 * k) := Nat.two_pow_pos _
    have pm : d * 1 ≤ d * 128 ^ k := Int.mul_le_mul_of_nonneg_left (by rw [p]; omega) d0
    have hdN : d.toNat * 2 ^ (7 * k) < 18446744073709551616 := by
      have : ((d.toNat * 2 ^ (7 * k) : Nat) : Int) = d * 128 ^ k := by rw [p, Int.natCast_mul, Int.toNat_of_nonneg d0]
      omega
    rw [Int64.toBitVec_or, BitVec.toNat_or, l_shl _ _ (7 * k) (sh7k k hk), BitVec.toNat_shiftLeft, Ll_nat, Ll_nat, Ll_nat, Nat.shiftLeft_eq]
    have e1 : (v % 18446744073709551616).toNat = v.toNat := by omega
    have e2 : (d % 18446744073709551616).toNat = d.toNat := by omega
    rw [e1, e2, Nat.mod_eq_of_lt (show d.toNat * 2 ^ (7 * k) < 2 ^ 64 from hdN)]
    have vl : v.toNat < 2 ^ (7 * k) := by rw [p] at v1; omega
    have := Nat.shiftLeft_add_eq_or_of_lt vl d.toNat
    rw [Nat.shiftLeft_eq] at this
    rw [Nat.or_comm, ← this]
    have e3 : ((d.toNat * 2 ^ (7 * k) : Nat) : Int) = d * 128 ^ k := by rw [p, Int.natCast_mul, Int.toNat_of_nonneg d0]
    omega
  unfold jlor jlshl
  rw [Ll_of, e]
  rfl
theorem p128_9 (k : Nat) (hk : k ≤ 9) : (128 : Int) ^ k ≤ 9223372036854775808 := by
  have : k = 0 ∨ k = 1 ∨ k = 2 ∨ k = 3 ∨ k = 4 ∨ k = 5 ∨ k = 6 ∨ k = 7 ∨ k = 8 ∨ k = 9 := by omega
  rcases this with rfl | rfl | rfl | rfl | rfl | rfl | rfl | rfl | rfl | rfl <;> decide
theorem rdG_nb {B : Int → Int} {n s : Int} (f : Nat) : ∀ (k : Nat) (u v : Int), k + f = 9 → 0 ≤ u → (0 < k → 0 < u) → 0 ≤ v → v < 128 ^ k → v + u * 128 ^ k < 18446744073709551616 → (∀ i : Nat, (h : i < (nbF f u).length) → B (s + k + i) = (nbF f u)[i]) → s + k + (nbF f u).length ≤ n → rdG B n s (f + 1) (s + k) v = (0, -1, w64 (v + u * 128 ^ k), s + k + (nbF f u).length) := by
  induction f with
  | zero =>
    intro k u v hk u0 uk v0 v1 hu hB hn
    have k9 : k = 9 := by omega
    subst k9
    have b := hB 0 (by show 0 < 1; decide)
    have b' : B (s + ((9 : Nat) : Int)) = u := by rw [show s + ((9 : Nat) : Int) = s + ((9 : Nat) : Int) + ((0 : Nat) : Int) from by omega]; exact b
    have hn' : s + ((9 : Nat) : Int) + ((1 : Nat) : Int) ≤ n := hn
    have u1 : u ≤ 1 := by
      rw [show (128 : Int) ^ 9 = 9223372036854775808 from by decide] at hu
      omega
    have up := uk (by omega)
    unfold rdG
    rw [if_neg (by omega), b', if_neg (by omega), if_neg (by omega), show s + ((9 : Nat) : Int) - s = ((9 : Nat) : Int) from by omega, jland_127, show u % 128 = u from by omega, or_add 9 (by omega) v0 v1 u0 hu]
    rfl
  | succ f ih =>
    intro k u v hk u0 uk v0 v1 hu hB hn
    have hlen := nbF_len (f + 1) u
    have b := hB 0 (by omega)
    rw [show s + (k : Int) + ((0 : Nat) : Int) = s + k from by omega] at b
    unfold rdG
    rw [if_neg (by omega), show s + (k : Int) - s = (k : Int) from by omega]
    by_cases z : u / 128 = 0
    · have en : nbF (f + 1) u = [u] := by show (if u / 128 = 0 then [u] else _) = _; rw [if_pos z]
      have b' : B (s + k) = u := by rw [b]; simp only [en]; rfl
      rw [b', if_neg (by omega), if_neg (by omega), jland_127, show u % 128 = u from by omega, or_add k (by omega) v0 v1 u0 hu, en]
      rfl
    · have en : nbF (f + 1) u = (u % 128 + 128) :: nbF f (u / 128) := by show (if u / 128 = 0 then [u] else _) = _; rw [if_neg z]
      have b' : B (s + k) = u % 128 + 128 := by rw [b]; simp only [en]; rfl
      have P := Int.pow_succ (128 : Int) k
      have p9 := p128_9 (k + 1) (by omega)
      have ppos : (0 : Int) < 128 ^ k := by rw [p128]; have := Nat.two_pow_pos (7 * k); omega
      generalize hP : (128 : Int) ^ k = p at *
      have X : u * p = 128 * (u / 128 * p) + u % 128 * p := by
        have e0 : u = 128 * (u / 128) + u % 128 := by omega
        have e1 : u * p = (128 * (u / 128) + u % 128) * p := by rw [← e0]
        rw [e1, Int.add_mul, Int.mul_assoc]
      have Y : u % 128 * p ≤ 127 * p := Int.mul_le_mul_of_nonneg_right (by omega) (by omega)
      have Y0 : 0 * p ≤ u % 128 * p := Int.mul_le_mul_of_nonneg_right (by omega) (by omega)
      have Z0 : 0 * p ≤ u / 128 * p := Int.mul_le_mul_of_nonneg_right (by omega) (by omega)
      have Z : u / 128 * (p * 128) = 128 * (u / 128 * p) := by rw [← Int.mul_assoc, Int.mul_comm]
      have oa := or_add (v := v) (d := u % 128) k (by omega) v0 (by rw [hP]; exact v1) (by omega) (by rw [hP]; omega)
      rw [hP] at oa
      rw [b', if_neg (by omega), if_pos (by omega), jland_127, show (u % 128 + 128) % 128 = u % 128 from by omega, oa, w64_of (by unfold rl_; omega)]
      have i := ih (k + 1) (u / 128) (v + u % 128 * p) (by omega) (by omega) (fun _ => by omega) (by omega) (by rw [P]; omega) (by rw [P, Z]; omega) (fun j hj => ?_) ?_
      · rw [show s + (k : Int) + 1 = s + ((k + 1 : Nat) : Int) from by omega, i, P, Z, en]
        simp only [List.length_cons]
        rw [show v + u % 128 * p + 128 * (u / 128 * p) = v + u * p from by omega]
        congr 3
        omega
      · have := hB (j + 1) (by rw [en]; simp only [List.length_cons]; omega)
        rw [show s + ((k + 1 : Nat) : Int) + (j : Int) = s + (k : Int) + ((j + 1 : Nat) : Int) from by omega, this]
        simp only [en, List.getElem_cons_succ]
      · rw [en] at hn; simp only [List.length_cons] at hn; omega
theorem rd_nb {B : Int → Int} {n s x : Int} (gx : rl_ x) (hB : ∀ i : Nat, (h : i < (nb x).length) → B (s + i) = (nb x)[i]) (hn : s + (nb x).length ≤ n) : rd B n s = (0, -1, x, s + (nb x).length) := by
  have u := uns10 x
  have hu : uns x < 18446744073709551616 := by unfold uns; omega
  have := rdG_nb (B := B) (n := n) (s := s) 9 0 (uns x) 0 (by omega) u.1 (fun h => by omega) (by omega) (by decide) (by rw [show (128 : Int) ^ 0 = 1 from rfl]; omega) (fun i h => by rw [show s + ((0 : Nat) : Int) + (i : Int) = s + i from by omega]; exact hB i h) (by rw [show s + ((0 : Nat) : Int) = s from by omega]; exact hn)
  unfold rd
  rw [show s + ((0 : Nat) : Int) = s from by omega, show (128 : Int) ^ 0 = 1 from rfl] at this
  rw [this]
  have e : w64 (0 + uns x * 1) = x := by
    rw [show (0 : Int) + uns x * 1 = uns x from by omega]
    unfold w64
    have : Ll (uns x) = Ll x := by
      apply Int64.toBitVec_inj.mp
      apply BitVec.eq_of_toNat_eq
      rw [Ll_nat, Ll_nat]
      unfold uns
      omega
    rw [this]; exact Ll_toInt gx
  rw [e]
  rfl
theorem uz_zg {v : Int} (h : rl_ v) : uz (zg v) = v := by
  unfold rl_ at h
  have e : uns (zg v) = if 0 ≤ v then 2 * v else -2 * v - 1 := by
    unfold zg uns
    have : ∀ y : Int, w64 y % 18446744073709551616 = y % 18446744073709551616 := fun y => by
      have a := Ll_nat y
      have b := Ll_nat (w64 y)
      rw [Ll_w] at b
      omega
    rw [this]
    by_cases z : 0 ≤ v
    · rw [if_pos z]; omega
    · rw [if_neg z]; omega
  have m : zg v % 2 = uns (zg v) % 2 := by unfold uns; omega
  unfold uz
  rw [m, e]
  by_cases z : 0 ≤ v
  · rw [if_pos z, if_pos (by omega)]; omega
  · rw [if_neg z, if_neg (by omega)]; omega
