/-! bits as whole numbers -/
theorem Ii_nat (x : Int) : (Ii x).toBitVec.toNat = (x % 4294967296).toNat := by
  unfold Ii
  rw [Int32.toBitVec_ofInt, BitVec.toNat_ofInt]
  rfl
theorem i_ofn {v : Int32} {n : Nat} (h : v.toBitVec.toNat = n) (hn : n < 2147483648) : v.toInt = (n : Int) := by
  show v.toBitVec.toInt = _
  rw [BitVec.toInt_eq_toNat_cond, h]
  rw [if_pos (by omega)]
theorem jand_255 (x : Int) : jand x 255 = x % 256 := by
  unfold jand
  rw [pk_and (Ii x) (m := Ii 255) 8 (by decide), Ii_nat, nI_toInt (by omega)]
  show ((((x % 4294967296).toNat % 256 : Nat)) : Int) = x % 256
  omega
theorem jshr_0 {x : Int} (h : ri_ x) : jshr x 0 = x := by
  unfold jshr
  rw [pk_shr (Ii x) (Ii 0 &&& 31) 0 (by decide), Ii_toInt h]
  exact Int.shiftRight_zero x
theorem jshr_8 {x : Int} (h : ri_ x) : jshr x 8 = x / 256 := by
  unfold jshr
  rw [pk_shr (Ii x) (Ii 8 &&& 31) 8 (by decide), Ii_toInt h, Int.shiftRight_eq_div_pow]
  rfl
theorem jshr_16 {x : Int} (h : ri_ x) : jshr x 16 = x / 65536 := by
  unfold jshr
  rw [pk_shr (Ii x) (Ii 16 &&& 31) 16 (by decide), Ii_toInt h, Int.shiftRight_eq_div_pow]
  rfl
theorem jshr_24 {x : Int} (h : ri_ x) : jshr x 24 = x / 16777216 := by
  unfold jshr
  rw [pk_shr (Ii x) (Ii 24 &&& 31) 24 (by decide), Ii_toInt h, Int.shiftRight_eq_div_pow]
  rfl
theorem jushr_8 (x : Int) : jushr x 8 = (x % 4294967296) / 256 := by
  unfold jushr
  have e := pk_ushr (Ii x) (Ii 8) 8 (by decide)
  rw [Ii_nat] at e
  rw [i_ofn e (by omega)]
  omega
theorem jushr_16 (x : Int) : jushr x 16 = (x % 4294967296) / 65536 := by
  unfold jushr
  have e := pk_ushr (Ii x) (Ii 16) 16 (by decide)
  rw [Ii_nat] at e
  rw [i_ofn e (by omega)]
  omega
theorem jushr_24 (x : Int) : jushr x 24 = (x % 4294967296) / 16777216 := by
  unfold jushr
  have e := pk_ushr (Ii x) (Ii 24) 24 (by decide)
  rw [Ii_nat] at e
  rw [i_ofn e (by omega)]
  omega
theorem ji2b_mod (x : Int) : ji2b x % 256 = x % 256 := by
  unfold ji2b
  rw [Int8.toInt_toInt32, Int32.toInt_toInt8]
  have e : (Ii x).toInt % 256 = x % 256 := by
    unfold Ii
    rw [Int32.toInt_ofInt, Int.bmod_def]
    split <;> (try simp) <;> (try omega)
  rw [Int.bmod_def]
  split <;> (try simp) <;> (try omega)
theorem rd_byte {x : Int} (h : ri_ x) (k : Int) (h0 : 0 ≤ k) (h1 : k < 4) : jand (jushr x (24 - 8 * k)) 255 = (ji2b (jshr x (24 - 8 * k))) % 256 := by
  rw [jand_255, ji2b_mod]
  have hc : k = 0 ∨ k = 1 ∨ k = 2 ∨ k = 3 := by omega
  rcases hc with rfl | rfl | rfl | rfl
  · show jushr x 24 % 256 = jshr x 24 % 256
    rw [jushr_24, jshr_24 h]; omega
  · show jushr x 16 % 256 = jshr x 16 % 256
    rw [jushr_16, jshr_16 h]; omega
  · show jushr x 8 % 256 = jshr x 8 % 256
    rw [jushr_8, jshr_8 h]; omega
  · show jushr x 0 % 256 = jshr x 0 % 256
    rw [jshr_0 h]
    unfold jushr
    have e := pk_ushr (Ii x) (Ii 0) 0 (by decide)
    rw [Ii_nat] at e
    show ((_ : Int32).toBitVec.toInt) % 256 = _
    rw [BitVec.toInt_eq_toNat_cond, e]
    split <;> omega
