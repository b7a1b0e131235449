/-! numbers as whole numbers -/
abbrev MM : Type := Nat → Int → Int
def Ii (x : Int) : Int32 := Int32.ofInt x
def Ll (x : Int) : Int64 := Int64.ofInt x
def ri_ (x : Int) : Prop := -2147483648 ≤ x ∧ x ≤ 2147483647
def rl_ (x : Int) : Prop := -9223372036854775808 ≤ x ∧ x ≤ 9223372036854775807
def ux_ (M : MM) (c : Nat) (i v : Int) : MM := fun c' i' => if c' = c ∧ i' = i then v else M c' i'
theorem Ii_toInt {x : Int} (h : ri_ x) : (Ii x).toInt = x := by
  unfold ri_ at h
  unfold Ii
  rw [Int32.toInt_ofInt]
  exact Int.bmod_eq_of_le (by simp; omega) (by simp; omega)
theorem Ll_toInt {x : Int} (h : rl_ x) : (Ll x).toInt = x := by
  unfold rl_ at h
  unfold Ll
  rw [Int64.toInt_ofInt]
  exact Int.bmod_eq_of_le (by simp; omega) (by simp; omega)
theorem Ii_of (v : Int32) : Ii v.toInt = v := Int32.ofInt_toInt v
theorem Ll_of (v : Int64) : Ll v.toInt = v := Int64.ofInt_toInt v
theorem ri_of (v : Int32) : ri_ v.toInt := by
  have h1 := Int32.le_toInt v; have h2 := Int32.toInt_lt v
  unfold ri_; omega
theorem rl_of (v : Int64) : rl_ v.toInt := by
  have h1 := Int64.le_toInt v; have h2 := Int64.toInt_lt v
  unfold rl_; omega
/-- what is left of a whole number in 32 and in 64 bits -/
def w32 (x : Int) : Int := (Ii x).toInt
def w64 (x : Int) : Int := (Ll x).toInt
theorem Ii_w (x : Int) : Ii (w32 x) = Ii x := Ii_of _
theorem Ll_w (x : Int) : Ll (w64 x) = Ll x := Ll_of _
theorem ri_w (x : Int) : ri_ (w32 x) := ri_of _
theorem rl_w (x : Int) : rl_ (w64 x) := rl_of _
theorem w32_of {x : Int} (h : ri_ x) : w32 x = x := Ii_toInt h
theorem w64_of {x : Int} (h : rl_ x) : w64 x = x := Ll_toInt h
theorem Ii_add (x y : Int) : Ii x + Ii y = Ii (x + y) := (Int32.ofInt_add x y).symm
theorem Ii_sub (x y : Int) : Ii x - Ii y = Ii (x - y) := (Int32.ofInt_sub x y).symm
theorem Ii_mul (x y : Int) : Ii x * Ii y = Ii (x * y) := (Int32.ofInt_mul x y).symm
theorem Ii_neg (x : Int) : -Ii x = Ii (-x) := (Int32.ofInt_neg x).symm
theorem Ll_add (x y : Int) : Ll x + Ll y = Ll (x + y) := (Int64.ofInt_add x y).symm
theorem Ll_sub (x y : Int) : Ll x - Ll y = Ll (x - y) := (Int64.ofInt_sub x y).symm
theorem Ll_mul (x y : Int) : Ll x * Ll y = Ll (x * y) := (Int64.ofInt_mul x y).symm
theorem Ll_neg (x : Int) : -Ll x = Ll (-x) := (Int64.ofInt_neg x).symm
theorem Ii_div {x y : Int} (hx : ri_ x) (hy : ri_ y) : Ii x / Ii y = Ii (x.tdiv y) := by
  apply Int32.toInt_inj.mp
  rw [Int32.toInt_div, Ii_toInt hx, Ii_toInt hy]
  unfold Ii
  rw [Int32.toInt_ofInt]
theorem Ll_div {x y : Int} (hx : rl_ x) (hy : rl_ y) : Ll x / Ll y = Ll (x.tdiv y) := by
  apply Int64.toInt_inj.mp
  rw [Int64.toInt_div, Ll_toInt hx, Ll_toInt hy]
  unfold Ll
  rw [Int64.toInt_ofInt]
theorem Ii_lt {x y : Int} (hx : ri_ x) (hy : ri_ y) : Ii x < Ii y ↔ x < y := by rw [Int32.lt_iff_toInt_lt, Ii_toInt hx, Ii_toInt hy]
theorem Ii_le {x y : Int} (hx : ri_ x) (hy : ri_ y) : Ii x ≤ Ii y ↔ x ≤ y := by rw [Int32.le_iff_toInt_le, Ii_toInt hx, Ii_toInt hy]
theorem Ii_eq {x y : Int} (hx : ri_ x) (hy : ri_ y) : Ii x = Ii y ↔ x = y := by rw [← Int32.toInt_inj, Ii_toInt hx, Ii_toInt hy]
theorem Ll_lt {x y : Int} (hx : rl_ x) (hy : rl_ y) : Ll x < Ll y ↔ x < y := by rw [Int64.lt_iff_toInt_lt, Ll_toInt hx, Ll_toInt hy]
theorem Ll_le {x y : Int} (hx : rl_ x) (hy : rl_ y) : Ll x ≤ Ll y ↔ x ≤ y := by rw [Int64.le_iff_toInt_le, Ll_toInt hx, Ll_toInt hy]
theorem Ll_eq {x y : Int} (hx : rl_ x) (hy : rl_ y) : Ll x = Ll y ↔ x = y := by rw [← Int64.toInt_inj, Ll_toInt hx, Ll_toInt hy]
theorem ri_0 : ri_ 0 := by unfold ri_; omega
theorem Ii_0 : Ii 0 = 0 := rfl
theorem Ii_toL {x : Int} (h : ri_ x) : (Ii x).toInt64 = Ll x := by
  apply Int64.toInt_inj.mp
  have hl : rl_ x := by unfold ri_ at h; unfold rl_; omega
  rw [Int32.toInt_toInt64, Ii_toInt h, Ll_toInt hl]
theorem Ll_toI (x : Int) : (Ll x).toInt32 = Ii x := by
  apply Int32.toInt_inj.mp
  unfold Ll Ii
  rw [Int64.toInt32_ofInt]
/-- bits -/
def jand (x y : Int) : Int := (Ii x &&& Ii y).toInt
def jor (x y : Int) : Int := (Ii x ||| Ii y).toInt
def jxor (x y : Int) : Int := (Ii x ^^^ Ii y).toInt
def jshl (x y : Int) : Int := (Ii x <<< (Ii y &&& 31)).toInt
def jshr (x y : Int) : Int := (Ii x >>> (Ii y &&& 31)).toInt
def jushr (x y : Int) : Int := ((Ii x).toUInt32 >>> ((Ii y).toUInt32 &&& Int32.toUInt32 31)).toInt32.toInt
def jland (x y : Int) : Int := (Ll x &&& Ll y).toInt
def jlor (x y : Int) : Int := (Ll x ||| Ll y).toInt
def jlxor (x y : Int) : Int := (Ll x ^^^ Ll y).toInt
def jlshl (x y : Int) : Int := (Ll x <<< ((Ii y).toInt64 &&& 63)).toInt
def jlshr (x y : Int) : Int := (Ll x >>> ((Ii y).toInt64 &&& 63)).toInt
def jlushr (x y : Int) : Int := ((Ll x).toUInt64 >>> ((Ii y).toInt64.toUInt64 &&& Int64.toUInt64 63)).toInt64.toInt
def ji2b (x : Int) : Int := (Ii x).toInt8.toInt32.toInt
def ji2c (x : Int) : Int := ((Ii x).toUInt32 % 65536).toInt32.toInt
theorem Ii_cl {i : Int} (h : ri_ i) (h0 : 0 ≤ i) : ((Ii i).toNatClampNeg : Int) = i := by
  have e : (Ii i).toNatClampNeg = (Ii i).toInt.toNat := rfl
  rw [e, Ii_toInt h]
  omega
theorem Ii_in {i : Int} {n : Nat} (h : ri_ i) (h0 : 0 ≤ i) (h1 : i < n) : vp_in (Ii i) n := by
  rw [vp_in_iff, Ii_toInt h]
  exact ⟨h0, h1⟩
def jit {F : Type} (bot : F) (b : F → F) : Nat → F
  | 0 => bot
  | n + 1 => b (jit bot b n)
def jcp (M : MM) (a b : Nat) (sp dp n : Int) : MM := fun c i => if c = b ∧ dp ≤ i ∧ i < dp + n then M a (sp + (i - dp)) else M c i
