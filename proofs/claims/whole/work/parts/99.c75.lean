/-! how many bits a long has -/
theorem and_sp (a b : Nat) : a &&& b = 256 * ((a / 256) &&& (b / 256)) + ((a % 256) &&& (b % 256)) := by
  have e1 : (a &&& b) % 2 ^ 8 = (a % 2 ^ 8) &&& (b % 2 ^ 8) := Nat.and_mod_two_pow
  have e2 : (a &&& b) / 2 ^ 8 = (a / 2 ^ 8) &&& (b / 2 ^ 8) := by
    rw [← Nat.shiftRight_eq_div_pow, ← Nat.shiftRight_eq_div_pow, ← Nat.shiftRight_eq_div_pow]
    exact Nat.shiftRight_and_distrib
  rw [show (2 : Nat) ^ 8 = 256 from rfl] at e1 e2
  rw [← e1, ← e2]; omega
theorem land5 (x c : Nat) (hx : x < 1099511627776) (hc : c < 256) : x &&& (c * 72340172838076673) = (x % 256 &&& c) + 256 * (x / 256 % 256 &&& c) + 65536 * (x / 65536 % 256 &&& c) + 16777216 * (x / 16777216 % 256 &&& c) + 4294967296 * (x / 4294967296 % 256 &&& c) := by
  rw [and_sp x, and_sp (x / 256), and_sp (x / 256 / 256), and_sp (x / 256 / 256 / 256), and_sp (x / 256 / 256 / 256 / 256)]
  have z : x / 256 / 256 / 256 / 256 / 256 = 0 := by omega
  rw [z, Nat.zero_and]
  have d1 : c * 72340172838076673 % 256 = c := by omega
  have d2 : c * 72340172838076673 / 256 % 256 = c := by omega
  have d3 : c * 72340172838076673 / 256 / 256 % 256 = c := by omega
  have d4 : c * 72340172838076673 / 256 / 256 / 256 % 256 = c := by omega
  have d5 : c * 72340172838076673 / 256 / 256 / 256 / 256 % 256 = c := by omega
  rw [d1, d2, d3, d4, d5, show x / 256 / 256 = x / 65536 from by omega, show x / 65536 / 256 = x / 16777216 from by omega, show x / 16777216 / 256 = x / 4294967296 from by omega]
  omega
def pcA (b : Nat) : Nat := b - (b / 2 &&& 85)
def pcB (b : Nat) : Nat := (pcA b &&& 51) + (pcA b / 4 &&& 51)
set_option maxRecDepth 100000 in
theorem pt_1 : ∀ b : Fin 256, ∀ y : Fin 2, (b.val / 2 + 128 * y.val) &&& 85 = b.val / 2 &&& 85 := by decide
set_option maxRecDepth 100000 in
theorem pt_2 : ∀ b : Fin 256, ∀ y : Fin 4, (b.val / 4 + 64 * y.val) &&& 51 = b.val / 4 &&& 51 := by decide
set_option maxRecDepth 100000 in
theorem pt_3 : ∀ b : Fin 256, (b.val / 2 &&& 85) ≤ b.val ∧ pcA b.val < 256 ∧ pcB b.val % 16 ≤ 4 ∧ pcB b.val / 16 ≤ 4 ∧ (pcB b.val + pcB b.val / 16) % 16 = cntB b.val.testBit 8 := by decide
theorem jlushr_k {n k : Nat} (hn : n < 9223372036854775808) (hk : k = 1 ∨ k = 2 ∨ k = 4 ∨ k = 8 ∨ k = 16 ∨ k = 32) : jlushr (n : Int) (k : Int) = ((n / 2 ^ k : Nat) : Int) := by
  have hs : (((Ii (k : Int)).toInt64.toUInt64 &&& Int64.toUInt64 63).toBitVec % 64).toNat = k := by
    rcases hk with rfl | rfl | rfl | rfl | rfl | rfl <;> decide
  unfold jlushr
  have e := u_shr (Ll n) _ k hs
  rw [Ll_nat, show (((n : Nat) : Int) % 18446744073709551616).toNat = n from by omega] at e
  exact l_ofn e (Nat.lt_of_le_of_lt (Nat.div_le_self _ _) hn)
theorem w64_n {n : Nat} (hn : n < 9223372036854775808) : w64 (n : Int) = (n : Int) := w64_of (by unfold rl_; omega)
theorem st_a {n b0 b1 b2 b3 b4 : Nat} (h0 : b0 < 256) (h1 : b1 < 256) (h2 : b2 < 256) (h3 : b3 < 256) (h4 : b4 < 256) (e : n = b0 + 256 * b1 + 65536 * b2 + 16777216 * b3 + 4294967296 * b4) : n - (n / 2 &&& 6148914691236517205) = pcA b0 + 256 * pcA b1 + 65536 * pcA b2 + 16777216 * pcA b3 + 4294967296 * pcA b4 := by
  have l := land5 (n / 2) 85 (by omega) (by decide)
  rw [show 85 * 72340172838076673 = 6148914691236517205 from rfl] at l
  rw [l, show n / 2 % 256 = b0 / 2 + 128 * (b1 % 2) from by omega, show n / 2 / 256 % 256 = b1 / 2 + 128 * (b2 % 2) from by omega, show n / 2 / 65536 % 256 = b2 / 2 + 128 * (b3 % 2) from by omega, show n / 2 / 16777216 % 256 = b3 / 2 + 128 * (b4 % 2) from by omega, show n / 2 / 4294967296 % 256 = b4 / 2 + 128 * (0 % 2) from by omega]
  rw [pt_1 ⟨b0, h0⟩ ⟨b1 % 2, by omega⟩, pt_1 ⟨b1, h1⟩ ⟨b2 % 2, by omega⟩, pt_1 ⟨b2, h2⟩ ⟨b3 % 2, by omega⟩, pt_1 ⟨b3, h3⟩ ⟨b4 % 2, by omega⟩, pt_1 ⟨b4, h4⟩ ⟨0 % 2, by omega⟩]
  have q0 := (pt_3 ⟨b0, h0⟩).1
  have q1 := (pt_3 ⟨b1, h1⟩).1
  have q2 := (pt_3 ⟨b2, h2⟩).1
  have q3 := (pt_3 ⟨b3, h3⟩).1
  have q4 := (pt_3 ⟨b4, h4⟩).1
  unfold pcA
  simp only at q0 q1 q2 q3 q4 ⊢
  omega
theorem st_b {n b0 b1 b2 b3 b4 : Nat} (h0 : b0 < 256) (h1 : b1 < 256) (h2 : b2 < 256) (h3 : b3 < 256) (h4 : b4 < 256) (e : n = b0 + 256 * b1 + 65536 * b2 + 16777216 * b3 + 4294967296 * b4) : (n &&& 3689348814741910323) + (n / 4 &&& 3689348814741910323) = ((b0 &&& 51) + (b0 / 4 &&& 51)) + 256 * ((b1 &&& 51) + (b1 / 4 &&& 51)) + 65536 * ((b2 &&& 51) + (b2 / 4 &&& 51)) + 16777216 * ((b3 &&& 51) + (b3 / 4 &&& 51)) + 4294967296 * ((b4 &&& 51) + (b4 / 4 &&& 51)) := by
  have l := land5 n 51 (by omega) (by decide)
  have l' := land5 (n / 4) 51 (by omega) (by decide)
  rw [show 51 * 72340172838076673 = 3689348814741910323 from rfl] at l l'
  rw [l, l', show n % 256 = b0 from by omega, show n / 256 % 256 = b1 from by omega, show n / 65536 % 256 = b2 from by omega, show n / 16777216 % 256 = b3 from by omega, show n / 4294967296 % 256 = b4 from by omega]
  rw [show n / 4 % 256 = b0 / 4 + 64 * (b1 % 4) from by omega, show n / 4 / 256 % 256 = b1 / 4 + 64 * (b2 % 4) from by omega, show n / 4 / 65536 % 256 = b2 / 4 + 64 * (b3 % 4) from by omega, show n / 4 / 16777216 % 256 = b3 / 4 + 64 * (b4 % 4) from by omega, show n / 4 / 4294967296 % 256 = b4 / 4 + 64 * (0 % 4) from by omega]
  rw [pt_2 ⟨b0, h0⟩ ⟨b1 % 4, by omega⟩, pt_2 ⟨b1, h1⟩ ⟨b2 % 4, by omega⟩, pt_2 ⟨b2, h2⟩ ⟨b3 % 4, by omega⟩, pt_2 ⟨b3, h3⟩ ⟨b4 % 4, by omega⟩, pt_2 ⟨b4, h4⟩ ⟨0 % 4, by omega⟩]
  simp only
  omega
theorem dg5 {s c0 c1 c2 c3 c4 : Nat} (h0 : c0 < 256) (h1 : c1 < 256) (h2 : c2 < 256) (h3 : c3 < 256) (h4 : c4 < 256) (e : s = c0 + 256 * c1 + 65536 * c2 + 16777216 * c3 + 4294967296 * c4) : s % 256 = c0 ∧ s / 256 % 256 = c1 ∧ s / 65536 % 256 = c2 ∧ s / 16777216 % 256 = c3 ∧ s / 4294967296 % 256 = c4 ∧ s < 1099511627776 := by
  refine ⟨?_, ?_, ?_, ?_, ?_, ?_⟩ <;> omega
theorem st_c {n b0 b1 b2 b3 b4 : Nat} (h0 : b0 % 16 ≤ 4 ∧ b0 / 16 ≤ 4) (h1 : b1 % 16 ≤ 4 ∧ b1 / 16 ≤ 4) (h2 : b2 % 16 ≤ 4 ∧ b2 / 16 ≤ 4) (h3 : b3 % 16 ≤ 4 ∧ b3 / 16 ≤ 4) (h4 : b4 % 16 ≤ 4 ∧ b4 / 16 ≤ 4) (e : n = b0 + 256 * b1 + 65536 * b2 + 16777216 * b3 + 4294967296 * b4) : (n + n / 16) &&& 1085102592571150095 = (b0 + b0 / 16) % 16 + 256 * ((b1 + b1 / 16) % 16) + 65536 * ((b2 + b2 / 16) % 16) + 16777216 * ((b3 + b3 / 16) % 16) + 4294967296 * ((b4 + b4 / 16) % 16) := by
  have q : n / 16 = b0 / 16 + 16 * b1 + 4096 * b2 + 1048576 * b3 + 268435456 * b4 := by omega
  obtain ⟨l1, g1, i1⟩ : ∃ l g, b1 = l + 16 * g ∧ l = b1 % 16 ∧ g = b1 / 16 := ⟨b1 % 16, b1 / 16, by omega, rfl, rfl⟩
  obtain ⟨l2, g2, i2⟩ : ∃ l g, b2 = l + 16 * g ∧ l = b2 % 16 ∧ g = b2 / 16 := ⟨b2 % 16, b2 / 16, by omega, rfl, rfl⟩
  obtain ⟨l3, g3, i3⟩ : ∃ l g, b3 = l + 16 * g ∧ l = b3 % 16 ∧ g = b3 / 16 := ⟨b3 % 16, b3 / 16, by omega, rfl, rfl⟩
  obtain ⟨l4, g4, i4⟩ : ∃ l g, b4 = l + 16 * g ∧ l = b4 % 16 ∧ g = b4 / 16 := ⟨b4 % 16, b4 / 16, by omega, rfl, rfl⟩
  rw [← i1.2.2, ← i2.2.2, ← i3.2.2, ← i4.2.2]
  rw [← i1.2.2, ← i1.2.1] at h1
  rw [← i2.2.2, ← i2.2.1] at h2
  rw [← i3.2.2, ← i3.2.1] at h3
  rw [← i4.2.2, ← i4.2.1] at h4
  have j1 := i1.1
  have j2 := i2.1
  have j3 := i3.1
  have j4 := i4.1
  clear i1 i2 i3 i4
  have hb : b0 < 80 := by omega
  generalize b0 / 16 = g0 at *
  obtain ⟨d0, d1, d2, d3, d4, d5⟩ := dg5 (s := n + n / 16) (c0 := b0 + g0 + 16 * l1) (c1 := b1 + g1 + 16 * l2) (c2 := b2 + g2 + 16 * l3) (c3 := b3 + g3 + 16 * l4) (c4 := b4 + g4) (by omega) (by omega) (by omega) (by omega) (by omega) (by omega)
  have l := land5 (n + n / 16) 15 d5 (by decide)
  rw [show 15 * 72340172838076673 = 1085102592571150095 from rfl] at l
  have m : ∀ x : Nat, x &&& 15 = x % 16 := fun x => Nat.and_two_pow_sub_one_eq_mod x 4
  rw [l, d0, d1, d2, d3, d4, m, m, m, m, m, Nat.add_mul_mod_self_left, Nat.add_mul_mod_self_left, Nat.add_mul_mod_self_left, Nat.add_mul_mod_self_left]
theorem st_d {c p0 p1 p2 p3 p4 : Nat} (h0 : p0 ≤ 8) (h1 : p1 ≤ 8) (h2 : p2 ≤ 8) (h3 : p3 ≤ 8) (h4 : p4 ≤ 8) (e : c = p0 + 256 * p1 + 65536 * p2 + 16777216 * p3 + 4294967296 * p4) : ((c + c / 256 + (c + c / 256) / 65536) + (c + c / 256 + (c + c / 256) / 65536) / 4294967296) % 128 = p0 + p1 + p2 + p3 + p4 ∧ c < 1099511627776 := by
  have a1 : c / 256 = p1 + 256 * p2 + 65536 * p3 + 16777216 * p4 := by omega
  have a2 : (c + c / 256) / 65536 = p2 + p3 + 256 * (p3 + p4) + 65536 * p4 := by rw [a1, e]; omega
  have a3 : (c + c / 256 + (c + c / 256) / 65536) / 4294967296 = p4 := by rw [a2, a1, e]; omega
  refine ⟨?_, by omega⟩
  rw [a3, a2, a1, e]; omega
theorem cnt8 (n : Nat) (k : Nat) : cntB n.testBit (8 + k) = cntB (n % 256).testBit 8 + cntB (n / 256).testBit k := by
  rw [cntB_add]
  have e1 : cntB n.testBit 8 = cntB (n % 256).testBit 8 := cntB_e fun j hj => by
    rw [show n % 256 = n % 2 ^ 8 from rfl, Nat.testBit_mod_two_pow]; simp [hj]
  have e2 : cntB (fun j => n.testBit (8 + j)) k = cntB (n / 256).testBit k := cntB_e fun j hj => by
    rw [show n / 256 = n / 2 ^ 8 from rfl, Nat.testBit_div_two_pow, Nat.add_comm]
  rw [e1, e2]
theorem cnt40 {n b0 b1 b2 b3 b4 : Nat} (h0 : b0 < 256) (h1 : b1 < 256) (h2 : b2 < 256) (h3 : b3 < 256) (h4 : b4 < 256) (e : n = b0 + 256 * b1 + 65536 * b2 + 16777216 * b3 + 4294967296 * b4) : cntB n.testBit 40 = cntB b0.testBit 8 + cntB b1.testBit 8 + cntB b2.testBit 8 + cntB b3.testBit 8 + cntB b4.testBit 8 := by
  rw [cnt8 n 32, cnt8 (n / 256) 24, cnt8 (n / 256 / 256) 16, cnt8 (n / 256 / 256 / 256) 8]
  rw [show n % 256 = b0 from by omega, show n / 256 % 256 = b1 from by omega, show n / 256 / 256 % 256 = b2 from by omega, show n / 256 / 256 / 256 % 256 = b3 from by omega, show n / 256 / 256 / 256 / 256 = b4 from by omega]
  omega
theorem jand_127 (x : Int) : jand (w32 x) 127 = x % 128 := by
  have e : (Ii (w32 x) &&& Ii 127).toBitVec.toNat = (x % 4294967296).toNat % 128 := by
    rw [Ii_w, Int32.toBitVec_and, BitVec.toNat_and, Ii_nat, show (Ii 127).toBitVec.toNat = 127 from by decide]
    exact Nat.and_two_pow_sub_one_eq_mod _ 7
  unfold jand
  rw [i_ofn e (by omega)]
  omega
theorem lb_a {n : Nat} (hn : n < 1099511627776) : w64 ((n : Int) - jland (jlushr (n : Int) 1) 6148914691236517205) = ((n - (n / 2 &&& 6148914691236517205) : Nat) : Int) ∧ n - (n / 2 &&& 6148914691236517205) < 1099511627776 := by
  have l1 : jland (jlushr (n : Int) 1) 6148914691236517205 = ((n / 2 &&& 6148914691236517205 : Nat) : Int) := by
    rw [show jlushr (n : Int) 1 = ((n / 2 : Nat) : Int) from jlushr_k (k := 1) (by omega) (by omega)]
    exact jland_n (by omega) (by decide)
  have le1 : (n / 2 &&& 6148914691236517205) ≤ n := Nat.le_trans Nat.and_le_left (by omega)
  rw [l1]
  generalize (n / 2 &&& 6148914691236517205) = x at *
  rw [show (n : Int) - ((x : Nat) : Int) = ((n - x : Nat) : Int) from by omega]
  exact ⟨w64_n (by omega), by omega⟩
theorem lb_b {a : Nat} (ha : a < 1099511627776) : w64 (jland (a : Int) 3689348814741910323 + jland (jlushr (a : Int) 2) 3689348814741910323) = (((a &&& 3689348814741910323) + (a / 4 &&& 3689348814741910323) : Nat) : Int) ∧ (a &&& 3689348814741910323) + (a / 4 &&& 3689348814741910323) < 2199023255552 := by
  rw [show jlushr (a : Int) 2 = ((a / 4 : Nat) : Int) from jlushr_k (k := 2) (by omega) (by omega), show jland (a : Int) 3689348814741910323 = ((a &&& 3689348814741910323 : Nat) : Int) from jland_n (by omega) (by decide), show jland ((a / 4 : Nat) : Int) 3689348814741910323 = ((a / 4 &&& 3689348814741910323 : Nat) : Int) from jland_n (by omega) (by decide)]
  have y1 : (a &&& 3689348814741910323) ≤ a := Nat.and_le_left
  have y2 : (a / 4 &&& 3689348814741910323) ≤ a / 4 := Nat.and_le_left
  generalize (a &&& 3689348814741910323) = x at *
  generalize (a / 4 &&& 3689348814741910323) = y at *
  exact ⟨w64_n (by omega), by omega⟩
theorem lb_c {b : Nat} (hb : b < 2199023255552) : jland (w64 ((b : Int) + jlushr (b : Int) 4)) 1085102592571150095 = (((b + b / 16) &&& 1085102592571150095 : Nat) : Int) := by
  rw [show jlushr (b : Int) 4 = ((b / 16 : Nat) : Int) from jlushr_k (k := 4) (by omega) (by omega), show (b : Int) + ((b / 16 : Nat) : Int) = ((b + b / 16 : Nat) : Int) from by omega, w64_n (by omega)]
  exact jland_n (by omega) (by decide)
theorem lb_d {c : Nat} (hc : c < 1099511627776) : w64 ((c : Int) + jlushr (c : Int) 8) = ((c + c / 256 : Nat) : Int) ∧ c + c / 256 < 2199023255552 := by
  rw [show jlushr (c : Int) 8 = ((c / 256 : Nat) : Int) from jlushr_k (k := 8) (by omega) (by omega), show (c : Int) + ((c / 256 : Nat) : Int) = ((c + c / 256 : Nat) : Int) from by omega]
  exact ⟨w64_n (by omega), by omega⟩
theorem lb_e {d : Nat} (hd : d < 2199023255552) : w64 ((d : Int) + jlushr (d : Int) 16) = ((d + d / 65536 : Nat) : Int) ∧ d + d / 65536 < 4398046511104 := by
  rw [show jlushr (d : Int) 16 = ((d / 65536 : Nat) : Int) from jlushr_k (k := 16) (by omega) (by omega), show (d : Int) + ((d / 65536 : Nat) : Int) = ((d + d / 65536 : Nat) : Int) from by omega]
  exact ⟨w64_n (by omega), by omega⟩
theorem lb_f {e : Nat} (he : e < 4398046511104) : w64 ((e : Int) + jlushr (e : Int) 32) = ((e + e / 4294967296 : Nat) : Int) := by
  rw [show jlushr (e : Int) 32 = ((e / 4294967296 : Nat) : Int) from jlushr_k (k := 32) (by omega) (by omega), show (e : Int) + ((e / 4294967296 : Nat) : Int) = ((e + e / 4294967296 : Nat) : Int) from by omega]
  exact w64_n (by omega)
theorem by5 (n : Nat) (hn : n < 1099511627776) : ∃ b0 b1 b2 b3 b4, b0 < 256 ∧ b1 < 256 ∧ b2 < 256 ∧ b3 < 256 ∧ b4 < 256 ∧ n = b0 + 256 * b1 + 65536 * b2 + 16777216 * b3 + 4294967296 * b4 := ⟨n % 256, n / 256 % 256, n / 65536 % 256, n / 16777216 % 256, n / 4294967296, by omega, by omega, by omega, by omega, by omega, by omega⟩
theorem p_bitC {Q : Int → MM → Prop} {M : MM} {n : Nat} (hn : n < 1099511627776) (h : Q ((cntB n.testBit 40 : Nat) : Int) M) : w_J13_bitCount_95d88_C Q (n : Int) M := by
  unfold w_J13_bitCount_95d88_C
  obtain ⟨b0, b1, b2, b3, b4, h0, h1, h2, h3, h4, en⟩ := by5 n hn
  have q0 := pt_3 ⟨b0, h0⟩
  have q1 := pt_3 ⟨b1, h1⟩
  have q2 := pt_3 ⟨b2, h2⟩
  have q3 := pt_3 ⟨b3, h3⟩
  have q4 := pt_3 ⟨b4, h4⟩
  simp only at q0 q1 q2 q3 q4
  have sa := st_a h0 h1 h2 h3 h4 en
  obtain ⟨a_, ha⟩ := lb_a hn
  rw [a_]
  generalize n - (n / 2 &&& 6148914691236517205) = a at *
  have sb := st_b q0.2.1 q1.2.1 q2.2.1 q3.2.1 q4.2.1 sa
  obtain ⟨b_, hb⟩ := lb_b ha
  rw [b_]
  generalize (a &&& 3689348814741910323) + (a / 4 &&& 3689348814741910323) = b at *
  have sc := st_c (b0 := pcB b0) (b1 := pcB b1) (b2 := pcB b2) (b3 := pcB b3) (b4 := pcB b4) ⟨q0.2.2.1, q0.2.2.2.1⟩ ⟨q1.2.2.1, q1.2.2.2.1⟩ ⟨q2.2.2.1, q2.2.2.2.1⟩ ⟨q3.2.2.1, q3.2.2.2.1⟩ ⟨q4.2.2.1, q4.2.2.2.1⟩ sb
  rw [q0.2.2.2.2, q1.2.2.2.2, q2.2.2.2.2, q3.2.2.2.2, q4.2.2.2.2] at sc
  rw [lb_c hb]
  generalize (b + b / 16) &&& 1085102592571150095 = c at *
  obtain ⟨sd, hc⟩ := st_d (cntB_le _ 8) (cntB_le _ 8) (cntB_le _ 8) (cntB_le _ 8) (cntB_le _ 8) sc
  obtain ⟨d_, hd⟩ := lb_d hc
  rw [d_]
  generalize c + c / 256 = d at *
  obtain ⟨e_, he⟩ := lb_e hd
  rw [e_]
  generalize d + d / 65536 = e at *
  rw [lb_f he, jand_127]
  have r : (((e + e / 4294967296 : Nat) : Int)) % 128 = ((cntB n.testBit 40 : Nat) : Int) := by
    rw [cnt40 h0 h1 h2 h3 h4 en, ← sd]
    exact (Int.natCast_emod _ 128).symm
  rw [r]; exact h
