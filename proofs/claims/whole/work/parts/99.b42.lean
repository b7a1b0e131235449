/-! numbers as bytes -/
theorem Ll_nat (x : Int) : (Ll x).toBitVec.toNat = (x % 18446744073709551616).toNat := by
  unfold Ll
  rw [Int64.toBitVec_ofInt, BitVec.toNat_ofInt]
  rfl
theorem l_ofn {v : Int64} {n : Nat} (h : v.toBitVec.toNat = n) (hn : n < 9223372036854775808) : v.toInt = (n : Int) := by
  show v.toBitVec.toInt = _
  rw [BitVec.toInt_eq_toNat_cond, h]
  rw [if_pos (by omega)]
theorem jland_127 (x : Int) : jland x 127 = x % 128 := by
  have e : (Ll x &&& Ll 127).toBitVec.toNat = (x % 18446744073709551616).toNat % 128 := by
    rw [Int64.toBitVec_and, BitVec.toNat_and, Ll_nat, show (Ll 127).toBitVec.toNat = 127 from by decide]
    exact Nat.and_two_pow_sub_one_eq_mod _ 7
  unfold jland
  rw [l_ofn e (by omega)]
  omega
theorem jland_1 (x : Int) : jland x 1 = x % 2 := by
  have e : (Ll x &&& Ll 1).toBitVec.toNat = (x % 18446744073709551616).toNat % 2 := by
    rw [Int64.toBitVec_and, BitVec.toNat_and, Ll_nat, show (Ll 1).toBitVec.toNat = 1 from by decide]
    exact Nat.and_two_pow_sub_one_eq_mod _ 1
  unfold jland
  rw [l_ofn e (by omega)]
  omega
theorem u_shr (v : Int64) (s : UInt64) (k : Nat) (h : (s.toBitVec % 64).toNat = k) : ((v.toUInt64 >>> s).toInt64).toBitVec.toNat = v.toBitVec.toNat / 2 ^ k := by
  have e : ((v.toUInt64 >>> s).toInt64).toBitVec = v.toBitVec >>> k := by
    rw [← h]
    exact UInt64.toBitVec_shiftRight _ _
  rw [e, BitVec.toNat_ushiftRight, Nat.shiftRight_eq_div_pow]
theorem jlushr_7 (x : Int) : jlushr x 7 = (x % 18446744073709551616) / 128 := by
  unfold jlushr
  have e := u_shr (Ll x) ((Ii 7).toInt64.toUInt64 &&& Int64.toUInt64 63) 7 (by decide)
  rw [Ll_nat] at e
  rw [l_ofn e (by omega)]
  omega
theorem jlushr_1 (x : Int) : jlushr x 1 = (x % 18446744073709551616) / 2 := by
  unfold jlushr
  have e := u_shr (Ll x) ((Ii 1).toInt64.toUInt64 &&& Int64.toUInt64 63) 1 (by decide)
  rw [Ll_nat] at e
  rw [l_ofn e (by omega)]
  omega
/-- seven bits a byte, the low ones first -/
def nbF : Nat → Int → List Int
  | 0, u => [u]
  | f + 1, u => if u / 128 = 0 then [u] else (u % 128 + 128) :: nbF f (u / 128)
def uns (x : Int) : Int := x % 18446744073709551616
def nb (x : Int) : List Int := nbF 9 (uns x)
theorem nbF_len (f : Nat) (u : Int) : 1 ≤ (nbF f u).length ∧ (nbF f u).length ≤ f + 1 := by
  induction f generalizing u with
  | zero => exact ⟨Nat.le_refl _, Nat.le_refl _⟩
  | succ f ih =>
    unfold nbF
    by_cases z : u / 128 = 0
    · rw [if_pos z]; simp only [List.length_cons, List.length_nil]; omega
    · rw [if_neg z]; have := ih (u / 128); simp only [List.length_cons]; omega
theorem nb_len (x : Int) : 1 ≤ (nb x).length ∧ (nb x).length ≤ 10 := nbF_len 9 _
theorem uns10 (x : Int) : 0 ≤ uns x ∧ uns x < 128 ^ 10 := by
  have : (128 : Int) ^ 10 = 1180591620717411303424 := by decide
  rw [this]; unfold uns; omega
theorem nbF_b (f : Nat) (u : Int) (u0 : 0 ≤ u) (h : u < 128 ^ (f + 1)) : ∀ b ∈ nbF f u, 0 ≤ b ∧ b < 256 := by
  induction f generalizing u with
  | zero =>
    intro b hb
    have : b = u := by simpa [nbF] using hb
    rw [show (128 : Int) ^ (0 + 1) = 128 from by decide] at h
    omega
  | succ f ih =>
    intro b hb
    unfold nbF at hb
    by_cases z : u / 128 = 0
    · rw [if_pos z] at hb
      have : b = u := by simpa using hb
      omega
    · rw [if_neg z] at hb
      rcases List.mem_cons.mp hb with q | q
      · omega
      · refine ih (u / 128) (by omega) ?_ b q
        rw [Int.pow_succ] at h
        exact Int.ediv_lt_of_lt_mul (by omega) h
theorem nb_b (x : Int) : ∀ b ∈ nb x, 0 ≤ b ∧ b < 256 := nbF_b 9 (uns x) (uns10 x).1 (uns10 x).2
/-- a list laid in a row of a memory, as far as there is room -/
def laid (g : Int → Int) (M : MM) (a : Nat) (room : Int) (L : List Int) : Prop := ∀ i : Nat, (h : i < L.length) → (i : Int) < room → g (M a i) = L[i]
theorem laid_e (g : Int → Int) (M : MM) (a : Nat) (room : Int) : laid g M a room [] := fun i h => absurd h (by simp)
theorem laid_s {g : Int → Int} {M M' : MM} {a : Nat} {room : Int} {L : List Int} {b : Int} (h : laid g M a room L) (e : ∀ i : Int, i < L.length → M' a i = M a i) (eb : (L.length : Int) < room → g (M' a L.length) = b) : laid g M' a room (L ++ [b]) := fun i hi hr => by
  rw [List.length_append] at hi
  simp only [List.length_cons, List.length_nil] at hi
  by_cases z : i < L.length
  · rw [List.getElem_append_left z, e i (by omega)]; exact h i z hr
  · have : i = L.length := by omega
    subst this
    rw [eb hr]; simp
theorem laid_f {g : Int → Int} {M M' : MM} {a : Nat} {room : Int} {L : List Int} (h : laid g M a room L) (e : M' a = M a) : laid g M' a room L := fun i hi hr => by rw [e]; exact h i hi hr
def Bc (M : MM) (L : List Int) : Prop := M 280 2 = L.length ∧ laid (fun x => x) M 281 4000 L
def Fb (M M' : MM) : Prop := (∀ k, k ≠ 280 → k ≠ 281 → M' k = M k) ∧ ∀ i, i ≠ 2 → M' 280 i = M 280 i
theorem Fb_r (M : MM) : Fb M M := ⟨fun _ _ _ => rfl, fun _ _ => rfl⟩
theorem Fb_t {A B D : MM} (h : Fb A B) (h' : Fb B D) : Fb A D := ⟨fun k a b => by rw [h'.1 k a b, h.1 k a b], fun i a => by rw [h'.2 i a, h.2 i a]⟩
theorem p_put {Q : Int → MM → Prop} {M : MM} {L : List Int} {b : Int} (hB : Bc M L) (hl : L.length < 1000000) (b0 : 0 ≤ b) (b1 : b < 256) (hq : ∀ M', Fb M M' → Bc M' (L ++ [b]) → Q 0 M') : w_X0_put Q b M := by
  obtain ⟨h1, h2⟩ := hB
  unfold w_X0_put w_X0_put_b22
  intro v1 e1 _
  rw [h1] at e1
  refine ⟨fun z v2 e2 _ => ⟨by unfold ri_; omega, fun M3 e3 => hq M3 ⟨fun k a _ => ?_, fun i a => ?_⟩ ⟨?_, ?_⟩⟩, fun z v3 e3 _ => ⟨by omega, by omega, fun M4 e4 v5 e5 _ => ⟨?_, fun M6 e6 => hq M6 ⟨fun k a b => ?_, fun i a => ?_⟩ ⟨?_, ?_⟩⟩⟩⟩
  · rw [e3]; funext i; exact ux_c _ _ _ _ a
  · rw [e3]; exact ux_i _ _ _ a
  · rw [e3, ux_s, e2, h1, List.length_append]; simp only [List.length_cons, List.length_nil]; omega
  · refine laid_s (M := M) h2 (fun i _ => by rw [e3, ux_c _ _ _ _ (by decide)]) (fun q => by omega)
  · rw [e4, ux_c _ _ _ _ (by decide), h1] at e5; unfold ri_; omega
  · rw [e6, e4]; funext i; rw [ux_c _ _ _ _ a, ux_c _ _ _ _ b]
  · rw [e6, e4, ux_i _ _ _ a, ux_c _ _ _ _ (by decide)]
  · rw [e4, ux_c _ _ _ _ (by decide), h1] at e5
    rw [e6, ux_s, e5, List.length_append]; simp only [List.length_cons, List.length_nil]; omega
  · rw [h1] at e3
    refine laid_s (M := M) h2 (fun i hi => by rw [e6, ux_c _ _ _ _ (by decide), e4, ux_i _ _ _ (by omega)]) (fun _ => ?_)
    show M6 281 L.length = b
    rw [e6, ux_c _ _ _ _ (by decide), e4, ← e3, ux_s]
theorem p_putNumber {Q : Int → MM → Prop} {M : MM} {L : List Int} {x : Int} (gx : rl_ x) (hB : Bc M L) (hl : L.length < 900000) (hq : ∀ M', Fb M M' → Bc M' (L ++ nb x) → Q 0 M') : w_X0_putNumber Q x M := by
  unfold rl_ at gx
  unfold w_X0_putNumber w_X0_putNumber_b5
  refine loop3 _ (fun (y k : Int) M1 => 0 ≤ k ∧ k ≤ 9 ∧ rl_ y ∧ Fb M M1 ∧ (k = 0 ∨ 0 ≤ y) ∧ uns y < 128 ^ (10 - k.toNat) ∧ ∃ L', Bc M1 L' ∧ L'.length = L.length + k.toNat ∧ L ++ nb x = L' ++ nbF (9 - k.toNat) (uns y)) (fun (_ k : Int) _ => (10 - k).toNat) ?_ _ _ _ ⟨by omega, by omega, by unfold rl_; omega, Fb_r M, Or.inl rfl, (uns10 x).2, L, hB, by simp, rfl⟩
  rintro y k M1 f ⟨k0, k9, gy, hF, hy, hu, L', hB', hl', eL⟩ ih
  unfold rl_ at gy
  have sh := jlushr_7 y
  have fin : uns y / 128 = 0 → w_X0_putNumber_b46 Q y M1 := fun z => by
    have e : uns y = y ∧ 0 ≤ y ∧ y < 128 := by unfold uns at z ⊢; omega
    unfold w_X0_putNumber_b46
    refine ⟨by unfold ri_; omega, p_put hB' (by omega) e.2.1 (by omega) fun M' hF' hB'' => hq M' (Fb_t hF hF') ?_⟩
    have : nbF (9 - k.toNat) (uns y) = [y] := by
      rw [e.1]
      cases 9 - k.toNat with
      | zero => rfl
      | succ f => show (if y / 128 = 0 then [y] else _) = _; rw [if_pos (by omega)]
    rw [eL, this]; exact hB''
  unfold wb_X0_putNumber_b5
  refine ⟨fun z => by omega, fun z => ⟨fun z2 => fin (by unfold uns; omega), fun z2 => ?_⟩⟩
  rw [jland_127]
  have nz : uns y / 128 ≠ 0 := by unfold uns; omega
  have k8 : k ≤ 8 := by
    by_cases q : k = 9
    · rw [q, show (10 - (9 : Int).toNat) = 1 from rfl] at hu
      have := (uns10 y).1
      omega
    · omega
  refine ⟨by unfold ri_; omega, by unfold ri_; omega, p_put hB' (by omega) (by omega) (by omega) fun M' hF' hB'' => ⟨by unfold ri_; omega, ih _ _ _ ⟨by omega, by omega, by unfold rl_; omega, Fb_t hF hF', Or.inr (by omega), ?_, _, hB'', ?_, ?_⟩ (by omega)⟩⟩
  · have e1 : uns (jlushr y 7) = uns y / 128 := by rw [sh]; unfold uns; omega
    rw [e1]
    obtain ⟨m, em⟩ : ∃ m : Nat, 10 - k.toNat = m + 1 := ⟨9 - k.toNat, by omega⟩
    rw [em, Int.pow_succ] at hu
    rw [show 10 - (k + 1).toNat = m from by omega]
    exact Int.ediv_lt_of_lt_mul (by omega) hu
  · rw [List.length_append, hl', show (k + 1).toNat = k.toNat + 1 from by omega]; simp only [List.length_cons, List.length_nil]; omega
  · rw [eL]
    obtain ⟨m, em⟩ : ∃ m : Nat, 9 - k.toNat = m + 1 := ⟨8 - k.toNat, by omega⟩
    have e1 : uns (jlushr y 7) = uns y / 128 := by rw [sh]; unfold uns; omega
    have e2 : uns y % 128 = y % 128 := by unfold uns; omega
    rw [em, show 9 - (k + 1).toNat = m from by omega, e1]
    show L' ++ (if uns y / 128 = 0 then [uns y] else (uns y % 128 + 128) :: nbF m (uns y / 128)) = _
    rw [if_neg nz, e2, List.append_assoc]; rfl
def Br (M : MM) (L : List Int) : Prop := M 0 141 = L.length ∧ laid (fun x => x % 256) M 98 9000 L
def Fr98 (M M' : MM) : Prop := (∀ k, k ≠ 0 → k ≠ 98 → M' k = M k) ∧ ∀ i, i ≠ 141 → M' 0 i = M 0 i
theorem Fr98_r (M : MM) : Fr98 M M := ⟨fun _ _ _ => rfl, fun _ _ => rfl⟩
theorem Fr98_t {A B D : MM} (h : Fr98 A B) (h' : Fr98 B D) : Fr98 A D := ⟨fun k a b => by rw [h'.1 k a b, h.1 k a b], fun i a => by rw [h'.2 i a, h.2 i a]⟩
theorem p_R_putNumber {Q : Int → MM → Prop} {M : MM} {L : List Int} {x : Int} (gx : rl_ x) (hB : Br M L) (hl : L.length < 900000) (hq : ∀ M', Fr98 M M' → Br M' (L ++ nb x) → Q 0 M') : w_X12_putNumber Q x M := by
  unfold rl_ at gx
  unfold w_X12_putNumber w_X12_putNumber_b2
  refine loop2 _ (fun (y : Int) M1 => ∃ k : Nat, k ≤ 9 ∧ rl_ y ∧ Fr98 M M1 ∧ uns y < 128 ^ (10 - k) ∧ ∃ L', Br M1 L' ∧ L'.length = L.length + k ∧ L ++ nb x = L' ++ nbF (9 - k) (uns y)) (fun (y : Int) _ => (uns y).toNat) ?_ _ _ ⟨0, by omega, by unfold rl_; omega, Fr98_r M, (uns10 x).2, L, hB, by simp, rfl⟩
  rintro y M1 f ⟨k, k9, gy, hF, hu, L', ⟨h1, h2⟩, hl', eL⟩ ih
  unfold rl_ at gy
  have sh := jlushr_7 y
  have e1 : uns (jlushr y 7) = uns y / 128 := by rw [sh]; unfold uns; omega
  have e2 : uns y % 128 = y % 128 := by unfold uns; omega
  have u0 : 0 ≤ uns y := by unfold uns; omega
  have zz : jlushr y 7 = uns y / 128 := sh
  have nxt : ∀ (M2 : MM) b, b = (if uns y / 128 = 0 then uns y else uns y % 128 + 128) → (∀ j, j ≠ 98 → M2 j = M1 j) → (∀ i : Int, i < L'.length → M2 98 i = M1 98 i) → ((L'.length : Int) < 9000 → M2 98 L'.length % 256 = b) → w_X12_putNumber_b52 Q f (jlushr y 7) M2 := fun M2 b eb hM2 h98 hb => by
    unfold w_X12_putNumber_b52
    intro v1 ev _
    have : v1 = L'.length := by rw [ev, hM2 0 (by decide), h1]
    refine ⟨by unfold ri_; omega, fun M3 e3 => ?_⟩
    have hF3 : Fr98 M M3 := ⟨fun j a b => by rw [e3]; funext i; rw [ux_c _ _ _ _ a, hM2 j b, hF.1 j a b], fun i a => by rw [e3, ux_i _ _ _ a, hM2 0 (by decide), hF.2 i a]⟩
    have hB3 : Br M3 (L' ++ [b]) := by
      refine ⟨by rw [e3, ux_s, this, List.length_append]; simp only [List.length_cons, List.length_nil]; omega, laid_s (M := M1) h2 (fun i hi => ?_) (fun q => ?_)⟩
      · rw [e3, ux_c _ _ _ _ (by decide)]; exact h98 i hi
      · show M3 98 L'.length % 256 = b
        rw [e3, ux_c _ _ _ _ (by decide)]; exact hb q
    refine ⟨fun z => ?_, fun z => hq M3 hF3 ?_⟩
    · have nz : uns y / 128 ≠ 0 := by rw [← zz]; exact z
      have k8 : k ≤ 8 := by
        by_cases q : k = 9
        · rw [q, show (10 - 9) = 1 from rfl] at hu
          omega
        · omega
      refine ih _ _ ⟨k + 1, by omega, by unfold rl_; rw [sh]; omega, hF3, ?_, _, hB3, ?_, ?_⟩ (by rw [e1]; omega)
      · rw [e1]
        rw [show 10 - k = (10 - (k + 1)) + 1 from by omega, Int.pow_succ] at hu
        exact Int.ediv_lt_of_lt_mul (by omega) hu
      · rw [List.length_append, hl']; simp only [List.length_cons, List.length_nil]; omega
      · rw [eL, show 9 - k = (9 - (k + 1)) + 1 from by omega, e1]
        show L' ++ (if uns y / 128 = 0 then [uns y] else (uns y % 128 + 128) :: nbF (9 - (k + 1)) (uns y / 128)) = _
        rw [if_neg nz, eb, if_neg nz, List.append_assoc]; rfl
    · have nz : uns y / 128 = 0 := by rw [← zz]; exact z
      have : nbF (9 - k) (uns y) = [uns y] := by
        cases 9 - k with
        | zero => rfl
        | succ f => show (if uns y / 128 = 0 then [uns y] else _) = _; rw [if_pos nz]
      rw [eL, this]
      rw [eb, if_pos nz] at hB3
      exact hB3
  unfold wb_X12_putNumber_b2
  rw [jland_127]
  refine ⟨by unfold ri_; omega, fun v2 ev2 _ => ?_⟩
  rw [h1] at ev2
  refine ⟨fun z => nxt M1 _ rfl (fun _ _ => rfl) (fun _ _ => rfl) (fun q => by omega), fun z v4 ev4 _ => ?_⟩
  rw [h1] at ev4
  unfold w_X12_putNumber_b50
  refine ⟨fun z2 => ⟨by unfold ri_; omega, by omega, by omega, fun M2 eM2 => nxt M2 _ rfl (fun j a => ?_) (fun i hi => ?_) (fun _ => ?_)⟩, fun z2 => ⟨by omega, by omega, fun M2 eM2 => nxt M2 _ rfl (fun j a => ?_) (fun i hi => ?_) (fun _ => ?_)⟩⟩
  · rw [eM2]; funext i; exact ux_c _ _ _ _ a
  · rw [eM2]; exact ux_i _ _ _ (by omega)
  · rw [eM2, ← ev4, ux_s, ji2b_mod, if_neg (by rw [← zz]; exact z2), e2]; omega
  · rw [eM2]; funext i; exact ux_c _ _ _ _ a
  · rw [eM2]; exact ux_i _ _ _ (by omega)
  · rw [eM2, ← ev4, ux_s, ji2b_mod, if_pos (by rw [← zz]; exact z2)]
    have : uns y / 128 = 0 := by rw [← zz]; exact z2
    unfold uns at this ⊢
    omega
