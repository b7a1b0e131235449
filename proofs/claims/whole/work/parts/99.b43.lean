/-! a picture as bytes -/
theorem l_shr (v : Int64) (s : Int64) (k : Nat) (hs : (s.toBitVec.smod 64).toNat = k) : (v >>> s).toInt = v.toInt >>> k := by
  show (v.toBitVec.sshiftRight (s.toBitVec.smod 64).toNat).toInt = _
  rw [hs, BitVec.toInt_sshiftRight]
  rfl
theorem l_shl1 (v : Int) : Ll v <<< ((Ii 1).toInt64 &&& 63) = Ll (2 * v) := by
  apply Int64.toBitVec_inj.mp
  apply BitVec.eq_of_toNat_eq
  have e : (Ll v <<< ((Ii 1).toInt64 &&& 63)).toBitVec = (Ll v).toBitVec <<< ((((Ii 1).toInt64 &&& 63).toBitVec.smod 64).toNat) := rfl
  rw [e, show ((((Ii 1).toInt64 &&& 63).toBitVec.smod 64).toNat) = 1 from by decide, BitVec.toNat_shiftLeft, Ll_nat, Ll_nat, Nat.shiftLeft_eq]
  omega
def zg (v : Int) : Int := w64 (if 0 ≤ v then 2 * v else -2 * v - 1)
theorem zg_c {v : Int} (h : rl_ v) : jlxor (jlshl v 1) (jlshr v 63) = zg v := by
  have g := h
  unfold rl_ at g
  have e63 : jlshr v 63 = v / 9223372036854775808 := by
    unfold jlshr
    rw [l_shr (Ll v) _ 63 (by decide), Ll_toInt h, Int.shiftRight_eq_div_pow]
    rfl
  have e1 : jlshl v 1 = w64 (2 * v) := by unfold jlshl w64; rw [l_shl1]
  rw [e63, e1]
  unfold jlxor zg
  rw [Ll_w]
  by_cases z : 0 ≤ v
  · rw [if_pos z, show v / 9223372036854775808 = 0 from by omega]
    show ((Ll (2 * v)).toBitVec ^^^ (Ll 0).toBitVec).toInt = _
    rw [show (Ll 0).toBitVec = 0#64 from by decide, BitVec.xor_zero]
    rfl
  · rw [if_neg z, show v / 9223372036854775808 = -1 from by omega]
    show ((Ll (2 * v)).toBitVec ^^^ (Ll (-1)).toBitVec).toInt = (Ll (-2 * v - 1)).toBitVec.toInt
    rw [show (Ll (-1)).toBitVec = BitVec.allOnes 64 from by decide, BitVec.xor_allOnes]
    congr 1
    apply BitVec.eq_of_toNat_eq
    rw [BitVec.toNat_not, Ll_nat, Ll_nat]
    omega
theorem zg_r {v : Int} : (0 ≤ v → w64 (2 * v) = zg v) ∧ (¬ 0 ≤ v → w64 (w64 (-2 * v) - 1) = zg v) := by
  unfold zg
  refine ⟨fun z => by rw [if_pos z], fun z => ?_⟩
  rw [if_neg z]
  unfold w64
  have : Ll ((Ll (-2 * v)).toInt - 1) = Ll (-2 * v - 1) := by rw [← Ll_sub, ← Ll_sub, Ll_of]
  rw [this]
/-- the number that stands for a slot -/
def nv (C : MM) (c : Nat) (t k : Int) : Int := if kA C (C (c + 2) t) k = 5 then C (c + 9) (C (c + 4) t + k) + 1 else zg (C (c + 9) (C (c + 4) t + k))
def eS (C : MM) (c : Nat) (t : Int) : Nat → List Int
  | 0 => []
  | k + 1 => eS C c t k ++ nb (nv C c t k)
def eT (C : MM) (c : Nat) : Nat → List Int
  | 0 => []
  | t + 1 => eT C c t ++ (nb (C (c + 1) t) ++ (nb (C (c + 2) t) ++ (nb (C (c + 3) t) ++ eS C c t (pcn C c t).toNat)))
def eR (C : MM) (c : Nat) : Nat → List Int
  | 0 => []
  | r + 1 => eR C c r ++ (nb (C (c + 11) r) ++ nb (C (c + 12) r))
def eH (C : MM) (c : Nat) : List Int := [72, 80] ++ nb (C c 0)
def eB (C : MM) (c : Nat) : List Int := eH C c ++ (eT C c (C c 0).toNat ++ (nb (C c 11) ++ eR C c (C c 11).toNat))
theorem eS_len (C : MM) (c : Nat) (t : Int) (k : Nat) : (eS C c t k).length ≤ 10 * k := by
  induction k with
  | zero => exact Nat.le_refl _
  | succ k ih => show (eS C c t k ++ nb (nv C c t k)).length ≤ _; rw [List.length_append]; have := nb_len (nv C c t k); omega
theorem eT_len {C R0 : MM} {c : Nat} (hY : Rty C R0) (hw : PW C c) (t : Nat) (ht : (t : Int) ≤ C c 0) : ((eT C c t).length : Int) ≤ 30 * t + 10 * C (c + 4) t := by
  induction t with
  | zero => have := hw.2.2.1; show ((0 : Nat) : Int) ≤ _; rw [show ((0 : Nat) : Int) = 0 from rfl, this]; omega
  | succ t ih =>
    have i := ih (by omega)
    have pe := pw_end hY hw (t := t) (by omega) (by omega)
    have pb := pw_bd hY hw (t := t) (by omega) (by omega)
    show ((eT C c t ++ (nb (C (c + 1) t) ++ (nb (C (c + 2) t) ++ (nb (C (c + 3) t) ++ eS C c t (pcn C c t).toNat)))).length : Int) ≤ _
    simp only [List.length_append]
    have a1 := nb_len (C (c + 1) t)
    have a2 := nb_len (C (c + 2) t)
    have a3 := nb_len (C (c + 3) t)
    have a4 := eS_len C c t (pcn C c t).toNat
    rw [show (((t + 1 : Nat)) : Int) = (t : Int) + 1 from by omega]
    omega
theorem eR_len (C : MM) (c : Nat) (r : Nat) : (eR C c r).length ≤ 20 * r := by
  induction r with
  | zero => exact Nat.le_refl _
  | succ r ih => show (eR C c r ++ (nb (C (c + 11) r) ++ nb (C (c + 12) r))).length ≤ _; simp only [List.length_append]; have := nb_len (C (c + 11) r); have := nb_len (C (c + 12) r); omega
theorem eS_b (C : MM) (c : Nat) (t : Int) (k : Nat) : ∀ b ∈ eS C c t k, 0 ≤ b ∧ b < 256 := by
  induction k with
  | zero => intro b hb; exact absurd hb (by simp [eS])
  | succ k ih =>
    intro b hb
    rcases List.mem_append.mp (show b ∈ eS C c t k ++ nb (nv C c t k) from hb) with q | q
    · exact ih b q
    · exact nb_b _ b q
theorem eT_b (C : MM) (c : Nat) (t : Nat) : ∀ b ∈ eT C c t, 0 ≤ b ∧ b < 256 := by
  induction t with
  | zero => intro b hb; exact absurd hb (by simp [eT])
  | succ t ih =>
    intro b hb
    rcases List.mem_append.mp (show b ∈ eT C c t ++ (nb (C (c + 1) t) ++ (nb (C (c + 2) t) ++ (nb (C (c + 3) t) ++ eS C c t (pcn C c t).toNat))) from hb) with q | q
    · exact ih b q
    · rcases List.mem_append.mp q with q | q
      · exact nb_b _ b q
      · rcases List.mem_append.mp q with q | q
        · exact nb_b _ b q
        · rcases List.mem_append.mp q with q | q
          · exact nb_b _ b q
          · exact eS_b _ _ _ _ b q
theorem eR_b (C : MM) (c : Nat) (r : Nat) : ∀ b ∈ eR C c r, 0 ≤ b ∧ b < 256 := by
  induction r with
  | zero => intro b hb; exact absurd hb (by simp [eR])
  | succ r ih =>
    intro b hb
    rcases List.mem_append.mp (show b ∈ eR C c r ++ (nb (C (c + 11) r) ++ nb (C (c + 12) r)) from hb) with q | q
    · exact ih b q
    · rcases List.mem_append.mp q with q | q
      · exact nb_b _ b q
      · exact nb_b _ b q
theorem eB_b (C : MM) (c : Nat) : ∀ b ∈ eB C c, 0 ≤ b ∧ b < 256 := by
  intro b hb
  rcases List.mem_append.mp hb with q | q
  · rcases List.mem_append.mp q with q | q
    · have : b = 72 ∨ b = 80 := by simpa using q
      omega
    · exact nb_b _ b q
  · rcases List.mem_append.mp q with q | q
    · exact eT_b _ _ _ b q
    · rcases List.mem_append.mp q with q | q
      · exact nb_b _ b q
      · exact eR_b _ _ _ b q
/-- the check of a list of bytes, and its four bytes -/
def ckL (L : List Int) : Int := L.foldl (fun v b => jxor (w32 (v * 16777619)) b) 1
theorem ckL_s (L : List Int) (b : Int) : ckL (L ++ [b]) = jxor (w32 (ckL L * 16777619)) b := by unfold ckL; rw [List.foldl_append]; rfl
theorem ckL_v (L : List Int) : ∀ v, ri_ v → ri_ (L.foldl (fun v b => jxor (w32 (v * 16777619)) b) v) := by
  induction L with
  | nil => intro v h; exact h
  | cons b L ih => intro v _; exact ih _ (ri_of _)
theorem ckL_r (L : List Int) : ri_ (ckL L) := ckL_v L 1 (by unfold ri_; omega)
def ck4 (x : Int) : List Int := [jand (jushr x 0) 255, jand (jushr x 8) 255, jand (jushr x 16) 255, jand (jushr x 24) 255]
def eA (C : MM) (c : Nat) : List Int := eB C c ++ ck4 (ckL (eB C c))
theorem take_s {α : Type} (L : List α) (k : Nat) (h : k < L.length) : L.take (k + 1) = L.take k ++ [L[k]] := by rw [List.take_succ, List.getElem?_eq_getElem h]; rfl
theorem p_checkOf {Q : Int → MM → Prop} {M : MM} {a : Nat} {n : Nat} {L : List Int} {e : Int} (hn : (n : Int) < 2147483647) (e0 : 0 ≤ e) (e1 : e ≤ n) (eL : e ≤ L.length) (hl : ∀ i : Nat, (h : i < L.length) → (i : Int) < e → M a i = L[i]) (hq : Q (ckL (L.take e.toNat)) M) : w_X0_checkOf a n Q 0 e M := by
  unfold w_X0_checkOf w_X0_checkOf_b5
  refine loop4 _ (fun (x v k : Int) M1 => e = x ∧ M = M1 ∧ 0 ≤ k ∧ k ≤ e ∧ v = ckL (L.take k.toNat)) (fun (_ _ k : Int) _ => (e - k).toNat) ?_ _ _ _ _ ⟨rfl, rfl, by omega, e0, by rfl⟩
  rintro _ v k _ f ⟨rfl, rfl, k0, k1, ev⟩ ih
  unfold wb_X0_checkOf_b5
  refine ⟨fun z => by rw [ev, show k = e from by omega]; exact hq, fun z => ⟨k0, by omega, fun v2 e2 _ => ⟨by unfold ri_; omega, ih _ _ _ _ ⟨rfl, rfl, by omega, by omega, ?_⟩ (by omega)⟩⟩⟩
  have hk : k.toNat < L.length := by omega
  have := hl k.toNat hk (by omega)
  rw [show ((k.toNat : Nat) : Int) = k from by omega] at this
  rw [show (k + 1).toNat = k.toNat + 1 from by omega, take_s L k.toNat hk, ckL_s, ev, e2, this]
