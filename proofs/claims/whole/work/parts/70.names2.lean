/-! the reference's name of the tape -/
def nmR (R : MM) (v : Int) : Prop := (isNm (R 1) (R 0 3) ∧ (∀ j, 0 ≤ j → j < 29 → R 3 j ≠ fr f63 (R 1) 0 0 (R 0 3).toNat) ∧ v = fr f63 (R 1) 0 0 (R 0 3).toNat) ∨ (¬ (isNm (R 1) (R 0 3) ∧ (∀ j, 0 ≤ j → j < 29 → R 3 j ≠ fr f63 (R 1) 0 0 (R 0 3).toNat)) ∧ v = 0)
set_option maxHeartbeats 400000 in
theorem p_R_tapeName {Q : Int → MM → Prop} {R : MM} (t1 : 0 ≤ R 0 3) (t2 : R 0 3 ≤ 4000) (h : ∀ v, nmR R v → Q v R) : w_X12_tapeName Q R := by
  have H116 : ∀ v g k, R 0 3 ≤ k ∨ g = 0 → ((g = 1 ∧ 0 < R 0 3 ∧ R 0 3 ≤ 10 ∧ isA (R 1 0) ∧ k = R 0 3 ∧ (∀ i, 0 ≤ i → i < k → isY (R 1 i)) ∧ v = fr f63 (R 1) 0 0 k.toNat) ∨ (g = 0 ∧ ¬ isNm (R 1) (R 0 3))) → w_X12_tapeName_b116 Q v g R := by
    intro v g k hk hg
    unfold w_X12_tapeName_b116
    rcases hg with ⟨rfl, a1, a2, a3, rfl, a5, rfl⟩ | ⟨rfl, hn⟩
    · refine ⟨fun q => by omega, fun _ => ?_⟩
      refine p_R_keyOf (fun k k0 k1 k2 k3 _ => ⟨fun _ => h 0 (Or.inr ⟨fun q => q.2 k k0 k1 k2, rfl⟩), fun q => by omega⟩) (fun k0 _ => ⟨fun q => absurd rfl q, fun _ => h _ (Or.inl ⟨⟨a1, a2, a3, a5⟩, k0, rfl⟩)⟩)
    · exact ⟨fun _ => h 0 (Or.inr ⟨fun q => hn q.1, rfl⟩), fun q => absurd rfl q⟩
  have H : ∀ (m : Nat) (v g k : Int), 0 ≤ k → k ≤ R 0 3 → R 0 3 - k < m → ((g = 1 ∧ 0 < R 0 3 ∧ R 0 3 ≤ 10 ∧ isA (R 1 0) ∧ (∀ i, 0 ≤ i → i < k → isY (R 1 i)) ∧ v = fr f63 (R 1) 0 0 k.toNat) ∨ (g = 0 ∧ ¬ isNm (R 1) (R 0 3))) → jit (fun _ _ _ _ => False) (wb_X12_tapeName_b39 Q) m v g k R := by
    intro m
    induction m with
    | zero => intro v g k h0 h4 hn hf; omega
    | succ m ih =>
      intro v g k k0 k1 hm hf
      have hbad : ¬ isY (R 1 k) → k < R 0 3 → w_X12_tapeName_b83 Q (jit (fun _ _ _ _ => False) (wb_X12_tapeName_b39 Q) m) v k 0 R := by
        intro hy hk
        unfold w_X12_tapeName_b83 w_X12_tapeName_b109
        exact ⟨fun _ => ⟨by unfold ri_; omega, ih 0 0 (k + 1) (by omega) (by omega) (by omega) (Or.inr ⟨rfl, fun q => hy (q.2.2.2 k k0 hk)⟩)⟩, fun q => absurd rfl q⟩
      have hgood : isY (R 1 k) → k < R 0 3 → g = 1 → w_X12_tapeName_b78 Q (jit (fun _ _ _ _ => False) (wb_X12_tapeName_b39 Q) m) v k R := by
        intro hy hk hg
        rcases hf with ⟨-, a1, a2, a3, a4, a5⟩ | ⟨hf, -⟩
        · unfold w_X12_tapeName_b78 w_X12_tapeName_b83 w_X12_tapeName_b109
          refine ⟨fun q => by omega, fun _ => ⟨k0, by omega, fun v2 e2 g2 => ?_⟩⟩
          refine p_R_code (by omega) (fun _ => ⟨by unfold ri_; omega, ih _ 1 (k + 1) (by omega) (by omega) (by omega) (Or.inl ⟨rfl, a1, a2, a3, ?_, ?_⟩)⟩)
          · intro i i0 i1
            by_cases e : i = k
            · rw [e]; exact hy
            · exact a4 i i0 (by omega)
          · have := fr_s f63 (R 1) 0 0 k k0
            rw [show (k + 1 - 0).toNat = (k + 1).toNat from by rw [Int.sub_zero], show (k - 0).toNat = k.toNat from by rw [Int.sub_zero], ← a5] at this
            rw [this, e2]
            rfl
        · omega
      show wb_X12_tapeName_b39 Q (jit (fun _ _ _ _ => False) (wb_X12_tapeName_b39 Q) m) v g k R
      unfold wb_X12_tapeName_b39
      intro v1 e1 g1
      subst e1
      refine ⟨fun z => H116 v g k (Or.inl z) (by rcases hf with ⟨a0, a1, a2, a3, a4, a5⟩ | a; exact Or.inl ⟨a0, a1, a2, a3, by omega, a4, a5⟩; exact Or.inr a), fun z => ⟨fun z2 => H116 v g k (Or.inr z2) (by rcases hf with ⟨a0, -⟩ | a; omega; exact Or.inr a), fun z2 => ⟨k0, by omega, fun v4 e4 g4 => ?_⟩⟩⟩
      have hg : g = 1 := by rcases hf with a | a; exact a.1; exact absurd a.1 z2
      subst e4
      refine p_R_let (fun za _ => ⟨fun _ => hgood (Or.inl za) (by omega) hg, fun q => by omega⟩) (fun za _ => ⟨fun q => absurd rfl q, fun _ => ⟨k0, by omega, fun v8 e8 g8 => ?_⟩⟩)
      subst e8
      exact p_R_dig (fun zd _ => ⟨fun q => by omega, fun _ => hgood (Or.inr zd) (by omega) hg⟩) (fun zd _ => ⟨fun _ => hbad (fun q => q.elim za zd) (by omega), fun q => absurd rfl q⟩)
  have Hb : ¬ isNm (R 1) (R 0 3) → w_X12_tapeName_b34 Q 0 R := fun hn => ⟨_, H (R 0 3 + 1).toNat 0 0 0 (by omega) t1 (by omega) (Or.inr ⟨rfl, hn⟩)⟩
  unfold w_X12_tapeName
  intro v1 e1 g1
  subst e1
  refine ⟨fun z => Hb (fun q => by have := q.1; omega), fun z v3 e3 g3 => ?_⟩
  subst e3
  refine ⟨fun z2 => Hb (fun q => by have := q.2.1; omega), fun z2 v5 e5 g5 => ?_⟩
  subst e5
  refine p_R_let (fun za _ => ⟨fun q => by omega, fun _ => ?_⟩) (fun za _ => ⟨fun _ => Hb (fun q => za q.2.2.1), fun q => absurd rfl q⟩)
  exact ⟨_, H (R 0 3 + 1).toNat 0 1 0 (by omega) t1 (by omega) (Or.inl ⟨rfl, by omega, by omega, za, fun i i0 i1 => by omega, rfl⟩)⟩
/-! one name in two codings -/
theorem fr_bd64 (s : Int → Int) (n : Nat) (hn : n ≤ 10) (hy : ∀ i : Int, 0 ≤ i → i < n → isY (s i)) : 0 ≤ fr f64 s 0 0 n ∧ fr f64 s 0 0 n < 64 ^ n ∧ ∀ m, n = m + 1 → fr f64 s 0 0 n = fr f64 s 0 0 m * 64 + sy (s m) := by
  induction n with
  | zero => exact ⟨by show (0 : Int) ≤ 0; omega, by show (0 : Int) < 1; omega, fun m h => by omega⟩
  | succ n ih =>
    obtain ⟨i1, i2, -⟩ := ih (by omega) (fun i i0 i1 => hy i i0 (by omega))
    have hs := sy_bd (s n)
    have hp : (64 : Int) ^ n ≤ 64 ^ 9 := by
      have : n = 0 ∨ n = 1 ∨ n = 2 ∨ n = 3 ∨ n = 4 ∨ n = 5 ∨ n = 6 ∨ n = 7 ∨ n = 8 ∨ n = 9 := by omega
      rcases this with rfl | rfl | rfl | rfl | rfl | rfl | rfl | rfl | rfl | rfl <;> decide
    have e1 : (64 : Int) ^ (n + 1) = 64 ^ n * 64 := Int.pow_succ 64 n
    have e9 : (64 : Int) ^ 9 = 18014398509481984 := by decide
    have ef : fr f64 s 0 0 (n + 1) = fr f64 s 0 0 n * 64 + sy (s n) := by
      show f64 (fr f64 s 0 0 n) (s (0 + (n : Int))) = _
      rw [Int.zero_add]
      show w64 (w64 (fr f64 s 0 0 n * 64) + sy (s n)) = _
      rw [w64_of (x := fr f64 s 0 0 n * 64) (by unfold rl_; omega), w64_of (by unfold rl_; omega)]
    refine ⟨by omega, by omega, fun m hm => ?_⟩
    have : m = n := by omega
    subst this
    exact ef
theorem cd_bd {b : Int} (h : isY b) : 1 ≤ cd b ∧ cd b ≤ 62 := by unfold isY isA isD at h; unfold cd; grind
theorem fr_bd63 (s : Int → Int) (n : Nat) (hn : n ≤ 10) (hy : ∀ i : Int, 0 ≤ i → i < n → isY (s i)) : 0 ≤ fr f63 s 0 0 n ∧ fr f63 s 0 0 n < 63 ^ n ∧ ∀ m, n = m + 1 → fr f63 s 0 0 n = fr f63 s 0 0 m * 63 + cd (s m) := by
  induction n with
  | zero => exact ⟨by show (0 : Int) ≤ 0; omega, by show (0 : Int) < 1; omega, fun m h => by omega⟩
  | succ n ih =>
    obtain ⟨i1, i2, -⟩ := ih (by omega) (fun i i0 i1 => hy i i0 (by omega))
    have hs := cd_bd (hy n (by omega) (by omega))
    have hp : (63 : Int) ^ n ≤ 63 ^ 9 := by
      have : n = 0 ∨ n = 1 ∨ n = 2 ∨ n = 3 ∨ n = 4 ∨ n = 5 ∨ n = 6 ∨ n = 7 ∨ n = 8 ∨ n = 9 := by omega
      rcases this with rfl | rfl | rfl | rfl | rfl | rfl | rfl | rfl | rfl | rfl <;> decide
    have e1 : (63 : Int) ^ (n + 1) = 63 ^ n * 63 := Int.pow_succ 63 n
    have e9 : (63 : Int) ^ 9 = 15633814156853823 := by decide
    have ef : fr f63 s 0 0 (n + 1) = fr f63 s 0 0 n * 63 + cd (s n) := by
      show f63 (fr f63 s 0 0 n) (s (0 + (n : Int))) = _
      rw [Int.zero_add]
      show w64 (w64 (63 * fr f63 s 0 0 n) + cd (s n)) = _
      rw [w64_of (x := 63 * fr f63 s 0 0 n) (by unfold rl_; omega), w64_of (by unfold rl_; omega)]
      omega
    refine ⟨by omega, by omega, fun m hm => ?_⟩
    have : m = n := by omega
    subst this
    exact ef
theorem sy_inj {a b : Int} (ha : isY a) (hb : isY b) (h : sy a = sy b) : a = b := by unfold isY isA isD at *; unfold sy at h; grind
theorem cd_inj {a b : Int} (ha : isY a) (hb : isY b) (h : cd a = cd b) : a = b := by unfold isY isA isD at *; unfold cd at h; grind
theorem fr_cong {f : Int → Int → Int} {s t : Int → Int} {n : Nat} (h : ∀ i : Int, 0 ≤ i → i < n → s i = t i) : fr f s 0 0 n = fr f t 0 0 n := by
  induction n with
  | zero => rfl
  | succ n ih =>
    show f (fr f s 0 0 n) (s (0 + (n : Int))) = f (fr f t 0 0 n) (t (0 + (n : Int)))
    rw [ih (fun i i0 i1 => h i i0 (by omega)), h (0 + (n : Int)) (by omega) (by omega)]
theorem inj64 (s t : Int → Int) : ∀ (n m : Nat), n ≤ 10 → m ≤ 10 → (∀ i : Int, 0 ≤ i → i < n → isY (s i)) → (∀ i : Int, 0 ≤ i → i < m → isY (t i)) → fr f64 s 0 0 n = fr f64 t 0 0 m → n = m ∧ ∀ i : Int, 0 ≤ i → i < n → s i = t i := by
  intro n
  induction n with
  | zero =>
    intro m hn hm hs ht he
    cases m with
    | zero => exact ⟨rfl, fun i i0 i1 => by omega⟩
    | succ m =>
      have h1 := (fr_bd64 t (m + 1) hm ht).2.2 m rfl
      have h2 := (fr_bd64 t m (by omega) (fun i i0 i1 => ht i i0 (by omega))).1
      have h3 := sy_pos.mpr (ht m (by omega) (by omega))
      have h4 : fr f64 s 0 0 0 = 0 := rfl
      omega
  | succ n ih =>
    intro m hn hm hs ht he
    have h1 := (fr_bd64 s (n + 1) hn hs).2.2 n rfl
    have h2 := (fr_bd64 s n (by omega) (fun i i0 i1 => hs i i0 (by omega))).1
    have h3 := sy_pos.mpr (hs n (by omega) (by omega))
    have h5 := sy_bd (s n)
    cases m with
    | zero =>
      have h4 : fr f64 t 0 0 0 = 0 := rfl
      omega
    | succ m =>
      have k1 := (fr_bd64 t (m + 1) hm ht).2.2 m rfl
      have k2 := (fr_bd64 t m (by omega) (fun i i0 i1 => ht i i0 (by omega))).1
      have k5 := sy_bd (t m)
      have e1 : sy (s n) = sy (t m) := by omega
      have e2 := sy_inj (hs n (by omega) (by omega)) (ht m (by omega) (by omega)) e1
      obtain ⟨rfl, e3⟩ := ih m (by omega) (by omega) (fun i i0 i1 => hs i i0 (by omega)) (fun i i0 i1 => ht i i0 (by omega)) (by omega)
      refine ⟨rfl, fun i i0 i1 => ?_⟩
      by_cases e : i = n
      · rw [e]; exact e2
      · exact e3 i i0 (by omega)
theorem inj63 (s t : Int → Int) : ∀ (n m : Nat), n ≤ 10 → m ≤ 10 → (∀ i : Int, 0 ≤ i → i < n → isY (s i)) → (∀ i : Int, 0 ≤ i → i < m → isY (t i)) → fr f63 s 0 0 n = fr f63 t 0 0 m → n = m ∧ ∀ i : Int, 0 ≤ i → i < n → s i = t i := by
  intro n
  induction n with
  | zero =>
    intro m hn hm hs ht he
    cases m with
    | zero => exact ⟨rfl, fun i i0 i1 => by omega⟩
    | succ m =>
      have h1 := (fr_bd63 t (m + 1) hm ht).2.2 m rfl
      have h2 := (fr_bd63 t m (by omega) (fun i i0 i1 => ht i i0 (by omega))).1
      have h3 := cd_bd (ht m (by omega) (by omega))
      have h4 : fr f63 s 0 0 0 = 0 := rfl
      omega
  | succ n ih =>
    intro m hn hm hs ht he
    have h1 := (fr_bd63 s (n + 1) hn hs).2.2 n rfl
    have h2 := (fr_bd63 s n (by omega) (fun i i0 i1 => hs i i0 (by omega))).1
    have h5 := cd_bd (hs n (by omega) (by omega))
    cases m with
    | zero =>
      have h4 : fr f63 t 0 0 0 = 0 := rfl
      omega
    | succ m =>
      have k1 := (fr_bd63 t (m + 1) hm ht).2.2 m rfl
      have k2 := (fr_bd63 t m (by omega) (fun i i0 i1 => ht i i0 (by omega))).1
      have k5 := cd_bd (ht m (by omega) (by omega))
      have e1 : cd (s n) = cd (t m) := by omega
      have e2 := cd_inj (hs n (by omega) (by omega)) (ht m (by omega) (by omega)) e1
      obtain ⟨rfl, e3⟩ := ih m (by omega) (by omega) (fun i i0 i1 => hs i i0 (by omega)) (fun i i0 i1 => ht i i0 (by omega)) (by omega)
      refine ⟨rfl, fun i i0 i1 => ?_⟩
      by_cases e : i = n
      · rw [e]; exact e2
      · exact e3 i i0 (by omega)
/-- a and b are the codes of one name in the class and in the reference -/
def nr (a b : Int) : Prop := ∃ (s : Int → Int) (n : Nat), n ≤ 10 ∧ (∀ i : Int, 0 ≤ i → i < n → isY (s i)) ∧ a = fr f64 s 0 0 n ∧ b = fr f63 s 0 0 n
theorem nr_0 : nr 0 0 := ⟨fun _ => 0, 0, by omega, fun i i0 i1 => by omega, rfl, rfl⟩
theorem nr_eq {a b a' b' : Int} (h : nr a b) (h' : nr a' b') : a = a' ↔ b = b' := by
  obtain ⟨s, n, hn, hs, rfl, rfl⟩ := h
  obtain ⟨t, m, hm, ht, rfl, rfl⟩ := h'
  constructor
  · intro e
    obtain ⟨rfl, h⟩ := inj64 s t n m hn hm hs ht e
    exact fr_cong h
  · intro e
    obtain ⟨rfl, h⟩ := inj63 s t n m hn hm hs ht e
    exact fr_cong h
def kp (k : Int) : Int := if k ≤ 2 then k else if k = 3 then 28 else k - 1
/-- the keywords, in the class and in the reference -/
def Rkey (C R : MM) : Prop := ∀ k, 0 ≤ k → k < 29 → nr (C 7 k) (R 3 (kp k))
theorem key_none {C R : MM} (h : Rkey C R) {a b : Int} (hn : nr a b) : (∀ j, 0 ≤ j → j < 29 → C 7 j ≠ a) ↔ (∀ j, 0 ≤ j → j < 29 → R 3 j ≠ b) := by
  constructor
  · intro g j j0 j1 e
    by_cases z : j ≤ 2
    · have := h j j0 j1
      rw [show kp j = j from by unfold kp; rw [if_pos z]] at this
      exact g j j0 j1 ((nr_eq this hn).mpr e)
    · by_cases z2 : j = 28
      · have := h 3 (by omega) (by omega)
        rw [show kp 3 = 28 from by decide, ← z2] at this
        exact g 3 (by omega) (by omega) ((nr_eq this hn).mpr e)
      · have := h (j + 1) (by omega) (by omega)
        rw [show kp (j + 1) = j from by unfold kp; rw [if_neg (by omega), if_neg (by omega)]; omega] at this
        exact g (j + 1) (by omega) (by omega) ((nr_eq this hn).mpr e)
  · intro g j j0 j1 e
    have := h j j0 j1
    refine g (kp j) ?_ ?_ ((nr_eq this hn).mp e)
    · unfold kp; grind
    · unfold kp; grind
/-- the tape's name -/
theorem nm_rel {C R : MM} {v v' : Int} (hT : Rtape C R) (hb : ∀ i, -128 ≤ R 1 i ∧ R 1 i ≤ 127) (hK : Rkey C R) (h : nmC C v) (h' : nmR R v') : nr v v' ∧ (v = 0 ↔ v' = 0) := by
  obtain ⟨h1, h2, h3, h4, -⟩ := hT
  have hy : ∀ i, 0 ≤ i → i < C 1 1 → (isY (C 2 i) ↔ isY (R 1 i)) ∧ (isY (C 2 i) → C 2 i = R 1 i) ∧ (isA (C 2 i) ↔ isA (R 1 i)) := by
    intro i i0 i1
    have e := h4 i i0 i1
    have b := hb i
    unfold isY isA isD
    refine ⟨?_, ?_, ?_⟩ <;> omega
  have hnm : isNm (C 2) (C 1 1) ↔ isNm (R 1) (R 0 3) := by
    unfold isNm
    rw [← h1]
    constructor
    · rintro ⟨a, b, c, d⟩; exact ⟨a, b, (hy 0 (by omega) (by omega)).2.2.mp c, fun i i0 i1 => (hy i i0 i1).1.mp (d i i0 i1)⟩
    · rintro ⟨a, b, c, d⟩; exact ⟨a, b, (hy 0 (by omega) (by omega)).2.2.mpr c, fun i i0 i1 => (hy i i0 i1).1.mpr (d i i0 i1)⟩
  have hcode : isNm (C 2) (C 1 1) → nr (fr f64 (C 2) 0 0 (C 1 1).toNat) (fr f63 (R 1) 0 0 (R 0 3).toNat) := by
    rintro ⟨a, b, c, d⟩
    refine ⟨C 2, (C 1 1).toNat, by omega, fun i i0 i1 => d i i0 (by omega), rfl, ?_⟩
    rw [← h1]
    exact fr_cong (fun i i0 i1 => ((hy i i0 (by omega)).2.1 (d i i0 (by omega))).symm)
  rcases h with ⟨a1, a2, rfl⟩ | ⟨a1, rfl⟩
  · have hn := hcode a1
    have b1 := hnm.mp a1
    have b2 := (key_none hK hn).mp a2
    rcases h' with ⟨-, -, rfl⟩ | ⟨c1, -⟩
    · exact ⟨hn, nr_eq hn nr_0⟩
    · exact absurd ⟨b1, b2⟩ c1
  · rcases h' with ⟨c1, c2, -⟩ | ⟨-, rfl⟩
    · have d1 := hnm.mpr c1
      exact absurd ⟨d1, (key_none hK (hcode d1)).mpr c2⟩ a1
    · exact ⟨nr_0, by simp⟩
