/-! all facts counted; what is kept between calls -/
theorem cnK_e2 {K K' : KK} {k : Int} : ∀ {m : Nat}, (∀ t j : Nat, t < m → j < 40 → (K k t j ↔ K' k t j)) → cnK K k m = cnK K' k m := by
  intro m
  induction m with
  | zero => intro _; rfl
  | succ m ih =>
    intro h
    unfold cnK
    rw [ih (fun t j a b => h t j (by omega) b)]
    have : rwK K k m = rwK K' k m := cntB_e fun j hj => dcE (h m j (by omega) hj)
    rw [this]
theorem toK_e2 {K K' : KK} {n n' : Nat} : ∀ {m : Nat}, (∀ k : Nat, k < m → cnK K k n = cnK K' k n') → toK K n m = toK K' n' m := by
  intro m
  induction m with
  | zero => intro _; rfl
  | succ m ih => intro h; unfold toK; rw [ih (fun k a => h k (by omega)), h m (by omega)]
theorem p_totC {C : MM} {K : KK} {n : Int} {X : String → MM → Prop} (hn : C 274 1 = n) (n0 : 0 ≤ n) (n40 : n ≤ 40) (k0 : 0 ≤ C 261 16) (k6 : C 261 16 ≤ 6) (hx : ∀ k a, 0 ≤ k → k < 9 → 0 ≤ a → a < 40 → BS (C 275 (k * 40 + a)) (fun x => K k a x)) {Q : Int → MM → Prop} (hq : Q ((toK K n.toNat (C 261 16).toNat : Nat) : Int) C) : w_X11_rules_b86 Q X 0 0 C := by
  unfold w_X11_rules_b86
  refine loop3 _ (fun (x k : Int) M => C = M ∧ 0 ≤ k ∧ k ≤ C 261 16 ∧ x = ((toK K n.toNat k.toNat : Nat) : Int)) (fun _ k _ => (C 261 16 - k).toNat) ?_ _ _ _ ⟨rfl, by omega, k0, rfl⟩
  rintro x k _ f ⟨rfl, y0, y1, rfl⟩ ih
  unfold wb_X11_rules_b86
  intro v1 e1 _
  rw [e1]
  refine ⟨fun z => ?_, fun z => ?_⟩
  · have : k = C 261 16 := by omega
    rw [this]; exact hq
  obtain ⟨m, rfl⟩ : ∃ m : Nat, k = m := ⟨k.toNat, by omega⟩
  refine p_cntC (K := K) (by omega) (by omega) hn n0 n40 (fun a b d => hx _ a (by omega) (by omega) b d) ?_
  have l1 := toK_le K (n := n.toNat) (by omega) m
  have l2 := cnK_le K (m : Int) n.toNat
  simp only [Int.toNat_natCast]
  refine fun _ => ⟨by unfold ri_; omega, by unfold ri_; omega, ih _ _ _ ⟨rfl, by omega, by omega, ?_⟩ (by omega)⟩
  rw [show ((m : Int) + 1).toNat = m + 1 from by omega]
  show _ = ((toK K n.toNat m + cnK K m n.toNat : Nat) : Int)
  omega
theorem p_totR {R : MM} (k0 : 0 ≤ R 0 133) (k6 : R 0 133 ≤ 6) {Q : Int → MM → Prop} (hq : Q ((toK (FcR R) 40 (R 0 133).toNat : Nat) : Int) R) : w_X12_rules_b238 Q 0 0 R := by
  unfold w_X12_rules_b238
  refine loop3 _ (fun (x k : Int) M => R = M ∧ 0 ≤ k ∧ k ≤ R 0 133 ∧ x = ((toK (FcR R) 40 k.toNat : Nat) : Int)) (fun _ k _ => (R 0 133 - k).toNat) ?_ _ _ _ ⟨rfl, by omega, k0, rfl⟩
  rintro x k _ f ⟨rfl, y0, y1, rfl⟩ ih
  unfold wb_X12_rules_b238
  intro v1 e1 _
  rw [e1]
  refine ⟨fun z => ?_, fun z => ?_⟩
  · have : k = R 0 133 := by omega
    rw [this]; exact hq
  obtain ⟨m, rfl⟩ : ∃ m : Nat, k = m := ⟨k.toNat, by omega⟩
  refine p_cntR (by omega) (by omega) ?_
  have l1 := toK_le (FcR R) (n := 40) (by omega) m
  have l2 := cnK_le (FcR R) (m : Int) 40
  simp only [Int.toNat_natCast]
  refine fun _ => ⟨by unfold ri_; omega, by unfold ri_; omega, ih _ _ _ ⟨rfl, by omega, by omega, ?_⟩ (by omega)⟩
  rw [show ((m : Int) + 1).toNat = m + 1 from by omega]
  show _ = ((toK (FcR R) 40 m + cnK (FcR R) m 40 : Nat) : Int)
  omega
def Rru (C R : MM) : Prop := C 261 16 = R 0 133 ∧ 0 ≤ C 261 16 ∧ C 261 16 ≤ 6 ∧ 0 ≤ C 274 1 ∧ C 274 1 ≤ 40 ∧ ∀ k, 0 ≤ k → k < C 261 16 → C 273 k = R 83 k ∧ (R 83 k = 0 ∨ R 83 k = 1 ∨ R 83 k = 2) ∧ (∀ a, 0 ≤ a → a < 40 → BS (C 275 (k * 40 + a)) (fun x => x < 40 ∧ FcR R k a x)) ∧ (∀ a b, 0 ≤ a → a < 40 → 0 ≤ b → b < 40 → FcR R k a b → a < C 274 1 ∧ b < C 274 1) ∧ (R 83 k = 0 → ∀ a, 0 ≤ a → a < 40 → R 94 (40 * k + a) ≠ 1)
theorem ru_of {C A R1 R : MM} {n : Int} {K : KK} (oA : OKW A) (n0 : 0 ≤ n) (n40 : n ≤ 40) (c1 : C 274 1 = n) (c16 : C 261 16 = A 261 16) (c273 : C 273 = A 273) (h133 : R 0 133 = A 261 16) (h83 : ∀ i, 0 ≤ i → i < A 261 16 → R 83 i = A 273 i) (hx : KX C K) (hk : ∀ k a b, K k a b ↔ FRk A n R k a b) (z94 : ∀ i, 0 ≤ i → i < 240 → R1 94 i = 0) (z95 : ∀ i, 0 ≤ i → i < 1600 * A 261 16 → R1 95 i = 0) (oj : OutJ A n R1 R) : Rru C R ∧ toK K n.toNat (C 261 16).toNat = toK (FcR R) 40 (R 0 133).toNat := by
  have k6 := oA.2.1
  have k0 := oA.1
  have o1 : ∀ k a, 0 ≤ k → k < A 261 16 → 0 ≤ a → a < 40 → R 94 (40 * k + a) = 1 → A 273 k = 1 ∧ a < n := fun k a y1 y2 y3 y4 y5 => by
    rcases oj.1 (40 * k + a) with e | ⟨k', a', w1, w2, w3, w4, w5, w6⟩
    · rw [z94 _ (by omega) (by omega)] at e; omega
    · have e1 : k' = k := by omega
      have e2 : a' = a := by omega
      rw [e1] at w3; rw [e2] at w5
      exact ⟨w3, w5⟩
  have o2 : ∀ k a b, 0 ≤ k → k < A 261 16 → 0 ≤ a → a < 40 → 0 ≤ b → b < 40 → R 95 (1600 * k + 40 * a + b) = 1 → a < n ∧ b < n := fun k a b y1 y2 y3 y4 y5 y6 y7 => by
    rcases oj.2 (1600 * k + 40 * a + b) with e | ⟨k', a', b', w1, w2, w3, w4, w5, w6, w7, w8⟩
    · rw [z95 _ (by omega) (by omega)] at e; omega
    · have e1 : k' = k := by omega
      have e2 : a' = a := by omega
      have e3 : b' = b := by omega
      rw [e2] at w5; rw [e3] at w7
      exact ⟨w5, w7⟩
  have fr : ∀ k a b, 0 ≤ k → k < A 261 16 → 0 ≤ a → a < 40 → 0 ≤ b → b < 40 → FcR R k a b → a < n ∧ b < n := fun k a b y1 y2 y3 y4 y5 y6 y7 => by
    rcases y7 with ⟨w1, w2, w3⟩ | ⟨w1, w2⟩
    · have := (o1 k a y1 y2 y3 y4 w3).2; omega
    · exact o2 k a b y1 y2 y3 y4 y5 y6 w2
  have eq : ∀ k a b, 0 ≤ k → k < A 261 16 → 0 ≤ a → a < 40 → 0 ≤ b → (K k a b ↔ b < 40 ∧ FcR R k a b) := fun k a b y1 y2 y3 y4 y5 => by
    rw [hk]
    unfold FRk FcR
    rw [h83 k y1 y2]
    constructor
    · rintro ⟨x1, x2, x3, x4, x5⟩
      refine ⟨by omega, ?_⟩
      rcases x5 with ⟨_, _, x⟩ | x
      · exact x
      · omega
    · rintro ⟨y6, x⟩
      have q := fr k a b y1 y2 y3 y4 y5 y6 (by unfold FcR; rw [h83 k y1 y2]; exact x)
      exact ⟨y3, q.1, y5, q.2, Or.inl ⟨y1, y2, x⟩⟩
  refine ⟨⟨by rw [c16, h133], by rw [c16]; exact k0, by rw [c16]; exact k6, by rw [c1]; exact n0, by rw [c1]; exact n40, fun k y1 y2 => ?_⟩, ?_⟩
  · rw [c16] at y2
    refine ⟨by rw [c273, h83 k y1 y2], by rw [h83 k y1 y2]; exact oA.2.2.2.2.1 k y1 y2, fun a a0 a1 => BS_e (hx.1 k a y1 (by omega) a0 a1).1 (fun j => eq k a j y1 y2 a0 a1 (by omega)), by rw [c1]; exact fun a b a0 a1 b0 b1 => fr k a b y1 y2 a0 a1 b0 b1, fun z a a0 a1 w => ?_⟩
    have := (o1 k a y1 y2 a0 a1 w).1
    rw [h83 k y1 y2] at z; omega
  · rw [c16, h133]
    refine toK_e2 (fun k y2 => ?_)
    have ky : (k : Int) < A 261 16 := by omega
    have e1 : cnK K k 40 = cnK K k n.toNat := by
      have := cnK_40 (K := K) (k := (k : Int)) (n := n.toNat) (fun t j w q => by have := ((hk _ _ _).mp q).2.1; omega) (40 - n.toNat)
      rw [show n.toNat + (40 - n.toNat) = 40 from by omega] at this
      exact this
    rw [← e1]
    refine cnK_e2 (fun t j a b => ?_)
    rw [eq k t j (by omega) ky (by omega) (by omega) (by omega)]
    exact ⟨fun q => q.2, fun q => ⟨by omega, q⟩⟩
