/-! a record of the log that is good is read, on both sides -/
theorem p_decR {Q : Int → MM → Prop} {C R0 : MM} {c : Nat} {a n : Int} {B : Int → Int} (hY : Rty C R0) (hL : Rlk C) (hc : isP c) (hP : PF C c) (a0 : 0 ≤ a) (n0 : 0 ≤ n) (ha : a + 2 + n ≤ 8000) (hB : ∀ i, 0 ≤ i → i < n → C 282 (a + 2 + i) = B i ∧ 0 ≤ B i ∧ B i < 256) (hG : Gd C B n) (hq : ∀ E M, EMd C E c 282 (a + 2) n → Rty E R0 → Rlk E → (dcF E B n).1 = 0 → (∀ u : Nat, u < (nvl B n 0).toNat → tY E B n u < 20 → C 12 (tY E B n u) = 1) → FDw E M c → DOK E M c (a + 2) n B (nvl B n 0) → (∀ k, ¬ (c ≤ k ∧ k ≤ c + 18) → k ≠ 280 → k ≠ 283 → k ≠ 284 → M k = C k) → (∀ i, i ∉ ([6, 7, 8, 9, 10, 13, 14] : List Int) → M 280 i = C 280 i) → PW M c → Q 1 M) : w_X0_decode 282 8000 c Q (a + 2) (a + 2 + n) C := by
  have mc := isP_m hc
  have gE : ∀ E, EMd C E c 282 (a + 2) n → Rty E R0 ∧ Gd E B n := fun E hE => by
    have hYE : Rty E R0 := Rty_C hY (fun k x y => hE.1 k (by omega) (by omega) (by omega) (by omega) (by omega))
    exact ⟨hYE, (Gd_le hY hYE (tyLe_of (by rw [hE.1 8 (by omega) (by omega) (by omega) (by omega) (by omega)]) (fun k x y => hE.1 k (by omega) (by omega) (by omega) (by omega) (by omega))) hG).1⟩
  refine p_decode (a := 282) (na := 8000) (b0 := a + 2) (n := n) (B := B) hY hL hc hP (by omega) (by decide) (by decide) (by decide) (by decide +kernel) (by decide) (by omega) n0 (by omega) hB (fun E hE dz M hF hD _ _ => ?_) (fun E hE dz => absurd (gE E hE).2.1 dz)
  obtain ⟨hYE, hGE⟩ := gE E hE
  have hLE : Rlk E := Rlk_of hL (by rw [hE.1 8 (by omega) (by omega) (by omega) (by omega) (by omega)]) (hE.1 14 (by omega) (by omega) (by omega) (by omega) (by omega)) (hE.1 19 (by omega) (by omega) (by omega) (by omega) (by omega)) (hE.1 20 (by omega) (by omega) (by omega) (by omega) (by omega))
  have e12 : E 12 = C 12 := hE.1 12 (by omega) (by omega) (by omega) (by omega) (by omega)
  have m12 : M 12 = C 12 := by rw [hF.1 12 (by omega) (by omega) (by omega) (by omega), e12]
  have hu : ∀ u : Nat, u < (nvl B n 0).toNat → tY E B n u < 20 → C 12 (tY E B n u) = 1 := fun u hu q => by rw [← e12]; exact hGE.2 u (by omega) q
  exact hq E M hE hYE hLE dz hu hF hD (fun k x y z w => by rw [hF.1 k (by omega) y z w, hE.1 k (by omega) (by omega) (by omega) (by omega) y]) (fun i hi => by rw [hF.2.2 i (fun y => hi (by simp only [List.mem_cons, List.not_mem_nil, or_false] at y ⊢; omega)), hE.2.2.2.2.2.2.2.2 i (fun y => hi (by simp only [List.mem_cons, List.not_mem_nil, or_false] at y ⊢; omega))]) (PW_dec hYE (by omega) hD hF hE.2.2.2.2.2.2.1 (fun _ _ => rfl) (fun u h q => by rw [m12]; exact hu u h q) (by omega))
/-- what the reference touches where it reads a good record -/
def FRc (A N : MM) : Prop := (∀ k, k ∉ [0, 16, 38, 39, 40, 41, 42, 55, 56, 57, 58, 60, 98, 100, 101] → N k = A k) ∧ (∀ k i q, 38 ≤ k → k ≤ 59 → 0 ≤ q → q < 4 → rw_ k q i → N k i = A k i) ∧ (∀ i, i ∉ ([83, 84, 141, 142, 143, 146] : List Int) → N 0 i = A 0 i) ∧ ∀ i, 0 ≤ i → i < 16 → N 16 i = A 16 i
theorem FRc_r (A : MM) : FRc A A := ⟨fun _ _ => rfl, fun _ _ _ _ _ _ _ _ => rfl, fun _ _ => rfl, fun _ _ _ => rfl⟩
theorem FRc_t {A B D : MM} (h : FRc A B) (h' : FRc B D) : FRc A D := ⟨fun k hk => by rw [h'.1 k hk, h.1 k hk], fun k i q a b d e f => by rw [h'.2.1 k i q a b d e f, h.2.1 k i q a b d e f], fun i hi => by rw [h'.2.2.1 i hi, h.2.2.1 i hi], fun i a b => by rw [h'.2.2.2 i a b, h.2.2.2 i a b]⟩
theorem p_recR {Q : Int → MM → Prop} {E A : MM} {a n : Int} {B : Int → Int} (hY : Rty E A) (hL : Rlk E) (a0 : 0 ≤ a) (n0 : 0 ≤ n) (ha : a + 2 + n ≤ 8000) (hn : A 99 a % 256 + 256 * (A 99 (a + 1) % 256) = n) (hB : ∀ i, 0 ≤ i → i < n → A 99 (a + 2 + i) % 256 = B i) (hd : (dcF E B n).1 = 0) (hu : ∀ u : Nat, u < (nvl B n 0).toNat → tY E B n u < 20 → A 16 (tY E B n u) = 1) (hq : ∀ N, FRc A N → N 0 83 = 0 → AT E B n (nvl B n 0) → ROK E N n B (nvl B n 0) → Q 0 N) : w_X12_takeRecord (fun _ M4 => w_X12_takePicture Q M4) a A := by
  unfold w_X12_takeRecord
  refine ⟨a0, by omega, fun v1 e1 _ => ⟨by unfold ri_; omega, by omega, by omega, fun v3 e3 _ => ?_⟩⟩
  rw [jand_255, jand_255, e1, e3]
  refine ⟨by unfold ri_; omega, by unfold ri_; omega, fun M6 e6 => ?_⟩
  rw [hn] at e6
  unfold w_X12_takeRecord_b33
  refine loop3 _ (fun (b k : Int) M1 => a = b ∧ 0 ≤ k ∧ k ≤ n ∧ (∀ q, q ≠ 98 → M1 q = M6 q) ∧ ∀ i, 0 ≤ i → i < k → M1 98 i = A 99 (a + 2 + i)) (fun (_ k : Int) _ => (n - k).toNat) ?_ _ _ _ ⟨rfl, by omega, n0, fun _ _ => rfl, fun i x y => by omega⟩
  rintro _ k M1 f ⟨rfl, k0, k1, o1, hv⟩ ih
  unfold wb_X12_takeRecord_b33
  intro w1 f1 _
  rw [o1 0 (by decide), e6, ux_s] at f1
  refine ⟨fun z => ?_, fun z => ⟨by unfold ri_; omega, by unfold ri_; omega, by omega, by omega, fun v5 e5 _ => ⟨by omega, by omega, fun M7 e7 => ⟨by unfold ri_; omega, ih _ _ _ ⟨rfl, by omega, by omega, fun q hq' => by rw [e7]; funext i; rw [ux_c _ _ _ _ hq', o1 q hq'], fun i x y => ?_⟩ (by omega)⟩⟩⟩⟩
  · have kn : k = n := by omega
    have oA : ∀ k, k ≠ 0 → k ≠ 98 → M1 k = A k := fun k x y => by rw [o1 k y, e6]; funext i; rw [ux_c _ _ _ _ x]
    have iA : ∀ i, i ≠ 141 → M1 0 i = A 0 i := fun i hi => by rw [o1 0 (by decide), e6, ux_i _ _ _ hi]
    have hYA : Rty E M1 := Rty_R hY (fun k x y _ => oA k (by omega) (by omega)) (iA 20 (by decide))
    have SA : Sr M1 n B := ⟨by rw [o1 0 (by decide), e6, ux_s], n0, by omega, fun i x y => by
      have := hB i x y
      rw [hv i x (by omega), this]
      omega⟩
    refine p_takePicture hYA hL SA (fun _ L N' FL hAT hR x83 x84 oN' uN' => ?_) (fun dz' => absurd hd dz')
    obtain ⟨y1, y2, y3, y4, y5, y6⟩ := FL
    refine hq N' ⟨fun k hk => ?_, fun k i q b0 b1 q0 q4 w => ?_, fun i hi => ?_, fun i i0 i1 => ?_⟩ (by rw [oN' 0 (by decide)]; exact x83) hAT ?_
    · simp only [List.mem_cons, List.not_mem_nil, or_false, not_or] at hk
      rw [oN' k (by omega), y1 k (by simp only [List.mem_cons, List.not_mem_nil, or_false]; omega), oA k (by omega) (by omega)]
    · rw [oN' k (by omega), ← oA k (by omega) (by omega)]
      by_cases in1 : k ∈ [0, 38, 39, 40, 41, 42, 55, 56, 57, 58, 60, 100, 101]
      · simp only [List.mem_cons, List.not_mem_nil, or_false] at in1
        unfold rw_ at w
        by_cases a1 : k ∈ [39, 40, 41, 42]
        · exact y2 k i a1 (by simp only [List.mem_cons, List.not_mem_nil, or_false] at a1; omega)
        · by_cases a2 : k ∈ [38, 55]
          · exact y4 k i a2 (by simp only [List.mem_cons, List.not_mem_nil, or_false] at a2; omega)
          · by_cases a3 : k ∈ [56, 57]
            · exact y5 k i a3 (by simp only [List.mem_cons, List.not_mem_nil, or_false] at a3; omega)
            · simp only [List.mem_cons, List.not_mem_nil, or_false] at a1 a2 a3
              have : k = 58 := by omega
              subst this
              exact y3 i (by omega)
      · rw [y1 k in1]
    · simp only [List.mem_cons, List.not_mem_nil, or_false, not_or] at hi
      rw [oN' 0 (by decide), y6 i (by simp only [List.mem_cons, List.not_mem_nil, or_false]; omega), iA i (by omega)]
    · rw [uN' i i0 i1]
      by_cases w : ∃ u, u < (nvl B n 0).toNat ∧ tY E B n u = i
      · rw [usd_1 w]
        obtain ⟨u, u1, u2⟩ := w
        have := hu u u1 (by omega)
        rw [u2] at this
        exact this.symm
      · rw [usd_0 w, oA 16 (by decide) (by decide)]
    · obtain ⟨b1, b2, b3, b4⟩ := hR
      exact ⟨by rw [oN' 38 (by decide)]; exact b1, KTr_o b2 (fun q hq => oN' q (fun y => by rw [y] at hq; revert hq; decide)), fun u hu => KSr_o (b3 u hu) ⟨oN' 58 (by decide), oN' 101 (by decide)⟩, ⟨by rw [oN' 55 (by decide)]; exact b4.1, fun i hi => by rw [oN' 56 (by decide), oN' 57 (by decide)]; exact b4.2 i hi⟩⟩
  · rw [e7]
    by_cases w : i = k
    · rw [w, ux_s, e5, o1 99 (by decide), e6, ux_c _ _ _ _ (by decide)]
    · rw [ux_i _ _ _ w]; exact hv i x (by omega)
