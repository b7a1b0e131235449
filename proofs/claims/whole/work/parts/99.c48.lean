/-! promise, on both sides -/
def FZc (C C' : MM) : Prop := (∀ k, k ∉ [0, 1, 4, 5, 6, 260] → (k < 46 ∨ 231 < k ∧ k < 236 ∨ 259 < k) → C' k = C k) ∧ (∀ i, i ∉ ([10, 16, 17] : List Int) → C' 0 i = C 0 i) ∧ (∀ i, i ∉ ([4, 8, 9, 10, 11] : List Int) → C' 1 i = C 1 i) ∧ C' 219 20 = C 219 20
def FZr (R R' : MM) : Prop := (∀ k, k ∉ [0, 36, 37, 60, 62, 66, 67, 68, 69, 70, 71, 72, 73, 74, 78, 79] → k < 38 ∨ 59 < k → R' k = R k) ∧ (∀ k i, 38 ≤ k → k ≤ 59 → ¬ rw_ k 4 i → R' k i = R k i) ∧ ∀ i, i ∉ ([0, 47, 73, 78, 79, 80, 81, 82, 83, 84, 85, 91, 92, 93, 94, 95, 97, 98, 99, 101, 102, 103, 113, 114] : List Int) → R' 0 i = R 0 i
/-- the reference, with the promise that was read, as the class sees it -/
def prv (R N : MM) (b n' K x g : Int) : MM := fun k i => if 66 ≤ k ∧ k ≤ 70 ∧ b ≤ i ∧ i < b + n' then N k i else if k = 78 ∧ i = K then x else if k = 0 ∧ i = 114 then g else R k i
theorem prv_k {R N : MM} {b n' K x g : Int} {k : Nat} (h0 : k ≠ 0) (h : k < 66 ∨ 70 < k) (h78 : k ≠ 78) : prv R N b n' K x g k = R k := funext fun i => by unfold prv; rw [if_neg (by omega), if_neg (by omega), if_neg (by omega)]
theorem prv_i {R N : MM} {b n' K x g i : Int} (h : i ≠ 114) : prv R N b n' K x g 0 i = R 0 i := by unfold prv; rw [if_neg (by omega), if_neg (by omega), if_neg (by omega)]
theorem prv_4 {R N : MM} {b n' K x g : Int} : prv R N b n' K x g 0 114 = g := by unfold prv; rw [if_neg (by omega), if_neg (by omega), if_pos ⟨rfl, rfl⟩]
theorem prv_8 {R N : MM} {b n' K x g : Int} : prv R N b n' K x g 78 K = x := by unfold prv; rw [if_neg (by omega), if_pos ⟨rfl, rfl⟩]
theorem prv_n {R N : MM} {b n' K x g : Int} {k : Nat} {i : Int} (a : 66 ≤ k) (c : k ≤ 70) (d : b ≤ i) (e : i < b + n') : prv R N b n' K x g k i = N k i := by unfold prv; rw [if_pos ⟨a, c, d, e⟩]
theorem prv_78 {R N : MM} {b n' K x g i : Int} (h : i ≠ K) : prv R N b n' K x g 78 i = R 78 i := by unfold prv; rw [if_neg (by omega), if_neg (by omega), if_neg (by omega)]
def has20 (N : MM) (b n' : Int) : Prop := ∃ i, b ≤ i ∧ i < b + n' ∧ N 66 i = 20
/-- the nodes that ask for what is kept -/
theorem r_kept {M5 N : MM} {b n' : Int} {Q : Int → MM → Prop} (b0 : 0 ≤ b) (bn : b + n' ≤ 480) (n0 : 0 ≤ n') (h91 : M5 0 91 = b) (h92 : M5 0 92 = n') (h114 : M5 0 114 = 0 ∨ M5 0 114 = 1) (hN : ∀ i, b ≤ i → i < b + n' → M5 66 i = N 66 i)
    (hq : ∀ M, (∀ k, k ≠ 0 → M k = M5 k) → (∀ i, i ≠ 114 → M 0 i = M5 0 i) → (M 0 114 = 0 ∨ M 0 114 = 1) → (M 0 114 = 1 ↔ (M5 0 114 = 1 ∨ has20 N b n')) → w_X12_takeNow (fun _ M4 => (∀ v5, v5 = M4 0 113 → ri_ v5 → (∀ v6, v6 = M4 0 113 → ri_ v6 → w_X12_isTrueNow (fun r7 M8 => (r7 = 0 ∨ r7 = 1) → (r7 = 0 → w_X12_promise_b165 Q (-1) v5 M8) ∧ (¬ r7 = 0 → w_X12_promise_b165 Q (-2) v5 M8)) v6 M4))) M) : w_X12_promise_b90 Q 0 M5 := by
  unfold w_X12_promise_b90
  refine loop2 _ (fun (x2 : Int) M => 0 ≤ x2 ∧ x2 ≤ n' ∧ (∀ k, k ≠ 0 → M k = M5 k) ∧ (∀ i, i ≠ 114 → M 0 i = M5 0 i) ∧ (M 0 114 = 0 ∨ M 0 114 = 1) ∧ (M 0 114 = 1 ↔ (M5 0 114 = 1 ∨ has20 N b x2))) (fun (x2 : Int) _ => (n' - x2).toNat) ?_ _ _ ⟨by omega, n0, fun _ _ => rfl, fun _ _ => rfl, h114, ⟨fun y => Or.inl y, fun y => ?_⟩⟩
  · rintro x2 M f ⟨a0, a1, hk, hi, h01, hf⟩ ih
    unfold wb_X12_promise_b90
    intro v1 e1 _
    rw [hi 92 (by decide), h92] at e1
    refine ⟨fun z => hq M hk hi h01 (by rw [show n' = x2 from by omega]; exact hf), fun z v10 e10 _ => ⟨fun y => ?_, fun y v12 e12 _ => ?_⟩⟩
    · unfold w_X12_promise_b122 w_X12_promise_b127
      have m1 : M 0 114 = 1 := by omega
      refine ⟨Or.inr rfl, fun M1 em => ⟨by unfold ri_; omega, ih _ _ ⟨by omega, by omega, fun k hk' => by rw [em, ux_g _ _ _ hk']; exact hk k hk', fun i hi' => by rw [em, ux_i _ _ _ hi']; exact hi i hi', by rw [em, ux_s]; exact Or.inr rfl, ⟨fun _ => ?_, fun _ => by rw [em, ux_s]⟩⟩ (by omega)⟩⟩
      rcases hf.mp m1 with w | ⟨i, i0, i1, i2⟩
      · exact Or.inl w
      · exact Or.inr ⟨i, i0, by omega, i2⟩
    · rw [hi 91 (by decide), h91] at e12
      rw [e12]
      refine ⟨by unfold ri_; omega, by omega, by omega, fun v14 e14 _ => ?_⟩
      rw [hk 66 (by decide), hN (b + x2) (by omega) (by omega)] at e14
      have m0 : M 0 114 = 0 := by omega
      have no : ¬ (M5 0 114 = 1 ∨ has20 N b x2) := fun w => by have := hf.mpr w; omega
      refine ⟨fun g => ?_, fun g => ?_⟩
      · unfold w_X12_promise_b127
        refine ⟨Or.inl rfl, fun M1 em => ⟨by unfold ri_; omega, ih _ _ ⟨by omega, by omega, fun k hk' => by rw [em, ux_g _ _ _ hk']; exact hk k hk', fun i hi' => by rw [em, ux_i _ _ _ hi']; exact hi i hi', by rw [em, ux_s]; exact Or.inl rfl, ⟨fun w => by rw [em, ux_s] at w; omega, fun w => ?_⟩⟩ (by omega)⟩⟩
        rcases w with w | ⟨i, i0, i1, i2⟩
        · exact absurd (Or.inl w) no
        · by_cases q : i = b + x2
          · rw [q] at i2; omega
          · exact absurd (Or.inr ⟨i, i0, by omega, i2⟩) no
      · unfold w_X12_promise_b122 w_X12_promise_b127
        exact ⟨Or.inr rfl, fun M1 em => ⟨by unfold ri_; omega, ih _ _ ⟨by omega, by omega, fun k hk' => by rw [em, ux_g _ _ _ hk']; exact hk k hk', fun i hi' => by rw [em, ux_i _ _ _ hi']; exact hi i hi', by rw [em, ux_s]; exact Or.inr rfl, ⟨fun _ => Or.inr ⟨b + x2, by omega, by omega, by omega⟩, fun _ => by rw [em, ux_s]⟩⟩ (by omega)⟩⟩
  · rcases y with y | ⟨i, i0, i1, -⟩
    · exact y
    · omega
