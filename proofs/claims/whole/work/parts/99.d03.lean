/-! predicates of the texts, of the constructors loops -/
def sb0 (n : Nat) : Int := ([97, 108, 108, 32, 111, 119, 110, 32, 116, 104, 105, 110, 103, 115, 32, 116, 104, 105, 110, 103, 32, 119, 104, 101, 114, 101, 32, 103, 101, 116, 32, 97, 110, 100, 32, 111, 114, 32, 110, 111, 116, 32, 110, 117, 108, 108, 32, 116, 114, 117, 101, 32, 102, 97, 108, 115, 101, 32, 105, 115, 32, 105, 110, 32, 99, 111, 117, 110, 116, 32, 115, 117, 109, 32, 109, 111, 115, 116, 32, 108, 101, 97, 115, 116, 32, 115, 111, 109, 101, 32, 101, 97, 99, 104, 32, 115, 105, 122, 101, 32, 107, 101, 112, 116, 32, 100, 101, 112, 116, 104, 32, 108, 101, 110, 103, 116, 104, 32, 99, 108, 97, 115, 115, 32, 115, 108, 111, 116, 115, 32, 104, 101, 108, 100, 32, 102, 114, 111, 109, 32, 105, 116, 32] : List Int).getD n 0
theorem sb0_b (n : Nat) : 0 ≤ sb0 n ∧ sb0 n ≤ 122 := by
  by_cases h : n < 143
  · have : ∀ k, k < 143 → (0 ≤ sb0 k ∧ sb0 k ≤ 122) := by decide
    exact this n h
  · unfold sb0
    rw [List.getD_eq_getElem?_getD, List.getElem?_eq_none (by simp; omega)]
    simp
theorem sb0_ri (n : Nat) : ri_ (sb0 n) := by have := sb0_b n; unfold ri_; omega
def sb1 (n : Nat) : Int := ([105, 102] : List Int).getD n 0
theorem sb1_b (n : Nat) : 0 ≤ sb1 n ∧ sb1 n ≤ 122 := by
  by_cases h : n < 2
  · have : ∀ k, k < 2 → (0 ≤ sb1 k ∧ sb1 k ≤ 122) := by decide
    exact this n h
  · unfold sb1
    rw [List.getD_eq_getElem?_getD, List.getElem?_eq_none (by simp; omega)]
    simp
theorem sb1_ri (n : Nat) : ri_ (sb1 n) := by have := sb1_b n; unfold ri_; omega
def sb2 (n : Nat) : Int := ([108, 105, 110, 107] : List Int).getD n 0
theorem sb2_b (n : Nat) : 0 ≤ sb2 n ∧ sb2 n ≤ 122 := by
  by_cases h : n < 4
  · have : ∀ k, k < 4 → (0 ≤ sb2 k ∧ sb2 k ≤ 122) := by decide
    exact this n h
  · unfold sb2
    rw [List.getD_eq_getElem?_getD, List.getElem?_eq_none (by simp; omega)]
    simp
theorem sb2_ri (n : Nat) : ri_ (sb2 n) := by have := sb2_b n; unfold ri_; omega
def w_J0_checkIndex_df160_B (Q : Int → MM → Prop) (p1 p2 : Int) (M : MM) : Prop := 0 ≤ p1 ∧ p1 < p2 ∧ Q 0 M
def w_J0_coder_7d493_B0 (Q : Int → MM → Prop) (M : MM) : Prop := Q 0 M
def w_J0_length_8abf5_B0 (Q : Int → MM → Prop) (M : MM) : Prop := w_J0_coder_7d493_B0  (fun r1 M2 => (-128 ≤ r1 ∧ r1 ≤ 127) → Q (jshr ((143 : Nat) : Int) r1) M2)  M
def w_J0_isLatin1_aae02_B0 (Q : Int → MM → Prop) (M : MM) : Prop := Q 1 M
def w_J1_charAt_3b067_B0 (Q : Int → MM → Prop) (p2 : Int) (M : MM) : Prop := w_J0_checkIndex_df160_B  (fun _ M2 => 0 ≤ p2 ∧ p2 < 143 ∧ ((0 ≤ (ji2c (jand (sb0 (p2).toNat) 255)) ∧ (ji2c (jand (sb0 (p2).toNat) 255)) ≤ 65535) ∧ Q (ji2c (jand (sb0 (p2).toNat) 255)) M2)) p2 ((143 : Nat) : Int) M
def w_J0_charAt_5068e_B0 (Q : Int → MM → Prop) (p1 : Int) (M : MM) : Prop := w_J0_isLatin1_aae02_B0  (fun r1 M2 => (r1 = 0 ∨ r1 = 1) → (r1 = 0 → False) ∧ (¬ r1 = 0 → w_J1_charAt_3b067_B0  (fun r4 M5 => ri_ r4 → (0 ≤ r4 ∧ r4 ≤ 65535) ∧ Q r4 M5) p1 M2))  M
def w_J0_coder_7d493_B1 (Q : Int → MM → Prop) (M : MM) : Prop := Q 0 M
def w_J0_length_8abf5_B1 (Q : Int → MM → Prop) (M : MM) : Prop := w_J0_coder_7d493_B1  (fun r1 M2 => (-128 ≤ r1 ∧ r1 ≤ 127) → Q (jshr ((2 : Nat) : Int) r1) M2)  M
def w_J0_isLatin1_aae02_B1 (Q : Int → MM → Prop) (M : MM) : Prop := Q 1 M
def w_J1_charAt_3b067_B1 (Q : Int → MM → Prop) (p2 : Int) (M : MM) : Prop := w_J0_checkIndex_df160_B  (fun _ M2 => 0 ≤ p2 ∧ p2 < 2 ∧ ((0 ≤ (ji2c (jand (sb1 (p2).toNat) 255)) ∧ (ji2c (jand (sb1 (p2).toNat) 255)) ≤ 65535) ∧ Q (ji2c (jand (sb1 (p2).toNat) 255)) M2)) p2 ((2 : Nat) : Int) M
def w_J0_charAt_5068e_B1 (Q : Int → MM → Prop) (p1 : Int) (M : MM) : Prop := w_J0_isLatin1_aae02_B1  (fun r1 M2 => (r1 = 0 ∨ r1 = 1) → (r1 = 0 → False) ∧ (¬ r1 = 0 → w_J1_charAt_3b067_B1  (fun r4 M5 => ri_ r4 → (0 ≤ r4 ∧ r4 ≤ 65535) ∧ Q r4 M5) p1 M2))  M
def wb_X9_codeOf_B1_b4  (Q : Int → MM → Prop)  (again : Int → Int → MM → Prop) (x1 x3 : Int) (M : MM) : Prop := w_J0_length_8abf5_B1  (fun r1 M2 => ri_ r1 → (r1 ≤ x3 → Q x1 M2) ∧ (¬ r1 ≤ x3 → w_J0_charAt_5068e_B1  (fun r4 M5 => ri_ r4 → w_X9_symbolOf  (fun r6 M7 => ri_ r6 → ri_ (x3 + 1) ∧ (again (w64 ((w64 (x1 * 64)) + r6)) (x3 + 1) M7)) r4 M5) x3 M2))  M
def w_X9_codeOf_B1_b4  (Q : Int → MM → Prop)  (x1 x3 : Int) (M : MM) : Prop := ∃ n, jit (fun _ _ _ => False) (wb_X9_codeOf_B1_b4  Q ) n x1 x3 M
def w_X9_codeOf_B1 (Q : Int → MM → Prop) (M : MM) : Prop := w_X9_codeOf_B1_b4  Q  0 0 M
def w_J0_coder_7d493_B2 (Q : Int → MM → Prop) (M : MM) : Prop := Q 0 M
def w_J0_length_8abf5_B2 (Q : Int → MM → Prop) (M : MM) : Prop := w_J0_coder_7d493_B2  (fun r1 M2 => (-128 ≤ r1 ∧ r1 ≤ 127) → Q (jshr ((4 : Nat) : Int) r1) M2)  M
def w_J0_isLatin1_aae02_B2 (Q : Int → MM → Prop) (M : MM) : Prop := Q 1 M
def w_J1_charAt_3b067_B2 (Q : Int → MM → Prop) (p2 : Int) (M : MM) : Prop := w_J0_checkIndex_df160_B  (fun _ M2 => 0 ≤ p2 ∧ p2 < 4 ∧ ((0 ≤ (ji2c (jand (sb2 (p2).toNat) 255)) ∧ (ji2c (jand (sb2 (p2).toNat) 255)) ≤ 65535) ∧ Q (ji2c (jand (sb2 (p2).toNat) 255)) M2)) p2 ((4 : Nat) : Int) M
def w_J0_charAt_5068e_B2 (Q : Int → MM → Prop) (p1 : Int) (M : MM) : Prop := w_J0_isLatin1_aae02_B2  (fun r1 M2 => (r1 = 0 ∨ r1 = 1) → (r1 = 0 → False) ∧ (¬ r1 = 0 → w_J1_charAt_3b067_B2  (fun r4 M5 => ri_ r4 → (0 ≤ r4 ∧ r4 ≤ 65535) ∧ Q r4 M5) p1 M2))  M
def wb_X9_codeOf_B2_b4  (Q : Int → MM → Prop)  (again : Int → Int → MM → Prop) (x1 x3 : Int) (M : MM) : Prop := w_J0_length_8abf5_B2  (fun r1 M2 => ri_ r1 → (r1 ≤ x3 → Q x1 M2) ∧ (¬ r1 ≤ x3 → w_J0_charAt_5068e_B2  (fun r4 M5 => ri_ r4 → w_X9_symbolOf  (fun r6 M7 => ri_ r6 → ri_ (x3 + 1) ∧ (again (w64 ((w64 (x1 * 64)) + r6)) (x3 + 1) M7)) r4 M5) x3 M2))  M
def w_X9_codeOf_B2_b4  (Q : Int → MM → Prop)  (x1 x3 : Int) (M : MM) : Prop := ∃ n, jit (fun _ _ _ => False) (wb_X9_codeOf_B2_b4  Q ) n x1 x3 M
def w_X9_codeOf_B2 (Q : Int → MM → Prop) (M : MM) : Prop := w_X9_codeOf_B2_b4  Q  0 0 M
def w_X9_init_b124  (Q : Int → MM → Prop) (K63 : Int → Int → Int → MM → Prop) (x1 x2 x4 : Int) (M : MM) : Prop := ri_ (x4 + 1) ∧ (K63 x1 x2 (x4 + 1) M)
def wb_X9_init_b63  (Q : Int → MM → Prop)  (again : Int → Int → Int → MM → Prop) (x1 x2 x4 : Int) (M : MM) : Prop := w_J0_length_8abf5_B0  (fun r1 M2 => ri_ r1 → (r1 ≤ x4 → Q 0 M2) ∧ (¬ r1 ≤ x4 → w_J0_charAt_5068e_B0  (fun r4 M5 => ri_ r4 → (r4 = 32 → (29 ≤ x1 → w_X9_init_b124  Q again x1 x2 x4 M5) ∧ (¬ 29 ≤ x1 → M5 1 3 = ((7 : Nat) : Int) ∧ (0 ≤ x1 ∧ x1 < 29 ∧ (∀ M8, M8 = ux_ M5 7 x1 x2 → ri_ (x1 + 1) ∧ (w_X9_init_b124  Q again (x1 + 1) 0 x4 M8))))) ∧ (¬ r4 = 32 → w_J0_charAt_5068e_B0  (fun r10 M11 => ri_ r10 → w_X9_symbolOf  (fun r12 M13 => ri_ r12 → w_X9_init_b124  Q again x1 (w64 ((w64 (x2 * 64)) + r12)) x4 M13) r10 M11) x4 M5)) x4 M2))  M
def w_X9_init_b63  (Q : Int → MM → Prop)  (x1 x2 x4 : Int) (M : MM) : Prop := ∃ n, jit (fun _ _ _ _ => False) (wb_X9_init_b63  Q ) n x1 x2 x4 M
def wb_X12_init_b1062  (Q : Int → MM → Prop)  (again : Int → MM → Prop) (x1 : Int) (M : MM) : Prop := M 286 4 = ((289 : Nat) : Int) ∧ ((((29 : Nat) : Int) ≤ x1 → Q 0 M) ∧ (¬ ((29 : Nat) : Int) ≤ x1 → M 286 4 = ((289 : Nat) : Int) ∧ (M 286 4 = ((289 : Nat) : Int) ∧ (0 ≤ x1 ∧ x1 < 29 ∧ (∀ v2, v2 = M 289 x1 → rl_ v2 → w_X12_coded  (fun r3 M4 => rl_ r3 → 0 ≤ x1 ∧ x1 < 29 ∧ (∀ M5, M5 = ux_ M4 289 x1 r3 → ri_ (x1 + 1) ∧ (again (x1 + 1) M5))) v2 M)))))
def w_X12_init_b1062  (Q : Int → MM → Prop)  (x1 : Int) (M : MM) : Prop := ∃ n, jit (fun _ _ => False) (wb_X12_init_b1062  Q ) n x1 M
