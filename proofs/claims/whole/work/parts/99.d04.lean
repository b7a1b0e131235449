/-! what the texts answer, and the loops over the key words -/
theorem p_len0 {Q : Int → MM → Prop} {M : MM} (h : Q 143 M) : w_J0_length_8abf5_B0 Q M := by
  have e : jshr ((143 : Nat) : Int) 0 = 143 := by decide
  unfold w_J0_length_8abf5_B0 w_J0_coder_7d493_B0
  show (-128 ≤ (0 : Int) ∧ (0 : Int) ≤ 127) → Q (jshr ((143 : Nat) : Int) 0) M
  intro _
  rw [e]; exact h
theorem p_chr0 {Q : Int → MM → Prop} {i : Int} {M : MM} (h0 : 0 ≤ i) (h1 : i < 143) (h : Q (sb0 i.toNat) M) : w_J0_charAt_5068e_B0 Q i M := by
  have hb := sb0_b i.toNat
  have e : ji2c (jand (sb0 i.toNat) 255) = sb0 i.toNat := by
    have h9 : ∀ b : Fin 123, ji2c (jand (b.val : Int) 255) = b.val := by decide
    have h8 := h9 ⟨(sb0 i.toNat).toNat, by omega⟩
    simp only at h8
    rw [show (((sb0 i.toNat).toNat : Nat) : Int) = sb0 i.toNat from by omega] at h8
    exact h8
  unfold w_J0_charAt_5068e_B0 w_J0_isLatin1_aae02_B0
  show ((1 : Int) = 0 ∨ (1 : Int) = 1) → ((1 : Int) = 0 → False) ∧ (¬ (1 : Int) = 0 → w_J1_charAt_3b067_B0 (fun r4 M5 => ri_ r4 → (0 ≤ r4 ∧ r4 ≤ 65535) ∧ Q r4 M5) i M)
  intro _
  refine ⟨fun z => absurd z (by decide), fun _ => ?_⟩
  unfold w_J1_charAt_3b067_B0 w_J0_checkIndex_df160_B
  rw [e]
  exact ⟨h0, by omega, h0, by omega, by omega, fun _ => ⟨by omega, h⟩⟩
theorem p_len1 {Q : Int → MM → Prop} {M : MM} (h : Q 2 M) : w_J0_length_8abf5_B1 Q M := by
  have e : jshr ((2 : Nat) : Int) 0 = 2 := by decide
  unfold w_J0_length_8abf5_B1 w_J0_coder_7d493_B1
  show (-128 ≤ (0 : Int) ∧ (0 : Int) ≤ 127) → Q (jshr ((2 : Nat) : Int) 0) M
  intro _
  rw [e]; exact h
theorem p_chr1 {Q : Int → MM → Prop} {i : Int} {M : MM} (h0 : 0 ≤ i) (h1 : i < 2) (h : Q (sb1 i.toNat) M) : w_J0_charAt_5068e_B1 Q i M := by
  have hb := sb1_b i.toNat
  have e : ji2c (jand (sb1 i.toNat) 255) = sb1 i.toNat := by
    have h9 : ∀ b : Fin 123, ji2c (jand (b.val : Int) 255) = b.val := by decide
    have h8 := h9 ⟨(sb1 i.toNat).toNat, by omega⟩
    simp only at h8
    rw [show (((sb1 i.toNat).toNat : Nat) : Int) = sb1 i.toNat from by omega] at h8
    exact h8
  unfold w_J0_charAt_5068e_B1 w_J0_isLatin1_aae02_B1
  show ((1 : Int) = 0 ∨ (1 : Int) = 1) → ((1 : Int) = 0 → False) ∧ (¬ (1 : Int) = 0 → w_J1_charAt_3b067_B1 (fun r4 M5 => ri_ r4 → (0 ≤ r4 ∧ r4 ≤ 65535) ∧ Q r4 M5) i M)
  intro _
  refine ⟨fun z => absurd z (by decide), fun _ => ?_⟩
  unfold w_J1_charAt_3b067_B1 w_J0_checkIndex_df160_B
  rw [e]
  exact ⟨h0, by omega, h0, by omega, by omega, fun _ => ⟨by omega, h⟩⟩
theorem p_len2 {Q : Int → MM → Prop} {M : MM} (h : Q 4 M) : w_J0_length_8abf5_B2 Q M := by
  have e : jshr ((4 : Nat) : Int) 0 = 4 := by decide
  unfold w_J0_length_8abf5_B2 w_J0_coder_7d493_B2
  show (-128 ≤ (0 : Int) ∧ (0 : Int) ≤ 127) → Q (jshr ((4 : Nat) : Int) 0) M
  intro _
  rw [e]; exact h
theorem p_chr2 {Q : Int → MM → Prop} {i : Int} {M : MM} (h0 : 0 ≤ i) (h1 : i < 4) (h : Q (sb2 i.toNat) M) : w_J0_charAt_5068e_B2 Q i M := by
  have hb := sb2_b i.toNat
  have e : ji2c (jand (sb2 i.toNat) 255) = sb2 i.toNat := by
    have h9 : ∀ b : Fin 123, ji2c (jand (b.val : Int) 255) = b.val := by decide
    have h8 := h9 ⟨(sb2 i.toNat).toNat, by omega⟩
    simp only at h8
    rw [show (((sb2 i.toNat).toNat : Nat) : Int) = sb2 i.toNat from by omega] at h8
    exact h8
  unfold w_J0_charAt_5068e_B2 w_J0_isLatin1_aae02_B2
  show ((1 : Int) = 0 ∨ (1 : Int) = 1) → ((1 : Int) = 0 → False) ∧ (¬ (1 : Int) = 0 → w_J1_charAt_3b067_B2 (fun r4 M5 => ri_ r4 → (0 ≤ r4 ∧ r4 ≤ 65535) ∧ Q r4 M5) i M)
  intro _
  refine ⟨fun z => absurd z (by decide), fun _ => ?_⟩
  unfold w_J1_charAt_3b067_B2 w_J0_checkIndex_df160_B
  rw [e]
  exact ⟨h0, by omega, h0, by omega, by omega, fun _ => ⟨by omega, h⟩⟩
def cof1 : Nat → Int
  | 0 => 0
  | k + 1 => w64 (w64 (cof1 k * 64) + sy (sb1 k))
theorem p_codeOf1 {Q : Int → MM → Prop} {M : MM} (h : Q 2272 M) : w_X9_codeOf_B1 Q M := by
  have hc : cof1 2 = 2272 := by decide
  have H : ∀ (d k : Nat), k + d = 2 → jit (fun _ _ _ => False) (wb_X9_codeOf_B1_b4 Q) (d + 1) (cof1 k) (k : Int) M := by
    intro d
    induction d with
    | zero =>
      intro k hk
      show wb_X9_codeOf_B1_b4 Q _ _ _ _
      unfold wb_X9_codeOf_B1_b4
      refine p_len1 (fun _ => ⟨fun _ => ?_, fun z => absurd (by omega) z⟩)
      rw [show k = 2 from by omega, hc]; exact h
    | succ d ih =>
      intro k hk
      show wb_X9_codeOf_B1_b4 Q _ _ _ _
      unfold wb_X9_codeOf_B1_b4
      refine p_len1 (fun _ => ⟨fun z => by omega, fun _ => ?_⟩)
      refine p_chr1 (by omega) (by omega) (fun g1 => p_sym g1 (fun _ => ⟨by unfold ri_; omega, ?_⟩))
      have h9 := ih (k + 1) (by omega)
      rw [show ((k : Int)).toNat = k from by omega]
      have e : ((k : Int) + 1) = ((k + 1 : Nat) : Int) := by omega
      rw [e]
      exact h9
  exact ⟨2 + 1, H 2 0 rfl⟩
def cof2 : Nat → Int
  | 0 => 0
  | k + 1 => w64 (w64 (cof2 k * 64) + sy (sb2 k))
theorem p_codeOf2 {Q : Int → MM → Prop} {M : MM} (h : Q 10107429 M) : w_X9_codeOf_B2 Q M := by
  have hc : cof2 4 = 10107429 := by decide
  have H : ∀ (d k : Nat), k + d = 4 → jit (fun _ _ _ => False) (wb_X9_codeOf_B2_b4 Q) (d + 1) (cof2 k) (k : Int) M := by
    intro d
    induction d with
    | zero =>
      intro k hk
      show wb_X9_codeOf_B2_b4 Q _ _ _ _
      unfold wb_X9_codeOf_B2_b4
      refine p_len2 (fun _ => ⟨fun _ => ?_, fun z => absurd (by omega) z⟩)
      rw [show k = 4 from by omega, hc]; exact h
    | succ d ih =>
      intro k hk
      show wb_X9_codeOf_B2_b4 Q _ _ _ _
      unfold wb_X9_codeOf_B2_b4
      refine p_len2 (fun _ => ⟨fun z => by omega, fun _ => ?_⟩)
      refine p_chr2 (by omega) (by omega) (fun g1 => p_sym g1 (fun _ => ⟨by unfold ri_; omega, ?_⟩))
      have h9 := ih (k + 1) (by omega)
      rw [show ((k : Int)).toNat = k from by omega]
      have e : ((k : Int) + 1) = ((k + 1 : Nat) : Int) := by omega
      rw [e]
      exact h9
  exact ⟨4 + 1, H 4 0 rfl⟩
/-- the loop over the key words: which one is at hand, and its code so far -/
def kwst : Nat → Int × Int
  | 0 => (0, 0)
  | i + 1 => if sb0 i = 32 then ((kwst i).1 + 1, 0) else ((kwst i).1, w64 (w64 ((kwst i).2 * 64) + sy (sb0 i)))
theorem kwst_b : ∀ i : Fin 144, 0 ≤ (kwst i.val).1 ∧ (kwst i.val).1 ≤ 29 ∧ (i.val < 143 → sb0 i.val = 32 → (kwst i.val).1 < 29 ∧ (kwst i.val).2 = kwC.getD (kwst i.val).1.toNat 0) := by decide +kernel
theorem kwst_e : (kwst 143).1 = 29 := by decide +kernel
def kwU (M : MM) : MM := fun c j => if c = 7 ∧ 0 ≤ j ∧ j < 29 then kwC.getD j.toNat 0 else M c j
def rwU (k : Int) (M : MM) : MM := fun c j => if c = 7 ∧ 0 ≤ j ∧ j < k then kwC.getD j.toNat 0 else M c j
theorem rwU_s {k v : Int} {M : MM} (h : v = kwC.getD k.toNat 0) (h0 : 0 ≤ k) : ux_ (rwU k M) 7 k v = rwU (k + 1) M := by
  funext c j
  unfold ux_ rwU
  by_cases e : c = 7 ∧ j = k
  · rw [if_pos e, if_pos (by omega), e.2]; exact h
  · rw [if_neg e]
    by_cases z : c = 7 ∧ 0 ≤ j ∧ j < k
    · rw [if_pos z, if_pos (by omega)]
    · rw [if_neg z, if_neg (by omega)]
theorem p_X9 {post : MM → Prop} {M : MM} (h3 : M 1 3 = ((7 : Nat) : Int)) (h : post (kwU M)) : w_X9_init_b63 (fun _ u => post u) 0 0 0 M := by
  have H : ∀ (d i : Nat), i + d = 143 → jit (fun _ _ _ _ => False) (wb_X9_init_b63 (fun _ u => post u)) (d + 1) (kwst i).1 (kwst i).2 (i : Int) (rwU (kwst i).1 M) := by
    intro d
    induction d with
    | zero =>
      intro i hi
      show wb_X9_init_b63 _ _ _ _ _ _
      unfold wb_X9_init_b63
      refine p_len0 (fun _ => ⟨fun _ => ?_, fun z => absurd (by omega) z⟩)
      rw [show i = 143 from by omega, kwst_e]; exact h
    | succ d ih =>
      intro i hi
      show wb_X9_init_b63 _ _ _ _ _ _
      unfold wb_X9_init_b63
      obtain ⟨b1, b2, b3⟩ := kwst_b ⟨i, by omega⟩
      simp only at b1 b2 b3
      have h9 := ih (i + 1) (by omega)
      have e : (((i + 1 : Nat) : Nat) : Int) = (i : Int) + 1 := by omega
      have ei : ((i : Int)).toNat = i := by omega
      rw [e, kwst] at h9
      refine p_len0 (fun _ => ⟨fun z => by omega, fun _ => ?_⟩)
      refine p_chr0 (by omega) (by omega) (fun _ => ⟨fun z => ⟨fun y => ?_, fun y => ?_⟩, fun z => ?_⟩)
      · rw [ei] at z
        have := (b3 (by omega) z).1
        omega
      · rw [ei] at z
        obtain ⟨c1, c2⟩ := b3 (by omega) z
        rw [if_pos z] at h9
        refine ⟨?_, b1, c1, fun M8 e8 => ⟨by unfold ri_; omega, by unfold ri_; omega, ?_⟩⟩
        · unfold rwU; rw [if_neg (by omega)]; exact h3
        · rw [e8, rwU_s c2 b1]; exact h9
      · rw [ei] at z
        rw [if_neg z] at h9
        refine p_chr0 (by omega) (by omega) (fun g1 => p_sym g1 (fun _ => ⟨by unfold ri_; omega, ?_⟩))
        rw [ei]; exact h9
  have h0 : rwU (kwst 0).1 M = M := by
    funext c j
    unfold rwU
    rw [if_neg (by show ¬ (c = 7 ∧ 0 ≤ j ∧ j < 0); omega)]
  have := H 143 0 rfl
  rw [h0] at this
  exact ⟨144, this⟩
/-- the reference's coding of a word in a long -/
def btv (v : Int) (k : Nat) : Int := jland (jlshr v (8 * (k : Int))) 255
def cda (v : Int) : Nat → Int → Int
  | 0, a => a
  | k + 1, a => cda v k (if btv v k = 0 then a else w64 (w64 (63 * a) + cd (btv v k)))
theorem p_cod {Q : Int → MM → Prop} {v : Int} {M : MM} (hb : ∀ k : Fin 8, 0 ≤ btv v k.val ∧ btv v k.val ≤ 255) (h : Q (cda v 8 0) M) : w_X12_coded Q v M := by
  have H : ∀ (k : Nat) (a : Int), k ≤ 8 → Q (cda v k a) M → jit (fun _ _ _ _ => False) (wb_X12_coded_b6 Q) (k + 1) v a ((k : Int) - 1) M := by
    intro k
    induction k with
    | zero =>
      intro a _ hq
      show wb_X12_coded_b6 Q _ _ _ _ _
      unfold wb_X12_coded_b6
      exact ⟨fun _ => hq, fun z => absurd (by omega) z⟩
    | succ k ih =>
      intro a hk hq
      show wb_X12_coded_b6 Q _ _ _ _ _
      unfold wb_X12_coded_b6
      have e : (((k + 1 : Nat) : Nat) : Int) - 1 = (k : Int) := by omega
      rw [e]
      obtain ⟨b1, b2⟩ := hb ⟨k, by omega⟩
      simp only at b1 b2
      rw [cda] at hq
      have eb : jland (jlshr v (8 * (k : Int))) 255 = btv v k := rfl
      rw [eb]
      refine ⟨fun z => by omega, fun _ => ⟨by unfold ri_; omega, by unfold ri_; omega, fun z => ?_, fun z => ?_⟩⟩
      · rw [if_neg z] at hq
        refine p_R_code (by omega) (fun _ => ?_)
        unfold w_X12_coded_b46
        exact ⟨by unfold ri_; omega, ih _ (by omega) hq⟩
      · rw [if_pos z] at hq
        unfold w_X12_coded_b46
        exact ⟨by unfold ri_; omega, ih _ (by omega) hq⟩
  exact ⟨9, H 8 0 (by omega) h⟩
def kvL : List Int := [6384748, 7305070, 127991794263923, 512852587109, 6776180, 6385252, 28530, 7237492, 1853189228, 1953658213, 439721161573, 26995, 26990, 427071729268, 7566701, 1836020596, 465557353332, 1936682341, 1700881256, 1936292453, 1801810036, 431198598248, 119182899770472, 427020088179, 495740482675, 1751477348, 1718775661, 26996, 499967946343]
theorem kv_ok : ∀ k : Fin 29, (∀ j : Fin 8, 0 ≤ btv (kvL.getD k.val 0) j.val ∧ btv (kvL.getD k.val 0) j.val ≤ 255) ∧ cda (kvL.getD k.val 0) 8 0 = kwR.getD k.val 0 := by decide +kernel
def krU (M : MM) : MM := fun c j => if c = 289 ∧ 0 ≤ j ∧ j < 29 then kwR.getD j.toNat 0 else M c j
def rrU (k : Int) (M : MM) : MM := fun c j => if c = 289 ∧ 0 ≤ j ∧ j < k then kwR.getD j.toNat 0 else M c j
theorem rrU_s {k v : Int} {M : MM} (h : v = kwR.getD k.toNat 0) (h0 : 0 ≤ k) : ux_ (rrU k M) 289 k v = rrU (k + 1) M := by
  funext c j
  unfold ux_ rrU
  by_cases e : c = 289 ∧ j = k
  · rw [if_pos e, if_pos (by omega), e.2]; exact h
  · rw [if_neg e]
    by_cases z : c = 289 ∧ 0 ≤ j ∧ j < k
    · rw [if_pos z, if_pos (by omega)]
    · rw [if_neg z, if_neg (by omega)]
theorem p_X12 {post : MM → Prop} {M : MM} (h3 : M 286 4 = ((289 : Nat) : Int)) (hv : ∀ k : Nat, k < 29 → M 289 (k : Int) = kvL.getD k 0) (h : post (krU M)) : w_X12_init_b1062 (fun _ u => post u) 0 M := by
  have H : ∀ (d k : Nat), k + d = 29 → jit (fun _ _ => False) (wb_X12_init_b1062 (fun _ u => post u)) (d + 1) (k : Int) (rrU (k : Int) M) := by
    intro d
    induction d with
    | zero =>
      intro k hk
      show wb_X12_init_b1062 _ _ _ _
      unfold wb_X12_init_b1062
      have e3 : rrU (k : Int) M 286 4 = ((289 : Nat) : Int) := by unfold rrU; rw [if_neg (by omega)]; exact h3
      refine ⟨e3, fun _ => ?_, fun z => absurd (by omega) z⟩
      rw [show k = 29 from by omega]; exact h
    | succ d ih =>
      intro k hk
      show wb_X12_init_b1062 _ _ _ _
      unfold wb_X12_init_b1062
      have e3 : rrU (k : Int) M 286 4 = ((289 : Nat) : Int) := by unfold rrU; rw [if_neg (by omega)]; exact h3
      have h9 := ih (k + 1) (by omega)
      have e : (((k + 1 : Nat) : Nat) : Int) = (k : Int) + 1 := by omega
      rw [e] at h9
      obtain ⟨c1, c2⟩ := kv_ok ⟨k, by omega⟩
      simp only at c1 c2
      refine ⟨e3, fun z => by omega, fun _ => ⟨e3, e3, by omega, by omega, fun v2 e2 _ => ?_⟩⟩
      have ev : v2 = kvL.getD k 0 := by
        rw [e2]; unfold rrU; rw [if_neg (by omega)]; exact hv k (by omega)
      rw [ev]
      refine p_cod c1 (fun _ => ⟨by omega, by omega, fun M5 e5 => ⟨by unfold ri_; omega, ?_⟩⟩)
      rw [e5, rrU_s (by rw [c2, show ((k : Int)).toNat = k from by omega]) (by omega)]
      exact h9
  have h0 : rrU 0 M = M := by
    funext c j
    unfold rrU
    rw [if_neg (by omega)]
  have := H 29 0 rfl
  rw [show ((0 : Nat) : Int) = 0 from rfl, h0] at this
  exact ⟨30, this⟩
