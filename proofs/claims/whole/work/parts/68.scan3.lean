/-! signs, and a word -/
theorem ji2c_mod (x : Int) : ji2c x = x % 65536 := by
  unfold ji2c
  rw [pk_char, nI_toInt (by omega), Ii_nat]
  omega
theorem ji2b_small {x : Int} (h0 : 0 ≤ x) (h1 : x ≤ 255) : ji2b x = if x ≤ 127 then x else x - 256 := by
  have h := ji2b_mod x
  have h2 := ji2b_b x
  by_cases z : x ≤ 127
  · rw [if_pos z]; omega
  · rw [if_neg z]; omega
theorem sgb_bd (j : Nat) : 0 ≤ sgb j ∧ sgb j ≤ 127 := by
  by_cases h : j < 16
  · have : ∀ k, k < 16 → (0 ≤ sgb k ∧ sgb k ≤ 127) := by decide
    exact this j h
  · unfold sgb
    rw [List.getD_eq_getElem?_getD, List.getElem?_eq_none (by simp; omega)]
    simp
/-- the sign's word: 4 and its place among the signs, else 1 -/
def sg0 (b W : Int) : Prop := (W = 1 ∧ ∀ j : Int, 0 ≤ j → j < 16 → sgb j.toNat ≠ b) ∨ ∃ j : Int, 0 ≤ j ∧ j < 16 ∧ W = 4 + j ∧ sgb j.toNat = b
theorem jshr_16_0 : jshr ((16 : Nat) : Int) 0 = 16 := by decide
set_option maxHeartbeats 400000 in
theorem p_indexOf {Q : Int → MM → Prop} {b : Int} {M : MM} (h0 : 0 ≤ b) (h1 : b ≤ 255) (hn : (∀ j : Int, 0 ≤ j → j < 16 → sgb j.toNat ≠ b) → Q (-1) M) (hj : ∀ j : Int, 0 ≤ j → j < 16 → sgb j.toNat = b → Q j M) : w_J0_indexOf_0f7a4_C Q b M := by
  unfold w_J0_indexOf_0f7a4_C w_J0_indexOf_7cf53_C w_J0_isLatin1_aae02_C w_J0_length_8abf5_C w_J0_coder_7d493_C
  refine fun _ => ⟨fun q => by omega, fun _ _ _ => ?_⟩
  rw [jshr_16_0]
  unfold w_J1_indexOf_4cfef_C w_J1_canEncode_9a6ad_C
  refine ⟨fun q => by omega, fun _ => ⟨fun q => by omega, fun _ _ => ⟨fun _ => ⟨fun _ => ?_, fun q => by omega⟩, fun q => by omega⟩⟩⟩
  unfold w_J1_indexOfChar_4cfef_C
  rw [show max (0 : Int) 0 = 0 from by omega, show min (16 : Int) ((16 : Nat) : Int) = 16 from by omega]
  have hb : ∀ j : Nat, sgb j = ji2b b ↔ sgb j = b := by
    intro j
    have := sgb_bd j
    rw [ji2b_small h0 h1]
    by_cases z : b ≤ 127
    · rw [if_pos z]
    · rw [if_neg z]; omega
  have H : ∀ (m : Nat) (k : Int), 0 ≤ k → k ≤ 16 → 16 - k < m → (∀ j : Int, 0 ≤ j → j < k → sgb j.toNat ≠ b) → jit (fun _ _ _ _ => False) (wb_J1_indexOfChar_4cfef_C_b7 (fun r5 M6 => ri_ r5 → ri_ r5 → ri_ r5 → Q r5 M6)) m 16 (ji2b b) k M := by
    intro m
    induction m with
    | zero => intro k h0 h4 hn hf; omega
    | succ m ih =>
      intro k k0 k1 hm hf
      show wb_J1_indexOfChar_4cfef_C_b7 _ (jit (fun _ _ _ _ => False) (wb_J1_indexOfChar_4cfef_C_b7 (fun r5 M6 => ri_ r5 → ri_ r5 → ri_ r5 → Q r5 M6)) m) 16 (ji2b b) k M
      unfold wb_J1_indexOfChar_4cfef_C_b7
      refine ⟨fun z _ _ _ => hn (fun j j0 j1 => hf j j0 (by omega)), fun z => ⟨by omega, by omega, fun z2 => ⟨by unfold ri_; omega, ih (k + 1) (by omega) (by omega) (by omega) ?_⟩, fun z2 _ _ _ => hj k k0 (by omega) ((hb _).mp z2)⟩⟩
      intro j j0 j1
      by_cases e : j = k
      · rw [e]; exact fun q => z2 ((hb _).mpr q)
      · exact hf j j0 (by omega)
  exact ⟨17, H 17 0 (by omega) (by omega) (by omega) (fun j j0 j1 => by omega)⟩
def sgn (s : Int → Int) (n a e W : Int) : Prop := (a + 1 < n ∧ s (a + 1) = 61 ∧ ((s a = 33 ∧ W = 20) ∨ (s a = 60 ∧ W = 21) ∨ (s a = 62 ∧ W = 22)) ∧ e = a + 2) ∨ (¬ (a + 1 < n ∧ s (a + 1) = 61 ∧ (s a = 33 ∨ s a = 60 ∨ s a = 62)) ∧ e = a + 1 ∧ sg0 (s a) W)
set_option maxHeartbeats 400000 in
theorem p_scanSign {Q : Int → MM → Prop} {M : MM} {a w p d : Int} (hT : okT M) (ha : 0 ≤ a) (ha2 : a < M 1 1)
    (h : ∀ e W, sgn (M 2) (M 1 1) a e W → Q 0 (sc M e W p d)) : w_X9_scanSign Q (sc M a w p d) := by
  obtain ⟨t1, t2, t3⟩ := hT
  have t4 := t3 a ha ha2
  have H40 : ∀ W, sg0 (M 2 a) W → w_X9_scanSign_b40 Q (M 2 a) W (sc M (a + 1) w p d) := by
    intro W hW
    have H115 : ∀ W2, (a + 1 < M 1 1 ∧ M 2 (a + 1) = 61 ∧ ((M 2 a = 33 ∧ W2 = 20) ∨ (M 2 a = 60 ∧ W2 = 21) ∨ (M 2 a = 62 ∧ W2 = 22))) → w_X9_scanSign_b115 Q (sc M (a + 1) W2 p d) := by
      intro W2 hh
      unfold w_X9_scanSign_b115
      intro v1 e1 g1
      rw [sc_at] at e1
      subst e1
      refine ⟨by unfold ri_; omega, fun M3 e3 => ?_⟩
      rw [sc_u4] at e3
      rw [e3]
      exact h _ _ (Or.inl ⟨hh.1, hh.2.1, hh.2.2, by omega⟩)
    unfold w_X9_scanSign_b40
    intro M1 e1 v2 e2 g2 v3 e3 g3
    rw [sc_u9] at e1
    subst e1
    rw [sc_at] at e2
    rw [sc_1] at e3
    subst e2 e3
    refine ⟨fun z => h _ _ (Or.inr ⟨by omega, rfl, hW⟩), fun z v5 e5 g5 => ?_⟩
    rw [sc_at] at e5
    subst e5
    refine ⟨by omega, by omega, fun v6 e6 g6 => ?_⟩
    rw [sc_o _ _ _ _ _ (by decide)] at e6
    subst e6
    refine ⟨fun z6 => ⟨fun a1 => ⟨fun a2 => ⟨fun a3 => h _ _ (Or.inr ⟨by omega, rfl, hW⟩), fun a3 M11 e11 => ?_⟩, fun a2 M11 e11 => ?_⟩, fun a1 M11 e11 => ?_⟩, fun z6 => h _ _ (Or.inr ⟨by omega, rfl, hW⟩)⟩
    · rw [sc_u9] at e11; rw [e11]; exact H115 22 ⟨by omega, z6, by omega⟩
    · rw [sc_u9] at e11; rw [e11]; exact H115 21 ⟨by omega, z6, by omega⟩
    · rw [sc_u9] at e11; rw [e11]; exact H115 20 ⟨by omega, z6, by omega⟩
  unfold w_X9_scanSign
  intro v1 e1 g1
  rw [sc_at] at e1
  subst e1
  refine ⟨by omega, by omega, fun v2 e2 g2 v3 e3 g3 => ?_⟩
  rw [sc_o _ _ _ _ _ (by decide)] at e2
  rw [sc_at] at e3
  subst e2 e3
  refine ⟨by unfold ri_; omega, fun M5 e5 => ?_⟩
  rw [sc_u4] at e5
  subst e5
  rw [ji2c_mod, show M 2 v3 % 65536 = M 2 v3 from by omega]
  refine p_indexOf (by omega) (by omega) (fun hn _ => ⟨fun q => by omega, fun _ => H40 1 (Or.inl ⟨rfl, hn⟩)⟩) (fun j j0 j1 hj _ => ⟨fun _ => ⟨by unfold ri_; omega, H40 _ (Or.inr ⟨j, j0, j1, rfl, hj⟩)⟩, fun q => by omega⟩)
/-- what reading a word from a on leaves: at e, the word W, its place q, its code D -/
def scw (M : MM) (a e W q D : Int) : Prop := span isB (M 2) (M 1 1) a q ∧
  ((q = M 1 1 ∧ e = q ∧ W = 0 ∧ D = 0) ∨
   (q < M 1 1 ∧ isD (M 2 q) ∧ span isD (M 2) (M 1 1) q e ∧ W = (if 18 < e - q then 1 else 3) ∧ D = fr f10 (M 2) q 0 (e - q).toNat) ∨
   (q < M 1 1 ∧ isA (M 2 q) ∧ span isY (M 2) (M 1 1) q e ∧ ((10 < e - q ∧ W = 1) ∨ (e - q ≤ 10 ∧ kw M (fr f64 (M 2) q 0 (e - q).toNat) W)) ∧ D = fr f64 (M 2) q 0 (e - q).toNat) ∨
   (q < M 1 1 ∧ ¬ isY (M 2 q) ∧ sgn (M 2) (M 1 1) q e W ∧ D = 0))
set_option maxHeartbeats 400000 in
theorem p_scanWord {Q : Int → MM → Prop} {M : MM} {a w p d : Int} (hT : okT M) (ha : 0 ≤ a) (ha2 : a ≤ M 1 1)
    (h : ∀ e W q D, scw M a e W q D → Q 0 (sc M e W q D)) : w_X9_scanWord Q (sc M a w p d) := by
  obtain ⟨t1, t2, t3⟩ := id hT
  have H39 : ∀ b, span isB (M 2) (M 1 1) a b → w_X9_scanWord_b39 Q (sc M b w p d) := by
    intro b hb
    have hb1 := hb.1
    have hb2 := hb.2.1
    unfold w_X9_scanWord_b39
    intro v1 e1 g1 M2 e2 M3 e3 v4 e4 g4 v5 e5 g5
    rw [sc_at] at e1
    subst e1
    rw [sc_u10] at e2
    subst e2
    rw [sc_u11] at e3
    subst e3
    rw [sc_at] at e4
    rw [sc_1] at e5
    subst e4 e5
    refine ⟨fun z v7 e7 g7 => ?_, fun z M23 e23 => ?_⟩
    · rw [sc_at] at e7
      subst e7
      refine ⟨by omega, by omega, fun v8 e8 g8 => ?_⟩
      rw [sc_o _ _ _ _ _ (by decide)] at e8
      subst e8
      refine p_dig (fun zd _ => ⟨fun q => by omega, fun _ => ?_⟩) (fun zd _ => ⟨fun _ v12 e12 g12 => ?_, fun q => by omega⟩)
      · exact p_scanNumber hT (by omega) (by omega) (by omega) (by omega) (fun e he => h _ _ _ _ ⟨hb, Or.inr (Or.inl ⟨z, zd, he, rfl, rfl⟩)⟩)
      · rw [sc_at] at e12
        subst e12
        refine ⟨by omega, by omega, fun v13 e13 g13 => ?_⟩
        rw [sc_o _ _ _ _ _ (by decide)] at e13
        subst e13
        refine p_sym g13 fun _ => ⟨fun z2 => ?_, fun z2 => ?_⟩
        · exact p_scanSign hT (by omega) (by omega) (fun e W hs => h _ _ _ _ ⟨hb, Or.inr (Or.inr (Or.inr ⟨z, fun q => by have := sy_pos.mpr q; omega, hs, rfl⟩))⟩)
        · exact p_scanName hT (by omega) (by omega) (by omega) (by omega) (fun e W he hW => h _ _ _ _ ⟨hb, Or.inr (Or.inr (Or.inl ⟨z, (sy_pos.mp (by omega)).resolve_right zd, he, hW, rfl⟩))⟩)
    · rw [sc_u9] at e23
      rw [e23]
      exact h _ _ _ _ ⟨hb, Or.inl ⟨by omega, rfl, rfl, rfl⟩⟩
  have H : ∀ (m : Nat) (b : Int), a ≤ b → b ≤ M 1 1 → M 1 1 - b < m → (∀ i, a ≤ i → i < b → isB (M 2 i)) → jit (fun _ => False) (wb_X9_scanWord_b0 Q) m (sc M b w p d) := by
    intro m
    induction m with
    | zero => intro k h0 h4 hn hf; omega
    | succ m ih =>
      intro b b0 b1 hm hf
      show wb_X9_scanWord_b0 Q (jit (fun _ => False) (wb_X9_scanWord_b0 Q) m) (sc M b w p d)
      unfold wb_X9_scanWord_b0
      intro v1 e1 g1 v2 e2 g2
      rw [sc_at] at e1
      rw [sc_1] at e2
      subst e1 e2
      refine ⟨fun z => H39 v1 ⟨b0, by omega, hf, fun q => by omega⟩, fun z v4 e4 g4 => ?_⟩
      rw [sc_at] at e4
      subst e4
      refine ⟨by omega, by omega, fun v5 e5 g5 => ?_⟩
      rw [sc_o _ _ _ _ _ (by decide)] at e5
      subst e5
      refine p_blank (fun zb _ => ⟨fun q => by omega, fun _ v9 e9 g9 => ?_⟩) (fun zb _ => ⟨fun _ => H39 v4 ⟨b0, by omega, hf, fun _ => zb⟩, fun q => by omega⟩)
      rw [sc_at] at e9
      subst e9
      refine ⟨by unfold ri_; omega, fun M11 e11 => ?_⟩
      rw [sc_u4] at e11
      subst e11
      refine ih (v9 + 1) (by omega) (by omega) (by omega) (fun i i0 i1 => ?_)
      by_cases q : i = v9
      · rw [q]; exact zb
      · exact hf i i0 (by omega)
  exact ⟨_, H (M 1 1 - a + 1).toNat a (by omega) ha2 (by omega) (fun i i0 i1 => by omega)⟩
