/-! bytes read as a picture: things, the reference -/
def FTr (A M : MM) : Prop := (∀ k, k ∉ [0, 38, 39, 40, 41, 42, 55, 56, 57, 58, 60, 100, 101] → M k = A k) ∧ (∀ k i, k ∈ [39, 40, 41, 42] → i < 1600 → M k i = A k i) ∧ (∀ i, i < 16000 → M 58 i = A 58 i) ∧ (∀ k i, k ∈ [38, 55] → i < 4 → M k i = A k i) ∧ (∀ k i, k ∈ [56, 57] → i < 512 → M k i = A k i) ∧ ∀ i, i ∉ ([83, 84, 142, 143, 146] : List Int) → M 0 i = A 0 i
theorem FTr_r (A : MM) : FTr A A := ⟨fun _ _ => rfl, fun _ _ _ _ => rfl, fun _ _ => rfl, fun _ _ _ _ => rfl, fun _ _ _ _ => rfl, fun _ _ => rfl⟩
theorem FTr_o {A M M' : MM} (h : FTr A M) (o : O83 M M') : FTr A M' := by
  obtain ⟨h1, h2, h3, h4, h5, h6⟩ := h
  refine ⟨fun k hk => by rw [o.1 k (fun y => hk (by rw [y]; decide))]; exact h1 k hk, fun k i hk hi => ?_, fun i hi => by rw [o.1 58 (by decide)]; exact h3 i hi, fun k i hk hi => ?_, fun k i hk hi => ?_, fun i hi => ?_⟩
  · rw [o.1 k (fun y => by rw [y] at hk; revert hk; decide)]; exact h2 k i hk hi
  · rw [o.1 k (fun y => by rw [y] at hk; revert hk; decide)]; exact h4 k i hk hi
  · rw [o.1 k (fun y => by rw [y] at hk; revert hk; decide)]; exact h5 k i hk hi
  · rw [o.2 i (fun y => hi (by simp only [List.mem_cons, List.not_mem_nil, or_false] at y ⊢; omega))]; exact h6 i hi
/-- one cell more that may change -/
theorem FTr_u {A M : MM} {q : Nat} {i x : Int} (h : FTr A M) (hq : (q ∈ [39, 40, 41, 42] ∧ 1600 ≤ i) ∨ (q = 58 ∧ 16000 ≤ i) ∨ (q ∈ [38, 55] ∧ i = 4) ∨ (q ∈ [56, 57] ∧ 512 ≤ i) ∨ (q = 60 ∨ q = 100 ∨ q = 101) ∨ (q = 0 ∧ i ∈ ([83, 84, 142, 143, 146] : List Int))) : FTr A (ux_ M q i x) := by
  obtain ⟨h1, h2, h3, h4, h5, h6⟩ := h
  simp only [List.mem_cons, List.not_mem_nil, or_false] at hq
  refine ⟨fun k hk => ?_, fun k j hk hj => ?_, fun j hj => ?_, fun k j hk hj => ?_, fun k j hk hj => ?_, fun j hj => ?_⟩
  · have : k ≠ q := by
      intro y; subst y
      apply hk
      simp only [List.mem_cons, List.not_mem_nil, or_false]; omega
    funext j; rw [ux_c _ _ _ _ this, h1 k hk]
  · have hk' := hk
    simp only [List.mem_cons, List.not_mem_nil, or_false] at hk'
    by_cases y : k = q
    · rw [y, ux_i _ _ _ (by omega), ← y]; exact h2 k j hk hj
    · rw [ux_c _ _ _ _ y]; exact h2 k j hk hj
  · by_cases y : 58 = q
    · rw [← y, ux_i _ _ _ (by omega)]; exact h3 j hj
    · rw [ux_c _ _ _ _ y]; exact h3 j hj
  · have hk' := hk
    simp only [List.mem_cons, List.not_mem_nil, or_false] at hk'
    by_cases y : k = q
    · rw [y, ux_i _ _ _ (by omega), ← y]; exact h4 k j hk hj
    · rw [ux_c _ _ _ _ y]; exact h4 k j hk hj
  · have hk' := hk
    simp only [List.mem_cons, List.not_mem_nil, or_false] at hk'
    by_cases y : k = q
    · rw [y, ux_i _ _ _ (by omega), ← y]; exact h5 k j hk hj
    · rw [ux_c _ _ _ _ y]; exact h5 k j hk hj
  · have hj' := hj
    simp only [List.mem_cons, List.not_mem_nil, or_false] at hj'
    by_cases y : 0 = q
    · rw [← y, ux_i _ _ _ (by omega)]; exact h6 j hj
    · rw [ux_c _ _ _ _ y]; exact h6 j hj
theorem FTr_Y {E A M : MM} (hY : Rty E A) (h : FTr A M) : Rty E M := Rty_R hY (fun k a b _ => h.1 k (by simp only [List.mem_cons, List.not_mem_nil, or_false]; omega)) (h.2.2.2.2.2 20 (by decide))
def KTr (E M : MM) (n : Int) (B : Int → Int) (t : Nat) : Prop := ∀ u : Nat, u < t → M 39 (1600 + u) = tO E B n u ∧ M 40 (1600 + u) = tY E B n u ∧ M 41 (1600 + u) = tL E B n u ∧ M 42 (1600 + u) = tF E B n u ∧ M 100 u = stp B n (tix E B n u)
def KSr (E M : MM) (n : Int) (B : Int → Int) (t K : Nat) : Prop := ∀ k : Nat, k < K → M 58 (16000 + (tF E B n t + k)) = sv E B n t k ∧ M 101 (tF E B n t + k) = stp B n (sj E B n t k)
theorem KTr_o {E M M' : MM} {n : Int} {B : Int → Int} {t : Nat} (h : KTr E M n B t) (e : ∀ k, k ∈ [39, 40, 41, 42, 100] → M' k = M k) : KTr E M' n B t := fun u hu => by
  rw [e 39 (by decide), e 40 (by decide), e 41 (by decide), e 42 (by decide), e 100 (by decide)]; exact h u hu
theorem KSr_o {E M M' : MM} {n : Int} {B : Int → Int} {t K : Nat} (h : KSr E M n B t K) (e : M' 58 = M 58 ∧ M' 101 = M 101) : KSr E M' n B t K := fun k hk => by rw [e.1, e.2]; exact h k hk
theorem p_at4 {Q : Int → MM → Prop} {t : Int} {M : MM} (t0 : 0 ≤ t) (t4 : t < 400) (h : Q (1600 + t) M) : w_X12_at Q 4 t M := p_at (by omega) (by omega) t0 t4 (by rw [show 400 * 4 + t = 1600 + t from by omega]; exact h)
set_option maxHeartbeats 2000000 in
theorem p_takeSlot {Q : Int → MM → Prop} {E A M : MM} {n cn : Int} {B : Int → Int} {t k : Nat} (hY : Rty E A) (hF : FTr A M) (hS : Sr M n B) (t4 : t < 400) (g : GT E B n t) (hk : (k : Int) < tN E B n t) (tl : 0 ≤ tF E B n t) (e40 : M 40 (1600 + t) = tY E B n t) (e42 : M 42 (1600 + t) = tF E B n t) (e38 : M 38 4 = cn) (hcn : 0 ≤ cn ∧ cn ≤ 400) (hR : RdR M (stp B n (sj E B n t k)) okF) (s0 : 0 ≤ stp B n (sj E B n t k)) (s1 : stp B n (sj E B n t k) ≤ n) (q0 : (slF E B n cn t k).1 = 0 → ∀ M', FTr A M' → Sr M' n B → (∀ q, q ≠ 0 → q ≠ 58 → q ≠ 101 → M' q = M q) → M' 0 146 = M 0 146 → (∀ i, i ≠ 16000 + (tF E B n t + k) → M' 58 i = M 58 i) → (∀ i, i ≠ tF E B n t + k → M' 101 i = M 101 i) → M' 58 (16000 + (tF E B n t + k)) = sv E B n t k → M' 101 (tF E B n t + k) = stp B n (sj E B n t k) → RdR M' (stp B n (sj E B n t k + 1)) okF → Q 0 M') (q1 : (slF E B n cn t k).1 ≠ 0 → ∀ M', FTr A M' → Sr M' n B → (∀ q, q ≠ 0 → q ≠ 58 → q ≠ 101 → M' q = M q) → M' 0 146 = M 0 146 → M' 0 83 = (slF E B n cn t k).1 → M' 0 84 = (slF E B n cn t k).2 → Q 0 M') : w_X12_takeSlot Q t k M := by
  have f4 := g.2.2.2.2.2.2.2.1
  have sz16 : tY E B n t < 20 → (k : Int) < E 16 (tY E B n t) := fun q => by
    have : tN E B n t = E 16 (tY E B n t) := by unfold tN so; rw [if_neg (by omega)]
    omega
  have kb := kA_bd hY g.2.2.2.1 (s := (k : Int)) (by omega) sz16
  unfold w_X12_takeSlot
  -- the place of the number is noted, whatever it is
  have note : ∀ (v : Int) (M2 : MM), O83 M M2 → M2 0 143 = stp B n (sj E B n t k) → rl_ v → ((M2 0 83 = 0 ∧ (rd B n (stp B n (sj E B n t k))).1 = 0 ∧ v = nvl B n (sj E B n t k) ∧ RdR M2 (stp B n (sj E B n t k + 1)) okF) ∨ ((slF E B n cn t k).1 ≠ 0 ∧ 0 < M2 0 83 ∧ M2 0 83 = (slF E B n cn t k).1 ∧ M2 0 84 = (slF E B n cn t k).2)) → w_X12_at (fun r3 M4 => ri_ r3 → 0 ≤ r3 ∧ r3 < 2000 ∧ (∀ v5, v5 = M4 42 r3 → ri_ v5 → ri_ (v5 + k) ∧ ((∀ v7, v7 = M4 0 143 → ri_ v7 → 0 ≤ (v5 + k) ∧ (v5 + k) < 4000 ∧ (∀ M8, M8 = ux_ M4 101 (v5 + k) v7 → (∀ v9, v9 = M8 0 83 → ri_ v9 → (v9 ≤ 0 → w_X12_linksIn (fun r11 M12 => (r11 = 0 ∨ r11 = 1) → (r11 = 0 → (¬ (jland v 1) = 0 → w_X12_takeSlot_b111 Q t k (v5 + k) (w64 ((w64 (-(jlushr v 1))) - 1)) M12) ∧ ((jland v 1) = 0 → w_X12_takeSlot_b111 Q t k (v5 + k) (jlushr v 1) M12)) ∧ (¬ r11 = 0 → (v < 0 → w_X12_takeSlot_b67 Q v (v5 + k) M12) ∧ (¬ v < 0 → (∀ v16, v16 = M12 38 4 → ri_ v16 → (v ≤ v16 → w_X12_takeSlot_b76 Q v (v5 + k) M12) ∧ (¬ v ≤ v16 → w_X12_takeSlot_b67 Q v (v5 + k) M12))))) 4 t k M8) ∧ (¬ v9 ≤ 0 → Q 0 M8)))))) ) 4 t M2 := by
    intro v M2 o2 m143 gv hcase
    refine p_at4 (by omega) (by omega) fun _ => ⟨by omega, by omega, fun v5 e5 _ => ?_⟩
    rw [o2.1 42 (by decide), e42] at e5
    subst e5
    refine ⟨by unfold ri_; omega, fun v7 e7 _ => ⟨by omega, by omega, fun M8 e8 v9 e9 _ => ?_⟩⟩
    rw [m143] at e7
    have F8 : FTr A M8 := by rw [e8]; exact FTr_u (FTr_o hF o2) (by simp)
    have o8 : ∀ i, M8 0 i = M2 0 i := fun i => by rw [e8, ux_c _ _ _ _ (by decide)]
    have k8 : ∀ q, q ≠ 0 → q ≠ 101 → M8 q = M q := fun q x y => by rw [e8]; funext i; rw [ux_c _ _ _ _ y, o2.1 q x]
    have S8 : Sr M8 n B := by
      obtain ⟨x1, x2, x3, x4⟩ := Sr_o hS o2
      exact ⟨by rw [o8]; exact x1, x2, x3, fun i x y => by rw [e8, ux_c _ _ _ _ (by decide)]; exact x4 i x y⟩
    have i8 : ∀ i, i ≠ tF E B n t + k → M8 101 i = M 101 i := fun i x => by rw [e8, ux_i _ _ _ x, o2.1 101 (by decide)]
    have a8 : M8 101 (tF E B n t + k) = stp B n (sj E B n t k) := by rw [e8, ux_s, e7]
    have m146 : M8 0 146 = M 0 146 := by rw [o8, o2.2 146 (by decide)]
    have m143' : M8 0 143 = stp B n (sj E B n t k) := by rw [o8]; exact m143
    rw [o8] at e9
    rcases hcase with ⟨c1, c2, c3, c4⟩ | ⟨c1, c2, c3, c4⟩
    · have R8 : RdR M8 (stp B n (sj E B n t k + 1)) okF := ⟨by rw [o8]; exact c4.1, by rw [o8]; exact c4.2.1, fun _ => by rw [o8]; exact c4.2.2 rfl⟩
      refine ⟨fun _ => ?_, fun w => by omega⟩
      subst c3
      -- the value is laid
      have lay : ∀ (N : MM) (x : Int), (∀ q, q ≠ 0 → N q = M8 q) → (∀ i, i ∉ ([83, 84] : List Int) → N 0 i = M8 0 i) → FTr A N → Sr N n B → ((slF E B n cn t k).1 = 0 → x = sv E B n t k ∧ N 0 83 = 0 ∧ N 0 84 = -1) → ((slF E B n cn t k).1 ≠ 0 → N 0 83 = (slF E B n cn t k).1 ∧ N 0 84 = (slF E B n cn t k).2) → ∀ M9, M9 = ux_ N 58 (16000 + (tF E B n t + k)) x → Q 0 M9 := by
        intro N x n1 n2 FN SN y1 y2 M9 e9'
        have F9 : FTr A M9 := by rw [e9']; exact FTr_u FN (Or.inr (Or.inl ⟨rfl, by omega⟩))
        have S9 : Sr M9 n B := by
          obtain ⟨x1, x2, x3, x4⟩ := SN
          exact ⟨by rw [e9', ux_c _ _ _ _ (by decide)]; exact x1, x2, x3, fun i a b => by rw [e9', ux_c _ _ _ _ (by decide)]; exact x4 i a b⟩
        have m9 : ∀ i, M9 0 i = N 0 i := fun i => by rw [e9', ux_c _ _ _ _ (by decide)]
        have k9 : ∀ q, q ≠ 0 → q ≠ 58 → q ≠ 101 → M9 q = M q := fun q a b d => by rw [e9']; funext i; rw [ux_c _ _ _ _ b, n1 q a, k8 q a d]
        have j146 : M9 0 146 = M 0 146 := by rw [m9, n2 146 (by decide), m146]
        by_cases z : (slF E B n cn t k).1 = 0
        · obtain ⟨z1, z2, z3⟩ := y1 z
          refine q0 z M9 F9 S9 k9 j146 (fun i a => by rw [e9', ux_i _ _ _ a, n1 58 (by decide), k8 58 (by decide) (by decide)]) (fun i a => by rw [e9', ux_c _ _ _ _ (by decide), n1 101 (by decide)]; exact i8 i a) (by rw [e9', ux_s, z1]) (by rw [e9', ux_c _ _ _ _ (by decide), n1 101 (by decide)]; exact a8) ⟨by rw [m9, z2]; rfl, by rw [m9, z3]; rfl, fun _ => by rw [m9, n2 142 (by decide)]; exact R8.2.2 rfl⟩
        · obtain ⟨z1, z2⟩ := y2 z
          exact q1 z M9 F9 S9 k9 j146 (by rw [m9, z1]) (by rw [m9, z2])
      have same : (slF E B n cn t k).1 = 0 → ∀ x, x = sv E B n t k → ∀ M9, M9 = ux_ M8 58 (16000 + (tF E B n t + k)) x → Q 0 M9 := fun z x ex => lay M8 x (fun _ _ => rfl) (fun _ _ => rfl) F8 S8 (fun _ => ⟨ex, R8.1, R8.2.1⟩) (fun w => absurd z w)
      have fail4 : slF E B n cn t k = (4, stp B n (sj E B n t k)) → ∀ x (K : Int → MM → Prop), (∀ N, (∀ M9, M9 = ux_ N 58 (16000 + (tF E B n t + k)) x → Q 0 M9) → K 0 N) → ∀ v9, v9 = M8 0 143 → w_X12_fail K 4 v9 M8 := fun e x K hK v9 e9' => by
        rw [m143'] at e9'
        refine p_rfail R8.1 fun N oN x83 x84 x142 x143 => hK N (lay N x (fun q a => oN.1 q a) (fun i a => ?_) (FTr_o F8 oN) (Sr_o S8 oN) (fun w => absurd (by rw [e] at w; exact w) (show (4 : Int) ≠ 0 by decide)) (fun _ => ⟨by rw [x83, e], by rw [x84, e, e9']⟩))
        by_cases h142 : i = 142
        · rw [h142, x142]
        · by_cases h143 : i = 143
          · rw [h143, x143]
          · exact oN.2 i (by simp only [List.mem_cons, List.not_mem_nil, or_false] at a ⊢; omega)
      have hY8 := FTr_Y hY F8
      unfold w_X12_linksIn
      refine p_at4 (by omega) (by omega) fun _ => ⟨by omega, by omega, fun v3 e3 _ => ?_⟩
      rw [k8 40 (by decide) (by decide), e40] at e3
      subst e3
      refine p_R_kA hY8 g.2.2.2.1 (by omega) sz16 fun _ => ⟨fun nk _ => ⟨fun _ => ?_, fun w => absurd rfl w⟩, fun nk _ => ⟨fun w => absurd w (by decide), fun _ => ?_⟩⟩
      · have num : w_X12_takeSlot_b111 Q t k (tF E B n t + k) (uz (nvl B n (sj E B n t k))) M8 := by
          unfold w_X12_takeSlot_b111 w_X12_takeSlot_b152
          refine p_at4 (by omega) (by omega) fun _ => ⟨by omega, by omega, fun v3 e3 _ => ?_⟩
          rw [k8 40 (by decide) (by decide), e40] at e3
          subst e3
          refine p_R_kA hY8 g.2.2.2.1 (by omega) sz16 fun _ => p_R_isNum kb.1 (by omega) (fun vn _ => ⟨fun _ => ⟨by unfold ri_; omega, by omega, by omega, fun M9 e9' => ?_⟩, fun w => absurd w (by decide)⟩) (fun vn _ => ⟨fun w => absurd rfl w, fun _ v9' e9' _ => ?_⟩)
          · have z : (slF E B n cn t k).1 = 0 := by unfold slF; rw [if_neg nk, ff_0 (nff_0.mpr c2), cnd_0 (fun w => w vn)]; rfl
            exact same z _ (by unfold sv; rw [if_neg nk]) M9 e9'
          · have z : slF E B n cn t k = (4, stp B n (sj E B n t k)) := by unfold slF; rw [if_neg nk, ff_0 (nff_0.mpr c2), cnd_1 vn]
            exact fail4 z (uz (nvl B n (sj E B n t k))) _ (fun N hN => ⟨by unfold ri_; omega, by omega, by omega, hN⟩) v9' e9'
        have u := uz_r gv
        exact ⟨fun w => by rw [u.2 w]; exact num, fun w => by rw [u.1 w]; exact num⟩
      · have e : slF E B n cn t k = upf B n (stp B n (sj E B n t k)) cn := by unfold slF; rw [if_pos nk]
        have e2 : upf B n (stp B n (sj E B n t k)) cn = cnd (nvl B n (sj E B n t k) < 0 ∨ cn < nvl B n (sj E B n t k)) (4, stp B n (sj E B n t k)) := by unfold upf; rw [ff_0 (nff_0.mpr c2)]; rfl
        have bad : (nvl B n (sj E B n t k) < 0 ∨ cn < nvl B n (sj E B n t k)) → w_X12_takeSlot_b67 Q (nvl B n (sj E B n t k)) (tF E B n t + k) M8 := fun w => by
          have z : slF E B n cn t k = (4, stp B n (sj E B n t k)) := by rw [e, e2, cnd_1 w]
          unfold w_X12_takeSlot_b67 w_X12_takeSlot_b76
          exact fun v1 e1 _ => fail4 z (w64 (nvl B n (sj E B n t k) - 1)) _ (fun N hN => ⟨by unfold ri_; omega, by omega, by omega, hN⟩) v1 e1
        refine ⟨fun w => bad (Or.inl w), fun w v16 e16 _ => ?_⟩
        rw [k8 38 (by decide) (by decide), e38] at e16
        refine ⟨fun w2 => ?_, fun w2 => bad (Or.inr (by omega))⟩
        have z : (slF E B n cn t k).1 = 0 := by rw [e, e2, cnd_0 (by omega)]; rfl
        unfold w_X12_takeSlot_b76
        refine ⟨by unfold ri_; omega, by omega, by omega, fun M9 e9' => same z _ ?_ M9 e9'⟩
        unfold sv; rw [if_pos nk]; exact w64_of (by unfold rl_; omega)
    · refine ⟨fun w => by omega, fun _ => q1 c1 M8 F8 S8 (fun q a b d => k8 q a d) m146 (by rw [o8, c3]) (by rw [o8, c4])⟩
  refine p_takeNumber hS s0 s1 hR (fun z M2 o2 r2 m143 gv => note _ M2 o2 m143 gv (Or.inl ⟨r2.1, z, rfl, r2⟩)) (fun z M2 v o2 x83 x84 m143 gv => note v M2 o2 m143 gv (Or.inr ?_))
  have nz : (nff B n (stp B n (sj E B n t k))).1 ≠ 0 := fun w => z (nff_0.mp w)
  have e : slF E B n cn t k = ((rd B n (stp B n (sj E B n t k))).1, (rd B n (stp B n (sj E B n t k))).2.1) := by
    unfold slF
    by_cases nk : kA E (tY E B n t) k = 5
    · rw [if_pos nk]; unfold upf; rw [ff_1 nz]; unfold nff; rw [if_neg z]
    · rw [if_neg nk, ff_1 nz]; unfold nff; rw [if_neg z]
  have pos : 0 < (rd B n (stp B n (sj E B n t k))).1 := by
    rcases rdG_f (B := B) (n := n) (s := stp B n (sj E B n t k)) 10 (stp B n (sj E B n t k)) 0 with w | w | w
    · exact absurd w z
    · have w' : (rd B n (stp B n (sj E B n t k))).1 = 1 := w; omega
    · have w' : (rd B n (stp B n (sj E B n t k))).1 = 3 := w; omega
  exact ⟨by rw [e]; exact z, by rw [x83]; exact pos, by rw [x83, e], by rw [x84, e]⟩
