/-! bytes read as a picture: things, the class -/
def stp (B : Int → Int) (n : Int) : Nat → Int
  | 0 => 2
  | j + 1 => (rd B n (stp B n j)).2.2.2
def nvl (B : Int → Int) (n : Int) (j : Nat) : Int := (rd B n (stp B n j)).2.2.1
theorem stp_s (B : Int → Int) (n : Int) (j : Nat) : stp B n (j + 1) = (rd B n (stp B n j)).2.2.2 := rfl
def tix (E : MM) (B : Int → Int) (n : Int) : Nat → Nat
  | 0 => 1
  | t + 1 => tix E B n t + 3 + (so E (nvl B n (tix E B n t + 1)) (nvl B n (tix E B n t + 2))).toNat
def tO (E : MM) (B : Int → Int) (n : Int) (t : Nat) : Int := nvl B n (tix E B n t)
def tY (E : MM) (B : Int → Int) (n : Int) (t : Nat) : Int := nvl B n (tix E B n t + 1)
def tL (E : MM) (B : Int → Int) (n : Int) (t : Nat) : Int := nvl B n (tix E B n t + 2)
def tN (E : MM) (B : Int → Int) (n : Int) (t : Nat) : Int := so E (tY E B n t) (tL E B n t)
theorem tix_s (E : MM) (B : Int → Int) (n : Int) (t : Nat) : tix E B n (t + 1) = tix E B n t + 3 + (tN E B n t).toNat := rfl
def tF (E : MM) (B : Int → Int) (n : Int) : Nat → Int
  | 0 => 0
  | t + 1 => tF E B n t + tN E B n t
theorem tF_s (E : MM) (B : Int → Int) (n : Int) (t : Nat) : tF E B n (t + 1) = tF E B n t + tN E B n t := rfl
/-- what is wrong with the head of thing t, if anything -/
noncomputable def hdF (E : MM) (B : Int → Int) (n : Int) (t : Nat) : Int × Int :=
  ff (upf B n (stp B n (tix E B n t)) 399) (ff (cnd (∃ u, u < t ∧ tO E B n u = tO E B n t) (4, stp B n (tix E B n t))) (ff (upf B n (stp B n (tix E B n t + 1)) 45) (ff (cnd (¬ vT (E 8 0) (tY E B n t)) (4, stp B n (tix E B n t + 1))) (ff (upf B n (stp B n (tix E B n t + 2)) (if tY E B n t < 20 then 0 else 60)) (cnd (4000 < tF E B n t + tN E B n t) (4, stp B n (tix E B n t + 2)))))))
def uz (w : Int) : Int := if w % 2 = 0 then uns w / 2 else -(uns w / 2) - 1
theorem uz_c {w : Int} (h : rl_ w) : jlxor (jlushr w 1) (w64 (-(jland w 1))) = uz w := by
  unfold rl_ at h
  have e1 : jlushr w 1 = uns w / 2 := jlushr_1 w
  rw [e1, jland_1]
  unfold uz jlxor
  have hu : 0 ≤ uns w / 2 ∧ uns w / 2 < 9223372036854775808 := by unfold uns; omega
  by_cases z : w % 2 = 0
  · rw [if_pos z, z]
    show ((Ll (uns w / 2)).toBitVec ^^^ (Ll (w64 (-0))).toBitVec).toInt = _
    rw [show (Ll (w64 (-0))).toBitVec = 0#64 from by decide, BitVec.xor_zero]
    exact Ll_toInt (by unfold rl_; omega)
  · rw [if_neg z, show w % 2 = 1 from by omega]
    show ((Ll (uns w / 2)).toBitVec ^^^ (Ll (w64 (-1))).toBitVec).toInt = _
    rw [show (Ll (w64 (-1))).toBitVec = BitVec.allOnes 64 from by decide, BitVec.xor_allOnes]
    have e2 : (~~~(Ll (uns w / 2)).toBitVec) = (Ll (-(uns w / 2) - 1)).toBitVec := by
      apply BitVec.eq_of_toNat_eq
      rw [BitVec.toNat_not, Ll_nat, Ll_nat]
      omega
    rw [e2]
    exact Ll_toInt (by unfold rl_; omega)
theorem uz_r {w : Int} (h : rl_ w) : (jland w 1 = 0 → jlushr w 1 = uz w) ∧ (¬ jland w 1 = 0 → w64 (w64 (-(jlushr w 1)) - 1) = uz w) := by
  unfold rl_ at h
  have e1 : jlushr w 1 = uns w / 2 := jlushr_1 w
  have hu : 0 ≤ uns w / 2 ∧ uns w / 2 < 9223372036854775808 := by unfold uns; omega
  rw [e1, jland_1]
  unfold uz
  refine ⟨fun z => by rw [if_pos z], fun z => ?_⟩
  have e2 : w64 (-(uns w / 2)) = -(uns w / 2) := w64_of (by unfold rl_; omega)
  rw [if_neg z, e2, w64_of (by unfold rl_; omega)]
theorem uz_l {w : Int} (h : rl_ w) : rl_ (uz w) := by rw [← uz_c h]; exact rl_of _
def sj (E : MM) (B : Int → Int) (n : Int) (t k : Nat) : Nat := tix E B n t + 3 + k
def sv (E : MM) (B : Int → Int) (n : Int) (t k : Nat) : Int := if kA E (tY E B n t) k = 5 then nvl B n (sj E B n t k) - 1 else uz (nvl B n (sj E B n t k))
noncomputable def slF (E : MM) (B : Int → Int) (n cn : Int) (t k : Nat) : Int × Int := if kA E (tY E B n t) k = 5 then upf B n (stp B n (sj E B n t k)) cn else ff (nff B n (stp B n (sj E B n t k))) (cnd (¬ vN (kA E (tY E B n t) k) (uz (nvl B n (sj E B n t k)))) (4, stp B n (sj E B n t k)))
noncomputable def slsF (E : MM) (B : Int → Int) (n cn : Int) (t : Nat) : Nat → Int × Int
  | 0 => okF
  | k + 1 => ff (slsF E B n cn t k) (slF E B n cn t k)
noncomputable def thsF (E : MM) (B : Int → Int) (n cn : Int) : Nat → Int × Int
  | 0 => okF
  | t + 1 => ff (thsF E B n cn t) (ff (hdF E B n t) (slsF E B n cn t (tN E B n t).toNat))
theorem ff_z {a b : Int × Int} (h : (ff a b).1 = 0) : a.1 = 0 ∧ b.1 = 0 := by
  by_cases z : a.1 = 0
  · rw [ff_0 z] at h; exact ⟨z, h⟩
  · rw [ff_1 z] at h; exact absurd h z
theorem slsF_no {E : MM} {B : Int → Int} {n cn : Int} {t k m : Nat} (h : (slsF E B n cn t k).1 ≠ 0) (hm : k ≤ m) : slsF E B n cn t m = slsF E B n cn t k := by
  induction m with
  | zero => rw [show k = 0 from by omega]
  | succ m ih =>
    by_cases z : k = m + 1
    · rw [z]
    · show ff (slsF E B n cn t m) _ = _
      rw [ih (by omega), ff_1 h]
theorem thsF_no {E : MM} {B : Int → Int} {n cn : Int} {t m : Nat} (h : (thsF E B n cn t).1 ≠ 0) (hm : t ≤ m) : thsF E B n cn m = thsF E B n cn t := by
  induction m with
  | zero => rw [show t = 0 from by omega]
  | succ m ih =>
    by_cases z : t = m + 1
    · rw [z]
    · show ff (thsF E B n cn m) _ = _
      rw [ih (by omega), ff_1 h]
/-- what is sure of a thing whose head is well -/
def GT (E : MM) (B : Int → Int) (n : Int) (t : Nat) : Prop := 0 ≤ tO E B n t ∧ tO E B n t < 400 ∧ (∀ u, u < t → tO E B n u ≠ tO E B n t) ∧ vT (E 8 0) (tY E B n t) ∧ 0 ≤ tL E B n t ∧ tL E B n t ≤ 60 ∧ (tY E B n t < 20 → tL E B n t = 0) ∧ tF E B n t + tN E B n t ≤ 4000 ∧ (∀ j, tix E B n t ≤ j → j < tix E B n t + 3 → (rd B n (stp B n j)).1 = 0)
theorem hdF_ok {E : MM} {B : Int → Int} {n : Int} {t : Nat} (h : (hdF E B n t).1 = 0) : GT E B n t := by
  unfold hdF at h
  obtain ⟨h1, h⟩ := ff_z h
  obtain ⟨h2, h⟩ := ff_z h
  obtain ⟨h3, h⟩ := ff_z h
  obtain ⟨h4, h⟩ := ff_z h
  obtain ⟨h5, h6⟩ := ff_z h
  have u1 := upf_0 h1
  have u3 := upf_0 h3
  have u5 := upf_0 h5
  have c2 : ¬ ∃ u, u < t ∧ tO E B n u = tO E B n t := fun q => by rw [cnd_1 q] at h2; exact absurd (show (4 : Int) = 0 from h2) (by decide)
  have c4 : ¬ ¬ vT (E 8 0) (tY E B n t) := fun q => by rw [cnd_1 q] at h4; exact absurd (show (4 : Int) = 0 from h4) (by decide)
  have c6 : ¬ 4000 < tF E B n t + tN E B n t := fun q => by rw [cnd_1 q] at h6; exact absurd (show (4 : Int) = 0 from h6) (by decide)
  have v4 : vT (E 8 0) (tY E B n t) := Classical.byContradiction c4
  have l0 : 0 ≤ tL E B n t := u5.2.1
  have l1 : tL E B n t ≤ (if tY E B n t < 20 then 0 else 60) := u5.2.2
  refine ⟨u1.2.1, by have := u1.2.2; show nvl B n (tix E B n t) < 400; unfold nvl; omega, fun u hu q => c2 ⟨u, hu, q⟩, v4, l0, ?_, fun q => ?_, by omega, fun j j0 j1 => ?_⟩
  · by_cases q : tY E B n t < 20
    · rw [if_pos q] at l1; omega
    · rw [if_neg q] at l1; omega
  · rw [if_pos q] at l1; omega
  · have : j = tix E B n t ∨ j = tix E B n t + 1 ∨ j = tix E B n t + 2 := by omega
    rcases this with q | q | q
    · rw [q]; exact u1.1
    · rw [q]; exact u3.1
    · rw [q]; exact u5.1
theorem tN_bd {E R0 : MM} (hY : Rty E R0) {B : Int → Int} {n : Int} {t : Nat} (h : GT E B n t) : 0 ≤ tN E B n t ∧ tN E B n t ≤ 96 := so_bd hY h.2.2.2.1 h.2.2.2.2.1 h.2.2.2.2.2.1
theorem tF_le {E R0 : MM} (hY : Rty E R0) {B : Int → Int} {n : Int} {t : Nat} (h : ∀ u, u < t → GT E B n u) {u : Nat} (hu : u ≤ t) : 0 ≤ tF E B n u ∧ tF E B n u ≤ tF E B n t := by
  have up : ∀ v, v ≤ t → 0 ≤ tF E B n v := by
    intro v
    induction v with
    | zero => intro _; exact Int.le_refl _
    | succ v ih => intro hv; have := ih (by omega); have := tN_bd hY (h v (by omega)); rw [tF_s]; omega
  refine ⟨up u hu, ?_⟩
  have mono : ∀ d, u + d ≤ t → tF E B n u ≤ tF E B n (u + d) := by
    intro d
    induction d with
    | zero => intro _; exact Int.le_refl _
    | succ d ih => intro hv; have := ih (by omega); have := tN_bd hY (h (u + d) (by omega)); rw [show u + (d + 1) = u + d + 1 from rfl, tF_s]; omega
  have := mono (t - u) (by omega)
  rw [show u + (t - u) = t from by omega] at this
  exact this
theorem tF_4 {E : MM} {B : Int → Int} {n : Int} {t : Nat} (h : ∀ u, u < t → GT E B n u) : tF E B n t ≤ 4000 := by
  cases t with
  | zero => show (0 : Int) ≤ 4000; decide
  | succ t => rw [tF_s]; exact (h t (by omega)).2.2.2.2.2.2.2.1
/-- things in the class's memory, as they were read -/
def KT (E M : MM) (c : Nat) (b0 n : Int) (B : Int → Int) (t : Nat) : Prop := M c 0 = t ∧ M (c + 4) 0 = 0 ∧ (∀ u : Nat, u < t → M (c + 1) u = tO E B n u ∧ M (c + 2) u = tY E B n u ∧ M (c + 3) u = tL E B n u ∧ M (c + 4) (u + 1 : Nat) = tF E B n (u + 1) ∧ M 283 u = b0 + stp B n (tix E B n u) ∧ M (c + 8) (tO E B n u) = u) ∧ (∀ o, 0 ≤ o → o < 400 → M (c + 8) o = -1 ∨ ∃ u : Nat, u < t ∧ M (c + 8) o = u ∧ tO E B n u = o)
def KS (E M : MM) (c : Nat) (b0 n : Int) (B : Int → Int) (t K : Nat) : Prop := ∀ k : Nat, k < K → M (c + 9) (tF E B n t + k) = sv E B n t k ∧ M (c + 10) (tF E B n t + k) = lf (kA E (tY E B n t) k) ∧ M 284 (tF E B n t + k) = b0 + stp B n (sj E B n t k)
theorem KT_4 {E M : MM} {c : Nat} {b0 n : Int} {B : Int → Int} {t : Nat} (h : KT E M c b0 n B t) {u : Nat} (hu : u ≤ t) : M (c + 4) u = tF E B n u := by
  cases u with
  | zero => exact h.2.1
  | succ u => exact (h.2.2.1 u (by omega)).2.2.2.1
/-- what may change while a picture is read -/
def FD (E M : MM) (c : Nat) : Prop := (∀ k, ¬ (c ≤ k ∧ k ≤ c + 12) → k ≠ 280 → k ≠ 283 → k ≠ 284 → M k = E k) ∧ (∀ i, i ≠ 0 → M c i = E c i) ∧ ∀ i, i ∉ ([9, 10, 13, 14] : List Int) → M 280 i = E 280 i
theorem FD_o {E M M' : MM} {c : Nat} (hc : c + 12 < 280) (h : FD E M c) (o : O28 M M') : FD E M' c := ⟨fun k a b d e => by rw [o.1 k b]; exact h.1 k a b d e, fun i a => by rw [o.1 c (by omega)]; exact h.2.1 i a, fun i a => by rw [o.2 i a]; exact h.2.2 i a⟩
theorem KT_o {E M M' : MM} {c : Nat} {b0 n : Int} {B : Int → Int} {t : Nat} (h : KT E M c b0 n B t) (e : ∀ k, (c ≤ k ∧ k ≤ c + 8) ∨ k = 283 → M' k = M k) : KT E M' c b0 n B t := by
  unfold KT
  rw [e c (by omega), e (c + 1) (by omega), e (c + 2) (by omega), e (c + 3) (by omega), e (c + 4) (by omega), e (c + 8) (by omega), e 283 (by omega)]
  exact h
theorem KS_o {E M M' : MM} {c : Nat} {b0 n : Int} {B : Int → Int} {t K : Nat} (h : KS E M c b0 n B t K) (e : M' (c + 9) = M (c + 9) ∧ M' (c + 10) = M (c + 10) ∧ M' 284 = M 284) : KS E M' c b0 n B t K := fun k hk => by rw [e.1, e.2.1, e.2.2]; exact h k hk
theorem FD_Y {E M R0 : MM} {c : Nat} (hY : Rty E R0) (hc : 25 < c) (h : FD E M c) : Rty M R0 := Rty_C hY (fun k a b => h.1 k (by omega) (by omega) (by omega) (by omega))
set_option maxHeartbeats 2000000 in
theorem p_readThing {Q : Int → MM → Prop} {E M R0 : MM} {c a : Nat} {b0 n : Int} {B : Int → Int} {t : Nat} (hY : Rty E R0) (hc : isP c) (hS : Sc M a b0 n B) (hac : ¬ (c ≤ a ∧ a ≤ c + 12)) (ha2 : a ≠ 283) (ha3 : a ≠ 284) (hF : FD E M c) (hK : KT E M c b0 n B t) (t4 : t < 400) (hG : ∀ u, u < t → GT E B n u) (hR : RdC M b0 (stp B n (tix E B n t)) okF) (s0 : 0 ≤ stp B n (tix E B n t)) (s1 : stp B n (tix E B n t) ≤ n) (q1 : (hdF E B n t).1 = 0 → ∀ M', FD E M' c → Sc M' a b0 n B → KT E M' c b0 n B (t + 1) → RdC M' b0 (stp B n (tix E B n t + 3)) okF → (M' (c + 9) = M (c + 9) ∧ M' (c + 10) = M (c + 10) ∧ M' 284 = M 284) → Q 1 M') (q0 : (hdF E B n t).1 ≠ 0 → ∀ M', FD E M' c → KT E M' c b0 n B t → M' 280 13 = (hdF E B n t).1 → M' 280 14 = (hdF E B n t).2 → Q 0 M') : w_X0_readThing c Q t M := by
  have mc := isP_m hc
  obtain ⟨-, -, -, ⟨na, -, k2, k3⟩, b00, n0, -, -⟩ := id hS
  have h16 := hY.2.2.1
  have tl := tF_le hY hG (Nat.le_refl t)
  have tl4 := tF_4 hG
  unfold w_X0_readThing
  refine p_readUpTo (by unfold ri_; omega) hS s0 s1 hR (fun z1 M2 o2 r2 m10 _ v3 e3 _ => ?_) (fun z1 M2 o2 m10 m13 m14 _ v3 e3 _ => ?_)
  · -- the object's number is there
    have u1 := upf_0 z1
    have pz := rd_p u1.1
    rw [m10] at e3
    refine ⟨by omega, by omega, fun M4 e4 => ⟨fun y => by omega, fun _ => ⟨u1.2.1, by omega, fun v6 e6 _ => ?_⟩⟩⟩
    have S4 : Sc M4 a b0 n B := by
      obtain ⟨w1, w2, w3, w4, w5, w6, w7, w8⟩ := Sc_o hS o2
      exact ⟨by rw [e4, ux_c _ _ _ _ (by decide)]; exact w1, by rw [e4, ux_c _ _ _ _ (by decide)]; exact w2, by rw [e4, ux_c _ _ _ _ (by decide)]; exact w3, w4, w5, w6, fun i x y => by rw [e4, ux_c _ _ _ _ ha2]; exact w7 i x y, w8⟩
    have F4 : FD E M4 c := by
      have w := FD_o (by omega) hF o2
      exact ⟨fun k x y u v => by rw [e4]; funext i; rw [ux_c _ _ _ _ u, w.1 k x y u v], fun i x => by rw [e4, ux_c _ _ _ _ (by omega)]; exact w.2.1 i x, fun i x => by rw [e4, ux_c _ _ _ _ (by decide)]; exact w.2.2 i x⟩
    have O4 : ∀ k, k ≠ 280 → k ≠ 283 → M4 k = M k := fun k x y => by rw [e4]; funext i; rw [ux_c _ _ _ _ y, o2.1 k x]
    have p4 : M4 283 t = b0 + stp B n (tix E B n t) := by rw [e4, ux_s, e3]
    have K4 : KT E M4 c b0 n B t := by
      obtain ⟨w1, w2, w3, w4⟩ := hK
      refine ⟨by rw [O4 c (by omega) (by omega)]; exact w1, by rw [O4 (c + 4) (by omega) (by omega)]; exact w2, fun u hu => ?_, by rw [O4 (c + 8) (by omega) (by omega)]; exact w4⟩
      rw [O4 (c + 1) (by omega) (by omega), O4 (c + 2) (by omega) (by omega), O4 (c + 3) (by omega) (by omega), O4 (c + 4) (by omega) (by omega), O4 (c + 8) (by omega) (by omega), e4, ux_i _ _ _ (by omega), o2.1 283 (by decide)]
      exact w3 u hu
    have r4 : RdC M4 b0 (stp B n (tix E B n t + 1)) okF := by
      refine ⟨by rw [e4, ux_c _ _ _ _ (by decide)]; exact r2.1, fun _ => by rw [e4, ux_c _ _ _ _ (by decide)]; exact r2.2.1 rfl, by rw [e4, ux_c _ _ _ _ (by decide)]; exact r2.2.2⟩
    have s10 : M4 280 10 = b0 + stp B n (tix E B n t) := by rw [e4, ux_c _ _ _ _ (by decide)]; exact m10
    have en : (rd B n (stp B n (tix E B n t))).2.2.1 = tO E B n t := rfl
    rw [en] at e6 ⊢
    rw [en] at u1
    have st1 : stp B n (tix E B n t + 1) = (rd B n (stp B n (tix E B n t))).2.2.2 := rfl
    refine ⟨fun y6 => ?_, fun y6 v8 e8 _ => ?_⟩
    · have nd : ¬ ∃ u, u < t ∧ tO E B n u = tO E B n t := fun ⟨u, hu, q⟩ => by
        have := (K4.2.2.1 u hu).2.2.2.2.2
        rw [q, ← e6] at this
        omega
      -- the type
      unfold w_X0_readThing_b43
      refine ⟨fun _ => ?_, fun y => by omega⟩
      refine p_readUpTo (by unfold ri_; omega) S4 (by omega) (by omega) r4 (fun z3 M5 o5 r5 n10 _ => ?_) (fun z3 M5 o5 n10 n13 n14 _ => ?_)
      · have u3 := upf_0 z3
        have pz3 := rd_p u3.1
        have F5 := FD_o (by omega) F4 o5
        have S5 := Sc_o S4 o5
        have K5 : KT E M5 c b0 n B t := KT_o K4 (fun k hk => o5.1 k (by omega))
        have ey : (rd B n (stp B n (tix E B n t + 1))).2.2.1 = tY E B n t := rfl
        rw [ey] at u3 ⊢
        have st2 : stp B n (tix E B n t + 2) = (rd B n (stp B n (tix E B n t + 1))).2.2.2 := rfl
        have e58 : M5 8 0 = E 8 0 := by rw [F5.1 8 (by omega) (by decide) (by decide) (by decide)]
        unfold w_X0_readThing_b58
        refine ⟨fun y => by omega, fun _ => p_isType (by unfold ri_; omega) (fun vt _ => ⟨fun _ => ?_, fun y => absurd y (by decide)⟩) (fun vt _ => ⟨fun y => absurd rfl y, fun _ v5 e5 _ => ?_⟩)⟩
        · rw [e58] at vt
          -- the length
          have len : ∀ m, m = (if tY E B n t < 20 then 0 else 60) → w_X0_readThing_b113 c Q t (tO E B n t) (tY E B n t) m M5 := fun m em => by
            unfold w_X0_readThing_b113
            refine p_readUpTo (by unfold ri_; by_cases q : tY E B n t < 20; (rw [if_pos q] at em; omega); (rw [if_neg q] at em; omega)) S5 (by omega) (by omega) (show RdC M5 b0 (stp B n (tix E B n t + 2)) okF from r5) (fun z5 M6 o6 r6 l10 _ => ?_) (fun z5 M6 o6 l10 l13 l14 _ => ?_)
            · have u5 := upf_0 z5
              have pz5 := rd_p u5.1
              have F6 := FD_o (by omega) F5 o6
              have K6 : KT E M6 c b0 n B t := KT_o K5 (fun k hk => o6.1 k (by omega))
              have S6 := Sc_o S5 o6
              have el : (rd B n (stp B n (tix E B n t + 2))).2.2.1 = tL E B n t := rfl
              rw [el] at u5 ⊢
              have e68 : M6 8 0 = E 8 0 := by rw [F6.1 8 (by omega) (by decide) (by decide) (by decide)]
              have eso : so M6 (tY E B n t) (tL E B n t) = tN E B n t := by unfold tN so; rw [F6.1 16 (by omega) (by decide) (by decide) (by decide)]
              have l60 : tL E B n t ≤ 60 := by
                by_cases q : tY E B n t < 20
                · rw [if_pos q] at em; omega
                · rw [if_neg q] at em; omega
              have nb' := so_bd hY vt u5.2.1 l60
              have nb2 : 0 ≤ tN E B n t ∧ tN E B n t ≤ 96 := nb'
              unfold w_X0_readThing_b116
              refine ⟨fun _ => p_so (by rw [e68]; exact h16) (by rw [e68]; exact vt) ?_, fun y => by omega⟩
              rw [eso]
              refine fun _ => ⟨by omega, by omega, fun v4 e4' _ => ?_⟩
              rw [KT_4 K6 (Nat.le_refl t)] at e4'
              subst e4'
              have pre : ff (upf B n (stp B n (tix E B n t)) 399) (ff (cnd (∃ u, u < t ∧ tO E B n u = tO E B n t) (4, stp B n (tix E B n t))) (ff (upf B n (stp B n (tix E B n t + 1)) 45) (ff (cnd (¬ vT (E 8 0) (tY E B n t)) (4, stp B n (tix E B n t + 1))) (ff (upf B n (stp B n (tix E B n t + 2)) (if tY E B n t < 20 then 0 else 60)) (cnd (4000 < tF E B n t + tN E B n t) (4, stp B n (tix E B n t + 2))))))) = cnd (4000 < tF E B n t + tN E B n t) (4, stp B n (tix E B n t + 2)) := by
                rw [ff_0 z1, cnd_0 nd, ff_0 (show okF.1 = 0 from rfl), ff_0 z3, cnd_0 (fun q => q vt), ff_0 (show okF.1 = 0 from rfl), ff_0 (by rw [← em]; exact z5)]
              have pre' : hdF E B n t = cnd (4000 < tF E B n t + tN E B n t) (4, stp B n (tix E B n t + 2)) := pre
              refine ⟨by unfold ri_; omega, fun y => ?_, fun y v9 e9 _ => ?_⟩
              · have hok : (hdF E B n t).1 = 0 := by rw [pre', cnd_0 (by omega)]; rfl
                -- the thing is added
                unfold w_X5_addThing
                intro w1 f1 _ w2 f2 _
                rw [K6.1] at f1 f2
                refine ⟨by unfold ri_; omega, fun N4 g4 => ⟨u1.2.1, by omega, fun N5 g5 => ⟨by omega, by omega, fun N6 g6 => ⟨by omega, by omega, fun N7 g7 => ⟨by omega, by omega, fun N8 g8 => ⟨by unfold ri_; omega, by omega, by omega, fun w10 f10 _ => ?_⟩⟩⟩⟩⟩⟩
                have ef : w10 = tF E B n t := by
                  rw [f10, g8, g7, g6, g5, g4, f1, ux_c _ _ _ _ (by omega), ux_c _ _ _ _ (by omega), ux_c _ _ _ _ (by omega), ux_c _ _ _ _ (by omega), ux_c _ _ _ _ (by omega)]
                  exact KT_4 K6 (Nat.le_refl t)
                refine ⟨by unfold ri_; omega, by omega, by omega, fun N12 g12 _ => q1 hok N12 ⟨fun k x y' u v => ?_, fun i x => ?_, fun i x => ?_⟩ ?_ ?_ ?_ ?_⟩
                · rw [g12, g8, g7, g6, g5, g4]; funext i
                  rw [ux_c _ _ _ _ (by omega), ux_c _ _ _ _ (by omega), ux_c _ _ _ _ (by omega), ux_c _ _ _ _ (by omega), ux_c _ _ _ _ (by omega), ux_c _ _ _ _ (by omega)]
                  rw [F6.1 k x y' u v]
                · rw [g12, g8, g7, g6, g5, g4, ux_c _ _ _ _ (by omega), ux_c _ _ _ _ (by omega), ux_c _ _ _ _ (by omega), ux_c _ _ _ _ (by omega), ux_c _ _ _ _ (by omega), ux_i _ _ _ x]
                  exact F6.2.1 i x
                · rw [g12, g8, g7, g6, g5, g4, ux_c _ _ _ _ (by omega), ux_c _ _ _ _ (by omega), ux_c _ _ _ _ (by omega), ux_c _ _ _ _ (by omega), ux_c _ _ _ _ (by omega), ux_c _ _ _ _ (by omega)]
                  exact F6.2.2 i x
                · have ea : ∀ k, ¬ (c ≤ k ∧ k ≤ c + 12) → N12 k = M6 k := fun k x => by
                    rw [g12, g8, g7, g6, g5, g4]; funext i
                    rw [ux_c _ _ _ _ (by omega), ux_c _ _ _ _ (by omega), ux_c _ _ _ _ (by omega), ux_c _ _ _ _ (by omega), ux_c _ _ _ _ (by omega), ux_c _ _ _ _ (by omega)]
                  obtain ⟨x1, x2, x3, x4, x5, x6, x7, x8⟩ := S6
                  exact ⟨by rw [ea 280 (by omega)]; exact x1, by rw [ea 280 (by omega)]; exact x2, by rw [ea 280 (by omega)]; exact x3, x4, x5, x6, fun i x y => by rw [ea a hac]; exact x7 i x y, x8⟩
                · refine ⟨?_, ?_, fun u hu => ⟨?_, ?_, ?_, ?_, ?_, ?_⟩, fun o o0 o4 => ?_⟩
                  · rw [g12, g8, g7, g6, g5, g4, ux_c _ _ _ _ (by omega), ux_c _ _ _ _ (by omega), ux_c _ _ _ _ (by omega), ux_c _ _ _ _ (by omega), ux_c _ _ _ _ (by omega), ux_s, f2]; omega
                  · rw [g12, ux_i _ _ _ (by omega), g8, g7, g6, g5, g4, ux_c _ _ _ _ (by omega), ux_c _ _ _ _ (by omega), ux_c _ _ _ _ (by omega), ux_c _ _ _ _ (by omega), ux_c _ _ _ _ (by omega)]; exact K6.2.1
                  · rw [g12, g8, g7, g6, g5, g4, ux_c _ _ _ _ (by omega), ux_c _ _ _ _ (by omega), ux_c _ _ _ _ (by omega)]
                    by_cases w : u = t
                    · rw [w, f1, ux_s]
                    · rw [ux_i _ _ _ (by omega), ux_c _ _ _ _ (by omega), ux_c _ _ _ _ (by omega)]; exact (K6.2.2.1 u (by omega)).1
                  · rw [g12, g8, g7, g6, g5, g4, ux_c _ _ _ _ (by omega), ux_c _ _ _ _ (by omega)]
                    by_cases w : u = t
                    · rw [w, f1, ux_s]
                    · rw [ux_i _ _ _ (by omega), ux_c _ _ _ _ (by omega), ux_c _ _ _ _ (by omega), ux_c _ _ _ _ (by omega)]; exact (K6.2.2.1 u (by omega)).2.1
                  · rw [g12, g8, g7, g6, g5, g4, ux_c _ _ _ _ (by omega)]
                    by_cases w : u = t
                    · rw [w, f1, ux_s]
                    · rw [ux_i _ _ _ (by omega), ux_c _ _ _ _ (by omega), ux_c _ _ _ _ (by omega), ux_c _ _ _ _ (by omega), ux_c _ _ _ _ (by omega)]; exact (K6.2.2.1 u (by omega)).2.2.1
                  · by_cases w : u = t
                    · rw [g12, w, f1, show (((t + 1 : Nat)) : Int) = (t : Int) + 1 from by omega, ux_s, ef, tF_s]
                    · rw [g12, ux_i _ _ _ (by omega), g8, g7, g6, g5, g4, ux_c _ _ _ _ (by omega), ux_c _ _ _ _ (by omega), ux_c _ _ _ _ (by omega), ux_c _ _ _ _ (by omega), ux_c _ _ _ _ (by omega)]; exact (K6.2.2.1 u (by omega)).2.2.2.1
                  · rw [g12, g8, g7, g6, g5, g4, ux_c _ _ _ _ (by omega), ux_c _ _ _ _ (by omega), ux_c _ _ _ _ (by omega), ux_c _ _ _ _ (by omega), ux_c _ _ _ _ (by omega), ux_c _ _ _ _ (by omega)]
                    by_cases w : u = t
                    · rw [w, o6.1 283 (by decide), o5.1 283 (by decide)]; exact p4
                    · exact (K6.2.2.1 u (by omega)).2.2.2.2.1
                  · rw [g12, g8, g7, g6, g5, g4, ux_c _ _ _ _ (by omega), ux_c _ _ _ _ (by omega), ux_c _ _ _ _ (by omega), ux_c _ _ _ _ (by omega)]
                    by_cases w : u = t
                    · rw [w, f1, ux_s]
                    · rw [ux_i _ _ _ (fun q => nd ⟨u, by omega, q⟩), ux_c _ _ _ _ (by omega)]; exact (K6.2.2.1 u (by omega)).2.2.2.2.2
                  · rw [g12, g8, g7, g6, g5, g4, ux_c _ _ _ _ (by omega), ux_c _ _ _ _ (by omega), ux_c _ _ _ _ (by omega), ux_c _ _ _ _ (by omega)]
                    by_cases w : o = tO E B n t
                    · rw [w, f1, ux_s]; exact Or.inr ⟨t, by omega, rfl, rfl⟩
                    · rw [ux_i _ _ _ w, ux_c _ _ _ _ (by omega)]
                      rcases K6.2.2.2 o o0 o4 with q | ⟨u, q, q', q''⟩
                      · exact Or.inl q
                      · exact Or.inr ⟨u, by omega, q', q''⟩
                · have e28 : N12 280 = M6 280 := by
                    rw [g12, g8, g7, g6, g5, g4]; funext i
                    rw [ux_c _ _ _ _ (by omega), ux_c _ _ _ _ (by omega), ux_c _ _ _ _ (by omega), ux_c _ _ _ _ (by omega), ux_c _ _ _ _ (by omega), ux_c _ _ _ _ (by omega)]
                  refine ⟨by rw [e28]; exact r6.1, fun _ => by rw [e28]; exact r6.2.1 rfl, by rw [e28]; exact r6.2.2⟩
                · have ek : ∀ k, k = c + 9 ∨ k = c + 10 ∨ k = 284 → N12 k = M k := fun k hk => by
                    rw [g12, g8, g7, g6, g5, g4]; funext i
                    rw [ux_c _ _ _ _ (by omega), ux_c _ _ _ _ (by omega), ux_c _ _ _ _ (by omega), ux_c _ _ _ _ (by omega), ux_c _ _ _ _ (by omega), ux_c _ _ _ _ (by omega)]
                    rw [o6.1 k (by omega), o5.1 k (by omega), O4 k (by omega) (by omega)]
                  exact ⟨ek _ (by omega), ek _ (by omega), ek _ (by omega)⟩
              · have hno : hdF E B n t = (4, stp B n (tix E B n t + 2)) := by rw [pre', cnd_1 (by omega)]
                rw [l10] at e9
                refine p_cfail S6 (by unfold ri_; omega) fun M7 o7 x13 x14 x10 _ => q0 (by rw [hno]; show (4 : Int) ≠ 0; decide) M7 (FD_o (by omega) F6 o7) (KT_o K6 (fun k hk => o7.1 k (by omega))) (by rw [x13, hno]) (by rw [x14, hno, e9]; show b0 + _ - b0 = _; omega)
            · have hno : hdF E B n t = upf B n (stp B n (tix E B n t + 2)) m := by
                unfold hdF
                rw [ff_0 z1, cnd_0 nd, ff_0 (show okF.1 = 0 from rfl), ff_0 z3, cnd_0 (fun q => q vt), ff_0 (show okF.1 = 0 from rfl), ← em, ff_1 z5]
              unfold w_X0_readThing_b116
              exact ⟨fun y => absurd rfl y, fun _ => q0 (by rw [hno]; exact z5) M6 (FD_o (by omega) F5 o6) (KT_o K5 (fun k hk => o6.1 k (by omega))) (by rw [l13, hno]) (by rw [l14, hno])⟩
          unfold w_X0_readThing_b88 w_X10_isArray
          exact ⟨fun _ => ⟨fun q _ => ⟨fun _ => len 0 (by rw [if_pos q]), fun y => absurd rfl y⟩, fun q _ => ⟨fun y => absurd y (by decide), fun _ => len 60 (by rw [if_neg q])⟩⟩, fun y => by omega⟩
        · rw [e58] at vt
          have hno : hdF E B n t = (4, stp B n (tix E B n t + 1)) := by
            unfold hdF
            rw [ff_0 z1, cnd_0 nd, ff_0 (show okF.1 = 0 from rfl), ff_0 z3, cnd_1 vt, ff_1 (show (4 : Int) ≠ 0 by decide)]
          rw [n10] at e5
          refine p_cfail S5 (by unfold ri_; omega) fun M7 o7 x13 x14 x10 _ => q0 (by rw [hno]; show (4 : Int) ≠ 0; decide) M7 (FD_o (by omega) F5 o7) (KT_o K5 (fun k hk => o7.1 k (by omega))) (by rw [x13, hno]) (by rw [x14, hno, e5]; show b0 + _ - b0 = _; omega)
      · have hno : hdF E B n t = upf B n (stp B n (tix E B n t + 1)) 45 := by
          unfold hdF
          rw [ff_0 z1, cnd_0 nd, ff_0 (show okF.1 = 0 from rfl), ff_1 z3]
        unfold w_X0_readThing_b58 w_X0_readThing_b88 w_X0_readThing_b116
        exact ⟨fun _ => ⟨fun y => absurd rfl y, fun _ => ⟨fun y => absurd rfl y, fun _ => q0 (by rw [hno]; exact z3) M5 (FD_o (by omega) F4 o5) (KT_o K4 (fun k hk => o5.1 k (by omega))) (by rw [n13, hno]) (by rw [n14, hno])⟩⟩, fun y => absurd rfl y⟩
    · have yd : ∃ u, u < t ∧ tO E B n u = tO E B n t := by
        rcases K4.2.2.2 (tO E B n t) u1.2.1 (by omega) with q | ⟨u, q, -, q''⟩
        · exact absurd (by rw [e6]; exact q) y6
        · exact ⟨u, q, q''⟩
      have hno : hdF E B n t = (4, stp B n (tix E B n t)) := by
        unfold hdF
        rw [ff_0 z1, cnd_1 yd, ff_1 (show (4 : Int) ≠ 0 by decide)]
      rw [s10] at e8
      refine p_cfail S4 (by unfold ri_; omega) fun M7 o7 x13 x14 x10 _ => q0 (by rw [hno]; show (4 : Int) ≠ 0; decide) M7 (FD_o (by omega) F4 o7) (KT_o K4 (fun k hk => o7.1 k (by omega))) (by rw [x13, hno]) (by rw [x14, hno, e8]; show b0 + _ - b0 = _; omega)
  · have hno : hdF E B n t = upf B n (stp B n (tix E B n t)) 399 := by
      unfold hdF; rw [ff_1 z1]
    refine ⟨by omega, by omega, fun M4 e4 => ⟨fun _ => ?_, fun y => absurd rfl y⟩⟩
    have F4 : FD E M4 c := by
      have w := FD_o (by omega) hF o2
      exact ⟨fun k x y u v => by rw [e4]; funext i; rw [ux_c _ _ _ _ u, w.1 k x y u v], fun i x => by rw [e4, ux_c _ _ _ _ (by omega)]; exact w.2.1 i x, fun i x => by rw [e4, ux_c _ _ _ _ (by decide)]; exact w.2.2 i x⟩
    have O4 : ∀ k, k ≠ 280 → k ≠ 283 → M4 k = M k := fun k x y => by rw [e4]; funext i; rw [ux_c _ _ _ _ y, o2.1 k x]
    have K4 : KT E M4 c b0 n B t := by
      obtain ⟨w1, w2, w3, w4⟩ := hK
      refine ⟨by rw [O4 c (by omega) (by omega)]; exact w1, by rw [O4 (c + 4) (by omega) (by omega)]; exact w2, fun u hu => ?_, by rw [O4 (c + 8) (by omega) (by omega)]; exact w4⟩
      rw [O4 (c + 1) (by omega) (by omega), O4 (c + 2) (by omega) (by omega), O4 (c + 3) (by omega) (by omega), O4 (c + 4) (by omega) (by omega), O4 (c + 8) (by omega) (by omega), e4, ux_i _ _ _ (by omega), o2.1 283 (by decide)]
      exact w3 u hu
    unfold w_X0_readThing_b43 w_X0_readThing_b58 w_X0_readThing_b88 w_X0_readThing_b116
    exact ⟨fun y => absurd rfl y, fun _ => ⟨fun _ => ⟨fun y => absurd rfl y, fun _ => ⟨fun y => absurd rfl y, fun _ => q0 (by rw [hno]; exact z1) M4 F4 K4 (by rw [e4, ux_c _ _ _ _ (by decide), m13, hno]) (by rw [e4, ux_c _ _ _ _ (by decide), m14, hno])⟩⟩, fun y => absurd rfl y⟩⟩
