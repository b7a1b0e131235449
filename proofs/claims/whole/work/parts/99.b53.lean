/-! bytes read as a picture: the class's whole reading -/
noncomputable def mkF (B : Int → Int) (n : Int) : Int × Int := ff (cnd (n ≤ 0) (1, n)) (ff (cnd (B 0 ≠ 72) (2, 0)) (ff (cnd (n ≤ 1) (1, n)) (cnd (B 1 ≠ 80) (2, 1))))
def lvS (E : MM) (B : Int → Int) (n : Int) (t k : Int) : Int := if kA E (tY E B n t.toNat) k = 5 then sv E B n t.toNat k.toNat else -1
def ctS (E : MM) (B : Int → Int) (n : Int) (t : Int) : Int := tN E B n t.toNat
def rtS (E : MM) (B : Int → Int) (n cn : Int) (r : Int) : Int := rQ E B n cn r.toNat
def wkW (E : MM) (B : Int → Int) (n cn : Int) : Int × Int := wTh (lvS E B n) (ctS E B n) (wR (rtS E B n cn) (rC E B n cn).toNat) cn.toNat
noncomputable def wlF (E : MM) (B : Int → Int) (n cn : Int) : Int × Int := cnd ((wkW E B n cn).2 ≠ 0 ∨ (wkW E B n cn).1 < cn) (7, stp B n (tix E B n (wkW E B n cn).1.toNat))
def rE (E : MM) (B : Int → Int) (n cn : Int) : Int := stp B n (rJ E B n cn + 1 + 2 * (rC E B n cn).toNat)
/-- the first fault of all -/
noncomputable def dcF (E : MM) (B : Int → Int) (n : Int) : Int × Int := ff (mkF B n) (ff (upf B n 2 400) (ff (thsF E B n (nvl B n 0) (nvl B n 0).toNat) (ff (lnkF E B n (nvl B n 0).toNat) (ff (upf B n (stp B n (rJ E B n (nvl B n 0))) 108) (ff (rtsF E B n (nvl B n 0) (rC E B n (nvl B n 0)).toNat) (ff (chkF B n (rE E B n (nvl B n 0))) (wlF E B n (nvl B n 0))))))))
theorem wR_c {f g : Int → Int} (m : Nat) (h : ∀ r : Nat, r < m → f r = g r) : wR f m = wR g m := by
  induction m with
  | zero => rfl
  | succ m ih => show wS (wR f m) (f m) = wS (wR g m) (g m); rw [ih fun r hr => h r (by omega), h m (by omega)]
theorem wK_c {f g : Int → Int} {s : Int × Int} (m : Nat) (h : ∀ r : Nat, r < m → f r = g r) : wK f s m = wK g s m := by
  induction m with
  | zero => rfl
  | succ m ih => show wS (wK f s m) (f m) = wS (wK g s m) (g m); rw [ih fun r hr => h r (by omega), h m (by omega)]
theorem wTh_c {f g : Int → Int → Int} {a b : Int → Int} {s : Int × Int} (m : Nat) (h : ∀ t : Nat, t < m → a t = b t ∧ ∀ k : Nat, k < (b t).toNat → f t k = g t k) : wTh f a s m = wTh g b s m := by
  induction m with
  | zero => rfl
  | succ m ih =>
    have i := ih fun t ht => h t (by omega)
    obtain ⟨h1, h2⟩ := h m (by omega)
    show (if (wTh f a s m).2 ≠ 0 ∨ (wTh f a s m).1 ≤ m then wTh f a s m else wK (f m) (wTh f a s m) (a m).toNat) = (if (wTh g b s m).2 ≠ 0 ∨ (wTh g b s m).1 ≤ m then wTh g b s m else wK (g m) (wTh g b s m) (b m).toNat)
    rw [i, h1, wK_c _ h2]
theorem KT_PF {E M : MM} {c : Nat} {b0 n : Int} {B : Int → Int} {t : Nat} (h : KT E M c b0 n B t) (t4 : t ≤ 400) (hG : ∀ u, u < t → GT E B n u) (h13 : ∀ i, 0 ≤ i → i < 400 → M (c + 13) i = 0) : PF M c := by
  obtain ⟨h1, h2, h3, h4⟩ := h
  refine ⟨by omega, by omega, h2, fun u a b => ?_, fun o a b => ?_, fun i a b => h13 i (by omega) b⟩
  · obtain ⟨U, rfl⟩ : ∃ U : Nat, u = U := ⟨u.toNat, by omega⟩
    rw [(h3 U (by omega)).1]; exact ⟨(hG U (by omega)).1, (hG U (by omega)).2.1⟩
  · rcases h4 o a b with q | ⟨u, q, -, q'⟩
    · exact Or.inl q
    · exact Or.inr ⟨u, by omega, by omega, by rw [(h3 u q).1]; exact q'⟩
theorem p_readMarks {Q : Int → MM → Prop} {M : MM} {a : Nat} {b0 n : Int} {B : Int → Int} (hS : Sc M a b0 n B) (hR : RdC M b0 0 okF) (q1 : (mkF B n).1 = 0 → 2 ≤ n → ∀ M', O28 M M' → RdC M' b0 2 okF → Q 1 M') (q0 : (mkF B n).1 ≠ 0 → ∀ M', O28 M M' → M' 280 13 = (mkF B n).1 → M' 280 14 = (mkF B n).2 → Q 0 M') : w_X0_readMarks Q M := by
  obtain ⟨h6, h7, h8, ⟨na, k1, k2, k3⟩, b00, n0, hB, ha⟩ := id hS
  unfold w_X0_readMarks w_X0_readMarks_b2
  refine loop2 _ (fun (k : Int) M1 => (k = 0 ∧ M = M1) ∨ (k = 1 ∧ 1 ≤ n ∧ B 0 = 72 ∧ O28 M M1 ∧ RdC M1 b0 1 okF) ∨ (k = 2 ∧ 2 ≤ n ∧ B 0 = 72 ∧ B 1 = 80 ∧ O28 M M1 ∧ RdC M1 b0 2 okF)) (fun (k : Int) _ => (2 - k).toNat) ?_ _ _ (Or.inl ⟨rfl, rfl⟩)
  rintro k M1 f hk ih
  have two : k = 2 → Q 1 M1 := fun e => by
    rcases hk with ⟨q, -⟩ | ⟨q, -⟩ | ⟨-, g1, g2, g3, g4, g5⟩
    · omega
    · omega
    · refine q1 ?_ g1 M1 g4 g5
      unfold mkF
      rw [cnd_0 (by omega), ff_0 (show okF.1 = 0 from rfl), cnd_0 (fun q => q g2), ff_0 (show okF.1 = 0 from rfl), cnd_0 (by omega), ff_0 (show okF.1 = 0 from rfl), cnd_0 (fun q => q g3)]; rfl
  unfold wb_X0_readMarks_b2
  refine ⟨fun z => two (by omega), fun z v2 e2 _ v3 e3 _ => ?_⟩
  have st : O28 M M1 ∧ RdC M1 b0 k okF ∧ k ≤ n ∧ (k = 0 ∨ (k = 1 ∧ B 0 = 72)) := by
    rcases hk with ⟨q, q'⟩ | ⟨q, g1, g2, g3, g4⟩ | ⟨q, -⟩
    · subst q'; subst q; exact ⟨⟨fun _ _ => rfl, fun _ _ => rfl⟩, hR, n0, Or.inl rfl⟩
    · subst q; exact ⟨g3, g4, g1, Or.inr ⟨rfl, g2⟩⟩
    · omega
  obtain ⟨hO, hR1, kn, hk'⟩ := st
  have S1 := Sc_o hS hO
  have m9 := hR1.2.1 rfl
  rw [m9] at e2
  rw [hO.2 8 (by decide), h8] at e3
  have f1 : n ≤ k → mkF B n = (1, n) := fun q => by
    unfold mkF
    rcases hk' with w | ⟨w, w'⟩
    · rw [cnd_1 (by omega), ff_1 (show (1 : Int) ≠ 0 by decide)]
    · by_cases y : n ≤ 0
      · rw [cnd_1 y, ff_1 (show (1 : Int) ≠ 0 by decide)]
      · rw [cnd_0 y, ff_0 (show okF.1 = 0 from rfl), cnd_0 (fun q => q w'), ff_0 (show okF.1 = 0 from rfl), cnd_1 (by omega), ff_1 (show (1 : Int) ≠ 0 by decide)]
  refine ⟨fun z2 => ⟨a, na, by rw [hO.2 6 (by decide)]; exact h6, k1, by omega, fun v6 e6 _ => ?_⟩, fun z2 v9 e9 _ => ?_⟩
  · rw [m9] at e6
    have k0 : 0 ≤ k := by omega
    refine ⟨by omega, by omega, fun v7 e7 _ => ?_⟩
    rw [hO.1 a ha, e6, (hB k k0 (by omega)).1] at e7
    have go : ∀ m : Int, (k = 0 → m = 72) → (k = 1 → m = 80) → w_X0_readMarks_b48 Q f k m v7 M1 := fun m hm0 hm1 => by
      unfold w_X0_readMarks_b48
      refine ⟨fun y w2 g2 _ => ?_, fun y w6 g6 _ => ?_⟩
      · rw [m9] at g2
        refine ⟨by unfold ri_; omega, fun M4 e4 => ⟨by unfold ri_; omega, ih _ _ ?_ (by omega)⟩⟩
        have o4 : O28 M M4 := O28_t hO (by rw [e4]; exact O28_u (by decide))
        have r4 : RdC M4 b0 (k + 1) okF := ⟨by rw [e4, ux_i _ _ _ (by decide)]; exact hR1.1, fun _ => by rw [e4, ux_s, g2]; omega, by rw [e4, ux_i _ _ _ (by decide)]; exact hR1.2.2⟩
        rcases hk' with w | ⟨w, w'⟩
        · subst w
          exact Or.inr (Or.inl ⟨rfl, by omega, by rw [← e7, y]; exact hm0 rfl, o4, r4⟩)
        · subst w
          exact Or.inr (Or.inr ⟨rfl, by omega, w', by rw [← e7, y]; exact hm1 rfl, o4, r4⟩)
      · rw [m9] at g6
        have f2 : mkF B n = (2, k) := by
          unfold mkF
          rcases hk' with w | ⟨w, w'⟩
          · subst w
            rw [cnd_0 (by omega), ff_0 (show okF.1 = 0 from rfl), cnd_1 (fun q => y (by rw [e7, q]; exact (hm0 rfl).symm)), ff_1 (show (2 : Int) ≠ 0 by decide)]
          · subst w
            rw [cnd_0 (by omega), ff_0 (show okF.1 = 0 from rfl), cnd_0 (fun q => q w'), ff_0 (show okF.1 = 0 from rfl), cnd_0 (by omega), ff_0 (show okF.1 = 0 from rfl), cnd_1 (fun q => y (by rw [e7, q]; exact (hm1 rfl).symm))]
        exact p_cfail S1 (by unfold ri_; omega) fun M5 o5 x13 x14 _ _ => q0 (by rw [f2]; show (2 : Int) ≠ 0; decide) M5 (O28_t hO o5) (by rw [x13, f2]) (by rw [x14, f2, g6]; show b0 + k - b0 = k; omega)
    exact ⟨fun y => go 80 (fun q => absurd q y) (fun _ => rfl), fun y => go 72 (fun _ => rfl) (fun q => by omega)⟩
  · rw [hO.2 8 (by decide), h8] at e9
    have e := f1 (by omega)
    exact p_cfail S1 (by unfold ri_; omega) fun M5 o5 x13 x14 _ _ => q0 (by rw [e]; show (1 : Int) ≠ 0; decide) M5 (O28_t hO o5) (by rw [x13, e]) (by rw [x14, e, e9]; show b0 + n - b0 = n; omega)
/-- where the reading begins -/
def EMd (C E : MM) (c a : Nat) (b0 n : Int) : Prop := (∀ k, k ≠ c → k ≠ c + 8 → k ≠ c + 13 → k ≠ c + 18 → k ≠ 280 → E k = C k) ∧ (∀ i, i ≠ 0 → i ≠ 11 → i ≠ 16 → E c i = C c i) ∧ E c 0 = 0 ∧ E c 11 = 0 ∧ E c 16 = 0 ∧ (∀ o, 0 ≤ o → o < 400 → E (c + 8) o = -1) ∧ (∀ t, 0 ≤ t → t < 400 → E (c + 13) t = 0) ∧ E (c + 18) 1 = 0 ∧ (∀ i, i ∉ ([6, 7, 8, 9, 13, 14] : List Int) → E 280 i = C 280 i)
/-- what was read, in the class's cells, when all is well -/
def DOK (E M : MM) (c : Nat) (b0 n : Int) (B : Int → Int) (cn : Int) : Prop := AT E B n cn ∧ KT E M c b0 n B cn.toNat ∧ (∀ u, u < cn.toNat → KS E M c b0 n B u (tN E B n u).toNat) ∧ (lnkF E B n cn.toNat).1 = 0 ∧ 0 ≤ rC E B n cn ∧ rC E B n cn ≤ 108 ∧ (∀ r, r < (rC E B n cn).toNat → (rtF E B n cn r).1 = 0) ∧ KR E M c n cn B (rC E B n cn).toNat ∧ WY M M c cn cn 0
