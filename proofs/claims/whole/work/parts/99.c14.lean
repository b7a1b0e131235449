/-! sets worked out: how the reference begins; things, all, own on both sides -/
def wsP (G : Nat → (Int → MM → Prop) → List Int → MM → Prop) (Q : Int → MM → Prop) (l k : Int) : Int → MM → Prop := fun _ M12 => ∀ M13, M13 = ux_ M12 74 l 0 → (¬ M12 0 103 = 0 → Q 0 M13) ∧ (M12 0 103 = 0 → (M12 0 99 = 2 → ri_ (M12 0 102) ∧ (¬ k = 24 → (¬ k = 25 → w_X12_workSet_b351 G Q l (M12 0 102) 0 M13) ∧ (k = 25 → w_X12_workSet_b260 G Q l (M12 0 102) 0 M13)) ∧ (k = 24 → w_X12_workSet_b175 G Q l (M12 0 102) 0 M13)) ∧ (¬ M12 0 99 = 2 → Q 0 M13))
theorem r_ws {R : MM} {m l s : Int} {Q : Int → MM → Prop} {d : Nat} {x k : Int} (x0 : 0 ≤ x) (x1 : x < 480) (s0 : 0 ≤ s) (s1 : s ≤ 10) (hl : l = s ∨ l = 11) (hk : R 66 x = k) (hm : R 0 98 = m) (m0 : 0 ≤ m) (m1 : m ≤ 30000) (h103 : R 0 103 = 0)
    (h1 : m < 30000 → ∀ R1, R1 = ux_ (ux_ R 74 l 0) 0 98 (m + 1) → ((k = 0 ∨ k = 1 ∨ k = 2) → w_X12_workSet_b40 (gw_ d) Q x l k R1) ∧ (¬ (k = 0 ∨ k = 1 ∨ k = 2) → (∀ Q', (∀ r R', wsP (gw_ d) Q l k r R' → Q' r R') → gw_ d 0 Q' [R 67 x] R1)))
    (h0 : m = 30000 → ∀ R', ES s l R R' → R' 0 103 = 1 → R' 74 l = 0 → Q 0 R') : gw_ (d + 1) 5 Q [x, l] R := by
  show b_X12_workSet (gw_ d) Q x l R
  unfold b_X12_workSet
  refine ⟨x0, x1, fun v1 e1 _ => ⟨by omega, by omega, fun M2 e2 => ?_⟩⟩
  rw [hk] at e1
  rw [e1]
  refine r_stp (R0 := R) (p := 0) (m := m) (by rw [e2, ux_c _ _ _ _ (by decide)]; exact hm) m0 m1 (fun z v5 e5 _ => ?_) (fun z v5 e5 _ => ?_)
  · rw [ux_i _ _ _ (by decide), e2, ux_c _ _ _ _ (by decide), h103] at e5
    obtain ⟨g1, g2⟩ := h1 z (ux_ M2 0 98 (m + 1)) (by rw [e2])
    refine ⟨fun _ => ⟨fun z1 => g1 (Or.inl z1), fun z1 => ⟨fun z2 => g1 (Or.inr (Or.inl z2)), fun z2 => ⟨fun z3 => ⟨x0, x1, fun v10 e10 _ => ?_⟩, fun z3 => g1 (Or.inr (Or.inr z3))⟩⟩⟩, fun y => absurd e5 y⟩
    rw [ux_c _ _ _ _ (by decide), e2, ux_c _ _ _ _ (by decide)] at e10
    rw [e10]
    refine g2 (by omega) _ (fun r R' hw => ⟨by omega, by omega, fun M13 e13 v14 e14 _ => ?_⟩)
    obtain ⟨w1, w2⟩ := hw M13 e13
    rw [e13, ux_c _ _ _ _ (by decide)] at e14
    refine ⟨fun y => w1 (by rw [← e14]; exact y), fun y v16 e16 _ => ?_⟩
    obtain ⟨w3, w4⟩ := w2 (by omega)
    rw [e13, ux_c _ _ _ _ (by decide)] at e16
    refine ⟨fun y2 v18 e18 _ => ?_, fun y2 => w4 (by omega)⟩
    rw [e13, ux_c _ _ _ _ (by decide)] at e18
    rw [e18]
    exact w3 (by omega)
  · rw [ux_s] at e5
    refine ⟨fun y => by omega, fun _ => h0 z _ ?_ (by rw [ux_s]) (by rw [ux_c _ _ _ _ (by decide), e2, ux_s])⟩
    rw [e2]
    exact ⟨fun k hk => by rw [ux_g _ _ _ (fun y => hk (by rw [y]; decide)), ux_g _ _ _ (fun y => hk (by rw [y]; decide))], fun i hi => by rw [ux_i _ _ _ (fun y => hi (by rw [y]; decide)), ux_c _ _ _ _ (by decide)], fun i _ => ⟨by rw [ux_c _ _ _ _ (by decide), ux_c _ _ _ _ (by decide)], fun il => by rw [ux_c _ _ _ _ (by decide), ux_i _ _ _ il]⟩, fun i _ _ => by rw [ux_c _ _ _ _ (by decide), ux_c _ _ _ _ (by decide)]⟩
theorem ES_0 {R R1 : MM} {s l m : Int} (e : R1 = ux_ (ux_ R 74 l 0) 0 98 m) : ES s l R R1 := by
  rw [e]
  exact ⟨fun k hk => by rw [ux_g _ _ _ (fun y => hk (by rw [y]; decide)), ux_g _ _ _ (fun y => hk (by rw [y]; decide))], fun i hi => by rw [ux_i _ _ _ (fun y => hi (by rw [y]; decide)), ux_c _ _ _ _ (by decide)], fun i _ => ⟨by rw [ux_c _ _ _ _ (by decide), ux_c _ _ _ _ (by decide)], fun il => by rw [ux_c _ _ _ _ (by decide), ux_i _ _ _ il]⟩, fun i _ _ => by rw [ux_c _ _ _ _ (by decide), ux_c _ _ _ _ (by decide)]⟩
/-- a set's end in the class: the run goes on, or is spent -/
theorem K_sfin {c : Nat} {M0 M M' : MM} {B n : Int} {K : Nat → Int → MM → Prop} {X : MM → Prop} {t t' : Nat} {b tp fo m cost : Int} {ts : List Int} (hK : KSq c M0 K X) (hC : CB M0 M) (hF : EWc tp (fo - 1) M M') (hS : SI B M') (h6 : M' 219 6 = tp) (h3 : M' 219 3 = m + cost) (h8 : ∀ k, 226 ≤ k → k ≤ 228 → M' k fo = M k fo) (hG : Gv M0 fo n B ts M') (hm : m + cost ≤ 30001) (ht : (t : Int) ≤ t' + 4 * cost) (hq : m + cost ≤ 30000 → ∀ (t' : Nat) (M' : MM), (t : Int) ≤ t' + 4 * cost → EWc tp (fo - 1) M M' → SI B M' → M' 219 6 = tp → M' 219 3 = m + cost → (∀ k, 226 ≤ k → k ≤ 228 → M' k fo = M k fo) → Gv M0 fo n B ts M' → K t' b M') (hx : 30000 < m + cost → ∀ M', CB M0 M' → SI B M' → M' 219 3 = 30001 → X M') : K t' b M' := by
  by_cases z : m + cost ≤ 30000
  · exact hq z t' M' ht hF hS h6 h3 h8 hG
  · exact hK.2 t' b M' (CB_F hC hF) (by omega) (hx (by omega) M' (CB_F hC hF) hS (by omega))
theorem lsC {M0 : MM} {pc : Nat} {S : Int → Prop} (n0 : 0 ≤ M0 pc 0) (n4 : M0 pc 0 ≤ 400) : (∀ t ∈ lsG (fl S) 0 (M0 pc 0).toNat, 0 ≤ t ∧ t < M0 pc 0) ∧ (lsG (fl S) 0 (M0 pc 0).toNat).length ≤ 4000 := by
  refine ⟨fun t ht => ?_, ?_⟩
  · obtain ⟨j, j0, j1, j2, j3⟩ := lsG_mem _ _ _ ht
    rcases fl_or S j with ⟨e, -⟩ | ⟨e, -⟩ <;> omega
  · have := lsG_len (ga := fl S) (M0 pc 0).toNat 0
    omega
theorem SemS_L (P : CD) (N : MM) (s : Int) (sf : Int → Int) (fo it x a : Int) (hk : P 1 a = 29 ∧ N 66 x = 2 ∨ P 1 a = 27 ∧ N 66 x = 0 ∧ nr (P 4 a) (N 70 x) ∨ P 1 a = 28 ∧ N 66 x = 1 ∧ nr (P 4 a) (N 70 x)) (hf : P 2 a = fo) (s0 : 0 ≤ s) (s1 : s ≤ fo) : SemS P N s sf fo it x a (a + 1) x (x + 1) := by
  have ko : 27 ≤ P 1 a ∧ P 1 a ≤ 29 := by rcases hk with ⟨h, -⟩ | ⟨h, -⟩ | ⟨h, -⟩ <;> omega
  refine ⟨by omega, by omega, by omega, by omega, fun i i0 i1 e => ?_, fun c pc M0 R0 p B vr iv hE a0 b5 l0 h480 hc hn hu hv => ?_⟩
  · have : i = a := by omega
    rw [this] at e; omega
  have hw := hE.2.2.2.2.2.2.1
  have hY := hE.2.2.2.2.2.1
  obtain ⟨g1, g2⟩ := lsC (S := pS M0 pc (P 1 a) (P 4 a)) hw.1 hw.2.1
  have f0 := hv.2.2.1
  have f1 := hv.2.2.2.1
  refine ⟨lsG (fl (pS M0 pc (P 1 a) (P 4 a))) 0 (M0 pc 0).toNat, 1, g1, g2, by omega, fun K X hK t M tp m hC hS htp tp0 tp1 hm m0 m1 hcv ht hq hx => ?_, fun l hl d R m hd hR hm m0 m1 h103 h101 hvr hit Q hq hx => ?_⟩
  · obtain ⟨t, rfl⟩ : ∃ t', t = t' + 1 := ⟨t - 1, by omega⟩
    refine K_op (o := P 1 a) hE hK hC hm m0 m1 a0 (by omega) (hc 1 a (by omega) (by omega) (by omega) (by omega)) (by omega) (fun M6 e6 => ?_)
    obtain ⟨f6, s6, m6, i6, o6⟩ := mt1 (tp := tp) (fo := fo - 1) hS hm e6
    have hC6 := CB_F hC f6
    have fin : ∀ M', FB_ fo M6 M' → SI B M' → M' 219 6 = tp → Gv M0 fo (M0 pc 0) B (lsG (fl (pS M0 pc (P 1 a) (P 4 a))) 0 (M0 pc 0).toNat) M' → K t (a + 1) M' := fun M' hF hS' h6' hG => by
      refine K_sfin hK hC (EWc_t f6 (FB_E (tp := tp) hF) (by omega) (by omega)) hS' h6' (by rw [hF.2.1 3 (by decide), m6]) (fun k ka kb => ?_) hG (by omega) (by omega) hq hx
      rw [hF.1 k (by simp; omega), o6 k (by omega)]
    have b50 := hE.2.2.2.2.1
    unfold w_X4_execute_b26
    refine ⟨fun _ => ⟨fun _ => ⟨fun _ => ⟨fun z => by omega, fun _ => ?_⟩, fun z => by omega⟩, fun z => by omega⟩, fun z => by omega⟩
    refine c_bs (tp := 0) (so := 0) (v := 0) hE hC6 hc a0 b5 (by omega) (by omega) hf f0 (by omega) ko.1 (fun z => by omega) (fun M7 e7 => ?_)
    have F7 : FB_ fo M6 M7 := by rw [e7]; exact FB_t (FB_t (FB_u (by omega) (by omega) _) (FB_u (by omega) (by omega) _)) (FB_u (by omega) (by omega) _)
    have S7 : SI B M7 := SI_w s6 (by rw [e7, ux_g _ _ _ (by decide), ux_g _ _ _ (by decide), ux_g _ _ _ (by decide)]) (by rw [e7, ux_g _ _ _ (by decide), ux_g _ _ _ (by decide), ux_g _ _ _ (by decide)]) (F7.2.1 3 (by decide)) (fun f _ _ h => by rw [e7, ux_g _ _ _ (by decide), ux_g _ _ _ (by decide), ux_g _ _ _ (by decide)]; exact h)
    have h67 : M7 219 6 = tp := by rw [e7, ux_c _ _ _ _ (by decide), ux_c _ _ _ _ (by decide), ux_c _ _ _ _ (by decide), i6 6 (by decide)]; exact htp
    have n7 : M7 222 fo = P 1 a ∧ M7 224 fo = 0 ∧ M7 225 fo = M0 pc 0 := ⟨by rw [e7, ux_c _ _ _ _ (by decide), ux_c _ _ _ _ (by decide), ux_s], by rw [e7, ux_c _ _ _ _ (by decide), ux_s], by rw [e7, ux_s]⟩
    have rr : ri_ (a + 1) := by unfold ri_; omega
    refine ⟨fun z => ?_, fun z => ⟨rr, fun _ => fin M7 F7 S7 h67 (Gv_C (src := M7 223 fo) hE f0 (by omega) ko.1 ko.2 (fun y => absurd z y) ⟨n7.1, rfl, n7.2.1, n7.2.2⟩)⟩, fun z => by omega⟩
    have hC7 := FB_CB F7 hC6
    obtain ⟨⟨_, u1, u2, rfl⟩, u4⟩ := c_at hE hC7 hc (e := a) (by omega) (by omega)
    have cl : ∀ ow : Int, (ow = 0 ∨ ow = 1) → ow = P 1 a - 27 → w_X4_beginSet_b75 (fun _ M14 => ri_ (a + 1) ∧ (ri_ (a + 1) → K t (a + 1) M14)) ow (P 4 a) fo M7 := fun ow h01 ho => by
      unfold w_X4_beginSet_b75
      refine ⟨h01, p_cls hY hC7 h01 (fun n hn hb _ => ⟨f0, by omega, fun M3 e3 => ⟨rr, fun _ => ?_⟩⟩)⟩
      have F3 : FB_ fo M7 M3 := by rw [e3]; exact FB_u (by omega) (by omega) _
      refine fin M3 (FB_t F7 F3) (SI_w S7 (by rw [e3, ux_g _ _ _ (by decide)]) (by rw [e3, ux_g _ _ _ (by decide)]) (by rw [e3, ux_c _ _ _ _ (by decide)]) (fun f _ _ h => by
        by_cases y : f = fo
        · rw [e3, y, ux_s]; omega
        · rw [e3, ux_i _ _ _ y]; exact h)) (by rw [e3, ux_c _ _ _ _ (by decide)]; exact h67) (Gv_C (src := (n : Int)) hE f0 (by omega) ko.1 ko.2 (fun _ => ⟨n, rfl, hn, fun j hj => by rw [← ho]; exact hb j hj⟩) ⟨by rw [e3, ux_c _ _ _ _ (by decide)]; exact n7.1, by rw [e3, ux_s], by rw [e3, ux_c _ _ _ _ (by decide)]; exact n7.2.1, by rw [e3, ux_c _ _ _ _ (by decide)]; exact n7.2.2⟩)
    unfold w_X4_beginSet_b49
    refine ⟨_, u1, u2, a0, by omega, fun v2 e2 _ => ?_⟩
    rw [u4 4 (by omega) (by omega)] at e2
    rw [e2]
    exact ⟨fun y => cl 0 (Or.inl rfl) (by omega), fun y => cl 1 (Or.inr rfl) (by omega)⟩
  · obtain ⟨d, rfl⟩ : ∃ d', d = d' + 1 := ⟨d - 1, by omega⟩
    have k66 : R 66 x = N 66 x := RBn hR hn (j := 66) (i := x) (by omega) (by omega) (by omega) (by omega)
    have n70 : ∀ R, RB0 p R0 R → R 70 x = N 70 x := fun R h => RBn h hn (j := 70) (by omega) (by omega) (by omega) (by omega)
    refine r_ws (s := s) (by omega) (by omega) s0 (by omega) hl k66 hm m0 m1 h103 (fun z R1 e1 => ⟨fun z2 => ?_, fun z2 => ?_⟩) (fun z R' a1 a2 a3 => hx (by omega) R' a1 a2 a3)
    · have F1 : ES s l R R1 := ES_0 e1
      refine r_C (s := s) (k := P 1 a) (D := P 4 a) hE (RB0_S hR F1) s0 (by omega) hl (by omega) (by omega) n70 hk (by rw [e1, ux_c _ _ _ _ (by decide), ux_s]) (fun R' hG => hq (by omega) R' (ES_t F1 hG.1) (by rw [hG.2.2.2.1, e1, ux_s]) (by rw [hG.2.2.2.2, e1, ux_i _ _ _ (by decide), ux_c _ _ _ _ (by decide)]; exact h103) hG.2.1 hG.2.2.1)
    · exfalso
      rcases hk with ⟨-, h⟩ | ⟨-, h, -⟩ | ⟨-, h, -⟩ <;> omega
