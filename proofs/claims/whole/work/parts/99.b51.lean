/-! bytes read as a picture: roots and check, the class -/
def rJ (E : MM) (B : Int → Int) (n cn : Int) : Nat := tix E B n cn.toNat
def rC (E : MM) (B : Int → Int) (n cn : Int) : Int := nvl B n (rJ E B n cn)
def rN (E : MM) (B : Int → Int) (n cn : Int) (r : Nat) : Int := nvl B n (rJ E B n cn + 1 + 2 * r)
def rQ (E : MM) (B : Int → Int) (n cn : Int) (r : Nat) : Int := nvl B n (rJ E B n cn + 1 + 2 * r + 1)
def rH (E : MM) (B : Int → Int) (n cn : Int) : Nat → Int
  | 0 => -1
  | r + 1 => rN E B n cn r
noncomputable def rtF (E : MM) (B : Int → Int) (n cn : Int) (r : Nat) : Int × Int := ff (upf B n (stp B n (rJ E B n cn + 1 + 2 * r)) 107) (ff (cnd (rN E B n cn r ≤ rH E B n cn r) (4, stp B n (rJ E B n cn + 1 + 2 * r))) (upf B n (stp B n (rJ E B n cn + 1 + 2 * r + 1)) (cn - 1)))
noncomputable def rtsF (E : MM) (B : Int → Int) (n cn : Int) : Nat → Int × Int
  | 0 => okF
  | r + 1 => ff (rtsF E B n cn r) (rtF E B n cn r)
theorem rtsF_no {E : MM} {B : Int → Int} {n cn : Int} {t m : Nat} (h : (rtsF E B n cn t).1 ≠ 0) (hm : t ≤ m) : rtsF E B n cn m = rtsF E B n cn t := by
  induction m with
  | zero => rw [show t = 0 from by omega]
  | succ m ih =>
    by_cases z : t = m + 1
    · rw [z]
    · show ff (rtsF E B n cn m) _ = _
      rw [ih (by omega), ff_1 h]
theorem rtF_ok {E : MM} {B : Int → Int} {n cn : Int} {r : Nat} (h : (rtF E B n cn r).1 = 0) : 0 ≤ rN E B n cn r ∧ rN E B n cn r ≤ 107 ∧ rH E B n cn r < rN E B n cn r ∧ 0 ≤ rQ E B n cn r ∧ rQ E B n cn r < cn ∧ (rd B n (stp B n (rJ E B n cn + 1 + 2 * r))).1 = 0 ∧ (rd B n (stp B n (rJ E B n cn + 1 + 2 * r + 1))).1 = 0 := by
  unfold rtF at h
  obtain ⟨h1, h⟩ := ff_z h
  obtain ⟨h2, h3⟩ := ff_z h
  have u1 := upf_0 h1
  have u3 := upf_0 h3
  have c2 : ¬ rN E B n cn r ≤ rH E B n cn r := fun q => by rw [cnd_1 q] at h2; exact absurd (show (4 : Int) = 0 from h2) (by decide)
  have t3 : rQ E B n cn r ≤ cn - 1 := u3.2.2
  exact ⟨u1.2.1, u1.2.2, by omega, u3.2.1, by omega, u1.1, u3.1⟩
theorem rtsF_ok {E : MM} {B : Int → Int} {n cn : Int} {T : Nat} (h : (rtsF E B n cn T).1 = 0) : ∀ r, r < T → (rtF E B n cn r).1 = 0 := by
  induction T with
  | zero => intro t ht; omega
  | succ T ih =>
    intro t ht
    obtain ⟨h1, h2⟩ := ff_z (show (ff (rtsF E B n cn T) (rtF E B n cn T)).1 = 0 from h)
    by_cases z : t = T
    · rw [z]; exact h2
    · exact ih h1 t (by omega)
def KR (E M : MM) (c : Nat) (n cn : Int) (B : Int → Int) (r : Nat) : Prop := M c 11 = r ∧ ∀ i : Nat, i < r → M (c + 11) i = rN E B n cn i ∧ M (c + 12) i = rQ E B n cn i
def FR1 (M M' : MM) (c : Nat) : Prop := (∀ k, k ≠ c → k ≠ c + 11 → k ≠ c + 12 → k ≠ 280 → M' k = M k) ∧ (∀ i, i ≠ 11 → M' c i = M c i) ∧ ∀ i, i ∉ ([9, 10, 13, 14] : List Int) → M' 280 i = M 280 i
theorem FR1_o {A M M' : MM} {c : Nat} (hc : c + 12 < 280) (h : FR1 A M c) (o : O28 M M') : FR1 A M' c := ⟨fun k a b d e => by rw [o.1 k e]; exact h.1 k a b d e, fun i a => by rw [o.1 c (by omega)]; exact h.2.1 i a, fun i a => by rw [o.2 i a]; exact h.2.2 i a⟩
set_option maxHeartbeats 1000000 in
theorem p_readRoots {Q : Int → MM → Prop} {E A : MM} {c a : Nat} {b0 n cn : Int} {B : Int → Int} (hc : isP c) (hS : Sc A a b0 n B) (hac : ¬ (c ≤ a ∧ a ≤ c + 12)) (hcn : 0 ≤ cn ∧ cn ≤ 400) (h0 : A c 0 = cn) (h11 : A c 11 = 0) (hR : RdC A b0 (stp B n (rJ E B n cn)) okF) (s0 : 0 ≤ stp B n (rJ E B n cn)) (s1 : stp B n (rJ E B n cn) ≤ n) (q1 : (upf B n (stp B n (rJ E B n cn)) 108).1 = 0 → (rtsF E B n cn (rC E B n cn).toNat).1 = 0 → ∀ M', FR1 A M' c → Sc M' a b0 n B → KR E M' c n cn B (rC E B n cn).toNat → RdC M' b0 (stp B n (rJ E B n cn + 1 + 2 * (rC E B n cn).toNat)) okF → 0 ≤ stp B n (rJ E B n cn + 1 + 2 * (rC E B n cn).toNat) → stp B n (rJ E B n cn + 1 + 2 * (rC E B n cn).toNat) ≤ n → Q 1 M') (q0 : (ff (upf B n (stp B n (rJ E B n cn)) 108) (rtsF E B n cn (rC E B n cn).toNat)).1 ≠ 0 → ∀ M', FR1 A M' c → 0 ≤ M' c 11 → M' 280 13 = (ff (upf B n (stp B n (rJ E B n cn)) 108) (rtsF E B n cn (rC E B n cn).toNat)).1 → M' 280 14 = (ff (upf B n (stp B n (rJ E B n cn)) 108) (rtsF E B n cn (rC E B n cn).toNat)).2 → Q 0 M') : w_X0_readRoots c Q A := by
  have mc := isP_m hc
  obtain ⟨-, -, -, ⟨na, -, k2, k3⟩, b00, n0, -, -⟩ := id hS
  have FRr : FR1 A A c := ⟨fun _ _ _ _ _ => rfl, fun _ _ => rfl, fun _ _ => rfl⟩
  unfold w_X0_readRoots
  refine p_readUpTo (by unfold ri_; omega) hS s0 s1 hR (fun z M2 o2 r2 m10 _ => ?_) (fun z M2 o2 m10 m13 m14 _ => ?_)
  · have u := upf_0 z
    have pz := rd_p u.1
    have en : (rd B n (stp B n (rJ E B n cn))).2.2.1 = rC E B n cn := rfl
    rw [en] at u ⊢
    rw [ff_0 z] at q0
    have s1' : stp B n (rJ E B n cn + 1) = (rd B n (stp B n (rJ E B n cn))).2.2.2 := rfl
    unfold w_X0_readRoots_b12
    refine loop4 _ (fun (x h r : Int) M1 => rC E B n cn = x ∧ ∃ T : Nat, r = T ∧ (T : Int) ≤ rC E B n cn ∧ (rtsF E B n cn T).1 = 0 ∧ h = rH E B n cn T ∧ FR1 A M1 c ∧ Sc M1 a b0 n B ∧ KR E M1 c n cn B T ∧ RdC M1 b0 (stp B n (rJ E B n cn + 1 + 2 * T)) okF ∧ 0 ≤ stp B n (rJ E B n cn + 1 + 2 * T) ∧ stp B n (rJ E B n cn + 1 + 2 * T) ≤ n) (fun (_ _ r : Int) _ => (rC E B n cn - r).toNat) ?_ _ _ _ _ ⟨rfl, 0, rfl, by omega, rfl, rfl, FR1_o (by omega) FRr o2, Sc_o hS o2, ⟨by rw [o2.1 c (by omega)]; exact h11, fun i hi => by omega⟩, r2, by show 0 ≤ stp B n (rJ E B n cn + 1); omega, by show stp B n (rJ E B n cn + 1) ≤ n; omega⟩
    rintro _ h r M1 f ⟨rfl, T, rfl, hT, tk, rfl, F1, S1, K1, R1, p0, p1⟩ ih
    unfold wb_X0_readRoots_b12
    refine ⟨fun y v2 e2 _ => ?_, fun y => ?_⟩
    · have eT : T = (rC E B n cn).toNat := by omega
      rw [R1.1] at e2
      refine ⟨fun y2 => absurd e2 y2, fun _ => ?_⟩
      subst eT
      exact q1 z tk M1 F1 S1 K1 R1 p0 p1
    · have stepE : rtsF E B n cn (T + 1) = rtF E B n cn T := by show ff (rtsF E B n cn T) _ = _; rw [ff_0 tk]
      have bad : (rtF E B n cn T).1 ≠ 0 → ∀ M5, FR1 A M5 c → M5 c 11 = T → M5 280 13 = (rtF E B n cn T).1 → M5 280 14 = (rtF E B n cn T).2 → Q 0 M5 := fun w M5 f5 k5 x13 x14 => by
        have e : rtsF E B n cn (rC E B n cn).toNat = rtF E B n cn T := by rw [rtsF_no (t := T + 1) (by rw [stepE]; exact w) (by omega), stepE]
        exact q0 (by rw [e]; exact w) M5 f5 (by omega) (by rw [x13, e]) (by rw [x14, e])
      refine p_readUpTo (by unfold ri_; omega) S1 p0 p1 R1 (fun z1 M3 o3 r3 x10 _ => ?_) (fun z1 M3 o3 x10 x13 x14 _ => ?_)
      · have u1 := upf_0 z1
        have pz1 := rd_p u1.1
        have e1 : (rd B n (stp B n (rJ E B n cn + 1 + 2 * T))).2.2.1 = rN E B n cn T := rfl
        rw [e1] at u1 ⊢
        have S3 := Sc_o S1 o3
        have F3 := FR1_o (by omega) F1 o3
        have k3 : M3 c 11 = T := by rw [o3.1 c (by omega)]; exact K1.1
        have st2 : stp B n (rJ E B n cn + 1 + 2 * T + 1) = (rd B n (stp B n (rJ E B n cn + 1 + 2 * T))).2.2.2 := rfl
        refine ⟨fun w => by omega, fun _ => ⟨fun w => ?_, fun w v8 e8 _ => ?_⟩⟩
        · unfold w_X0_readRoots_b48
          refine ⟨fun _ v2 e2 _ => ?_, fun w' => by omega⟩
          have ecn : v2 = cn := by rw [e2, F3.2.1 0 (by decide)]; exact h0
          rw [ecn]
          have pre : rtF E B n cn T = upf B n (stp B n (rJ E B n cn + 1 + 2 * T + 1)) (cn - 1) := by
            unfold rtF; rw [ff_0 z1, cnd_0 (by omega), ff_0 (show okF.1 = 0 from rfl)]
          refine ⟨by unfold ri_; omega, p_readUpTo (by unfold ri_; omega) S3 (by omega) (by omega) (show RdC M3 b0 (stp B n (rJ E B n cn + 1 + 2 * T + 1)) okF from r3) (fun z3 M5 o5 r5 y10 _ => ?_) (fun z3 M5 o5 y10 y13 y14 _ => ?_)⟩
          · have u3 := upf_0 z3
            have pz3 := rd_p u3.1
            have e3 : (rd B n (stp B n (rJ E B n cn + 1 + 2 * T + 1))).2.2.1 = rQ E B n cn T := rfl
            rw [e3] at u3 ⊢
            have F5 := FR1_o (by omega) F3 o5
            have k5 : M5 c 11 = T := by rw [o5.1 c (by omega)]; exact k3
            unfold w_X0_readRoots_b68
            refine ⟨fun _ => ?_, fun w' => by omega⟩
            unfold w_X5_addRoot
            intro w1 f1 _
            rw [k5] at f1
            refine ⟨by omega, by omega, fun N2 g2 w3 f3 _ => ?_⟩
            rw [g2, ux_c _ _ _ _ (by omega), k5] at f3
            refine ⟨by omega, by omega, fun N4 g4 w5 f5 _ => ?_⟩
            rw [g4, g2, ux_c _ _ _ _ (by omega), ux_c _ _ _ _ (by omega), k5] at f5
            refine ⟨by unfold ri_; omega, fun N7 g7 => ⟨by unfold ri_; omega, ih _ _ _ _ ⟨rfl, T + 1, by omega, by omega, by rw [stepE, pre]; exact z3, rfl, ⟨fun k x1 x2 x3 x4 => ?_, fun i x1 => ?_, fun i x1 => ?_⟩, ?_, ⟨?_, fun i hi => ?_⟩, ?_, ?_, ?_⟩ (by omega)⟩⟩
            · rw [g7, g4, g2]; funext i; rw [ux_c _ _ _ _ x1, ux_c _ _ _ _ x3, ux_c _ _ _ _ x2, F5.1 k x1 x2 x3 x4]
            · rw [g7, g4, g2, ux_i _ _ _ x1, ux_c _ _ _ _ (by omega), ux_c _ _ _ _ (by omega)]; exact F5.2.1 i x1
            · rw [g7, g4, g2, ux_c _ _ _ _ (by omega), ux_c _ _ _ _ (by omega), ux_c _ _ _ _ (by omega)]; exact F5.2.2 i x1
            · obtain ⟨x1, x2, x3, x4, x5, x6, x7, x8⟩ := Sc_o S3 o5
              have ea : ∀ k, ¬ (c ≤ k ∧ k ≤ c + 12) → N7 k = M5 k := fun k x => by rw [g7, g4, g2]; funext i; rw [ux_c _ _ _ _ (by omega), ux_c _ _ _ _ (by omega), ux_c _ _ _ _ (by omega)]
              exact ⟨by rw [ea 280 (by omega)]; exact x1, by rw [ea 280 (by omega)]; exact x2, by rw [ea 280 (by omega)]; exact x3, x4, x5, x6, fun i x y => by rw [ea a hac]; exact x7 i x y, x8⟩
            · rw [g7, ux_s, f5]; omega
            · have eO : ∀ i, M5 (c + 11) i = M1 (c + 11) i ∧ M5 (c + 12) i = M1 (c + 12) i := fun i => by rw [o5.1 (c + 11) (by omega), o5.1 (c + 12) (by omega), o3.1 (c + 11) (by omega), o3.1 (c + 12) (by omega)]; exact ⟨rfl, rfl⟩
              refine ⟨?_, ?_⟩
              · rw [g7, g4, g2, ux_c _ _ _ _ (by omega), ux_c _ _ _ _ (by omega)]
                by_cases w' : i = T
                · rw [w', f1, ux_s]
                · rw [ux_i _ _ _ (by omega), (eO i).1]; exact (K1.2 i (by omega)).1
              · rw [g7, g4, g2, ux_c _ _ _ _ (by omega)]
                by_cases w' : i = T
                · rw [w', f3, ux_s]
                · rw [ux_i _ _ _ (by omega), ux_c _ _ _ _ (by omega), (eO i).2]; exact (K1.2 i (by omega)).2
            · have e28 : N7 280 = M5 280 := by rw [g7, g4, g2]; funext i; rw [ux_c _ _ _ _ (by omega), ux_c _ _ _ _ (by omega), ux_c _ _ _ _ (by omega)]
              exact ⟨by rw [e28]; exact r5.1, fun _ => by rw [e28]; exact r5.2.1 rfl, by rw [e28]; exact r5.2.2⟩
            · show 0 ≤ (rd B n (stp B n (rJ E B n cn + 1 + 2 * T + 1))).2.2.2; omega
            · show (rd B n (stp B n (rJ E B n cn + 1 + 2 * T + 1))).2.2.2 ≤ n; omega
          · unfold w_X0_readRoots_b68
            refine ⟨fun w' => absurd rfl w', fun _ => bad (by rw [pre]; exact z3) M5 (FR1_o (by omega) F3 o5) (by rw [o5.1 c (by omega)]; exact k3) (by rw [y13, pre]) (by rw [y14, pre])⟩
        · have pre : rtF E B n cn T = (4, stp B n (rJ E B n cn + 1 + 2 * T)) := by
            unfold rtF; rw [ff_0 z1, cnd_1 (by omega), ff_1 (show (4 : Int) ≠ 0 by decide)]
          rw [x10] at e8
          refine p_cfail S3 (by unfold ri_; omega) fun M5 o5 x13 x14 _ _ => bad (by rw [pre]; show (4 : Int) ≠ 0; decide) M5 (FR1_o (by omega) F3 o5) (by rw [o5.1 c (by omega)]; exact k3) (by rw [x13, pre]) (by rw [x14, pre, e8]; show b0 + _ - b0 = _; omega)
      · have pre : rtF E B n cn T = upf B n (stp B n (rJ E B n cn + 1 + 2 * T)) 107 := by unfold rtF; rw [ff_1 z1]
        unfold w_X0_readRoots_b48 w_X0_readRoots_b68
        exact ⟨fun _ => ⟨fun w => absurd rfl w, fun _ => ⟨fun w => absurd rfl w, fun _ => bad (by rw [pre]; exact z1) M3 (FR1_o (by omega) F1 o3) (by rw [o3.1 c (by omega)]; exact K1.1) (by rw [x13, pre]) (by rw [x14, pre])⟩⟩, fun w => absurd rfl w⟩
  · rw [ff_1 z] at q0
    unfold w_X0_readRoots_b12
    refine loop4 _ (fun (x h r : Int) M1 => x = -1 ∧ r = 0 ∧ M2 = M1) (fun (_ _ _ : Int) _ => 0) ?_ _ _ _ _ ⟨rfl, rfl, rfl⟩
    rintro _ h _ _ f ⟨rfl, rfl, rfl⟩ ih
    unfold wb_X0_readRoots_b12
    refine ⟨fun _ v2 e2 _ => ?_, fun y => by omega⟩
    rw [m13] at e2
    exact ⟨fun _ => q0 z M2 (FR1_o (by omega) FRr o2) (by rw [o2.1 c (by omega), h11]; omega) m13 m14, fun y => absurd (by rw [← e2]; exact y) z⟩
/-- the check behind e bytes -/
def Lb (B : Int → Int) : Nat → List Int
  | 0 => []
  | e + 1 => Lb B e ++ [B e]
def ckB (B : Int → Int) (e : Int) : Int := ckL (Lb B e.toNat)
noncomputable def chkF (B : Int → Int) (n e : Int) : Int × Int := ff (cnd (n - e < 4) (1, n)) (ff (cnd (∃ k, 0 ≤ k ∧ k < 4 ∧ B (e + k) ≠ jand (jushr (ckB B e) (8 * k)) 255) (5, e)) (cnd (e + 4 ≠ n) (6, e + 4)))
theorem p_checkAt {Q : Int → MM → Prop} {M : MM} {a na : Nat} {b0 e : Int} {B : Int → Int} (hn : (na : Int) < 2147483648) (b00 : 0 ≤ b0) (e0 : 0 ≤ e) (e1 : b0 + e ≤ na) (hl : ∀ i, 0 ≤ i → i < e → M a (b0 + i) = B i) (hq : Q (ckB B e) M) : w_X0_checkOf a na Q b0 (b0 + e) M := by
  unfold w_X0_checkOf w_X0_checkOf_b5
  refine loop4 _ (fun (x v k : Int) M1 => b0 + e = x ∧ M = M1 ∧ b0 ≤ k ∧ k ≤ b0 + e ∧ v = ckL (Lb B (k - b0).toNat)) (fun (_ _ k : Int) _ => (b0 + e - k).toNat) ?_ _ _ _ _ ⟨rfl, rfl, by omega, by omega, by rw [show (b0 - b0).toNat = 0 from by omega]; rfl⟩
  rintro _ v k _ f ⟨rfl, rfl, k0, k1, ev⟩ ih
  unfold wb_X0_checkOf_b5
  refine ⟨fun z => by rw [ev, show k - b0 = e from by omega]; exact hq, fun z => ⟨by omega, by omega, fun v2 e2 _ => ⟨by unfold ri_; omega, ih _ _ _ _ ⟨rfl, rfl, by omega, by omega, ?_⟩ (by omega)⟩⟩⟩
  have := hl (k - b0) (by omega) (by omega)
  rw [show b0 + (k - b0) = k from by omega] at this
  rw [show (k + 1 - b0).toNat = (k - b0).toNat + 1 from by omega]
  show _ = ckL (Lb B (k - b0).toNat ++ [B ((k - b0).toNat : Nat)])
  rw [ckL_s, ev, e2, this, show (((k - b0).toNat : Nat) : Int) = k - b0 from by omega]
theorem p_readCheck {Q : Int → MM → Prop} {M : MM} {a : Nat} {b0 n e : Int} {B : Int → Int} (hS : Sc M a b0 n B) (e0 : 0 ≤ e) (e1 : e ≤ n) (hR : RdC M b0 e okF) (q1 : (chkF B n e).1 = 0 → Q 1 M) (q0 : (chkF B n e).1 ≠ 0 → ∀ M', O28 M M' → M' 280 13 = (chkF B n e).1 → M' 280 14 = (chkF B n e).2 → Q 0 M') : w_X0_readCheck Q M := by
  obtain ⟨h6, h7, h8, ⟨na, k1, k2, k3⟩, b00, n0, hB, ha⟩ := id hS
  have h9 := hR.2.1 rfl
  unfold w_X0_readCheck
  intro v1 f1 _ v2 f2 _
  rw [h8] at f1
  rw [h9] at f2
  refine ⟨by unfold ri_; omega, fun z => ⟨a, na, h6, k1, by omega, fun v6 f6 _ v7 f7 _ => ?_⟩, fun z v10 f10 _ => ?_⟩
  · rw [h7] at f6
    rw [h9] at f7
    rw [f6, f7]
    refine p_checkAt (by omega) b00 e0 (by omega) (fun i x y => (hB i x (by omega)).1) fun _ => ?_
    have c1 : chkF B n e = ff (cnd (∃ k, 0 ≤ k ∧ k < 4 ∧ B (e + k) ≠ jand (jushr (ckB B e) (8 * k)) 255) (5, e)) (cnd (e + 4 ≠ n) (6, e + 4)) := by
      unfold chkF; rw [cnd_0 (by omega), ff_0 (show okF.1 = 0 from rfl)]
    unfold w_X0_readCheck_b41
    refine loop3 _ (fun (x k : Int) M1 => ckB B e = x ∧ M = M1 ∧ 0 ≤ k ∧ k ≤ 4 ∧ ∀ j, 0 ≤ j → j < k → B (e + j) = jand (jushr (ckB B e) (8 * j)) 255) (fun (_ k : Int) _ => (4 - k).toNat) ?_ _ _ _ ⟨rfl, rfl, by omega, by omega, fun j x y => by omega⟩
    rintro _ k _ f ⟨rfl, rfl, x0, x4, hk⟩ ih
    unfold wb_X0_readCheck_b41
    refine ⟨fun y w2 g2 _ => ⟨?_, fun w4 g4 _ => ⟨fun y2 => ?_, fun y2 w6 g6 _ => ?_⟩⟩, fun y => ⟨a, na, h6, k1, by omega, fun w12 g12 _ => ?_⟩⟩
    · rw [h9] at g2; unfold ri_; omega
    · rw [h9] at g2
      rw [h8] at g4
      refine q1 ?_
      rw [c1, cnd_0 (fun ⟨j, j0, j4, q⟩ => q (hk j j0 (by omega))), ff_0 (show okF.1 = 0 from rfl), cnd_0 (by omega)]; rfl
    · rw [h9] at g2 g6
      rw [h8] at g4
      have e6 : chkF B n e = (6, e + 4) := by
        rw [c1, cnd_0 (fun ⟨j, j0, j4, q⟩ => q (hk j j0 (by omega))), ff_0 (show okF.1 = 0 from rfl), cnd_1 (by omega)]
      refine ⟨by unfold ri_; omega, p_cfail hS (by unfold ri_; omega) fun M5 o5 x13 x14 x10 _ => ⟨fun _ => q0 (by rw [e6]; show (6 : Int) ≠ 0; decide) M5 o5 (by rw [x13, e6]) (by rw [x14, e6, g6]; show b0 + e + 4 - b0 = e + 4; omega), fun w => absurd rfl w⟩⟩
    · rw [h9] at g12
      refine ⟨by unfold ri_; omega, by omega, by omega, fun w14 g14 _ => ⟨by unfold ri_; omega, fun y2 => ⟨by unfold ri_; omega, ih _ _ _ ⟨rfl, rfl, by omega, by omega, fun j j0 j1 => ?_⟩ (by omega)⟩, fun y2 w18 g18 _ => ?_⟩⟩
      · by_cases w : j = k
        · rw [w, ← y2, g14, g12, show b0 + e + k = b0 + (e + k) from by omega]; exact ((hB (e + k) (by omega) (by omega)).1).symm
        · exact hk j j0 (by omega)
      · rw [h9] at g18
        have e5 : chkF B n e = (5, e) := by
          rw [c1, cnd_1 ⟨k, x0, by omega, fun q => y2 (by rw [g14, g12, show b0 + e + k = b0 + (e + k) from by omega, (hB (e + k) (by omega) (by omega)).1]; exact q)⟩, ff_1 (show (5 : Int) ≠ 0 by decide)]
        exact p_cfail hS (by unfold ri_; omega) fun M5 o5 x13 x14 x10 _ => q0 (by rw [e5]; show (5 : Int) ≠ 0; decide) M5 o5 (by rw [x13, e5]) (by rw [x14, e5, g18]; show b0 + e - b0 = e; omega)
  · rw [h8] at f10
    have e1' : chkF B n e = (1, n) := by unfold chkF; rw [cnd_1 (by omega), ff_1 (show (1 : Int) ≠ 0 by decide)]
    exact p_cfail hS (by unfold ri_; omega) fun M5 o5 x13 x14 x10 _ => q0 (by rw [e1']; show (1 : Int) ≠ 0; decide) M5 o5 (by rw [x13, e1']) (by rw [x14, e1', f10]; show b0 + n - b0 = n; omega)
