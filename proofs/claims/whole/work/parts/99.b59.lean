/-! bytes read as a picture: the walk, the reference -/
def OO6 (M M' : MM) : Prop := (∀ k, k ≠ 0 → k ≠ 60 → M' k = M k) ∧ ∀ i, i ∉ ([83, 84] : List Int) → M' 0 i = M 0 i
theorem OO6_t {A B D : MM} (h : OO6 A B) (h' : OO6 B D) : OO6 A D := ⟨fun k a b => by rw [h'.1 k a b, h.1 k a b], fun i a => by rw [h'.2 i a, h.2 i a]⟩
def m60 (M : MM) (cn x : Int) : Prop := ∀ u, 0 ≤ u → u < cn → M 60 u = if u < x then 1 else 0
theorem p_meetNext {Q : Int → MM → Prop} {M : MM} {cn x v : Int} (v0 : 0 ≤ v) (v1 : v < cn) (c4 : cn ≤ 400) (x0 : 0 ≤ x) (x1 : x ≤ cn) (h83 : M 0 83 = 0) (hm : m60 M cn x) (h1 : v < x → Q x M) (h2 : v = x → ∀ M', OO6 M M' → M' 0 83 = 0 → M' 0 84 = M 0 84 → m60 M' cn (x + 1) → Q (x + 1) M') (h3 : x < v → ∀ M' y, OO6 M M' → M' 0 83 = 7 → M' 0 84 = M 100 x → Q y M') : w_X12_meetNext Q v x M := by
  unfold w_X12_meetNext
  refine ⟨v0, by omega, fun w1 e1 _ => ?_⟩
  rw [hm v v0 v1] at e1
  refine ⟨fun z => ⟨fun z2 => ?_, fun z2 => ?_⟩, fun z => h1 (by by_cases q : v < x; exact q; (rw [if_neg q] at e1; exact absurd e1 z))⟩
  · unfold w_X12_meetNext_b28
    refine ⟨v0, by omega, fun M1 f1 => ⟨by unfold ri_; omega, h2 z2 M1 ⟨fun k a b => by rw [f1]; funext i; rw [ux_c _ _ _ _ b], fun i a => by rw [f1, ux_c _ _ _ _ (by decide)]⟩ (by rw [f1, ux_c _ _ _ _ (by decide)]; exact h83) (by rw [f1, ux_c _ _ _ _ (by decide)]) fun u u0 u1 => ?_⟩⟩
    rw [f1]
    by_cases q : u = v
    · rw [q, ux_s, if_pos (by omega)]
    · rw [ux_i _ _ _ q, hm u u0 u1]
      by_cases w : u < x
      · rw [if_pos w, if_pos (by omega)]
      · rw [if_neg w, if_neg (by omega)]
  · have q : x < v := by
      by_cases q : v < x
      · rw [if_pos q] at e1; omega
      · omega
    refine ⟨x0, by omega, fun v4 e4 _ => p_rfail h83 fun M6 o6 x83 x84 _ _ => ?_⟩
    unfold w_X12_meetNext_b28
    refine ⟨v0, by omega, fun M1 f1 => ⟨by unfold ri_; omega, h3 q M1 (x + 1) ⟨fun k a b => by rw [f1]; funext i; rw [ux_c _ _ _ _ b, o6.1 k a], fun i a => ?_⟩ (by rw [f1, ux_c _ _ _ _ (by decide), x83]) (by rw [f1, ux_c _ _ _ _ (by decide), x84, e4])⟩⟩
    rw [f1, ux_c _ _ _ _ (by decide)]
    by_cases w : i = 142
    · rw [w]; assumption
    · by_cases w' : i = 143
      · rw [w']; assumption
      · exact o6.2 i (by simp only [List.mem_cons, List.not_mem_nil, or_false] at a ⊢; omega)
set_option maxHeartbeats 2000000 in
theorem p_checkOrder {Q : Int → MM → Prop} {E A M : MM} {n cn : Int} {B : Int → Int} (hY : Rty E A) (hF : FTr A M) (hA : AT E B n cn) (hK : KTr E M n B cn.toNat) (hsl : ∀ u, u < cn.toNat → KSr E M n B u (tN E B n u).toNat) (e38 : M 38 4 = cn) (hr0 : 0 ≤ rC E B n cn) (hr1 : rC E B n cn ≤ 108) (hrt : ∀ r, r < (rC E B n cn).toNat → (rtF E B n cn r).1 = 0) (hKR : KRr E M n cn B (rC E B n cn).toNat) (h83 : M 0 83 = 0) (h84 : M 0 84 = -1) (q0 : (wlF E B n cn).1 = 0 → ∀ M', OO6 M M' → M' 0 83 = 0 → M' 0 84 = -1 → Q 0 M') (q1 : (wlF E B n cn).1 ≠ 0 → ∀ M', OO6 M M' → 0 < M' 0 83 → M' 0 83 = (wlF E B n cn).1 → M' 0 84 = (wlF E B n cn).2 → Q 0 M') : w_X12_checkOrder Q M := by
  obtain ⟨c0, c4, hA'⟩ := id hA
  have hG : ∀ u, u < cn.toNat → GT E B n u := fun u hu => (hA' u (by omega)).1
  -- what is kept all along
  have keep : ∀ M1, OO6 M M1 → FTr A M1 ∧ KTr E M1 n B cn.toNat ∧ (∀ u, u < cn.toNat → KSr E M1 n B u (tN E B n u).toNat) ∧ M1 38 4 = cn ∧ KRr E M1 n cn B (rC E B n cn).toNat ∧ ∀ u : Nat, (u : Int) < cn → M1 100 u = stp B n (tix E B n u) := fun M1 o1 => by
    refine ⟨?_, KTr_o hK (fun q hq => o1.1 q (fun y => by rw [y] at hq; revert hq; decide) (fun y => by rw [y] at hq; revert hq; decide)), fun u hu => KSr_o (hsl u hu) ⟨o1.1 58 (by decide) (by decide), o1.1 101 (by decide) (by decide)⟩, by rw [o1.1 38 (by decide) (by decide)]; exact e38, ⟨by rw [o1.1 55 (by decide) (by decide)]; exact hKR.1, fun i hi => by rw [o1.1 56 (by decide) (by decide), o1.1 57 (by decide) (by decide)]; exact hKR.2 i hi⟩, fun u hu => by rw [o1.1 100 (by decide) (by decide)]; exact (hK u (by omega)).2.2.2.2⟩
    obtain ⟨h1, h2, h3, h4, h5, h6⟩ := hF
    refine ⟨fun k hk => by rw [o1.1 k (fun y => hk (by rw [y]; decide)) (fun y => hk (by rw [y]; decide))]; exact h1 k hk, fun k i hk hi => ?_, fun i hi => by rw [o1.1 58 (by decide) (by decide)]; exact h3 i hi, fun k i hk hi => ?_, fun k i hk hi => ?_, fun i hi => ?_⟩
    · rw [o1.1 k (fun y => by rw [y] at hk; revert hk; decide) (fun y => by rw [y] at hk; revert hk; decide)]; exact h2 k i hk hi
    · rw [o1.1 k (fun y => by rw [y] at hk; revert hk; decide) (fun y => by rw [y] at hk; revert hk; decide)]; exact h4 k i hk hi
    · rw [o1.1 k (fun y => by rw [y] at hk; revert hk; decide) (fun y => by rw [y] at hk; revert hk; decide)]; exact h5 k i hk hi
    · rw [o1.2 i (fun y => hi (by simp only [List.mem_cons, List.not_mem_nil, or_false] at y ⊢; omega))]; exact h6 i hi
  -- the end
  have endB : ∀ M1 x, OO6 M M1 → ((0 < M1 0 83 ∧ M1 0 83 = (wlF E B n cn).1 ∧ M1 0 84 = (wlF E B n cn).2 ∧ (wlF E B n cn).1 ≠ 0) ∨ (M1 0 83 = 0 ∧ M1 0 84 = -1 ∧ wkW E B n cn = (x, 0) ∧ 0 ≤ x ∧ x ≤ cn)) → w_X12_checkOrder_b156 Q x M1 := fun M1 x o1 hc => by
    obtain ⟨-, -, -, k38, -, k100⟩ := keep M1 o1
    unfold w_X12_checkOrder_b156
    intro v1 e1 _
    rcases hc with ⟨b1, b2, b3, b4⟩ | ⟨b1, b2, b3, b4, b5⟩
    · exact ⟨fun _ => q1 b4 M1 o1 b1 b2 b3, fun w => by omega⟩
    · refine ⟨fun w => by omega, fun _ v3 e3 _ => ?_⟩
      rw [k38] at e3
      refine ⟨fun w => q0 (by unfold wlF; rw [b3, cnd_0 (fun q => by rcases q with q | q; exact q rfl; (have q' : x < cn := q; omega))]; rfl) M1 o1 b1 b2, fun w => ⟨b4, by omega, fun v5 e5 _ => ?_⟩⟩
      obtain ⟨V, eV⟩ : ∃ V : Nat, x = V := ⟨x.toNat, by omega⟩
      rw [eV, k100 V (by omega)] at e5
      have wl : wlF E B n cn = (7, stp B n (tix E B n V)) := by unfold wlF; rw [b3, cnd_1 (Or.inr (by show x < cn; omega))]; show (7, stp B n (tix E B n x.toNat)) = _; rw [show x.toNat = V from by omega]
      refine p_rfail b1 fun M7 o7 x83 x84 x142 x143 => q1 (by rw [wl]; show (7 : Int) ≠ 0; decide) M7 (OO6_t o1 ⟨fun k a _ => o7.1 k a, fun i a => ?_⟩) (by rw [x83]; decide) (by rw [x83, wl]) (by rw [x84, wl, e5])
      by_cases w' : i = 142
      · rw [w', x142]
      · by_cases w'' : i = 143
        · rw [w'', x143]
        · exact o7.2 i (by simp only [List.mem_cons, List.not_mem_nil, or_false] at a ⊢; omega)
  have wlBad : ∀ x : Int, wkW E B n cn = (x, 1) → 0 ≤ x → wlF E B n cn = (7, stp B n (tix E B n x.toNat)) := fun x e _ => by
    unfold wlF; rw [e, cnd_1 (Or.inl (show (1 : Int) ≠ 0 by decide))]
  -- a fault found: nothing more is done
  have st70 : ∀ M1 x t, OO6 M M1 → 0 < M1 0 83 → M1 0 83 = (wlF E B n cn).1 → M1 0 84 = (wlF E B n cn).2 → (wlF E B n cn).1 ≠ 0 → w_X12_checkOrder_b70 Q x t M1 := fun M1 x t o1 b1 b2 b3 b4 => by
    unfold w_X12_checkOrder_b70
    refine loop3 _ (fun (x t : Int) M2 => M1 = M2) (fun (_ _ : Int) _ => 0) ?_ _ _ _ rfl
    rintro x t _ f rfl ih
    unfold wb_X12_checkOrder_b70
    exact ⟨fun _ => endB M1 x o1 (Or.inl ⟨b1, b2, b3, b4⟩), fun _ v2 e2 _ => ⟨fun _ => endB M1 x o1 (Or.inl ⟨b1, b2, b3, b4⟩), fun w => by omega⟩⟩
  -- things
  have things : ∀ M1 x, OO6 M M1 → M1 0 83 = 0 → M1 0 84 = -1 → m60 M1 cn x → 0 ≤ x → x ≤ cn → wR (rtS E B n cn) (rC E B n cn).toNat = (x, 0) → w_X12_checkOrder_b70 Q x 0 M1 := fun M1 x o1 b83 b84 bm x0 x1 ew => by
    unfold w_X12_checkOrder_b70
    refine loop3 _ (fun (x t : Int) M2 => ∃ T : Nat, t = T ∧ (T : Int) ≤ cn ∧ OO6 M M2 ∧ ((M2 0 83 = 0 ∧ M2 0 84 = -1 ∧ m60 M2 cn x ∧ 0 ≤ x ∧ x ≤ cn ∧ wTh (lvS E B n) (ctS E B n) (wR (rtS E B n cn) (rC E B n cn).toNat) T = (x, 0)) ∨ (0 < M2 0 83 ∧ M2 0 83 = (wlF E B n cn).1 ∧ M2 0 84 = (wlF E B n cn).2 ∧ (wlF E B n cn).1 ≠ 0))) (fun (_ t : Int) _ => (cn - t).toNat) ?_ _ _ _ ⟨0, rfl, by omega, o1, Or.inl ⟨b83, b84, bm, x0, x1, ew⟩⟩
    rintro x t M2 f ⟨T, rfl, hT, o2, hc⟩ ih
    obtain ⟨F2, K2, L2, k38, KR2, k100⟩ := keep M2 o2
    unfold wb_X12_checkOrder_b70
    rcases hc with ⟨d83, d84, dm, x0, x1, eT⟩ | ⟨b1, b2, b3, b4⟩
    · refine ⟨fun z => endB M2 x o2 (Or.inr ⟨d83, d84, ?_, x0, x1⟩), fun z v2 e2 _ => ⟨fun w => by omega, fun _ => ?_⟩⟩
      · have := wTh_no (lvf := lvS E B n) (cnt := ctS E B n) (s0 := wR (rtS E B n cn) (rC E B n cn).toNat) (t := T) (m := cn.toNat) (Or.inr (by rw [eT]; exact z)) (by omega)
        unfold wkW; rw [this, eT]
      · have g := hG T (by omega)
        have nbd := tN_bd hY g
        have tl := tF_le hY (fun u hu => hG u (by omega)) (Nat.le_refl T)
        have ct : ctS E B n T = tN E B n T := by unfold ctS; rw [show ((T : Int)).toNat = T from by omega]
        have stepT : wTh (lvS E B n) (ctS E B n) (wR (rtS E B n cn) (rC E B n cn).toNat) (T + 1) = wK (lvS E B n T) (x, 0) (tN E B n T).toNat := by
          show (if (wTh (lvS E B n) (ctS E B n) (wR (rtS E B n cn) (rC E B n cn).toNat) T).2 ≠ 0 ∨ (wTh (lvS E B n) (ctS E B n) (wR (rtS E B n cn) (rC E B n cn).toNat) T).1 ≤ T then _ else wK (lvS E B n T) (wTh (lvS E B n) (ctS E B n) (wR (rtS E B n cn) (rC E B n cn).toNat) T) (ctS E B n T).toNat) = _
          rw [eT, ct, if_neg (fun q => by rcases q with q | q; exact q rfl; exact z q)]
        unfold w_X12_checkOrder_b84
        refine loop4 _ (fun (y a k : Int) M3 => (T : Int) = a ∧ ∃ K : Nat, k = K ∧ (K : Int) ≤ tN E B n T ∧ OO6 M M3 ∧ ((M3 0 83 = 0 ∧ M3 0 84 = -1 ∧ m60 M3 cn y ∧ 0 ≤ y ∧ y ≤ cn ∧ wK (lvS E B n T) (x, 0) K = (y, 0)) ∨ (0 < M3 0 83 ∧ M3 0 83 = (wlF E B n cn).1 ∧ M3 0 84 = (wlF E B n cn).2 ∧ (wlF E B n cn).1 ≠ 0))) (fun (_ _ k : Int) _ => (tN E B n T - k).toNat) ?_ _ _ _ _ ⟨rfl, 0, rfl, nbd.1, o2, Or.inl ⟨d83, d84, dm, x0, x1, rfl⟩⟩
        rintro y _ k M3 f2 ⟨rfl, K, rfl, hK1, o3, hc3⟩ ih2
        obtain ⟨F3, K3, L3, j38, KR3, j100⟩ := keep M3 o3
        unfold wb_X12_checkOrder_b84
        refine p_sl4 hY F3 K3 (by omega) (by omega) g fun _ => ⟨fun w => ?_, fun w v4 e4 _ => ?_⟩
        · unfold w_X12_checkOrder_b150
          refine ⟨by unfold ri_; omega, ih _ _ _ ⟨T + 1, by omega, by omega, o3, ?_⟩ (by omega)⟩
          rcases hc3 with ⟨a1, a2, a3, a4, a5, a6⟩ | q
          · exact Or.inl ⟨a1, a2, a3, a4, a5, by rw [stepT, show (tN E B n T).toNat = K from by omega]; exact a6⟩
          · exact Or.inr q
        · rcases hc3 with ⟨a1, a2, a3, a4, a5, a6⟩ | ⟨b1, b2, b3, b4⟩
          · refine ⟨fun w2 => by omega, fun _ => ?_⟩
            have lvE : lvS E B n T K = if kA E (tY E B n T) K = 5 then sv E B n T K else -1 := by unfold lvS; rw [show ((T : Int)).toNat = T from by omega, show ((K : Int)).toNat = K from by omega]
            have stepK : wK (lvS E B n T) (x, 0) (K + 1) = wS (y, 0) (lvS E B n T K) := by show wS (wK (lvS E B n T) (x, 0) K) _ = _; rw [a6]
            have same : lvS E B n T K < y → w_X12_checkOrder_b144 Q f f2 y T K M3 := fun q => by
              unfold w_X12_checkOrder_b144
              exact ⟨by unfold ri_; omega, ih2 _ _ _ _ ⟨rfl, K + 1, by omega, by omega, o3, Or.inl ⟨a1, a2, a3, a4, a5, by rw [stepK, wS_1 rfl q]⟩⟩ (by omega)⟩
            refine p_lk4 hY F3 K3 (by omega) (by omega) g (by omega) (fun nk _ => ⟨fun q => absurd q (by decide), fun _ => p_vl4 K3 (by omega) (by omega) tl.1 g (L3 T (by omega)) (by omega) fun _ _ => ?_⟩) (fun nk _ => ⟨fun _ => ?_, fun q => absurd rfl q⟩)
            · rw [if_pos nk] at lvE
              unfold w_X12_checkOrder_b124
              refine ⟨fun q => same (by rw [lvE]; omega), fun q => ?_⟩
              have v01 : 0 ≤ sv E B n T K ∧ sv E B n T K < cn := by
                rcases AT_v hA (by omega) (by omega) nk with q' | q'
                · exact absurd q' q
                · exact q'
              refine ⟨by unfold ri_; omega, p_meetNext v01.1 v01.2 c4 a4 a5 a1 a3 (fun q2 _ => same (by rw [lvE]; exact q2)) (fun q2 M5 o5 c83 c84 cm _ => ?_) (fun q2 M5 y' o5 c83 c84 _ => ?_)⟩
              · unfold w_X12_checkOrder_b144
                exact ⟨by unfold ri_; omega, ih2 _ _ _ _ ⟨rfl, K + 1, by omega, by omega, OO6_t o3 o5, Or.inl ⟨c83, by rw [c84]; exact a2, cm, by omega, by omega, by rw [stepK, wS_2 rfl (by show _ = y; rw [lvE]; exact q2)]⟩⟩ (by omega)⟩
              · have k1 : wK (lvS E B n T) (x, 0) (K + 1) = (y, 1) := by rw [stepK, wS_3 rfl (by show y < _; rw [lvE]; exact q2)]
                have k2 : wK (lvS E B n T) (x, 0) (tN E B n T).toNat = (y, 1) := by rw [wK_no (r := K + 1) (by rw [k1]; show (1 : Int) ≠ 0; decide) (by omega), k1]
                have k3 : wTh (lvS E B n) (ctS E B n) (wR (rtS E B n cn) (rC E B n cn).toNat) (T + 1) = (y, 1) := by rw [stepT, k2]
                have eW : wkW E B n cn = (y, 1) := by unfold wkW; rw [wTh_no (t := T + 1) (Or.inl (by rw [k3]; show (1 : Int) ≠ 0; decide)) (by omega), k3]
                have wl := wlBad y eW a4
                obtain ⟨V, eV⟩ : ∃ V : Nat, y = V := ⟨y.toNat, by omega⟩
                unfold w_X12_checkOrder_b144
                refine ⟨by unfold ri_; omega, ih2 _ _ _ _ ⟨rfl, K + 1, by omega, by omega, OO6_t o3 o5, Or.inr ⟨by rw [c83]; decide, by rw [c83, wl], ?_, by rw [wl]; show (7 : Int) ≠ 0; decide⟩⟩ (by omega)⟩
                rw [c84, wl, eV, j100 V (by omega)]; show _ = stp B n (tix E B n ((V : Int)).toNat); rw [show ((V : Int)).toNat = V from by omega]
            · rw [if_neg nk] at lvE
              unfold w_X12_checkOrder_b124
              exact ⟨fun _ => same (by rw [lvE]; omega), fun q => absurd rfl q⟩
          · refine ⟨fun w2 => ?_, fun w2 => by omega⟩
            unfold w_X12_checkOrder_b150
            exact ⟨by unfold ri_; omega, ih _ _ _ ⟨T + 1, by omega, by omega, o3, Or.inr ⟨b1, b2, b3, b4⟩⟩ (by omega)⟩
    · exact ⟨fun _ => endB M2 x o2 (Or.inl ⟨b1, b2, b3, b4⟩), fun _ v2 e2 _ => ⟨fun _ => endB M2 x o2 (Or.inl ⟨b1, b2, b3, b4⟩), fun w => by omega⟩⟩
  -- roots
  have roots : ∀ M1, OO6 M M1 → M1 0 83 = 0 → M1 0 84 = -1 → m60 M1 cn 0 → w_X12_checkOrder_b29 Q 0 0 M1 := fun M1 o1 b83 b84 bm => by
    unfold w_X12_checkOrder_b29
    refine loop3 _ (fun (x r : Int) M2 => ∃ T : Nat, r = T ∧ (T : Int) ≤ rC E B n cn ∧ OO6 M M2 ∧ ((M2 0 83 = 0 ∧ M2 0 84 = -1 ∧ m60 M2 cn x ∧ 0 ≤ x ∧ x ≤ cn ∧ wR (rtS E B n cn) T = (x, 0)) ∨ (0 < M2 0 83 ∧ M2 0 83 = (wlF E B n cn).1 ∧ M2 0 84 = (wlF E B n cn).2 ∧ (wlF E B n cn).1 ≠ 0))) (fun (_ r : Int) _ => (rC E B n cn - r).toNat) ?_ _ _ _ ⟨0, rfl, by omega, o1, Or.inl ⟨b83, b84, bm, by omega, by omega, rfl⟩⟩
    rintro x r M2 f ⟨T, rfl, hT, o2, hc⟩ ih
    obtain ⟨F2, K2, L2, k38, KR2, k100⟩ := keep M2 o2
    unfold wb_X12_checkOrder_b29 w_X12_checkOrder_b68
    intro v1 e1 _
    rw [KR2.1] at e1
    rcases hc with ⟨d83, d84, dm, x0, x1, eT⟩ | ⟨b1, b2, b3, b4⟩
    · refine ⟨fun z => things M2 x o2 d83 d84 dm x0 x1 (by rw [show (rC E B n cn).toNat = T from by omega]; exact eT), fun z v3 e3 _ => ⟨fun w => by omega, fun _ => ⟨by unfold ri_; omega, by omega, by omega, fun v6 e6 _ => ?_⟩⟩⟩
      rw [(KR2.2 T (by omega)).2] at e6
      have rk' := rtF_ok (hrt T (by omega))
      have rtE : rtS E B n cn T = rQ E B n cn T := by unfold rtS; rw [show ((T : Int)).toNat = T from by omega]
      have stepR : wR (rtS E B n cn) (T + 1) = wS (x, 0) (rQ E B n cn T) := by show wS (wR (rtS E B n cn) T) (rtS E B n cn T) = _; rw [eT, rtE]
      rw [e6]
      refine p_meetNext rk'.2.2.2.1 rk'.2.2.2.2.1 c4 x0 x1 d83 dm (fun q _ => ⟨by unfold ri_; omega, ih _ _ _ ⟨T + 1, by omega, by omega, o2, Or.inl ⟨d83, d84, dm, x0, x1, by rw [stepR, wS_1 rfl q]⟩⟩ (by omega)⟩) (fun q M5 o5 c83 c84 cm _ => ⟨by unfold ri_; omega, ih _ _ _ ⟨T + 1, by omega, by omega, OO6_t o2 o5, Or.inl ⟨c83, by rw [c84]; exact d84, cm, by omega, by omega, by rw [stepR, wS_2 rfl q]⟩⟩ (by omega)⟩) (fun q M5 y' o5 c83 c84 _ => ⟨by unfold ri_; omega, ih _ _ _ ⟨T + 1, by omega, by omega, OO6_t o2 o5, Or.inr ?_⟩ (by omega)⟩)
      have k1 : wR (rtS E B n cn) (T + 1) = (x, 1) := by rw [stepR, wS_3 rfl q]
      have k2 : wR (rtS E B n cn) (rC E B n cn).toNat = (x, 1) := by rw [wR_no (r := T + 1) (by rw [k1]; show (1 : Int) ≠ 0; decide) (by omega), k1]
      have eW : wkW E B n cn = (x, 1) := by
        unfold wkW
        rw [wTh_no (t := 0) (m := cn.toNat) (Or.inl (by show (wR (rtS E B n cn) (rC E B n cn).toNat).2 ≠ 0; rw [k2]; show (1 : Int) ≠ 0; decide)) (by omega)]
        exact k2
      have wl := wlBad x eW x0
      obtain ⟨V, eV⟩ : ∃ V : Nat, x = V := ⟨x.toNat, by omega⟩
      refine ⟨by rw [c83]; decide, by rw [c83, wl], ?_, by rw [wl]; show (7 : Int) ≠ 0; decide⟩
      have := rk'.2.2.2.2.1
      rw [c84, wl, eV, k100 V (by omega)]; show _ = stp B n (tix E B n ((V : Int)).toNat); rw [show ((V : Int)).toNat = V from by omega]
    · exact ⟨fun _ => st70 M2 x 0 o2 b1 b2 b3 b4, fun _ v3 e3 _ => ⟨fun _ => st70 M2 x 0 o2 b1 b2 b3 b4, fun w => by omega⟩⟩
  unfold w_X12_checkOrder w_X12_checkOrder_b2
  refine loop2 _ (fun (t : Int) M1 => 0 ≤ t ∧ t ≤ cn ∧ (∀ k, k ≠ 60 → M1 k = M k) ∧ ∀ u, 0 ≤ u → u < t → M1 60 u = 0) (fun (t : Int) _ => (cn - t).toNat) ?_ _ _ ⟨by omega, c0, fun _ _ => rfl, fun u a b => by omega⟩
  rintro t M1 f ⟨t0, t1, o1, z1⟩ ih
  unfold wb_X12_checkOrder_b2
  intro v1 e1 _
  rw [o1 38 (by decide), e38] at e1
  refine ⟨fun w => roots M1 ⟨fun k _ b => o1 k b, fun i _ => by rw [o1 0 (by decide)]⟩ (by rw [o1 0 (by decide)]; exact h83) (by rw [o1 0 (by decide)]; exact h84) (fun u a b => by rw [if_neg (by omega)]; exact z1 u a (by omega)), fun w => ⟨t0, by omega, fun M3 e3 => ⟨by unfold ri_; omega, ih _ _ ⟨by omega, by omega, fun k a => by rw [e3]; funext i; rw [ux_c _ _ _ _ a, o1 k a], fun u a b => ?_⟩ (by omega)⟩⟩⟩
  rw [e3]
  by_cases q : u = t
  · rw [q, ux_s]
  · rw [ux_i _ _ _ q]; exact z1 u a (by omega)
