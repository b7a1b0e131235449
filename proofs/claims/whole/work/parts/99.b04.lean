/-! a picture is taken: the slots, and all -/
theorem fm_s {f : Nat → Int} {L : List Int} (k : Nat) : fm f (k + 1) L = mt (fm f k L) (f k) := rfl
theorem sL_fm {C : MM} {f : Nat → Int} {L : List Int} (k j : Nat) (h : j ≤ L.length) : sL C (fm f k L) j = sL C L j := by
  induction k with
  | zero => rfl
  | succ k ih => rw [fm_s, sL_mt j (Nat.le_trans h (fm_len k)), ih]
theorem SD_mt {C M M' : MM} {c : Nat} {L : List Int} {v : Int} {T K : Nat} (h : SD C M c L T K) (hT : T < L.length) (h9 : M' (c + 9) = M (c + 9)) (h10 : M' (c + 10) = M (c + 10)) (hs : ∀ o ∈ L, ∀ k, k < lnN C o → slk C o k = -1 ∨ 0 ≤ slk C o k) : SD C M' c (mt L v) T K := by
  intro t k htk ht hk
  have ht' : t < L.length := by rcases htk with q | q; omega; omega
  rw [mt_gD ht'] at hk ⊢
  obtain ⟨a1, a2, a3⟩ := h t k htk ht' hk
  rw [h9, h10, sL_mt t (by omega), pv_mt a3 (hs _ (gD_mem ht') k hk)]
  exact ⟨a1, a2, fun q => mt_sub (a3 q)⟩
theorem slk_sg {C R R0 : MM} (hY : Rty C R0) (hH : Rhp C R) {o : Int} (ho : hOk C o) (k : Nat) (hk : k < lnN C o) : slk C o k = -1 ∨ 0 ≤ slk C o k := by
  rcases slk_lt hY hH ho hk with q | q
  · exact Or.inl q
  · exact Or.inr q.1
set_option maxHeartbeats 1000000 in
theorem p_takeSlots {Q : Int → MM → Prop} {C R R0 M : MM} {c T : Nat} {L : List Int} {X rs : List (Int × Int)} (hc : pB c) (hY : Rty C R0) (hH : Rhp C R) (h : TC C M c L X rs) (hT : T < L.length) (hS : SD C M c L T 0) (hq : ∀ M', TC C M' c (fm (slk C (L.getD T 0)) (lnN C (L.getD T 0)) L) (xf (slk C (L.getD T 0)) T L X (lnN C (L.getD T 0))) rs → SD C M' c (fm (slk C (L.getD T 0)) (lnN C (L.getD T 0)) L) (T + 1) 0 → Q 0 M') : w_X5_takeSlots c Q T M := by
  unfold pB at hc
  have n0 := hH.2.1
  have n4 := hH.2.2.1
  have hlen := wl_len h.2.2.1 n0
  have ho := h.2.2.2.1 _ (gD_mem hT)
  obtain ⟨o, eo⟩ : ∃ o, o = L.getD T 0 := ⟨_, rfl⟩
  rw [← eo] at ho hq
  have hat := hp_at hY hH ho
  have ho0 := ho.1
  have hln : ((lnN C o : Nat) : Int) = ln C o := by unfold lnN; omega
  have hb := ((hH.2.2.2.2.2.2.2.2.2.1 o ho.1 ho.2.1).2 ho.2.2).2.2.2.2.2.2.2.2.2
  have es : sL C L (T + 1) = sL C L T + ln C o := by rw [eo]; rfl
  have hs0 := (sL_mono hY hH h.2.2.2.1 0 T (by omega) (by omega)).1
  have hs1 := (sL_mono hY hH h.2.2.2.1 (T + 1) L.length (by omega) (Nat.le_refl _)).1
  have hs2 := sN_le hY hH h.2.2.2.2.1 h.2.2.2.1
  have z0 : sL C L 0 = 0 := rfl
  unfold w_X5_takeSlots
  refine ⟨by omega, by omega, fun v1 e1 _ => ?_⟩
  rw [(h.2.2.2.2.2.2.2.1 T hT).1, ← eo] at e1
  subst e1
  refine ⟨ho0, by omega, fun v2 e2 _ => ⟨by unfold ri_; omega, by omega, by omega, fun v4 e4 _ => ⟨by omega, by omega, fun v5 e5 _ => ?_⟩⟩⟩
  rw [h.1 29 (by omega)] at e2
  have e4' := h.2.2.2.2.2.2.2.2.1 (T + 1) (by omega)
  have e5' := h.2.2.2.2.2.2.2.2.1 T (by omega)
  rw [show ((T : Int) + 1) = ((T + 1 : Nat) : Int) from by omega, e4', es] at e4
  rw [e5'] at e5
  subst e2 e4 e5
  refine ⟨by unfold ri_; omega, ?_⟩
  rw [show sL C L T + ln C v1 - sL C L T = ln C v1 from by omega]
  refine loop5 _ (fun (a b d k : Int) M1 => (T : Int) = a ∧ C 29 v1 = b ∧ ln C v1 = d ∧ 0 ≤ k ∧ k ≤ ln C v1 ∧ TC C M1 c (fm (slk C v1) k.toNat L) (xf (slk C v1) T L X k.toNat) rs ∧ SD C M1 c (fm (slk C v1) k.toNat L) T k.toNat) (fun _ _ _ k _ => (ln C v1 - k).toNat) ?_ _ _ _ _ _ ⟨rfl, rfl, rfl, by omega, hat.1, h, hS⟩
  rintro _ _ _ k M1 f ⟨rfl, rfl, rfl, k0, k1, hm, hd⟩ ih
  have kk : ((k.toNat : Nat) : Int) = k := by omega
  have Tl : T < (fm (slk C v1) k.toNat L).length := Nat.lt_of_lt_of_le hT (fm_len _)
  have gT : (fm (slk C v1) k.toNat L).getD T 0 = v1 := by rw [fm_gD hT, ← eo]
  have sT : sL C (fm (slk C v1) k.toNat L) T = sL C L T := sL_fm _ _ (by omega)
  unfold wb_X5_takeSlots_b32
  refine ⟨fun z => ?_, fun z => ⟨by unfold ri_; omega, by omega, by omega, fun v3 e3 _ => ⟨by unfold ri_; omega, by omega, by omega, fun v5 e5 _ => ⟨by omega, by omega, fun v6 e6 _ => ?_⟩⟩⟩⟩
  · have ek : k.toNat = lnN C v1 := by omega
    rw [ek] at hm hd gT
    refine hq M1 hm fun t j htj ht hj => ?_
    by_cases y : t = T
    · rw [y, gT] at hj
      exact hd t j (Or.inr ⟨y, hj⟩) ht (by rw [y, gT]; exact hj)
    · exact hd t j (Or.inl (by omega)) ht hj
  · obtain ⟨b1, b2, b3⟩ := hb k k0 (by omega)
    rw [hm.1 30 (by omega)] at e3
    rw [hm.1 31 (by omega), b2] at e5
    have e6' := hm.2.2.2.2.2.2.2.2.1 T (by omega)
    rw [e6', sT] at e6
    rw [e6]
    refine ⟨by unfold ri_; omega, by omega, by omega, fun M8 e8 => ⟨by omega, by omega, fun v9 e9 _ => ?_⟩⟩
    rw [e8, ux_c _ _ _ _ (by omega), e6', sT] at e9
    rw [e9]
    have kl : k.toNat < lnN C v1 := by omega
    have sgn := slk_sg hY hH ho k.toNat kl
    have tm8 : TC C M8 c (fm (slk C v1) k.toNat L) (xf (slk C v1) T L X k.toNat) rs := by
      have g : ∀ q, q ≠ c + 10 → M8 q = M1 q := fun q hq2 => funext fun i => by rw [e8, ux_c _ _ _ _ hq2]
      unfold TC at hm ⊢
      rw [g c (by omega), g (c + 1) (by omega), g (c + 2) (by omega), g (c + 3) (by omega), g (c + 4) (by omega), g (c + 5) (by omega), g (c + 6) (by omega), g (c + 7) (by omega), g (c + 8) (by omega), g (c + 11) (by omega), g (c + 12) (by omega)]
      exact ⟨fun q hq2 => by rw [g q (by omega)]; exact hm.1 q hq2, hm.2⟩
    -- the slot's value is put down
    have put : ∀ M9 s, TC C M9 c (fm (slk C v1) (k.toNat + 1) L) (xf (slk C v1) T L X (k.toNat + 1)) rs → (∀ q, q = c + 9 ∨ q = c + 10 → M9 q = M8 q) → s = pv C (fm (slk C v1) (k.toNat + 1) L) v1 k.toNat → w_X5_takeSlots_b121 c Q f T (C 29 v1) (ln C v1) k s (sL C L T + k) M9 := by
      intro M9 s h9 g9 hs
      unfold w_X5_takeSlots_b121
      refine ⟨by omega, by omega, fun M10 e10 => ⟨by unfold ri_; omega, ih _ _ _ _ _ ⟨rfl, rfl, rfl, by omega, by omega, ?_, ?_⟩ (by omega)⟩⟩
      · rw [show (k + 1).toNat = k.toNat + 1 from by omega]
        have g : ∀ q, q ≠ c + 9 → M10 q = M9 q := fun q hq2 => funext fun i => by rw [e10, ux_c _ _ _ _ hq2]
        unfold TC at h9 ⊢
        rw [g c (by omega), g (c + 1) (by omega), g (c + 2) (by omega), g (c + 3) (by omega), g (c + 4) (by omega), g (c + 5) (by omega), g (c + 6) (by omega), g (c + 7) (by omega), g (c + 8) (by omega), g (c + 11) (by omega), g (c + 12) (by omega)]
        exact ⟨fun q hq2 => by rw [g q (by omega)]; exact h9.1 q hq2, h9.2⟩
      · rw [show (k + 1).toNat = k.toNat + 1 from by omega]
        have sd1 : SD C M1 c (fm (slk C v1) (k.toNat + 1) L) T k.toNat := by
          rw [fm_s]
          exact SD_mt hd Tl rfl rfl (fun x hx j hj => slk_sg hY hH (hm.2.2.2.1 x hx) j hj)
        have gT' : (fm (slk C v1) (k.toNat + 1) L).getD T 0 = v1 := by rw [fm_gD hT, ← eo]
        intro t j htj ht hj
        have x9 : ∀ i, M10 (c + 9) i = if i = sL C L T + k then s else M1 (c + 9) i := fun i => by
          rw [e10]
          by_cases y : i = sL C L T + k
          · rw [if_pos y, y, ux_s]
          · rw [if_neg y, ux_i _ _ _ y, g9 (c + 9) (Or.inl rfl), e8, ux_c _ _ _ _ (by omega)]
        have x10 : ∀ i, M10 (c + 10) i = if i = sL C L T + k then v5 else M1 (c + 10) i := fun i => by
          rw [e10, ux_c _ _ _ _ (by omega), g9 (c + 10) (Or.inr rfl), e8]
          by_cases y : i = sL C L T + k
          · rw [if_pos y, y, ux_s]
          · rw [if_neg y, ux_i _ _ _ y]
        by_cases y : t = T ∧ j = k.toNat
        · obtain ⟨y1, y2⟩ := y
          rw [y1, y2, gT', sL_fm _ _ (by omega), kk, x9, x10, if_pos rfl, if_pos rfl, e5]
          refine ⟨hs, rfl, fun q => ?_⟩
          exact mt_has q
        · have lo : t < T ∨ (t = T ∧ j < k.toNat) := by omega
          have hlt : sL C (fm (slk C v1) (k.toNat + 1) L) t + j < sL C L T + k := by
            rcases lo with q | ⟨q1, q2⟩
            · rw [sL_fm _ _ (by omega)]
              have m := (sL_mono hY hH h.2.2.2.1 (t + 1) T (by omega) (by omega)).1
              have e : sL C L (t + 1) = sL C L t + ln C (L.getD t 0) := rfl
              rw [fm_gD (by omega)] at hj
              unfold lnN at hj
              omega
            · rw [q1, sL_fm _ _ (by omega)]; omega
          rw [x9, x10, if_neg (by omega), if_neg (by omega)]
          exact sd1 t j lo ht hj
    have same : slk C v1 k.toNat = -1 → fm (slk C v1) (k.toNat + 1) L = fm (slk C v1) k.toNat L ∧ xf (slk C v1) T L X (k.toNat + 1) = xf (slk C v1) T L X k.toNat := fun q => by
      refine ⟨by rw [fm_s, q, mt_neg (by omega)], ?_⟩
      show mx (fm (slk C v1) k.toNat L) (xf (slk C v1) T L X k.toNat) (slk C v1 k.toNat) T k.toNat = _
      rw [q, mx_neg (by omega)]
    by_cases zk : kA C (C 27 v1) k = 5
    · rw [if_pos zk] at e5
      have esl : slk C v1 k.toNat = v3 := by unfold slk; rw [kk, if_pos zk, e3]
      refine ⟨by unfold ri_; omega, fun q => by omega, fun _ => ⟨fun z3 => ?_, fun z3 => ?_⟩⟩
      · obtain ⟨s1, s2⟩ := same (by rw [esl]; exact z3)
        unfold w_X5_takeSlots_b119
        refine put M8 v3 (by rw [s1, s2]; exact tm8) (fun _ _ => rfl) ?_
        unfold pv
        rw [kk, ← e3, if_neg (fun q => q.2 z3)]
      · have hv3 : hOk C v3 := by
          rcases slk_lt hY hH ho kl with q | q
          · rw [esl] at q; exact absurd q z3
          · rw [esl] at q; exact q
        have q0 := hv3.1
        have q1 := hv3.2.1
        refine ⟨by unfold ri_; omega, p_pmeet hc hY hH tm8 hv3 (Or.inr ⟨by omega, by omega⟩) (fun M9 h9 g9 _ => put M9 _ ?_ g9 ?_)⟩
        · have e1 : fm (slk C v1) (k.toNat + 1) L = mt (fm (slk C v1) k.toNat L) v3 := by rw [fm_s, esl]
          have e2 : xf (slk C v1) T L X (k.toNat + 1) = mx (fm (slk C v1) k.toNat L) (xf (slk C v1) T L X k.toNat) v3 T k := by
            show mx (fm (slk C v1) k.toNat L) (xf (slk C v1) T L X k.toNat) (slk C v1 k.toNat) T k.toNat = _
            rw [esl, kk]
          rw [e1, e2]; exact h9
        · unfold pv
          rw [kk, ← e3, if_pos ⟨zk, z3⟩, fm_s, esl]
    · rw [if_neg zk] at e5
      refine ⟨by unfold ri_; omega, fun _ => ?_, fun q => absurd e5 q⟩
      obtain ⟨s1, s2⟩ := same (by unfold slk; rw [kk, if_neg zk])
      unfold w_X5_takeSlots_b119
      refine put M8 v3 (by rw [s1, s2]; exact tm8) (fun _ _ => rfl) ?_
      unfold pv
      rw [kk, ← e3, if_neg (fun q => zk q.1)]
