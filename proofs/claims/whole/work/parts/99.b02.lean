/-! a picture is taken: the class -/
/-- where a picture's cells lie -/
def pB (c : Nat) : Prop := 46 ≤ c ∧ c ≤ 178
/-- in the midst of a walk that makes a picture -/
def TC (C M : MM) (c : Nat) (L : List Int) (X rs : List (Int × Int)) : Prop := (∀ q, ¬ (c ≤ q ∧ q ≤ c + 12) → M q = C q) ∧ (∀ i, i ≠ 0 → i ≠ 11 → M c i = C c i) ∧ wl (C 26 1) L ∧ (∀ o ∈ L, hOk C o) ∧ sN C L ∧ X.length = L.length ∧ M c 0 = L.length ∧ (∀ t : Nat, t < L.length → M (c + 1) t = L.getD t 0 ∧ M (c + 2) t = C 27 (L.getD t 0) ∧ M (c + 3) t = C 28 (L.getD t 0)) ∧ (∀ t : Nat, t ≤ L.length → M (c + 4) t = sL C L t) ∧ (∀ o, 0 ≤ o → o < 400 → M (c + 8) o = ix L o) ∧ (∀ t : Nat, t < L.length → M (c + 6) t = (X.getD t (0, 0)).1 ∧ M (c + 7) t = (X.getD t (0, 0)).2 ∧ 0 ≤ M (c + 5) t ∧ M (c + 5) t ≤ t ∧ ((M (c + 6) t = -1 ∧ M (c + 5) t = 0) ∨ (0 ≤ M (c + 6) t ∧ M (c + 6) t < t ∧ M (c + 5) t = M (c + 5) (M (c + 6) t) + 1))) ∧ M c 11 = rs.length ∧ (rs.length : Int) ≤ 108 ∧ (∀ r : Nat, r < rs.length → M (c + 11) r = (rs.getD r (0, 0)).1 ∧ M (c + 12) r = ix L (rs.getD r (0, 0)).2 ∧ (rs.getD r (0, 0)).2 ∈ L)
/-- the slots that were taken -/
def SD (C M : MM) (c : Nat) (L : List Int) (T K : Nat) : Prop := ∀ t k : Nat, (t < T ∨ (t = T ∧ k < K)) → t < L.length → k < lnN C (L.getD t 0) → M (c + 9) (sL C L t + k) = pv C L (L.getD t 0) k ∧ M (c + 10) (sL C L t + k) = lf (kA C (C 27 (L.getD t 0)) k) ∧ (0 ≤ slk C (L.getD t 0) k → slk C (L.getD t 0) k ∈ L)
set_option maxHeartbeats 1000000 in
theorem p_pmeet {Q : Int → MM → Prop} {C R R0 M : MM} {c : Nat} {L : List Int} {X rs : List (Int × Int)} {v f s : Int} (hc : pB c) (hY : Rty C R0) (hH : Rhp C R) (h : TC C M c L X rs) (hv : hOk C v) (hf : f = -1 ∨ (0 ≤ f ∧ f < L.length)) (hq : ∀ M', TC C M' c (mt L v) (mx L X v f s) rs → (∀ q, q = c + 9 ∨ q = c + 10 → M' q = M q) → Q (ix (mt L v) v) M') : w_X5_meet c Q v f s M := by
  unfold pB at hc
  have n0 := hH.2.1
  have n4 := hH.2.2.1
  have h' := h
  obtain ⟨h1, h2, h3, h4, h5, h6, h7, h8, h9, h10, h11, h12, h13, h14⟩ := h
  have hlen := wl_len h3 n0
  have v0 := hv.1
  have v1 : v < 400 := by have := hv.2.1; omega
  have hat := hp_at hY hH hv
  unfold w_X5_meet
  refine ⟨v0, v1, fun u e _ => ?_⟩
  rw [h10 v v0 v1] at e
  refine ⟨fun z => ?_, fun z => ⟨v0, v1, fun u2 e2 _ => ?_⟩⟩
  · have hn : v ∉ L := ix_m.mp (by rw [← e]; exact z)
    have hlt := wl_lt h3 v0 hv.2.1 hn
    have em := mt_new v0 hn
    have ex : mx L X v f s = X ++ [(f, s)] := mx_new (fun q => by rcases q with q | q; omega; exact hn q)
    have hs' := sN_mt h5 hv.2.1
    have hL' : ∀ o ∈ mt L v, hOk C o := fun o ho => by
      rw [em, List.mem_append, List.mem_singleton] at ho
      rcases ho with q | q
      · exact h4 o q
      · rw [q]; exact hv
    have hsl := sN_le hY hH hs' hL'
    have eln : (mt L v).length = L.length + 1 := by rw [em, List.length_append]; rfl
    have esl : sL C (mt L v) (L.length + 1) = sL C L L.length + ln C v := by
      show sL C (mt L v) L.length + ln C ((mt L v).getD L.length 0) = _
      rw [sL_mt _ (Nat.le_refl _), em, gD_last]
    have hsm := (sL_mono hY hH h4 0 L.length (by omega) (Nat.le_refl _)).1
    have z0 : sL C L 0 = 0 := rfl
    rw [eln, esl] at hsl
    refine ⟨v0, v1, fun v3 e3 _ => ⟨v0, v1, fun v4 e4 _ => ?_⟩⟩
    rw [h1 27 (by omega)] at e3
    rw [h1 28 (by omega)] at e4
    subst e3 e4
    refine p_slotsOf hY hH hv (fun q hq => h1 q (by simp at hq; omega)) fun _ _ => ?_
    unfold w_X5_addThing
    intro a1 f1 _ a2 f2 _
    rw [h7] at f1 f2
    subst f1 f2
    refine ⟨by unfold ri_; omega, fun M4 f4 => ⟨v0, v1, fun M5 f5 => ⟨by omega, by omega, fun M6 f6 => ⟨by omega, by omega, fun M7 f7 => ⟨by omega, by omega, fun M8 f8 => ⟨by unfold ri_; omega, by omega, by omega, fun a10 f10 _ => ?_⟩⟩⟩⟩⟩⟩
    have r10 : a10 = sL C L L.length := by rw [f10, f8, f7, f6, f5, f4, ux_c _ _ _ _ (by omega), ux_c _ _ _ _ (by omega), ux_c _ _ _ _ (by omega), ux_c _ _ _ _ (by omega), ux_c _ _ _ _ (by omega), h9 _ (Nat.le_refl _)]
    rw [r10]
    refine ⟨by unfold ri_; omega, by omega, by omega, fun M12 f12 _ => ?_⟩
    -- what it is now
    have g : ∀ q, q ≠ c → q ≠ c + 1 → q ≠ c + 2 → q ≠ c + 3 → q ≠ c + 4 → q ≠ c + 8 → M12 q = M q := by
      intro q b0 b1 b2 b3 b4 b8
      funext i
      rw [f12, f8, f7, f6, f5, f4, ux_c _ _ _ _ b4, ux_c _ _ _ _ b3, ux_c _ _ _ _ b2, ux_c _ _ _ _ b1, ux_c _ _ _ _ b8, ux_c _ _ _ _ b0]
    have gc : ∀ i, M12 c i = if i = 0 then (L.length : Int) + 1 else M c i := by
      intro i
      rw [f12, f8, f7, f6, f5, f4, ux_c _ _ _ _ (by omega), ux_c _ _ _ _ (by omega), ux_c _ _ _ _ (by omega), ux_c _ _ _ _ (by omega), ux_c _ _ _ _ (by omega)]
      by_cases y : i = 0
      · rw [if_pos y, y, ux_s]
      · rw [if_neg y, ux_i _ _ _ y]
    have g1 : ∀ i, M12 (c + 1) i = if i = L.length then v else M (c + 1) i := by
      intro i
      rw [f12, f8, f7, f6, f5, f4, ux_c _ _ _ _ (by omega), ux_c _ _ _ _ (by omega), ux_c _ _ _ _ (by omega)]
      by_cases y : i = L.length
      · rw [if_pos y, y, ux_s]
      · rw [if_neg y, ux_i _ _ _ y, ux_c _ _ _ _ (by omega), ux_c _ _ _ _ (by omega)]
    have g2 : ∀ i, M12 (c + 2) i = if i = L.length then C 27 v else M (c + 2) i := by
      intro i
      rw [f12, f8, f7, f6, f5, f4, ux_c _ _ _ _ (by omega), ux_c _ _ _ _ (by omega)]
      by_cases y : i = L.length
      · rw [if_pos y, y, ux_s]
      · rw [if_neg y, ux_i _ _ _ y, ux_c _ _ _ _ (by omega), ux_c _ _ _ _ (by omega), ux_c _ _ _ _ (by omega)]
    have g3 : ∀ i, M12 (c + 3) i = if i = L.length then C 28 v else M (c + 3) i := by
      intro i
      rw [f12, f8, f7, f6, f5, f4, ux_c _ _ _ _ (by omega)]
      by_cases y : i = L.length
      · rw [if_pos y, y, ux_s]
      · rw [if_neg y, ux_i _ _ _ y, ux_c _ _ _ _ (by omega), ux_c _ _ _ _ (by omega), ux_c _ _ _ _ (by omega), ux_c _ _ _ _ (by omega)]
    have g4 : ∀ i, M12 (c + 4) i = if i = L.length + 1 then sL C L L.length + ln C v else M (c + 4) i := by
      intro i
      rw [f12, f8, f7, f6, f5, f4]
      by_cases y : i = L.length + 1
      · rw [if_pos y, y, ux_s]
      · rw [if_neg y, ux_i _ _ _ y, ux_c _ _ _ _ (by omega), ux_c _ _ _ _ (by omega), ux_c _ _ _ _ (by omega), ux_c _ _ _ _ (by omega), ux_c _ _ _ _ (by omega)]
    have g8 : ∀ i, M12 (c + 8) i = if i = v then (L.length : Int) else M (c + 8) i := by
      intro i
      rw [f12, f8, f7, f6, f5, f4, ux_c _ _ _ _ (by omega), ux_c _ _ _ _ (by omega), ux_c _ _ _ _ (by omega), ux_c _ _ _ _ (by omega)]
      by_cases y : i = v
      · rw [if_pos y, y, ux_s]
      · rw [if_neg y, ux_i _ _ _ y, ux_c _ _ _ _ (by omega)]
    have fin : ∀ (d : Int) (M' : MM), 0 ≤ d → d ≤ (L.length : Int) → ((f = -1 ∧ d = 0) ∨ (0 ≤ f ∧ f < L.length ∧ d = M (c + 5) f + 1)) → (∀ q, q ≠ c + 5 → q ≠ c + 6 → q ≠ c + 7 → M' q = M12 q) → (∀ i : Int, M' (c + 5) i = if i = L.length then d else M12 (c + 5) i) → (∀ i : Int, M' (c + 6) i = if i = L.length then f else M12 (c + 6) i) → (∀ i : Int, M' (c + 7) i = if i = L.length then s else M12 (c + 7) i) → Q (L.length : Int) M' := by
      intro d M' d0 d1 hd k0 k5 k6 k7
      have := hq M' ?_ ?_
      · rw [em, ix_app hn, if_pos rfl] at this; exact this
      · have x5 : ∀ t : Nat, t < L.length → M' (c + 5) t = M (c + 5) t ∧ M' (c + 6) t = M (c + 6) t ∧ M' (c + 7) t = M (c + 7) t := fun t ht => by
          rw [k5, k6, k7, if_neg (by omega), if_neg (by omega), if_neg (by omega), g (c + 5) (by omega) (by omega) (by omega) (by omega) (by omega) (by omega), g (c + 6) (by omega) (by omega) (by omega) (by omega) (by omega) (by omega), g (c + 7) (by omega) (by omega) (by omega) (by omega) (by omega) (by omega)]
          exact ⟨rfl, rfl, rfl⟩
        have gd : ∀ t : Nat, t < L.length → (mt L v).getD t 0 = L.getD t 0 := fun t ht => mt_gD ht
        refine ⟨fun q hq2 => ?_, fun i i0 i1 => ?_, mt_wl h3 hv.2.1, hL', hs', ?_, ?_, fun t ht => ?_, fun t ht => ?_, fun o o0 o1 => ?_, fun t ht => ?_, ?_, h13, fun r hr => ?_⟩
        · rw [k0 q (by omega) (by omega) (by omega), g q (by omega) (by omega) (by omega) (by omega) (by omega) (by omega), h1 q hq2]
        · rw [k0 c (by omega) (by omega) (by omega), gc, if_neg i0, h2 i i0 i1]
        · exact mx_len h6
        · rw [k0 c (by omega) (by omega) (by omega), gc, if_pos rfl, eln]; rfl
        · rw [k0 (c + 1) (by omega) (by omega) (by omega), k0 (c + 2) (by omega) (by omega) (by omega), k0 (c + 3) (by omega) (by omega) (by omega), g1, g2, g3]
          by_cases y : t = L.length
          · rw [if_pos (by omega), if_pos (by omega), if_pos (by omega), y, em, gD_last]; exact ⟨rfl, rfl, rfl⟩
          · rw [if_neg (by omega), if_neg (by omega), if_neg (by omega), gd t (by omega)]; exact h8 t (by omega)
        · rw [k0 (c + 4) (by omega) (by omega) (by omega), g4]
          by_cases y : t = L.length + 1
          · rw [if_pos (by omega), y, esl]
          · rw [if_neg (by omega), sL_mt t (by omega)]; exact h9 t (by omega)
        · rw [k0 (c + 8) (by omega) (by omega) (by omega), g8, em, ix_app hn]
          by_cases y : o = v
          · rw [if_pos y, if_pos y]
          · rw [if_neg y, if_neg y]; exact h10 o o0 o1
        · by_cases y : t = L.length
          · have e6 : M' (c + 6) t = f := by rw [k6, if_pos (by omega)]
            have e5 : M' (c + 5) t = d := by rw [k5, if_pos (by omega)]
            have e7 : M' (c + 7) t = s := by rw [k7, if_pos (by omega)]
            rw [e5, e6, e7, ex, y, ← h6, xg_last]
            refine ⟨rfl, rfl, d0, by omega, ?_⟩
            rcases hd with ⟨q1, q2⟩ | ⟨q1, q2, q3⟩
            · exact Or.inl ⟨q1, q2⟩
            · refine Or.inr ⟨q1, by omega, ?_⟩
              have := (x5 f.toNat (by omega)).1
              rw [show ((f.toNat : Nat) : Int) = f from by omega] at this
              rw [this]; exact q3
          · obtain ⟨w5, w6, w7⟩ := x5 t (by omega)
            obtain ⟨y1, y2, y3, y4, y5⟩ := h11 t (by omega)
            rw [w5, w6, w7, mx_gD (by omega)]
            refine ⟨y1, y2, y3, y4, ?_⟩
            rcases y5 with q | ⟨q1, q2, q3⟩
            · exact Or.inl q
            · refine Or.inr ⟨q1, q2, ?_⟩
              have := (x5 (M (c + 6) t).toNat (by omega)).1
              rw [show (((M (c + 6) t).toNat : Nat) : Int) = M (c + 6) t from by omega] at this
              rw [this]; exact q3
        · rw [k0 c (by omega) (by omega) (by omega), gc, if_neg (by omega)]; exact h12
        · rw [k0 (c + 11) (by omega) (by omega) (by omega), k0 (c + 12) (by omega) (by omega) (by omega), g (c + 11) (by omega) (by omega) (by omega) (by omega) (by omega) (by omega), g (c + 12) (by omega) (by omega) (by omega) (by omega) (by omega) (by omega)]
          obtain ⟨y1, y2, y3⟩ := h14 r hr
          exact ⟨y1, by rw [ix_mt y3]; exact y2, mt_sub y3⟩
      · intro q hq2
        rw [k0 q (by omega) (by omega) (by omega), g q (by omega) (by omega) (by omega) (by omega) (by omega) (by omega)]
    unfold w_X5_setWay
    refine ⟨by omega, by omega, fun N1 j1 => ⟨by omega, by omega, fun N2 j2 => ?_⟩⟩
    have n2 : ∀ q, q ≠ c + 6 → q ≠ c + 7 → N2 q = M12 q := fun q b6 b7 => funext fun i => by rw [j2, j1, ux_c _ _ _ _ b7, ux_c _ _ _ _ b6]
    have last : ∀ d : Int, 0 ≤ d → d ≤ (L.length : Int) → ((f = -1 ∧ d = 0) ∨ (0 ≤ f ∧ f < L.length ∧ d = M (c + 5) f + 1)) → w_X5_setWay_b36 c (fun _ M10 => Q (L.length : Int) M10) d L.length N2 := by
      intro d d0 d1 hd
      unfold w_X5_setWay_b36
      refine ⟨by omega, by omega, fun N3 j3 => fin d N3 d0 d1 hd (fun q b5 b6 b7 => ?_) (fun i => ?_) (fun i => ?_) (fun i => ?_)⟩
      · funext i
        rw [j3, ux_c _ _ _ _ b5, n2 q b6 b7]
      · rw [j3]
        by_cases y : i = L.length
        · rw [if_pos y, y, ux_s]
        · rw [if_neg y, ux_i _ _ _ y, n2 (c + 5) (by omega) (by omega)]
      · rw [j3, ux_c _ _ _ _ (by omega), j2, ux_c _ _ _ _ (by omega), j1]
        by_cases y : i = L.length
        · rw [if_pos y, y, ux_s]
        · rw [if_neg y, ux_i _ _ _ y]
      · rw [j3, ux_c _ _ _ _ (by omega), j2]
        by_cases y : i = L.length
        · rw [if_pos y, y, ux_s]
        · rw [if_neg y, ux_i _ _ _ y, j1, ux_c _ _ _ _ (by omega)]
    refine ⟨fun z2 => ?_, fun z2 => last 0 (by omega) (by omega) (Or.inl ⟨z2, rfl⟩)⟩
    have hf2 : 0 ≤ f ∧ f < L.length := by
      rcases hf with q | q
      · exact absurd q z2
      · exact q
    refine ⟨hf2.1, by omega, fun v4 e4 _ => ?_⟩
    rw [n2 (c + 5) (by omega) (by omega), g (c + 5) (by omega) (by omega) (by omega) (by omega) (by omega) (by omega)] at e4
    subst e4
    have := h11 f.toNat (by omega)
    rw [show ((f.toNat : Nat) : Int) = f from by omega] at this
    exact ⟨by unfold ri_; omega, last _ (by omega) (by omega) (Or.inr ⟨hf2.1, hf2.2, rfl⟩)⟩
  · have hin : v ∈ L := by
      by_cases q : v ∈ L
      · exact q
      · exact absurd (e.trans (ix_out q)) z
    rw [h10 v v0 v1] at e2
    have := hq M (by rw [mt_in hin, mx_eq (Or.inr hin)]; exact h') (fun _ _ => rfl)
    rw [mt_in hin] at this
    rw [e2]; exact this
