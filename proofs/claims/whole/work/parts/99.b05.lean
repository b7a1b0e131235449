/-! a picture is taken: the class, whole -/
theorem xRt_len (C : MM) (k : Nat) : (xRt C k).length = (fm (fun k => C 33 k) k []).length := by
  induction k with
  | zero => rfl
  | succ k ih => exact mx_len ih
theorem nS_s {C : MM} (f : Nat) : nS C (f + 1) = nS C f + (if C 21 f = 0 then 0 else if C 19 f = 5 then 1 else 0) := rfl
set_option maxHeartbeats 1000000 in
theorem p_takeFrom {Q : Int → MM → Prop} {C R R0 : MM} {c : Nat} (hc : pB c) (hY : Rty C R0) (hH : Rhp C R) (hF : PF C c) (hq : ∀ C0 M, EM C C0 c → TC C0 M c (wkL C) (wkX C) (rtX C) → SD C0 M c (wkL C) (wkL C).length 0 → Q 0 M) : w_X5_takeFrom c Q C := by
  have hc' := hc
  unfold pB at hc
  have n0 := hH.2.1
  have n4 := hH.2.2.1
  have h0 := hY.2.1
  have h16 := hY.2.2.1
  obtain ⟨g1, g2, g3, g4, g5⟩ := hH.2.2.2.2.2.2.2.2.2.2.2.1
  unfold w_X5_takeFrom
  refine p_forget hF fun C0 hE => ?_
  have e0 : ∀ q, q < 46 → C0 q = C q := fun q hq2 => hE.1 q (by omega) (by omega) (by omega) (by omega)
  have hY0 : Rty C0 R0 := Rty_C hY (fun k a b => e0 k (by omega))
  have hH0 : Rhp C0 R := Rhp_C hH (fun k hk => e0 k (by simp at hk; omega)) (by rw [e0 8 (by omega)]) (fun i _ => by rw [e0 26 (by omega)]) (fun _ _ => rfl) (fun _ _ => rfl) (by
    have q := hH.2.2.2.2.2.2.2.2.2.2.2.1
    unfold Rrt at q ⊢
    rw [e0 26 (by omega), e0 33 (by omega), hOk_eq (by rw [e0 26 (by omega)]) (e0 27 (by omega))]; exact q)
  -- the pure lists are the same
  have esk : slk C0 = slk C := by funext o k; unfold slk; rw [kA_fe (e0 24 (by omega)), e0 27 (by omega), e0 29 (by omega), e0 30 (by omega)]
  have eln : lnN C0 = lnN C := by funext o; unfold lnN; rw [ln_eq (e0 16 (by omega)) (e0 27 (by omega)) (e0 28 (by omega))]
  have est : stv C0 = stv C := by funext f; unfold stv; rw [e0 21 (by omega), e0 19 (by omega), e0 32 (by omega)]
  have enS : nS C0 = nS C := by
    funext f
    induction f with
    | zero => rfl
    | succ f ih => rw [nS_s, nS_s, ih, e0 21 (by omega), e0 19 (by omega)]
  have e33 : C0 33 = C 33 := e0 33 (by omega)
  have e26 : C0 26 = C 26 := e0 26 (by omega)
  have nb := fun f => nS_bd C f
  have second : ∀ M, TC C0 M c (rtL C) (xS C (6 * C 8 0).toNat) (rtX C) → w_X5_takeFrom_b85 c Q 0 M := by
    intro M hm0
    obtain ⟨rw1, rw2⟩ := rtL_wl hY hH
    refine loop2 _ (fun (k : Int) M1 => 0 ≤ k ∧ k ≤ 401 ∧ ∃ (L : List Int) (X : List (Int × Int)) (m : Nat), TC C0 M1 c L X (rtX C) ∧ SD C0 M1 c L k.toNat 0 ∧ (m : Int) + k = 401 ∧ bf (slk C) (lnN C) m k.toNat L = wkL C ∧ xb C m k.toNat L X = wkX C) (fun (k : Int) _ => (401 - k).toNat) ?_ _ _ ⟨by omega, by omega, rtL C, _, 401, hm0, fun t j htj => by omega, by omega, rfl, rfl⟩
    rintro k M1 f ⟨k0, k1, L, X, m, hm, hd, hmk, hbf, hxb⟩ ih
    have hll := wl_len hm.2.2.1 (by rw [e26]; exact n0)
    rw [e26] at hll
    unfold wb_X5_takeFrom_b85
    intro v1 e1 _
    rw [hm.2.2.2.2.2.2.1] at e1
    subst e1
    refine ⟨fun z => ?_, fun z => ⟨fun z4 => by exfalso; omega, fun z4 => ?_⟩⟩
    · have e1 : bf (slk C) (lnN C) m k.toNat L = L := by
        cases m with
        | zero => rfl
        | succ m =>
          show (if k.toNat < L.length then _ else L) = L
          rw [if_neg (by omega)]
      have e2 : xb C m k.toNat L X = X := by
        cases m with
        | zero => rfl
        | succ m =>
          show (if k.toNat < L.length then _ else X) = X
          rw [if_neg (by omega)]
      rw [e1] at hbf
      rw [e2] at hxb
      rw [hbf, hxb] at hm
      rw [hbf] at hd z
      refine hq C0 M1 hE hm fun t j htj ht hj => hd t j ?_ ht hj
      omega
    · have kk : ((k.toNat : Nat) : Int) = k := by omega
      have kl : k.toNat < L.length := by omega
      rw [← kk]
      refine p_takeSlots hc' hY0 hH0 hm kl hd fun M2 hm2 hd2 => ⟨by unfold ri_; omega, ih _ _ ⟨by omega, by omega, _, _, m - 1, hm2, ?_, by omega, ?_, ?_⟩ (by omega)⟩
      · rw [show ((k.toNat : Int) + 1).toNat = k.toNat + 1 from by omega]; exact hd2
      · rw [← hbf, esk, eln]
        have em : m = (m - 1) + 1 := by omega
        conv => rhs; rw [em]
        show _ = (if k.toNat < L.length then _ else L)
        rw [if_pos kl, show ((k.toNat : Int) + 1).toNat = k.toNat + 1 from by omega]
      · rw [← hxb, esk, eln]
        have em : m = (m - 1) + 1 := by omega
        conv => rhs; rw [em]
        show _ = (if k.toNat < L.length then _ else X)
        rw [if_pos kl, show ((k.toNat : Int) + 1).toNat = k.toNat + 1 from by omega]
  have first : ∀ M, TC C0 M c (fm (fun k => C 33 k) (C 26 11).toNat []) (xS C 0) (rS C 0) → w_X5_takeFrom_b40 c Q (C 26 11) 0 M := by
    intro M hm0
    refine loop3 _ (fun (n a : Int) M1 => 0 ≤ a ∧ a ≤ 6 * C 8 0 ∧ n = C 26 11 + nS C a.toNat ∧ TC C0 M1 c (fm (stv C) a.toNat (fm (fun k => C 33 k) (C 26 11).toNat [])) (xS C a.toNat) (rS C a.toNat)) (fun _ (a : Int) _ => (6 * C 8 0 - a).toNat) ?_ _ _ _ ⟨by omega, by omega, by show _ = C 26 11 + 0; omega, hm0⟩
    rintro n a M1 f ⟨a0, a1, hn, hm⟩ ih
    have ka : ((a.toNat : Nat) : Int) = a := by omega
    have sn : (a + 1).toNat = a.toNat + 1 := by omega
    have nba := nb a.toNat
    have hrl := (rS_len C a.toNat).1
    unfold wb_X5_takeFrom_b40 w_X10_ownFields
    intro v1 e1 _
    rw [hm.1 8 (by omega), e0 8 (by omega)] at e1
    subst e1
    refine ⟨by unfold ri_; omega, fun _ => ⟨fun z => ?_, fun z => ?_⟩⟩
    · have e : a.toNat = (6 * C 8 0).toNat := by omega
      rw [e] at hm
      exact second M1 hm
    · have nxt : ∀ n' M2, n' = C 26 11 + nS C (a.toNat + 1) → TC C0 M2 c (mt (fm (stv C) a.toNat (fm (fun k => C 33 k) (C 26 11).toNat [])) (stv C a.toNat)) (mx (fm (stv C) a.toNat (fm (fun k => C 33 k) (C 26 11).toNat [])) (xS C a.toNat) (stv C a.toNat) (-1) (C 26 11 + nS C a.toNat)) (if stv C a.toNat = -1 then rS C a.toNat else rS C a.toNat ++ [(C 26 11 + nS C a.toNat, stv C a.toNat)]) → w_X5_takeFrom_b77 c Q f n' a M2 := fun n' M2 hn' hm2 => by
        unfold w_X5_takeFrom_b77
        exact ⟨by unfold ri_; omega, ih _ _ _ ⟨by omega, by omega, by rw [sn]; exact hn', by rw [sn]; exact hm2⟩ (by omega)⟩
      have none : stv C a.toNat = -1 → nS C (a.toNat + 1) = nS C a.toNat → w_X5_takeFrom_b77 c Q f n a M1 := fun es en => nxt n M1 (by rw [en]; exact hn) (by rw [es, mt_neg (by omega), mx_neg (by omega), if_pos rfl]; exact hm)
      unfold w_X10_isLinkStatic
      refine ⟨a0, by omega, fun v4 e4 _ => ?_⟩
      rw [hm.1 21 (by omega), e0 21 (by omega)] at e4
      refine ⟨fun z4 _ => ⟨fun _ => none ?_ ?_, fun q => absurd rfl q⟩, fun z4 => ⟨a0, by omega, fun v6 e6 _ => ?_⟩⟩
      · unfold stv; rw [ka, if_pos (by rw [← e4]; exact z4)]
      · rw [nS_s, ka, if_pos (by rw [← e4]; exact z4)]; omega
      · rw [hm.1 19 (by omega), e0 19 (by omega)] at e6
        refine ⟨fun z6 _ => ⟨fun _ => none ?_ ?_, fun q => absurd rfl q⟩, fun z6 _ => ⟨fun q => by omega, fun _ => ⟨a0, by omega, fun v7 e7 _ => ?_⟩⟩⟩
        · unfold stv; rw [ka, if_neg (by rw [← e4]; exact z4), if_neg (by rw [← e6]; exact z6)]
        · rw [nS_s, ka, if_neg (by rw [← e4]; exact z4), if_neg (by rw [← e6]; exact z6)]; omega
        · rw [hm.1 32 (by omega), e0 32 (by omega)] at e7
          have es : stv C a.toNat = v7 := by
            unfold stv; rw [ka, if_neg (by rw [← e4]; exact z4), if_pos (by rw [← e6]; exact z6), e7]
          have en : nS C (a.toNat + 1) = nS C a.toNat + 1 := by rw [nS_s, ka, if_neg (by rw [← e4]; exact z4), if_pos (by rw [← e6]; exact z6)]
          have hb := stv_lt hY hH (f := a.toNat) (by omega)
          rw [← es, hn]
          refine p_pmeetRoot hc' hY0 hH0 hm (by omega) ?_ (fun M2 hm2 => ⟨by unfold ri_; omega, nxt _ M2 (by rw [en]; omega) hm2⟩)
          rw [hOk_eq (by rw [e26]) (e0 27 (by omega))]
          exact hb
  refine loop2 _ (fun (a : Int) M1 => 0 ≤ a ∧ a ≤ C 26 11 ∧ TC C0 M1 c (fm (fun k => C 33 k) a.toNat []) (xRt C a.toNat) (rT C a.toNat)) (fun (a : Int) _ => (C 26 11 - a).toNat) ?_ _ _ ⟨by omega, g2, ?_⟩
  · rintro a M1 f ⟨a0, a1, hm⟩ ih
    have ka : ((a.toNat : Nat) : Int) = a := by omega
    unfold wb_X5_takeFrom_b6
    intro v1 e1 _
    rw [hm.1 26 (by omega), e26] at e1
    subst e1
    refine ⟨fun z v3 e3 _ => ?_, fun z => ⟨a0, by omega, fun v4 e4 _ => ?_⟩⟩
    · rw [hm.1 26 (by omega), e26] at e3
      rw [e3]
      have e : a.toNat = (C 26 11).toNat := by omega
      rw [e] at hm
      exact first M1 hm
    · rw [hm.1 33 (by omega), e33] at e4
      subst e4
      have ho := (g4 a a0 (by omega)).2
      have hne : C 33 a ≠ -1 := by have := ho.1; omega
      refine p_pmeetRoot hc' hY0 hH0 hm (by rw [rT_len]; omega) (Or.inr (by rw [hOk_eq (by rw [e26]) (e0 27 (by omega))]; exact ho)) (fun M2 hm2 => ⟨by unfold ri_; omega, ih _ _ ⟨by omega, by omega, ?_⟩ (by omega)⟩)
      rw [if_neg hne] at hm2
      rw [show (a + 1).toNat = a.toNat + 1 from by omega]
      show TC C0 M2 c (mt (fm (fun k => C 33 k) a.toNat []) (C 33 (a.toNat : Nat))) (mx (fm (fun k => C 33 k) a.toNat []) (xRt C a.toNat) (C 33 (a.toNat : Nat)) (-1) (a.toNat : Nat)) (rT C a.toNat ++ [(((a.toNat : Nat) : Int), C 33 (a.toNat : Nat))])
      rw [ka]; exact hm2
  · show TC C0 C0 c [] [] []
    refine ⟨fun _ _ => rfl, fun _ _ _ => rfl, ⟨List.nodup_nil, fun o ho => by simp at ho⟩, fun o ho => by simp at ho, sN_nil _, rfl, hE.2.2.1, fun t ht => by simp at ht, fun t ht => ?_, fun o o0 o1 => ?_, fun t ht => by simp at ht, hE.2.2.2.1, by simp, fun r hr => by simp at hr⟩
    · have : t = 0 := by simp at ht; exact ht
      subst this
      show C0 (c + 4) 0 = 0
      rw [hE.1 (c + 4) (by omega) (by omega) (by omega) (by omega)]; exact hF.2.2.1
    · rw [hE.2.2.2.2.2.1 o o0 o1, ix_out (by simp)]
