/-! bytes read as a picture: the reference's whole reading -/
noncomputable def usd (E A : MM) (B : Int → Int) (n : Int) (T : Nat) (i : Int) : Int := @ite _ (∃ u, u < T ∧ tY E B n u = i) (Classical.propDecidable _) 1 (A 16 i)
theorem usd_0 {E A : MM} {B : Int → Int} {n i : Int} {T : Nat} (h : ¬ ∃ u, u < T ∧ tY E B n u = i) : usd E A B n T i = A 16 i := if_neg h
theorem usd_1 {E A : MM} {B : Int → Int} {n i : Int} {T : Nat} (h : ∃ u, u < T ∧ tY E B n u = i) : usd E A B n T i = 1 := if_pos h
/-- what was read, in the reference's rows, when all is well -/
def ROK (E M : MM) (n : Int) (B : Int → Int) (cn : Int) : Prop := M 38 4 = cn ∧ KTr E M n B cn.toNat ∧ (∀ u, u < cn.toNat → KSr E M n B u (tN E B n u).toNat) ∧ KRr E M n cn B (rC E B n cn).toNat
theorem p_used {Q : Int → MM → Prop} {E A M : MM} {n cn : Int} {B : Int → Int} (hY : Rty E A) (hF : FTr A M) (hA : AT E B n cn) (hK : KTr E M n B cn.toNat) (e38 : M 38 4 = cn) (h83 : M 0 83 = 0) (hq : ∀ M', (∀ k, k ≠ 16 → M' k = M k) → (∀ i, 0 ≤ i → i < 16 → M' 16 i = usd E A B n cn.toNat i) → Q 0 M') : w_X12_takePicture_b292 Q M := by
  obtain ⟨c0, c4, hA'⟩ := id hA
  have h16 := hY.2.2.1
  have y20 := hY.1
  have m20 : M 0 20 = E 8 0 := by rw [hF.2.2.2.2.2 20 (by decide), ← y20]
  have m8 : M 8 = A 8 := hF.1 8 (by decide)
  have m16 : M 16 = A 16 := hF.1 16 (by decide)
  unfold w_X12_takePicture_b292 w_X12_takePicture_b295
  refine loop2 _ (fun (t : Int) M1 => ∃ T : Nat, t = T ∧ (T : Int) ≤ cn ∧ (∀ k, k ≠ 16 → M1 k = M k) ∧ ∀ i, 0 ≤ i → i < 16 → M1 16 i = usd E A B n T i) (fun (t : Int) _ => (cn - t).toNat) ?_ _ _ ⟨0, rfl, by omega, fun _ _ => rfl, fun i _ _ => by rw [usd_0 (fun ⟨u, hu, _⟩ => by omega), m16]⟩
  rintro t M1 f ⟨T, rfl, hT, o1, u1⟩ ih
  unfold wb_X12_takePicture_b295
  intro v1 e1 _
  rw [o1 38 (by decide), e38] at e1
  refine ⟨fun z => hq M1 o1 (by rw [show cn.toNat = T from by omega]; exact u1), fun z v3 e3 _ => ⟨fun w => absurd (by rw [e3, o1 0 (by decide)]; exact h83) w, fun _ => p_at4 (by omega) (by omega) fun _ => ⟨by omega, by omega, fun v7 e7 _ => ?_⟩⟩⟩
  rw [o1 40 (by decide), (hK T (by omega)).2.1] at e7
  have g := (hA' T (by omega)).1
  have gt := g.2.2.2.1
  subst e7
  unfold w_X12_takePicture_b327
  refine loop3 _ (fun (a c : Int) M2 => (T : Int) = a ∧ (∀ k, k ≠ 16 → M2 k = M k) ∧ ((c = tY E B n T ∧ M1 = M2) ∨ ((∀ i, 0 ≤ i → i < 16 → M2 16 i = usd E A B n (T + 1) i) ∧ (c = -1 ∨ (0 ≤ c ∧ c < E 8 0 ∧ A 16 c = 1))))) (fun (_ c : Int) _ => (c + 1).toNat) ?_ _ _ _ ⟨rfl, o1, Or.inl ⟨rfl, rfl⟩⟩
  rintro _ c M2 f2 ⟨rfl, o2, hc⟩ ih2
  unfold wb_X12_takePicture_b327
  have e20 : M2 0 20 = E 8 0 := by rw [o2 0 (by decide)]; exact m20
  refine p_R_isClass (fun a b _ => ⟨fun w => absurd w (by decide), fun _ => ?_⟩) (fun a _ => ⟨fun _ => ⟨by unfold ri_; omega, ih _ _ ⟨T + 1, by omega, by omega, o2, ?_⟩ (by omega)⟩, fun w => absurd rfl w⟩)
  · rw [e20] at b
    have cl := (hY.2.2.2.1 c a b).1
    unfold Rcls at cl
    obtain ⟨-, -, l3, l4, l5, l6, -, -, -, -, -, -, l13⟩ := cl
    refine ⟨a, by omega, fun M5 e5 => ⟨a, by omega, fun v6 e6 _ => ih2 _ _ _ ⟨rfl, fun k hk => by rw [e5]; funext i; rw [ux_c _ _ _ _ hk, o2 k hk], Or.inr ⟨fun i i0 i1 => ?_, ?_⟩⟩ ?_⟩⟩
    · rw [e5]
      rcases hc with ⟨q, rfl⟩ | ⟨q, q'⟩
      · by_cases w : i = c
        · rw [w, ux_s, usd_1 ⟨T, by omega, q.symm⟩]
        · rw [ux_i _ _ _ w, u1 i i0 i1]
          by_cases w2 : ∃ u, u < T ∧ tY E B n u = i
          · obtain ⟨u, hu, q2⟩ := w2
            rw [usd_1 ⟨u, hu, q2⟩, usd_1 ⟨u, by omega, q2⟩]
          · have nn : ¬ ∃ u, u < T + 1 ∧ tY E B n u = i := fun ⟨u, hu, q2⟩ => by
              by_cases w3 : u = T
              · rw [w3] at q2; omega
              · exact w2 ⟨u, by omega, q2⟩
            rw [usd_0 w2, usd_0 nn]
      · by_cases w : i = c
        · rw [w, ux_s]
          by_cases w2 : ∃ u, u < T + 1 ∧ tY E B n u = c
          · rw [usd_1 w2]
          · rw [usd_0 w2]
            rcases q' with q' | q'
            · omega
            · exact q'.2.2.symm
        · rw [ux_i _ _ _ w]; exact q i i0 i1
    · have e6' : v6 = E 11 c := by rw [e6, e5, ux_c _ _ _ _ (by decide), o2 8 (by decide), m8, l3]
      by_cases w : v6 = -1
      · exact Or.inl w
      · refine Or.inr ⟨by omega, by omega, ?_⟩
        rcases l13 with w2 | w2
        · omega
        · rw [e6']
          have := (hY.2.2.2.1 (E 11 c) (by omega) (by omega)).1
          unfold Rcls at this
          rw [← this.2.2.2.2.2.1]; exact w2
    · have e6' : v6 = E 11 c := by rw [e6, e5, ux_c _ _ _ _ (by decide), o2 8 (by decide), m8, l3]
      omega
  · rw [e20] at a
    rcases hc with ⟨q, rfl⟩ | ⟨q, q'⟩
    · intro i i0 i1
      rw [u1 i i0 i1]
      unfold vT at gt
      by_cases w2 : ∃ u, u < T ∧ tY E B n u = i
      · obtain ⟨u, hu, q2⟩ := w2
        rw [usd_1 ⟨u, hu, q2⟩, usd_1 ⟨u, by omega, q2⟩]
      · have nn : ¬ ∃ u, u < T + 1 ∧ tY E B n u = i := fun ⟨u, hu, q2⟩ => by
          by_cases w3 : u = T
          · rw [w3] at q2; omega
          · exact w2 ⟨u, by omega, q2⟩
        rw [usd_0 w2, usd_0 nn]
    · exact q
theorem p_takeByte {Q : Int → MM → Prop} {M : MM} {n s m : Int} {B : Int → Int} (hS : Sr M n B) (s0 : 0 ≤ s) (s1 : s ≤ n) (hR : RdR M s okF) (q0 : s < n → B s = m → ∀ M', O83 M M' → RdR M' (s + 1) okF → Q 0 M') (q1 : ∀ M', O83 M M' → ((s = n ∧ M' 0 83 = 1 ∧ M' 0 84 = n) ∨ (s < n ∧ B s ≠ m ∧ M' 0 83 = 2 ∧ M' 0 84 = s)) → Q 0 M') : w_X12_takeByte Q m M := by
  obtain ⟨h1, n0, n9, hB⟩ := id hS
  have h142 := hR.2.2 rfl
  have h83 : M 0 83 = 0 := hR.1
  unfold w_X12_takeByte
  intro v1 e1 _
  refine ⟨fun _ v3 e3 _ v4 e4 _ => ?_, fun w => by omega⟩
  rw [h142] at e3
  rw [h1] at e4
  have b57 : ∀ M1, O83 M M1 → M1 0 142 = s → (∀ M3, M3 = ux_ M1 0 142 (s + 1) → Q 0 M3) → w_X12_takeByte_b57 Q M1 := fun M1 o1 e142 hq => by
    unfold w_X12_takeByte_b57
    intro w1 f1 _
    rw [e142] at f1
    exact ⟨by unfold ri_; omega, fun M3 e3 => hq M3 (by rw [e3, f1])⟩
  refine ⟨fun z v6 e6 _ => ?_, fun z v12 e12 _ => ?_⟩
  · rw [h142] at e6
    refine ⟨by omega, by omega, fun v7 e7 _ => ?_⟩
    have ev : jand v7 255 = B s := by rw [jand_255, e7, e6]; exact (hB s s0 (by omega)).1
    rw [ev]
    refine ⟨fun w => b57 M (O83_r M) h142 fun M3 e3 => q0 (by omega) w M3 (by rw [e3]; exact O83_u (by decide)) ⟨by rw [e3, ux_i _ _ _ (by decide)]; exact hR.1, by rw [e3, ux_i _ _ _ (by decide)]; exact hR.2.1, fun _ => by rw [e3, ux_s]⟩, fun w v9 e9 _ => ?_⟩
    rw [h142] at e9
    exact p_rfail h83 fun M5 o5 x83 x84 x142 _ => b57 M5 o5 (by rw [x142, h142]) fun M3 e3 => q1 M3 (O83_t o5 (by rw [e3]; exact O83_u (by decide))) (Or.inr ⟨by omega, w, by rw [e3, ux_i _ _ _ (by decide), x83], by rw [e3, ux_i _ _ _ (by decide), x84, e9]⟩)
  · rw [h142] at e12
    exact p_rfail h83 fun M5 o5 x83 x84 x142 _ => b57 M5 o5 (by rw [x142, h142]) fun M3 e3 => q1 M3 (O83_t o5 (by rw [e3]; exact O83_u (by decide))) (Or.inl ⟨by omega, by rw [e3, ux_i _ _ _ (by decide), x83], by rw [e3, ux_i _ _ _ (by decide), x84, e12]; omega⟩)
theorem Lb_len (B : Int → Int) (e : Nat) : (Lb B e).length = e := by
  induction e with
  | zero => rfl
  | succ e ih => show (Lb B e ++ [B e]).length = _; rw [List.length_append, ih]; rfl
theorem Lb_get (B : Int → Int) (e i : Nat) (h : i < (Lb B e).length) : (Lb B e)[i] = B i := by
  induction e with
  | zero => exact absurd h (by simp [Lb])
  | succ e ih =>
    have h2 : i < (Lb B e ++ [B e]).length := h
    have e1 : (Lb B (e + 1))[i]'h = (Lb B e ++ [B e])[i]'h2 := rfl
    rw [e1]
    have h3 : i < e + 1 := by rw [Lb_len] at h; exact h
    by_cases z : i < e
    · rw [List.getElem_append_left (by rw [Lb_len]; exact z)]; exact ih (by rw [Lb_len]; exact z)
    · have : i = e := by omega
      subst this
      rw [List.getElem_append_right (by rw [Lb_len]; exact Nat.le_refl _)]
      simp [Lb_len]
set_option maxHeartbeats 2000000 in
theorem p_takePicture {Q : Int → MM → Prop} {E A : MM} {n : Int} {B : Int → Int} (hY : Rty E A) (hL : Rlk E) (hS : Sr A n B) (q0 : (dcF E B n).1 = 0 → ∀ M N, FTr A M → AT E B n (nvl B n 0) → ROK E M n B (nvl B n 0) → M 0 83 = 0 → M 0 84 = -1 → (∀ k, k ≠ 16 → N k = M k) → (∀ i, 0 ≤ i → i < 16 → N 16 i = usd E A B n (nvl B n 0).toNat i) → Q 0 N) (q1 : (dcF E B n).1 ≠ 0 → ∀ M, FTr A M → 0 < M 0 83 → M 0 83 = (dcF E B n).1 → M 0 84 = (dcF E B n).2 → Q 0 M) : w_X12_takePicture Q A := by
  -- behind a fault
  have d292 : ∀ M, 0 < M 0 83 → Q 0 M → w_X12_takePicture_b292 Q M := fun M h hq => by
    unfold w_X12_takePicture_b292 w_X12_takePicture_b295
    refine loop2 _ (fun (t : Int) M1 => M = M1) (fun (_ : Int) _ => 0) ?_ _ _ rfl
    rintro t _ f rfl ih
    unfold wb_X12_takePicture_b295
    exact fun v1 e1 _ => ⟨fun _ => hq, fun _ v3 e3 _ => ⟨fun _ => hq, fun w => by omega⟩⟩
  have d281 : ∀ M, 0 < M 0 83 → Q 0 M → w_X12_takePicture_b281 Q M := fun M h hq => by
    unfold w_X12_takePicture_b281
    exact fun v1 e1 _ => ⟨fun _ => d292 M h hq, fun w => by omega⟩
  have d253 : ∀ M, 0 < M 0 83 → Q 0 M → w_X12_takePicture_b253 Q M := fun M h hq => by
    unfold w_X12_takePicture_b253
    exact fun v1 e1 _ => ⟨fun _ => d281 M h hq, fun w => by omega⟩
  have d183 : ∀ M x, 0 < M 0 83 → Q 0 M → w_X12_takePicture_b183 Q x M := fun M x h hq => by
    unfold w_X12_takePicture_b183
    exact fun v1 e1 _ => ⟨fun _ => d253 M h hq, fun w => by omega⟩
  have d149 : ∀ M, 0 < M 0 83 → Q 0 M → w_X12_takePicture_b149 Q M := fun M h hq => by
    unfold w_X12_takePicture_b149
    exact fun v1 e1 _ v2 e2 _ => ⟨fun _ => d183 M _ h hq, fun w => by omega⟩
  have d138 : ∀ M, 0 < M 0 83 → Q 0 M → w_X12_takePicture_b138 Q M := fun M h hq => by
    unfold w_X12_takePicture_b138
    exact fun v1 e1 _ => ⟨fun _ => d149 M h hq, fun w => by omega⟩
  have d127 : ∀ M, 0 < M 0 83 → Q 0 M → w_X12_takePicture_b127 Q M := fun M h hq => by
    unfold w_X12_takePicture_b127
    exact fun v1 e1 _ => ⟨fun _ => d138 M h hq, fun w => by omega⟩
  have d78 : ∀ M x, (dcF E B n).1 ≠ 0 → FTr A M → 0 < M 0 83 → M 0 83 = (dcF E B n).1 → M 0 84 = (dcF E B n).2 → w_X12_takePicture_b78 Q x M := fun M x b0 b1 b2 b3 b4 => by
    unfold w_X12_takePicture_b78 w_X12_takePicture_b96
    intro v1 e1 _
    refine ⟨fun _ => ⟨by omega, by omega, fun M2 e2 => ?_⟩, fun w => by omega⟩
    have i2 : ∀ i, M2 0 i = M 0 i := fun i => by rw [e2, ux_c _ _ _ _ (by decide)]
    have hq2 : Q 0 M2 := q1 b0 M2 (by rw [e2]; exact FTr_u b1 (by simp)) (by rw [i2]; exact b2) (by rw [i2]; exact b3) (by rw [i2]; exact b4)
    unfold w_X12_takePicture_b99
    refine loop2 _ (fun (t : Int) M3 => M2 = M3) (fun (_ : Int) _ => 0) ?_ _ _ rfl
    rintro t _ f rfl ih
    unfold wb_X12_takePicture_b99
    exact fun v1 e1 _ => ⟨fun _ => d127 M2 (by rw [i2]; exact b2) hq2, fun _ v3 e3 _ => ⟨fun _ => d127 M2 (by rw [i2]; exact b2) hq2, fun w => by rw [i2] at e3; omega⟩⟩
  have d47 : ∀ M x, (dcF E B n).1 ≠ 0 → FTr A M → 0 < M 0 83 → M 0 83 = (dcF E B n).1 → M 0 84 = (dcF E B n).2 → w_X12_takePicture_b47 Q x M := fun M x b0 b1 b2 b3 b4 => by
    unfold w_X12_takePicture_b47
    exact fun v1 e1 _ => ⟨fun _ => d78 M x b0 b1 b2 b3 b4, fun w => by omega⟩
  unfold w_X12_takePicture
  intro M1 e1 M2 e2 M3 e3 M4 e4
  have F4 : FTr A M4 := by rw [e4, e3, e2, e1]; exact FTr_u (FTr_u (FTr_u (FTr_u (FTr_r A) (by simp)) (by simp)) (by simp)) (by simp)
  have o4 : ∀ k, k ≠ 0 → M4 k = A k := fun k hk => by rw [e4, e3, e2, e1]; funext i; simp only [ux_c _ _ _ _ hk]
  have S4 : Sr M4 n B := by
    obtain ⟨x1, x2, x3, x4⟩ := hS
    exact ⟨by rw [F4.2.2.2.2.2 141 (by decide)]; exact x1, x2, x3, fun i x y => by rw [o4 98 (by decide)]; exact x4 i x y⟩
  have R4 : RdR M4 0 okF := ⟨by rw [e4, e3, e2, e1, ux_i _ _ _ (by decide), ux_i _ _ _ (by decide), ux_i _ _ _ (by decide), ux_s]; rfl, by rw [e4, e3, e2, ux_i _ _ _ (by decide), ux_i _ _ _ (by decide), ux_s]; rfl, fun _ => by rw [e4, e3, ux_i _ _ _ (by decide), ux_s]⟩
  have m146 : M4 0 146 = 0 := by rw [e4, ux_s]
  have n0 := hS.2.1
  -- a fault in the marks
  have mkD : (mkF B n).1 ≠ 0 → dcF E B n = mkF B n := fun w => by unfold dcF; rw [ff_1 w]
  refine p_takeByte S4 (by omega) n0 R4 (fun a0 a1 M6 o6 R6 => ?_) (fun M6 o6 hc => ?_)
  · have F6 := FTr_o F4 o6
    have S6 := Sr_o S4 o6
    refine p_takeByte S6 (by omega) (by omega) R6 (fun b0 b1 M8 o8 R8 => ?_) (fun M8 o8 hc => ?_)
    · have mk : (mkF B n).1 = 0 := by
        unfold mkF
        rw [cnd_0 (by omega), ff_0 (show okF.1 = 0 from rfl), cnd_0 (fun q => q a1), ff_0 (show okF.1 = 0 from rfl), cnd_0 (by omega), ff_0 (show okF.1 = 0 from rfl), cnd_0 (fun q => q b1)]; rfl
      have F8 := FTr_o F6 o8
      have S8 := Sr_o S6 o8
      intro v9 e9 _
      have m83 : M8 0 83 = 0 := R8.1
      rw [m83] at e9
      refine ⟨fun w => absurd e9 w, fun _ => ?_⟩
      have d1 : dcF E B n = ff (upf B n 2 400) (ff (thsF E B n (nvl B n 0) (nvl B n 0).toNat) (ff (lnkF E B n (nvl B n 0).toNat) (ff (upf B n (stp B n (rJ E B n (nvl B n 0))) 108) (ff (rtsF E B n (nvl B n 0) (rC E B n (nvl B n 0)).toNat) (ff (chkF B n (rE E B n (nvl B n 0))) (wlF E B n (nvl B n 0))))))) := by unfold dcF; rw [ff_0 mk]
      refine p_takeNumber S8 (by omega) (by omega) (show RdR M8 2 okF from R8) (fun z M12 o12 r12 x143 _ => ?_) (fun z M12 v o12 x83 x84 x143 _ => ?_)
      · have pz := rd_p z
        have F12 := FTr_o F8 o12
        have S12 := Sr_o S8 o12
        have en : (rd B n 2).2.2.1 = nvl B n 0 := rfl
        rw [en]
        have u2 := upf_2 (m := 400) z
        rw [en] at u2
        have k83 : M12 0 83 = 0 := r12.1
        have k146 : M12 0 146 = 0 := by rw [o12.2 146 (by decide), o8.2 146 (by decide), o6.2 146 (by decide)]; exact m146
        have st1 : stp B n 1 = (rd B n 2).2.2.2 := rfl
        generalize hcn : nvl B n 0 = cn at *
        have bad : (cn < 0 ∨ 400 < cn) → w_X12_takePicture_b69 Q cn M12 := fun w => by
          have e : dcF E B n = (4, 2) := by rw [d1, u2, cnd_1 w, ff_1 (show (4 : Int) ≠ 0 by decide)]
          unfold w_X12_takePicture_b69
          intro v1 e1' _
          rw [x143] at e1'
          exact p_rfail k83 fun M5 o5 x83 x84 _ _ => d78 M5 _ (by rw [e]; show (4 : Int) ≠ 0; decide) (FTr_o F12 o5) (by rw [x83]; decide) (by rw [x83, e]) (by rw [x84, e, e1'])
        have good : 0 ≤ cn → cn ≤ 400 → w_X12_takePicture_b78 Q cn M12 := fun c0 c4 => by
          have u0 : (upf B n 2 400).1 = 0 := by rw [u2, cnd_0 (by omega)]; rfl
          rw [ff_0 u0] at d1
          unfold w_X12_takePicture_b78 w_X12_takePicture_b96
          intro v1 e1' _
          refine ⟨fun w => by omega, fun _ => ⟨by unfold ri_; omega, by omega, by omega, fun M13 e13 => ?_⟩⟩
          have F13 : FTr A M13 := by rw [e13]; exact FTr_u F12 (by simp)
          have i13 : ∀ i, M13 0 i = M12 0 i := fun i => by rw [e13, ux_c _ _ _ _ (by decide)]
          have S13 : Sr M13 n B := by
            obtain ⟨x1, x2, x3, x4⟩ := S12
            exact ⟨by rw [i13]; exact x1, x2, x3, fun i x y => by rw [e13, ux_c _ _ _ _ (by decide)]; exact x4 i x y⟩
          -- behind all things
          have rest : ∀ M, (thsF E B n cn cn.toNat).1 = 0 → FTr A M → Sr M n B → KTr E M n B cn.toNat → (∀ u, u < cn.toNat → GT E B n u) → (∀ u, u < cn.toNat → KSr E M n B u (tN E B n u).toNat) → M 38 4 = cn → RdR M (stp B n (tix E B n cn.toNat)) okF → 0 ≤ stp B n (tix E B n cn.toNat) → stp B n (tix E B n cn.toNat) ≤ n → w_X12_takePicture_b127 Q M := fun M tk F S K G L k38 R p0 p1 => by
            rw [ff_0 tk] at d1
            have hA : AT E B n cn := ⟨c0, c4, fun u hu => ⟨G u (by omega), fun k hk => slsF_ok ((thsF_ok tk u (by omega)).2) k (by omega)⟩⟩
            unfold w_X12_takePicture_b127
            intro v1 f1 _
            have j83 : M 0 83 = 0 := R.1
            refine ⟨fun w => absurd (by rw [f1]; exact j83) w, fun _ => p_R_checkLinks hY hL F hA K L k38 j83 (fun lk => ?_) (fun lk M5 o5 x0 x83 x84 => ?_)⟩
            · rw [ff_0 lk] at d1
              unfold w_X12_takePicture_b138
              intro v1' f1' _
              refine ⟨fun w => absurd (by rw [f1']; exact j83) w, fun _ => p_takeRoots (E := E) F S ⟨c0, c4⟩ k38 R p0 p1 (fun rk' M6 F6 S6 O6 K6 R6 s0 s1 => ?_) (fun rk' M6 F6 S6 O6 x0 x83 x84 => ?_)⟩
              · obtain ⟨ra, rb⟩ := ff_z (show (ff (upf B n (stp B n (rJ E B n cn)) 108) (rtsF E B n cn (rC E B n cn).toNat)).1 = 0 from rk')
                rw [ff_0 ra, ff_0 rb] at d1
                have ru := upf_0 ra
                have l83 : M6 0 83 = 0 := R6.1
                have l142 := R6.2.2 rfl
                have l141 : M6 0 141 = n := S6.1
                have K6' : KTr E M6 n B cn.toNat := KTr_o K (fun q hq => O6.1 q (fun y => by rw [y] at hq; revert hq; decide) (fun y => by rw [y] at hq; revert hq; decide) (fun y => by rw [y] at hq; revert hq; decide) (fun y => by rw [y] at hq; revert hq; decide))
                have L6 : ∀ u, u < cn.toNat → KSr E M6 n B u (tN E B n u).toNat := fun u hu => KSr_o (L u hu) ⟨O6.1 58 (by decide) (by decide) (by decide) (by decide), O6.1 101 (by decide) (by decide) (by decide) (by decide)⟩
                have k386 : M6 38 4 = cn := by rw [O6.1 38 (by decide) (by decide) (by decide) (by decide)]; exact k38
                generalize hE : rE E B n cn = e at *
                have n9 := hS.2.2.1
                unfold w_X12_takePicture_b149
                intro w1 g1 _ w2 g2 _
                rw [l142] at g1
                refine ⟨fun w => absurd (by rw [g2]; exact l83) w, fun _ w4 g4 _ => ?_⟩
                rw [l142] at g4
                refine ⟨by unfold ri_; omega, fun w6 g6 _ => ?_⟩
                rw [l141] at g6
                refine ⟨fun y => ?_, fun y w8 g8 _ => ?_⟩
                · have cA : chkF B n e = ff (cnd (∃ k, 0 ≤ k ∧ k < 4 ∧ B (e + k) ≠ jand (jushr (ckB B e) (8 * k)) 255) (5, e)) (cnd (e + 4 ≠ n) (6, e + 4)) := by unfold chkF; rw [cnd_0 (by omega), ff_0 (show okF.1 = 0 from rfl)]
                  unfold w_X12_takePicture_b183
                  intro w1' g1' _
                  refine ⟨fun w => absurd (by rw [g1']; exact l83) w, fun _ => ?_⟩
                  rw [g1]
                  refine p_R_check (L := Lb B e.toNat) (by decide) s0 (by omega) (by rw [Lb_len]; omega) (fun i h q => by rw [Lb_get]; exact (S6.2.2.2 i (by omega) (by omega)).1) fun gx => ?_
                  have ecx : ckL ((Lb B e.toNat).take e.toNat) = ckB B e := by unfold ckB; rw [List.take_of_length_le (by rw [Lb_len]; exact Nat.le_refl _)]
                  rw [ecx] at gx ⊢
                  -- behind the check
                  have b253 : ∀ M7, O83 M6 M7 → ((M7 0 83 = 0 ∧ M7 0 84 = -1 ∧ M7 0 142 = e + 4 ∧ ∀ k, 0 ≤ k → k < 4 → B (e + k) = jand (jushr (ckB B e) (8 * k)) 255) ∨ (M7 0 83 = 5 ∧ M7 0 84 = e ∧ chkF B n e = (5, e))) → w_X12_takePicture_b253 Q M7 := fun M7 o7 hc => by
                    have F7 := FTr_o F6 o7
                    rcases hc with ⟨h1, h2, h3, h4⟩ | ⟨h1, h2, h3⟩
                    · have cB : chkF B n e = cnd (e + 4 ≠ n) (6, e + 4) := by rw [cA, cnd_0 (fun ⟨k, k0, k4, q⟩ => q (h4 k k0 k4)), ff_0 (show okF.1 = 0 from rfl)]
                      unfold w_X12_takePicture_b253
                      intro u1 t1 _
                      refine ⟨fun w => by omega, fun _ u3 t3 _ u4 t4 _ => ?_⟩
                      rw [h3] at t3
                      rw [o7.2 141 (by decide), l141] at t4
                      refine ⟨fun w => ?_, fun w u6 t6 _ => ?_⟩
                      · have cO : (chkF B n e).1 = 0 := by rw [cB, cnd_0 (by omega)]; rfl
                        rw [ff_0 cO] at d1
                        unfold w_X12_takePicture_b281
                        intro u1' t1' _
                        refine ⟨fun w => by omega, fun _ => ?_⟩
                        have K7 : KTr E M7 n B cn.toNat := KTr_o K6' (fun q hq => o7.1 q (fun y => by rw [y] at hq; revert hq; decide))
                        have L7 : ∀ u, u < cn.toNat → KSr E M7 n B u (tN E B n u).toNat := fun u hu => KSr_o (L6 u hu) ⟨o7.1 58 (by decide), o7.1 101 (by decide)⟩
                        have k387 : M7 38 4 = cn := by rw [o7.1 38 (by decide)]; exact k386
                        have KR7 : KRr E M7 n cn B (rC E B n cn).toNat := ⟨by rw [o7.1 55 (by decide)]; exact K6.1, fun i hi => by rw [o7.1 56 (by decide), o7.1 57 (by decide)]; exact K6.2 i hi⟩
                        have keep : ∀ M9, OO6 M7 M9 → FTr A M9 ∧ KTr E M9 n B cn.toNat ∧ (∀ u, u < cn.toNat → KSr E M9 n B u (tN E B n u).toNat) ∧ M9 38 4 = cn ∧ KRr E M9 n cn B (rC E B n cn).toNat := fun M9 o9 => by
                          refine ⟨?_, KTr_o K7 (fun q hq => o9.1 q (fun y => by rw [y] at hq; revert hq; decide) (fun y => by rw [y] at hq; revert hq; decide)), fun u hu => KSr_o (L7 u hu) ⟨o9.1 58 (by decide) (by decide), o9.1 101 (by decide) (by decide)⟩, by rw [o9.1 38 (by decide) (by decide)]; exact k387, ⟨by rw [o9.1 55 (by decide) (by decide)]; exact KR7.1, fun i hi => by rw [o9.1 56 (by decide) (by decide), o9.1 57 (by decide) (by decide)]; exact KR7.2 i hi⟩⟩
                          obtain ⟨x1, x2, x3, x4, x5, x6⟩ := F7
                          refine ⟨fun k hk => by rw [o9.1 k (fun y => hk (by rw [y]; decide)) (fun y => hk (by rw [y]; decide))]; exact x1 k hk, fun k i hk hi => ?_, fun i hi => by rw [o9.1 58 (by decide) (by decide)]; exact x3 i hi, fun k i hk hi => ?_, fun k i hk hi => ?_, fun i hi => ?_⟩
                          · rw [o9.1 k (fun y => by rw [y] at hk; revert hk; decide) (fun y => by rw [y] at hk; revert hk; decide)]; exact x2 k i hk hi
                          · rw [o9.1 k (fun y => by rw [y] at hk; revert hk; decide) (fun y => by rw [y] at hk; revert hk; decide)]; exact x4 k i hk hi
                          · rw [o9.1 k (fun y => by rw [y] at hk; revert hk; decide) (fun y => by rw [y] at hk; revert hk; decide)]; exact x5 k i hk hi
                          · rw [o9.2 i (fun y => hi (by simp only [List.mem_cons, List.not_mem_nil, or_false] at y ⊢; omega))]; exact x6 i hi
                        refine p_checkOrder hY F7 hA K7 L7 k387 ru.2.1 ru.2.2 (rtsF_ok rb) KR7 h1 h2 (fun wl M9 o9 z83 z84 => ?_) (fun wl M9 o9 z0 z83 z84 => d292 M9 z0 (q1 (by rw [d1]; exact wl) M9 (keep M9 o9).1 z0 (by rw [z83, d1]) (by rw [z84, d1])))
                        obtain ⟨F9, K9, L9, k389, KR9⟩ := keep M9 o9
                        exact p_used hY F9 hA K9 k389 z83 fun N oN uN => q0 (by rw [d1]; exact wl) M9 N F9 hA ⟨k389, K9, L9, KR9⟩ z83 z84 oN uN
                      · rw [h3] at t6
                        have c6 : chkF B n e = (6, e + 4) := by rw [cB, cnd_1 (by omega)]
                        have d6 : dcF E B n = (6, e + 4) := by rw [d1, c6, ff_1 (show (6 : Int) ≠ 0 by decide)]
                        refine p_rfail h1 fun M9 o9 z83 z84 _ _ => d281 M9 (by rw [z83]; decide) (q1 (by rw [d6]; show (6 : Int) ≠ 0; decide) M9 (FTr_o F7 o9) (by rw [z83]; decide) (by rw [z83, d6]) (by rw [z84, d6, t6]))
                    · have d5 : dcF E B n = (5, e) := by rw [d1, h3, ff_1 (show (5 : Int) ≠ 0 by decide)]
                      exact d253 M7 (by rw [h1]; decide) (q1 (by rw [d5]; show (5 : Int) ≠ 0; decide) M7 F7 (by rw [h1]; decide) (by rw [h1, d5]) (by rw [h2, d5]))
                  unfold w_X12_takePicture_b204
                  refine loop4 _ (fun (a b k : Int) M7 => e = a ∧ ckB B e = b ∧ 0 ≤ k ∧ k ≤ 4 ∧ O83 M6 M7 ∧ M7 0 142 = e ∧ ((M7 0 83 = 0 ∧ M7 0 84 = -1 ∧ ∀ j, 0 ≤ j → j < k → B (e + j) = jand (jushr (ckB B e) (8 * j)) 255) ∨ (M7 0 83 = 5 ∧ M7 0 84 = e ∧ chkF B n e = (5, e)))) (fun (_ _ k : Int) _ => (4 - k).toNat) ?_ _ _ _ _ ⟨rfl, rfl, by omega, by omega, O83_r M6, l142, Or.inl ⟨l83, R6.2.1, fun j a b => by omega⟩⟩
                  rintro _ _ k M7 f ⟨rfl, rfl, k0, k4, o7, h142, hc⟩ ih
                  unfold wb_X12_takePicture_b204
                  refine ⟨fun w w2 g2 _ => ?_, fun w => ⟨by unfold ri_; omega, by unfold ri_; omega, by omega, by omega, fun v7 e7 r7 => ?_⟩⟩
                  · rw [h142] at g2
                    refine ⟨by unfold ri_; omega, fun M8' e8 => b253 M8' (O83_t o7 (by rw [e8]; exact O83_u (by decide))) ?_⟩
                    rcases hc with ⟨h1, h2, h3⟩ | ⟨h1, h2, h3⟩
                    · exact Or.inl ⟨by rw [e8, ux_i _ _ _ (by decide)]; exact h1, by rw [e8, ux_i _ _ _ (by decide)]; exact h2, by rw [e8, ux_s, g2], fun j a b => h3 j a (by omega)⟩
                    · exact Or.inr ⟨by rw [e8, ux_i _ _ _ (by decide)]; exact h1, by rw [e8, ux_i _ _ _ (by decide)]; exact h2, h3⟩
                  · rw [o7.1 98 (by decide)] at e7
                    obtain ⟨y1, y2, y3⟩ := S6.2.2.2 (e + k) (by omega) (by omega)
                    have cb := ck_b gx k k0 (by omega)
                    have jb := ji2b_b (jshr (ckB B e) (8 * k))
                    unfold w_X12_takePicture_b237
                    refine ⟨fun q => ⟨by unfold ri_; omega, ih _ _ _ _ ⟨rfl, rfl, by omega, by omega, o7, h142, ?_⟩ (by omega)⟩, fun q => ?_⟩
                    · rcases hc with ⟨h1, h2, h3⟩ | h
                      · refine Or.inl ⟨h1, h2, fun j a b => ?_⟩
                        by_cases w' : j = k
                        · rw [w', ← cb, q, e7, y1]
                        · exact h3 j a (by omega)
                      · exact Or.inr h
                    · have c5 : chkF B n e = (5, e) := by
                        have nq : B (e + k) ≠ jand (jushr (ckB B e) (8 * k)) 255 := fun q' => by
                          rw [← cb, ← y1, ← e7] at q'
                          omega
                        rw [cA, cnd_1 ⟨k, k0, by omega, nq⟩, ff_1 (show (5 : Int) ≠ 0 by decide)]
                      rcases hc with ⟨h1, h2, h3⟩ | ⟨h1, h2, h3⟩
                      · exact p_rfail h1 fun M9 o9 z83 z84 z142 _ => ⟨by unfold ri_; omega, ih _ _ _ _ ⟨rfl, rfl, by omega, by omega, O83_t o7 o9, by rw [z142]; exact h142, Or.inr ⟨z83, z84, c5⟩⟩ (by omega)⟩
                      · exact p_rfail1 (by rw [h1]; decide) ⟨by unfold ri_; omega, ih _ _ _ _ ⟨rfl, rfl, by omega, by omega, o7, h142, Or.inr ⟨h1, h2, h3⟩⟩ (by omega)⟩
                · rw [l141] at g8
                  have c1 : chkF B n e = (1, n) := by unfold chkF; rw [cnd_1 (by omega), ff_1 (show (1 : Int) ≠ 0 by decide)]
                  have d7 : dcF E B n = (1, n) := by rw [d1, c1, ff_1 (show (1 : Int) ≠ 0 by decide)]
                  exact p_rfail l83 fun M9 o9 z83 z84 _ _ => d183 M9 _ (by rw [z83]; decide) (q1 (by rw [d7]; show (1 : Int) ≠ 0; decide) M9 (FTr_o F6 o9) (by rw [z83]; decide) (by rw [z83, d7]) (by rw [z84, d7, g8]))
              · have d2 : dcF E B n = rtA E B n cn := by
                  rw [d1]
                  unfold rtA at rk' ⊢
                  by_cases w : (upf B n (stp B n (rJ E B n cn)) 108).1 = 0
                  · rw [ff_0 w] at rk' ⊢; rw [ff_0 w, ff_1 rk']
                  · rw [ff_1 w, ff_1 w]
                exact d149 M6 x0 (q1 (by rw [d2]; exact rk') M6 F6 x0 (by rw [x83, d2]) (by rw [x84, d2]))
            · have d2 : dcF E B n = lnkF E B n cn.toNat := by rw [d1, ff_1 lk]
              exact d138 M5 x0 (q1 (by rw [d2]; exact lk) M5 (FTr_o F o5) x0 (by rw [x83, d2]) (by rw [x84, d2]))
          -- the loop over things
          unfold w_X12_takePicture_b99
          refine loop2 _ (fun (t : Int) M => ∃ T : Nat, t = T ∧ (T : Int) ≤ cn ∧ M 38 4 = cn ∧ FTr A M ∧ (((thsF E B n cn T).1 = 0 ∧ Sr M n B ∧ KTr E M n B T ∧ (∀ u, u < T → GT E B n u) ∧ (∀ u, u < T → KSr E M n B u (tN E B n u).toNat) ∧ M 0 146 = tF E B n T ∧ RdR M (stp B n (tix E B n T)) okF ∧ 0 ≤ stp B n (tix E B n T) ∧ stp B n (tix E B n T) ≤ n) ∨ ((dcF E B n).1 ≠ 0 ∧ 0 < M 0 83 ∧ M 0 83 = (dcF E B n).1 ∧ M 0 84 = (dcF E B n).2))) (fun (t : Int) _ => (cn - t).toNat) ?_ _ _ ⟨0, rfl, by omega, by rw [e13, ux_s], F13, Or.inl ⟨rfl, S13, fun u hu => by omega, fun u hu => by omega, fun u hu => by omega, by rw [i13, k146]; rfl, ⟨by rw [i13]; exact r12.1, by rw [i13]; exact r12.2.1, fun _ => by rw [i13]; exact r12.2.2 rfl⟩, by show 0 ≤ stp B n 1; omega, by show stp B n 1 ≤ n; omega⟩⟩
          rintro t M f ⟨T, rfl, hT, k38, F, hc⟩ ih
          unfold wb_X12_takePicture_b99
          intro u1 t1 _
          rw [k38] at t1
          rcases hc with ⟨tk, S, K, G, L, k146', R, p0, p1⟩ | ⟨b0', b1', b2', b3'⟩
          · refine ⟨fun w => ?_, fun w u3 t3 _ => ⟨fun w2 => absurd (by rw [t3]; exact R.1) w2, fun _ => ?_⟩⟩
            · have eT : T = cn.toNat := by omega
              subst eT
              exact rest M tk F S K G L k38 R p0 p1
            · have stepE : thsF E B n cn (T + 1) = thF E B n cn T := by show ff (thsF E B n cn T) _ = _; rw [ff_0 tk]; rfl
              refine p_takeThing hY F S (by omega) ⟨c0, c4⟩ G K L k38 k146' R p0 p1 (fun ok M5 F5 S5 K5 L5 j38 j146 R5 s0 s1 => ⟨by unfold ri_; omega, ih _ _ ⟨T + 1, by omega, by omega, j38, F5, Or.inl ⟨by rw [stepE]; exact ok, S5, K5, fun u hu => ?_, L5, j146, R5, s0, s1⟩⟩ (by omega)⟩) (fun no M5 F5 S5 j38 x0 x83 x84 => ⟨by unfold ri_; omega, ih _ _ ⟨T + 1, by omega, by omega, j38, F5, Or.inr ?_⟩ (by omega)⟩)
              · by_cases w' : u = T
                · rw [w']; exact hdF_ok (ff_z ok).1
                · exact G u (by omega)
              · have e5 : thsF E B n cn cn.toNat = thF E B n cn T := by rw [thsF_no (t := T + 1) (by rw [stepE]; exact no) (by omega), stepE]
                have d2 : dcF E B n = thF E B n cn T := by rw [d1, e5, ff_1 no]
                exact ⟨by rw [d2]; exact no, x0, by rw [x83, d2], by rw [x84, d2]⟩
          · have hq2 : Q 0 M := q1 b0' M F b1' b2' b3'
            exact ⟨fun _ => d127 M b1' hq2, fun _ u3 t3 _ => ⟨fun _ => d127 M b1' hq2, fun w => by omega⟩⟩
        unfold w_X12_takePicture_b47
        intro v1 e1' _
        refine ⟨fun w => absurd (by rw [e1']; exact k83) w, fun _ => ⟨fun w => bad (Or.inl w), fun w => ⟨fun w2 => good (by omega) w2, fun w2 => bad (Or.inr (by omega))⟩⟩⟩
      · have u1 := upf_1 (m := 400) z
        have e : dcF E B n = ((rd B n 2).1, (rd B n 2).2.1) := by rw [d1, u1.1, ff_1 (show (rd B n 2).1 ≠ 0 from z)]
        exact d47 M12 _ (by rw [e]; exact z) (FTr_o F8 o12) (by rw [x83]; exact u1.2) (by rw [x83, e]) (by rw [x84, e])
    · intro v9 e9 _
      have F8 := FTr_o F6 o8
      rcases hc with ⟨c1, c2, c3⟩ | ⟨c1, c2, c3, c4⟩
      · have mk : mkF B n = (1, n) := by
          unfold mkF
          rw [cnd_0 (by omega), ff_0 (show okF.1 = 0 from rfl), cnd_0 (fun q => q a1), ff_0 (show okF.1 = 0 from rfl), cnd_1 (by omega), ff_1 (show (1 : Int) ≠ 0 by decide)]
        have d := mkD (by rw [mk]; show (1 : Int) ≠ 0; decide)
        exact ⟨fun _ => d47 M8 _ (by rw [d, mk]; show (1 : Int) ≠ 0; decide) F8 (by rw [c2]; decide) (by rw [c2, d, mk]) (by rw [c3, d, mk]), fun w => by omega⟩
      · have mk : mkF B n = (2, 1) := by
          unfold mkF
          rw [cnd_0 (by omega), ff_0 (show okF.1 = 0 from rfl), cnd_0 (fun q => q a1), ff_0 (show okF.1 = 0 from rfl), cnd_0 (by omega), ff_0 (show okF.1 = 0 from rfl), cnd_1 (show B 1 ≠ 80 from c2)]
        have d := mkD (by rw [mk]; show (2 : Int) ≠ 0; decide)
        exact ⟨fun _ => d47 M8 _ (by rw [d, mk]; show (2 : Int) ≠ 0; decide) F8 (by rw [c3]; decide) (by rw [c3, d, mk]) (by rw [c4, d, mk]; rfl), fun w => by omega⟩
  · -- the first byte is wrong: the second isn't looked at
    have pos : 0 < M6 0 83 := by rcases hc with ⟨-, q, -⟩ | ⟨-, -, q, -⟩ <;> omega
    have F6 := FTr_o F4 o6
    have dd : (dcF E B n).1 ≠ 0 ∧ M6 0 83 = (dcF E B n).1 ∧ M6 0 84 = (dcF E B n).2 := by
      rcases hc with ⟨c1, c2, c3⟩ | ⟨c1, c2, c3, c4⟩
      · have mk : mkF B n = (1, n) := by unfold mkF; rw [cnd_1 (by omega), ff_1 (show (1 : Int) ≠ 0 by decide)]
        have d := mkD (by rw [mk]; show (1 : Int) ≠ 0; decide)
        rw [d, mk]; exact ⟨by show (1 : Int) ≠ 0; decide, c2, c3⟩
      · have mk : mkF B n = (2, 0) := by unfold mkF; rw [cnd_0 (by omega), ff_0 (show okF.1 = 0 from rfl), cnd_1 c2, ff_1 (show (2 : Int) ≠ 0 by decide)]
        have d := mkD (by rw [mk]; show (2 : Int) ≠ 0; decide)
        rw [d, mk]; exact ⟨by show (2 : Int) ≠ 0; decide, c3, c4⟩
    unfold w_X12_takeByte
    intro v1 e1' _
    refine ⟨fun w => by omega, fun _ v9 e9 _ => ⟨fun _ => d47 M6 _ dd.1 F6 pos dd.2.1 dd.2.2, fun w => by omega⟩⟩
