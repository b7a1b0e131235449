/-! holders: the class, whole -/
/-- only the shape's cells have changed -/
def FH (C M : MM) (c : Nat) : Prop := (∀ k, k ≠ c + 18 → k ≠ c + 19 → k ≠ c + 20 → k ≠ c + 21 → k ≠ c + 31 → M k = C k) ∧ (∀ i, i ≠ 1 → M (c + 18) i = C (c + 18) i) ∧ M (c + 18) 1 = jor (C (c + 18) 1) 1
theorem hl_split {C : MM} {c : Nat} {t : Int} (u k : Nat) (hu : (u : Int) < C c 0) (hk : (k : Int) ≤ pcn C c u) : (hU C c t u ++ hK C c t u k).length ≤ (hl C c t).length := by
  have h1 := hU_m C c t (u + 1) (C c 0).toNat (by omega)
  rw [hU_s, List.length_append] at h1
  have h2 := hK_m C c t u k (pcn C c u).toNat (by omega)
  rw [List.length_append]
  unfold hl
  omega
/-- a place of a slot is a thing's -/
theorem pw_dec {C R0 : MM} {c : Nat} (hY : Rty C R0) (hw : PW C c) {a : Int} (a0 : 0 ≤ a) (a1 : a < C (c + 4) (C c 0)) : ∃ u k, 0 ≤ u ∧ u < C c 0 ∧ 0 ≤ k ∧ k < pcn C c u ∧ a = C (c + 4) u + k := by
  have n0 := hw.1
  have key : ∀ n : Nat, (n : Int) ≤ C c 0 → a < C (c + 4) n → ∃ u k, 0 ≤ u ∧ u < C c 0 ∧ 0 ≤ k ∧ k < pcn C c u ∧ a = C (c + 4) u + k := by
    intro n
    induction n with
    | zero => intro _ h; rw [show C (c + 4) ((0 : Nat) : Int) = 0 from hw.2.2.1] at h; omega
    | succ n ih =>
      intro hn h
      by_cases z : a < C (c + 4) n
      · exact ih (by omega) z
      · have e := (hw.2.2.2.1 n (by omega) (by omega)).2.2.2.2.2.2.1
        rw [show (((n + 1 : Nat)) : Int) = (n : Int) + 1 from by omega, e] at h
        exact ⟨n, a - C (c + 4) n, by omega, by omega, by omega, by omega, by omega⟩
  exact key (C c 0).toNat (by omega) (by rw [show (((C c 0).toNat : Nat) : Int) = C c 0 from by omega]; exact a1)
set_option maxHeartbeats 1000000 in
theorem p_needHolders {Q : Int → MM → Prop} {C R0 : MM} {c : Nat} (hY : Rty C R0) (hw : PW C c) (h0 : jand (C (c + 18) 1) 1 ≠ 0 → Q 0 C) (h1 : jand (C (c + 18) 1) 1 = 0 → ∀ M, FH C M c → M (c + 19) 0 = 0 → (∀ t, 0 ≤ t → t < C c 0 → M (c + 19) (t + 1) = M (c + 19) t + (hl C c t).length ∧ ∀ j : Nat, j < (hl C c t).length → M (c + 20) (M (c + 19) t + j) = ((hl C c t).getD j (0, 0)).1 ∧ M (c + 21) (M (c + 19) t + j) = ((hl C c t).getD j (0, 0)).2) → Q 0 M) : w_X8_needHolders (c + 18) c Q C := by
  have n0 := hw.1
  have n4 := hw.2.1
  obtain ⟨-, -, -, -, -, -, -, r0, r1, hr, -⟩ := id hw
  have hmx := hw.2.2.2.2.1
  have hfn := pw_f hY hw n0 (Int.le_refl _)
  have hL : ∀ t : Int, ((hl C c t).length : Int) = (hR C c t (C c 11).toNat).length + nl C c t (C (c + 4) (C c 0)).toNat := fun t => by
    have := hU_nl hY hw (t := t) (C c 0).toNat (by omega)
    rw [show (((C c 0).toNat : Nat) : Int) = C c 0 from by omega] at this
    exact this
  have hlR : ∀ (t : Int) (r : Nat), r ≤ (C c 11).toNat → (hR C c t r).length ≤ (hl C c t).length := fun t r hr => by
    have a := hR_m C c t r (C c 11).toNat hr
    have b := hU_m C c t 0 (C c 0).toNat (by omega)
    exact Nat.le_trans a b
  have b1 := hs_bd hY hw
  unfold w_X8_needHolders
  intro v1 e1 _
  subst e1
  refine ⟨fun z v3 e3 _ M4 e4 v5 e5 _ => ?_, h0⟩
  subst e3
  rw [e4, ux_c _ _ _ _ (by omega)] at e5
  subst e5
  have fh4 : ∀ k, k ≠ c + 18 → M4 k = C k := fun k hk => funext fun i => by rw [e4, ux_c _ _ _ _ hk]
  have sh4 : (∀ i, i ≠ 1 → M4 (c + 18) i = C (c + 18) i) ∧ M4 (c + 18) 1 = jor (C (c + 18) 1) 1 := ⟨fun i hi => by rw [e4, ux_i _ _ _ hi], by rw [e4, ux_s]⟩
  -- last: the slots are laid down
  have sixth : ∀ M, FH C M c → (∀ t : Nat, (t : Int) ≤ C c 0 → M (c + 19) t = hs C c t) → HE C M c (fun t => hR C c t (C c 11).toNat) → w_X8_needHolders_b209 (c + 18) c Q 0 M := by
    intro M hF hP hE
    refine loop2 _ (fun (u : Int) M1 => 0 ≤ u ∧ u ≤ C c 0 ∧ FH C M1 c ∧ (∀ t : Nat, (t : Int) ≤ C c 0 → M1 (c + 19) t = hs C c t) ∧ HE C M1 c (fun t => hU C c t u.toNat)) (fun (u : Int) _ => (C c 0 - u).toNat) ?_ _ _ ⟨by omega, n0, hF, hP, hE⟩
    rintro u M1 f ⟨u0, u1, hF1, hP1, hE1⟩ ih
    have uu : ((u.toNat : Nat) : Int) = u := by omega
    unfold wb_X8_needHolders_b209
    intro v1 g1 _
    rw [hF1.1 c (by omega) (by omega) (by omega) (by omega) (by omega)] at g1
    subst g1
    refine ⟨fun z2 => ?_, fun z2 => ⟨u0, by omega, fun v3 g3 _ => ?_⟩⟩
    · refine h1 z M1 hF1 (by have := hP1 0 (by omega); rw [show ((0 : Nat) : Int) = 0 from rfl] at this; rw [this]; rfl) fun t t0 t1 => ?_
      have tt : ((t.toNat : Nat) : Int) = t := by omega
      have a := hP1 t.toNat (by omega)
      have b := hP1 (t.toNat + 1) (by omega)
      have d := hE1 t.toNat (by omega)
      rw [show u.toNat = (C c 0).toNat from by omega, tt] at d
      rw [tt] at a
      rw [show (((t.toNat + 1 : Nat)) : Int) = t + 1 from by omega] at b
      have s := hs_s C c t.toNat
      rw [tt] at s
      rw [a, b, s]
      exact ⟨rfl, d.2⟩
    · rw [hF1.1 (c + 4) (by omega) (by omega) (by omega) (by omega) (by omega)] at g3
      rw [g3]
      have hpc := pw_bd hY hw u0 (by omega)
      have ht1 := (hw.2.2.2.1 u u0 (by omega)).2.2.2.2.2.2.1
      have hf := pw_f hY hw u0 (by omega)
      have hf2 := pw_f hY hw (t := u + 1) (by omega) (by omega)
      refine loop3 _ (fun (u' b : Int) M2 => u = u' ∧ C (c + 4) u ≤ b ∧ b ≤ C (c + 4) (u + 1) ∧ FH C M2 c ∧ (∀ t : Nat, (t : Int) ≤ C c 0 → M2 (c + 19) t = hs C c t) ∧ HE C M2 c (fun t => hU C c t u.toNat ++ hK C c t u.toNat (b - C (c + 4) u).toNat)) (fun _ (b : Int) _ => (C (c + 4) (u + 1) - b).toNat) ?_ _ _ _ ⟨rfl, by omega, by omega, hF1, hP1, ?_⟩
      · rintro _ b M2 g ⟨rfl, b0, b1', hF2, hP2, hE2⟩ ih2
        unfold wb_X8_needHolders_b224
        refine ⟨by unfold ri_; omega, by omega, by omega, fun v2 g2 _ => ?_⟩
        rw [hF2.1 (c + 4) (by omega) (by omega) (by omega) (by omega) (by omega)] at g2
        rw [g2]
        refine ⟨fun z3 => ⟨by unfold ri_; omega, ih _ _ ⟨by omega, by omega, hF2, hP2, ?_⟩ (by omega)⟩, fun z3 => ⟨by omega, by omega, fun v5 g5 _ => ?_⟩⟩
        · rw [show (u + 1).toNat = u.toNat + 1 from by omega]
          have e : (b - C (c + 4) u).toNat = (pcn C c u.toNat).toNat := by rw [uu]; omega
          rw [e] at hE2
          exact hE2
        · have kk : (((b - C (c + 4) u).toNat : Nat) : Int) = b - C (c + 4) u := by omega
          have sn : (b + 1 - C (c + 4) u).toNat = (b - C (c + 4) u).toNat + 1 := by omega
          obtain ⟨l1, l2, l3⟩ := pw_lv hw u0 (by omega) (k := b - C (c + 4) u) (by omega) (by omega)
          have elv : lv C c u (b - C (c + 4) u) = if C (c + 10) b = 0 then -1 else C (c + 9) b := by
            unfold lv
            rw [show C (c + 4) u + (b - C (c + 4) u) = b from by omega]
          have elv' : lv C c (u.toNat : Nat) ((b - C (c + 4) u).toNat : Nat) = lv C c u (b - C (c + 4) u) := by rw [uu, kk]
          have nxt : ∀ M3, FH C M3 c → (∀ t : Nat, (t : Int) ≤ C c 0 → M3 (c + 19) t = hs C c t) → HE C M3 c (fun t => hU C c t u.toNat ++ hK C c t u.toNat ((b - C (c + 4) u).toNat + 1)) → w_X8_needHolders_b278 (c + 18) c Q f g u b M3 := fun M3 q1 q2 q3 => by
            unfold w_X8_needHolders_b278
            exact ⟨by unfold ri_; omega, ih2 _ _ _ ⟨rfl, by omega, by omega, q1, q2, by rw [sn]; exact q3⟩ (by omega)⟩
          have none : lv C c u (b - C (c + 4) u) = -1 → w_X8_needHolders_b278 (c + 18) c Q f g u b M2 := fun e => by
            refine nxt M2 hF2 hP2 fun t ht => ?_
            have : hK C c (t : Int) u.toNat ((b - C (c + 4) u).toNat + 1) = hK C c (t : Int) u.toNat (b - C (c + 4) u).toNat := by
              rw [hK_s, elv', e, if_neg (by omega)]
            have q := hE2 t ht
            simp only [this]
            exact q
          rw [hF2.1 (c + 10) (by omega) (by omega) (by omega) (by omega) (by omega)] at g5
          refine ⟨fun z5 => none (by rw [elv, if_pos (by rw [← g5]; exact z5)]), fun z5 => ⟨by omega, by omega, fun v7 g7 _ => ?_⟩⟩
          rw [hF2.1 (c + 9) (by omega) (by omega) (by omega) (by omega) (by omega)] at g7
          rw [if_neg (by rw [← g5]; exact z5), ← g7] at elv
          refine ⟨fun z7 => none (by rw [elv]; exact z7), fun z7 => ⟨by omega, by omega, fun v9 g9 _ => ?_⟩⟩
          rw [hF2.1 (c + 9) (by omega) (by omega) (by omega) (by omega) (by omega), ← g7] at g9
          subst g9
          rw [elv] at l1
          refine ⟨by unfold ri_; omega, u0, by omega, fun v11 g11 _ => ?_⟩
          rw [hF2.1 (c + 4) (by omega) (by omega) (by omega) (by omega) (by omega)] at g11
          rw [g11]
          refine ⟨by unfold ri_; omega, p_addHolder (L' := fun t => hU C c t u.toNat ++ hK C c t u.toNat ((b - C (c + 4) u).toNat + 1)) hY hw hE2 (by omega) (by omega) (fun t => hl_split u.toNat _ (by omega) (by rw [uu]; omega)) ?_ (fun t t0 t1 => ?_) (fun M3 q1 q2 => nxt M3 ⟨fun k a1 a2 a3 a4 a5 => by rw [q1 k a3 a4 a5, hF2.1 k a1 a2 a3 a4 a5], fun i hi => by rw [q1 (c + 18) (by omega) (by omega) (by omega), hF2.2.1 i hi], by rw [q1 (c + 18) (by omega) (by omega) (by omega), hF2.2.2]⟩ (fun t ht => by rw [q1 (c + 19) (by omega) (by omega) (by omega)]; exact hP2 t ht) q2)⟩
          · have q := hl_split (C := C) (c := c) (t := v9) u.toNat ((b - C (c + 4) u).toNat + 1) (by omega) (by rw [uu]; omega)
            rw [hK_s, elv', elv, if_pos rfl, List.length_append, List.length_append] at q
            show (hU C c v9 u.toNat ++ hK C c v9 u.toNat (b - C (c + 4) u).toNat).length < _
            rw [List.length_append]
            simp only [List.length_cons, List.length_nil] at q
            omega
          · show hU C c t u.toNat ++ hK C c t u.toNat ((b - C (c + 4) u).toNat + 1) = _
            rw [hK_s, elv', elv]
            by_cases y : t = v9
            · rw [if_pos y.symm, if_pos y, y, uu, kk, List.append_assoc]
            · rw [if_neg (fun q => y q.symm), if_neg y]
      · rw [show (C (c + 4) u - C (c + 4) u).toNat = 0 from by omega]
        intro t ht
        have q := hE1 t ht
        have e : hU C c (t : Int) u.toNat ++ hK C c (t : Int) u.toNat 0 = hU C c (t : Int) u.toNat := by show _ ++ [] = _; rw [List.append_nil]
        simp only [e]
        exact q
  -- the roots are laid down
  have fifth : ∀ M, FH C M c → (∀ t : Nat, (t : Int) ≤ C c 0 → M (c + 19) t = hs C c t) → HE C M c (fun t => []) → w_X8_needHolders_b176 (c + 18) c Q 0 M := by
    intro M hF hP hE
    refine loop2 _ (fun (r : Int) M1 => 0 ≤ r ∧ r ≤ C c 11 ∧ FH C M1 c ∧ (∀ t : Nat, (t : Int) ≤ C c 0 → M1 (c + 19) t = hs C c t) ∧ HE C M1 c (fun t => hR C c t r.toNat)) (fun (r : Int) _ => (C c 11 - r).toNat) ?_ _ _ ⟨by omega, r0, hF, hP, hE⟩
    rintro r M1 f ⟨q0, q1, hF1, hP1, hE1⟩ ih
    have rr : ((r.toNat : Nat) : Int) = r := by omega
    unfold wb_X8_needHolders_b176
    intro v1 g1 _
    rw [hF1.1 c (by omega) (by omega) (by omega) (by omega) (by omega)] at g1
    subst g1
    refine ⟨fun z2 => sixth M1 hF1 hP1 (by rw [show (C c 11).toNat = r.toNat from by omega]; exact hE1), fun z2 => ⟨q0, by omega, fun v3 g3 _ => ⟨q0, by omega, fun v4 g4 _ => ?_⟩⟩⟩
    rw [hF1.1 (c + 12) (by omega) (by omega) (by omega) (by omega) (by omega)] at g3
    rw [hF1.1 (c + 11) (by omega) (by omega) (by omega) (by omega) (by omega)] at g4
    obtain ⟨y1, y2, -⟩ := hr r q0 (by omega)
    rw [← g3] at y1 y2
    have e12 : C (c + 12) (r.toNat : Nat) = v3 := by rw [rr, g3]
    have e11 : C (c + 11) (r.toNat : Nat) = v4 := by rw [rr, g4]
    refine p_addHolder (L' := fun t => hR C c t (r.toNat + 1)) hY hw hE1 y1 y2 (fun t => hlR t r.toNat (by omega)) ?_ (fun t t0 t1 => ?_) (fun M3 x1 x2 => ⟨by unfold ri_; omega, ih _ _ ⟨by omega, by omega, ⟨fun k a1 a2 a3 a4 a5 => by rw [x1 k a3 a4 a5, hF1.1 k a1 a2 a3 a4 a5], fun i hi => by rw [x1 (c + 18) (by omega) (by omega) (by omega), hF1.2.1 i hi], by rw [x1 (c + 18) (by omega) (by omega) (by omega), hF1.2.2]⟩, fun t ht => by rw [x1 (c + 19) (by omega) (by omega) (by omega)]; exact hP1 t ht, by rw [show (r + 1).toNat = r.toNat + 1 from by omega]; exact x2⟩ (by omega)⟩)
    · have q := hlR v3 (r.toNat + 1) (by omega)
      rw [hR_s, e12, if_pos rfl, List.length_append] at q
      simp at q
      omega
    · show hR C c t (r.toNat + 1) = _
      rw [hR_s, e12, e11]
      by_cases y : t = v3
      · rw [if_pos y.symm, if_pos y, y]
      · rw [if_neg (fun q => y q.symm), if_neg y]
  -- sums
  have fourth : ∀ M, FH C M c → M (c + 19) 0 = 0 → (∀ t : Nat, (t : Int) < C c 0 → M (c + 19) (t + 1) = (hl C c t).length) → w_X8_needHolders_b131 (c + 18) c Q 0 M := by
    intro M hF hz hc
    refine loop2 _ (fun (x : Int) M1 => 0 ≤ x ∧ x ≤ C c 0 ∧ FH C M1 c ∧ (∀ t : Nat, (t : Int) ≤ x → M1 (c + 19) t = hs C c t) ∧ (∀ t : Nat, x ≤ t → (t : Int) < C c 0 → M1 (c + 19) (t + 1) = (hl C c t).length) ∧ ∀ t : Nat, (t : Int) < x → M1 (c + 31) t = hs C c t) (fun (x : Int) _ => (C c 0 - x).toNat) ?_ _ _ ⟨by omega, n0, hF, fun t ht => by rw [show t = 0 from by omega]; exact hz, fun t _ ht => hc t ht, fun t ht => by omega⟩
    rintro x M1 f ⟨x0, x1, hF1, k1, k2, k3⟩ ih
    have xx : ((x.toNat : Nat) : Int) = x := by omega
    unfold wb_X8_needHolders_b131
    intro v1 g1 _
    rw [hF1.1 c (by omega) (by omega) (by omega) (by omega) (by omega)] at g1
    subst g1
    refine ⟨fun z2 => fifth M1 hF1 (fun t ht => k1 t (by omega)) (fun t ht => ⟨by rw [k3 t (by omega)]; simp, fun j hj => by simp at hj⟩), fun z2 => ⟨by unfold ri_; omega, by omega, by omega, fun v4 g4 _ => ⟨x0, by omega, fun v5 g5 _ => ?_⟩⟩⟩
    have a1 := k1 x.toNat (by omega)
    have a2 := k2 x.toNat (by omega) (by omega)
    rw [xx] at a1 a2
    rw [show c + 18 + 1 = c + 19 from by omega, a2] at g4
    rw [show c + 18 + 1 = c + 19 from by omega, a1] at g5
    have s := hs_s C c x.toNat
    rw [xx] at s
    have b2 := hs_m C c (x.toNat + 1) (C c 0).toNat (by omega)
    have b0 := hs_m C c 0 x.toNat (by omega)
    have z0 : hs C c 0 = 0 := rfl
    refine ⟨by unfold ri_; omega, by omega, by omega, fun M7 e7 => ⟨x0, by omega, fun v8 g8 _ => ⟨x0, by omega, fun M9 e9 => ⟨by unfold ri_; omega, ih _ _ ⟨by omega, by omega, ⟨fun k p1 p2 p3 p4 p5 => funext fun i => by rw [e9, e7, ux_c _ _ _ _ (by omega), ux_c _ _ _ _ (by omega), hF1.1 k p1 p2 p3 p4 p5], fun i hi => by rw [e9, e7, ux_c _ _ _ _ (by omega), ux_c _ _ _ _ (by omega), hF1.2.1 i hi], by rw [e9, e7, ux_c _ _ _ _ (by omega), ux_c _ _ _ _ (by omega), hF1.2.2]⟩, fun t ht => ?_, fun t t0 t1 => ?_, fun t ht => ?_⟩ (by omega)⟩⟩⟩⟩
    · rw [e9, ux_c _ _ _ _ (by omega), e7, show c + 18 + 1 = c + 19 from by omega]
      by_cases y : (t : Int) = x + 1
      · rw [y, ux_s, show t = x.toNat + 1 from by omega, s, g4, g5]; omega
      · rw [ux_i _ _ _ y]; exact k1 t (by omega)
    · rw [e9, ux_c _ _ _ _ (by omega), e7, show c + 18 + 1 = c + 19 from by omega, ux_i _ _ _ (by omega)]; exact k2 t (by omega) t1
    · rw [e9, show c + 18 + 13 = c + 31 from by omega]
      by_cases y : (t : Int) = x
      · rw [y, ux_s, g8, e7, show c + 18 + 1 = c + 19 from by omega, ux_i _ _ _ (by omega), a1, show t = x.toNat from by omega]
      · rw [ux_i _ _ _ y, e7, ux_c _ _ _ _ (by omega)]; exact k3 t (by omega)
  -- counts
  have FHu : ∀ M i v, FH C M c → FH C (ux_ M (c + 18 + 1) i v) c := fun M i v h => ⟨fun k p1 p2 p3 p4 p5 => funext fun j => by rw [ux_c _ _ _ _ (by omega), h.1 k p1 p2 p3 p4 p5], fun j hj => by rw [ux_c _ _ _ _ (by omega), h.2.1 j hj], by rw [ux_c _ _ _ _ (by omega), h.2.2]⟩
  have nlb : ∀ t a, 0 ≤ nl C c t a ∧ nl C c t a ≤ a := by
    intro t a
    induction a with
    | zero => exact ⟨Int.le_refl _, Int.le_refl _⟩
    | succ a ih =>
      show 0 ≤ nl C c t a + (if lvl C c a = t then 1 else 0) ∧ nl C c t a + (if lvl C c a = t then 1 else 0) ≤ _
      by_cases y : lvl C c a = t
      · rw [if_pos y]; omega
      · rw [if_neg y]; omega
  have hRb : ∀ t r, (hR C c t r).length ≤ r := by
    intro t r
    induction r with
    | zero => exact Nat.le_refl _
    | succ r ih =>
      rw [hR_s]
      by_cases y : C (c + 12) r = t
      · rw [if_pos y, List.length_append]; simp; omega
      · rw [if_neg y]; omega
  have third : ∀ M, FH C M c → M (c + 19) 0 = 0 → (∀ t : Nat, (t : Int) < C c 0 → M (c + 19) (t + 1) = (hR C c t (C c 11).toNat).length) → w_X8_needHolders_b70 (c + 18) c Q 0 M := by
    intro M hF hz hc
    refine loop2 _ (fun (a : Int) M1 => 0 ≤ a ∧ a ≤ C (c + 4) (C c 0) ∧ FH C M1 c ∧ M1 (c + 19) 0 = 0 ∧ ∀ t : Nat, (t : Int) < C c 0 → M1 (c + 19) (t + 1) = (hR C c t (C c 11).toNat).length + nl C c t a.toNat) (fun (a : Int) _ => (C (c + 4) (C c 0) - a).toNat) ?_ _ _ ⟨by omega, hfn.1, hF, hz, fun t ht => by rw [hc t ht]; show _ = _ + (0 : Int); omega⟩
    rintro a M1 f ⟨a0, a1, hF1, k0, k1⟩ ih
    have aa : ((a.toNat : Nat) : Int) = a := by omega
    unfold wb_X8_needHolders_b70
    intro v1 g1 _
    rw [hF1.1 c (by omega) (by omega) (by omega) (by omega) (by omega)] at g1
    subst g1
    refine ⟨n0, by omega, fun v2 g2 _ => ?_⟩
    rw [hF1.1 (c + 4) (by omega) (by omega) (by omega) (by omega) (by omega)] at g2
    subst g2
    refine ⟨fun z2 => fourth M1 hF1 k0 (fun t ht => by rw [k1 t ht, hL, show a.toNat = (C (c + 4) (C c 0)).toNat from by omega]), fun z2 => ⟨a0, by omega, fun v4 g4 _ => ?_⟩⟩
    have en : ∀ t, nl C c t (a.toNat + 1) = nl C c t a.toNat + (if lvl C c a.toNat = t then 1 else 0) := fun _ => rfl
    have el : lvl C c a.toNat = if C (c + 10) a = 0 then -1 else C (c + 9) a := by unfold lvl; rw [aa]
    have nxt : ∀ M2, FH C M2 c → M2 (c + 19) 0 = 0 → (∀ t : Nat, (t : Int) < C c 0 → M2 (c + 19) (t + 1) = (hR C c t (C c 11).toNat).length + nl C c t (a.toNat + 1)) → w_X8_needHolders_b123 (c + 18) c Q f a M2 := fun M2 q1 q2 q3 => by
      unfold w_X8_needHolders_b123
      exact ⟨by unfold ri_; omega, ih _ _ ⟨by omega, by omega, q1, q2, by rw [show (a + 1).toNat = a.toNat + 1 from by omega]; exact q3⟩ (by omega)⟩
    have none : lvl C c a.toNat = -1 → w_X8_needHolders_b123 (c + 18) c Q f a M1 := fun e => nxt M1 hF1 k0 fun t ht => by rw [k1 t ht, en, e, if_neg (by omega)]; omega
    rw [hF1.1 (c + 10) (by omega) (by omega) (by omega) (by omega) (by omega)] at g4
    refine ⟨fun z4 => none (by rw [el, if_pos (by rw [← g4]; exact z4)]), fun z4 => ⟨a0, by omega, fun v6 g6 _ => ?_⟩⟩
    rw [hF1.1 (c + 9) (by omega) (by omega) (by omega) (by omega) (by omega)] at g6
    rw [if_neg (by rw [← g4]; exact z4), ← g6] at el
    refine ⟨fun z6 => none (by rw [el]; exact z6), fun z6 => ⟨a0, by omega, fun v8 g8 _ => ?_⟩⟩
    rw [hF1.1 (c + 9) (by omega) (by omega) (by omega) (by omega) (by omega), ← g6] at g8
    subst g8
    -- a link's value is a thing: by its place
    have hin : 0 ≤ v8 ∧ v8 < C c 0 := by
      obtain ⟨u, k, u0, u1, k0', k1', e⟩ := pw_dec hY hw (a := a) a0 (by omega)
      have := (pw_lv hw u0 u1 k0' k1').1
      have q : lv C c u k = v8 := by
        unfold lv
        rw [← e, if_neg (by rw [← g4]; exact z4), ← g6]
      omega
    have v8t := k1 v8.toNat (by omega)
    rw [show ((v8.toNat : Nat) : Int) = v8 from by omega] at v8t
    have nb := nlb v8 a.toNat
    have rb := hRb v8 (C c 11).toNat
    refine ⟨by unfold ri_; omega, by unfold ri_; omega, by omega, by omega, fun v11 g11 _ => ?_⟩
    rw [show c + 18 + 1 = c + 19 from by omega, v8t] at g11
    refine ⟨by unfold ri_; omega, by omega, by omega, fun M13 e13 => nxt M13 (by rw [e13]; exact FHu _ _ _ hF1) (by rw [e13, show c + 18 + 1 = c + 19 from by omega, ux_i _ _ _ (by omega)]; exact k0) fun t ht => ?_⟩
    rw [e13, show c + 18 + 1 = c + 19 from by omega, en, el]
    by_cases y : (t : Int) = v8
    · rw [if_pos y.symm, y, ux_s, g11]; omega
    · rw [if_neg (fun q => y q.symm), ux_i _ _ _ (by omega), k1 t ht]; omega
  refine ⟨by unfold ri_; omega, p_fillR (by omega) (by omega) (by omega) (by omega) ?_⟩
  refine loop2 _ (fun (r : Int) M1 => 0 ≤ r ∧ r ≤ C c 11 ∧ FH C M1 c ∧ M1 (c + 19) 0 = 0 ∧ ∀ t : Nat, (t : Int) < C c 0 → M1 (c + 19) (t + 1) = (hR C c t r.toNat).length) (fun (r : Int) _ => (C c 11 - r).toNat) ?_ _ _ ⟨by omega, r0, ⟨fun k p1 p2 p3 p4 p5 => funext fun i => ?_, fun i hi => ?_, ?_⟩, ?_, fun t ht => ?_⟩
  · rintro r M1 f ⟨q0, q1, hF1, k0, k1⟩ ih
    have rr : ((r.toNat : Nat) : Int) = r := by omega
    unfold wb_X8_needHolders_b37
    intro v1 g1 _
    rw [hF1.1 c (by omega) (by omega) (by omega) (by omega) (by omega)] at g1
    subst g1
    refine ⟨fun z2 => third M1 hF1 k0 (by rw [show (C c 11).toNat = r.toNat from by omega]; exact k1), fun z2 => ⟨q0, by omega, fun v3 g3 _ => ?_⟩⟩
    rw [hF1.1 (c + 12) (by omega) (by omega) (by omega) (by omega) (by omega)] at g3
    obtain ⟨y1, y2, -⟩ := hr r q0 (by omega)
    rw [← g3] at y1 y2
    have e12 : C (c + 12) (r.toNat : Nat) = v3 := by rw [rr, g3]
    have v3t := k1 v3.toNat (by omega)
    rw [show ((v3.toNat : Nat) : Int) = v3 from by omega] at v3t
    have rb := hRb v3 r.toNat
    refine ⟨by unfold ri_; omega, by omega, by omega, fun v5 g5 _ => ?_⟩
    rw [show c + 18 + 1 = c + 19 from by omega, v3t] at g5
    refine ⟨by unfold ri_; omega, by omega, by omega, fun M7 e7 => ⟨by unfold ri_; omega, ih _ _ ⟨by omega, by omega, by rw [e7]; exact FHu _ _ _ hF1, by rw [e7, show c + 18 + 1 = c + 19 from by omega, ux_i _ _ _ (by omega)]; exact k0, fun t ht => ?_⟩ (by omega)⟩⟩
    rw [e7, show c + 18 + 1 = c + 19 from by omega, show (r + 1).toNat = r.toNat + 1 from by omega, hR_s, e12]
    by_cases y : (t : Int) = v3
    · rw [if_pos y.symm, y, ux_s, g5, List.length_append]; simp
    · rw [if_neg (fun q => y q.symm), ux_i _ _ _ (by omega)]; exact k1 t ht
  · unfold filled; rw [if_neg (by omega), fh4 k p1]
  · unfold filled; rw [if_neg (by omega)]; exact sh4.1 i hi
  · unfold filled; rw [if_neg (by omega)]; exact sh4.2
  · unfold filled; rw [if_pos (by omega)]
  · unfold filled; rw [if_pos (by omega)]; rfl
