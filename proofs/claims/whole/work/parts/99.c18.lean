/-! sets worked out: the sets of a thing, closed -/
noncomputable def tsO (M0 : MM) (pc : Nat) (o so v : Int) : List Int := if so = 2 then (if o = 30 then lsG (fun x => lv M0 pc v (x - M0 (pc + 4) v)) (M0 (pc + 4) v) (pcn M0 pc v).toNat else if o = 31 then hP_ (hl M0 pc v) else FRq M0 pc v) else []
theorem tsO_ok {c pc : Nat} {M0 R0 : MM} {p B o so v : Int} (hE : EnvQ c pc M0 R0 p B) (hV : VV (M0 pc 0) so v) : (∀ t ∈ tsO M0 pc o so v, 0 ≤ t ∧ t < M0 pc 0) ∧ (tsO M0 pc o so v).length ≤ 4000 := by
  have hw := hE.2.2.2.2.2.2.1
  have hY := hE.2.2.2.2.2.1
  have n0 := hw.1
  have n4 := hw.2.1
  unfold tsO
  by_cases z : so = 2
  · have v01 : 0 ≤ v ∧ v < M0 pc 0 := by
      rcases hV with h | ⟨h, -⟩ | ⟨-, h1, h2⟩ | ⟨h, -⟩ | ⟨h, -⟩ <;> first | omega | exact ⟨h1, h2⟩
    have hpc := pw_bd hY hw v01.1 v01.2
    rw [if_pos z]
    by_cases z0 : o = 30
    · rw [if_pos z0]
      refine ⟨fun t ht => ?_, ?_⟩
      · obtain ⟨j, j0, j1, j2, j3⟩ := lsG_mem _ _ _ ht
        have := (pw_lv hw v01.1 v01.2 (k := j - M0 (pc + 4) v) (by omega) (by omega)).1
        rw [show lv M0 pc v (j - M0 (pc + 4) v) = t from j2] at this
        omega
      · have := lsG_len (ga := fun x => lv M0 pc v (x - M0 (pc + 4) v)) (pcn M0 pc v).toNat (M0 (pc + 4) v)
        omega
    · rw [if_neg z0]
      by_cases z1 : o = 31
      · rw [if_pos z1]
        refine ⟨fun t ht => ?_, ?_⟩
        · unfold hP_ at ht
          rw [List.mem_filter, List.mem_map, decide_eq_true_eq] at ht
          obtain ⟨⟨⟨a, b⟩, h1, h2⟩, h3⟩ := ht
          rcases (hl_in n0 v01.1 t).mp ⟨b, by rw [← h2]; exact h1⟩ with ⟨h, -⟩ | h
          · exact absurd h h3
          · exact ⟨h.1, h.2.1⟩
        · have := hP_Ul hY hw (t := v) (M0 pc 0).toNat (by omega)
          rw [show (((M0 pc 0).toNat : Nat) : Int) = M0 pc 0 from by omega] at this
          have h4 := hw.2.2.2.2.1
          unfold hl
          omega
      · rw [if_neg z1]
        have hl := FR_wl (R0 := R0) hw v01.1 v01.2
        have := wl_len hl n0
        exact ⟨hl.2, by omega⟩
  · rw [if_neg z]
    exact ⟨fun t ht => absurd ht (by simp), Nat.zero_le _⟩
theorem Gv_0 {c pc : Nat} {M0 R0 M : MM} {p B f o : Int} (hE : EnvQ c pc M0 R0 p B) (f0 : 0 ≤ f) (f1 : f < 11) (h222 : M 222 f = o) (h224 : M 224 f = 0) (h225 : M 225 f = 0) : Gv M0 f (M0 pc 0) B [] M := by
  intro M2 hC2 hS2 hs Q hq
  have e2 : M2 222 f = o := by rw [hs.1 222 (by omega) (by omega)]; exact h222
  have e4 : M2 224 f = 0 := by rw [hs.1 224 (by omega) (by omega)]; exact h224
  have e5 : M2 225 f = 0 := by rw [hs.1 225 (by omega) (by omega)]; exact h225
  have e3 := (hS2 f f0 f1).2.2.2
  refine ⟨fun z => ?_, fun z => ?_⟩
  · unfold w_X4_nextThing w_X4_nextThing_b0
    refine ⟨1, ?_⟩
    show wb_X4_nextThing_b0 Q _ f M2
    unfold wb_X4_nextThing_b0
    exact ⟨f0, f1, fun v1 a1 _ => ⟨f0, f1, fun v2 a2 _ => ⟨fun _ => hq M2 (FN_r f M2), fun y => by omega⟩⟩⟩
  · unfold w_X4_nextReached w_X4_nextReached_b0
    refine ⟨1, ?_⟩
    show wb_X4_nextReached_b0 Q _ f M2
    unfold wb_X4_nextReached_b0 w_X4_nextReached_b151
    exact ⟨f0, f1, fun v1 a1 _ => ⟨f0, f1, fun v2 a2 _ => ⟨fun y => by omega, fun _ => ⟨f0, f1, fun v4 a4 _ => ⟨f0, f1, fun v5 a5 _ => ⟨fun _ => ⟨f0, f1, fun w1 b1 _ => ⟨f0, f1, fun w2 b2 _ => ⟨fun y => by omega, fun _ => hq M2 (FN_r f M2)⟩⟩⟩, fun y => by omega⟩⟩⟩⟩⟩⟩
/-- a set of a thing begins -/
theorem c_from {Q : Int → MM → Prop} {c pc : Nat} {M0 R0 M : MM} {p B f o v : Int} (hE : EnvQ c pc M0 R0 p B) (hD : o = 31 → HD M0 pc) (hC : CB M0 M) (hS : SI B M) (hst : M 231 f + 1 ≤ B + M 219 3) (hm : M 219 3 ≤ 30001) (f0 : 0 ≤ f) (f1 : f < 11) (o0 : 30 ≤ o) (o1 : o ≤ 32) (v0 : 0 ≤ v) (v1 : v < M0 pc 0) (h222 : M 222 f = o) (h224 : M 224 f = 0) (h225 : M 225 f = 0) (hq : ∀ M', FB_ f M M' → SI B M' → M' 219 6 = M 219 6 → Gv M0 f (M0 pc 0) B (tsO M0 pc o 2 v) M' → Q 0 M') : w_X4_beginFrom Q o f v M := by
  have hw := hE.2.2.2.2.2.2.1
  have hY := hE.2.2.2.2.2.1
  have n4 := hw.2.1
  obtain ⟨q1, q2, q3⟩ := q_pic hE hC
  have hBb := hE.2.2.2.2.2.2.2.2.2.2.2.2
  have st0 := (hS f f0 f1).1
  have pp : pc < 219 := by have := q2; unfold isP at this; omega
  have two : ∀ a b M15, M15 = ux_ (ux_ M 224 f a) 225 f b → FB_ f M M15 ∧ SI B M15 ∧ M15 219 6 = M 219 6 ∧ NS f o (M 223 f) a b M15 := fun a b M15 e => by
    have F : FB_ f M M15 := by rw [e]; exact FB_t (FB_u (by omega) (by omega) _) (FB_u (by omega) (by omega) _)
    refine ⟨F, SI_w hS (by rw [e, ux_g _ _ _ (by decide), ux_g _ _ _ (by decide)]) (by rw [e, ux_g _ _ _ (by decide), ux_g _ _ _ (by decide)]) (F.2.1 3 (by decide)) (fun g _ _ h => by rw [e, ux_g _ _ _ (by decide), ux_g _ _ _ (by decide)]; exact h), by rw [e, ux_c _ _ _ _ (by decide), ux_c _ _ _ _ (by decide)], by rw [e, ux_c _ _ _ _ (by decide), ux_c _ _ _ _ (by decide)]; exact h222, by rw [e, ux_c _ _ _ _ (by decide), ux_c _ _ _ _ (by decide)], by rw [e, ux_c _ _ _ _ (by decide), ux_s], by rw [e, ux_s]⟩
  have o2 : o ≠ 30 → o ≠ 31 → tsO M0 pc o 2 v = FRq M0 pc v := fun a b => by unfold tsO; rw [if_pos rfl, if_neg a, if_neg b]
  unfold w_X4_beginFrom
  refine ⟨fun z => ⟨fun z2 => ⟨f0, f1, fun v3 e3 _ => ⟨by unfold ri_; omega, f0, f1, fun M5 e5 => ⟨f0, f1, fun M6 e6 => ?_⟩⟩⟩, fun z2 => ⟨pc, q1, q2, by omega, by omega, fun v10 e10 _ => ⟨f0, f1, fun M11 e11 => ⟨pc, by rw [e11, ux_c _ _ _ _ (by decide)]; exact q1, q2, by unfold ri_; omega, by omega, by omega, fun v14 e14 _ => ⟨f0, f1, fun M15 e15 => ?_⟩⟩⟩⟩⟩, fun z => ⟨pc, q1, q2, by omega, by omega, fun v17 e17 _ => ⟨f0, f1, fun M18 e18 => ⟨pc, by rw [e18, ux_c _ _ _ _ (by decide)]; exact q1, q2, by unfold ri_; omega, by omega, by omega, fun v21 e21 _ => ⟨f0, f1, fun M22 e22 => ?_⟩⟩⟩⟩⟩
  · have F6 : FB_ f M M6 := by
      rw [e6]
      refine FB_t ?_ (FB_u (by omega) (by omega) _)
      rw [e5]
      exact ⟨fun j hj => ux_g _ _ _ (fun y => hj (by rw [y]; decide)), fun i _ => ux_c _ _ _ _ (by decide), fun j i _ _ _ => ux_c _ _ _ _ (by omega), fun j i _ _ _ => ux_c _ _ _ _ (by omega), fun i hi => ux_i _ _ _ hi⟩
    have s230 : M6 230 = M 230 := by rw [e6, ux_g _ _ _ (by decide), e5, ux_g _ _ _ (by decide)]
    have s231 : M6 231 f = M 231 f + 1 := by rw [e6, ux_c _ _ _ _ (by decide), e5, ux_s, e3]
    have S6 : SI B M6 := fun g g0 g1 => by
      obtain ⟨s1, s2, s3, s4⟩ := hS g g0 g1
      rw [s230, F6.2.1 3 (by decide)]
      by_cases y : g = f
      · rw [y] at s1 s2 s3 ⊢
        rw [s231]
        exact ⟨by omega, by omega, fun t t0 t1 => by have := s3 t t0 t1; omega, by rw [e6, ux_s]; exact Int.le_refl _⟩
      · rw [F6.2.2.2.2 g y, F6.2.2.1 223 g (by omega) (by omega) y]
        exact ⟨s1, s2, s3, s4⟩
    have hsf := (hS f f0 f1).2.2.1
    have Q6 : QS f (M0 pc 0) (M 231 f + 1) 0 0 [] M6 := ⟨by rw [e6, ux_c _ _ _ _ (by decide), e5, ux_c _ _ _ _ (by decide)]; omega, by rw [e6, ux_s], by rw [e6, ux_c _ _ _ _ (by decide), e5, ux_c _ _ _ _ (by decide)]; exact h224, by rw [e6, ux_c _ _ _ _ (by decide), e5, ux_c _ _ _ _ (by decide)]; exact h225, s231, ⟨List.nodup_nil, fun o ho => by simp at ho⟩, fun k hk => absurd hk (Nat.not_lt_zero _), fun u u0 u1 => ⟨fun y => by
        rw [s230] at y
        have := hsf u u0 (by omega)
        omega, fun y => by simp at y⟩⟩
    refine p_addR f0 f1 hw.1 n4 Q6 v0 v1 (fun M8 hF8 hQ8 => hq M8 ?_ (hF8.2.2.2 B S6) ?_ ?_)
    · refine FB_t F6 ⟨fun k hk => hF8.1 k (fun y => hk (by simp only [List.mem_cons, List.not_mem_nil, or_false] at y ⊢; omega)), fun i _ => by rw [hF8.1 219 (by decide)], fun k i a b d => ?_, hF8.2.2.1, fun i _ => by rw [hF8.1 231 (by decide)]⟩
      by_cases y : k = 222
      · rw [y, hF8.1 222 (by decide)]
      · exact hF8.2.1 k i (by omega) b d
    · rw [hF8.1 219 (by decide), e6, ux_c _ _ _ _ (by decide), e5, ux_c _ _ _ _ (by decide)]
    · rw [o2 z z2]
      rw [mt_new v0 (by simp)] at hQ8
      have := Gv_FR (B := B) hE f0 f1 (FR_wl (R0 := R0) hw v0 v1) _ 0 0 [v] M8 rfl hQ8 (by omega) (by simp) (by omega) (by simp) rfl
      exact this
  · have hd := hD z2
    rw [e11, ux_c _ _ _ _ (by unfold isP at q2; omega)] at e14
    rw [q3 19 (by omega)] at e10 e14
    obtain ⟨a1, a2, a3, a4⟩ := two v10 v14 M15 (by rw [e15, e11])
    refine hq M15 a1 a2 a3 ?_
    have : tsO M0 pc o 2 v = hP_ (hl M0 pc v) := by unfold tsO; rw [if_pos rfl, if_neg z, if_pos z2]
    rw [this]
    exact Gv_H hE hd f0 f1 v0 v1 (by rw [← e10, ← e14, ← z2]; exact a4)
  · rw [e18, ux_c _ _ _ _ (by unfold isP at q2; omega)] at e21
    rw [q3 4 (by omega)] at e17 e21
    obtain ⟨a1, a2, a3, a4⟩ := two v17 v21 M22 (by rw [e22, e18])
    refine hq M22 a1 a2 a3 ?_
    have : tsO M0 pc o 2 v = lsG (fun x => lv M0 pc v (x - M0 (pc + 4) v)) (M0 (pc + 4) v) (pcn M0 pc v).toNat := by unfold tsO; rw [if_pos rfl, if_pos z]
    rw [this]
    exact Gv_SL hE f0 f1 v0 v1 (by rw [← e17, ← e21, ← z]; exact a4)
