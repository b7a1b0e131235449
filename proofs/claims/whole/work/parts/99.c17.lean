/-! sets worked out: what is reached, the reference; sets of a thing, closed -/
theorem psl_r {R0 M0 : MM} {pc : Nat} {p : Int} : psl M0 pc (sB R0 p (-1) 0) = rsl M0 pc := by
  funext t k
  unfold psl rsl
  rcases fl_or (sB R0 p (-1) 0) (lv M0 pc t k) with ⟨e, -⟩ | ⟨e, h⟩
  · exact e
  · rw [e]
    by_cases z : lv M0 pc t k = -1
    · exact z.symm
    · exact absurd ⟨z, Or.inl rfl⟩ h
theorem VR_ES {s l n : Int} {A M : MM} {L : List Int} (h : VR A M n L) : ES s l A M := ⟨fun k hk => h.1 k (fun y => hk (by simp only [List.mem_cons, List.not_mem_nil, or_false] at y ⊢; omega)), fun i hi => h.2.1 i (fun y => hi (by rw [y]; decide)), fun i _ => ⟨by rw [h.1 72 (by decide)], fun _ => by rw [h.1 74 (by decide)]⟩, fun i _ _ => by rw [h.1 73 (by decide)]⟩
theorem r_FR {Q : Int → MM → Prop} {G : Nat → (Int → MM → Prop) → List Int → MM → Prop} {c pc : Nat} {M0 R0 R1 : MM} {p B s l t : Int} (hE : EnvQ c pc M0 R0 p B) (hR : RB0 p R0 R1) (s0 : 0 ≤ s) (s1 : s ≤ 10) (hl : l = s ∨ l = 11) (t0 : 0 ≤ t) (t1 : t < M0 pc 0) (h74 : R1 74 l = 0) (hq : ∀ R', GS s l R1 R' (FRq M0 pc t) → Q 0 R') : w_X12_workSet_b351 G Q l t 0 R1 := by
  have hw := hE.2.2.2.2.2.2.1
  have hY := hE.2.2.2.2.2.1
  have hb := hE.2.2.2.2.2.2.2.1
  obtain ⟨p0, p5⟩ : 0 ≤ p ∧ p < 5 := ⟨hE.2.2.2.2.2.2.2.2.1, hE.2.2.2.2.2.2.2.2.2.1⟩
  have n0 := hw.1
  have n4 := hw.2.1
  have hYR := Y_r hY hR
  have hbR := B_e hE hR
  have h97 := hR.2.2
  have last : ∀ R2, VR R1 R2 (M0 pc 0) (FRq M0 pc t) → w_X12_workSet_b434 G Q l 0 R2 := fun R2 hV => by
    have hfl := wl_len hV.2.2.1 n0
    unfold w_X12_workSet_b434
    refine loop3 _ (fun (a i : Int) R => l = a ∧ 0 ≤ i ∧ i ≤ (FRq M0 pc t).length ∧ GS s l R2 R ((FRq M0 pc t).take i.toNat) ∧ (∀ k, k ≠ 73 → k ≠ 74 → R k = R2 k)) (fun _ (i : Int) _ => ((FRq M0 pc t).length - i).toNat) ?_ _ _ _ ⟨rfl, by omega, by omega, ⟨ES_r _ _ _, by rw [hV.1 74 (by decide)]; exact h74, fun j hj => absurd hj (Nat.not_lt_zero _), rfl, rfl⟩, fun _ _ _ => rfl⟩
    rintro _ i R f ⟨rfl, i0, i1, hG, hk⟩ ih
    unfold wb_X12_workSet_b434
    intro v1 e1 _
    rw [hk 0 (by decide) (by decide), hV.2.2.2.1] at e1
    refine ⟨fun z => hq R ?_, fun z => ⟨i0, by omega, fun v3 e3 _ => ?_⟩⟩
    · obtain ⟨g1, g2, g3, g4, g5⟩ := hG
      rw [List.take_of_length_le (by omega)] at g2 g3
      exact ⟨ES_t (VR_ES hV) g1, g2, g3, by rw [g4]; exact hV.2.1 98 (by decide), by rw [g5]; exact hV.2.1 103 (by decide)⟩
    · have hi : i.toNat < (FRq M0 pc t).length := by omega
      have hv := hV.2.2.2.2.1 i.toNat hi
      rw [show ((i.toNat : Nat) : Int) = i from by omega] at hv
      rw [hk 62 (by decide) (by decide), hv] at e3
      refine r_gat s0 s1 hl (by rw [List.length_take]; omega) hG (fun R3 hG3 hk3 => ⟨by unfold ri_; omega, ih _ _ _ ⟨rfl, by omega, by omega, ?_, fun k a b => by rw [hk3 k a b, hk k a b]⟩ (by omega)⟩)
      rw [show (i + 1).toNat = i.toNat + 1 from by omega, List.take_succ_eq_append_getElem hi]
      rw [e3, List.getD_eq_getElem?_getD, List.getElem?_eq_getElem hi] at hG3
      exact hG3
  have second : ∀ R2, VR R1 R2 (M0 pc 0) [t] → w_X12_workSet_b399 G Q l 0 R2 := fun R2 hV => by
    unfold w_X12_workSet_b399
    refine loop3 _ (fun (a k : Int) R => l = a ∧ 0 ≤ k ∧ k ≤ 401 ∧ ∃ (L : List Int) (m : Nat), VR R1 R (M0 pc 0) L ∧ (m : Int) + k = 401 ∧ bf (rsl M0 pc) (pln M0 pc) m k.toNat L = FRq M0 pc t) (fun _ (k : Int) _ => (401 - k).toNat) ?_ _ _ _ ⟨rfl, by omega, by omega, _, 401, hV, by omega, rfl⟩
    rintro _ k R f ⟨rfl, k0, k1, L, m, hm, hmk, hbf⟩ ih
    have hll := wl_len hm.2.2.1 n0
    unfold wb_X12_workSet_b399
    intro v1 e1 _
    rw [hm.2.2.2.1] at e1
    refine ⟨fun z => ?_, fun z v3 e3 _ => ⟨k0, by omega, fun v4 e4 _ => ?_⟩⟩
    · have : bf (rsl M0 pc) (pln M0 pc) m k.toNat L = L := by
        cases m with
        | zero => rfl
        | succ m =>
          show (if k.toNat < L.length then _ else L) = L
          rw [if_neg (by omega)]
      rw [this] at hbf
      rw [hbf] at hm
      exact last R hm
    · rw [hm.2.1 97 (by decide), h97] at e3
      rw [e3]
      have kl : k.toNat < L.length := by omega
      have hk := hm.2.2.2.2.1 k.toNat kl
      rw [show ((k.toNat : Nat) : Int) = k from by omega] at hk
      rw [hk] at e4
      rw [e4]
      have hx := hm.2.2.1.2 _ (gD_mem kl)
      refine p_R_visitSlots hYR hw hbR p0 p5 (Or.inl rfl) hx.1 hx.2 hm (fun M2 hm2 => ⟨by unfold ri_; omega, ih _ _ _ ⟨rfl, by omega, by omega, _, m - 1, hm2, by omega, ?_⟩ (by omega)⟩)
      rw [← hbf]
      have em : m = (m - 1) + 1 := by omega
      conv => rhs; rw [em]
      show _ = (if k.toNat < L.length then _ else L)
      rw [if_pos kl, show (k + 1).toNat = k.toNat + 1 from by omega, psl_r]
  unfold w_X12_workSet_b351
  refine loop4 _ (fun (a b u : Int) R => l = a ∧ t = b ∧ 0 ≤ u ∧ u ≤ M0 pc 0 ∧ (∀ k, k ≠ 60 → R k = R1 k) ∧ ∀ w, 0 ≤ w → w < u → R 60 w = 0) (fun _ _ (u : Int) _ => (M0 pc 0 - u).toNat) ?_ _ _ _ _ ⟨rfl, rfl, by omega, n0, fun _ _ => rfl, fun w a b => by omega⟩
  rintro _ _ u R f ⟨rfl, rfl, u0, u1, hk, hm⟩ ih
  unfold wb_X12_workSet_b351
  intro v1 e1 _
  rw [hk 0 (by decide), h97] at e1
  rw [e1]
  refine ⟨p0, p5, fun v2 e2 _ => ?_⟩
  rw [hk 38 (by decide), ← hbR.1] at e2
  refine ⟨fun z M4 e4 v5 e5 _ => ?_, fun z => ⟨u0, by omega, fun M8 e8 => ⟨by unfold ri_; omega, ih _ _ _ _ ⟨rfl, rfl, by omega, by omega, fun k hk2 => by rw [e8, ux_g _ _ _ hk2, hk k hk2], fun w w0 w1 => ?_⟩ (by omega)⟩⟩⟩
  · have hv0 : VR R1 M4 (M0 pc 0) [] := by
      refine ⟨fun k hk2 => ?_, fun i hi => ?_, ⟨List.nodup_nil, fun o ho => by simp at ho⟩, by rw [e4, ux_s]; rfl, fun k hk2 => by simp at hk2, fun w w0 w1 => ?_⟩
      · simp at hk2
        rw [e4, ux_g _ _ _ (by omega), hk k (by omega)]
      · rw [e4, ux_i _ _ _ hi, hk 0 (by decide)]
      · rw [e4, ux_c _ _ _ _ (by decide), hm w w0 (by omega), if_neg (by simp)]
    rw [hv0.2.1 97 (by decide), h97] at e5
    rw [e5]
    refine p_R_visit p0 p5 n0 n4 t0 t1 hv0 (fun M7 hm7 => second M7 ?_)
    rw [fl_y ⟨by omega, Or.inl rfl⟩, mt_new t0 (by simp)] at hm7
    exact hm7
  · rw [e8]
    by_cases y : w = u
    · rw [y, ux_s]
    · rw [ux_i _ _ _ y]; exact hm w w0 (by omega)
theorem FR_wl {M0 R0 : MM} {pc : Nat} {t : Int} (hw : PW M0 pc) (t0 : 0 ≤ t) (t1 : t < M0 pc 0) : wl (M0 pc 0) (FRq M0 pc t) := by
  refine bf_wl (fun o o0 o1 j hj => ?_) 401 0 [t] ⟨List.nodup_cons.mpr ⟨by simp, List.nodup_nil⟩, fun o ho => ?_⟩
  · unfold pln at hj
    have := (pw_lv hw o0 o1 (k := j) (by omega) (by omega)).1
    unfold rsl
    have := hw.1
    omega
  · rw [List.mem_singleton] at ho
    omega
