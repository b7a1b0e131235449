/-! sets worked out: slots, held by -/
theorem Gv_SL {c pc : Nat} {M0 R0 M : MM} {p B fo t src : Int} (hE : EnvQ c pc M0 R0 p B) (f0 : 0 ≤ fo) (f1 : fo < 11) (t0 : 0 ≤ t) (t1 : t < M0 pc 0) (hN : NS fo 30 src (M0 (pc + 4) t) (M0 (pc + 4) (t + 1)) M) : Gv M0 fo (M0 pc 0) B (lsG (fun x => lv M0 pc t (x - M0 (pc + 4) t)) (M0 (pc + 4) t) (pcn M0 pc t).toNat) M := by
  have hw := hE.2.2.2.2.2.2.1
  have hY := hE.2.2.2.2.2.1
  have n0 := hw.1
  have n4 := hw.2.1
  have hpc := pw_bd hY hw t0 t1
  have h7 := (hw.2.2.2.1 t t0 t1).2.2.2.2.2.2.1
  have sub : ∀ x, M0 (pc + 4) t ≤ x → x < M0 (pc + 4) (t + 1) → M0 (pc + 4) t + (x - M0 (pc + 4) t) = x := fun x _ _ => by omega
  have fst : 0 ≤ M0 (pc + 4) t ∧ M0 (pc + 4) (t + 1) ≤ 5000 := by
    have a := pw_f hY hw t0 (show t ≤ M0 pc 0 by omega)
    have b := pw_f hY hw (show 0 ≤ t + 1 by omega) (show t + 1 ≤ M0 pc 0 by omega)
    have d := hw.2.2.2.2.1
    omega
  refine Gv_N (lo := M0 (pc + 4) t) (hi := M0 (pc + 4) (t + 1)) (kd := 30) (src := src) f0 f1 fst.1 fst.2 (by decide) (fun x x0 x1 => (pw_lv hw t0 t1 (k := x - M0 (pc + 4) t) (by omega) (by omega)).1) (fun M2 hC2 h222 h223 x x0 x1 Q hq => ?_) _ _ M (by rw [show M0 (pc + 4) t + ((pcn M0 pc t).toNat : Nat) = M0 (pc + 4) (t + 1) from by omega]; exact hN) (by omega) (by omega)
  obtain ⟨q1, q2, q3⟩ := q_pic hE hC2
  have hin := pc_in hY hw t0 t1 (j := x - M0 (pc + 4) t) (by omega) (by omega)
  have hl := (pw_lv hw t0 t1 (k := x - M0 (pc + 4) t) (by omega) (by omega)).1
  unfold lv at hq hl
  rw [sub x x0 x1] at hq hl hin
  unfold w_X4_giveAt
  refine ⟨f0, f1, fun v1 e1 _ => ?_⟩
  rw [h222] at e1
  rw [e1]
  refine ⟨fun z => absurd z (by decide), fun _ => ⟨pc, q1, q2, hin.1, hin.2, fun v5 e5 _ => ⟨fun z => ?_, fun z => ⟨pc, q1, q2, hin.1, hin.2, fun v8 e8 _ => ?_⟩⟩⟩, fun z => absurd z (by decide), fun z => absurd rfl z.2.1⟩
  · rw [q3 10 (by omega)] at e5
    rw [if_pos (by omega)] at hq
    exact hq
  · rw [q3 10 (by omega)] at e5
    rw [q3 9 (by omega)] at e8
    rw [if_neg (by omega)] at hq hl
    rw [← e8] at hq hl
    exact ⟨by unfold ri_; omega, hq⟩
theorem r_SL {Q : Int → MM → Prop} {G : Nat → (Int → MM → Prop) → List Int → MM → Prop} {c pc : Nat} {M0 R0 R1 : MM} {p B s l t : Int} (hE : EnvQ c pc M0 R0 p B) (hR : RB0 p R0 R1) (s0 : 0 ≤ s) (s1 : s ≤ 10) (hl : l = s ∨ l = 11) (t0 : 0 ≤ t) (t1 : t < M0 pc 0) (h74 : R1 74 l = 0) (hq : ∀ R', GS s l R1 R' (lsG (fun x => lv M0 pc t (x - M0 (pc + 4) t)) (M0 (pc + 4) t) (pcn M0 pc t).toNat) → Q 0 R') : w_X12_workSet_b175 G Q l t 0 R1 := by
  have hw := hE.2.2.2.2.2.2.1
  have hY := hE.2.2.2.2.2.1
  have hb := hE.2.2.2.2.2.2.2.1
  obtain ⟨p0, p5⟩ : 0 ≤ p ∧ p < 5 := ⟨hE.2.2.2.2.2.2.2.2.1, hE.2.2.2.2.2.2.2.2.2.1⟩
  have n4 := hw.2.1
  have hpc := pw_bd hY hw t0 t1
  unfold w_X12_workSet_b175
  refine loop4 _ (fun (a b i : Int) R => l = a ∧ t = b ∧ 0 ≤ i ∧ i ≤ pcn M0 pc t ∧ GS s l R1 R (lsG (fun x => lv M0 pc t (x - M0 (pc + 4) t)) (M0 (pc + 4) t) i.toNat)) (fun _ _ (i : Int) _ => (pcn M0 pc t - i).toNat) ?_ _ _ _ _ ⟨rfl, rfl, by omega, hpc.1, ES_r _ _ _, h74, fun j hj => absurd hj (Nat.not_lt_zero _), rfl, rfl⟩
  rintro _ _ i R f ⟨rfl, rfl, i0, i1, hG⟩ ih
  have hR' := RB0_S hR hG.1
  have hYR := Y_r hY hR'
  have hbR := B_e hE hR'
  have h97 := hR'.2.2
  have sn : (i + 1).toNat = i.toNat + 1 := by omega
  have ll := lsG_len (ga := fun x => lv M0 pc t (x - M0 (pc + 4) t)) i.toNat (M0 (pc + 4) t)
  have ls := lsG_s (ga := fun x => lv M0 pc t (x - M0 (pc + 4) t)) i.toNat (M0 (pc + 4) t)
  simp only [show M0 (pc + 4) t + (i.toNat : Nat) - M0 (pc + 4) t = i from by omega] at ls
  rw [← sn] at ls
  unfold wb_X12_workSet_b175
  intro v1 e1 _
  rw [h97] at e1
  rw [e1]
  refine p_slotsIn hYR hw hbR p0 p5 t0 t1 (fun _ => ⟨fun z => ?_, fun z v5 e5 _ => ?_⟩)
  · rw [show i = pcn M0 pc t from by omega] at hG
    exact hq R hG
  rw [h97] at e5
  rw [e5]
  obtain ⟨l1, l2, l3⟩ := pw_lv hw t0 t1 i0 (show i < pcn M0 pc t by omega)
  have no : lv M0 pc t i = -1 → w_X12_workSet_b242 G Q f l t i R := fun hn => by
    unfold w_X12_workSet_b242
    rw [if_pos hn, List.append_nil] at ls
    exact ⟨by unfold ri_; omega, ih _ _ _ _ ⟨rfl, rfl, by omega, by omega, by rw [ls]; exact hG⟩ (by omega)⟩
  refine p_linksIn hYR hw hbR p0 p5 t0 t1 i0 (by omega) (fun zk _ => ⟨fun y => absurd y (by decide), fun _ v9 e9 _ => ?_⟩) (fun zk _ => ⟨fun _ => no (l3 zk), fun y => absurd rfl y⟩)
  rw [h97] at e9
  rw [e9]
  refine p_valueIn hYR hw hbR p0 p5 t0 t1 i0 (by omega) (fun _ _ => ?_)
  rw [← l2 zk]
  refine ⟨fun z3 => no z3, fun z3 v13 e13 _ => ?_⟩
  rw [h97] at e13
  rw [e13]
  refine p_valueIn hYR hw hbR p0 p5 t0 t1 i0 (by omega) (fun _ _ => ?_)
  rw [← l2 zk]
  refine ⟨by unfold ri_; omega, r_gat s0 s1 hl (by omega) hG (fun R2 hG2 _ => ?_)⟩
  unfold w_X12_workSet_b242
  rw [if_neg z3] at ls
  exact ⟨by unfold ri_; omega, ih _ _ _ _ ⟨rfl, rfl, by omega, by omega, by rw [ls]; exact hG2⟩ (by omega)⟩
/-- the things that hold one -/
def hP_ (L : List (Int × Int)) : List Int := (L.map Prod.fst).filter (fun x => decide (x ≠ -1))
theorem hP_a (A B : List (Int × Int)) : hP_ (A ++ B) = hP_ A ++ hP_ B := by unfold hP_; rw [List.map_append, List.filter_append]
theorem hP_R (C : MM) (c : Nat) (t : Int) : ∀ r : Nat, hP_ (hR C c t r) = []
  | 0 => rfl
  | r + 1 => by
    rw [hR_s]
    split
    · rw [hP_a, hP_R C c t r]; rfl
    · exact hP_R C c t r
theorem hP_K {C : MM} {c : Nat} {t u : Int} (u0 : 0 ≤ u) (k : Nat) : hP_ (hK C c t u (k + 1)) = if lv C c u k = t then hP_ (hK C c t u k) ++ [u] else hP_ (hK C c t u k) := by
  rw [hK_s]
  split
  · rw [hP_a]
    have : hP_ [(u, (k : Int))] = [u] := by
      unfold hP_
      have d : decide (u ≠ -1) = true := decide_eq_true (by omega)
      simp only [List.map_cons, List.map_nil, List.filter_cons, List.filter_nil]
      rw [if_pos d]
    rw [this]
  · rfl
theorem hP_Kl {C : MM} {c : Nat} {t u : Int} (u0 : 0 ≤ u) : ∀ k : Nat, (hP_ (hK C c t u k)).length ≤ k
  | 0 => Nat.le_refl _
  | k + 1 => by
    have := hP_Kl (C := C) (c := c) (t := t) u0 k
    rw [hP_K u0]
    split
    · rw [List.length_append]; simp; omega
    · omega
theorem hP_Ul {C R0 : MM} {c : Nat} (hY : Rty C R0) (hw : PW C c) {t : Int} : ∀ u : Nat, (u : Int) ≤ C c 0 → ((hP_ (hU C c t u)).length : Int) ≤ C (c + 4) u
  | 0, _ => by
    show ((hP_ (hR C c t (C c 11).toNat)).length : Int) ≤ C (c + 4) 0
    rw [hP_R, hw.2.2.1]; exact Int.le_refl _
  | u + 1, hu => by
    have ih := hP_Ul hY hw (t := t) u (by omega)
    have h7 := (hw.2.2.2.1 u (by omega) (by omega)).2.2.2.2.2.2.1
    have hk := hP_Kl (C := C) (c := c) (t := t) (u := (u : Int)) (by omega) (pcn C c u).toNat
    have hp := pw_bd hY hw (t := (u : Int)) (by omega) (by omega)
    rw [hU_s, hP_a, List.length_append, show ((u + 1 : Nat) : Int) = (u : Int) + 1 from by omega, h7]
    omega
theorem lsG_f {ga : Int → Int} : ∀ (L : List Int) (i : Int), (∀ k : Nat, k < L.length → ga (i + k) = L.getD k 0) → lsG ga i L.length = L.filter (fun x => decide (x ≠ -1))
  | [], i, h => rfl
  | a :: L, i, h => by
    have h0 : ga i = a := by
      have := h 0 (by simp)
      simpa using this
    have ih := lsG_f (ga := ga) L (i + 1) (fun k hk => by
      have := h (k + 1) (by simpa using hk)
      rw [show i + ((k + 1 : Nat) : Int) = i + 1 + (k : Int) from by omega] at this
      rw [this]; rfl)
    show (if ga i = -1 then lsG ga (i + 1) L.length else ga i :: lsG ga (i + 1) L.length) = _
    rw [h0, ih, List.filter_cons]
    by_cases z : a = -1
    · rw [if_pos z, if_neg (by rw [decide_eq_true_eq]; exact fun y => y z)]
    · rw [if_neg z, if_pos (decide_eq_true z)]
theorem Gv_H {c pc : Nat} {M0 R0 M : MM} {p B fo t src : Int} (hE : EnvQ c pc M0 R0 p B) (hD : HD M0 pc) (f0 : 0 ≤ fo) (f1 : fo < 11) (t0 : 0 ≤ t) (t1 : t < M0 pc 0) (hN : NS fo 31 src (M0 (pc + 19) t) (M0 (pc + 19) (t + 1)) M) : Gv M0 fo (M0 pc 0) B (hP_ (hl M0 pc t)) M := by
  have hw := hE.2.2.2.2.2.2.1
  have hY := hE.2.2.2.2.2.1
  have n0 := hw.1
  have n4 := hw.2.1
  obtain ⟨d1, d2⟩ := hD.2 t t0 t1
  have bd : 0 ≤ M0 (pc + 19) t ∧ M0 (pc + 19) (t + 1) ≤ 4108 := by
    have s1 := HD_hs hD t.toNat (by omega)
    have s2 := HD_hs hD (t.toNat + 1) (by omega)
    rw [show ((t.toNat : Nat) : Int) = t from by omega] at s1
    rw [show ((t.toNat + 1 : Nat) : Int) = t + 1 from by omega] at s2
    have m0 := hs_m M0 pc 0 t.toNat (by omega)
    have m1 := hs_m M0 pc (t.toNat + 1) (M0 pc 0).toNat (by omega)
    have m2 := hs_bd hY hw
    have z0 : hs M0 pc 0 = 0 := rfl
    omega
  have ga : ∀ j : Nat, j < (hl M0 pc t).length → M0 (pc + 20) (M0 (pc + 19) t + j) = ((hl M0 pc t).map Prod.fst).getD j 0 := fun j hj => by
    rw [(d2 j hj).1, List.getD_eq_getElem?_getD, List.getD_eq_getElem?_getD, List.getElem?_map, List.getElem?_eq_getElem hj]
    rfl
  have el : hP_ (hl M0 pc t) = lsG (M0 (pc + 20)) (M0 (pc + 19) t) (hl M0 pc t).length := by
    have := lsG_f (ga := M0 (pc + 20)) ((hl M0 pc t).map Prod.fst) (M0 (pc + 19) t) (fun k hk => ga k (by rw [List.length_map] at hk; exact hk))
    rw [List.length_map] at this
    rw [this]; rfl
  rw [el]
  refine Gv_N (lo := M0 (pc + 19) t) (hi := M0 (pc + 19) (t + 1)) (kd := 31) (src := src) f0 f1 bd.1 (by omega) (by decide) (fun x x0 x1 => ?_) (fun M2 hC2 h222 h223 x x0 x1 Q hq => ?_) _ _ M (by rw [← d1]; exact hN) (by omega) (by omega)
  · have hx := d2 (x - M0 (pc + 19) t).toNat (by omega)
    rw [show M0 (pc + 19) t + ((x - M0 (pc + 19) t).toNat : Nat) = x from by omega] at hx
    rcases (hl_in n0 t0 (M0 (pc + 20) x)).mp (hl_at.mpr ⟨_, by omega, hx.1.symm⟩) with ⟨h, -⟩ | h
    · exact Or.inl h
    · exact Or.inr ⟨h.1, h.2.1⟩
  · obtain ⟨q1, q2, q3⟩ := q_pic hE hC2
    unfold w_X4_giveAt
    refine ⟨f0, f1, fun v1 e1 _ => ?_⟩
    rw [h222] at e1
    rw [e1]
    refine ⟨fun z => absurd z (by decide), fun z => absurd z (by decide), fun _ => ⟨pc, q1, q2, by omega, by omega, fun v12 e12 _ => ?_⟩, fun z => absurd rfl z.2.2⟩
    rw [q3 20 (by omega)] at e12
    rw [e12]
    exact hq
theorem r_H {Q : Int → MM → Prop} {G : Nat → (Int → MM → Prop) → List Int → MM → Prop} {c pc : Nat} {M0 R0 R1 : MM} {p B s l t : Int} (hE : EnvQ c pc M0 R0 p B) (hRb : RB0 p R0 R1) (s0 : 0 ≤ s) (s1 : s ≤ 10) (hl' : l = s ∨ l = 11) (t0 : 0 ≤ t) (t1 : t < M0 pc 0) (h74 : R1 74 l = 0) (hq : ∀ R', GS s l R1 R' (hP_ (hl M0 pc t)) → Q 0 R') : w_X12_workSet_b260 G Q l t 0 R1 := by
  have hw := hE.2.2.2.2.2.2.1
  have hY := hE.2.2.2.2.2.1
  have hb := hE.2.2.2.2.2.2.2.1
  obtain ⟨p0, p5⟩ : 0 ≤ p ∧ p < 5 := ⟨hE.2.2.2.2.2.2.2.2.1, hE.2.2.2.2.2.2.2.2.2.1⟩
  have n0 := hw.1
  have n4 := hw.2.1
  unfold w_X12_workSet_b260
  refine loop4 _ (fun (a b u : Int) R => l = a ∧ t = b ∧ 0 ≤ u ∧ u ≤ M0 pc 0 ∧ GS s l R1 R (hP_ (hU M0 pc t u.toNat))) (fun _ _ (u : Int) _ => (M0 pc 0 - u).toNat) ?_ _ _ _ _ ⟨rfl, rfl, by omega, n0, ES_r _ _ _, by show _ = ((hP_ (hR M0 pc t (M0 pc 11).toNat)).length : Int); rw [hP_R]; exact h74, fun j hj => absurd hj (by show ¬ j < (hP_ (hR M0 pc t (M0 pc 11).toNat)).length; rw [hP_R]; exact Nat.not_lt_zero _), rfl, rfl⟩
  rintro _ _ u R f ⟨rfl, rfl, u0, u1, hG⟩ ih
  have hR' := RB0_S hRb hG.1
  have hbR := B_e hE hR'
  have h97 := hR'.2.2
  have un : ((u.toNat : Nat) : Int) = u := by omega
  unfold wb_X12_workSet_b260
  intro v1 e1 _
  rw [h97] at e1
  rw [e1]
  refine ⟨p0, p5, fun v2 e2 _ => ?_⟩
  rw [← hbR.1] at e2
  refine ⟨fun z => ?_, fun z => ?_⟩
  · rw [show u = M0 pc 0 from by omega] at hG
    exact hq R hG
  have u2 : u < M0 pc 0 := by omega
  have hpc := pw_bd hY hw u0 u2
  have hUl := hP_Ul hY hw (t := t) u.toNat (by omega)
  rw [un] at hUl
  have hfu := pw_f hY hw u0 u1
  have h4000 := hw.2.2.2.2.1
  unfold w_X12_workSet_b277
  refine loop5 _ (fun (a b e k : Int) R => l = a ∧ t = b ∧ u = e ∧ 0 ≤ k ∧ k ≤ pcn M0 pc u ∧ GS s l R1 R (hP_ (hU M0 pc t u.toNat) ++ hP_ (hK M0 pc t u k.toNat))) (fun _ _ _ (k : Int) _ => (pcn M0 pc u - k).toNat) ?_ _ _ _ _ _ ⟨rfl, rfl, rfl, by omega, hpc.1, by show GS s l R1 R (_ ++ []); rw [List.append_nil]; exact hG⟩
  rintro _ _ _ k R2 g ⟨rfl, rfl, rfl, k0, k1, hG2⟩ ih2
  have hR2 := RB0_S hRb hG2.1
  have hYR := Y_r hY hR2
  have hbR2 := B_e hE hR2
  have h972 := hR2.2.2
  have sn : (k + 1).toNat = k.toNat + 1 := by omega
  have hKl := hP_Kl (C := M0) (c := pc) (t := t) u0 k.toNat
  have ks := hP_K (C := M0) (c := pc) (t := t) u0 k.toNat
  rw [show ((k.toNat : Nat) : Int) = k from by omega, ← sn] at ks
  unfold wb_X12_workSet_b277
  intro v3 e3 _
  rw [h972] at e3
  rw [e3]
  refine p_slotsIn hYR hw hbR2 p0 p5 u0 u2 (fun _ => ⟨fun z2 => ?_, fun z2 v6 e6 _ => ?_⟩)
  · refine ⟨by unfold ri_; omega, ih _ _ _ _ ⟨rfl, rfl, by omega, by omega, ?_⟩ (by omega)⟩
    rw [show (u + 1).toNat = u.toNat + 1 from by omega, hU_s, hP_a, un, show (pcn M0 pc u).toNat = k.toNat from by omega]
    exact hG2
  rw [h972] at e6
  rw [e6]
  obtain ⟨l1, l2, l3⟩ := pw_lv hw u0 u2 k0 (show k < pcn M0 pc u by omega)
  have no : lv M0 pc u k ≠ t → w_X12_workSet_b333 G Q f g l t u k R2 := fun hn => by
    unfold w_X12_workSet_b333
    rw [if_neg hn] at ks
    exact ⟨by unfold ri_; omega, ih2 _ _ _ _ _ ⟨rfl, rfl, rfl, by omega, by omega, by rw [ks]; exact hG2⟩ (by omega)⟩
  refine p_linksIn hYR hw hbR2 p0 p5 u0 u2 k0 (by omega) (fun zk _ => ⟨fun y => absurd y (by decide), fun _ v10 e10 _ => ?_⟩) (fun zk _ => ⟨fun _ => no (by rw [l3 zk]; omega), fun y => absurd rfl y⟩)
  rw [h972] at e10
  rw [e10]
  refine p_valueIn hYR hw hbR2 p0 p5 u0 u2 k0 (by omega) (fun _ _ => ?_)
  rw [← l2 zk]
  have pe := (pw_end hY hw u0 u2)
  refine ⟨no, fun z4 => r_gat s0 s1 hl' (by rw [List.length_append]; have := pw_at hY hw u0 u2 k0 (show k < pcn M0 pc u by omega); omega) hG2 (fun R3 hG3 _ => ?_)⟩
  unfold w_X12_workSet_b333
  rw [if_pos z4] at ks
  exact ⟨by unfold ri_; omega, ih2 _ _ _ _ _ ⟨rfl, rfl, rfl, by omega, by omega, by rw [ks, ← List.append_assoc]; exact hG3⟩ (by omega)⟩
