/-! what is reached in a picture: the reference -/
noncomputable def fl (S : Int → Prop) (v : Int) : Int := @ite _ (S v) (Classical.propDecidable _) v (-1)
theorem fl_y {S : Int → Prop} {v : Int} (h : S v) : fl S v = v := by unfold fl; rw [if_pos h]
theorem fl_n {S : Int → Prop} {v : Int} (h : ¬ S v) : fl S v = -1 := by unfold fl; rw [if_neg h]
theorem fl_or (S : Int → Prop) (v : Int) : (fl S v = v ∧ S v) ∨ (fl S v = -1 ∧ ¬ S v) := by
  by_cases h : S v
  · exact Or.inl ⟨fl_y h, h⟩
  · exact Or.inr ⟨fl_n h, h⟩
noncomputable def psl (C : MM) (c : Nat) (S : Int → Prop) (t : Int) (k : Nat) : Int := fl S (lv C c t k)
def pln (C : MM) (c : Nat) (t : Int) : Nat := (pcn C c t).toNat
noncomputable def prL (C : MM) (c : Nat) (S : Int → Prop) : List Int := fm (fun r => fl S (C (c + 12) r)) (C c 11).toNat []
noncomputable def vis (C : MM) (c : Nat) (S : Int → Prop) (L : List Int) : List Int := bf (psl C c S) (pln C c) 401 0 L
def sB (A : MM) (p but nc : Int) (t : Int) : Prop := t ≠ but ∧ (nc = 0 ∨ A 59 (400 * p + t) = 0)
def VR (A M : MM) (n : Int) (L : List Int) : Prop := (∀ k, k ∉ [0, 60, 62] → M k = A k) ∧ (∀ i, i ≠ 73 → M 0 i = A 0 i) ∧ wl n L ∧ M 0 73 = L.length ∧ (∀ k : Nat, k < L.length → M 62 k = L.getD k 0) ∧ (∀ t, 0 ≤ t → t < n → M 60 t = if t ∈ L then 1 else 0)
theorem VR_Y {C A M : MM} {n : Int} {L : List Int} (hY : Rty C A) (h : VR A M n L) : Rty C M := Rty_R hY (fun k a b _ => h.1 k (by simp; omega)) (h.2.1 20 (by decide))
theorem VR_b {C A M : MM} {c : Nat} {p n : Int} {L : List Int} (hb : Rpb C A c p) (h : VR A M n L) : Rpb C M c p := Rpb_M hb (fun k hk => h.1 k (by intro q; simp at q hk; omega))
theorem p_R_visit {Q : Int → MM → Prop} {A M : MM} {n p u but nc : Int} {L : List Int} (p0 : 0 ≤ p) (p5 : p < 5) (n0 : 0 ≤ n) (n4 : n ≤ 400) (u0 : 0 ≤ u) (u1 : u < n) (h : VR A M n L) (hq : ∀ M', VR A M' n (mt L (fl (sB A p but nc) u)) → Q 0 M') : w_X12_visit Q p u but nc M := by
  have h' := h
  obtain ⟨h1, h2, h3, h4, h5, h6⟩ := h
  have hll := wl_len h3 n0
  have same : u ∈ L ∨ ¬ sB A p but nc u → Q 0 M := fun hs => hq M (by
    rcases hs with q | q
    · rcases fl_or (sB A p but nc) u with ⟨e, -⟩ | ⟨e, -⟩
      · rw [e, mt_in q]; exact h'
      · rw [e, mt_neg (by omega)]; exact h'
    · rw [fl_n q, mt_neg (by omega)]; exact h')
  unfold w_X12_visit
  refine ⟨u0, by omega, fun v1 e1 _ => ?_⟩
  rw [h6 u u0 u1] at e1
  refine ⟨fun z => same (Or.inl ?_), fun z => ⟨fun z2 => same (Or.inr fun q => q.1 z2), fun z2 => ?_⟩⟩
  · by_cases q : u ∈ L
    · exact q
    · rw [if_neg q] at e1; exact absurd e1 z
  · have hn : u ∉ L := fun q => by rw [if_pos q] at e1; omega
    have hlt := wl_lt h3 u0 u1 hn
    have put : sB A p but nc u → w_X12_visit_b34 Q u M := by
      intro hs
      have em : mt L (fl (sB A p but nc) u) = L ++ [u] := by rw [fl_y hs, mt_new u0 hn]
      have hw' := mt_wl h3 (v := fl (sB A p but nc) u) (by rw [fl_y hs]; exact u1)
      unfold w_X12_visit_b34
      refine ⟨u0, by omega, fun M1 e1 v2 e2 _ => ?_⟩
      rw [e1, ux_c _ _ _ _ (by decide), h4] at e2
      subst e2
      refine ⟨by omega, by omega, fun M3 e3 v4 e4 _ => ?_⟩
      rw [e3, e1, ux_c _ _ _ _ (by decide), ux_c _ _ _ _ (by decide), h4] at e4
      subst e4
      refine ⟨by unfold ri_; omega, fun M6 e6 => hq M6 ⟨fun k hk => ?_, fun i hi => ?_, hw', ?_, fun k hk => ?_, fun t t0 t1 => ?_⟩⟩
      · simp at hk
        funext i
        rw [e6, e3, e1, ux_c _ _ _ _ (by omega), ux_c _ _ _ _ (by omega), ux_c _ _ _ _ (by omega), h1 k (by simp; omega)]
      · rw [e6, ux_i _ _ _ hi, e3, e1, ux_c _ _ _ _ (by decide), ux_c _ _ _ _ (by decide), h2 i hi]
      · rw [e6, ux_s, em, List.length_append]; simp
      · rw [em] at hk ⊢
        rw [List.length_append] at hk
        simp at hk
        rw [e6, ux_c _ _ _ _ (by decide), e3]
        by_cases y : k = L.length
        · rw [y, ux_s, gD_last]
        · rw [ux_i _ _ _ (by omega), e1, ux_c _ _ _ _ (by decide), gD_app (by omega)]; exact h5 k (by omega)
      · rw [e6, ux_c _ _ _ _ (by decide), e3, ux_c _ _ _ _ (by decide), e1, em]
        by_cases y : t = u
        · rw [y, ux_s, if_pos (List.mem_append_right _ (List.mem_singleton.mpr rfl))]
        · rw [ux_i _ _ _ y, h6 t t0 t1]
          by_cases y2 : t ∈ L
          · rw [if_pos y2, if_pos (List.mem_append_left _ y2)]
          · have y3 : ¬ t ∈ L ++ [u] := fun q => by
              rw [List.mem_append, List.mem_singleton] at q
              rcases q with q | q
              · exact y2 q
              · exact y q
            rw [if_neg y2, if_neg y3]
    refine ⟨fun z4 => put ⟨z2, Or.inl z4⟩, fun z4 => p_at p0 p5 u0 (by omega) fun _ => ⟨by omega, by omega, fun v7 e7 _ => ?_⟩⟩
    rw [h1 59 (by decide)] at e7
    exact ⟨fun z7 => put ⟨z2, Or.inr (by rw [← e7]; exact z7)⟩, fun z7 => same (Or.inr fun q => by rcases q.2 with q2 | q2; exact z4 q2; exact z7 (by rw [e7]; exact q2))⟩
theorem psl_n {C : MM} {c : Nat} {S : Int → Prop} (hw : PW C c) {t : Int} (t0 : 0 ≤ t) (t1 : t < C c 0) (j : Nat) (hj : j < pln C c t) : psl C c S t j < C c 0 ∧ (psl C c S t j = -1 ∨ 0 ≤ psl C c S t j) := by
  have n0 := hw.1
  unfold pln at hj
  have h := (pw_lv hw t0 t1 (k := j) (by omega) (by omega)).1
  unfold psl
  rcases fl_or S (lv C c t j) with ⟨e, -⟩ | ⟨e, -⟩
  · rw [e]; omega
  · rw [e]; omega
set_option maxHeartbeats 400000 in
theorem p_R_visitSlots {Q : Int → MM → Prop} {C A M : MM} {c : Nat} {p t but nc : Int} {L : List Int} (hY : Rty C A) (hw : PW C c) (hb : Rpb C A c p) (p0 : 0 ≤ p) (p5 : p < 5) (hnc : nc = 0 ∨ nc = 1) (t0 : 0 ≤ t) (t1 : t < C c 0) (h : VR A M (C c 0) L) (hq : ∀ M', VR A M' (C c 0) (fm (psl C c (sB A p but nc) t) (pln C c t) L) → Q 0 M') : w_X12_visitSlots Q p t but nc M := by
  have n0 := hw.1
  have n4 := hw.2.1
  have hpc := pw_bd hY hw t0 t1
  unfold w_X12_visitSlots
  refine loop6 _ (fun (a b d e k : Int) M1 => p = a ∧ t = b ∧ but = d ∧ nc = e ∧ 0 ≤ k ∧ k ≤ pcn C c t ∧ VR A M1 (C c 0) (fm (psl C c (sB A p but nc) t) k.toNat L)) (fun _ _ _ _ (k : Int) _ => (pcn C c t - k).toNat) ?_ _ _ _ _ _ _ ⟨rfl, rfl, rfl, rfl, by omega, hpc.1, h⟩
  rintro _ _ _ _ k M1 f ⟨rfl, rfl, rfl, rfl, k0, k1, hm⟩ ih
  have hY1 := VR_Y hY hm
  have hb1 := VR_b hb hm
  have kk : ((k.toNat : Nat) : Int) = k := by omega
  have sn : (k + 1).toNat = k.toNat + 1 := by omega
  unfold wb_X12_visitSlots_b3
  refine p_slotsIn hY1 hw hb1 p0 p5 t0 t1 fun _ => ⟨fun z => ?_, fun z => ?_⟩
  · have e : k.toNat = pln C c t := by unfold pln; omega
    rw [e] at hm
    exact hq M1 hm
  · have k2 : k < pcn C c t := by omega
    obtain ⟨l1, l2, l3⟩ := pw_lv hw t0 t1 k0 k2
    have nxt : ∀ M2, VR A M2 (C c 0) (mt (fm (psl C c (sB A p but nc) t) k.toNat L) (psl C c (sB A p but nc) t k.toNat)) → w_X12_visitSlots_b56 Q f p t but nc k M2 := fun M2 hm2 => by
      unfold w_X12_visitSlots_b56
      exact ⟨by unfold ri_; omega, ih _ _ _ _ _ _ ⟨rfl, rfl, rfl, rfl, by omega, by omega, by rw [sn]; exact hm2⟩ (by omega)⟩
    have go : ∀ u, u = lv C c t k → w_X12_visitSlots_b38 Q f p t but nc k u M1 := by
      intro u hu
      unfold w_X12_visitSlots_b38
      refine ⟨fun z3 => nxt M1 ?_, fun z3 => ⟨hnc, ?_⟩⟩
      · have : psl C c (sB A p but nc) t k.toNat = -1 := by
          unfold psl
          rw [kk, ← hu, z3]
          rcases fl_or (sB A p but nc) (-1) with ⟨e, -⟩ | ⟨e, -⟩ <;> exact e
        rw [this, mt_neg (by omega)]; exact hm
      · have u01 : 0 ≤ u ∧ u < C c 0 := by rcases l1 with q | q; omega; omega
        refine p_R_visit p0 p5 n0 n4 u01.1 u01.2 hm (fun M2 hm2 => nxt M2 ?_)
        have : psl C c (sB A p but nc) t k.toNat = fl (sB A p but nc) u := by
          unfold psl
          rw [kk, ← hu]
        rw [this]; exact hm2
    refine p_linksIn hY1 hw hb1 p0 p5 t0 t1 k0 k2 (fun zk _ => ⟨fun q => by omega, fun _ => p_valueIn hY1 hw hb1 p0 p5 t0 t1 k0 k2 fun _ _ => ?_⟩) (fun zk _ => ⟨fun _ => go (-1) (l3 zk).symm, fun q => absurd rfl q⟩)
    rw [← l2 zk]
    exact ⟨by unfold ri_; omega, go _ rfl⟩
/-- where a walk in a picture begins: the roots, or a thing's links -/
noncomputable def beg (C : MM) (c : Nat) (S : Int → Prop) (one : Int) : List Int := if one = -1 then prL C c S else fm (psl C c S one) (pln C c one) []
theorem beg_wl {C : MM} {c : Nat} (hw : PW C c) {S : Int → Prop} {one : Int} (h1 : one = -1 ∨ (0 ≤ one ∧ one < C c 0)) : wl (C c 0) (beg C c S one) := by
  have n0 := hw.1
  have hn : wl (C c 0) [] := ⟨List.nodup_nil, fun o ho => by simp at ho⟩
  unfold beg
  by_cases z : one = -1
  · rw [if_pos z]
    refine fm_wl hn _ fun r hr => ?_
    have := (hw.2.2.2.2.2.2.2.2.2.1 r (by omega) (by omega)).2.1
    rcases fl_or S (C (c + 12) r) with ⟨e, -⟩ | ⟨e, -⟩
    · rw [e]; exact this
    · rw [e]; omega
  · rw [if_neg z]
    exact fm_wl hn _ fun j hj => (psl_n hw (by omega) (by omega) j hj).1
set_option maxHeartbeats 400000 in
theorem p_R_reach {Q : Int → MM → Prop} {C A : MM} {c : Nat} {p one but nc : Int} (hY : Rty C A) (hw : PW C c) (hb : Rpb C A c p) (p0 : 0 ≤ p) (p5 : p < 5) (hnc : nc = 0 ∨ nc = 1) (ho : one = -1 ∨ (0 ≤ one ∧ one < C c 0)) (hq : ∀ M', VR A M' (C c 0) (vis C c (sB A p but nc) (beg C c (sB A p but nc) one)) → Q 0 M') : w_X12_reach Q p one but nc A := by
  have n0 := hw.1
  have n4 := hw.2.1
  obtain ⟨-, -, -, -, -, -, -, r0, r1, hr, -⟩ := id hw
  have hbw := beg_wl hw (S := sB A p but nc) ho
  have third : ∀ M, VR A M (C c 0) (beg C c (sB A p but nc) one) → w_X12_reach_b91 Q p but nc M := by
    intro M hm0
    unfold w_X12_reach_b91
    refine loop5 _ (fun (a b d k : Int) M1 => p = a ∧ but = b ∧ nc = d ∧ 0 ≤ k ∧ k ≤ 401 ∧ ∃ (L : List Int) (m : Nat), VR A M1 (C c 0) L ∧ (m : Int) + k = 401 ∧ bf (psl C c (sB A p but nc)) (pln C c) m k.toNat L = vis C c (sB A p but nc) (beg C c (sB A p but nc) one)) (fun _ _ _ (k : Int) _ => (401 - k).toNat) ?_ _ _ _ _ _ ⟨rfl, rfl, rfl, by omega, by omega, _, 401, hm0, by omega, rfl⟩
    rintro _ _ _ k M1 f ⟨rfl, rfl, rfl, k0, k1, L, m, hm, hmk, hbf⟩ ih
    have hll := wl_len hm.2.2.1 n0
    unfold wb_X12_reach_b94
    intro v1 e1 _
    rw [hm.2.2.2.1] at e1
    subst e1
    refine ⟨fun z => ?_, fun z => ⟨k0, by omega, fun v3 e3 _ => ⟨hnc, ?_⟩⟩⟩
    · have : bf (psl C c (sB A p but nc)) (pln C c) m k.toNat L = L := by
        cases m with
        | zero => rfl
        | succ m =>
          show (if k.toNat < L.length then _ else L) = L
          rw [if_neg (by omega)]
      rw [this] at hbf
      rw [hbf] at hm
      exact hq M1 hm
    · have kk : ((k.toNat : Nat) : Int) = k := by omega
      have kl : k.toNat < L.length := by omega
      have hk := hm.2.2.2.2.1 k.toNat kl
      rw [kk] at hk
      rw [hk] at e3
      rw [e3]
      have hx := hm.2.2.1.2 _ (gD_mem kl)
      refine p_R_visitSlots hY hw hb p0 p5 hnc hx.1 hx.2 hm (fun M2 hm2 => ⟨by unfold ri_; omega, ih _ _ _ _ _ ⟨rfl, rfl, rfl, by omega, by omega, _, m - 1, hm2, by omega, ?_⟩ (by omega)⟩)
      rw [← hbf]
      have em : m = (m - 1) + 1 := by omega
      conv => rhs; rw [em]
      show _ = (if k.toNat < L.length then _ else L)
      rw [if_pos kl, show (k + 1).toNat = k.toNat + 1 from by omega]
  unfold w_X12_reach
  refine loop6 _ (fun (a b d e t : Int) M1 => p = a ∧ one = b ∧ but = d ∧ nc = e ∧ 0 ≤ t ∧ t ≤ C c 0 ∧ (∀ k, k ≠ 60 → M1 k = A k) ∧ ∀ u, 0 ≤ u → u < t → M1 60 u = 0) (fun _ _ _ _ (t : Int) _ => (C c 0 - t).toNat) ?_ _ _ _ _ _ _ ⟨rfl, rfl, rfl, rfl, by omega, n0, fun _ _ => rfl, fun u a b => by omega⟩
  rintro _ _ _ _ t M1 f ⟨rfl, rfl, rfl, rfl, t0, t1, hk, hm⟩ ih
  unfold wb_X12_reach_b3
  refine ⟨p0, p5, fun v1 e1 _ => ?_⟩
  rw [hk 38 (by decide), ← hb.1] at e1
  subst e1
  refine ⟨fun z M3 e3 => ?_, fun z => ⟨t0, by omega, fun M7 e7 => ⟨by unfold ri_; omega, ih _ _ _ _ _ _ ⟨rfl, rfl, rfl, rfl, by omega, by omega, fun k hk2 => funext fun i => by rw [e7, ux_c _ _ _ _ hk2, hk k hk2], fun u u0 u1 => ?_⟩ (by omega)⟩⟩⟩
  · have hv0 : VR A M3 (C c 0) [] := by
      refine ⟨fun k hk2 => ?_, fun i hi => ?_, ⟨List.nodup_nil, fun o ho => by simp at ho⟩, by rw [e3, ux_s]; rfl, fun k hk2 => by simp at hk2, fun u u0 u1 => ?_⟩
      · simp at hk2
        funext i
        rw [e3, ux_c _ _ _ _ (by omega), hk k (by omega)]
      · rw [e3, ux_i _ _ _ hi, hk 0 (by decide)]
      · rw [e3, ux_c _ _ _ _ (by decide), hm u u0 (by omega), if_neg (by simp)]
    refine ⟨fun zo => ⟨hnc, ?_⟩, fun zo => ?_⟩
    · refine p_R_visitSlots hY hw hb p0 p5 hnc (by omega) (by omega) hv0 (fun M4 hm4 => third M4 ?_)
      unfold beg
      rw [if_neg zo]; exact hm4
    · refine loop5 _ (fun (a b d r : Int) M4 => p = a ∧ but = b ∧ nc = d ∧ 0 ≤ r ∧ r ≤ C c 11 ∧ VR A M4 (C c 0) (fm (fun r => fl (sB A p but nc) (C (c + 12) r)) r.toNat [])) (fun _ _ _ (r : Int) _ => (C c 11 - r).toNat) ?_ _ _ _ _ _ ⟨rfl, rfl, rfl, by omega, r0, hv0⟩
      rintro _ _ _ r M4 g ⟨rfl, rfl, rfl, q0, q1, hm4⟩ ih2
      have hb4 := VR_b hb hm4
      have rr : ((r.toNat : Nat) : Int) = r := by omega
      unfold wb_X12_reach_b41
      refine ⟨p0, p5, fun v1 e1 _ => ?_⟩
      rw [← hb4.2.2.2.1] at e1
      subst e1
      refine ⟨fun z2 => third M4 ?_, fun z2 => ⟨by unfold ri_; omega, by unfold ri_; omega, by omega, by omega, fun v5 e5 _ => ⟨hnc, ?_⟩⟩⟩
      · unfold beg prL
        rw [if_pos zo, show (C c 11).toNat = r.toNat from by omega]; exact hm4
      · rw [← (hb4.2.2.2.2 r q0 (by omega)).2] at e5
        obtain ⟨y1, y2, -⟩ := hr r q0 (by omega)
        rw [e5]
        refine p_R_visit p0 p5 n0 n4 y1 y2 hm4 (fun M5 hm5 => ⟨by unfold ri_; omega, ih2 _ _ _ _ _ ⟨rfl, rfl, rfl, by omega, by omega, ?_⟩ (by omega)⟩)
        rw [show (r + 1).toNat = r.toNat + 1 from by omega]
        show VR A M5 (C c 0) (mt (fm (fun r => fl (sB A p but nc) (C (c + 12) r)) r.toNat []) (fl (sB A p but nc) (C (c + 12) (r.toNat : Nat))))
        rw [rr]; exact hm5
  · rw [e7]
    by_cases y : u = t
    · rw [y, ux_s]
    · rw [ux_i _ _ _ y]; exact hm u u0 (by omega)
