/-! what is copied with a thing, on both sides -/
def wb2 (w : Int) : Int := if w = 2 then 1 else 0
noncomputable def cpL (C : MM) (w o : Int) : List Int := if w = 0 then [o] else bf (sla C (wb2 w)) (lnN C) 401 0 [o]
theorem sla_lt {C R R0 : MM} (hY : Rty C R0) (hH : Rhp C R) {b o : Int} (ho : hOk C o) {k : Nat} (hk : k < lnN C o) : sla C b o k = -1 ∨ hOk C (sla C b o k) := by
  rcases sla_or C b o k with q | q
  · exact Or.inl q
  · rw [q]; exact slk_lt hY hH ho hk
theorem sla_n1 {C R R0 : MM} (hY : Rty C R0) (hH : Rhp C R) {b : Int} : ∀ o, hOk C o → ∀ j, j < lnN C o → sla C b o j < C 26 1 := by
  intro o ho j hj
  have := hH.2.1
  rcases sla_lt hY hH (b := b) ho hj with q | q
  · omega
  · exact q.2.1
theorem one_wl {C : MM} {o : Int} (ho : hOk C o) : wl (C 26 1) [o] := ⟨List.nodup_cons.mpr ⟨by simp, List.nodup_nil⟩, fun x hx => by rw [List.mem_singleton] at hx; rw [hx]; exact ⟨ho.1, ho.2.1⟩⟩
theorem bf_wl3 {C R R0 : MM} (hY : Rty C R0) (hH : Rhp C R) {b : Int} (m : Nat) : ∀ k L, wl (C 26 1) L → (∀ o ∈ L, hOk C o) → wl (C 26 1) (bf (sla C b) (lnN C) m k L) := by
  induction m with
  | zero => intro k L h _; exact h
  | succ m ih =>
    intro k L h hok
    show wl _ (if k < L.length then bf (sla C b) (lnN C) m (k + 1) (fm (sla C b (L.getD k 0)) (lnN C (L.getD k 0)) L) else L)
    by_cases z : k < L.length
    · rw [if_pos z]
      have ho := hok _ (gD_mem z)
      exact ih _ _ (fm_wl h _ (sla_n1 hY hH _ ho)) (fm_ok _ hok (fun j hj => sla_lt hY hH ho hj))
    · rw [if_neg z]; exact h
theorem cpL_ok {C R R0 : MM} (hY : Rty C R0) (hH : Rhp C R) {w o : Int} (ho : hOk C o) : wl (C 26 1) (cpL C w o) ∧ (∀ x ∈ cpL C w o, hOk C x) ∧ 0 < (cpL C w o).length := by
  have h1 : ∀ x ∈ [o], hOk C x := fun x hx => by rw [List.mem_singleton] at hx; rw [hx]; exact ho
  unfold cpL
  by_cases z : w = 0
  · rw [if_pos z]; exact ⟨one_wl ho, h1, by simp⟩
  · rw [if_neg z]
    refine ⟨bf_wl3 hY hH _ _ _ (one_wl ho) h1, bf_ok hY hH (fun o k ho hk => sla_lt hY hH ho hk) _ _ _ h1, ?_⟩
    have := bf_len (sl := sla C (wb2 w)) (len := lnN C) 401 0 [o]
    simp at this
    omega
theorem pOk_WC {C M R0 : MM} {L : List Int} (hY : Rty C R0) (h : WC C M L) : pOk M := by
  have := pOk_of hY
  unfold pOk at this ⊢
  rw [h.1 8 (by decide) (by decide), h.1 11 (by decide) (by decide)]; exact this
theorem ap_eq {C C' : MM} (h11 : C' 11 = C 11) (h13 : C' 13 = C 13) (t : Int) : ap C' t ↔ ap C t := by
  unfold ap
  rw [h13]
  constructor
  · rintro ⟨a, m, b, c⟩
    rw [upn_eq h11] at b c
    exact ⟨a, m, b, c⟩
  · rintro ⟨a, m, b, c⟩
    exact ⟨a, m, by rw [upn_eq h11]; exact b, by rw [upn_eq h11]; exact c⟩
set_option maxHeartbeats 400000 in
theorem p_walkToCopy {Q : Int → MM → Prop} {o w : Int} {C R R0 : MM} (hY : Rty C R0) (hH : Rhp C R) (ho : hOk C o) (w0 : 0 ≤ w) (w2 : w ≤ 2) (hq : ∀ M', WC C M' (cpL C w o) → ri_ ((cpL C w o).length : Int) → Q ((cpL C w o).length : Int) M') : w_X2_walkToCopy Q o w C := by
  have hn0 := hH.2.1
  have hn4 := hH.2.2.1
  have ho0 := ho.1
  have h1 : ∀ x ∈ [o], hOk C x := fun x hx => by rw [List.mem_singleton] at hx; rw [hx]; exact ho
  unfold w_X2_walkToCopy
  refine p_clearMarks hn0 hn4 fun M1 hm1 => ?_
  refine p_meet hm1 hn0 hn4 ho.2.1 rfl fun M2 hm2 _ _ => ?_
  have em : mt [] o = [o] := mt_new ho0 (by simp)
  rw [em] at hm2 ⊢
  refine loop4 _ (fun a y k M3 => w = a ∧ 0 ≤ k ∧ k ≤ 401 ∧ ∃ (L : List Int) (m : Nat), y = (L.length : Int) ∧ WC C M3 L ∧ (∀ x ∈ L, hOk C x) ∧ (m : Int) + k = 401 ∧ ((w = 0 ∧ L = [o] ∧ k = 0) ∨ (w ≠ 0 ∧ bf (sla C (wb2 w)) (lnN C) m k.toNat L = cpL C w o))) (fun _ _ k _ => (401 - k).toNat) ?_ _ _ _ _ ⟨rfl, by omega, by omega, [o], 401, by rfl, hm2, h1, by omega, ?_⟩
  · rintro _ y k M3 f ⟨rfl, k0, k1, L, m, rfl, hm, hok, hmk, hbf⟩ ih
    have hll := wl_len hm.2.1 hn0
    unfold wb_X2_walkToCopy_b15
    have m26 : M3 26 1 = C 26 1 := by rw [hm.1 26 (by decide) (by decide)]
    refine ⟨fun z => ?_, fun z v99 e99 _ => ⟨fun z99 => by exfalso; rw [m26] at e99; omega, fun z99 => ⟨fun zw => ?_, fun zw => ⟨k0, by omega, fun v3 e3 _ => ?_⟩⟩⟩⟩
    · rcases hbf with ⟨a, b, c⟩ | ⟨a, b⟩
      · rw [b, c] at z
        simp at z
      · have : bf (sla C (wb2 w)) (lnN C) m k.toNat L = L := by
          cases m with
          | zero => rfl
          | succ m =>
            show (if k.toNat < L.length then _ else L) = L
            rw [if_neg (by omega)]
        rw [this] at b
        rw [b] at hm hll ⊢
        exact hq M3 hm (by unfold ri_; omega)
    · rcases hbf with ⟨a, b, c⟩ | ⟨a, b⟩
      · have e : cpL C w o = L := by unfold cpL; rw [if_pos a, b]
        rw [← e] at hm hll ⊢
        exact hq M3 hm (by unfold ri_; omega)
      · exact absurd zw a
    · rcases hbf with ⟨a, b, c⟩ | ⟨a, hbf⟩
      · exact absurd a zw
      have kk : ((k.toNat : Nat) : Int) = k := by omega
      have hk := hm.2.2.1 k.toNat (by omega)
      rw [kk] at hk
      rw [hk] at e3
      subst e3
      have hx := hok _ (gD_mem (L := L) (k := k.toNat) (by omega))
      obtain ⟨x, ex⟩ : ∃ x, x = L.getD k.toNat 0 := ⟨_, rfl⟩
      rw [← ex] at hx hk ⊢
      have hat := hp_at hY hH hx
      have hx0 := hx.1
      refine ⟨hx0, by omega, fun v4 e4 _ => ⟨k0, by omega, fun v5 e5 _ => ?_⟩⟩
      rw [hm.1 29 (by decide) (by decide)] at e4
      rw [hk] at e5
      subst e4 e5
      refine p_slotsOf hY hH hx (fun q hq => hm.1 q (by intro e; rw [e] at hq; revert hq; decide) (by intro e; rw [e] at hq; revert hq; decide)) fun _ _ => ⟨by unfold ri_; omega, k0, by omega, fun v9 e9 _ => ?_⟩
      rw [hk] at e9
      rw [e9]
      refine ⟨hx0, by omega, fun v10 e10 _ => ?_⟩
      rw [hm.1 29 (by decide) (by decide)] at e10
      subst e10
      refine loop6 _ (fun a y k' e b M4 => w = a ∧ k = k' ∧ C 29 v5 + ln C v5 = e ∧ C 29 v5 ≤ b ∧ b ≤ C 29 v5 + ln C v5 ∧ y = ((fm (sla C (wb2 w) v5) (b - C 29 v5).toNat L).length : Int) ∧ WC C M4 (fm (sla C (wb2 w) v5) (b - C 29 v5).toNat L)) (fun _ _ _ _ b _ => (C 29 v5 + ln C v5 - b).toNat) ?_ _ _ _ _ _ _ ⟨rfl, rfl, rfl, by omega, by omega, ?_, ?_⟩
      · rintro _ y _ _ b M4 g ⟨rfl, rfl, rfl, b0, b1, rfl, hw⟩ ih2
        have hll2 := wl_len hw.2.1 hH.2.1
        unfold wb_X2_walkToCopy_b74
        refine ⟨fun z => ⟨by unfold ri_; omega, ih _ _ _ _ ⟨rfl, by omega, by omega, fm (sla C (wb2 w) v5) (lnN C v5) L, m - 1, ?_, ?_, fm_ok _ hok (fun j hj => sla_lt hY hH hx hj), by omega, Or.inr ⟨zw, ?_⟩⟩ (by omega)⟩, fun z => ⟨by omega, by omega, fun v3 e3 _ => ?_⟩⟩
        · have e : (b - C 29 v5).toNat = lnN C v5 := by unfold lnN; omega
          rw [e]
        · have e : (b - C 29 v5).toNat = lnN C v5 := by unfold lnN; omega
          rw [← e]; exact hw
        · rw [← hbf]
          have em : m = (m - 1) + 1 := by omega
          conv => rhs; rw [em]
          show _ = (if k.toNat < L.length then _ else L)
          rw [if_pos (by omega), show (k + 1).toNat = k.toNat + 1 from by omega, ← ex]
        · obtain ⟨-, c2, -⟩ := ((hH.2.2.2.2.2.2.2.2.2.1 v5 hx.1 hx.2.1).2 hx.2.2).2.2.2.2.2.2.2.2.2 (b - C 29 v5) (by omega) (by omega)
          rw [show C 29 v5 + (b - C 29 v5) = b from by omega] at c2
          rw [hw.1 31 (by decide) (by decide), c2] at e3
          have sn : (b + 1 - C 29 v5).toNat = (b - C 29 v5).toNat + 1 := by omega
          have kb : (((b - C 29 v5).toNat : Nat) : Int) = b - C 29 v5 := by omega
          have kl : (b - C 29 v5).toNat < lnN C v5 := by unfold lnN; omega
          have nxt : ∀ M5, WC C M5 (mt (fm (sla C (wb2 w) v5) (b - C 29 v5).toNat L) (sla C (wb2 w) v5 (b - C 29 v5).toNat)) → w_X2_walkToCopy_b146 Q f g w ((mt (fm (sla C (wb2 w) v5) (b - C 29 v5).toNat L) (sla C (wb2 w) v5 (b - C 29 v5).toNat)).length : Int) k (C 29 v5 + ln C v5) b M5 := fun M5 hw2 => by
            unfold w_X2_walkToCopy_b146
            exact ⟨by unfold ri_; omega, ih2 _ _ _ _ _ _ ⟨rfl, rfl, rfl, by omega, by omega, by rw [sn]; rfl, by rw [sn]; exact hw2⟩ (by omega)⟩
          have none : sla C (wb2 w) v5 (b - C 29 v5).toNat = -1 → w_X2_walkToCopy_b146 Q f g w ((fm (sla C (wb2 w) v5) (b - C 29 v5).toNat L).length : Int) k (C 29 v5 + ln C v5) b M4 := fun e => by
            have := nxt M4 (by rw [e, mt_neg (by omega)]; exact hw)
            rw [e, mt_neg (by omega)] at this
            exact this
          by_cases zk : kA C (C 27 v5) (b - C 29 v5) = 5
          · rw [if_pos zk] at e3
            have es : slk C v5 (b - C 29 v5).toNat = C 30 b := by
              unfold slk
              rw [kb, if_pos zk, show C 29 v5 + (b - C 29 v5) = b from by omega]
            refine ⟨fun q => by omega, fun _ => ⟨by omega, by omega, fun v6 e6 _ => ?_⟩⟩
            rw [hw.1 30 (by decide) (by decide), ← es] at e6
            subst e6
            have some : sla C (wb2 w) v5 (b - C 29 v5).toNat = slk C v5 (b - C 29 v5).toNat → w_X2_walkToCopy_b133 Q f g w ((fm (sla C (wb2 w) v5) (b - C 29 v5).toNat L).length : Int) k (C 29 v5 + ln C v5) b M4 := fun e => by
              unfold w_X2_walkToCopy_b133
              refine ⟨by omega, by omega, fun v1 e1 _ => ?_⟩
              rw [hw.1 30 (by decide) (by decide), ← es, ← e] at e1
              subst e1
              exact p_meet hw hn0 hn4 (sla_n1 hY hH _ hx _ kl) rfl (fun M' hm' _ _ => nxt M' hm')
            refine ⟨fun z6 => none ?_, fun z6 => ⟨fun z2 => some (sla_n fun q => q.1 (by unfold wb2; rw [if_neg z2])), fun z2 => ⟨by omega, by omega, fun v8 e8 _ => ?_⟩⟩⟩
            · rcases sla_or C (wb2 w) v5 (b - C 29 v5).toNat with q | q
              · exact q
              · rw [q, z6]
            · rw [hw.1 30 (by decide) (by decide), ← es] at e8
              subst e8
              have hs : hOk C (slk C v5 (b - C 29 v5).toNat) := by
                rcases slk_lt hY hH hx kl with q | q
                · exact absurd q z6
                · exact q
              have s0 := hs.1
              have s1 := (hp_at hY hH hs).2.2.2.2.2.2.2
              have hv2 := (ob_ty hH hs).1
              refine ⟨by unfold ri_; omega, s0, s1, fun v10 e10 _ => ?_⟩
              rw [hw.1 27 (by decide) (by decide)] at e10
              subst e10
              have hap := ap_eq (hw.1 11 (by decide) (by decide)) (hw.1 13 (by decide) (by decide)) (C 27 (slk C v5 (b - C 29 v5).toNat))
              refine p_isApart (pOk_WC hY hw) (by rw [hw.1 8 (by decide) (by decide)]; exact hv2) (fun ha _ => ⟨fun _ => none (sla_y ⟨by unfold wb2; rw [if_pos z2]; decide, z6, hap.mp ha⟩), fun q => by omega⟩) (fun ha _ => ⟨fun q => absurd rfl q, fun _ => some (sla_n fun q => ha (hap.mpr q.2.2))⟩)
          · rw [if_neg zk] at e3
            refine ⟨fun _ => none ?_, fun q => absurd e3 q⟩
            have es : slk C v5 (b - C 29 v5).toNat = -1 := by
              unfold slk
              rw [kb, if_neg zk]
            rcases sla_or C (wb2 w) v5 (b - C 29 v5).toNat with q | q
            · exact q
            · rw [q, es]
      · rw [show (C 29 v5 - C 29 v5).toNat = 0 from by omega]; rfl
      · rw [show (C 29 v5 - C 29 v5).toNat = 0 from by omega]; exact hm
  · by_cases z : w = 0
    · exact Or.inl ⟨z, rfl, rfl⟩
    · refine Or.inr ⟨z, ?_⟩
      unfold cpL
      rw [if_neg z]; rfl
/-- the reference's -/
theorem p_R_walkToCopy {Q : Int → MM → Prop} {o w : Int} {C R : MM} (hY : Rty C R) (hH : Rhp C R) (ho : hOk C o) (w0 : 0 ≤ w) (w2 : w ≤ 2) (hq : ∀ M', WR R M' (cpL C w o) → w_X12_copy_b89 Q M') : w_X12_beginWalk (fun _ M5 => w_X12_meet (fun _ M7 => w_X12_copy_b51 Q w 0 M7) o M5) R := by
  have hn0 := hH.2.1
  have hn4 := hH.2.2.1
  have ho0 := ho.1
  have h1 : ∀ x ∈ [o], hOk C x := fun x hx => by rw [List.mem_singleton] at hx; rw [hx]; exact ho
  refine p_R_begin fun M1 hm1 => ?_
  refine p_R_meet (n := C 26 1) hm1 ⟨List.nodup_nil, fun x hx => by simp at hx⟩ hn0 hn4 ho.2.1 fun M2 hm2 => ?_
  have em : mt [] o = [o] := mt_new ho0 (by simp)
  rw [em] at hm2
  refine loop3 _ (fun a k M3 => w = a ∧ 0 ≤ k ∧ k ≤ 401 ∧ ∃ (L : List Int) (m : Nat), WR R M3 L ∧ wl (C 26 1) L ∧ (∀ x ∈ L, hOk C x) ∧ (m : Int) + k = 401 ∧ ((w = 0 ∧ L = [o] ∧ k = 0) ∨ (w ≠ 0 ∧ bf (sla C (wb2 w)) (lnN C) m k.toNat L = cpL C w o))) (fun _ k _ => (401 - k).toNat) ?_ _ _ _ ⟨rfl, by omega, by omega, [o], 401, hm2, one_wl ho, h1, by omega, ?_⟩
  · rintro _ k M3 f ⟨rfl, k0, k1, L, m, hm, hwl, hok, hmk, hbf⟩ ih
    have hll := wl_len hwl hn0
    unfold wb_X12_copy_b51
    intro v1 e1 _
    rw [hm.2.2.1] at e1
    subst e1
    refine ⟨fun z => ?_, fun z => ⟨fun zw => ?_, fun zw => ⟨k0, by omega, fun v4 e4 _ => ?_⟩⟩⟩
    · rcases hbf with ⟨a, b, c⟩ | ⟨a, b⟩
      · rw [b, c] at z
        simp at z
      · have : bf (sla C (wb2 w)) (lnN C) m k.toNat L = L := by
          cases m with
          | zero => rfl
          | succ m =>
            show (if k.toNat < L.length then _ else L) = L
            rw [if_neg (by omega)]
        rw [this] at b
        rw [b] at hm
        exact hq M3 hm
    · rcases hbf with ⟨a, b, c⟩ | ⟨a, b⟩
      · have e : cpL C w o = L := by unfold cpL; rw [if_pos a, b]
        rw [← e] at hm
        exact hq M3 hm
      · omega
    · rcases hbf with ⟨a, b, c⟩ | ⟨a, hbf⟩
      · omega
      have kk : ((k.toNat : Nat) : Int) = k := by omega
      have hk := hm.2.2.2.1 k.toNat (by omega)
      rw [kk] at hk
      rw [hk] at e4
      subst e4
      have hx := hok _ (gD_mem (L := L) (k := k.toNat) (by omega))
      have go : ∀ s, s = wb2 w → (s = 0 ∨ s = 1) → w_X12_copy_b80 Q f w k s (L.getD k.toNat 0) M3 := by
        intro s hs hs2
        subst hs
        unfold w_X12_copy_b80
        refine ⟨hs2, p_R_meetSlots hY hH hx hm hwl (fun M4 hm4 => ⟨by unfold ri_; omega, ih _ _ _ ⟨rfl, by omega, by omega, _, m - 1, hm4, fm_wl hwl _ (sla_n1 hY hH _ hx), fm_ok _ hok (fun j hj => sla_lt hY hH hx hj), by omega, Or.inr ⟨by omega, ?_⟩⟩ (by omega)⟩)⟩
        rw [← hbf]
        have em : m = (m - 1) + 1 := by omega
        conv => rhs; rw [em]
        show _ = (if k.toNat < L.length then _ else L)
        rw [if_pos (by omega), show (k + 1).toNat = k.toNat + 1 from by omega]
      exact ⟨fun z2 => go 0 (by unfold wb2; rw [if_neg z2]) (Or.inl rfl), fun z2 => go 1 (by unfold wb2; rw [if_pos z2]) (Or.inr rfl)⟩
  · by_cases z : w = 0
    · exact Or.inl ⟨z, rfl, rfl⟩
    · refine Or.inr ⟨z, ?_⟩
      unfold cpL
      rw [if_neg z]; rfl
