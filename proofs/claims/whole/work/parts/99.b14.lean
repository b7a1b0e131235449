/-! what is reached, as a relation -/
def rch (E : Int → Int → Prop) (Z S : Int → Prop) : Nat → Int → Prop
  | 0, t => Z t ∧ S t
  | k + 1, t => rch E Z S k t ∨ (S t ∧ ∃ u, rch E Z S k u ∧ E u t)
def rc (E : Int → Int → Prop) (Z S : Int → Prop) (t : Int) : Prop := ∃ k, rch E Z S k t
theorem rc_z {E : Int → Int → Prop} {Z S : Int → Prop} {t : Int} (h : Z t) (hs : S t) : rc E Z S t := ⟨0, h, hs⟩
theorem rc_e {E : Int → Int → Prop} {Z S : Int → Prop} {u t : Int} (h : rc E Z S u) (he : E u t) (hs : S t) : rc E Z S t := by
  obtain ⟨k, hk⟩ := h
  exact ⟨k + 1, Or.inr ⟨hs, u, hk, he⟩⟩
theorem rc_i {E : Int → Int → Prop} {Z S P : Int → Prop} (hz : ∀ t, Z t → S t → P t) (he : ∀ u t, P u → E u t → S t → P t) : ∀ t, rc E Z S t → P t := by
  rintro t ⟨k, hk⟩
  induction k generalizing t with
  | zero => exact hz t hk.1 hk.2
  | succ k ih =>
    rcases hk with q | ⟨a, u, b, d⟩
    · exact ih t q
    · exact he u t (ih u b) d a
theorem rc_i2 {E : Int → Int → Prop} {Z S P : Int → Prop} (hz : ∀ t, Z t → S t → P t) (he : ∀ u t, rc E Z S u → P u → E u t → S t → P t) : ∀ t, rc E Z S t → P t := by
  intro t h
  exact (rc_i (P := fun x => rc E Z S x ∧ P x) (fun t a b => ⟨rc_z a b, hz t a b⟩) (fun u t q e s => ⟨rc_e q.1 e s, he u t q.1 q.2 e s⟩) t h).2
theorem rc_s {E : Int → Int → Prop} {Z S : Int → Prop} {t : Int} (h : rc E Z S t) : S t := rc_i (P := S) (fun _ _ s => s) (fun _ _ _ _ s => s) t h
theorem rc_m {E : Int → Int → Prop} {Z Z' S S' : Int → Prop} (hz : ∀ t, Z t → S t → rc E Z' S' t) (hs : ∀ t, S t → S' t) : ∀ t, rc E Z S t → rc E Z' S' t := rc_i hz (fun _ t q e s => rc_e q e (hs t s))
def pE (C : MM) (c : Nat) (t u : Int) : Prop := 0 ≤ t ∧ t < C c 0 ∧ 0 ≤ u ∧ ∃ k, 0 ≤ k ∧ k < pcn C c t ∧ lv C c t k = u
def pZ (C : MM) (c : Nat) (t : Int) : Prop := ∃ r, 0 ≤ r ∧ r < C c 11 ∧ C (c + 12) r = t
def zb (C : MM) (c : Nat) (one : Int) (t : Int) : Prop := (one = -1 ∧ pZ C c t) ∨ (one ≠ -1 ∧ pE C c one t)
theorem pE_in {C : MM} {c : Nat} (hw : PW C c) {t u : Int} (h : pE C c t u) : 0 ≤ u ∧ u < C c 0 := by
  obtain ⟨a1, a2, a3, k, a4, a5, a6⟩ := h
  have := (pw_lv hw a1 a2 a4 a5).1
  omega
theorem pZ_in {C : MM} {c : Nat} (hw : PW C c) {t : Int} (h : pZ C c t) : 0 ≤ t ∧ t < C c 0 := by
  obtain ⟨r, a1, a2, a3⟩ := h
  have := hw.2.2.2.2.2.2.2.2.2.1 r a1 a2
  omega
theorem bf_all {sl : Int → Nat → Int} {len : Int → Nat} {P : Int → Prop} (hs : ∀ o j, P o → j < len o → 0 ≤ sl o j → P (sl o j)) (m : Nat) : ∀ k L, (∀ o ∈ L, P o) → ∀ o ∈ bf sl len m k L, P o := by
  induction m with
  | zero => intro k L h; exact h
  | succ m ih =>
    intro k L h
    have e : bf sl len (m + 1) k L = if k < L.length then bf sl len m (k + 1) (fm (sl (L.getD k 0)) (len (L.getD k 0)) L) else L := rfl
    rw [e]
    by_cases z : k < L.length
    · rw [if_pos z]
      refine ih _ _ fun o ho => ?_
      rcases fm_only _ ho with q | ⟨j, a, b, d⟩
      · exact h o q
      · rw [← b]; exact hs _ j (h _ (gD_mem z)) a (by rw [b]; exact d)
    · rw [if_neg z]; exact h
theorem vis_iff {C : MM} {c : Nat} (hw : PW C c) {S : Int → Prop} {one : Int} (h1 : one = -1 ∨ (0 ≤ one ∧ one < C c 0)) (t : Int) : t ∈ vis C c S (beg C c S one) ↔ rc (pE C c) (zb C c one) S t := by
  have n0 := hw.1
  have n4 := hw.2.1
  have hbw := beg_wl hw (S := S) h1
  constructor
  · intro h
    have key : 0 ≤ t ∧ t < C c 0 ∧ rc (pE C c) (zb C c one) S t := by
      refine bf_all (P := fun x => 0 ≤ x ∧ x < C c 0 ∧ rc (pE C c) (zb C c one) S x) ?_ 401 0 (beg C c S one) ?_ t h
      · rintro o j ⟨o0, o1, ho⟩ hj h0
        unfold pln at hj
        have hp := psl_n (S := S) hw o0 o1 j (by unfold pln; exact hj)
        refine ⟨h0, hp.1, ?_⟩
        unfold psl at h0 ⊢
        rcases fl_or S (lv C c o j) with ⟨e, s⟩ | ⟨e, -⟩
        · rw [e] at h0 ⊢
          exact rc_e ho ⟨o0, o1, h0, j, by omega, by omega, rfl⟩ s
        · rw [e] at h0; omega
      · intro o ho
        have hin := hbw.2 o ho
        refine ⟨hin.1, hin.2, ?_⟩
        unfold beg at ho
        by_cases z : one = -1
        · rw [if_pos z] at ho
          rcases fm_only _ ho with q | ⟨j, a, b, d⟩
          · simp at q
          · rcases fl_or S (C (c + 12) j) with ⟨e, s⟩ | ⟨e, -⟩
            · have b' : fl S (C (c + 12) j) = o := b
              rw [e] at b'
              rw [b'] at s
              exact rc_z (Or.inl ⟨z, j, by omega, by omega, b'⟩) s
            · have b' : fl S (C (c + 12) j) = o := b
              rw [e] at b'; omega
        · rw [if_neg z] at ho
          rcases fm_only _ ho with q | ⟨j, a, b, d⟩
          · simp at q
          · have b' : fl S (lv C c one j) = o := b
            unfold pln at a
            rcases fl_or S (lv C c one j) with ⟨e, s⟩ | ⟨e, -⟩
            · rw [e] at b'
              rw [b'] at s
              exact rc_z (Or.inr ⟨z, by omega, by omega, d, j, by omega, by omega, b'⟩) s
            · rw [e] at b'; omega
    exact key.2.2
  · refine rc_i ?_ ?_ t
    · intro u hz hs
      refine bf_sub _ _ _ ?_
      unfold beg
      rcases hz with ⟨z, r, a1, a2, a3⟩ | ⟨z, a1, a2, a3, k, a4, a5, a6⟩
      · rw [if_pos z]
        have e : fl S (C (c + 12) ((r.toNat : Nat) : Int)) = u := by
          rw [show ((r.toNat : Nat) : Int) = r from by omega, a3, fl_y hs]
        have hu := pZ_in hw ⟨r, a1, a2, a3⟩
        have q := fm_has (f := fun r : Nat => fl S (C (c + 12) (r : Int))) (L := []) (C c 11).toNat r.toNat (by omega)
        rw [e] at q
        exact q hu.1
      · rw [if_neg z]
        have e : psl C c S one k.toNat = u := by
          unfold psl
          rw [show ((k.toNat : Nat) : Int) = k from by omega, a6, fl_y hs]
        have q := fm_has (f := psl C c S one) (L := []) (pln C c one) k.toNat (by unfold pln; omega)
        rw [e] at q
        exact q a3
    · intro u x hu hE hs
      obtain ⟨a1, a2, a3, k, a4, a5, a6⟩ := hE
      have e : psl C c S u k.toNat = x := by
        unfold psl
        rw [show ((k.toNat : Nat) : Int) = k from by omega, a6, fl_y hs]
      have q := bf_closed (n := C c 0) (sl := psl C c S) (len := pln C c) n0 (fun o o0 o1 j hj => (psl_n hw o0 o1 j hj).1) hbw (m := 401) (by omega) hu (i := k.toNat) (by unfold pln; omega)
      rw [e] at q
      exact q a3
/-- a thing reaches another by links -/
def rr (C : MM) (c : Nat) (t u : Int) : Prop := rc (pE C c) (pE C c t) (fun x => x ≠ -1) u
theorem rr_t {C : MM} {c : Nat} {t u v : Int} (h : rr C c t u) (h' : rr C c u v) : rr C c t v := rc_i (P := fun x => rr C c t x) (fun x a b => rc_e h a b) (fun _ _ q e s => rc_e q e s) v h'
theorem rr_in {C : MM} {c : Nat} (hw : PW C c) {t u : Int} (h : rr C c t u) : 0 ≤ u ∧ u < C c 0 := rc_i (P := fun x => 0 ≤ x ∧ x < C c 0) (fun x a _ => pE_in hw a) (fun _ _ _ e _ => pE_in hw e) u h
theorem rV_iff {C : MM} {c : Nat} (hw : PW C c) {t : Int} (t0 : 0 ≤ t) (t1 : t < C c 0) (u : Int) : u ∈ vis C c (fun x => x ≠ -1) (beg C c (fun x => x ≠ -1) t) ↔ rr C c t u := by
  rw [vis_iff hw (Or.inr ⟨t0, t1⟩)]
  have : zb C c t = pE C c t := by
    funext x
    exact propext ⟨fun q => by rcases q with q | q; omega; exact q.2, fun q => Or.inr ⟨by omega, q⟩⟩
  rw [this]
  exact Iff.rfl
/-- rings: things that reach one another -/
def sym_ (C : MM) (c : Nat) (t u : Int) : Prop := rr C c t u ∧ rr C c u t
theorem sym_s {C : MM} {c : Nat} {t u : Int} (h : sym_ C c t u) : sym_ C c u t := ⟨h.2, h.1⟩
theorem sym_t {C : MM} {c : Nat} {t u v : Int} (h : sym_ C c t u) (h' : sym_ C c u v) : sym_ C c t v := ⟨rr_t h.1 h'.1, rr_t h'.2 h.2⟩
def rp (C : MM) (c : Nat) (t : Int) : Prop := sym_ C c t t ∧ ∀ u, 0 ≤ u → u < t → ¬ sym_ C c u t
noncomputable def rk (P : Int → Prop) : Nat → Int
  | 0 => 0
  | n + 1 => rk P n + (@ite _ (P n) (Classical.propDecidable _) 1 0)
theorem rk_s {P : Int → Prop} (n : Nat) : (P n → rk P (n + 1) = rk P n + 1) ∧ (¬ P n → rk P (n + 1) = rk P n) := by
  constructor
  · intro h
    show rk P n + (@ite _ (P n) (Classical.propDecidable _) 1 0) = _
    rw [if_pos h]
  · intro h
    show rk P n + (@ite _ (P n) (Classical.propDecidable _) 1 0) = _
    rw [if_neg h]; omega
theorem rk_bd (P : Int → Prop) (n : Nat) : 0 ≤ rk P n ∧ rk P n ≤ n := by
  induction n with
  | zero => exact ⟨Int.le_refl _, Int.le_refl _⟩
  | succ n ih =>
    by_cases h : P n
    · rw [(rk_s n).1 h]; omega
    · rw [(rk_s n).2 h]; omega
/-- a thing in a ring has a first one -/
theorem rp_ex {C : MM} {c : Nat} (hw : PW C c) (n : Nat) : ∀ t : Int, 0 ≤ t → t < n → sym_ C c t t → ∃ r, rp C c r ∧ sym_ C c r t ∧ 0 ≤ r ∧ r ≤ t := by
  induction n with
  | zero => intro t a b; omega
  | succ n ih =>
    intro t t0 t1 h
    by_cases z : ∃ u, 0 ≤ u ∧ u < t ∧ sym_ C c u t
    · obtain ⟨u, u0, u1, hu⟩ := z
      obtain ⟨r, r1, r2, r3, r4⟩ := ih u u0 (by omega) (sym_t hu (sym_s hu))
      exact ⟨r, r1, sym_t r2 hu, r3, by omega⟩
    · exact ⟨t, ⟨h, fun u u0 u1 q => z ⟨u, u0, u1, q⟩⟩, h, t0, by omega⟩
theorem rp_un {C : MM} {c : Nat} {r r' t : Int} (h : rp C c r) (h' : rp C c r') (r0 : 0 ≤ r) (r0' : 0 ≤ r') (a : sym_ C c r t) (b : sym_ C c r' t) : r = r' := by
  have hs := sym_t a (sym_s b)
  by_cases q : r < r'
  · exact absurd hs (h'.2 r r0 q)
  · by_cases q2 : r' < r
    · exact absurd (sym_s hs) (h.2 r' r0' q2)
    · omega
/-- the rings' numbers -/
def rgT (C M : MM) (c : Nat) (p T : Int) : Prop := ∀ u, 0 ≤ u → u < C c 0 → (M 49 (400 * p + u) = -1 ∧ ∀ r, 0 ≤ r → r < T → rp C c r → ¬ sym_ C c r u) ∨ (∃ r, 0 ≤ r ∧ r < T ∧ rp C c r ∧ sym_ C c r u ∧ M 49 (400 * p + u) = rk (rp C c) r.toNat)
def rgF (A M : MM) (p : Int) : Prop := (∀ k, k ∉ [0, 49, 53, 60, 61, 62] → M k = A k) ∧ (∀ i, i ≠ 73 → M 0 i = A 0 i) ∧ (∀ i, ¬ (400 * p ≤ i ∧ i < 400 * p + 400) → M 49 i = A 49 i) ∧ ∀ i, i ≠ p → M 53 i = A 53 i
theorem rgF_b {C A M : MM} {c : Nat} {p : Int} (hb : Rpb C A c p) (h : rgF A M p) : Rpb C M c p := Rpb_M hb (fun k hk => h.1 k (by intro q; simp at q hk; omega))
theorem rgF_Y {C A M : MM} {p : Int} (hY : Rty C A) (h : rgF A M p) : Rty C M := Rty_R hY (fun k a b _ => h.1 k (by simp; omega)) (h.2.1 20 (by decide))
theorem sB_1 (A : MM) (p : Int) : sB A p (-1) 0 = fun x => x ≠ -1 := sB_0 A p (-1)
theorem rgF_u {A M : MM} {p : Int} (h : rgF A M p) {i v : Int} (i0 : 400 * p ≤ i) (i1 : i < 400 * p + 400) : rgF A (ux_ M 49 i v) p := by
  refine ⟨fun q hq => funext fun j => ?_, fun j hj => ?_, fun j hj => ?_, fun j hj => ?_⟩
  · simp at hq
    rw [ux_c _ _ _ _ (by omega), h.1 q (by simp; omega)]
  · rw [ux_c _ _ _ _ (by decide), h.2.1 j hj]
  · rw [ux_i _ _ _ (by omega)]; exact h.2.2.1 j hj
  · rw [ux_c _ _ _ _ (by decide)]; exact h.2.2.2 j hj
set_option maxHeartbeats 1000000 in
theorem p_R_findRings {Q : Int → MM → Prop} {C A : MM} {c : Nat} {p : Int} (hY : Rty C A) (hw : PW C c) (hb : Rpb C A c p) (p0 : 0 ≤ p) (p5 : p < 5) (hq : ∀ M, rgF A M p → rgT C M c p (C c 0) → M 53 p = rk (rp C c) (C c 0).toNat → Q 0 M) : w_X12_findRings Q p A := by
  have n0 := hw.1
  have n4 := hw.2.1
  have second : ∀ M, rgF A M p → (∀ t u, 0 ≤ t → t < C c 0 → 0 ≤ u → u < C c 0 → (M 61 (400 * t + u) ≠ 0 ↔ rr C c t u)) → (∀ u, 0 ≤ u → u < C c 0 → M 49 (400 * p + u) = -1) → M 53 p = 0 → w_X12_findRings_b84 Q p (C c 0) 0 M := by
    intro M hF hR h49 h53
    refine loop4 _ (fun (a b t : Int) M1 => p = a ∧ C c 0 = b ∧ 0 ≤ t ∧ t ≤ C c 0 ∧ rgF A M1 p ∧ M1 61 = M 61 ∧ rgT C M1 c p t ∧ M1 53 p = rk (rp C c) t.toNat) (fun _ _ (t : Int) _ => (C c 0 - t).toNat) ?_ _ _ _ _ ⟨rfl, rfl, by omega, n0, hF, rfl, fun u u0 u1 => Or.inl ⟨h49 u u0 u1, fun r a b => by omega⟩, h53⟩
    rintro _ _ t M1 f ⟨rfl, rfl, t0, t1, hF1, e61, hT, hn⟩ ih
    have tt : ((t.toNat : Nat) : Int) = t := by omega
    have rb := rk_bd (rp C c) t.toNat
    unfold wb_X12_findRings_b84
    refine ⟨fun z => hq M1 hF1 (by rw [show C c 0 = t from by omega]; exact hT) (by rw [show C c 0 = t from by omega]; exact hn), fun z => p_at p0 p5 t0 (by omega) fun _ => ⟨by omega, by omega, fun v4 e4 _ => ?_⟩⟩
    have nxt : rgT C M1 c p (t + 1) → M1 53 p = rk (rp C c) (t.toNat + 1) → w_X12_findRings_b197 Q f p (C c 0) t M1 := fun q1 q2 => by
      unfold w_X12_findRings_b197
      exact ⟨by unfold ri_; omega, ih _ _ _ _ ⟨rfl, rfl, by omega, by omega, hF1, e61, q1, by rw [show (t + 1).toNat = t.toNat + 1 from by omega]; exact q2⟩ (by omega)⟩
    have norep : ¬ rp C c t → w_X12_findRings_b197 Q f p (C c 0) t M1 := fun hr => by
      refine nxt (fun u u0 u1 => ?_) (by rw [(rk_s t.toNat).2 (by rw [tt]; exact hr)]; exact hn)
      rcases hT u u0 u1 with ⟨a1, a2⟩ | ⟨r, a1, a2, a3⟩
      · refine Or.inl ⟨a1, fun r r0 r1 r2 => ?_⟩
        by_cases y : r = t
        · rw [y] at r2; exact absurd r2 hr
        · exact a2 r r0 (by omega) r2
      · exact Or.inr ⟨r, a1, by omega, a3⟩
    refine ⟨fun z4 => norep ?_, fun z4 => ⟨by unfold ri_; omega, by unfold ri_; omega, by omega, by omega, fun v8 e8 _ => ?_⟩⟩
    · rcases hT t t0 (by omega) with ⟨a1, -⟩ | ⟨r, a1, a2, a3, a4, -⟩
      · rw [e4] at z4; exact absurd a1 z4
      · exact fun q => q.2 r a1 a2 a4
    · rw [e61] at e8
      refine ⟨fun z8 => ?_, fun z8 => norep fun q => ?_⟩
      · have htt : rr C c t t := (hR t t t0 (by omega) t0 (by omega)).mp (by rw [← e8]; exact z8)
        have hrep : rp C c t := by
          refine ⟨⟨htt, htt⟩, fun u u0 u1 q => ?_⟩
          rcases hT t t0 (by omega) with ⟨-, a2⟩ | ⟨r, a1, a2, a3, a4, a5⟩
          · obtain ⟨r, r1, r2, r3, r4⟩ := rp_ex hw (u.toNat + 1) u u0 (by omega) (sym_t q (sym_s q))
            exact a2 r r3 (by omega) r1 (sym_t r2 q)
          · have := rk_bd (rp C c) r.toNat
            omega
        refine loop5 _ (fun (a b d u : Int) M2 => p = a ∧ C c 0 = b ∧ t = d ∧ t ≤ u ∧ u ≤ C c 0 ∧ rgF A M2 p ∧ M2 61 = M 61 ∧ M2 53 p = M1 53 p ∧ ∀ x, 0 ≤ x → x < C c 0 → M2 49 (400 * p + x) = if x < u ∧ t ≤ x ∧ M2 61 (400 * t + x) ≠ 0 ∧ M2 61 (400 * x + t) ≠ 0 then M1 53 p else M1 49 (400 * p + x)) (fun _ _ _ (u : Int) _ => (C c 0 - u).toNat) ?_ _ _ _ _ _ ⟨rfl, rfl, rfl, by omega, t1, hF1, e61, rfl, fun x x0 x1 => by rw [if_neg (by omega)]⟩
        rintro _ _ _ u M2 g ⟨rfl, rfl, rfl, u0, u1, hF2, f61, f53, f49⟩ ih2
        unfold wb_X12_findRings_b125
        refine ⟨fun z5 => ⟨p0, p5, fun v2 e2 _ => ?_⟩, fun z5 => ⟨by unfold ri_; omega, by unfold ri_; omega, by omega, by omega, fun v7 e7 _ => ?_⟩⟩
        · rw [f53, hn] at e2
          subst e2
          refine ⟨by unfold ri_; omega, p0, p5, fun M4 e4' => ?_⟩
          unfold w_X12_findRings_b197
          refine ⟨by unfold ri_; omega, ih _ _ _ _ ⟨rfl, rfl, by omega, by omega, ?_, ?_, fun x x0 x1 => ?_, ?_⟩ (by omega)⟩
          · refine ⟨fun k hk => funext fun i => ?_, fun i hi => ?_, fun i hi => ?_, fun i hi => ?_⟩
            · simp at hk
              rw [e4', ux_c _ _ _ _ (by omega), hF2.1 k (by simp; omega)]
            · rw [e4', ux_c _ _ _ _ (by decide), hF2.2.1 i hi]
            · rw [e4', ux_c _ _ _ _ (by decide), hF2.2.2.1 i hi]
            · rw [e4', ux_i _ _ _ hi, hF2.2.2.2 i hi]
          · funext i; rw [e4', ux_c _ _ _ _ (by decide), f61]
          · rw [e4', ux_c _ _ _ _ (by decide), f49 x x0 x1, f61]
            by_cases y : x < u ∧ t ≤ x ∧ M 61 (400 * t + x) ≠ 0 ∧ M 61 (400 * x + t) ≠ 0
            · rw [if_pos y]
              exact Or.inr ⟨t, t0, by omega, hrep, ⟨(hR t x t0 (by omega) x0 x1).mp y.2.2.1, (hR x t x0 x1 t0 (by omega)).mp y.2.2.2⟩, hn⟩
            · rw [if_neg y]
              have hns : ¬ sym_ C c t x := fun q => by
                by_cases yx : t ≤ x
                · exact y ⟨by omega, yx, (hR t x t0 (by omega) x0 x1).mpr q.1, (hR x t x0 x1 t0 (by omega)).mpr q.2⟩
                · exact hrep.2 x x0 (by omega) (sym_s q)
              rcases hT x x0 x1 with ⟨a1, a2⟩ | ⟨r, a1, a2, a3⟩
              · refine Or.inl ⟨a1, fun r r0 r1 r2 => ?_⟩
                by_cases yr : r = t
                · rw [yr]; exact hns
                · exact a2 r r0 (by omega) r2
              · exact Or.inr ⟨r, a1, by omega, a3⟩
          · rw [e4', ux_s, show (t + 1).toNat = t.toNat + 1 from by omega, (rk_s t.toNat).1 (by rw [tt]; exact hrep)]
        · have step : ∀ M3, rgF A M3 p → M3 61 = M 61 → M3 53 p = M1 53 p → (∀ x, 0 ≤ x → x < C c 0 → M3 49 (400 * p + x) = if x < u + 1 ∧ t ≤ x ∧ M3 61 (400 * t + x) ≠ 0 ∧ M3 61 (400 * x + t) ≠ 0 then M1 53 p else M1 49 (400 * p + x)) → w_X12_findRings_b181 Q f g p (C c 0) t u M3 := fun M3 q1 q2 q3 q4 => by
            unfold w_X12_findRings_b181
            exact ⟨by unfold ri_; omega, ih2 _ _ _ _ _ ⟨rfl, rfl, rfl, by omega, by omega, q1, q2, q3, q4⟩ (by omega)⟩
          have same : ¬ (M2 61 (400 * t + u) ≠ 0 ∧ M2 61 (400 * u + t) ≠ 0) → w_X12_findRings_b181 Q f g p (C c 0) t u M2 := fun hs => step M2 hF2 f61 f53 fun x x0 x1 => by
            rw [f49 x x0 x1]
            by_cases y : x < u ∧ t ≤ x ∧ M2 61 (400 * t + x) ≠ 0 ∧ M2 61 (400 * x + t) ≠ 0
            · rw [if_pos y, if_pos ⟨by omega, y.2⟩]
            · rw [if_neg y, if_neg (fun q => y ⟨ltne q.1 (fun e => hs (by rw [← e]; exact q.2.2)), q.2⟩)]
          refine ⟨fun z7 => same fun q => q.1 (by rw [← e7]; exact z7), fun z7 => ⟨by unfold ri_; omega, by unfold ri_; omega, by omega, by omega, fun v11 e11 _ => ⟨fun z11 => same fun q => q.2 (by rw [← e11]; exact z11), fun z11 => p_at p0 p5 (by omega) (by omega) fun _ => ⟨p0, p5, fun v15 e15 _ => ⟨by omega, by omega, fun M16 e16 => ?_⟩⟩⟩⟩⟩
          rw [f53] at e15
          refine step M16 (by rw [e16]; exact rgF_u hF2 (by omega) (by omega)) (by funext i; rw [e16, ux_c _ _ _ _ (by decide), f61]) (by rw [e16, ux_c _ _ _ _ (by decide), f53]) fun x x0 x1 => ?_
          have k61 : M16 61 = M2 61 := by funext i; rw [e16, ux_c _ _ _ _ (by decide)]
          rw [k61, e16]
          by_cases y : x = u
          · rw [y, ux_s, if_pos ⟨by omega, u0, by rw [← e7]; exact z7, by rw [← e11]; exact z11⟩, e15]
          · rw [ux_i _ _ _ (by omega), f49 x x0 x1]
            by_cases y2 : x < u ∧ t ≤ x ∧ M2 61 (400 * t + x) ≠ 0 ∧ M2 61 (400 * x + t) ≠ 0
            · rw [if_pos y2, if_pos ⟨by omega, y2.2⟩]
            · rw [if_neg y2, if_neg (fun q => y2 ⟨ltne q.1 y, q.2⟩)]
      · exact ((hR t t t0 (by omega) t0 (by omega)).mpr q.1.1) (by rw [← e8]; exact z8)
  unfold w_X12_findRings
  refine ⟨p0, p5, fun v1 e1 _ => ?_⟩
  rw [← hb.1] at e1
  subst e1
  refine loop4 _ (fun (a b t : Int) M1 => p = a ∧ C c 0 = b ∧ 0 ≤ t ∧ t ≤ C c 0 ∧ rgF A M1 p ∧ (∀ x u, 0 ≤ x → x < t → 0 ≤ u → u < C c 0 → (M1 61 (400 * x + u) ≠ 0 ↔ rr C c x u)) ∧ ∀ u, 0 ≤ u → u < t → M1 49 (400 * p + u) = -1) (fun _ _ (t : Int) _ => (C c 0 - t).toNat) ?_ _ _ _ _ ⟨rfl, rfl, by omega, n0, ⟨fun _ _ => rfl, fun _ _ => rfl, fun _ _ => rfl, fun _ _ => rfl⟩, fun x u a b => by omega, fun u a b => by omega⟩
  rintro _ _ t M1 f ⟨rfl, rfl, t0, t1, hF1, hR, h49⟩ ih
  unfold wb_X12_findRings_b9
  refine ⟨fun z => ⟨p0, p5, fun M2 e2 => second M2 ?_ ?_ ?_ ?_⟩, fun z => ?_⟩
  · refine ⟨fun k hk => funext fun i => ?_, fun i hi => ?_, fun i hi => ?_, fun i hi => ?_⟩
    · simp at hk
      rw [e2, ux_c _ _ _ _ (by omega), hF1.1 k (by simp; omega)]
    · rw [e2, ux_c _ _ _ _ (by decide), hF1.2.1 i hi]
    · rw [e2, ux_c _ _ _ _ (by decide), hF1.2.2.1 i hi]
    · rw [e2, ux_i _ _ _ hi, hF1.2.2.2 i hi]
  · intro x u x0 x1 u0 u1
    rw [e2, ux_c _ _ _ _ (by decide)]; exact hR x u x0 (by omega) u0 u1
  · intro u u0 u1
    rw [e2, ux_c _ _ _ _ (by decide)]; exact h49 u u0 (by omega)
  · rw [e2, ux_s]
  · refine p_R_reach (rgF_Y hY hF1) hw (rgF_b hb hF1) p0 p5 (Or.inl rfl) (Or.inr ⟨t0, by omega⟩) fun M2 hv => ?_
    rw [sB_1] at hv
    have m60 : ∀ u, 0 ≤ u → u < C c 0 → (M2 60 u ≠ 0 ↔ rr C c t u) := fun u u0 u1 => by
      rw [hv.2.2.2.2.2 u u0 u1, ← rV_iff hw t0 (by omega) u]
      by_cases y : u ∈ vis C c (fun x => x ≠ -1) (beg C c (fun x => x ≠ -1) t)
      · rw [if_pos y]; exact ⟨fun _ => y, fun _ => by decide⟩
      · rw [if_neg y]; exact ⟨fun q => absurd rfl q, fun q => absurd q y⟩
    have hF2 : rgF A M2 p := by
      refine ⟨fun k hk => ?_, fun i hi => by rw [hv.2.1 i hi, hF1.2.1 i hi], fun i hi => ?_, fun i hi => ?_⟩
      · simp at hk
        rw [hv.1 k (by simp; omega), hF1.1 k (by simp; omega)]
      · rw [hv.1 49 (by decide), hF1.2.2.1 i hi]
      · rw [hv.1 53 (by decide), hF1.2.2.2 i hi]
    refine loop5 _ (fun (a b d u : Int) M3 => p = a ∧ C c 0 = b ∧ t = d ∧ 0 ≤ u ∧ u ≤ C c 0 ∧ (∀ k, k ≠ 61 → M3 k = M2 k) ∧ ∀ i, M3 61 i = if 400 * t ≤ i ∧ i < 400 * t + u then M2 60 (i - 400 * t) else M1 61 i) (fun _ _ _ (u : Int) _ => (C c 0 - u).toNat) ?_ _ _ _ _ _ ⟨rfl, rfl, rfl, by omega, n0, fun _ _ => rfl, fun i => by rw [if_neg (by omega), hv.1 61 (by decide)]⟩
    rintro _ _ _ u M3 g ⟨rfl, rfl, rfl, u0, u1, k3, k61⟩ ih2
    unfold wb_X12_findRings_b25
    refine ⟨fun z2 => p_at p0 p5 t0 (by omega) fun _ => ⟨by omega, by omega, fun M4 e4 => ⟨by unfold ri_; omega, ih _ _ _ _ ⟨rfl, rfl, by omega, by omega, ?_, fun x y x0 x1 y0 y1 => ?_, fun x x0 x1 => ?_⟩ (by omega)⟩⟩, fun z2 => ⟨by unfold ri_; omega, by unfold ri_; omega, u0, by omega, fun v8 e8 _ => ⟨by omega, by omega, fun M9 e9 => ⟨by unfold ri_; omega, ih2 _ _ _ _ _ ⟨rfl, rfl, rfl, by omega, by omega, fun k hk => by funext i; rw [e9, ux_c _ _ _ _ hk, k3 k hk], fun i => ?_⟩ (by omega)⟩⟩⟩⟩
    · rw [e4]
      refine rgF_u ⟨fun k hk => ?_, fun i hi => ?_, fun i hi => ?_, fun i hi => ?_⟩ (by omega) (by omega)
      · have hk' := hk
        simp at hk
        rw [k3 k (by omega), hF2.1 k hk']
      · rw [k3 0 (by decide), hF2.2.1 i hi]
      · rw [k3 49 (by decide), hF2.2.2.1 i hi]
      · rw [k3 53 (by decide), hF2.2.2.2 i hi]
    · rw [e4, ux_c _ _ _ _ (by decide), k61]
      by_cases q : x = t
      · rw [if_pos (by omega), q, show 400 * t + y - 400 * t = y from by omega]
        exact m60 y y0 y1
      · rw [if_neg (by omega)]; exact hR x y x0 (by omega) y0 y1
    · rw [e4]
      by_cases q : x = t
      · rw [q, ux_s]
      · rw [ux_i _ _ _ (by omega), k3 49 (by decide), hv.1 49 (by decide)]; exact h49 x x0 (by omega)
    · rw [k3 60 (by decide)] at e8
      rw [e9]
      by_cases q : i = 400 * t + u
      · rw [q, ux_s, if_pos (by omega), show 400 * t + u - 400 * t = u from by omega, e8]
      · rw [ux_i _ _ _ q, k61]
        by_cases q2 : 400 * t ≤ i ∧ i < 400 * t + u
        · rw [if_pos q2, if_pos (by omega)]
        · rw [if_neg q2, if_neg (by omega)]
