/-! doubles, in the reference -/
def db (C : MM) (c : Nat) (t u : Int) : Prop := C (c + 2) t = C (c + 2) u ∧ C (c + 3) t = C (c + 3) u ∧ ∀ k, 0 ≤ k → k < pcn C c t → C (c + 9) (C (c + 4) t + k) = C (c + 9) (C (c + 4) u + k)
theorem db_p {C : MM} {c : Nat} {t u : Int} (h : db C c t u) : pcn C c t = pcn C c u := by unfold pcn; rw [h.1, h.2.1]
theorem db_r (C : MM) (c : Nat) (t : Int) : db C c t t := ⟨rfl, rfl, fun _ _ _ => rfl⟩
theorem db_s {C : MM} {c : Nat} {t u : Int} (h : db C c t u) : db C c u t := ⟨h.1.symm, h.2.1.symm, fun k a b => (h.2.2 k a (by rw [db_p h]; exact b)).symm⟩
theorem db_t {C : MM} {c : Nat} {t u v : Int} (h : db C c t u) (h' : db C c u v) : db C c t v := ⟨h.1.trans h'.1, h.2.1.trans h'.2.1, fun k a b => (h.2.2 k a b).trans (h'.2.2 k a (by rw [← db_p h]; exact b))⟩
def rpG (C : MM) (c : Nat) (t : Int) : Prop := (∀ u, 0 ≤ u → u < t → ¬ db C c u t) ∧ ∃ u, t < u ∧ u < C c 0 ∧ db C c t u
theorem p_R_areDoubles {Q : Int → MM → Prop} {C M : MM} {c : Nat} {p t u : Int} (hY : Rty C M) (hw : PW C c) (hb : Rpb C M c p) (p0 : 0 ≤ p) (p5 : p < 5) (t0 : 0 ≤ t) (t1 : t < C c 0) (u0 : 0 ≤ u) (u1 : u < C c 0) (h1 : db C c t u → Q 1 M) (h0 : ¬ db C c t u → Q 0 M) : w_X12_areDoubles Q p t u M := by
  have n4 := hw.2.1
  obtain ⟨-, b2, b3, -⟩ := hb.2.1 t t0 t1
  obtain ⟨-, d2, d3, -⟩ := hb.2.1 u u0 u1
  have hpc := pw_bd hY hw t0 t1
  have go : ∀ x, (x = 1 ∧ C (c + 2) t = C (c + 2) u ∧ C (c + 3) t = C (c + 3) u) ∨ (x = 0 ∧ ¬ db C c t u) → w_X12_areDoubles_b55 Q p t u x M := by
    intro x hx
    unfold w_X12_areDoubles_b55
    refine loop6 _ (fun (a b d y k : Int) M1 => p = a ∧ t = b ∧ u = d ∧ M = M1 ∧ 0 ≤ k ∧ k ≤ pcn C c t ∧ ((y = 1 ∧ C (c + 2) t = C (c + 2) u ∧ C (c + 3) t = C (c + 3) u ∧ ∀ j, 0 ≤ j → j < k → C (c + 9) (C (c + 4) t + j) = C (c + 9) (C (c + 4) u + j)) ∨ (y = 0 ∧ ¬ db C c t u))) (fun _ _ _ y (k : Int) _ => (pcn C c t - k).toNat + (if y = 0 then 0 else 1)) ?_ _ _ _ _ _ _ ⟨rfl, rfl, rfl, rfl, by omega, hpc.1, ?_⟩
    · rintro _ _ _ y k _ f ⟨rfl, rfl, rfl, rfl, k0, k1, hy⟩ ih
      unfold wb_X12_areDoubles_b60
      refine ⟨fun z => ?_, fun z => ?_⟩
      · rcases hy with ⟨q, -⟩ | ⟨q1, q2⟩
        · omega
        · exact ⟨Or.inl z, by rw [z]; exact h0 q2⟩
      · rcases hy with ⟨q1, q2, q3, q4⟩ | ⟨q1, -⟩
        · refine p_slotsIn hY hw hb p0 p5 t0 t1 fun _ => ⟨fun z2 => ⟨Or.inr q1, by rw [q1]; exact h1 ⟨q2, q3, fun j a b => q4 j a (by omega)⟩⟩, fun z2 => ?_⟩
          have ku : k < pcn C c u := by
            have : pcn C c t = pcn C c u := by unfold pcn; rw [q2, q3]
            omega
          refine p_valueIn hY hw hb p0 p5 t0 t1 k0 (by omega) fun _ _ => p_valueIn hY hw hb p0 p5 u0 u1 k0 ku fun _ _ => ?_
          unfold w_X12_areDoubles_b101
          refine ⟨fun z3 => ⟨by unfold ri_; omega, ih _ _ _ _ _ _ ⟨rfl, rfl, rfl, rfl, by omega, by omega, Or.inr ⟨rfl, fun q => z3 (q.2.2 k k0 (by omega))⟩⟩ ?_⟩, fun z3 => ⟨by unfold ri_; omega, ih _ _ _ _ _ _ ⟨rfl, rfl, rfl, rfl, by omega, by omega, Or.inl ⟨rfl, q2, q3, fun j a b => ?_⟩⟩ ?_⟩⟩
          · rw [if_pos rfl, if_neg z]; omega
          · by_cases e : j = k
            · rw [e]; exact z3
            · exact q4 j a (by omega)
          · rw [if_neg (by decide), if_neg z]; omega
        · exact absurd q1 z
    · rcases hx with ⟨q1, q2, q3⟩ | q
      · exact Or.inl ⟨q1, q2, q3, fun j a b => by omega⟩
      · exact Or.inr q
  unfold w_X12_areDoubles w_X12_areDoubles_b54
  refine p_at p0 p5 t0 (by omega) fun _ => ⟨by omega, by omega, fun v3 e3 _ => p_at p0 p5 u0 (by omega) fun _ => ⟨by omega, by omega, fun v6 e6 _ => ?_⟩⟩
  rw [← b2] at e3
  rw [← d2] at e6
  refine ⟨fun z => go 0 (Or.inr ⟨rfl, fun q => z (by rw [e3, e6]; exact q.1)⟩), fun z => p_at p0 p5 t0 (by omega) fun _ => ⟨by omega, by omega, fun v10 e10 _ => p_at p0 p5 u0 (by omega) fun _ => ⟨by omega, by omega, fun v13 e13 _ => ?_⟩⟩⟩
  rw [← b3] at e10
  rw [← d3] at e13
  exact ⟨fun z2 => go 0 (Or.inr ⟨rfl, fun q => z2 (by rw [e10, e13]; exact q.2.1)⟩), fun z2 => go 1 (Or.inl ⟨rfl, by rw [← e3, ← e6]; exact z, by rw [← e10, ← e13]; exact z2⟩)⟩
def gpT (C M : MM) (c : Nat) (p T : Int) : Prop := ∀ u, 0 ≤ u → u < C c 0 → (M 50 (400 * p + u) = -1 ∧ ∀ r, 0 ≤ r → r < T → rpG C c r → ¬ db C c r u) ∨ (∃ r, 0 ≤ r ∧ r < T ∧ rpG C c r ∧ db C c r u ∧ M 50 (400 * p + u) = rk (rpG C c) r.toNat)
def gpF (A M : MM) (p : Int) : Prop := (∀ k, k ≠ 50 → k ≠ 54 → M k = A k) ∧ (∀ i, ¬ (400 * p ≤ i ∧ i < 400 * p + 400) → M 50 i = A 50 i) ∧ ∀ i, i ≠ p → M 54 i = A 54 i
theorem gpF_u {A M : MM} {p : Int} (h : gpF A M p) {i v : Int} (i0 : 400 * p ≤ i) (i1 : i < 400 * p + 400) : gpF A (ux_ M 50 i v) p := ⟨fun q a b => funext fun j => by rw [ux_c _ _ _ _ a, h.1 q a b], fun j hj => by rw [ux_i _ _ _ (by omega)]; exact h.2.1 j hj, fun j hj => by rw [ux_c _ _ _ _ (by decide)]; exact h.2.2 j hj⟩
theorem gpF_n {A M : MM} {p v : Int} (h : gpF A M p) : gpF A (ux_ M 54 p v) p := ⟨fun q a b => funext fun j => by rw [ux_c _ _ _ _ b, h.1 q a b], fun j hj => by rw [ux_c _ _ _ _ (by decide)]; exact h.2.1 j hj, fun j hj => by rw [ux_i _ _ _ hj]; exact h.2.2 j hj⟩
/-- a double of an earlier one has a first one -/
theorem rpG_ex {C : MM} {c : Nat} (n : Nat) : ∀ u t : Int, 0 ≤ u → u < t → t < C c 0 → u < n → db C c u t → ∃ r, rpG C c r ∧ db C c r t ∧ 0 ≤ r ∧ r ≤ u := by
  induction n with
  | zero => intro u t a b d e; omega
  | succ n ih =>
    intro u t u0 ut t1 un h
    by_cases z : ∃ v, 0 ≤ v ∧ v < u ∧ db C c v u
    · obtain ⟨v, v0, v1, hv⟩ := z
      obtain ⟨r, r1, r2, r3, r4⟩ := ih v t v0 (by omega) t1 (by omega) (db_t hv h)
      exact ⟨r, r1, r2, r3, by omega⟩
    · exact ⟨u, ⟨fun v v0 v1 q => z ⟨v, v0, v1, q⟩, t, ut, t1, h⟩, h, u0, by omega⟩
set_option maxHeartbeats 1000000 in
theorem p_R_findGroups {Q : Int → MM → Prop} {C A : MM} {c : Nat} {p : Int} (hY : Rty C A) (hw : PW C c) (hb : Rpb C A c p) (p0 : 0 ≤ p) (p5 : p < 5) (hq : ∀ M, gpF A M p → gpT C M c p (C c 0) → M 54 p = rk (rpG C c) (C c 0).toNat → Q 0 M) : w_X12_findGroups Q p A := by
  have n0 := hw.1
  have n4 := hw.2.1
  have gY : ∀ M, gpF A M p → Rty C M := fun M h => Rty_R hY (fun k a b _ => h.1 k (by omega) (by omega)) (by rw [h.1 0 (by decide) (by decide)])
  have gb : ∀ M, gpF A M p → Rpb C M c p := fun M h => Rpb_M hb (fun k hk => h.1 k (by intro q; rw [q] at hk; revert hk; decide) (by intro q; rw [q] at hk; revert hk; decide))
  have second : ∀ M, gpF A M p → (∀ u, 0 ≤ u → u < C c 0 → M 50 (400 * p + u) = -1) → M 54 p = 0 → w_X12_findGroups_b39 Q p 0 M := by
    intro M hF h50 h54
    refine loop3 _ (fun (a t : Int) M1 => p = a ∧ 0 ≤ t ∧ t ≤ C c 0 ∧ gpF A M1 p ∧ gpT C M1 c p t ∧ M1 54 p = rk (rpG C c) t.toNat) (fun _ (t : Int) _ => (C c 0 - t).toNat) ?_ _ _ _ ⟨rfl, by omega, n0, hF, fun u u0 u1 => Or.inl ⟨h50 u u0 u1, fun r a b => by omega⟩, h54⟩
    rintro _ t M1 f ⟨rfl, t0, t1, hF1, hT, hn⟩ ih
    have tt : ((t.toNat : Nat) : Int) = t := by omega
    have rb := rk_bd (rpG C c) t.toNat
    unfold wb_X12_findGroups_b39
    refine ⟨p0, p5, fun v1 e1 _ => ?_⟩
    rw [← (gb M1 hF1).1] at e1
    subst e1
    refine ⟨fun z => hq M1 hF1 (by rw [show C c 0 = t from by omega]; exact hT) (by rw [show C c 0 = t from by omega]; exact hn), fun z => p_at p0 p5 t0 (by omega) fun _ => ⟨by omega, by omega, fun v5 e5 _ => ?_⟩⟩
    have nxt : ∀ M2, gpF A M2 p → gpT C M2 c p (t + 1) → M2 54 p = rk (rpG C c) (t.toNat + 1) → w_X12_findGroups_b175 Q f p t M2 := fun M2 q0 q1 q2 => by
      unfold w_X12_findGroups_b175
      exact ⟨by unfold ri_; omega, ih _ _ _ ⟨rfl, by omega, by omega, q0, q1, by rw [show (t + 1).toNat = t.toNat + 1 from by omega]; exact q2⟩ (by omega)⟩
    have norep : ∀ M2, gpF A M2 p → (∀ u, 0 ≤ u → u < C c 0 → M2 50 (400 * p + u) = M1 50 (400 * p + u)) → M2 54 p = M1 54 p → ¬ rpG C c t → w_X12_findGroups_b175 Q f p t M2 := fun M2 q0 q1 q2 hr => by
      refine nxt M2 q0 (fun u u0 u1 => ?_) (by rw [(rk_s t.toNat).2 (by rw [tt]; exact hr), q2]; exact hn)
      rw [q1 u u0 u1]
      rcases hT u u0 u1 with ⟨a1, a2⟩ | ⟨r, a1, a2, a3⟩
      · refine Or.inl ⟨a1, fun r r0 r1 r2 => ?_⟩
        by_cases y : r = t
        · rw [y] at r2; exact absurd r2 hr
        · exact a2 r r0 (by omega) r2
      · exact Or.inr ⟨r, a1, by omega, a3⟩
    refine ⟨fun z5 => ⟨by unfold ri_; omega, ?_⟩, fun z5 => norep M1 hF1 (fun _ _ _ => rfl) rfl fun q => ?_⟩
    · rw [z5] at e5
      -- no earlier one is a double of it
      have hno : ∀ u, 0 ≤ u → u < t → ¬ db C c u t := fun u u0 u1 q => by
        obtain ⟨r, r1, r2, r3, r4⟩ := rpG_ex (u.toNat + 1) u t u0 u1 (by omega) (by omega) q
        rcases hT t t0 (by omega) with ⟨-, a2⟩ | ⟨r', a1, a2, a3, a4, a5⟩
        · exact a2 r r3 (by omega) r1 r2
        · have := rk_bd (rpG C c) r'.toNat
          omega
      have free : ∀ x, 0 ≤ x → x < C c 0 → db C c t x → M1 50 (400 * p + x) = -1 := fun x x0 x1 q => by
        rcases hT x x0 x1 with ⟨a1, -⟩ | ⟨r, a1, a2, a3, a4, a5⟩
        · exact a1
        · exact absurd (db_t a4 (db_s q)) (hno r a1 a2)
      refine loop5 _ (fun (a b s u : Int) M2 => p = a ∧ t = b ∧ t + 1 ≤ u ∧ u ≤ C c 0 ∧ gpF A M2 p ∧ M2 54 p = M1 54 p ∧ ((s = 0 ∧ ∀ x, t < x → x < u → ¬ db C c t x) ∨ (s = 1 ∧ ∃ x, t < x ∧ x < u ∧ db C c t x)) ∧ ∀ x, 0 ≤ x → x < C c 0 → (t < x → x < u → db C c t x → M2 50 (400 * p + x) = M1 54 p) ∧ (¬ (t < x ∧ x < u ∧ db C c t x) → M2 50 (400 * p + x) = M1 50 (400 * p + x))) (fun _ _ _ (u : Int) _ => (C c 0 - u).toNat) ?_ _ _ _ _ _ ⟨rfl, rfl, by omega, by omega, hF1, rfl, Or.inl ⟨rfl, fun x a b => by omega⟩, fun x x0 x1 => ⟨fun a b => by omega, fun _ => rfl⟩⟩
      rintro _ _ s u M2 g ⟨rfl, rfl, u0, u1, hF2, f54, hs, f50⟩ ih2
      unfold wb_X12_findGroups_b74
      refine ⟨p0, p5, fun v1 e1 _ => ?_⟩
      rw [← (gb M2 hF2).1] at e1
      subst e1
      refine ⟨fun z2 => ⟨fun zs => ?_, fun zs => ?_⟩, fun z2 => p_at p0 p5 (by omega) (by omega) fun _ => ⟨by omega, by omega, fun v13 e13 _ => ?_⟩⟩
      · rcases hs with ⟨q, -⟩ | ⟨-, x9, x91, x92, x93⟩
        · exact absurd q zs
        have hrep : rpG C c t := ⟨hno, x9, x91, by omega, x93⟩
        refine p_at p0 p5 t0 (by omega) fun _ => ⟨p0, p5, fun v6 e6 _ => ⟨by omega, by omega, fun M7 e7 => ⟨p0, p5, fun v8 e8 _ => ?_⟩⟩⟩
        rw [f54, hn] at e6
        rw [e7, ux_c _ _ _ _ (by decide), f54, hn] at e8
        rw [e8]
        refine ⟨by unfold ri_; omega, p0, p5, fun M10 e10 => nxt M10 (by rw [e10, e7]; exact gpF_n (gpF_u hF2 (by omega) (by omega))) (fun x x0 x1 => ?_) (by rw [e10, ux_s, (rk_s t.toNat).1 (by rw [tt]; exact hrep)])⟩
        rw [e10, ux_c _ _ _ _ (by decide), e7]
        by_cases y : x = t
        · rw [y, ux_s]
          exact Or.inr ⟨t, t0, by omega, hrep, db_r _ _ _, e6⟩
        · rw [ux_i _ _ _ (by omega)]
          obtain ⟨g1, g2⟩ := f50 x x0 x1
          by_cases y2 : t < x ∧ x < u ∧ db C c t x
          · rw [g1 y2.1 y2.2.1 y2.2.2]
            exact Or.inr ⟨t, t0, by omega, hrep, y2.2.2, hn⟩
          · rw [g2 y2]
            have hns : ¬ db C c t x := fun q => by
              by_cases yx : t < x
              · exact y2 ⟨yx, by omega, q⟩
              · exact hno x x0 (by omega) (db_s q)
            rcases hT x x0 x1 with ⟨a1, a2⟩ | ⟨r, a1, a2, a3⟩
            · refine Or.inl ⟨a1, fun r r0 r1 r2 => ?_⟩
              by_cases yr : r = t
              · rw [yr]; exact hns
              · exact a2 r r0 (by omega) r2
            · exact Or.inr ⟨r, a1, by omega, a3⟩
      · rcases hs with ⟨-, q⟩ | ⟨q, -⟩
        · refine norep M2 hF2 (fun x x0 x1 => (f50 x x0 x1).2 (fun y => q x y.1 y.2.1 y.2.2)) f54 (fun y => ?_)
          obtain ⟨-, x, x2, x3, x4⟩ := y
          exact q x x2 (by omega) x4
        · omega
      · have skip : ¬ db C c t u → w_X12_findGroups_b135 Q f g p t s u M2 := fun hnd => by
          unfold w_X12_findGroups_b135
          refine ⟨by unfold ri_; omega, ih2 _ _ _ _ _ ⟨rfl, rfl, by omega, by omega, hF2, f54, ?_, fun x x0 x1 => ⟨fun a b d => ?_, fun a => ?_⟩⟩ (by omega)⟩
          · rcases hs with ⟨q1, q2⟩ | ⟨q1, x, q2, q3, q4⟩
            · refine Or.inl ⟨q1, fun x a b => ?_⟩
              by_cases y : x = u
              · rw [y]; exact hnd
              · exact q2 x a (by omega)
            · exact Or.inr ⟨q1, x, q2, by omega, q4⟩
          · have : x ≠ u := fun y => hnd (by rw [← y]; exact d)
            exact (f50 x x0 x1).1 a (by omega) d
          · exact (f50 x x0 x1).2 (fun q => a ⟨q.1, by omega, q.2.2⟩)
        have hu50 := (f50 u (by omega) (by omega)).2 (fun q => by omega)
        refine ⟨fun z13 => skip fun q => z13 (by rw [e13, hu50]; exact free u (by omega) (by omega) q), fun z13 => p_R_areDoubles (gY M2 hF2) hw (gb M2 hF2) p0 p5 t0 (by omega) (by omega) (by omega) (fun hd _ => ⟨fun _ => p_at p0 p5 (by omega) (by omega) fun _ => ⟨p0, p5, fun v20 e20 _ => ⟨by omega, by omega, fun M21 e21 => ?_⟩⟩, fun q => by omega⟩) (fun hd _ => ⟨fun q => absurd rfl q, fun _ => skip hd⟩)⟩
        rw [f54] at e20
        unfold w_X12_findGroups_b135
        refine ⟨by unfold ri_; omega, ih2 _ _ _ _ _ ⟨rfl, rfl, by omega, by omega, by rw [e21]; exact gpF_u hF2 (by omega) (by omega), by rw [e21, ux_c _ _ _ _ (by decide), f54], Or.inr ⟨rfl, u, by omega, by omega, hd⟩, fun x x0 x1 => ⟨fun a b d => ?_, fun a => ?_⟩⟩ (by omega)⟩
        · rw [e21]
          by_cases y : x = u
          · rw [y, ux_s, e20]
          · rw [ux_i _ _ _ (by omega)]; exact (f50 x x0 x1).1 a (by omega) d
        · have : x ≠ u := fun y => a ⟨by omega, by omega, by rw [y]; exact hd⟩
          rw [e21, ux_i _ _ _ (by omega)]
          exact (f50 x x0 x1).2 (fun q => a ⟨q.1, by omega, q.2.2⟩)
    · rcases hT t t0 (by omega) with ⟨a1, -⟩ | ⟨r, a1, a2, a3, a4, -⟩
      · rw [e5] at z5; exact z5 a1
      · exact q.1 r a1 a2 a4
  unfold w_X12_findGroups
  refine ⟨p0, p5, fun M1 e1 => ?_⟩
  refine loop3 _ (fun (a t : Int) M2 => p = a ∧ 0 ≤ t ∧ t ≤ C c 0 ∧ gpF A M2 p ∧ M2 54 p = 0 ∧ ∀ u, 0 ≤ u → u < t → M2 50 (400 * p + u) = -1) (fun _ (t : Int) _ => (C c 0 - t).toNat) ?_ _ _ _ ⟨rfl, by omega, n0, by rw [e1]; exact gpF_n ⟨fun _ _ _ => rfl, fun _ _ => rfl, fun _ _ => rfl⟩, by rw [e1, ux_s], fun u a b => by omega⟩
  rintro _ t M2 f ⟨rfl, t0, t1, hF, h54, hm⟩ ih
  unfold wb_X12_findGroups_b9
  refine ⟨p0, p5, fun v1 e1 _ => ?_⟩
  rw [← (gb M2 hF).1] at e1
  subst e1
  refine ⟨fun z => second M2 hF (fun u u0 u1 => hm u u0 (by omega)) h54, fun z => p_at p0 p5 t0 (by omega) fun _ => ⟨by omega, by omega, fun M5 e5 => ⟨by unfold ri_; omega, ih _ _ _ ⟨rfl, by omega, by omega, by rw [e5]; exact gpF_u hF (by omega) (by omega), by rw [e5, ux_c _ _ _ _ (by decide)]; exact h54, fun u u0 u1 => ?_⟩ (by omega)⟩⟩⟩
  rw [e5]
  by_cases y : u = t
  · rw [y, ux_s]
  · rw [ux_i _ _ _ (by omega)]; exact hm u u0 (by omega)
