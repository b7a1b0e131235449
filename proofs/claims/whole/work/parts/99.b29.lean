/-! rings: a thing is left -/
theorem TJ_dn {C : MM} {c : Nat} {o lo rg π σ : Int → Int} {dp tp now : Int} {Pd : Int → Int → Prop} (hw : PW C c) (h : TJ C c o lo rg π σ dp tp now Pd) (d : Nat) : ∀ i, 0 ≤ i → i + d < dp → d ≠ 0 → rr C c (π i) (π (i + d)) := by
  induction d with
  | zero => intro i _ _ q; exact absurd rfl q
  | succ d ih =>
    intro i i0 i1 _
    have e := pE_rr hw (h.pe (i + d) (by omega) (by omega))
    rw [show i + ((d + 1 : Nat) : Int) = i + d + 1 from by omega]
    by_cases z : d = 0
    · rw [z] at e ⊢
      rw [show i + ((0 : Nat) : Int) = i from by omega] at e ⊢
      exact e
    · exact rr_t (ih i i0 (by omega) z) e
/-- all that is open reaches the last of the path -/
theorem TJ_rt {C : MM} {c : Nat} {o lo rg π σ : Int → Int} {dp tp now : Int} {Pd : Int → Int → Prop} (hw : PW C c) (h : TJ C c o lo rg π σ dp tp now Pd) (d0 : 0 < dp) (m : Nat) : ∀ u, 0 ≤ u → u < C c 0 → o u ≠ -1 → rg u = -1 → o u < m → u = π (dp - 1) ∨ rr C c u (π (dp - 1)) := by
  induction m with
  | zero =>
    intro u u0 u1 uo ur um
    rcases h.om u u0 u1 with q | q
    · exact absurd q uo
    · omega
  | succ m ih =>
    intro u u0 u1 uo ur um
    by_cases e : u = π (dp - 1)
    · exact Or.inl e
    · by_cases z : ∃ i, 0 ≤ i ∧ i < dp ∧ π i = u
      · obtain ⟨i, i0, i1, i2⟩ := z
        have ne : i ≠ dp - 1 := fun q => e (by rw [← i2, q])
        have := TJ_dn hw h (dp - 1 - i).toNat i i0 (by omega) (by omega)
        rw [i2, show i + ((dp - 1 - i).toNat : Nat) = dp - 1 from by omega] at this
        exact Or.inr this
      · have hl := h.ls u u0 u1 uo ur fun i i0 i1 q => z ⟨i, i0, i1, q⟩
        obtain ⟨a1, a2, w, a3, a4, a5, a6, a7, a8⟩ := h.lb u u0 u1 uo ur
        rcases a8 with q | q
        · rw [q] at a7; omega
        · rcases ih w a3 a4 a5 a6 (by omega) with y | y
          · rw [← y]; exact Or.inr q
          · exact Or.inr (rr_t q y)
theorem TJ_lo {C : MM} {c : Nat} {o lo lo' rg π σ : Int → Int} {dp tp now : Int} {Pd : Int → Int → Prop} (hw : PW C c) (h : TJ C c o lo rg π σ dp tp now Pd) (d0 : 0 < dp) (hl : ∀ x, ¬ (1 < dp ∧ x = π (dp - 2)) → lo' x = lo x) (hl2 : 1 < dp → lo' (π (dp - 2)) = min (lo (π (dp - 2))) (lo (π (dp - 1)))) : (∀ x, lo' x ≤ lo x) ∧ ∀ t, 0 ≤ t → t < C c 0 → o t ≠ -1 → rg t = -1 → 0 ≤ lo' t ∧ lo' t ≤ o t ∧ ∃ w, 0 ≤ w ∧ w < C c 0 ∧ o w ≠ -1 ∧ rg w = -1 ∧ o w = lo' t ∧ (w = t ∨ rr C c t w) := by
  have le : ∀ x, lo' x ≤ lo x := fun x => by
    by_cases q : 1 < dp ∧ x = π (dp - 2)
    · rw [q.2, hl2 q.1]; omega
    · rw [hl x q]; omega
  refine ⟨le, fun t t0 t1 to tr => ?_⟩
  obtain ⟨a1, a2, w, a3, a4, a5, a6, a7, a8⟩ := h.lb t t0 t1 to tr
  by_cases q : 1 < dp ∧ t = π (dp - 2)
  · rw [q.2, hl2 q.1]
    rw [q.2] at a1 a2 a7 a8
    have p1 := h.p1 (dp - 1) (by omega) (by omega)
    have pe := h.pe (dp - 2) (by omega) (by omega)
    rw [show dp - 2 + 1 = dp - 1 from by omega] at pe
    obtain ⟨b1, b2, w', b3, b4, b5, b6, b7, b8⟩ := h.lb (π (dp - 1)) p1.1 p1.2.1 p1.2.2.1 p1.2.2.2
    by_cases m : lo (π (dp - 2)) ≤ lo (π (dp - 1))
    · rw [show min (lo (π (dp - 2))) (lo (π (dp - 1))) = lo (π (dp - 2)) from by omega]
      exact ⟨a1, a2, w, a3, a4, a5, a6, a7, a8⟩
    · rw [show min (lo (π (dp - 2))) (lo (π (dp - 1))) = lo (π (dp - 1)) from by omega]
      refine ⟨b1, by omega, w', b3, b4, b5, b6, b7, Or.inr ?_⟩
      rcases b8 with y | y
      · rw [y]; exact pE_rr hw pe
      · exact rr_t (pE_rr hw pe) y
  · rw [hl t q]; exact ⟨a1, a2, w, a3, a4, a5, a6, a7, a8⟩
theorem TJ_pop {C : MM} {c : Nat} {o lo lo' rg π σ : Int → Int} {dp tp now : Int} {Pd : Int → Int → Prop} (hw : PW C c) (h : TJ C c o lo rg π σ dp tp now Pd) (d0 : 0 < dp) (hall : ∀ v, pE C c (π (dp - 1)) v → Pd (π (dp - 1)) v) (hl : ∀ x, ¬ (1 < dp ∧ x = π (dp - 2)) → lo' x = lo x) (hl2 : 1 < dp → lo' (π (dp - 2)) = min (lo (π (dp - 2))) (lo (π (dp - 1)))) (hlt : lo (π (dp - 1)) < o (π (dp - 1))) : TJ C c o lo' rg π σ (dp - 1) tp now Pd := by
  obtain ⟨b1, b2, b3, b4⟩ := h.b0
  obtain ⟨le, lb'⟩ := TJ_lo hw h d0 hl hl2
  have pt := h.p1 (dp - 1) (by omega) (by omega)
  have pff : ∀ t, 0 ≤ t → t < C c 0 → o t ≠ -1 → rg t = -1 → 1 < dp := by
    intro t t0 t1 to tr
    obtain ⟨a1, a2, w, a3, a4, a5, a6, a7, a8⟩ := h.lb _ pt.1 pt.2.1 pt.2.2.1 pt.2.2.2
    have := (h.pf w a3 a4 a5 a6).2
    by_cases e : dp = 1
    · rw [show dp - 1 = 0 from by omega] at a7 hlt; omega
    · omega
  have off : ∀ u, (∀ i, 0 ≤ i → i < dp - 1 → π i ≠ u) → u ≠ π (dp - 1) → ∀ i, 0 ≤ i → i < dp → π i ≠ u := fun u hu ne i i0 i1 => by
    by_cases e : i = dp - 1
    · rw [e]; exact fun q => ne q.symm
    · exact hu i i0 (by omega)
  have ne2 : 1 < dp → π (dp - 2) ≠ π (dp - 1) := fun q e => by
    have := h.p3 (dp - 2) (dp - 1) (by omega) (by omega) (by omega)
    rw [e] at this; omega
  refine ⟨by omega, h.nw, h.om, h.oi, h.s1, h.s2, h.s3, fun i i0 i1 => h.p1 i i0 (by omega), fun i j i0 ij j1 => h.p3 i j i0 ij (by omega), fun i i0 i1 => h.pe i i0 (by omega), fun t t0 t1 to tr => ⟨by have := pff t t0 t1 to tr; omega, (h.pf t t0 t1 to tr).2⟩, h.d1, h.d2, ?_, h.d4, h.c1, h.c3, ?_, lb', ?_, ?_⟩
  · intro u v u0 u1 uo un ue
    by_cases e : u = π (dp - 1)
    · rw [e] at ue ⊢; exact hall v ue
    · exact h.d3 u v u0 u1 uo (off u un e) ue
  · intro i t i0 i1 t0 t1 to tr ts1 ts2
    by_cases z : i = dp - 2
    · by_cases y : o t < o (π (dp - 1))
      · exact h.ad i t i0 (by omega) t0 t1 to tr ts1 fun q => by rw [show i + 1 = dp - 1 from by omega]; exact y
      · have pe := pE_rr hw (h.pe i i0 (by omega))
        rw [show i + 1 = dp - 1 from by omega] at pe
        rcases h.ad (dp - 1) t (by omega) (by omega) t0 t1 to tr (by omega) (fun q => by omega) with q | q
        · rw [q]; exact Or.inr pe
        · exact Or.inr (rr_t pe q)
    · exact h.ad i t i0 (by omega) t0 t1 to tr ts1 fun q => ts2 (by omega)
  · intro t t0 t1 to tr tn
    by_cases e : t = π (dp - 1)
    · have := le t
      rw [e] at this ⊢; omega
    · have := h.ls t t0 t1 to tr (off t tn e)
      have := le t
      omega
  · intro i u v i0 i1 u0 u1 uo ur us1 us2 q vr
    have := le (π i)
    by_cases z : i = dp - 2
    · by_cases y : o u < o (π (dp - 1))
      · have := h.ld i u v i0 (by omega) u0 u1 uo ur us1 (fun q => by rw [show i + 1 = dp - 1 from by omega]; exact y) q vr
        omega
      · have := h.ld (dp - 1) u v (by omega) (by omega) u0 u1 uo ur (by omega) (fun q => by omega) q vr
        rw [z, hl2 (by omega)]; omega
    · have := h.ld i u v i0 (by omega) u0 u1 uo ur us1 (fun q => us2 (by omega)) q vr
      omega
/-- what is closed reaches what is closed alone -/
theorem TJ_cl {C : MM} {c : Nat} {o lo rg π σ : Int → Int} {dp tp now : Int} {Pd : Int → Int → Prop} (hw : PW C c) (h : TJ C c o lo rg π σ dp tp now Pd) {u v : Int} (u0 : 0 ≤ u) (u1 : u < C c 0) (ur : rg u ≠ -1) (hr : rr C c u v) : rg v ≠ -1 := by
  refine (rc_i (P := fun x => 0 ≤ x ∧ x < C c 0 ∧ rg x ≠ -1) (fun x hx _ => ⟨(pE_in hw hx).1, (pE_in hw hx).2, (h.c1 u u0 u1 ur).2.2.2.2.2 x hx⟩) (fun x y hx hy _ => ⟨(pE_in hw hy).1, (pE_in hw hy).2, (h.c1 x hx.1 hx.2.1 hx.2.2).2.2.2.2.2 y hy⟩) v hr).2.2
theorem TJ_close {C : MM} {c : Nat} {o lo lo' rg rg' π σ : Int → Int} {dp tp tp' now : Int} {Pd : Int → Int → Prop} (hw : PW C c) (h : TJ C c o lo rg π σ dp tp now Pd) (d0 : 0 < dp) (hall : ∀ v, pE C c (π (dp - 1)) v → Pd (π (dp - 1)) v) (hl : ∀ x, ¬ (1 < dp ∧ x = π (dp - 2)) → lo' x = lo x) (hl2 : 1 < dp → lo' (π (dp - 2)) = min (lo (π (dp - 2))) (lo (π (dp - 1)))) (heq : lo (π (dp - 1)) = o (π (dp - 1))) (t0' : 0 ≤ tp') (t1' : tp' < tp) (ht : σ tp' = π (dp - 1)) (hr : ∀ u, 0 ≤ u → u < C c 0 → ((o u ≠ -1 ∧ rg u = -1 ∧ o (π (dp - 1)) ≤ o u) → rg' u = π (dp - 1)) ∧ (¬ (o u ≠ -1 ∧ rg u = -1 ∧ o (π (dp - 1)) ≤ o u) → rg' u = rg u)) : TJ C c o lo' rg' π σ (dp - 1) tp' now Pd := by
  obtain ⟨b1, b2, b3, b4⟩ := h.b0
  obtain ⟨le, lb'⟩ := TJ_lo hw h d0 hl hl2
  have pt := h.p1 (dp - 1) (by omega) (by omega)
  -- what is open behind it was open and lies below
  have open_ : ∀ u, 0 ≤ u → u < C c 0 → o u ≠ -1 → rg' u = -1 → rg u = -1 ∧ o u < o (π (dp - 1)) := by
    intro u u0 u1 uo ur
    by_cases q : o u ≠ -1 ∧ rg u = -1 ∧ o (π (dp - 1)) ≤ o u
    · rw [(hr u u0 u1).1 q] at ur; omega
    · have e := (hr u u0 u1).2 q
      rw [e] at ur
      refine ⟨ur, ?_⟩
      by_cases y : o u < o (π (dp - 1))
      · exact y
      · exact absurd ⟨uo, ur, by omega⟩ q
  have keep : ∀ u, 0 ≤ u → u < C c 0 → rg u = -1 → o u < o (π (dp - 1)) → rg' u = -1 := fun u u0 u1 ur y => by
    rw [(hr u u0 u1).2 (fun q => by omega), ur]
  have old : ∀ u, 0 ≤ u → u < C c 0 → rg u ≠ -1 → rg' u = rg u := fun u u0 u1 ur => (hr u u0 u1).2 (fun q => ur q.2.1)
  have off : ∀ u, (∀ i, 0 ≤ i → i < dp - 1 → π i ≠ u) → u ≠ π (dp - 1) → ∀ i, 0 ≤ i → i < dp → π i ≠ u := fun u hu ne i i0 i1 => by
    by_cases e : i = dp - 1
    · rw [e]; exact fun q => ne q.symm
    · exact hu i i0 (by omega)
  have pfr : ∀ i, 0 ≤ i → i < dp - 1 → o (π i) < o (π (dp - 1)) := fun i i0 i1 => h.p3 i (dp - 1) i0 (by omega) (by omega)
  have new : ∀ u, 0 ≤ u → u < C c 0 → o u ≠ -1 → rg u = -1 → o (π (dp - 1)) ≤ o u → (u = π (dp - 1) ∨ sym_ C c u (π (dp - 1))) ∧ ∀ v, pE C c u v → rg' v ≠ -1 := by
    intro u u0 u1 uo ur us
    refine ⟨?_, fun v hv => ?_⟩
    · rcases h.ad (dp - 1) u (by omega) (by omega) u0 u1 uo ur us (fun q => by omega) with q | q
      · exact Or.inl q
      · rcases TJ_rt hw h d0 (o u + 1).toNat u u0 u1 uo ur (by omega) with y | y
        · exact Or.inl y
        · exact Or.inr ⟨y, q⟩
    · have vi := pE_in hw hv
      have hP : Pd u v := by
        by_cases e : u = π (dp - 1)
        · rw [e] at hv ⊢; exact hall v hv
        · refine h.d3 u v u0 u1 uo (fun i i0 i1 q => ?_) hv
          by_cases e2 : i = dp - 1
          · rw [e2] at q; exact e q.symm
          · have := pfr i i0 (by omega)
            rw [q] at this; omega
      by_cases y : rg v = -1
      · have := h.ld (dp - 1) u v (by omega) (by omega) u0 u1 uo ur us (fun q => by omega) hP y
        rw [(hr v vi.1 vi.2).1 ⟨h.d4 u v hP, y, by omega⟩]
        omega
      · rw [old v vi.1 vi.2 y]; exact y
  have cls : ∀ u, 0 ≤ u → u < C c 0 → rg' u ≠ -1 → (rg u ≠ -1 ∧ rg' u = rg u) ∨ (o u ≠ -1 ∧ rg u = -1 ∧ o (π (dp - 1)) ≤ o u ∧ rg' u = π (dp - 1)) := by
    intro u u0 u1 ur
    by_cases q : o u ≠ -1 ∧ rg u = -1 ∧ o (π (dp - 1)) ≤ o u
    · exact Or.inr ⟨q.1, q.2.1, q.2.2, (hr u u0 u1).1 q⟩
    · have e := (hr u u0 u1).2 q
      rw [e] at ur
      exact Or.inl ⟨ur, e⟩
  refine ⟨by omega, h.nw, h.om, h.oi, ?_, ?_, fun i j i0 ij j1 => h.s3 i j i0 ij (by omega), ?_, fun i j i0 ij j1 => h.p3 i j i0 ij (by omega), fun i i0 i1 => h.pe i i0 (by omega), ?_, h.d1, h.d2, ?_, h.d4, ?_, ?_, ?_, ?_, ?_, ?_⟩
  · intro i i0 i1
    obtain ⟨a1, a2, a3, a4⟩ := h.s1 i i0 (by omega)
    have := h.s3 i tp' i0 i1 t1'
    rw [ht] at this
    exact ⟨a1, a2, a3, keep _ a1 a2 a4 this⟩
  · intro t t0 t1 to tr
    obtain ⟨y1, y2⟩ := open_ t t0 t1 to tr
    obtain ⟨i, i0, i1, i2⟩ := h.s2 t t0 t1 to y1
    refine ⟨i, i0, ?_, i2⟩
    by_cases z : i < tp'
    · exact z
    · exfalso
      by_cases e : i = tp'
      · rw [e, ht] at i2; rw [← i2] at y2; omega
      · have := h.s3 tp' i t0' (by omega) i1
        rw [ht, i2] at this; omega
  · intro i i0 i1
    obtain ⟨a1, a2, a3, a4⟩ := h.p1 i i0 (by omega)
    exact ⟨a1, a2, a3, keep _ a1 a2 a4 (pfr i i0 i1)⟩
  · intro t t0 t1 to tr
    obtain ⟨y1, y2⟩ := open_ t t0 t1 to tr
    obtain ⟨z1, z2⟩ := h.pf t t0 t1 to y1
    refine ⟨?_, z2⟩
    by_cases e : dp = 1
    · rw [show dp - 1 = 0 from by omega] at y2; omega
    · omega
  · intro u v u0 u1 uo un ue
    by_cases e : u = π (dp - 1)
    · rw [e] at ue ⊢; exact hall v ue
    · exact h.d3 u v u0 u1 uo (off u un e) ue
  · intro u u0 u1 ur
    rcases cls u u0 u1 ur with ⟨q1, q2⟩ | ⟨q1, q2, q3, q4⟩
    · obtain ⟨a1, a2, a3, a4, a5, a6⟩ := h.c1 u u0 u1 q1
      rw [q2]
      refine ⟨a1, a2, a3, by rw [old _ a2 a3 (by rw [a4]; exact q1), a4], a5, fun v hv => ?_⟩
      have := a6 v hv
      have vi := pE_in hw hv
      rw [old v vi.1 vi.2 this]; exact this
    · rw [q4]
      obtain ⟨n1, n2⟩ := new u u0 u1 q1 q2 q3
      exact ⟨q1, pt.1, pt.2.1, (hr _ pt.1 pt.2.1).1 ⟨pt.2.2.1, pt.2.2.2, Int.le_refl _⟩, n1, n2⟩
  · intro u v u0 u1 v0 v1 ur vr hs
    rcases cls u u0 u1 ur with ⟨q1, q2⟩ | ⟨q1, q2, q3, q4⟩
    · rcases cls v v0 v1 vr with ⟨p1, p2⟩ | ⟨p1, p2, p3, p4⟩
      · rw [q2, p2]; exact h.c3 u v u0 u1 v0 v1 q1 p1 hs
      · exact absurd p2 (TJ_cl hw h u0 u1 q1 hs.1)
    · rcases cls v v0 v1 vr with ⟨p1, p2⟩ | ⟨p1, p2, p3, p4⟩
      · exact absurd q2 (TJ_cl hw h v0 v1 p1 hs.2)
      · rw [q4, p4]
  · intro i t i0 i1 t0 t1 to tr ts1 ts2
    obtain ⟨y1, y2⟩ := open_ t t0 t1 to tr
    refine h.ad i t i0 (by omega) t0 t1 to y1 ts1 fun q => ?_
    by_cases z : i + 1 < dp - 1
    · exact ts2 z
    · rw [show i + 1 = dp - 1 from by omega]; exact y2
  · intro t t0 t1 to tr
    obtain ⟨y1, y2⟩ := open_ t t0 t1 to tr
    obtain ⟨a1, a2, w, a3, a4, a5, a6, a7, a8⟩ := lb' t t0 t1 to y1
    exact ⟨a1, a2, w, a3, a4, a5, keep w a3 a4 a6 (by omega), a7, a8⟩
  · intro t t0 t1 to tr tn
    obtain ⟨y1, y2⟩ := open_ t t0 t1 to tr
    have := le t
    have := h.ls t t0 t1 to y1 (off t tn (fun e => by rw [e] at y2; omega))
    omega
  · intro i u v i0 i1 u0 u1 uo ur us1 us2 q vr
    obtain ⟨y1, y2⟩ := open_ u u0 u1 uo ur
    have vi := pE_in hw (h.d1 u v q)
    obtain ⟨y3, y4⟩ := open_ v vi.1 vi.2 (h.d4 u v q) vr
    have := le (π i)
    have := h.ld i u v i0 (by omega) u0 u1 uo y1 us1 (fun q => by
      by_cases z : i + 1 < dp - 1
      · exact us2 z
      · rw [show i + 1 = dp - 1 from by omega]; exact y2) q y3
    omega
/-- nothing on the path: all that was met is closed -/
theorem TJ_0 {C : MM} {c : Nat} {o lo rg π σ : Int → Int} {tp now : Int} {Pd : Int → Int → Prop} (h : TJ C c o lo rg π σ 0 tp now Pd) : TJ C c o lo rg π σ 0 0 now Pd := by
  obtain ⟨b1, b2, b3, b4⟩ := h.b0
  exact ⟨by omega, h.nw, h.om, h.oi, fun i a b => by omega, fun t t0 t1 to tr => by have := (h.pf t t0 t1 to tr).1; omega, fun i j a b e => by omega, h.p1, h.p3, h.pe, h.pf, h.d1, h.d2, h.d3, h.d4, h.c1, h.c3, h.ad, h.lb, h.ls, h.ld⟩
