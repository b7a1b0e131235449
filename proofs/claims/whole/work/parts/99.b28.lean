/-! rings: the search in depth, its state -/
def TJ (C : MM) (c : Nat) (o lo rg π σ : Int → Int) (dp tp now : Int) (Pd : Int → Int → Prop) : Prop := (0 ≤ dp ∧ dp ≤ now ∧ 0 ≤ tp ∧ tp ≤ now) ∧ (now = rk (fun t => o t ≠ -1) (C c 0).toNat) ∧ (∀ t, 0 ≤ t → t < C c 0 → o t = -1 ∨ (0 ≤ o t ∧ o t < now)) ∧ (∀ u v, 0 ≤ u → u < C c 0 → 0 ≤ v → v < C c 0 → o u ≠ -1 → o u = o v → u = v) ∧ (∀ i, 0 ≤ i → i < tp → 0 ≤ σ i ∧ σ i < C c 0 ∧ o (σ i) ≠ -1 ∧ rg (σ i) = -1) ∧ (∀ t, 0 ≤ t → t < C c 0 → o t ≠ -1 → rg t = -1 → ∃ i, 0 ≤ i ∧ i < tp ∧ σ i = t) ∧ (∀ i j, 0 ≤ i → i < j → j < tp → o (σ i) < o (σ j)) ∧ (∀ i, 0 ≤ i → i < dp → 0 ≤ π i ∧ π i < C c 0 ∧ o (π i) ≠ -1 ∧ rg (π i) = -1) ∧ (∀ i j, 0 ≤ i → i < j → j < dp → o (π i) < o (π j)) ∧ (∀ i, 0 ≤ i → i + 1 < dp → pE C c (π i) (π (i + 1))) ∧ (∀ t, 0 ≤ t → t < C c 0 → o t ≠ -1 → rg t = -1 → 0 < dp ∧ o (π 0) ≤ o t) ∧ (∀ u v, Pd u v → pE C c u v) ∧ (∀ u v, 0 ≤ u → u < C c 0 → o u = -1 → ¬ Pd u v) ∧ (∀ u v, 0 ≤ u → u < C c 0 → o u ≠ -1 → (∀ i, 0 ≤ i → i < dp → π i ≠ u) → pE C c u v → Pd u v) ∧ (∀ u v, Pd u v → o v ≠ -1) ∧ (∀ u, 0 ≤ u → u < C c 0 → rg u ≠ -1 → o u ≠ -1 ∧ 0 ≤ rg u ∧ rg u < C c 0 ∧ rg (rg u) = rg u ∧ (u = rg u ∨ sym_ C c u (rg u)) ∧ ∀ v, pE C c u v → rg v ≠ -1) ∧ (∀ u v, 0 ≤ u → u < C c 0 → 0 ≤ v → v < C c 0 → rg u ≠ -1 → rg v ≠ -1 → sym_ C c u v → rg u = rg v) ∧ (∀ i t, 0 ≤ i → i < dp → 0 ≤ t → t < C c 0 → o t ≠ -1 → rg t = -1 → o (π i) ≤ o t → (i + 1 < dp → o t < o (π (i + 1))) → t = π i ∨ rr C c (π i) t) ∧ (∀ t, 0 ≤ t → t < C c 0 → o t ≠ -1 → rg t = -1 → 0 ≤ lo t ∧ lo t ≤ o t ∧ ∃ w, 0 ≤ w ∧ w < C c 0 ∧ o w ≠ -1 ∧ rg w = -1 ∧ o w = lo t ∧ (w = t ∨ rr C c t w)) ∧ (∀ t, 0 ≤ t → t < C c 0 → o t ≠ -1 → rg t = -1 → (∀ i, 0 ≤ i → i < dp → π i ≠ t) → lo t < o t) ∧ (∀ i u v, 0 ≤ i → i < dp → 0 ≤ u → u < C c 0 → o u ≠ -1 → rg u = -1 → o (π i) ≤ o u → (i + 1 < dp → o u < o (π (i + 1))) → Pd u v → rg v = -1 → lo (π i) ≤ o v)
theorem TJ.b0 {C : MM} {c : Nat} {o lo rg π σ : Int → Int} {dp tp now : Int} {Pd : Int → Int → Prop} (h : TJ C c o lo rg π σ dp tp now Pd) : 0 ≤ dp ∧ dp ≤ now ∧ 0 ≤ tp ∧ tp ≤ now := h.1
theorem TJ.nw {C : MM} {c : Nat} {o lo rg π σ : Int → Int} {dp tp now : Int} {Pd : Int → Int → Prop} (h : TJ C c o lo rg π σ dp tp now Pd) : now = rk (fun t => o t ≠ -1) (C c 0).toNat := h.2.1
theorem TJ.om {C : MM} {c : Nat} {o lo rg π σ : Int → Int} {dp tp now : Int} {Pd : Int → Int → Prop} (h : TJ C c o lo rg π σ dp tp now Pd) : ∀ t, 0 ≤ t → t < C c 0 → o t = -1 ∨ (0 ≤ o t ∧ o t < now) := h.2.2.1
theorem TJ.oi {C : MM} {c : Nat} {o lo rg π σ : Int → Int} {dp tp now : Int} {Pd : Int → Int → Prop} (h : TJ C c o lo rg π σ dp tp now Pd) : ∀ u v, 0 ≤ u → u < C c 0 → 0 ≤ v → v < C c 0 → o u ≠ -1 → o u = o v → u = v := h.2.2.2.1
theorem TJ.s1 {C : MM} {c : Nat} {o lo rg π σ : Int → Int} {dp tp now : Int} {Pd : Int → Int → Prop} (h : TJ C c o lo rg π σ dp tp now Pd) : ∀ i, 0 ≤ i → i < tp → 0 ≤ σ i ∧ σ i < C c 0 ∧ o (σ i) ≠ -1 ∧ rg (σ i) = -1 := h.2.2.2.2.1
theorem TJ.s2 {C : MM} {c : Nat} {o lo rg π σ : Int → Int} {dp tp now : Int} {Pd : Int → Int → Prop} (h : TJ C c o lo rg π σ dp tp now Pd) : ∀ t, 0 ≤ t → t < C c 0 → o t ≠ -1 → rg t = -1 → ∃ i, 0 ≤ i ∧ i < tp ∧ σ i = t := h.2.2.2.2.2.1
theorem TJ.s3 {C : MM} {c : Nat} {o lo rg π σ : Int → Int} {dp tp now : Int} {Pd : Int → Int → Prop} (h : TJ C c o lo rg π σ dp tp now Pd) : ∀ i j, 0 ≤ i → i < j → j < tp → o (σ i) < o (σ j) := h.2.2.2.2.2.2.1
theorem TJ.p1 {C : MM} {c : Nat} {o lo rg π σ : Int → Int} {dp tp now : Int} {Pd : Int → Int → Prop} (h : TJ C c o lo rg π σ dp tp now Pd) : ∀ i, 0 ≤ i → i < dp → 0 ≤ π i ∧ π i < C c 0 ∧ o (π i) ≠ -1 ∧ rg (π i) = -1 := h.2.2.2.2.2.2.2.1
theorem TJ.p3 {C : MM} {c : Nat} {o lo rg π σ : Int → Int} {dp tp now : Int} {Pd : Int → Int → Prop} (h : TJ C c o lo rg π σ dp tp now Pd) : ∀ i j, 0 ≤ i → i < j → j < dp → o (π i) < o (π j) := h.2.2.2.2.2.2.2.2.1
theorem TJ.pe {C : MM} {c : Nat} {o lo rg π σ : Int → Int} {dp tp now : Int} {Pd : Int → Int → Prop} (h : TJ C c o lo rg π σ dp tp now Pd) : ∀ i, 0 ≤ i → i + 1 < dp → pE C c (π i) (π (i + 1)) := h.2.2.2.2.2.2.2.2.2.1
theorem TJ.pf {C : MM} {c : Nat} {o lo rg π σ : Int → Int} {dp tp now : Int} {Pd : Int → Int → Prop} (h : TJ C c o lo rg π σ dp tp now Pd) : ∀ t, 0 ≤ t → t < C c 0 → o t ≠ -1 → rg t = -1 → 0 < dp ∧ o (π 0) ≤ o t := h.2.2.2.2.2.2.2.2.2.2.1
theorem TJ.d1 {C : MM} {c : Nat} {o lo rg π σ : Int → Int} {dp tp now : Int} {Pd : Int → Int → Prop} (h : TJ C c o lo rg π σ dp tp now Pd) : ∀ u v, Pd u v → pE C c u v := h.2.2.2.2.2.2.2.2.2.2.2.1
theorem TJ.d2 {C : MM} {c : Nat} {o lo rg π σ : Int → Int} {dp tp now : Int} {Pd : Int → Int → Prop} (h : TJ C c o lo rg π σ dp tp now Pd) : ∀ u v, 0 ≤ u → u < C c 0 → o u = -1 → ¬ Pd u v := h.2.2.2.2.2.2.2.2.2.2.2.2.1
theorem TJ.d3 {C : MM} {c : Nat} {o lo rg π σ : Int → Int} {dp tp now : Int} {Pd : Int → Int → Prop} (h : TJ C c o lo rg π σ dp tp now Pd) : ∀ u v, 0 ≤ u → u < C c 0 → o u ≠ -1 → (∀ i, 0 ≤ i → i < dp → π i ≠ u) → pE C c u v → Pd u v := h.2.2.2.2.2.2.2.2.2.2.2.2.2.1
theorem TJ.d4 {C : MM} {c : Nat} {o lo rg π σ : Int → Int} {dp tp now : Int} {Pd : Int → Int → Prop} (h : TJ C c o lo rg π σ dp tp now Pd) : ∀ u v, Pd u v → o v ≠ -1 := h.2.2.2.2.2.2.2.2.2.2.2.2.2.2.1
theorem TJ.c1 {C : MM} {c : Nat} {o lo rg π σ : Int → Int} {dp tp now : Int} {Pd : Int → Int → Prop} (h : TJ C c o lo rg π σ dp tp now Pd) : ∀ u, 0 ≤ u → u < C c 0 → rg u ≠ -1 → o u ≠ -1 ∧ 0 ≤ rg u ∧ rg u < C c 0 ∧ rg (rg u) = rg u ∧ (u = rg u ∨ sym_ C c u (rg u)) ∧ ∀ v, pE C c u v → rg v ≠ -1 := h.2.2.2.2.2.2.2.2.2.2.2.2.2.2.2.1
theorem TJ.c3 {C : MM} {c : Nat} {o lo rg π σ : Int → Int} {dp tp now : Int} {Pd : Int → Int → Prop} (h : TJ C c o lo rg π σ dp tp now Pd) : ∀ u v, 0 ≤ u → u < C c 0 → 0 ≤ v → v < C c 0 → rg u ≠ -1 → rg v ≠ -1 → sym_ C c u v → rg u = rg v := h.2.2.2.2.2.2.2.2.2.2.2.2.2.2.2.2.1
theorem TJ.ad {C : MM} {c : Nat} {o lo rg π σ : Int → Int} {dp tp now : Int} {Pd : Int → Int → Prop} (h : TJ C c o lo rg π σ dp tp now Pd) : ∀ i t, 0 ≤ i → i < dp → 0 ≤ t → t < C c 0 → o t ≠ -1 → rg t = -1 → o (π i) ≤ o t → (i + 1 < dp → o t < o (π (i + 1))) → t = π i ∨ rr C c (π i) t := h.2.2.2.2.2.2.2.2.2.2.2.2.2.2.2.2.2.1
theorem TJ.lb {C : MM} {c : Nat} {o lo rg π σ : Int → Int} {dp tp now : Int} {Pd : Int → Int → Prop} (h : TJ C c o lo rg π σ dp tp now Pd) : ∀ t, 0 ≤ t → t < C c 0 → o t ≠ -1 → rg t = -1 → 0 ≤ lo t ∧ lo t ≤ o t ∧ ∃ w, 0 ≤ w ∧ w < C c 0 ∧ o w ≠ -1 ∧ rg w = -1 ∧ o w = lo t ∧ (w = t ∨ rr C c t w) := h.2.2.2.2.2.2.2.2.2.2.2.2.2.2.2.2.2.2.1
theorem TJ.ls {C : MM} {c : Nat} {o lo rg π σ : Int → Int} {dp tp now : Int} {Pd : Int → Int → Prop} (h : TJ C c o lo rg π σ dp tp now Pd) : ∀ t, 0 ≤ t → t < C c 0 → o t ≠ -1 → rg t = -1 → (∀ i, 0 ≤ i → i < dp → π i ≠ t) → lo t < o t := h.2.2.2.2.2.2.2.2.2.2.2.2.2.2.2.2.2.2.2.1
theorem TJ.ld {C : MM} {c : Nat} {o lo rg π σ : Int → Int} {dp tp now : Int} {Pd : Int → Int → Prop} (h : TJ C c o lo rg π σ dp tp now Pd) : ∀ i u v, 0 ≤ i → i < dp → 0 ≤ u → u < C c 0 → o u ≠ -1 → rg u = -1 → o (π i) ≤ o u → (i + 1 < dp → o u < o (π (i + 1))) → Pd u v → rg v = -1 → lo (π i) ≤ o v := h.2.2.2.2.2.2.2.2.2.2.2.2.2.2.2.2.2.2.2.2

theorem pE_rr {C : MM} {c : Nat} (hw : PW C c) {u v : Int} (h : pE C c u v) : rr C c u v := rc_z h (by have := pE_in hw h; omega)
/-- the last of the path has no bound above -/
theorem TJ_last {C : MM} {c : Nat} {o lo rg π σ : Int → Int} {dp tp now : Int} {Pd : Int → Int → Prop} (h : TJ C c o lo rg π σ dp tp now Pd) {i t : Int} (i0 : 0 ≤ i) (i1 : i < dp) (ht : o t = o (π (dp - 1))) (hs : i + 1 < dp → o t < o (π (i + 1))) : i = dp - 1 := by
  by_cases e : i = dp - 1
  · exact e
  · exfalso
    have q := hs (by omega)
    by_cases y : i + 1 = dp - 1
    · rw [y] at q; omega
    · have := h.p3 (i + 1) (dp - 1) (by omega) (by omega) (by omega); omega
/-- an edge to one that was met before -/
theorem TJ_edge {C : MM} {c : Nat} {o lo rg π σ : Int → Int} {dp tp now : Int} {Pd Pd' : Int → Int → Prop} {lo' : Int → Int} {v : Int} (hw : PW C c) (h : TJ C c o lo rg π σ dp tp now Pd) (d0 : 0 < dp) (hE : pE C c (π (dp - 1)) v) (hv : o v ≠ -1) (hP : ∀ u w, Pd' u w ↔ Pd u w ∨ (u = π (dp - 1) ∧ w = v)) (hl : ∀ x, x ≠ π (dp - 1) → lo' x = lo x) (hl1 : rg v ≠ -1 → lo' (π (dp - 1)) = lo (π (dp - 1))) (hl2 : rg v = -1 → lo' (π (dp - 1)) = min (lo (π (dp - 1))) (o v)) : TJ C c o lo' rg π σ dp tp now Pd' := by
  have hp := h.p1 (dp - 1) (by omega) (by omega)
  have vi := pE_in hw hE
  have le : ∀ x, lo' x ≤ lo x := fun x => by
    by_cases e : x = π (dp - 1)
    · rw [e]
      by_cases z : rg v = -1
      · rw [hl2 z]; omega
      · rw [hl1 z]; omega
    · rw [hl x e]; omega
  refine ⟨h.b0, h.nw, h.om, h.oi, h.s1, h.s2, h.s3, h.p1, h.p3, h.pe, h.pf, ?_, ?_, ?_, ?_, h.c1, h.c3, h.ad, ?_, ?_, ?_⟩
  · intro u w q
    rcases (hP u w).mp q with q | ⟨q1, q2⟩
    · exact h.d1 u w q
    · rw [q1, q2]; exact hE
  · intro u w u0 u1 uo q
    rcases (hP u w).mp q with q | ⟨q1, q2⟩
    · exact h.d2 u w u0 u1 uo q
    · rw [q1] at uo; exact hp.2.2.1 uo
  · intro u w u0 u1 uo up ue
    exact (hP u w).mpr (Or.inl (h.d3 u w u0 u1 uo up ue))
  · intro u w q
    rcases (hP u w).mp q with q | ⟨q1, q2⟩
    · exact h.d4 u w q
    · rw [q2]; exact hv
  · intro t t0 t1 to tr
    obtain ⟨a1, a2, w, a3, a4, a5, a6, a7, a8⟩ := h.lb t t0 t1 to tr
    by_cases e : t = π (dp - 1)
    · by_cases z : rg v = -1
      · have om := h.om v vi.1 vi.2
        rw [e, hl2 z]
        rw [e] at a1 a2 a7 a8
        by_cases m : lo (π (dp - 1)) ≤ o v
        · rw [show min (lo (π (dp - 1))) (o v) = lo (π (dp - 1)) from by omega]
          exact ⟨a1, a2, w, a3, a4, a5, a6, a7, a8⟩
        · rw [show min (lo (π (dp - 1))) (o v) = o v from by omega]
          exact ⟨by omega, by omega, v, vi.1, vi.2, hv, z, rfl, Or.inr (pE_rr hw hE)⟩
      · rw [e, hl1 z, ← e]; exact ⟨a1, a2, w, a3, a4, a5, a6, a7, a8⟩
    · rw [hl t e]; exact ⟨a1, a2, w, a3, a4, a5, a6, a7, a8⟩
  · intro t t0 t1 to tr tp'
    have := h.ls t t0 t1 to tr tp'
    have := le t
    omega
  · intro i u w i0 i1 u0 u1 uo ur us1 us2 q wr
    rcases (hP u w).mp q with q | ⟨q1, q2⟩
    · have := h.ld i u w i0 i1 u0 u1 uo ur us1 us2 q wr
      have := le (π i)
      omega
    · rw [q1] at us2
      have := TJ_last h i0 i1 rfl us2
      rw [q2] at wr ⊢
      rw [this, hl2 wr]; omega
theorem rk_up {P P' : Int → Prop} (v : Int) (n : Nat) (v0 : 0 ≤ v) (v1 : v < n) (hv : ¬ P v) (h : ∀ t, P' t ↔ P t ∨ t = v) : rk P' n = rk P n + 1 := by
  have key : ∀ m : Nat, rk P' m = rk P m + (if v < m then 1 else 0) := by
    intro m
    induction m with
    | zero => rw [if_neg (by omega)]; rfl
    | succ m ih =>
      by_cases e : v = m
      · rw [if_neg (by omega)] at ih
        rw [(rk_s m).1 ((h m).mpr (Or.inr e.symm)), (rk_s m).2 (by rw [← e]; exact hv), if_pos (by omega)]; omega
      · by_cases z : P m
        · rw [(rk_s m).1 ((h m).mpr (Or.inl z)), (rk_s m).1 z, ih]
          by_cases y : v < m
          · rw [if_pos y, if_pos (by omega)]; try omega
          · rw [if_neg y, if_neg (by omega)]; try omega
        · rw [(rk_s m).2 (fun q => by rcases (h m).mp q with q | q; exact z q; exact e q.symm), (rk_s m).2 z, ih]
          by_cases y : v < m
          · rw [if_pos y, if_pos (by omega)]
          · rw [if_neg y, if_neg (by omega)]
  rw [key n, if_pos v1]
/-- one that is met now -/
theorem TJ_enter {C : MM} {c : Nat} {o lo rg π σ : Int → Int} {dp tp now : Int} {Pd Pd' : Int → Int → Prop} {v : Int} (hw : PW C c) (h : TJ C c o lo rg π σ dp tp now Pd) (v0 : 0 ≤ v) (v1 : v < C c 0) (hv : o v = -1) (hE : 0 < dp → pE C c (π (dp - 1)) v) (hP : ∀ u w, Pd' u w ↔ Pd u w ∨ (0 < dp ∧ u = π (dp - 1) ∧ w = v)) : TJ C c (upD o v now) (upD lo v now) rg (upD π dp v) (upD σ tp v) (dp + 1) (tp + 1) (now + 1) Pd' := by
  obtain ⟨b1, b2, b3, b4⟩ := h.b0
  have now0 : 0 ≤ now := by omega
  have ov : upD o v now v = now := upD_s _ _ _
  have oo : ∀ x, x ≠ v → upD o v now x = o x := fun x hx => upD_o _ _ _ _ hx
  have on : ∀ x, o x ≠ -1 → x ≠ v := fun x hx e => hx (by rw [e]; exact hv)
  have rv : rg v = -1 := Classical.byContradiction fun q => (h.c1 v v0 v1 q).1 hv
  have ob : ∀ x, 0 ≤ x → x < C c 0 → o x ≠ -1 → 0 ≤ o x ∧ o x < now := fun x x0 x1 hx => by
    rcases h.om x x0 x1 with q | q
    · exact absurd q hx
    · exact q
  have πs : ∀ i, 0 ≤ i → i < dp → upD π dp v i = π i ∧ upD o v now (upD π dp v i) = o (π i) := fun i i0 i1 => by
    have e : upD π dp v i = π i := upD_o _ _ _ _ (by omega)
    rw [e]
    exact ⟨rfl, oo _ (on _ (h.p1 i i0 i1).2.2.1)⟩
  have σs : ∀ i, 0 ≤ i → i < tp → upD σ tp v i = σ i ∧ upD o v now (upD σ tp v i) = o (σ i) := fun i i0 i1 => by
    have e : upD σ tp v i = σ i := upD_o _ _ _ _ (by omega)
    rw [e]
    exact ⟨rfl, oo _ (on _ (h.s1 i i0 i1).2.2.1)⟩
  have πd : upD π dp v dp = v := upD_s _ _ _
  have σd : upD σ tp v tp = v := upD_s _ _ _
  refine ⟨by omega, ?_, ?_, ?_, ?_, ?_, ?_, ?_, ?_, ?_, ?_, ?_, ?_, ?_, ?_, ?_, h.c3, ?_, ?_, ?_, ?_⟩
  · rw [rk_up (P := fun t => o t ≠ -1) v _ v0 (by omega) (fun q => q hv) (fun t => ?_), ← h.nw]
    by_cases e : t = v
    · rw [e, ov]; exact ⟨fun _ => Or.inr rfl, fun _ => by omega⟩
    · rw [oo t e]; exact ⟨Or.inl, fun q => by rcases q with q | q; exact q; exact absurd q e⟩
  · intro t t0 t1
    by_cases e : t = v
    · rw [e, ov]; exact Or.inr ⟨now0, by omega⟩
    · rw [oo t e]
      rcases h.om t t0 t1 with q | q
      · exact Or.inl q
      · exact Or.inr ⟨q.1, by omega⟩
  · intro u w u0 u1 w0 w1 uo e
    by_cases e1 : u = v
    · by_cases e2 : w = v
      · rw [e1, e2]
      · rw [e1, ov, oo w e2] at e
        rcases h.om w w0 w1 with q | q <;> omega
    · rw [oo u e1] at e uo
      by_cases e2 : w = v
      · rw [e2, ov] at e
        have := ob u u0 u1 uo; omega
      · rw [oo w e2] at e
        exact h.oi u w u0 u1 w0 w1 uo e
  · intro i i0 i1
    by_cases e : i = tp
    · rw [e, σd, ov]; exact ⟨v0, v1, by omega, rv⟩
    · obtain ⟨q1, q2⟩ := σs i i0 (by omega)
      have := h.s1 i i0 (by omega)
      rw [q2, q1]; exact this
  · intro t t0 t1 to tr
    by_cases e : t = v
    · exact ⟨tp, by omega, by omega, by rw [σd, e]⟩
    · rw [oo t e] at to
      obtain ⟨i, i0, i1, i2⟩ := h.s2 t t0 t1 to tr
      exact ⟨i, i0, by omega, by rw [(σs i i0 i1).1]; exact i2⟩
  · intro i j i0 ij j1
    rw [(σs i i0 (by omega)).2]
    by_cases e : j = tp
    · rw [e, σd, ov]
      have q := h.s1 i i0 (by omega)
      exact (ob _ q.1 q.2.1 q.2.2.1).2
    · rw [(σs j (by omega) (by omega)).2]
      exact h.s3 i j i0 ij (by omega)
  · intro i i0 i1
    by_cases e : i = dp
    · rw [e, πd, ov]; exact ⟨v0, v1, by omega, rv⟩
    · obtain ⟨q1, q2⟩ := πs i i0 (by omega)
      have := h.p1 i i0 (by omega)
      rw [q2, q1]; exact this
  · intro i j i0 ij j1
    rw [(πs i i0 (by omega)).2]
    by_cases e : j = dp
    · rw [e, πd, ov]
      have q := h.p1 i i0 (by omega)
      exact (ob _ q.1 q.2.1 q.2.2.1).2
    · rw [(πs j (by omega) (by omega)).2]
      exact h.p3 i j i0 ij (by omega)
  · intro i i0 i1
    rw [(πs i i0 (by omega)).1]
    by_cases e : i + 1 = dp
    · rw [e, πd, show i = dp - 1 from by omega]; exact hE (by omega)
    · rw [(πs (i + 1) (by omega) (by omega)).1]; exact h.pe i i0 (by omega)
  · intro t t0 t1 to tr
    refine ⟨by omega, ?_⟩
    by_cases d : dp = 0
    · by_cases e : t = v
      · rw [e, ov, show (0 : Int) = dp from d.symm, πd, ov]; omega
      · rw [oo t e] at to
        have := (h.pf t t0 t1 to tr).1; omega
    · rw [(πs 0 (by omega) (by omega)).2]
      by_cases e : t = v
      · rw [e, ov]
        have q := h.p1 0 (by omega) (by omega)
        have := ob _ q.1 q.2.1 q.2.2.1
        omega
      · rw [oo t e] at to ⊢
        exact (h.pf t t0 t1 to tr).2
  · intro u w q
    rcases (hP u w).mp q with q | ⟨q0, q1, q2⟩
    · exact h.d1 u w q
    · rw [q1, q2]; exact hE q0
  · intro u w u0 u1 uo q
    have e1 : u ≠ v := fun e => by rw [e, ov] at uo; omega
    rw [oo u e1] at uo
    rcases (hP u w).mp q with q | ⟨q0, q1, q2⟩
    · exact h.d2 u w u0 u1 uo q
    · rw [q1] at uo; exact (h.p1 (dp - 1) (by omega) (by omega)).2.2.1 uo
  · intro u w u0 u1 uo up ue
    have e1 : u ≠ v := fun e => up dp (by omega) (by omega) (by rw [πd, e])
    rw [oo u e1] at uo
    exact (hP u w).mpr (Or.inl (h.d3 u w u0 u1 uo (fun i i0 i1 => by rw [← (πs i i0 i1).1]; exact up i i0 (by omega)) ue))
  · intro u w q
    by_cases e : w = v
    · rw [e, ov]; omega
    · rw [oo w e]
      rcases (hP u w).mp q with q | ⟨q0, q1, q2⟩
      · exact h.d4 u w q
      · exact absurd q2 e
  · intro u u0 u1 ur
    obtain ⟨q1, q2⟩ := h.c1 u u0 u1 ur
    exact ⟨by rw [oo u (on u q1)]; exact q1, q2⟩
  · intro i t i0 i1 t0 t1 to tr ts1 ts2
    by_cases d : i = dp
    · rw [d, πd] at ts1 ⊢
      rw [ov] at ts1
      by_cases e : t = v
      · exact Or.inl e
      · rw [oo t e] at ts1 to
        have := ob t t0 t1 to; omega
    · rw [(πs i i0 (by omega)).2] at ts1
      rw [(πs i i0 (by omega)).1]
      by_cases e : t = v
      · rw [e, ov] at ts2
        have q := ts2 (by omega)
        by_cases y : i + 1 = dp
        · rw [y, πd, ov] at q; omega
        · rw [(πs (i + 1) (by omega) (by omega)).2] at q
          have q' := h.p1 (i + 1) (by omega) (by omega)
          have := ob _ q'.1 q'.2.1 q'.2.2.1; omega
      · rw [oo t e] at ts1 ts2 to
        refine h.ad i t i0 (by omega) t0 t1 to tr ts1 fun y => ?_
        rw [← (πs (i + 1) (by omega) y).2]
        exact ts2 (by omega)
  · intro t t0 t1 to tr
    by_cases e : t = v
    · rw [e, ov, upD_s]
      exact ⟨now0, by omega, v, v0, v1, by rw [ov]; omega, rv, ov, Or.inl rfl⟩
    · rw [oo t e] at to ⊢
      rw [upD_o _ _ _ _ e]
      obtain ⟨a1, a2, w, a3, a4, a5, a6, a7, a8⟩ := h.lb t t0 t1 to tr
      exact ⟨a1, a2, w, a3, a4, by rw [oo w (on w a5)]; exact a5, a6, by rw [oo w (on w a5)]; exact a7, a8⟩
  · intro t t0 t1 to tr tn
    have e : t ≠ v := fun e => tn dp (by omega) (by omega) (by rw [πd, e])
    rw [oo t e] at to ⊢
    rw [upD_o _ _ _ _ e]
    exact h.ls t t0 t1 to tr fun i i0 i1 => by rw [← (πs i i0 i1).1]; exact tn i i0 (by omega)
  · intro i u w i0 i1 u0 u1 uo ur us1 us2 q wr
    -- the new one has no edge yet
    have e1 : u ≠ v := fun e => by
      rcases (hP u w).mp q with q | ⟨q0, q1, q2⟩
      · exact h.d2 u w u0 u1 (by rw [e]; exact hv) q
      · exact (h.p1 (dp - 1) (by omega) (by omega)).2.2.1 (by rw [← q1, e]; exact hv)
    rw [oo u e1] at uo us1 us2
    have d : i ≠ dp := fun d => by
      rw [d, πd, ov] at us1
      have := ob u u0 u1 uo; omega
    rw [(πs i i0 (by omega)).2] at us1
    have pi := h.p1 i i0 (by omega)
    rw [(πs i i0 (by omega)).1, upD_o _ _ _ _ (on _ pi.2.2.1)]
    by_cases e : w = v
    · rw [e, ov]
      have := h.lb (π i) pi.1 pi.2.1 pi.2.2.1 pi.2.2.2
      have := ob _ pi.1 pi.2.1 pi.2.2.1
      omega
    · rw [oo w e]
      rcases (hP u w).mp q with q | ⟨q0, q1, q2⟩
      · refine h.ld i u w i0 (by omega) u0 u1 uo ur us1 (fun y => ?_) q wr
        rw [← (πs (i + 1) (by omega) y).2]
        exact us2 (by omega)
      · exact absurd q2 e
