/-! the walk over a picture meets all its things in their order -/
theorem lx_up {C : MM} {c : Nat} (hw : PW C c) {u v : Int} (u0 : 0 ≤ u) (h1 : u < v) (h2 : v < C c 0) : lx (C (c + 6) u, C (c + 7) u) (C (c + 6) v, C (c + 7) v) := by
  have hl := hw.2.2.2.2.2.2.2.2.2.2.2.2.2
  have K : ∀ d : Nat, u + 1 + d < C c 0 → lx (C (c + 6) u, C (c + 7) u) (C (c + 6) (u + 1 + d), C (c + 7) (u + 1 + d)) := by
    intro d
    induction d with
    | zero => intro q; rw [show u + 1 + ((0 : Nat) : Int) = u + 1 from by omega]; exact hl u u0 (by omega)
    | succ d ih =>
      intro q
      have a := ih (by omega)
      have b := hl (u + 1 + d) (by omega) (by omega)
      rw [show u + 1 + (((d + 1 : Nat)) : Int) = u + 1 + d + 1 from by omega]
      exact lx_t a b
  have := K (v - u - 1).toNat (by omega)
  rw [show u + 1 + (((v - u - 1).toNat : Nat) : Int) = v from by omega] at this
  exact this
theorem rn_up {C : MM} {c : Nat} (hw : PW C c) {r r' : Int} (r0 : 0 ≤ r) (h1 : r < r') (h2 : r' < C c 11) : C (c + 11) r < C (c + 11) r' := by
  have hi := hw.2.2.2.2.2.2.2.2.2.2.1
  have K : ∀ d : Nat, r + 1 + d < C c 11 → C (c + 11) r < C (c + 11) (r + 1 + d) := by
    intro d
    induction d with
    | zero => intro q; rw [show r + 1 + ((0 : Nat) : Int) = r + 1 from by omega]; exact hi r r0 (by omega)
    | succ d ih =>
      intro q
      have a := ih (by omega)
      have b := hi (r + 1 + d) (by omega) (by omega)
      rw [show r + 1 + (((d + 1 : Nat)) : Int) = r + 1 + d + 1 from by omega]
      omega
  have := K (r' - r - 1).toNat (by omega)
  rw [show r + 1 + (((r' - r - 1).toNat : Nat) : Int) = r' from by omega] at this
  exact this
set_option maxHeartbeats 1000000 in
theorem wk_all {C R0 : MM} {c : Nat} (hY : Rty C R0) (hw : PW C c) : wTh (lv C c) (pcn C c) (wR (C (c + 12)) (C c 11).toNat) (C c 0).toNat = (C c 0, 0) := by
  have n0 := hw.1
  have n4 := hw.2.1
  have r0 := hw.2.2.2.2.2.2.2.1
  have hr := hw.2.2.2.2.2.2.2.2.2.1
  have hz := hw.2.2.2.2.2.2.2.2.2.2.2.2.1
  -- behind some roots
  have RT : ∀ r : Nat, (r : Int) ≤ C c 11 → ∃ x, wR (C (c + 12)) r = (x, 0) ∧ 0 ≤ x ∧ x ≤ C c 0 ∧ ∀ u, 0 ≤ u → u < C c 0 → (u < x ↔ ∃ q, 0 ≤ q ∧ q < (r : Int) ∧ C (c + 12) q = u) := by
    intro r
    induction r with
    | zero => intro _; exact ⟨0, rfl, by omega, n0, fun u a _ => ⟨fun q => by omega, fun ⟨q, q0, q1, _⟩ => by omega⟩⟩
    | succ r ih =>
      intro hr1
      obtain ⟨x, e, x0, x1, hx⟩ := ih (by omega)
      obtain ⟨v0, v1, -⟩ := hr r (by omega) (by omega)
      have step : wR (C (c + 12)) (r + 1) = wS (x, 0) (C (c + 12) r) := by show wS (wR (C (c + 12)) r) _ = _; rw [e]
      by_cases z : C (c + 12) r < x
      · refine ⟨x, by rw [step, wS_1 rfl z], x0, x1, fun u a b => ⟨fun q => ?_, fun ⟨q, q0, q1, q2⟩ => ?_⟩⟩
        · obtain ⟨q', q0, q1, q2⟩ := (hx u a b).mp q
          exact ⟨q', q0, by omega, q2⟩
        · by_cases w : q = r
          · rw [w] at q2; omega
          · exact (hx u a b).mpr ⟨q, q0, by omega, q2⟩
      · have ns : ∀ q, 0 ≤ q → q < (r : Int) → C (c + 12) q ≠ C (c + 12) r := fun q q0 q1 w => z ((hx _ v0 v1).mpr ⟨q, q0, q1, w⟩)
        have ev : C (c + 12) r = x := by
          by_cases y : x < C (c + 12) r
          · exfalso
            have fo : FO C c (C (c + 12) r) (-1) (C (c + 11) r) := Or.inl ⟨rfl, r, by omega, by omega, rfl, rfl, fun q q0 q1 => ns q q0 q1⟩
            have fi := FO_inj (hz _ v0 v1).1 fo
            have lxx := lx_up hw x0 y v1
            rw [fi.1, fi.2] at lxx
            have fx := (hz x x0 (by omega)).1
            unfold lx at lxx
            dsimp only at lxx
            rcases fx with ⟨g1, q, q0, q1, q2, q3, -⟩ | ⟨g1, -⟩
            · have qr : q < r := by
                by_cases w : q < r
                · exact w
                · by_cases w2 : q = r
                  · rw [w2] at q3; omega
                  · have := rn_up hw (r := r) (r' := q) (by omega) (by omega) q1
                    omega
              have := (hx x x0 (by omega)).mpr ⟨q, q0, qr, q2⟩
              omega
            · omega
          · omega
        refine ⟨x + 1, by rw [step, wS_2 rfl ev], by omega, by omega, fun u a b => ⟨fun q => ?_, fun ⟨q, q0, q1, q2⟩ => ?_⟩⟩
        · by_cases w : u = x
          · exact ⟨r, by omega, by omega, by rw [w]; exact ev⟩
          · obtain ⟨q', q0, q1, q2⟩ := (hx u a b).mp (by omega)
            exact ⟨q', q0, by omega, q2⟩
        · by_cases w : q = r
          · rw [w] at q2; omega
          · have := (hx u a b).mpr ⟨q, q0, by omega, q2⟩
            omega
  -- what was seen before a place
  have SK : ∀ (T : Nat), (T : Int) < C c 0 → ∀ x, 0 ≤ x → x ≤ C c 0 → (∀ u, 0 ≤ u → u < C c 0 → (u < x ↔ (∃ q, 0 ≤ q ∧ q < C c 11 ∧ C (c + 12) q = u) ∨ ∃ f s, 0 ≤ f ∧ f < (T : Int) ∧ 0 ≤ s ∧ s < pcn C c f ∧ lv C c f s = u)) → ∀ K : Nat, (K : Int) ≤ pcn C c T → ∃ y, wK (lv C c T) (x, 0) K = (y, 0) ∧ 0 ≤ y ∧ y ≤ C c 0 ∧ ∀ u, 0 ≤ u → u < C c 0 → (u < y ↔ (∃ q, 0 ≤ q ∧ q < C c 11 ∧ C (c + 12) q = u) ∨ ∃ f s, 0 ≤ f ∧ (f < (T : Int) ∨ (f = T ∧ s < (K : Int))) ∧ 0 ≤ s ∧ s < pcn C c f ∧ lv C c f s = u) := by
    intro T hT x x0 x1 hx K
    induction K with
    | zero =>
      intro _
      refine ⟨x, rfl, x0, x1, fun u a b => ⟨fun q => ?_, fun q => (hx u a b).mpr ?_⟩⟩
      · rcases (hx u a b).mp q with w | ⟨f, s, f0, f1, s0, s1, s2⟩
        · exact Or.inl w
        · exact Or.inr ⟨f, s, f0, Or.inl f1, s0, s1, s2⟩
      · rcases q with w | ⟨f, s, f0, f1, s0, s1, s2⟩
        · exact Or.inl w
        · exact Or.inr ⟨f, s, f0, by omega, s0, s1, s2⟩
    | succ K ih =>
      intro hK
      obtain ⟨y, e, y0, y1, hy⟩ := ih (by omega)
      have lb := (pw_lv hw (t := T) (k := K) (by omega) hT (by omega) (by omega)).1
      have step : wK (lv C c T) (x, 0) (K + 1) = wS (y, 0) (lv C c T K) := by show wS (wK (lv C c T) (x, 0) K) _ = _; rw [e]
      have more : ∀ y', (∀ u, 0 ≤ u → u < C c 0 → (u < y' ↔ u < y ∨ u = lv C c T K)) → ∀ u, 0 ≤ u → u < C c 0 → (u < y' ↔ (∃ q, 0 ≤ q ∧ q < C c 11 ∧ C (c + 12) q = u) ∨ ∃ f s, 0 ≤ f ∧ (f < (T : Int) ∨ (f = T ∧ s < ((K + 1 : Nat) : Int))) ∧ 0 ≤ s ∧ s < pcn C c f ∧ lv C c f s = u) := fun y' h' u a b => by
        refine ⟨fun q => ?_, fun q => (h' u a b).mpr ?_⟩
        · rcases (h' u a b).mp q with w | w
          · rcases (hy u a b).mp w with w | ⟨f, s, f0, f1, s0, s1, s2⟩
            · exact Or.inl w
            · exact Or.inr ⟨f, s, f0, by omega, s0, s1, s2⟩
          · exact Or.inr ⟨T, K, by omega, Or.inr ⟨rfl, by omega⟩, by omega, by omega, w.symm⟩
        · rcases q with w | ⟨f, s, f0, f1, s0, s1, s2⟩
          · exact Or.inl ((hy u a b).mpr (Or.inl w))
          · by_cases w : f = T ∧ s = K
            · rw [w.1, w.2] at s2; exact Or.inr s2.symm
            · exact Or.inl ((hy u a b).mpr (Or.inr ⟨f, s, f0, by omega, s0, s1, s2⟩))
      by_cases z : lv C c T K < y
      · refine ⟨y, by rw [step, wS_1 rfl z], y0, y1, more y fun u a b => ⟨fun q => Or.inl q, fun q => ?_⟩⟩
        rcases q with q | q
        · exact q
        · rw [q]; exact z
      · have v01 : 0 ≤ lv C c T K ∧ lv C c T K < C c 0 := by
          rcases lb with q | q
          · omega
          · exact q
        have ns := fun w => z ((hy _ v01.1 v01.2).mpr w)
        have ev : lv C c T K = y := by
          by_cases w : y < lv C c T K
          · exfalso
            have fo : FO C c (lv C c T K) T K := Or.inr ⟨by omega, hT, by omega, by omega, rfl, fun q q0 q1 w' => ns (Or.inl ⟨q, q0, q1, w'⟩), fun f s f0 f1 s0 s1 w' => ns (Or.inr ⟨f, s, f0, f1, s0, s1, w'⟩)⟩
            have fi := FO_inj (hz _ v01.1 v01.2).1 fo
            have lxx := lx_up hw y0 w v01.2
            rw [fi.1, fi.2] at lxx
            unfold lx at lxx
            dsimp only at lxx
            have fx := (hz y y0 (by omega)).1
            have : y < y := by
              refine (hy y y0 (by omega)).mpr ?_
              rcases fx with ⟨g1, q, q0, q1, q2, -⟩ | ⟨g1, g2, g3, g4, g5, -⟩
              · exact Or.inl ⟨q, q0, q1, q2⟩
              · exact Or.inr ⟨_, _, g1, lxx, g3, g4, g5⟩
            omega
          · omega
        exact ⟨y + 1, by rw [step, wS_2 rfl ev], by omega, by omega, more (y + 1) fun u a b => ⟨fun q => by omega, fun q => by omega⟩⟩
  -- things
  have TT : ∀ T : Nat, (T : Int) ≤ C c 0 → ∃ x, wTh (lv C c) (pcn C c) (wR (C (c + 12)) (C c 11).toNat) T = (x, 0) ∧ 0 ≤ x ∧ x ≤ C c 0 ∧ ∀ u, 0 ≤ u → u < C c 0 → (u < x ↔ (∃ q, 0 ≤ q ∧ q < C c 11 ∧ C (c + 12) q = u) ∨ ∃ f s, 0 ≤ f ∧ f < (T : Int) ∧ 0 ≤ s ∧ s < pcn C c f ∧ lv C c f s = u) := by
    intro T
    induction T with
    | zero =>
      intro _
      obtain ⟨x, e, x0, x1, hx⟩ := RT (C c 11).toNat (by omega)
      refine ⟨x, e, x0, x1, fun u a b => ⟨fun q => ?_, fun q => ?_⟩⟩
      · obtain ⟨q', q0, q1, q2⟩ := (hx u a b).mp q
        exact Or.inl ⟨q', q0, by omega, q2⟩
      · rcases q with ⟨q', q0, q1, q2⟩ | ⟨f, s, f0, f1, -⟩
        · exact (hx u a b).mpr ⟨q', q0, by omega, q2⟩
        · omega
    | succ T ih =>
      intro hT
      obtain ⟨x, e, x0, x1, hx⟩ := ih (by omega)
      have pb := pw_bd hY hw (t := T) (by omega) (by omega)
      have step : wTh (lv C c) (pcn C c) (wR (C (c + 12)) (C c 11).toNat) (T + 1) = if ((x, 0) : Int × Int).2 ≠ 0 ∨ ((x, 0) : Int × Int).1 ≤ T then (x, 0) else wK (lv C c T) (x, 0) (pcn C c T).toNat := by
        show (if (wTh (lv C c) (pcn C c) (wR (C (c + 12)) (C c 11).toNat) T).2 ≠ 0 ∨ (wTh (lv C c) (pcn C c) (wR (C (c + 12)) (C c 11).toNat) T).1 ≤ T then wTh (lv C c) (pcn C c) (wR (C (c + 12)) (C c 11).toNat) T else wK (lv C c T) (wTh (lv C c) (pcn C c) (wR (C (c + 12)) (C c 11).toNat) T) (pcn C c T).toNat) = _
        rw [e]
      by_cases z : x ≤ T
      · -- then all are met
        have xe : x = C c 0 := by
          by_cases w : x < C c 0
          · exfalso
            have zx := hz x x0 w
            have : x < x := by
              refine (hx x x0 w).mpr ?_
              rcases zx.1 with ⟨g1, q, q0, q1, q2, -⟩ | ⟨g1, g2, g3, g4, g5, -⟩
              · exact Or.inl ⟨q, q0, q1, q2⟩
              · rcases zx.2.2.2 with ⟨g6, -⟩ | ⟨-, g6, -⟩
                · omega
                · exact Or.inr ⟨_, _, g1, by omega, g3, g4, g5⟩
            omega
          · omega
        omega
      · obtain ⟨y, ey, y0, y1, hy⟩ := SK T (by omega) x x0 x1 hx (pcn C c T).toNat (by omega)
        refine ⟨y, by rw [step, if_neg (fun q => by rcases q with q | q; exact q rfl; exact z q)]; exact ey, y0, y1, fun u a b => ⟨fun q => ?_, fun q => (hy u a b).mpr ?_⟩⟩
        · rcases (hy u a b).mp q with w | ⟨f, s, f0, f1, s0, s1, s2⟩
          · exact Or.inl w
          · exact Or.inr ⟨f, s, f0, by omega, s0, s1, s2⟩
        · rcases q with w | ⟨f, s, f0, f1, s0, s1, s2⟩
          · exact Or.inl w
          · by_cases w : f < T
            · exact Or.inr ⟨f, s, f0, Or.inl w, s0, s1, s2⟩
            · have : f = T := by omega
              subst this
              exact Or.inr ⟨_, s, f0, Or.inr ⟨rfl, by omega⟩, s0, s1, s2⟩
  obtain ⟨x, e, x0, x1, hx⟩ := TT (C c 0).toNat (by omega)
  have xe : x = C c 0 := by
    by_cases w : x < C c 0
    · exfalso
      have zx := hz x x0 w
      have : x < x := by
        refine (hx x x0 w).mpr ?_
        rcases zx.1 with ⟨g1, q, q0, q1, q2, -⟩ | ⟨g1, g2, g3, g4, g5, -⟩
        · exact Or.inl ⟨q, q0, q1, q2⟩
        · exact Or.inr ⟨_, _, g1, by omega, g3, g4, g5⟩
      omega
    · omega
  rw [e, xe]
