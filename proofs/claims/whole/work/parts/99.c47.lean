/-! the class looks at the promises; with the reference behind it -/
def LKr (C C' R : MM) (w : Int) : Prop := ∀ (R1 : MM) (Qr : Int → MM → Prop), Rty C R1 → Rhp C R1 → RAg R R1 → (∀ R', FLq R1 R' → (∀ j, 0 ≤ j → j < C 0 10 → C' 260 j = R' 79 j) → Qr 0 R') → w_X12_lookAtPromises Qr w R1
set_option maxHeartbeats 1000000 in
theorem look {C R Rc : MM} {w B : Int} {pc : Nat} {Q : Int → MM → Prop} (hY : Rty C R) (hYc : Rty C Rc) (hH : Rhp C Rc) (h5 : C 0 5 = pc) (hpc : isP pc) (hF : PF C pc) (hP : Rpr C R) (hX : SXq B C) (B0 : 0 ≤ B) (B1 : B + 90003 ≤ 2147483646)
    (hq : ∀ C', (∀ k, ¬ (pc ≤ k ∧ k ≤ pc + 32) → k < 219 ∨ 231 < k → k ≠ 260 → C' k = C k) → C' 219 20 = C 219 20 → SXq (B + 90003) C' → PF C' pc → LKr C C' R w → Q 0 C') : w_X11_checkPromises Q w C := by
  obtain ⟨h1, h2, h3, h4, h6, h7, h8⟩ := id hP
  have hpc' := hpc
  unfold isP at hpc'
  unfold w_X11_checkPromises w_X11_checkPromises_b4
  refine loop4 _ (fun (x1 x2 x3 : Int) M => x1 = w ∧ 0 ≤ x3 ∧ x3 ≤ C 0 10 ∧ SXq (B + 30001 * x3) M ∧ ((x2 = 0 ∧ C = M ∧ ∀ j, 0 ≤ j → j < x3 → C 260 j ≠ -2) ∨
    (x2 = 1 ∧ ∃ Mt, (∀ k, ¬ (pc ≤ k ∧ k ≤ pc + 18) → Mt k = C k) ∧ PW Mt pc ∧ TKN C Mt pc ∧ (∀ q, ¬ (pc + 18 ≤ q ∧ q ≤ pc + 32) → q < 219 ∨ 231 < q → q ≠ 260 → M q = Mt q) ∧ M 219 20 = Mt 219 20 ∧ ShH M pc ∧ (∀ j, x3 ≤ j → M 260 j = C 260 j) ∧ (∀ j, 0 ≤ j → j < x3 → (C 260 j ≠ -2 ∧ M 260 j = C 260 j) ∨ (C 260 j = -2 ∧ ∃ z, (z = 0 ∨ z = 1) ∧ M 260 j = (if z = 1 then -2 else w) ∧ ZK Mt R pc j z)) ∧ ∃ j, 0 ≤ j ∧ j < C 0 10 ∧ C 260 j = -2))) (fun _ _ (x3 : Int) _ => (C 0 10 - x3).toNat) ?_ _ _ _ _ ⟨rfl, by omega, h2, by rw [show B + 30001 * 0 = B from by omega]; exact hX, Or.inl ⟨rfl, rfl, fun j a b => by omega⟩⟩
  rintro x1 x2 x3 M f ⟨rfl, a0, a1, hS, hx⟩ ih
  unfold wb_X11_checkPromises_b4
  intro v1 e1 _
  have m10 : M 0 10 = C 0 10 := by
    rcases hx with ⟨-, rfl, -⟩ | ⟨-, Mt, t1, -, -, t4, -⟩
    · rfl
    · rw [t4 0 (by omega) (by omega) (by omega), t1 0 (by omega)]
  rw [m10] at e1
  -- one promise is looked at, over the picture taken
  have one : ∀ Mt M, (∀ k, ¬ (pc ≤ k ∧ k ≤ pc + 18) → Mt k = C k) → PW Mt pc → TKN C Mt pc → (∀ q, ¬ (pc + 18 ≤ q ∧ q ≤ pc + 32) → q < 219 ∨ 231 < q → q ≠ 260 → M q = Mt q) → M 219 20 = Mt 219 20 → ShH M pc → (∀ j, x3 ≤ j → M 260 j = C 260 j) → (∀ j, 0 ≤ j → j < x3 → (C 260 j ≠ -2 ∧ M 260 j = C 260 j) ∨ (C 260 j = -2 ∧ ∃ z, (z = 0 ∨ z = 1) ∧ M 260 j = (if z = 1 then -2 else x1) ∧ ZK Mt R pc j z)) → SXq (B + 30001 * x3) M → x3 < C 0 10 → C 260 x3 = -2 → w_X11_checkPromises_b43 Q f x1 1 x3 M := by
    clear hx
    intro Mt M t1 t2 t3 t4 t5 t6 t7 t8 tS xk c2
    obtain ⟨g1, g2, g3, g4⟩ := pcl_G a0 (show x3 < 3 by omega)
    have qC : ∀ q, ¬ (pc ≤ q ∧ q ≤ pc + 32) → q < 219 ∨ 231 < q → q ≠ 260 → M q = C q := fun q a b d => by rw [t4 q (by omega) b d, t1 q (by omega)]
    have hYt : Rty Mt R := Rty_C hY (fun k a b => t1 k (by omega))
    have hYM : Rty M R := Rty_C hY (fun k a b => qC k (by omega) (by omega) (by omega))
    have tl : tyLe Mt M := tyLe_of (by rw [t4 8 (by omega) (by omega) (by omega)]) (fun k a b => t4 k (by omega) (by omega) (by omega))
    have wM : PW M pc := pw_fr hYt t2 tl (by rw [t4 pc (by omega) (by omega) (by omega)]) (by rw [t4 pc (by omega) (by omega) (by omega)]) (fun q a b => t4 q (by omega) (by omega) (by omega)) (fun t a b => by rw [t4 (pc + 13) (by omega) (by omega) (by omega)]; exact t2.2.2.2.2.2.2.2.2.2.2.2.1 t a b)
    obtain ⟨n', st, x, P, N, sf, hPR⟩ : PRk M R x3 (pcl x3) := PRk_fr (h8 x3 a0 xk) (fun q a b => qC q (by omega) (by omega) (by omega)) (fun _ _ _ _ _ _ => rfl) rfl (fun z => z)
    have hQ : ∀ F T : MM → Prop, (fun (r6 : Int) M7 => (r6 = 0 ∨ r6 = 1) → (¬ r6 = 0 → T M7) ∧ (r6 = 0 → F M7)) = (fun r20 M21 => (r20 = 0 ∨ r20 = 1) → (r20 = 0 → F M21) ∧ (¬ r20 = 0 → T M21)) := fun F T => by
      funext r M; rw [and_comm]
    unfold w_X11_checkPromises_b43
    refine ⟨a0, by omega, pcl x3, by rw [qC 235 (by omega) (by omega) (by omega)]; exact h4 x3 a0 (by omega), g1, pc, by rw [qC 0 (by omega) (by omega) (by omega)]; exact h5, hpc, ?_⟩
    rw [hQ]
    refine prm_run (S := fun _ => True) hYM hpc g1 g2 wM t6 a0 (by omega) hPR (fun _ _ _ => trivial) tS (by omega) (by omega) (fun z M' hz fr hS' hs' hZ => ?_)
    have hZ' : ZK Mt R pc x3 z := fun R' hR => hZ R' (RdyP_C hYt t2 tl (fun q a b => t4 q (by omega) (by omega) (by omega)) hR)
    have q' : ∀ q, ¬ (pc + 18 ≤ q ∧ q ≤ pc + 32) → q < 219 ∨ 231 < q → q ≠ 260 → M' q = Mt q := fun q a b d => by rw [fr.1 q a b, t4 q a b d]
    have e260 : M' 260 = M 260 := fr.1 260 (by omega) (by omega)
    have sx : SXq (B + 30001 * (x3 + 1)) M' := SXq_m hS' (by omega)
    have ex : ∃ j, 0 ≤ j ∧ j < C 0 10 ∧ C 260 j = -2 := ⟨x3, a0, xk, c2⟩
    refine ⟨fun y => ?_, fun y => ?_⟩
    · unfold w_X11_checkPromises_b73
      refine ⟨a0, by omega, fun M1 em => ?_⟩
      have k1 : ∀ q, q ≠ 260 → M1 q = M' q := fun q hq => by rw [em, ux_g _ _ _ hq]
      unfold w_X11_checkPromises_b80
      refine ⟨by unfold ri_; omega, ih _ _ _ _ ⟨rfl, by omega, by omega, SXq_e sx (fun q hq => k1 q (by omega)), Or.inr ⟨rfl, Mt, t1, t2, t3, fun q a b d => by rw [k1 q d]; exact q' q a b d, by rw [k1 219 (by omega), fr.2]; exact t5, ?_, fun j s => ?_, fun j s t => ?_, ex⟩⟩ (by omega)⟩
      · have hY' : Rty M' R := Rty_C hYM (fun k a b => fr.1 k (by omega) (by omega))
        refine ShH_e hY' ?_ (tyLe_of (by rw [k1 8 (by omega)]) (fun k a b => k1 k (by omega))) (fun q a b => k1 q (by omega)) hs'
        exact pw_fr hYM wM (tyLe_of (by rw [fr.1 8 (by omega) (by omega)]) (fun k a b => fr.1 k (by omega) (by omega))) (by rw [fr.1 pc (by omega) (by omega)]) (by rw [fr.1 pc (by omega) (by omega)]) (fun q a b => fr.1 q (by omega) (by omega)) (fun t a b => by rw [fr.1 (pc + 13) (by omega) (by omega)]; exact wM.2.2.2.2.2.2.2.2.2.2.2.1 t a b)
      · rw [em, ux_i _ _ _ (by omega), e260]; exact t7 j (by omega)
      · by_cases g : j = x3
        · refine Or.inr ⟨by rw [g]; exact c2, z, hz, ?_, by rw [g]; exact hZ'⟩
          rw [em, g, ux_s, if_neg (by omega)]
        · rw [em, ux_i _ _ _ g, e260]; exact t8 j s (by omega)
    · unfold w_X11_checkPromises_b80
      refine ⟨by unfold ri_; omega, ih _ _ _ _ ⟨rfl, by omega, by omega, sx, Or.inr ⟨rfl, Mt, t1, t2, t3, q', by rw [fr.2]; exact t5, hs', fun j s => by rw [e260]; exact t7 j (by omega), fun j s t => ?_, ex⟩⟩ (by omega)⟩
      by_cases g : j = x3
      · refine Or.inr ⟨by rw [g]; exact c2, z, hz, ?_, by rw [g]; exact hZ'⟩
        rw [g, e260, t7 x3 (Int.le_refl _), c2, if_pos y]
      · rw [e260]; exact t8 j s (by omega)
  refine ⟨fun z => ?_, fun z => ⟨a0, by omega, fun v3 e3 _ => ⟨fun y => ?_, fun y => ?_⟩⟩⟩
  · -- the end
    rcases hx with ⟨-, rfl, hn⟩ | ⟨-, Mt, t1, t2, t3, t4, t5, t6, t7, t8, t9⟩
    · refine hq C (fun _ _ _ _ => rfl) rfl (SXq_m hS (by omega)) hF (fun R1 Qr _ _ hA hQr => ?_)
      have a79 := hA.2.2.2.1
      exact r_look0 h3 h2 (by rw [hA.2.2.2.2 113 (by decide)]; exact h1.symm) (fun j s t => by rw [a79, ← h6 j s t]; exact hn j s (by omega)) (hQr R1 (FLq_r R1) (fun j s t => by rw [a79]; exact h6 j s t))
    · have qC : ∀ q, ¬ (pc ≤ q ∧ q ≤ pc + 32) → q < 219 ∨ 231 < q → q ≠ 260 → M q = C q := fun q a b d => by rw [t4 q (by omega) b d, t1 q (by omega)]
      have hYt : Rty Mt R := Rty_C hY (fun k a b => t1 k (by omega))
      have tl : tyLe Mt M := tyLe_of (by rw [t4 8 (by omega) (by omega) (by omega)]) (fun k a b => t4 k (by omega) (by omega) (by omega))
      have wM : PW M pc := pw_fr hYt t2 tl (by rw [t4 pc (by omega) (by omega) (by omega)]) (by rw [t4 pc (by omega) (by omega) (by omega)]) (fun q a b => t4 q (by omega) (by omega) (by omega)) (fun t a b => by rw [t4 (pc + 13) (by omega) (by omega) (by omega)]; exact t2.2.2.2.2.2.2.2.2.2.2.2.1 t a b)
      refine hq M qC (by rw [t5, t1 219 (by omega)]) (SXq_m hS (by omega)) (PF_of wM) (fun R1 Qr hY1 hH1 hA hQr => ?_)
      have a79 := hA.2.2.2.1
      refine r_look (V := fun j => M 260 j) (Mt := Mt) hY1 hH1 hA h3 h2 (by rw [hA.2.2.2.2 113 (by decide)]; exact h1.symm) (by rw [hA.2.2.2.2 114 (by decide)]; exact h7) (fun j s t => ?_) t3 ?_ (fun R' f' e' => hQr R' f' (fun j s t => (e' j s t).symm))
      · rw [a79, ← h6 j s t]; exact t8 j s (by omega)
      · obtain ⟨j, j0, j1, j2⟩ := t9
        exact ⟨j, j0, j1, by rw [a79, ← h6 j j0 j1]; exact j2⟩
  · rcases hx with ⟨w2, rfl, hn⟩ | ⟨w2, Mt, t1, t2, t3, t4, t5, t6, t7, t8, t9⟩
    · refine ⟨fun g => absurd w2 g, fun _ => ⟨pc, h5, hpc, ?_⟩⟩
      refine p_take4 hpc hYc hH hF (fun Mt t1 t2 t6 t3 => ?_)
      exact one Mt Mt t1 t2 t3 (fun _ _ _ _ => rfl) rfl t6 (fun j _ => by rw [t1 260 (by omega)]) (fun j s t => Or.inl ⟨hn j s t, by rw [t1 260 (by omega)]⟩) (SXq_e hS (fun k hk => t1 k (by omega))) (by omega) (by rw [← e3]; exact y)
    · refine ⟨fun _ => ?_, fun g => by omega⟩
      rw [w2]
      exact one Mt M t1 t2 t3 t4 t5 t6 t7 t8 hS (by omega) (by rw [← t7 x3 (Int.le_refl _), ← e3]; exact y)
  · unfold w_X11_checkPromises_b80
    refine ⟨by unfold ri_; omega, ih _ _ _ _ ⟨rfl, by omega, by omega, SXq_m hS (by omega), ?_⟩ (by omega)⟩
    rcases hx with ⟨w2, rfl, hn⟩ | ⟨w2, Mt, t1, t2, t3, t4, t5, t6, t7, t8, t9⟩
    · refine Or.inl ⟨w2, rfl, fun j s t => ?_⟩
      by_cases g : j = x3
      · rw [g, ← e3]; exact y
      · exact hn j s (by omega)
    · refine Or.inr ⟨w2, Mt, t1, t2, t3, t4, t5, t6, fun j s => t7 j (by omega), fun j s t => ?_, t9⟩
      by_cases g : j = x3
      · refine Or.inl ⟨?_, by rw [g]; exact t7 x3 (Int.le_refl _)⟩
        rw [g, ← t7 x3 (Int.le_refl _), ← e3]; exact y
      · exact t8 j s (by omega)
