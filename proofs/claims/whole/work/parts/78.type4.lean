/-! type, on both sides, whole -/
def xT (E : String) : Int := if E = "java/lang/IndexOutOfBoundsException" then 1 else if E = "java/lang/IllegalArgumentException" then 2 else 3
/-- a type of things: a class, numbers, links -/
def vT (n t : Int) : Prop := (0 ≤ t ∧ t < n) ∨ (20 ≤ t ∧ t ≤ 24) ∨ t = 29 ∨ (30 ≤ t ∧ t < 30 + n)
/-- what a field of links may link to is a type, or all -/
def Rlk (C : MM) : Prop := ∀ c k, 0 ≤ c → c < C 8 0 → 0 ≤ k → k < C 14 c → (C 19 (6 * c + k) = 5 ∧ (C 20 (6 * c + k) = -1 ∨ vT (C 8 0) (C 20 (6 * c + k)))) ∨ (C 19 (6 * c + k) ≠ 5 ∧ C 20 (6 * c + k) = -1)
/-- classes stay, and what is used of them stays as it is -/
def tyLe (C C' : MM) : Prop := C 8 0 ≤ C' 8 0 ∧ ∀ c, 0 ≤ c → c < C 8 0 → C' 9 c = C 9 c ∧ C' 11 c = C 11 c ∧ (C 12 c = 1 → C' 12 c = 1 ∧ C' 16 c = C 16 c ∧ C' 17 c = C 17 c ∧ ∀ k j, (k = 23 ∨ k = 24 ∨ k = 25) → 0 ≤ j → j < C 16 c → C' k (96 * c + j) = C k (96 * c + j)) ∧ (∀ k, 0 ≤ k → k < C 14 c → k < C' 14 c ∧ ∀ q, 18 ≤ q → q ≤ 22 → C' q (6 * c + k) = C q (6 * c + k))
theorem tyLe_of {C C' : MM} (h8 : C' 8 0 = C 8 0) (h : ∀ k, 9 ≤ k → k ≤ 25 → C' k = C k) : tyLe C C' := by
  refine ⟨by omega, fun c c0 c1 => ⟨by rw [h 9 (by omega) (by omega)], by rw [h 11 (by omega) (by omega)], fun u => ⟨by rw [h 12 (by omega) (by omega)]; exact u, by rw [h 16 (by omega) (by omega)], by rw [h 17 (by omega) (by omega)], fun k j hk _ _ => by rw [h k (by omega) (by omega)]⟩, fun k k0 k1 => ⟨by rw [h 14 (by omega) (by omega)]; exact k1, fun q q0 q1 => by rw [h q (by omega) (by omega)]⟩⟩⟩
theorem Rlk_of {C C' : MM} (h : Rlk C) (h8 : C' 8 0 = C 8 0) (h1 : C' 14 = C 14) (h2 : C' 19 = C 19) (h3 : C' 20 = C 20) : Rlk C' := by
  unfold Rlk at h ⊢
  rw [h8, h1, h2, h3]; exact h
theorem vT_mono {n m t : Int} (h : vT n t) (hm : n ≤ m) : vT m t := by unfold vT at *; omega
def FC (C C' : MM) : Prop := (∀ k i, 26 ≤ k → C' k i = C k i) ∧ (∀ i, C' 0 i = C 0 i ∧ C' 14 i = C 14 i) ∧ tyLe C C' ∧ (Rlk C → Rlk C')
def FR (R R' : MM) : Prop := (∀ k i, 19 ≤ k → R' k i = R k i) ∧ (∀ i, i ≠ 0 → i ≠ 3 → i ≠ 20 → R' 0 i = R 0 i) ∧ ∀ i, R' 6 i = R 6 i
theorem RA_sc {C R C1 : MM} {x : Int} (h : RA C R) (hf : ∀ k i, ¬ (k = 1 ∧ (i = 4 ∨ i = 9 ∨ i = 10 ∨ i = 11)) → C1 k i = C k i) : RA C1 (ux_ R 0 0 x) ∧ FC C C1 ∧ FR R (ux_ R 0 0 x) := by
  refine ⟨RA_of h (hf 1 1 (by omega)) (fun k i a b d e f => hf k i (by omega)) (fun k i a b => ux_c _ _ _ _ (by omega)) (ux_i _ _ _ (by decide)) (ux_i _ _ _ (by decide)), ⟨fun k i a => hf k i (by omega), fun i => ⟨hf 0 i (by omega), hf 14 i (by omega)⟩, tyLe_of (hf 8 0 (by omega)) (fun k hk hk2 => funext fun i => hf k i (by omega)), fun h => Rlk_of h (hf 8 0 (by omega)) (funext fun i => hf 14 i (by omega)) (funext fun i => hf 19 i (by omega)) (funext fun i => hf 20 i (by omega))⟩, fun k i a => ux_c _ _ _ _ (by omega), fun i a b d => ux_i _ _ _ a, fun i => ux_c _ _ _ _ (by decide)⟩
set_option maxHeartbeats 1000000 in
theorem t_type {C R : MM} {u l : Int} (h : RA C R) : w_X11_type (fun r C' => w_X12_type (fun r' R' => R' 0 0 = 0 ∧ r = r' ∧ RA C' R' ∧ FC C C' ∧ FR R R') u l R) (fun E C' => w_X12_type (fun r' R' => R' 0 0 = xT E ∧ RA C' R' ∧ FC C C' ∧ FR R R') u l R) u l C := by
  obtain ⟨hT, b1, b2, hK, hY⟩ := id h
  obtain ⟨y1, y2, y3, y4, y5, y6⟩ := id hY
  obtain ⟨t1, t2, t3, t4, t5⟩ := id hT
  have hbad : ((u ≠ -1 ∧ ¬ (0 ≤ u ∧ u < C 8 0)) ∨ l < 0 ∨ 3 < l) → w_X11_type_b25 (fun r C' => w_X12_type (fun r' R' => R' 0 0 = 0 ∧ r = r' ∧ RA C' R' ∧ FC C C' ∧ FR R R') u l R) (fun E C' => w_X12_type (fun r' R' => R' 0 0 = xT E ∧ RA C' R' ∧ FC C C' ∧ FR R R') u l R) C := by
    intro hb
    unfold w_X11_type_b25
    refine R_type_bad (by rw [← y1]; exact hb) ⟨by rw [ux_s]; rfl, ?_⟩
    exact RA_sc h (fun _ _ _ => rfl)
  have H16 : (u = -1 ∨ (0 ≤ u ∧ u < C 8 0)) → w_X11_type_b16 (fun r C' => w_X12_type (fun r' R' => R' 0 0 = 0 ∧ r = r' ∧ RA C' R' ∧ FC C C' ∧ FR R R') u l R) (fun E C' => w_X12_type (fun r' R' => R' 0 0 = xT E ∧ RA C' R' ∧ FC C C' ∧ FR R R') u l R) u l C := by
    intro hu
    unfold w_X11_type_b16
    refine ⟨fun z => hbad (by omega), fun z => ⟨fun z2 => p_wholeName (okT_of hT) fun C1 v hf hv _ => ?_, fun z2 => hbad (by omega)⟩⟩
    have hR := @R_type_ok
    have e8 : C1 8 0 = C 8 0 := hf 8 0 (by omega)
    have e9 : ∀ i, C1 9 i = C 9 i := fun i => hf 9 i (by omega)
    have e10 : ∀ i, C1 10 i = C 10 i := fun i => hf 10 i (by omega)
    have hnm : ∀ v', nmR R v' → nr v v' ∧ (v = 0 ↔ v' = 0) := fun v' h' => nm_rel hT b1 hK hv h'
    have hhas : ∀ v', nmR R v' → ∀ c, 0 ≤ c → c < C 8 0 → ((C 10 c = l ∧ C 9 c = v) ↔ (R 7 c = l ∧ R 4 c = v')) := by
      intro v' h' c c0 c1
      obtain ⟨⟨a1, a2, -⟩, -⟩ := y4 c c0 c1
      rw [a2, nr_eq a1 (hnm v' h').1]
    have h79 : (C 8 0 = 16 ∨ ∃ c, 0 ≤ c ∧ c < C 8 0 ∧ C 10 c = l ∧ C 9 c = v) → v ≠ 0 → w_X11_type_b79 (fun r C' => w_X12_type (fun r' R' => R' 0 0 = 0 ∧ r = r' ∧ RA C' R' ∧ FC C C' ∧ FR R R') u l R) (fun E C' => w_X12_type (fun r' R' => R' 0 0 = xT E ∧ RA C' R' ∧ FC C C' ∧ FR R R') u l R) C1 := by
      intro hh hv0
      unfold w_X11_type_b79
      refine R_type_ok (by rw [← y1]; exact hu) (by omega) (by omega) (by omega) (by omega) (by omega) (by omega) (fun v' h' z' => absurd ((hnm v' h').2.mpr z') hv0) (fun v' h' _ _ => ⟨by rw [ux_s]; rfl, RA_sc h hf⟩) (fun v' h' _ n16 hno => ?_)
      exfalso
      rcases hh with q | ⟨c, c0, c1, c2⟩
      · exact n16 (by rw [← y1]; exact q)
      · exact hno c c0 (by rw [← y1]; exact c1) ((hhas v' h' c c0 c1).mp c2)
    refine ⟨fun zv v6 e6 g6 => ?_, fun zv => ?_⟩
    · rw [e8] at e6
      subst e6
      refine ⟨fun z16 => h79 (Or.inl z16) zv, fun z16 => ?_⟩
      refine p_hasName (by omega) (by omega) (fun c c0 c1 c2 c3 _ => ⟨fun q => by omega, fun _ => h79 (Or.inr ⟨c, c0, by rw [← e8]; exact c1, by rw [← e10]; exact c2, by rw [← e9]; exact c3⟩) zv⟩) (fun hno _ => ⟨fun _ M11 e11 => ?_, fun q => absurd rfl q⟩)
      have hno' : ∀ c, 0 ≤ c → c < C 8 0 → ¬ (C 10 c = l ∧ C 9 c = v) := fun c c0 c1 q => hno c c0 (by rw [e8]; exact c1) ⟨by rw [e10]; exact q.1, by rw [e9]; exact q.2⟩
      have m : ∀ k i, k ≠ 1 → M11 k i = C k i := fun k i hk => by rw [e11, ux_c _ _ _ _ hk]; exact hf k i (by omega)
      have m11 : M11 1 1 = 0 := by rw [e11, ux_s]
      have m8 := m 8 0 (by decide)
      have hbdu : u ≠ -1 → 0 ≤ C 16 u ∧ C 16 u ≤ 96 ∧ 12 ≤ C 17 u ∧ C 17 u ≤ 7000 := fun z => by have := ty_bd hY u (by omega) (by omega); omega
      refine p_addClass (by omega) (by omega) (by omega) (by omega) (fun z => by rw [m 16 u (by decide)]; have := hbdu z; omega) (fun z => by rw [m 17 u (by decide)]; have := hbdu z; unfold ri_; omega) (fun C' f0 f8 f9 f10 f11 f12 f16 f17 f23 _ => ?_)
      rw [m8] at f8 f9 f10 f11 f16 f17 f23 ⊢
      refine R_type_ok (by rw [← y1]; exact hu) (by omega) (by omega) (by omega) (by omega) (by omega) (by omega) (fun v' h' z' => absurd ((hnm v' h').2.mpr z') zv) (fun v' h' _ hh => ?_) (fun v' h' _ n16 hno2 => ?_)
      · exfalso
        rcases hh with q | ⟨c, c0, c1, c2⟩
        · exact z16 (by rw [y1]; exact q)
        · exact hno' c c0 (by rw [y1]; exact c1) ((hhas v' h' c c0 (by rw [y1]; exact c1)).mpr c2)
      · -- the reference lays out and empties the tape
        unfold w_X12_type_b229
        rw [← y1]
        have rA : ∀ k i, rAdd R u l v' k i = if k = 0 ∧ i = 0 then 0 else if k = 0 ∧ i = 20 then C 8 0 + 1 else if k = 4 ∧ i = C 8 0 then v' else if k = 7 ∧ i = C 8 0 then l else if k = 8 ∧ i = C 8 0 then u else if k = 9 ∧ i = C 8 0 then 0 else if k = 16 ∧ u ≠ -1 ∧ i = u then 1 else if k = 16 ∧ i = C 8 0 then 0 else R k i := by
          intro k i; unfold rAdd; rw [← y1]
        have rO : ∀ k i, k ≠ 0 → k ≠ 4 → k ≠ 7 → k ≠ 8 → k ≠ 9 → k ≠ 16 → rAdd R u l v' k i = R k i := by
          intro k i a1 a2 a3 a4 a5 a6
          rw [rA, if_neg (by omega), if_neg (by omega), if_neg (by omega), if_neg (by omega), if_neg (by omega), if_neg (by omega), if_neg (by omega), if_neg (by omega)]
        have r8n : rAdd R u l v' 8 (C 8 0) = u := by rw [rA]; simp
        have r9n : rAdd R u l v' 9 (C 8 0) = 0 := by rw [rA]; simp
        have hcl : u ≠ -1 → R 10 u = C 16 u ∧ R 11 u = C 17 u := fun z => by
          obtain ⟨⟨-, -, -, -, -, -, -, -, -, -, a11, a12, -⟩, -⟩ := y4 u (by omega) (by omega)
          exact ⟨a11.symm, a12.symm⟩
        refine p_R_layOut (n := 0) (base := if u = -1 then 0 else R 10 u) (e := if u = -1 then 12 else R 11 u) y2 (by omega) (by omega) r9n (fun j j1 => by omega) (by rw [r8n]; omega) (by rw [r8n]; omega) (by rw [r8n, rO 10 u (by decide) (by decide) (by decide) (by decide) (by decide) (by decide)]) (by rw [r8n]; omega) (by rw [r8n, rO 11 u (by decide) (by decide) (by decide) (by decide) (by decide) (by decide)]) ?_ ?_ ?_ ?_ (fun M' g1 g2 g3 g4 g5 g6 M3 e3 => ?_)
        · by_cases z : u = -1
          · rw [if_pos z]; omega
          · rw [if_neg z, (hcl z).1]; have := hbdu z; omega
        · by_cases z : u = -1
          · rw [if_pos z]; omega
          · rw [if_neg z, (hcl z).1]; have := hbdu z; omega
        · by_cases z : u = -1
          · rw [if_pos z]; omega
          · rw [if_neg z, (hcl z).2]; have := hbdu z; omega
        · by_cases z : u = -1
          · rw [if_pos z]; omega
          · rw [if_neg z, (hcl z).2]; have := hbdu z; omega
        · have n3 : ∀ k i, k ≠ 0 → M3 k i = M' k i := fun k i hk => by rw [e3, ux_c _ _ _ _ hk]
          have n0 : ∀ i, i ≠ 3 → M3 0 i = M' 0 i := fun i hi => by rw [e3, ux_i _ _ _ hi]
          have gA : ∀ k i, k ≠ 10 → k ≠ 11 → k ≠ 14 → k ≠ 15 → M' k i = rAdd R u l v' k i := g1
          have g14 : ∀ i, M' 14 i = R 14 i ∧ M' 15 i = R 15 i := fun i => by
            have := g3 i (by omega)
            rw [this.1, this.2, rO 14 i (by decide) (by decide) (by decide) (by decide) (by decide) (by decide), rO 15 i (by decide) (by decide) (by decide) (by decide) (by decide) (by decide)]
            exact ⟨rfl, rfl⟩
          have g10 : ∀ i, M' 10 i = if i = C 8 0 then (if u = -1 then 0 else R 10 u) else R 10 i := fun i => by
            by_cases z : i = C 8 0
            · rw [if_pos z, z, g4]; show _ + 0 = _; omega
            · rw [if_neg z, (g2 i z).1, rO 10 i (by decide) (by decide) (by decide) (by decide) (by decide) (by decide)]
          have g11 : ∀ i, M' 11 i = if i = C 8 0 then (if u = -1 then 12 else R 11 u) else R 11 i := fun i => by
            by_cases z : i = C 8 0
            · rw [if_pos z, z, g5, lb_n0]
            · rw [if_neg z, (g2 i z).2, rO 11 i (by decide) (by decide) (by decide) (by decide) (by decide) (by decide)]
          have g0 : ∀ i, M' 0 i = rAdd R u l v' 0 i := fun i => gA 0 i (by decide) (by decide) (by decide) (by decide)
          have r00 : M3 0 0 = 0 := by rw [n0 0 (by decide), g0, rA]; simp
          have r03 : M3 0 3 = 0 := by rw [e3, ux_s]
          have r020 : M3 0 20 = C 8 0 + 1 := by rw [n0 20 (by decide), g0, rA]; simp
          have rs : ∀ k i, k ≠ 0 → k ≠ 4 → k ≠ 7 → k ≠ 8 → k ≠ 9 → k ≠ 10 → k ≠ 11 → k ≠ 16 → M3 k i = R k i := fun k i a1 a2 a3 a4 a5 a6 a7 a8 => by
            rw [n3 k i a1]
            by_cases z : k = 14
            · subst z; exact (g14 i).1
            · by_cases z2 : k = 15
              · subst z2; exact (g14 i).2
              · rw [gA k i a6 a7 z z2]; exact rO k i a1 a2 a3 a4 a5 a8
          have cs : ∀ k i, k ≠ 1 → k ≠ 8 → k ≠ 9 → k ≠ 10 → k ≠ 11 → k ≠ 12 → k ≠ 16 → k ≠ 17 → k ≠ 23 → k ≠ 24 → k ≠ 25 → C' k i = C k i := fun k i a1 a2 a3 a4 a5 a6 a7 a8 a9 a10 a11 => by rw [f0 k i a2 a3 a4 a5 a6 a7 a8 a9 a10 a11]; exact m k i a1
          have c11 : C' 1 1 = 0 := by rw [f0 1 1 (by decide) (by decide) (by decide) (by decide) (by decide) (by decide) (by decide) (by decide) (by decide) (by decide)]; exact m11
          refine ⟨r00, rfl, ⟨⟨by rw [c11, r03], by omega, by omega, fun i i0 i1 => by omega, ?_⟩, ?_, ?_, ?_, ?_⟩, ⟨?_, ?_, ?_, ?_⟩, ?_, ?_, ?_⟩
          · intro i i0 i1
            rw [cs 3 i (by decide) (by decide) (by decide) (by decide) (by decide) (by decide) (by decide) (by decide) (by decide) (by decide) (by decide), rs 2 i (by decide) (by decide) (by decide) (by decide) (by decide) (by decide) (by decide) (by decide)]
            exact t5 i i0 i1
          · intro i; rw [rs 1 i (by decide) (by decide) (by decide) (by decide) (by decide) (by decide) (by decide) (by decide)]; exact b1 i
          · intro i; rw [rs 2 i (by decide) (by decide) (by decide) (by decide) (by decide) (by decide) (by decide) (by decide)]; exact b2 i
          · intro k k0 k1
            rw [cs 7 k (by decide) (by decide) (by decide) (by decide) (by decide) (by decide) (by decide) (by decide) (by decide) (by decide) (by decide), rs 3 _ (by decide) (by decide) (by decide) (by decide) (by decide) (by decide) (by decide) (by decide)]
            exact hK k k0 k1
          · refine ty_add hY (hnm v' h').1 (by omega) hu (fun k hk => funext fun i => cs k i (by omega) (by omega) (by omega) (by omega) (by omega) (by omega) (by omega) (by omega) (by omega) (by omega) (by omega)) f8 (fun i => by rw [f9, m 9 i (by decide)]) (fun i => by rw [f10, m 10 i (by decide)]) (fun i => by rw [f11, m 11 i (by decide)]) (fun i => by rw [f12, m 12 i (by decide)]) (fun i => by rw [f16, m 16 i (by decide), m 16 u (by decide)]) (fun i => by rw [f17, m 17 i (by decide), m 17 u (by decide)]) (fun k i hk => by rw [f23 k i hk, m k _ (by omega), m k _ (by omega), m 16 u (by decide)]) (fun k hk => funext fun i => rs k i (by omega) (by omega) (by omega) (by omega) (by omega) (by omega) (by omega) (by omega)) r020 ?_ ?_ ?_ ?_ ?_ ?_ ?_
            · intro i; rw [n3 4 i (by decide), gA 4 i (by decide) (by decide) (by decide) (by decide), rA]; simp
            · intro i; rw [n3 7 i (by decide), gA 7 i (by decide) (by decide) (by decide) (by decide), rA]; simp
            · intro i; rw [n3 8 i (by decide), gA 8 i (by decide) (by decide) (by decide) (by decide), rA]; simp
            · intro i; rw [n3 9 i (by decide), gA 9 i (by decide) (by decide) (by decide) (by decide), rA]; simp
            · intro i; rw [n3 16 i (by decide), gA 16 i (by decide) (by decide) (by decide) (by decide), rA]; simp
            · intro i; rw [n3 10 i (by decide)]; exact g10 i
            · intro i; rw [n3 11 i (by decide)]; exact g11 i
          · intro k i hk; exact cs k i (by omega) (by omega) (by omega) (by omega) (by omega) (by omega) (by omega) (by omega) (by omega) (by omega) (by omega)
          · intro i; exact ⟨cs 0 i (by decide) (by decide) (by decide) (by decide) (by decide) (by decide) (by decide) (by decide) (by decide) (by decide) (by decide), cs 14 i (by decide) (by decide) (by decide) (by decide) (by decide) (by decide) (by decide) (by decide) (by decide) (by decide) (by decide)⟩
          · refine ⟨by omega, fun c k0 k1 => ⟨by rw [f9, if_neg (by omega), m 9 c (by decide)], by rw [f11, if_neg (by omega), m 11 c (by decide)], fun uu => ⟨?_, by rw [f16, if_neg (by omega), m 16 c (by decide)], by rw [f17, if_neg (by omega), m 17 c (by decide)], fun k j hk j0 j1 => ?_⟩, fun k k0 k1 => ⟨by rw [cs 14 c (by decide) (by decide) (by decide) (by decide) (by decide) (by decide) (by decide) (by decide) (by decide) (by decide) (by decide)]; exact k1, fun q q0 q1 => cs q _ (by omega) (by omega) (by omega) (by omega) (by omega) (by omega) (by omega) (by omega) (by omega) (by omega) (by omega)⟩⟩⟩
            · rw [f12, m 12 c (by decide)]
              by_cases zz : u ≠ -1 ∧ c = u
              · rw [if_pos zz]
              · rw [if_neg zz]; exact uu
            · have hb := ty_bd hY c k0 k1
              rw [f23 k _ hk, if_neg (by omega), m k _ (by omega)]
          · intro hL c k k0 k1 k2 k3
            have e14 : C' 14 = C 14 := funext fun i => cs 14 i (by decide) (by decide) (by decide) (by decide) (by decide) (by decide) (by decide) (by decide) (by decide) (by decide) (by decide)
            have e19 : C' 19 = C 19 := funext fun i => cs 19 i (by decide) (by decide) (by decide) (by decide) (by decide) (by decide) (by decide) (by decide) (by decide) (by decide) (by decide)
            have e20 : C' 20 = C 20 := funext fun i => cs 20 i (by decide) (by decide) (by decide) (by decide) (by decide) (by decide) (by decide) (by decide) (by decide) (by decide) (by decide)
            rw [e14] at k3
            rw [e19, e20]
            by_cases zc : c = C 8 0
            · exfalso
              have := (y5 (C 8 0) (by omega) (by omega)).2.2.2.1
              rw [zc] at k3
              omega
            · rcases hL c k k0 (by omega) k2 k3 with ⟨a, b⟩ | a
              · exact Or.inl ⟨a, b.imp id fun q => vT_mono q (by omega)⟩
              · exact Or.inr a
          · intro k i hk; exact rs k i (by omega) (by omega) (by omega) (by omega) (by omega) (by omega) (by omega) (by omega)
          · intro i i0 i1 i2
            rw [n0 i i1, g0, rA]
            simp [i0, i2]
          · intro i; exact rs 6 i (by decide) (by decide) (by decide) (by decide) (by decide) (by decide) (by decide) (by decide)
    · -- no name
      refine R_type_ok (by rw [← y1]; exact hu) (by omega) (by omega) (by omega) (by omega) (by omega) (by omega) (fun v' h' _ => ⟨by rw [ux_s]; rfl, RA_sc h hf⟩) (fun v' h' z' _ => absurd ((hnm v' h').2.mp zv) z') (fun v' h' z' _ _ => absurd ((hnm v' h').2.mp zv) z')
  unfold w_X11_type
  refine ⟨fun z => H16 (Or.inl z), fun z => p_isClass (fun c0 c1 _ => ⟨fun q => by omega, fun _ => H16 (Or.inr ⟨c0, c1⟩)⟩) (fun c0 _ => ⟨fun _ => hbad (Or.inl ⟨z, c0⟩), fun q => absurd rfl q⟩)⟩
