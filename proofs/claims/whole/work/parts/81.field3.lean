/-! the classes with one field more, on both sides -/
theorem upn_eq {C C' : MM} (h : C' 11 = C 11) (c : Int) (m : Nat) : upn C' c m = upn C c m := by
  induction m with
  | zero => rfl
  | succ m ih =>
    show (if upn C' c m = -1 then -1 else C' 11 (upn C' c m)) = (if upn C c m = -1 then -1 else C 11 (upn C c m))
    rw [ih, h]
set_option maxHeartbeats 1000000 in
theorem ty_field {C R C' R' : MM} {c x v kd lk st : Int} (h : Rty C R) (c0 : 0 ≤ c) (c1 : c < C 8 0) (hu : C 12 c = 0) (hn : C 14 c < 6) (hx : nr x v) (hk : 0 ≤ kd) (hk2 : kd ≤ 5) (hst : st = 0 ∨ st = 1)
    (s : ∀ k, 8 ≤ k → k ≤ 13 → C' k = C k) (c14 : ∀ i, C' 14 i = if i = c then C 14 c + 1 else C 14 i) (c15 : ∀ i, C' 15 i = if i = c ∧ st ≠ 0 then C 15 c + 1 else C 15 i) (c16 : ∀ i, C' 16 i = if i = c ∧ st = 0 then C 16 c + 1 else C 16 i)
    (c17 : ∀ i, C' 17 i = if i = c then lb (C' 21) (C' 19) (6 * c) (enC C c) (C 14 c + 1).toNat 0 else C 17 i) (c18 : ∀ i, C' 18 i = if i = 6 * c + C 14 c then x else C 18 i) (c19 : ∀ i, C' 19 i = if i = 6 * c + C 14 c then kd else C 19 i) (c20 : ∀ i, C' 20 i = if i = 6 * c + C 14 c then lk else C 20 i) (c21 : ∀ i, C' 21 i = if i = 6 * c + C 14 c then st else C 21 i) (c22 : ∀ i, C' 22 i = if i = 6 * c + C 14 c then (if st = 0 then C 16 c else C 15 c) else C 22 i)
    (c23 : ∀ i, C' 23 i = if st = 0 ∧ i = 96 * c + C 16 c then x else C 23 i) (c24 : ∀ i, C' 24 i = if st = 0 ∧ i = 96 * c + C 16 c then kd else C 24 i) (c25 : ∀ i, C' 25 i = if st = 0 ∧ i = 96 * c + C 16 c then lk else C 25 i)
    (r : ∀ k, k = 4 ∨ k = 7 ∨ k = 8 ∨ k = 16 ∨ k = 18 → R' k = R k) (r20 : R' 0 20 = R 0 20) (r9 : ∀ i, R' 9 i = if i = c then C 14 c + 1 else R 9 i) (r5 : ∀ i, R' 5 i = if i = 6 * c + C 14 c then v else R 5 i) (r12 : ∀ i, R' 12 i = if i = 6 * c + C 14 c then kd else R 12 i) (r13 : ∀ i, R' 13 i = if i = 6 * c + C 14 c then lk else R 13 i) (r17 : ∀ i, R' 17 i = if i = 6 * c + C 14 c then st else R 17 i)
    (r10 : ∀ i, i ≠ c → R' 10 i = R 10 i ∧ R' 11 i = R 11 i) (r10c : R' 10 c = bsC C c + ns (C' 21) (6 * c) (C 14 c + 1).toNat) (r11c : R' 11 c = lb (C' 21) (C' 19) (6 * c) (enC C c) (C 14 c + 1).toNat 0)
    (r14 : ∀ i, ¬ (6 * c ≤ i ∧ i < 6 * c + (C 14 c + 1)) → R' 14 i = R 14 i ∧ R' 15 i = R 15 i) (r14c : ∀ j : Nat, (j : Int) < C 14 c + 1 → R' 14 (6 * c + j) = sl (C' 21) (6 * c) (bsC C c) j ∧ (C' 21 (6 * c + j) = 0 → R' 15 (6 * c + j) = lp (C' 21) (C' 19) (6 * c) (enC C c) (C 14 c + 1).toNat j)) : Rty C' R' := by
  have hbd := fun c => ty_bd h c
  obtain ⟨h1, h2, h3, h4, h5, h6⟩ := id h
  have s8 := s 8 (by omega) (by omega)
  have s11 := s 11 (by omega) (by omega)
  have s12 := s 12 (by omega) (by omega)
  have hup := fun d m => upn_eq (C := C) (C' := C') s11 d m
  have hpar : ∀ d, 0 ≤ d → d < C 8 0 → C 11 d ≠ c := by
    intro d d0 d1 q
    have a := (h4 d d0 d1).1.2.2.2.2.2.2.2.2.2.2.2.2
    rw [q, hu] at a
    omega
  have hbs : ∀ d, 0 ≤ d → d < C 8 0 → bsC C' d = bsC C d ∧ enC C' d = enC C d := by
    intro d d0 d1
    have := hpar d d0 d1
    unfold bsC enC
    rw [s11]
    by_cases z : C 11 d = -1
    · rw [if_pos z, if_pos z, if_pos z, if_pos z]; exact ⟨rfl, rfl⟩
    · rw [if_neg z, if_neg z, if_neg z, if_neg z, c16, c17, if_neg (fun q => this q.1), if_neg this]; exact ⟨rfl, rfl⟩
  have n0 := (h4 c c0 c1).1.2.2.2.2.2.2.2.2.1
  have hrows : ∀ d k, 0 ≤ d → d < C 8 0 → 0 ≤ k → k < C 14 d → 6 * d + k ≠ 6 * c + C 14 c := by
    intro d k d0 d1 k0 k1 q
    have := (h4 d d0 d1).1.2.2.2.2.2.2.2.2.2.1
    have e : d = c := by omega
    subst e
    omega
  have n1 : (((C 14 c + 1).toNat : Nat) : Int) = C 14 c + 1 := by omega
  have nn : (C 14 c + 1).toNat = (C 14 c).toNat + 1 := by omega
  have hold : ∀ j : Nat, j < (C 14 c).toNat → C' 21 (6 * c + j) = C 21 (6 * c + j) ∧ C' 19 (6 * c + j) = C 19 (6 * c + j) := fun j j1 => by
    rw [c21, c19, if_neg (by omega), if_neg (by omega)]; exact ⟨rfl, rfl⟩
  have hnew : C' 21 (6 * c + ((C 14 c).toNat : Nat)) = st := by rw [c21, if_pos (by omega)]
  have hns : ns (C' 21) (6 * c) (C 14 c + 1).toNat = ns (C 21) (6 * c) (C 14 c).toNat + (if st = 0 then 1 else 0) := by
    rw [nn]
    show ns (C' 21) (6 * c) (C 14 c).toNat + (if C' 21 (6 * c + ((C 14 c).toNat : Nat)) = 0 then 1 else 0) = _
    rw [hnew, ns_cong _ fun j j1 => (hold j j1).1]
  refine ⟨by rw [s8, r20]; exact h1, by rw [s8]; exact h2, by rw [s8]; exact h3, ?_, ?_, ?_⟩
  · intro d d0 d1
    rw [s8] at d1
    obtain ⟨a, l, sC, fl⟩ := h4 d d0 d1
    obtain ⟨a1, a2, a3, a4, a5, a6, a7, a8, a9, a10, a11, a12, a13⟩ := a
    obtain ⟨l1, l2, l3, l4⟩ := l
    have hb := hbs d d0 d1
    have f' : ∀ k, 0 ≤ k → k < C 14 d → Rfld C R (6 * d + k) → Rfld C' R' (6 * d + k) := by
      intro k k0 k1 hf
      obtain ⟨b1, b2, b3, b4, b5, b6, b7⟩ := hf
      have hr := hrows d k d0 d1 k0 k1
      unfold Rfld
      rw [c18, c19, c20, c21, c22, r5, r12, r13, r17, if_neg hr, if_neg hr, if_neg hr, if_neg hr, if_neg hr, if_neg hr, if_neg hr, if_neg hr, if_neg hr]
      refine ⟨b1, b2, b3, b4, b5, b6, ?_⟩
      by_cases z : d = c
      · subst z
        have := (r14c k.toNat (by omega)).1
        rw [show ((k.toNat : Nat) : Int) = k from by omega] at this
        rw [this, sl_cong k.toNat fun i i1 => (hold i (by omega)).1]
        have := (l4 k.toNat (by omega)).1
        rw [show ((k.toNat : Nat) : Int) = k from by omega] at this
        exact this
      · rw [(r14 (6 * d + k) (by omega)).1]; exact b7
    by_cases z : d = c
    · subst z
      have e14 : C' 14 d = C 14 d + 1 := by rw [c14, if_pos rfl]
      have e16 : C' 16 d = C 16 d + (if st = 0 then 1 else 0) := by
        rw [c16]
        by_cases q : st = 0
        · rw [if_pos ⟨rfl, q⟩, if_pos q]
        · rw [if_neg (fun p => q p.2), if_neg q]; omega
      refine ⟨⟨?_, ?_, ?_, ?_, ?_, ?_, ?_, ?_, ?_, ?_, ?_, ?_, ?_⟩, ⟨?_, ?_, ?_, ?_⟩, ?_, ?_⟩
      · rw [s 9 (by omega) (by omega), r 4 (by omega)]; exact a1
      · rw [s 10 (by omega) (by omega), r 7 (by omega)]; exact a2
      · rw [s11, r 8 (by omega)]; exact a3
      · rw [s11]; exact a4
      · rw [s11]; exact a5
      · rw [s12, r 16 (by omega)]; exact a6
      · rw [s 13 (by omega) (by omega), r 18 (by omega)]; exact a7
      · rw [e14, r9, if_pos rfl]
      · omega
      · omega
      · rw [e16, r10c, hns, l2]; omega
      · rw [c17, if_pos rfl, r11c]
      · rw [s11, s12]; exact a13
      · rw [c15, e14, hns]
        by_cases q : st = 0
        · rw [if_neg (fun p => p.2 q), if_pos q, l1]; omega
        · rw [if_pos ⟨rfl, q⟩, if_neg q, l1]; omega
      · rw [e16, e14, hb.1, hns, l2]; omega
      · rw [c17, if_pos rfl, e14, hb.2]
      · intro j j1
        rw [e14] at j1
        rw [hb.1, hb.2, e14]
        refine ⟨?_, (r14c j j1).2⟩
        by_cases q : (j : Int) = C 14 d
        · rw [c22, q, if_pos rfl]
          have hj : j = (C 14 d).toNat := by omega
          unfold sl
          rw [hj, hnew, ns_cong _ fun j j1 => (hold j j1).1]
          by_cases q2 : st = 0
          · rw [if_pos q2, if_pos q2, l2]
          · rw [if_neg q2, if_neg q2, l1]; omega
        · rw [c22, if_neg (by omega), sl_cong j fun i i1 => (hold i (by omega)).1]
          exact (l4 j (by omega)).1
      · intro j j0 j1
        by_cases q : j < C 16 d
        · obtain ⟨m, x', k, q1, q2, q3, q4, q5, q6, q7, q8, q9⟩ := sC j j0 q
          have hx' := (upn_same (C := C) (C' := C) (fun i _ _ => rfl) (fun i i0 i1 => ⟨(h4 i i0 i1).1.2.2.2.1, (h4 i i0 i1).1.2.2.2.2.1⟩) (c := d) (by omega) d1 m).2.2
          rw [q1] at hx'
          have hr := hrows x' k q2 hx' q3 q4
          refine ⟨m, x', k, by rw [hup]; exact q1, q2, q3, ?_, ?_, ?_, ?_, ?_, ?_⟩
          · rw [c14]
            by_cases p : x' = d
            · rw [if_pos p]; rw [p] at q4; omega
            · rw [if_neg p]; exact q4
          · rw [c21, if_neg hr]; exact q5
          · rw [c22, if_neg hr]; exact q6
          · rw [c23, if_neg (by omega), c18, if_neg hr]; exact q7
          · rw [c24, if_neg (by omega), c19, if_neg hr]; exact q8
          · rw [c25, if_neg (by omega), c20, if_neg hr]; exact q9
        · rw [e16] at j1
          have p : st = 0 := by
            rcases hst with p | p
            · exact p
            · rw [if_neg (by omega)] at j1; omega
          rw [if_pos p] at j1
          have ej : j = C 16 d := by omega
          refine ⟨0, d, C 14 d, rfl, d0, n0, by rw [e14]; omega, by rw [c21, if_pos rfl]; exact p, by rw [c22, if_pos rfl, if_pos p]; exact ej.symm, ?_, ?_, ?_⟩
          · rw [c23, if_pos ⟨p, by rw [ej]⟩, c18, if_pos rfl]
          · rw [c24, if_pos ⟨p, by rw [ej]⟩, c19, if_pos rfl]
          · rw [c25, if_pos ⟨p, by rw [ej]⟩, c20, if_pos rfl]
      · intro k k0 k1
        rw [e14] at k1
        by_cases q : k = C 14 d
        · subst q
          unfold Rfld
          rw [c18, c19, c20, c21, c22, r5, r12, r13, r17, if_pos rfl, if_pos rfl, if_pos rfl, if_pos rfl, if_pos rfl, if_pos rfl, if_pos rfl, if_pos rfl, if_pos rfl]
          refine ⟨hx, rfl, hk, hk2, rfl, rfl, ?_⟩
          have := (r14c (C 14 d).toNat (by omega)).1
          rw [show (((C 14 d).toNat : Nat) : Int) = C 14 d from by omega] at this
          rw [this]
          unfold sl
          have hnew' := hnew
          rw [show (((C 14 d).toNat : Nat) : Int) = C 14 d from by omega] at hnew' ⊢
          rw [hnew', ns_cong _ fun j j1 => (hold j j1).1]
          by_cases q2 : st = 0
          · rw [if_pos q2, if_pos q2, l2]
          · rw [if_neg q2, if_neg q2, l1]
        · exact f' k k0 (by omega) (fl k k0 (by omega))
    · have e14 : C' 14 d = C 14 d := by rw [c14, if_neg z]
      have e16 : C' 16 d = C 16 d := by rw [c16, if_neg (fun p => z p.1)]
      have hold2 : ∀ j : Nat, (j : Int) < C 14 d → C' 21 (6 * d + j) = C 21 (6 * d + j) ∧ C' 19 (6 * d + j) = C 19 (6 * d + j) := fun j j1 => by
        have := hrows d j d0 d1 (by omega) j1
        rw [c21, c19, if_neg this, if_neg this]; exact ⟨rfl, rfl⟩
      refine ⟨⟨?_, ?_, ?_, ?_, ?_, ?_, ?_, ?_, ?_, ?_, ?_, ?_, ?_⟩, ⟨?_, ?_, ?_, ?_⟩, ?_, ?_⟩
      · rw [s 9 (by omega) (by omega), r 4 (by omega)]; exact a1
      · rw [s 10 (by omega) (by omega), r 7 (by omega)]; exact a2
      · rw [s11, r 8 (by omega)]; exact a3
      · rw [s11]; exact a4
      · rw [s11]; exact a5
      · rw [s12, r 16 (by omega)]; exact a6
      · rw [s 13 (by omega) (by omega), r 18 (by omega)]; exact a7
      · rw [e14, r9, if_neg z]; exact a8
      · omega
      · omega
      · rw [e16, (r10 d z).1]; exact a11
      · rw [c17, if_neg z, (r10 d z).2]; exact a12
      · rw [s11, s12]; exact a13
      · rw [c15, if_neg (fun p => z p.1), e14, ns_cong _ fun j j1 => (hold2 j (by omega)).1]; exact l1
      · rw [e16, e14, hb.1, ns_cong _ fun j j1 => (hold2 j (by omega)).1]; exact l2
      · rw [c17, if_neg z, e14, hb.2, lb_cong _ _ fun j j1 => hold2 j (by omega)]; exact l3
      · intro j j1
        rw [e14] at j1
        have hr := hrows d j d0 d1 (by omega) j1
        rw [hb.1, hb.2, e14, c22, if_neg hr, (hold2 j j1).1, lp_cong _ j (by omega) fun j j1 => hold2 j (by omega), sl_cong j fun i i1 => (hold2 i (by omega)).1, (r14 (6 * d + j) (by omega)).2]
        exact l4 j j1
      · intro j j0 j1
        rw [e16] at j1
        have hb' := hbd d d0 d1
        have hbc := hbd c c0 c1
        obtain ⟨m, x', k, q1, q2, q3, q4, q5, q6, q7, q8, q9⟩ := sC j j0 j1
        have hx' := (upn_same (C := C) (C' := C) (fun i _ _ => rfl) (fun i i0 i1 => ⟨(h4 i i0 i1).1.2.2.2.1, (h4 i i0 i1).1.2.2.2.2.1⟩) (c := d) (by omega) d1 m).2.2
        rw [q1] at hx'
        have hr := hrows x' k q2 hx' q3 q4
        refine ⟨m, x', k, by rw [hup]; exact q1, q2, q3, ?_, ?_, ?_, ?_, ?_, ?_⟩
        · rw [c14]
          by_cases p : x' = c
          · rw [if_pos p]; rw [p] at q4; omega
          · rw [if_neg p]; exact q4
        · rw [c21, if_neg hr]; exact q5
        · rw [c22, if_neg hr]; exact q6
        · rw [c23, if_neg (by omega), c18, if_neg hr]; exact q7
        · rw [c24, if_neg (by omega), c19, if_neg hr]; exact q8
        · rw [c25, if_neg (by omega), c20, if_neg hr]; exact q9
      · intro k k0 k1
        rw [e14] at k1
        exact f' k k0 k1 (fl k k0 k1)
  · intro d d0 d1
    rw [s8] at d0
    rw [s12, s 13 (by omega) (by omega), r 18 (by omega), c14, c15, c16, if_neg (by omega), if_neg (by omega), if_neg (by omega)]
    exact h5 d d0 d1
  · intro d k d0 d1 k0 k1
    rw [c14] at k0
    rw [c21]
    by_cases z : d = c
    · rw [if_pos z] at k0
      rw [if_neg (by omega)]
      exact h6 d k d0 d1 (by rw [z]; omega) k1
    · rw [if_neg z] at k0
      by_cases q : 0 ≤ k
      · rw [if_neg (by omega)]; exact h6 d k d0 d1 k0 k1
      · exfalso
        by_cases p : d < C 8 0
        · have := (h4 d d0 p).1.2.2.2.2.2.2.2.2.1
          omega
        · have := (h5 d (by omega) d1).2.2.2.1
          omega
