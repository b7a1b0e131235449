/-! what was written is read again without a fault -/
/-- what the numbers of the stream are, when they are a picture's -/
def SP (C : MM) (c : Nat) (n : Int) (B : Int → Int) : Prop := nvl B n 0 = C c 0 ∧ (rd B n 2).1 = 0 ∧ (∀ t : Nat, (t : Int) < C c 0 → tO C B n t = C (c + 1) t ∧ tY C B n t = C (c + 2) t ∧ tL C B n t = C (c + 3) t ∧ tF C B n t = C (c + 4) t ∧ (∀ j, tix C B n t ≤ j → j < tix C B n t + 3 → (rd B n (stp B n j)).1 = 0) ∧ ∀ k : Nat, (k : Int) < pcn C c t → (rd B n (stp B n (sj C B n t k))).1 = 0 ∧ nvl B n (sj C B n t k) = nv C c t k) ∧ (rd B n (stp B n (rJ C B n (C c 0)))).1 = 0 ∧ rC C B n (C c 0) = C c 11 ∧ (∀ r : Nat, (r : Int) < C c 11 → (rd B n (stp B n (rJ C B n (C c 0) + 1 + 2 * r))).1 = 0 ∧ (rd B n (stp B n (rJ C B n (C c 0) + 1 + 2 * r + 1))).1 = 0 ∧ rN C B n (C c 0) r = C (c + 11) r ∧ rQ C B n (C c 0) r = C (c + 12) r) ∧ rE C B n (C c 0) = (eB C c).length
set_option maxHeartbeats 1000000 in
theorem sp_ok {C R0 : MM} {c : Nat} {n : Int} {B : Int → Int} (hY : Rty C R0) (hw : PW C c) (hn : n = (eA C c).length) (hB : ∀ i : Nat, i < (eA C c).length → B i = (eA C c).getD i 0) : SP C c n B := by
  have n0 := hw.1
  have r0 := hw.2.2.2.2.2.2.2.1
  have S := fun A x Y (e : nL C c = A ++ x :: Y) => strm (nL_f C c).symm hn hB (nL_r hY hw) A.length A x Y e rfl
  have num : ∀ A x Y, nL C c = A ++ x :: Y → ∀ j, j = A.length → (rd B n (stp B n j)).1 = 0 ∧ nvl B n j = x := fun A x Y e j ej => by
    have q := (S A x Y e).2
    subst ej
    exact ⟨by rw [q], by unfold nvl; rw [q]⟩
  -- the numbers of thing t
  have thing : ∀ t : Nat, (t : Int) < C c 0 → ∃ Z, nL C c = (C c 0 :: nT C c t) ++ (C (c + 1) t :: C (c + 2) t :: C (c + 3) t :: (nmS C c t (pcn C c t).toNat ++ Z)) := fun t ht => by
    obtain ⟨X, e⟩ := nT_at C c t ((C c 0).toNat - (t + 1))
    rw [show t + 1 + ((C c 0).toNat - (t + 1)) = (C c 0).toNat from by omega] at e
    refine ⟨X ++ (C c 11 :: nR C c (C c 11).toNat), ?_⟩
    unfold nL
    rw [e]
    simp only [List.append_assoc, List.cons_append]
  have tixE : ∀ t : Nat, (t : Int) ≤ C c 0 → tix C B n t = 1 + (nT C c t).length := by
    intro t
    induction t with
    | zero => intro _; rfl
    | succ t ih =>
      intro ht
      have i := ih (by omega)
      obtain ⟨Z, e⟩ := thing t (by omega)
      have l0 : (C c 0 :: nT C c t).length = tix C B n t := by rw [i]; simp only [List.length_cons]; omega
      have n1 := num ((C c 0 :: nT C c t) ++ [C (c + 1) t]) (C (c + 2) t) (C (c + 3) t :: (nmS C c t (pcn C c t).toNat ++ Z)) (by rw [e]; simp) (tix C B n t + 1) (by rw [List.length_append, l0]; rfl)
      have n2 := num ((C c 0 :: nT C c t) ++ [C (c + 1) t, C (c + 2) t]) (C (c + 3) t) (nmS C c t (pcn C c t).toNat ++ Z) (by rw [e]; simp) (tix C B n t + 2) (by rw [List.length_append, l0]; rfl)
      show tix C B n t + 3 + (so C (nvl B n (tix C B n t + 1)) (nvl B n (tix C B n t + 2))).toNat = 1 + (nT C c t ++ (C (c + 1) t :: C (c + 2) t :: C (c + 3) t :: nmS C c t (pcn C c t).toNat)).length
      rw [n1.2, n2.2, List.length_append, i]
      simp only [List.length_cons, nmS_len]
      show 1 + (nT C c t).length + 3 + (pcn C c t).toNat = _
      omega
  have T1 : ∀ t : Nat, (t : Int) < C c 0 → tO C B n t = C (c + 1) t ∧ tY C B n t = C (c + 2) t ∧ tL C B n t = C (c + 3) t ∧ (∀ j, tix C B n t ≤ j → j < tix C B n t + 3 → (rd B n (stp B n j)).1 = 0) ∧ ∀ k : Nat, (k : Int) < pcn C c t → (rd B n (stp B n (sj C B n t k))).1 = 0 ∧ nvl B n (sj C B n t k) = nv C c t k := fun t ht => by
    obtain ⟨Z, e⟩ := thing t ht
    have l0 : (C c 0 :: nT C c t).length = tix C B n t := by rw [tixE t (by omega)]; simp only [List.length_cons]; omega
    have m0 := num (C c 0 :: nT C c t) (C (c + 1) t) _ e (tix C B n t) l0.symm
    have m1 := num ((C c 0 :: nT C c t) ++ [C (c + 1) t]) (C (c + 2) t) (C (c + 3) t :: (nmS C c t (pcn C c t).toNat ++ Z)) (by rw [e]; simp) (tix C B n t + 1) (by rw [List.length_append, l0]; rfl)
    have m2 := num ((C c 0 :: nT C c t) ++ [C (c + 1) t, C (c + 2) t]) (C (c + 3) t) (nmS C c t (pcn C c t).toNat ++ Z) (by rw [e]; simp) (tix C B n t + 2) (by rw [List.length_append, l0]; rfl)
    refine ⟨m0.2, m1.2, m2.2, fun j a b => ?_, fun k hk => ?_⟩
    · have : j = tix C B n t ∨ j = tix C B n t + 1 ∨ j = tix C B n t + 2 := by omega
      rcases this with q | q | q <;> rw [q]
      · exact m0.1
      · exact m1.1
      · exact m2.1
    · obtain ⟨X, ek⟩ := nmS_at C c t k ((pcn C c t).toNat - (k + 1))
      rw [show k + 1 + ((pcn C c t).toNat - (k + 1)) = (pcn C c t).toNat from by omega] at ek
      refine num ((C c 0 :: nT C c t) ++ ([C (c + 1) t, C (c + 2) t, C (c + 3) t] ++ nmS C c t k)) (nv C c t k) (X ++ Z) (by rw [e, ek]; simp) _ ?_
      rw [List.length_append, l0, List.length_append, nmS_len]
      show tix C B n t + 3 + k = tix C B n t + (3 + k)
      omega
  have tFE : ∀ t : Nat, (t : Int) ≤ C c 0 → tF C B n t = C (c + 4) t := by
    intro t
    induction t with
    | zero => intro _; exact hw.2.2.1.symm
    | succ t ih =>
      intro ht
      have q := T1 t (by omega)
      have pe := pw_end hY hw (t := t) (by omega) (by omega)
      rw [tF_s, ih (by omega), show (((t + 1 : Nat)) : Int) = (t : Int) + 1 from by omega, pe.2.1]
      show C (c + 4) t + so C (tY C B n t) (tL C B n t) = _
      rw [q.2.1, q.2.2.1]; rfl
  have lT : (C c 0 :: nT C c (C c 0).toNat).length = rJ C B n (C c 0) := by unfold rJ; rw [tixE _ (by omega)]; simp only [List.length_cons]; omega
  have z0 := num [] (C c 0) _ rfl 0 rfl
  have zr := num (C c 0 :: nT C c (C c 0).toNat) (C c 11) (nR C c (C c 11).toNat) rfl _ lT.symm
  have rcE : rC C B n (C c 0) = C c 11 := zr.2
  have roots : ∀ r : Nat, (r : Int) < C c 11 → (rd B n (stp B n (rJ C B n (C c 0) + 1 + 2 * r))).1 = 0 ∧ (rd B n (stp B n (rJ C B n (C c 0) + 1 + 2 * r + 1))).1 = 0 ∧ rN C B n (C c 0) r = C (c + 11) r ∧ rQ C B n (C c 0) r = C (c + 12) r := fun r hr => by
    obtain ⟨X, ex⟩ := nR_at C c r ((C c 11).toNat - (r + 1))
    rw [show r + 1 + ((C c 11).toNat - (r + 1)) = (C c 11).toNat from by omega] at ex
    have m1 := num ((C c 0 :: nT C c (C c 0).toNat) ++ ([C c 11] ++ nR C c r)) (C (c + 11) r) (C (c + 12) r :: X) (by unfold nL; rw [ex]; simp) (rJ C B n (C c 0) + 1 + 2 * r) (by rw [List.length_append, lT, List.length_append, nR_len]; simp only [List.length_cons, List.length_nil]; omega)
    have m2 := num ((C c 0 :: nT C c (C c 0).toNat) ++ ([C c 11] ++ (nR C c r ++ [C (c + 11) r]))) (C (c + 12) r) X (by unfold nL; rw [ex]; simp) (rJ C B n (C c 0) + 1 + 2 * r + 1) (by rw [List.length_append, lT, List.length_append, List.length_append, nR_len]; simp only [List.length_cons, List.length_nil]; omega)
    exact ⟨m1.1, m2.1, m1.2, m2.2⟩
  refine ⟨z0.2, z0.1, fun t ht => ⟨(T1 t ht).1, (T1 t ht).2.1, (T1 t ht).2.2.1, tFE t (by omega), (T1 t ht).2.2.2⟩, zr.1, rcE, roots, ?_⟩
  -- the end of the numbers
  have eE : eB C c = [72, 80] ++ (nL C c).flatMap nb := by
    unfold eB eH nL
    rw [List.flatMap_cons, List.flatMap_append, nT_f, List.flatMap_cons, nR_f]
    simp only [List.append_assoc]
  have fin : ∀ A x, nL C c = A ++ [x] → ∀ j, j = A.length + 1 → stp B n j = (eB C c).length := fun A x e j ej => by
    obtain ⟨q1, q2⟩ := S A x [] e
    rw [ej, stp_s, q2, eE, e, List.flatMap_append, List.length_append, List.length_append]
    show stp B n A.length + ((nb x).length : Int) = _
    rw [q1]
    simp only [List.flatMap_cons, List.flatMap_nil, List.append_nil, List.length_cons, List.length_nil]
    omega
  unfold rE
  rw [rcE]
  rcases List.eq_nil_or_concat (nL C c) with q | ⟨A, x, q⟩
  · exact absurd q (by unfold nL; simp)
  · have q' : nL C c = A ++ [x] := by simpa using q
    refine fin A x q' _ ?_
    have l1 : (nL C c).length = A.length + 1 := by rw [q', List.length_append]; rfl
    have l2 : (nL C c).length = rJ C B n (C c 0) + 1 + 2 * (C c 11).toNat := by
      unfold nL
      rw [← lT]
      simp only [List.length_cons, List.length_append, nR_len]
      omega
    omega
theorem Lb_eq {B : Int → Int} (L : List Int) (h : ∀ i : Nat, i < L.length → B i = L.getD i 0) : Lb B L.length = L := by
  refine List.ext_getElem (Lb_len B L.length) fun i h1 h2 => ?_
  rw [Lb_get, h i h2]
  simp [List.getD_eq_getElem?_getD, List.getElem?_eq_getElem h2]
set_option maxHeartbeats 1000000 in
theorem dc_ok {C R0 : MM} {c : Nat} {n : Int} {B : Int → Int} (hY : Rty C R0) (hw : PW C c) (hv : ∀ t k, 0 ≤ t → t < C c 0 → 0 ≤ k → k < pcn C c t → rl_ (C (c + 9) (C (c + 4) t + k))) (hn : n = (eA C c).length) (hB : ∀ i : Nat, i < (eA C c).length → B i = (eA C c).getD i 0) : (dcF C B n).1 = 0 ∧ SP C c n B := by
  have hSP := sp_ok hY hw hn hB
  refine ⟨?_, hSP⟩
  obtain ⟨s0, s1, st, s3, s4, s5, s6⟩ := hSP
  have n0 := hw.1
  have n4 := hw.2.1
  have r0 := hw.2.2.2.2.2.2.2.1
  have r1 := hw.2.2.2.2.2.2.2.2.1
  have hr := hw.2.2.2.2.2.2.2.2.2.1
  have h16 := hY.2.2.1
  have la : (eA C c).length = (eB C c).length + 4 := by unfold eA; rw [List.length_append]; rfl
  have lb2 : 2 ≤ (eB C c).length := by unfold eB eH; simp only [List.length_append, List.length_cons, List.length_nil]; omega
  have b0 : B 0 = 72 := by have := hB 0 (by omega); rw [← nL_f] at this; exact this
  have b1 : B 1 = 80 := by have := hB 1 (by omega); rw [← nL_f] at this; exact this
  have mk : (mkF B n).1 = 0 := by
    unfold mkF
    rw [cnd_0 (by omega), ff_0 (show okF.1 = 0 from rfl), cnd_0 (fun q => q b0), ff_0 (show okF.1 = 0 from rfl), cnd_0 (by omega), ff_0 (show okF.1 = 0 from rfl), cnd_0 (fun q => q b1)]; rfl
  have upok : ∀ s m, (rd B n s).1 = 0 → 0 ≤ (rd B n s).2.2.1 → (rd B n s).2.2.1 ≤ m → (upf B n s m).1 = 0 := fun s m a b d => by rw [upf_2 a, cnd_0 (by omega)]; rfl
  have tNE : ∀ t : Nat, (t : Int) < C c 0 → tN C B n t = pcn C c t := fun t ht => by unfold tN; rw [(st t ht).2.1, (st t ht).2.2.1]; rfl
  have svE : ∀ t : Nat, (t : Int) < C c 0 → ∀ k : Nat, (k : Int) < pcn C c t → sv C B n t k = C (c + 9) (C (c + 4) t + k) := fun t ht k hk => by
    have q := ((st t ht).2.2.2.2.2 k hk).2
    have pv := (hw.2.2.2.2.2.1 t k (by omega) ht (by omega) hk).2
    unfold sv
    rw [q, (st t ht).2.1]
    unfold nv
    by_cases nk : kA C (C (c + 2) t) k = 5
    · rw [if_pos nk, if_pos nk]; omega
    · rw [if_neg nk, if_neg nk]
      exact uz_zg (hv t k (by omega) ht (by omega) hk)
  -- the head of a thing
  have hd : ∀ t : Nat, (t : Int) < C c 0 → (hdF C B n t).1 = 0 := fun t ht => by
    obtain ⟨x1, x2, x3, x4, x5, x6⟩ := st t ht
    obtain ⟨a1, a2, a3, a4, a5, a6, a7, a8⟩ := hw.2.2.2.1 t (by omega) ht
    have pe := pw_end hY hw (t := t) (by omega) ht
    have vt := a3
    unfold vT at a3
    have y1 : (rd B n (stp B n (tix C B n t))).2.2.1 = C (c + 1) t := x1
    have y2 : (rd B n (stp B n (tix C B n t + 1))).2.2.1 = C (c + 2) t := x2
    have y3 : (rd B n (stp B n (tix C B n t + 2))).2.2.1 = C (c + 3) t := x3
    unfold hdF
    rw [ff_0 (upok _ 399 (x5 _ (by omega) (by omega)) (by omega) (by omega)), cnd_0, ff_0 (show okF.1 = 0 from rfl), ff_0 (upok _ 45 (x5 _ (by omega) (by omega)) (by omega) (by omega)), cnd_0 (fun q => q (by rw [x2]; exact vt)), ff_0 (show okF.1 = 0 from rfl), ff_0 (upok _ _ (x5 _ (by omega) (by omega)) (by omega) ?_), cnd_0 (by rw [x4, tNE t ht]; omega)]
    · rfl
    · rw [x2, y3]
      by_cases q : C (c + 2) t < 20
      · rw [if_pos q]; have := (a4 q).2; omega
      · rw [if_neg q]; omega
    · rintro ⟨u, hu, q⟩
      have e1 := (st u (by omega)).1
      have e8 := (hw.2.2.2.1 u (by omega) (by omega)).2.2.2.2.2.2.2
      rw [x1, e1] at q
      rw [q, a8] at e8
      omega
  have sl : ∀ t : Nat, (t : Int) < C c 0 → ∀ k : Nat, (k : Int) < pcn C c t → (slF C B n (C c 0) t k).1 = 0 := fun t ht k hk => by
    obtain ⟨y1, y2⟩ := (st t ht).2.2.2.2.2 k hk
    have x2 := (st t ht).2.1
    have pv := (hw.2.2.2.2.2.1 t k (by omega) ht (by omega) hk).2
    have y3 : (rd B n (stp B n (sj C B n t k))).2.2.1 = nv C c t k := y2
    unfold slF
    rw [x2]
    by_cases nk : kA C (C (c + 2) t) k = 5
    · rw [if_pos nk]
      unfold nv at y3
      rw [if_pos nk] at y3
      rw [nk] at pv
      unfold pK at pv
      refine upok _ _ y1 ?_ ?_
      · rcases pv with ⟨-, q | ⟨q, -⟩⟩ | ⟨q, -⟩
        · omega
        · omega
        · exact absurd rfl q
      · rcases pv with ⟨-, q | ⟨q, q', -⟩⟩ | ⟨q, -⟩
        · omega
        · omega
        · exact absurd rfl q
    · rw [if_neg nk, ff_0 (nff_0.mpr y1), cnd_0]
      · rfl
      · intro q
        apply q
        rw [y2]
        unfold nv
        rw [if_neg nk, uz_zg (hv t k (by omega) ht (by omega) hk)]
        unfold pK at pv
        rcases pv with ⟨w, -⟩ | ⟨-, w⟩
        · exact absurd w nk
        · exact w
  have sls : ∀ t : Nat, (t : Int) < C c 0 → ∀ k : Nat, (k : Int) ≤ pcn C c t → (slsF C B n (C c 0) t k).1 = 0 := by
    intro t ht k
    induction k with
    | zero => intro _; rfl
    | succ k ih =>
      intro hk
      show (ff (slsF C B n (C c 0) t k) (slF C B n (C c 0) t k)).1 = 0
      rw [ff_0 (ih (by omega))]; exact sl t ht k (by omega)
  have ths : ∀ t : Nat, (t : Int) ≤ C c 0 → (thsF C B n (C c 0) t).1 = 0 := by
    intro t
    induction t with
    | zero => intro _; rfl
    | succ t ih =>
      intro ht
      have pb := pw_bd hY hw (t := t) (by omega) (by omega)
      show (ff (thsF C B n (C c 0) t) (ff (hdF C B n t) (slsF C B n (C c 0) t (tN C B n t).toNat))).1 = 0
      rw [ff_0 (ih (by omega)), ff_0 (hd t (by omega)), tNE t (by omega)]
      exact sls t (by omega) _ (by omega)
  have lk : ∀ t : Nat, (t : Int) < C c 0 → ∀ k : Nat, (k : Int) < pcn C c t → (lkF C B n t k).1 = 0 := fun t ht k hk => by
    unfold lkF
    rw [cnd_0]
    · rfl
    · rintro ⟨nk, q1, q2⟩
      apply q2
      have pv := (hw.2.2.2.2.2.1 t k (by omega) ht (by omega) hk).2
      rw [(st t ht).2.1] at nk ⊢
      rw [svE t ht k hk] at q1 ⊢
      rw [nk] at pv
      unfold pK at pv
      rcases pv with ⟨-, q | ⟨w1, w2, w3⟩⟩ | ⟨q, -⟩
      · exact absurd q q1
      · obtain ⟨V, eV⟩ : ∃ V : Nat, C (c + 9) (C (c + 4) t + k) = V := ⟨(C (c + 9) (C (c + 4) t + k)).toNat, by omega⟩
        rw [eV] at w2 w3 ⊢
        rw [show ((V : Int)).toNat = V from by omega, (st V w2).2.1]; exact w3
      · exact absurd rfl q
  have lks : ∀ t : Nat, (t : Int) < C c 0 → ∀ k : Nat, (k : Int) ≤ pcn C c t → (lksF C B n t k).1 = 0 := by
    intro t ht k
    induction k with
    | zero => intro _; rfl
    | succ k ih =>
      intro hk
      show (ff (lksF C B n t k) (lkF C B n t k)).1 = 0
      rw [ff_0 (ih (by omega))]; exact lk t ht k (by omega)
  have lnk : ∀ t : Nat, (t : Int) ≤ C c 0 → (lnkF C B n t).1 = 0 := by
    intro t
    induction t with
    | zero => intro _; rfl
    | succ t ih =>
      intro ht
      have pb := pw_bd hY hw (t := t) (by omega) (by omega)
      show (ff (lnkF C B n t) (lksF C B n t (tN C B n t).toNat)).1 = 0
      rw [ff_0 (ih (by omega)), tNE t (by omega)]
      exact lks t (by omega) _ (by omega)
  have rt : ∀ r : Nat, (r : Int) < C c 11 → (rtF C B n (C c 0) r).1 = 0 := fun r hr' => by
    obtain ⟨y1, y2, y3, y4⟩ := s5 r hr'
    obtain ⟨a1, a2, a3, a4⟩ := hr r (by omega) hr'
    have z3 : (rd B n (stp B n (rJ C B n (C c 0) + 1 + 2 * r))).2.2.1 = C (c + 11) r := y3
    have z4 : (rd B n (stp B n (rJ C B n (C c 0) + 1 + 2 * r + 1))).2.2.1 = C (c + 12) r := y4
    unfold rtF
    rw [ff_0 (upok _ 107 y1 (by omega) (by omega)), cnd_0, ff_0 (show okF.1 = 0 from rfl)]
    · exact upok _ _ y2 (by omega) (by omega)
    · rw [y3]
      cases r with
      | zero => show ¬ C (c + 11) ((0 : Nat) : Int) ≤ -1; omega
      | succ r' =>
        have e3 := (s5 r' (by omega)).2.2.1
        have up := rn_up hw (r := (r' : Int)) (r' := ((r' + 1 : Nat) : Int)) (by omega) (by omega) hr'
        show ¬ C (c + 11) ((r' + 1 : Nat) : Int) ≤ rN C B n (C c 0) r'
        rw [e3]; omega
  have rts : ∀ r : Nat, (r : Int) ≤ C c 11 → (rtsF C B n (C c 0) r).1 = 0 := by
    intro r
    induction r with
    | zero => intro _; rfl
    | succ r ih =>
      intro hr'
      show (ff (rtsF C B n (C c 0) r) (rtF C B n (C c 0) r)).1 = 0
      rw [ff_0 (ih (by omega))]; exact rt r (by omega)
  have bB : ∀ i : Nat, i < (eB C c).length → B i = (eB C c).getD i 0 := fun i hi => by
    rw [hB i (by omega)]
    unfold eA
    rw [gd_lt _ _ _ _ hi]
    simp [List.getD_eq_getElem?_getD, List.getElem?_eq_getElem hi]
  have ckE : ckB B (eB C c).length = ckL (eB C c) := by unfold ckB; rw [show (((eB C c).length : Int)).toNat = (eB C c).length from by omega, Lb_eq _ bB]
  have ck : (chkF B n (rE C B n (C c 0))).1 = 0 := by
    rw [s6]
    unfold chkF
    rw [cnd_0 (by omega), ff_0 (show okF.1 = 0 from rfl), cnd_0, ff_0 (show okF.1 = 0 from rfl), cnd_0 (by omega)]
    · rfl
    · rintro ⟨k, k0, k4, q⟩
      apply q
      obtain ⟨K, rfl⟩ : ∃ K : Nat, k = K := ⟨k.toNat, by omega⟩
      have b := hB ((eB C c).length + K) (by omega)
      unfold eA at b
      rw [gd_app] at b
      rw [show ((eB C c).length : Int) + (K : Int) = (((eB C c).length + K : Nat) : Int) from by omega, b, ckE]
      have : K = 0 ∨ K = 1 ∨ K = 2 ∨ K = 3 := by omega
      rcases this with rfl | rfl | rfl | rfl <;> rfl
  have wl : (wlF C B n (C c 0)).1 = 0 := by
    have eW : wkW C B n (C c 0) = (C c 0, 0) := by
      unfold wkW
      rw [s4, ← wk_all hY hw]
      rw [wR_c (f := rtS C B n (C c 0)) (g := C (c + 12)) (C c 11).toNat (fun r hr' => by unfold rtS; rw [show ((r : Int)).toNat = r from by omega]; exact (s5 r (by omega)).2.2.2)]
      refine wTh_c _ fun t ht => ⟨by unfold ctS; rw [show ((t : Int)).toNat = t from by omega, tNE t (by omega)], fun k hk => ?_⟩
      have pb := pw_bd hY hw (t := t) (by omega) (by omega)
      have hk' : (k : Int) < pcn C c t := by omega
      have pvl := (hw.2.2.2.2.2.1 t k (by omega) (by omega) (by omega) hk').1
      unfold lvS lv
      rw [show ((t : Int)).toNat = t from by omega, show ((k : Int)).toNat = k from by omega, svE t (by omega) k hk', (st t (by omega)).2.1, pvl]
      unfold lf
      by_cases z : kA C (C (c + 2) t) k = 5
      · rw [if_pos z, if_pos z, if_neg (by decide)]
      · rw [if_neg z, if_neg z, if_pos rfl]
    unfold wlF
    rw [eW, cnd_0 (fun q => by rcases q with q | q; exact q rfl; exact absurd q (by show ¬ C c 0 < C c 0; omega))]; rfl
  have s7 : (rd B n 2).2.2.1 = C c 0 := s0
  have s8 : (rd B n (stp B n (rJ C B n (C c 0)))).2.2.1 = C c 11 := s4
  unfold dcF
  rw [ff_0 mk, s0, ff_0 (upok 2 400 s1 (by omega) (by omega)), ff_0 (ths _ (by omega)), ff_0 (lnk _ (by omega)), ff_0 (upok _ 108 s3 (by omega) (by omega)), s4, ff_0 (rts _ (by omega)), ff_0 ck]
  exact wl
