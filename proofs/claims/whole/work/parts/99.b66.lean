/-! what was written is read again: pictures -/
theorem gd_app {α : Type} (d : α) (A X : List α) (i : Nat) : (A ++ X).getD (A.length + i) d = X.getD i d := by
  induction A with
  | nil => simp
  | cons a A ih => rw [List.cons_append, List.length_cons, show A.length + 1 + i = (A.length + i) + 1 from by omega]; exact ih
theorem gd_lt {α : Type} (d : α) (A X : List α) (i : Nat) (h : i < A.length) : (A ++ X).getD i d = A[i] := by
  induction A generalizing i with
  | nil => exact absurd h (by simp)
  | cons a A ih =>
    cases i with
    | zero => rfl
    | succ i => exact ih i (by simpa using h)
theorem strm {B : Int → Int} {n : Int} {W L rest : List Int} (hW : W = [72, 80] ++ (L.flatMap nb ++ rest)) (hn : n = W.length) (hB : ∀ i : Nat, i < W.length → B i = W.getD i 0) (hL : ∀ x ∈ L, rl_ x) (j : Nat) : ∀ A x Y, L = A ++ x :: Y → A.length = j → stp B n j = 2 + ((A.flatMap nb).length : Int) ∧ rd B n (stp B n j) = (0, -1, x, stp B n j + (nb x).length) := by
  have core : ∀ A x Y, L = A ++ x :: Y → ∀ s, s = 2 + ((A.flatMap nb).length : Int) → rd B n s = (0, -1, x, s + (nb x).length) := fun A x Y e s es => by
    have eW : W = ([72, 80] ++ A.flatMap nb) ++ (nb x ++ (Y.flatMap nb ++ rest)) := by
      rw [hW, e, List.flatMap_append, List.flatMap_cons]
      simp only [List.append_assoc]
    have ll : (([72, 80] : List Int) ++ A.flatMap nb).length = 2 + (A.flatMap nb).length := by rw [List.length_append]; rfl
    have lW : W.length = (2 + (A.flatMap nb).length) + ((nb x).length + (Y.flatMap nb ++ rest).length) := by rw [eW, List.length_append, ll, List.length_append]
    refine rd_nb (hL x (by rw [e]; simp)) (fun i h => ?_) (by omega)
    have := hB (2 + (A.flatMap nb).length + i) (by omega)
    rw [eW, ← ll, gd_app, gd_lt _ _ _ _ h, ll] at this
    rw [es, ← this]
    congr 1
  induction j with
  | zero =>
    intro A x Y e h
    have : A = [] := List.eq_nil_of_length_eq_zero h
    subst this
    exact ⟨rfl, core [] x Y e _ rfl⟩
  | succ j ih =>
    intro A x Y e h
    rcases List.eq_nil_or_concat A with q | ⟨A', y, q⟩
    · rw [q] at h; exact absurd h (by simp)
    · have q' : A = A' ++ [y] := by simpa using q
      subst q'
      rw [List.length_append] at h
      simp only [List.length_cons, List.length_nil] at h
      have e' : L = A' ++ y :: (x :: Y) := by rw [e, List.append_assoc]; rfl
      obtain ⟨i1, i2⟩ := ih A' y (x :: Y) e' (by omega)
      have s : stp B n (j + 1) = 2 + (((A' ++ [y]).flatMap nb).length : Int) := by
        rw [stp_s, i2, List.flatMap_append, List.length_append]
        simp only [List.flatMap_cons, List.flatMap_nil, List.append_nil]
        show stp B n j + _ = _
        rw [i1]; omega
      exact ⟨s, core _ x Y e _ s⟩
def nmS (C : MM) (c : Nat) (t : Int) : Nat → List Int
  | 0 => []
  | k + 1 => nmS C c t k ++ [nv C c t k]
def nT (C : MM) (c : Nat) : Nat → List Int
  | 0 => []
  | t + 1 => nT C c t ++ (C (c + 1) t :: C (c + 2) t :: C (c + 3) t :: nmS C c t (pcn C c t).toNat)
def nR (C : MM) (c : Nat) : Nat → List Int
  | 0 => []
  | r + 1 => nR C c r ++ [C (c + 11) r, C (c + 12) r]
def nL (C : MM) (c : Nat) : List Int := C c 0 :: (nT C c (C c 0).toNat ++ (C c 11 :: nR C c (C c 11).toNat))
theorem nmS_f (C : MM) (c : Nat) (t : Int) (k : Nat) : (nmS C c t k).flatMap nb = eS C c t k := by
  induction k with
  | zero => rfl
  | succ k ih => show (nmS C c t k ++ [nv C c t k]).flatMap nb = eS C c t k ++ nb (nv C c t k); rw [List.flatMap_append, ih]; simp
theorem nT_f (C : MM) (c : Nat) (t : Nat) : (nT C c t).flatMap nb = eT C c t := by
  induction t with
  | zero => rfl
  | succ t ih =>
    show (nT C c t ++ (C (c + 1) t :: C (c + 2) t :: C (c + 3) t :: nmS C c t (pcn C c t).toNat)).flatMap nb = _
    rw [eT_s, List.flatMap_append, ih, List.flatMap_cons, List.flatMap_cons, List.flatMap_cons, nmS_f]
theorem nR_f (C : MM) (c : Nat) (r : Nat) : (nR C c r).flatMap nb = eR C c r := by
  induction r with
  | zero => rfl
  | succ r ih => show (nR C c r ++ [C (c + 11) r, C (c + 12) r]).flatMap nb = _; rw [eR_s, List.flatMap_append, ih]; simp
theorem nL_f (C : MM) (c : Nat) : [72, 80] ++ ((nL C c).flatMap nb ++ ck4 (ckL (eB C c))) = eA C c := by
  unfold nL eA eB eH
  rw [List.flatMap_cons, List.flatMap_append, nT_f, List.flatMap_cons, nR_f]
  simp only [List.append_assoc]
theorem nmS_len (C : MM) (c : Nat) (t : Int) (k : Nat) : (nmS C c t k).length = k := by
  induction k with
  | zero => rfl
  | succ k ih => show (nmS C c t k ++ [nv C c t k]).length = _; rw [List.length_append, ih]; rfl
theorem nR_len (C : MM) (c : Nat) (r : Nat) : (nR C c r).length = 2 * r := by
  induction r with
  | zero => rfl
  | succ r ih => show (nR C c r ++ [C (c + 11) r, C (c + 12) r]).length = _; rw [List.length_append, ih]; simp only [List.length_cons, List.length_nil]; omega
theorem nmS_at (C : MM) (c : Nat) (t : Int) (k d : Nat) : ∃ X, nmS C c t (k + 1 + d) = nmS C c t k ++ nv C c t k :: X := by
  induction d with
  | zero => exact ⟨[], rfl⟩
  | succ d ih =>
    obtain ⟨X, e⟩ := ih
    exact ⟨X ++ [nv C c t (k + 1 + d : Nat)], by show nmS C c t (k + 1 + d) ++ [nv C c t (k + 1 + d : Nat)] = _; rw [e, List.append_assoc]; rfl⟩
theorem nT_at (C : MM) (c : Nat) (t d : Nat) : ∃ X, nT C c (t + 1 + d) = nT C c t ++ (C (c + 1) t :: C (c + 2) t :: C (c + 3) t :: (nmS C c t (pcn C c t).toNat ++ X)) := by
  induction d with
  | zero => exact ⟨[], by rw [List.append_nil]; rfl⟩
  | succ d ih =>
    obtain ⟨X, e⟩ := ih
    refine ⟨X ++ (C (c + 1) (t + 1 + d : Nat) :: C (c + 2) (t + 1 + d : Nat) :: C (c + 3) (t + 1 + d : Nat) :: nmS C c (t + 1 + d : Nat) (pcn C c (t + 1 + d : Nat)).toNat), ?_⟩
    show nT C c (t + 1 + d) ++ _ = _
    rw [e]
    simp only [List.append_assoc, List.cons_append]
    rfl
theorem nR_at (C : MM) (c : Nat) (r d : Nat) : ∃ X, nR C c (r + 1 + d) = nR C c r ++ (C (c + 11) r :: C (c + 12) r :: X) := by
  induction d with
  | zero => exact ⟨[], rfl⟩
  | succ d ih =>
    obtain ⟨X, e⟩ := ih
    exact ⟨X ++ [C (c + 11) (r + 1 + d : Nat), C (c + 12) (r + 1 + d : Nat)], by show nR C c (r + 1 + d) ++ _ = _; rw [e, List.append_assoc]; rfl⟩
/-- all numbers that are written are in bounds -/
theorem nL_r {C R0 : MM} {c : Nat} (hY : Rty C R0) (hw : PW C c) : ∀ x ∈ nL C c, rl_ x := by
  have n0 := hw.1
  have n4 := hw.2.1
  have r0 := hw.2.2.2.2.2.2.2.1
  have r1 := hw.2.2.2.2.2.2.2.2.1
  have hr := hw.2.2.2.2.2.2.2.2.2.1
  have h16 := hY.2.2.1
  have sS : ∀ t : Nat, (t : Int) < C c 0 → ∀ k : Nat, (k : Int) ≤ pcn C c t → ∀ x ∈ nmS C c t k, rl_ x := by
    intro t ht k
    induction k with
    | zero => intro _ x hx; exact absurd hx (by simp [nmS])
    | succ k ih =>
      intro hk x hx
      rcases List.mem_append.mp (show x ∈ nmS C c t k ++ [nv C c t k] from hx) with q | q
      · exact ih (by omega) x q
      · have : x = nv C c t k := by simpa using q
        rw [this]; exact nv_rl hw (by omega) ht (by omega) (by omega)
  have sT : ∀ t : Nat, (t : Int) ≤ C c 0 → ∀ x ∈ nT C c t, rl_ x := by
    intro t
    induction t with
    | zero => intro _ x hx; exact absurd hx (by simp [nT])
    | succ t ih =>
      intro ht x hx
      rcases List.mem_append.mp (show x ∈ nT C c t ++ (C (c + 1) t :: C (c + 2) t :: C (c + 3) t :: nmS C c t (pcn C c t).toNat) from hx) with q | q
      · exact ih (by omega) x q
      · obtain ⟨a1, a2, a3, a4, a5, a6, -⟩ := hw.2.2.2.1 t (by omega) (by omega)
        have pb := pw_bd hY hw (t := t) (by omega) (by omega)
        unfold vT at a3
        rcases List.mem_cons.mp q with q | q
        · rw [q]; unfold rl_; omega
        · rcases List.mem_cons.mp q with q | q
          · rw [q]; unfold rl_; omega
          · rcases List.mem_cons.mp q with q | q
            · rw [q]; unfold rl_; omega
            · exact sS t (by omega) _ (by omega) x q
  have sR : ∀ r : Nat, (r : Int) ≤ C c 11 → ∀ x ∈ nR C c r, rl_ x := by
    intro r
    induction r with
    | zero => intro _ x hx; exact absurd hx (by simp [nR])
    | succ r ih =>
      intro ht x hx
      rcases List.mem_append.mp (show x ∈ nR C c r ++ [C (c + 11) r, C (c + 12) r] from hx) with q | q
      · exact ih (by omega) x q
      · have := hr r (by omega) (by omega)
        have q' : x = C (c + 11) r ∨ x = C (c + 12) r := by simpa using q
        rcases q' with q' | q' <;> rw [q'] <;> unfold rl_ <;> omega
  intro x hx
  rcases List.mem_cons.mp hx with q | q
  · rw [q]; unfold rl_; omega
  · rcases List.mem_append.mp q with q | q
    · exact sT _ (by omega) x q
    · rcases List.mem_cons.mp q with q | q
      · rw [q]; unfold rl_; omega
      · exact sR _ (by omega) x q
