/-! ask, on both sides -/
theorem RD_run {C R M0 : MM} {cs : Int → Nat} {p : Int} {c : Nat} (hB : RB C R) (hJ : Rjn C R) (hcs : pcs C R cs) (p0 : 0 ≤ p) (p4 : p < 4) (fS : SHf (rn4 C c (cs p)) M0 (cs p)) (fF : ShF (rn4 C c (cs p)) M0 (cs p)) (hS : ShH M0 (cs p)) : RD M0 R ∧ Rpic M0 R (cs p) p := by
  have hY := hB.1.2.2.2.2
  have ip := hcs.2.2.2.1 p p0 (by omega)
  have ip' := ip
  unfold isP at ip'
  have hc : 25 < cs p := by omega
  have hY4 : Rty (rn4 C c (cs p)) R := Rty_C hY (fun k a b => rn4_k (by omega))
  have hP := (hcs.1 p p0 p4).2
  have hP4 : Rpic (rn4 C c (cs p)) R (cs p) p := pic_fr hY hP (tyLe_of (by rw [rn4_k (by omega)]) (fun k a b => rn4_k (by omega))) (fun q a b => rn4_k (by omega)) (fun _ _ _ _ _ => rfl)
  have hY0 := SHf_Y hc fS hY4
  have e0 : M0 (cs p) 0 = rn4 C c (cs p) (cs p) 0 := by rw [fS (cs p) (by omega)]
  have hP0 : Rpic M0 R (cs p) p := by
    refine pic_sh hY4 hc fS hP4 ?_
    obtain ⟨k1, k2, k3, k4, k5, k6⟩ := hP4.2.2.2
    obtain ⟨f1, f2, f3, f4, f5⟩ := fF
    refine ⟨hS.1, hS.2.1, hS.2.2.1, fun y t a b => ?_, fun y => ?_, fun y => ?_⟩
    · exact DTf_u (hS.2.2.2 y) (DT_sh hY4 hc fS hP4.1 hP4.2.2.1.2.2.2.2.2.1) a b
    · rw [f4] at y
      rw [f3 9 (by decide), f1, e0]; exact k5 y
    · rw [f5] at y
      rw [f3 11 (by decide), f2, e0]; exact k6 y
  obtain ⟨M1, eM⟩ : ∃ M1 : MM, M1 = fun k => if k = 219 then C 219 else M0 k := ⟨_, rfl⟩
  have m1 : ∀ k, k ≠ 219 → M1 k = M0 k := fun k hk => by rw [eM]; simp only []; rw [if_neg hk]
  have m2 : M1 219 = C 219 := by rw [eM]; exact if_pos rfl
  have hS1 : SHf C M1 (cs p) := fun k hk => by
    by_cases y : k = 219
    · rw [y]; exact m2
    · rw [m1 k y, fS k hk, rn4_k y]
  have hP1 : Rpic M1 R (cs p) p := pic_fr hY0 hP0 (tyLe_of (by rw [m1 8 (by omega)]) (fun k a b => m1 k (by omega))) (fun q a b => m1 q (by omega)) (fun _ _ _ _ _ => rfl)
  obtain ⟨y1, -⟩ := RD_sh hB hJ hcs p0 p4 hS1 hP1
  exact ⟨RD_lg y1 (fun k hk => (m1 k (by omega)).symm) (fun _ _ _ => rfl) (fun _ _ => rfl), hP0⟩
def FYc (C C' : MM) : Prop := (∀ k, k ∉ [0, 1, 4, 5, 6] → k < 46 ∨ 234 < k → C' k = C k) ∧ (∀ i, i ∉ ([16, 17] : List Int) → C' 0 i = C 0 i) ∧ ∀ i, i ∉ ([4, 8, 9, 10, 11] : List Int) → C' 1 i = C 1 i
def FYr (b : Int) (R R' : MM) : Prop := (∀ k, k ∉ [0, 60, 62] → k < 66 ∨ 77 < k → R' k = R k) ∧ (∀ k, 66 ≤ k → k ≤ 70 → ∀ i, (i < b ∨ b + 120 ≤ i) → R' k i = R k i) ∧ ∀ i, i ∉ ([0, 73, 78, 79, 80, 81, 82, 83, 84, 85, 91, 92, 93, 94, 95, 97, 98, 99, 100, 101, 102, 103, 110] : List Int) → R' 0 i = R 0 i
theorem rd_fr {c : Nat} {C M2 C0 C1 : MM} (hF : Fstq c M2 C0) (hP : Fpc c C0 C1) (e2 : ∀ k, k ≠ 219 → M2 k = C k) : (∀ k, k ∉ [1, 4, 5, 6, 219] → (k < c ∨ c + 7 < k) → C1 k = C k) ∧ (∀ i, i ∉ ([4, 8, 9, 10, 11] : List Int) → C1 1 i = C 1 i) ∧ (c + 7 < 219 ∨ 219 < c → C1 219 = M2 219) := by
  have hc := hP.1
  refine ⟨fun k hk hr => ?_, fun i hi => ?_, fun h => ?_⟩
  · simp only [List.mem_cons, List.not_mem_nil, or_false] at hk
    rw [hP.2.1 k (by omega) (by omega), hF.1 k (by omega) (by omega) (by omega) (by omega) (by omega), e2 k (by omega)]
  · rw [hP.2.2.1 i (fun y => hi (by simp only [List.mem_cons, List.not_mem_nil, or_false] at y ⊢; omega)), hF.2.1 i hi, e2 1 (by omega)]
  · rw [hP.2.1 219 (by omega) (by omega), hF.1 219 (by omega) (by omega) (by omega) (by omega) (by omega)]
theorem RD_rd {C R C1 : MM} (h : RD C R) (f1 : ∀ k, 7 ≤ k → k ≤ 210 → C1 k = C k) (f2 : C1 2 = C 2) (f3 : C1 3 = C 3) (f0 : C1 0 5 = C 0 5) (f11 : C1 1 1 = C 1 1) : RD C1 R := by
  have hA := h.1.1
  refine RD_tp h ?_ hA.2.1 hA.2.2.1 f1 f0 (fun _ _ _ => rfl) (fun _ _ => rfl)
  have t := hA.1
  unfold Rtape at t ⊢
  rw [f11, f2, f3]
  exact t
theorem TX_of {C R C0 R4 : MM} {E : Nat → Int} {L : Nat} (h : RD C R) (hK : Kd R) (hT : TKS C0 E L) (c1 : C0 1 1 = C 1 1) (c2 : C0 2 = C 2) (c7 : C0 7 = C 7) (r1 : R4 1 = R 1) (r3 : R4 3 = R 3) (r03 : R4 0 3 = R 0 3) : TX C0 R4 E L := by
  have hA := h.1.1
  obtain ⟨t1, t2, t3, t4, -⟩ := hA.1
  refine ⟨hT, by rw [c1, r03]; exact t1, by rw [c1]; exact t3, fun i a b => by rw [c2, r1]; exact t4 i a (by rw [← c1]; exact b), ?_, ?_⟩
  · have := hA.2.2.2.1
    unfold Rkey at this ⊢
    rw [c7, r3]; exact this
  · unfold Kd at hK ⊢
    rw [r3]; exact hK
theorem okT_D {C R M : MM} (h : RD C R) (c1 : M 1 1 = C 1 1) (c2 : M 2 = C 2) : okT M := by
  obtain ⟨t1, t2, t3, t4, -⟩ := h.1.1.1
  refine ⟨by omega, by omega, fun i a b => ?_⟩
  rw [c2, t4 i a (by omega)]
  exact ⟨Int.emod_nonneg _ (by decide), by have := Int.emod_lt_of_pos (R 1 i) (show (0 : Int) < 256 by decide); omega⟩
theorem Fpr_rf (b : Int) (R : MM) : Fpr b R R := ⟨fun _ _ _ => rfl, fun _ _ _ _ _ => rfl, fun _ _ => rfl⟩
