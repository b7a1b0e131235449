/-! a run begins: holders and dominators when a program asks for them (the class) -/
def ShH (C : MM) (c : Nat) : Prop := 0 ≤ C (c + 18) 1 ∧ C (c + 18) 1 ≤ 15 ∧ (jand (C (c + 18) 1) 1 ≠ 0 → HD C c) ∧ (jand (C (c + 18) 1) 2 ≠ 0 → DTf C c (C (c + 22)) (C (c + 23)) (C (c + 24)))
def ShF (C M : MM) (c : Nat) : Prop := M (c + 25) = C (c + 25) ∧ M (c + 26) = C (c + 26) ∧ (∀ i, i ≠ 1 → M (c + 18) i = C (c + 18) i) ∧ jand (M (c + 18) 1) 4 = jand (C (c + 18) 1) 4 ∧ jand (M (c + 18) 1) 8 = jand (C (c + 18) 1) 8
theorem ShF_t {C M N : MM} {c : Nat} (h : ShF C M c) (h' : ShF M N c) : ShF C N c := ⟨by rw [h'.1, h.1], by rw [h'.2.1, h.2.1], fun i hi => by rw [h'.2.2.1 i hi, h.2.2.1 i hi], by rw [h'.2.2.2.1, h.2.2.2.1], by rw [h'.2.2.2.2, h.2.2.2.2]⟩
theorem ShF_r (C : MM) (c : Nat) : ShF C C c := ⟨rfl, rfl, fun _ _ => rfl, rfl, rfl⟩
theorem PW_sh {C M R0 : MM} {c : Nat} (hY : Rty C R0) (hc : 25 < c) (h : SHf C M c) (hw : PW C c) : PW M c := pw_fr hY hw (SHf_ty hc h) (by rw [h c (by omega)]) (by rw [h c (by omega)]) (fun q a b => h q (by omega)) (fun t a b => by rw [h (c + 13) (by omega)]; exact hw.2.2.2.2.2.2.2.2.2.2.2.1 t a b)
theorem DT_sh {C M R0 : MM} {c : Nat} (hY : Rty C R0) (hc : 25 < c) (h : SHf C M c) (hw : PW C c) {f g k : Int → Int} (hd : DTf C c f g k) : DTf M c f g k := (sp_eq hY hw (SHf_ty hc h) (by rw [h c (by omega)]) (by rw [h c (by omega)]) (fun q a b => h q (by omega))).1 _ _ _ hd
theorem nH_ {Q : Int → MM → Prop} {C R0 : MM} {c : Nat} (hY : Rty C R0) (hc : 25 < c) (hw : PW C c) (hs : ShH C c) (hq : ∀ M, SHf C M c → ShF C M c → ShH M c → HD M c → Q 0 M) : w_X8_needHolders (c + 18) c Q C := by
  obtain ⟨k1, k2, k3, k4⟩ := id hs
  refine p_needHolders hY hw (fun z => hq C (fun _ _ => rfl) (ShF_r C c) hs (k3 z)) fun z M hF f0 f1 => ?_
  have hS : SHf C M c := fun k hk => hF.1 k (by omega) (by omega) (by omega) (by omega) (by omega)
  have hd : HD M c := by
    refine ⟨f0, fun t a b => ?_⟩
    rw [hS c (by omega)] at b
    rw [hl_fr hY hw (SHf_ty hc hS) (by rw [hS c (by omega)]) (by rw [hS c (by omega)]) (fun q a b => hS q (by omega)) t]
    exact f1 t a b
  have kb := kb_1 ⟨(C (c + 18) 1).toNat, by omega⟩
  simp only [show (((C (c + 18) 1).toNat : Nat) : Int) = C (c + 18) 1 from by omega] at kb
  refine hq M hS ⟨hF.1 _ (by omega) (by omega) (by omega) (by omega) (by omega), hF.1 _ (by omega) (by omega) (by omega) (by omega) (by omega), hF.2.1, by rw [hF.2.2, kb.2.2.1], by rw [hF.2.2, kb.2.2.2.1]⟩ ?_ hd
  unfold ShH
  rw [hF.2.2, hF.1 (c + 22) (by omega) (by omega) (by omega) (by omega) (by omega), hF.1 (c + 23) (by omega) (by omega) (by omega) (by omega) (by omega), hF.1 (c + 24) (by omega) (by omega) (by omega) (by omega) (by omega), kb.2.1]
  exact ⟨kb.2.2.2.2.1, kb.2.2.2.2.2, fun _ => hd, fun y => DT_sh hY hc hS hw (k4 y)⟩
theorem nD_ {Q : Int → MM → Prop} {C R0 : MM} {c : Nat} (hY : Rty C R0) (hc : 25 < c) (hw : PW C c) (hs : ShH C c) (hd : HD C c) (hq : ∀ M, SHf C M c → ShF C M c → ShH M c → HD M c → DTf M c (M (c + 22)) (M (c + 23)) (M (c + 24)) → Q 0 M) : w_X8_needDominators (c + 18) c Q C := by
  obtain ⟨k1, k2, k3, k4⟩ := id hs
  refine p_needDominators hY hw hc hd (fun z => hq C (fun _ _ => rfl) (ShF_r C c) hs hd (k4 z)) fun z N hF hT => ?_
  have hS : SHf C N c := fun k hk => hF.1 k (by omega) (by omega)
  have kb := kb_2 ⟨(C (c + 18) 1).toNat, by omega⟩
  simp only [show (((C (c + 18) 1).toNat : Nat) : Int) = C (c + 18) 1 from by omega] at kb
  have hd' : HD N c := HD_fr hY hc hw hS ⟨hF.1 _ (by omega) (by omega), hF.1 _ (by omega) (by omega), hF.1 _ (by omega) (by omega)⟩ hd
  have hT' := DT_sh hY hc hS hw hT
  refine hq N hS ⟨hF.1 _ (by omega) (by omega), hF.1 _ (by omega) (by omega), hF.2.1, by rw [hF.2.2, kb.2.2.1], by rw [hF.2.2, kb.2.2.2.1]⟩ ?_ hd' hT'
  unfold ShH
  rw [hF.2.2, kb.2.1]
  exact ⟨kb.2.2.2.2.1, kb.2.2.2.2.2, fun _ => hd', fun _ => hT'⟩
def rn4 (C : MM) (c pc : Nat) : MM := ux_ (ux_ (ux_ (ux_ C 219 2 ((c : Nat) : Int)) 219 1 ((pc : Nat) : Int)) 219 3 0) 219 6 0
theorem rn4_k {C : MM} {c pc k : Nat} (h : k ≠ 219) : rn4 C c pc k = C k := by unfold rn4; rw [ux_g _ _ _ h, ux_g _ _ _ h, ux_g _ _ _ h, ux_g _ _ _ h]
theorem rn4_i {C : MM} {c pc : Nat} {i : Int} (h : i ∉ ([1, 2, 3, 6] : List Int)) : rn4 C c pc 219 i = C 219 i := by
  simp only [List.mem_cons, List.not_mem_nil, or_false] at h
  unfold rn4; rw [ux_i _ _ _ (by omega), ux_i _ _ _ (by omega), ux_i _ _ _ (by omega), ux_i _ _ _ (by omega)]
theorem rn4_v {C : MM} {c pc : Nat} : rn4 C c pc 219 1 = pc ∧ rn4 C c pc 219 2 = c ∧ rn4 C c pc 219 3 = 0 ∧ rn4 C c pc 219 6 = 0 := by
  unfold rn4
  exact ⟨by rw [ux_i _ _ _ (by decide), ux_i _ _ _ (by decide), ux_s], by rw [ux_i _ _ _ (by decide), ux_i _ _ _ (by decide), ux_i _ _ _ (by decide), ux_s], by rw [ux_i _ _ _ (by decide), ux_s], ux_s _ _ _ _⟩
theorem ShH_e {C M R0 : MM} {c : Nat} (hY : Rty C R0) (hw : PW C c) (tl : tyLe C M) (e : ∀ q, c ≤ q → q ≤ c + 32 → M q = C q) (h : ShH C c) : ShH M c := by
  obtain ⟨k1, k2, k3, k4⟩ := h
  have e' : ∀ q, c < q → q ≤ c + 12 → M q = C q := fun q a b => e q (by omega) (by omega)
  have e0 : M c 0 = C c 0 := by rw [e c (by omega) (by omega)]
  have e11 : M c 11 = C c 11 := by rw [e c (by omega) (by omega)]
  unfold ShH
  rw [e (c + 18) (by omega) (by omega), e (c + 22) (by omega) (by omega), e (c + 23) (by omega) (by omega), e (c + 24) (by omega) (by omega)]
  refine ⟨k1, k2, fun y => ?_, fun y => (sp_eq hY hw tl e0 e11 e').1 _ _ _ (k4 y)⟩
  have := k3 y
  unfold HD at this ⊢
  rw [e0, e (c + 19) (by omega) (by omega), e (c + 20) (by omega) (by omega), e (c + 21) (by omega) (by omega)]
  exact ⟨this.1, fun t a b => by rw [hl_fr hY hw tl e0 e11 e' t]; exact this.2 t a b⟩
theorem run_pre {Q : Int → MM → Prop} {C R0 : MM} {c pc : Nat} {st : Int} (hY : Rty C R0) (hpc : isP pc) (hg : isG c) (hw : PW C pc) (hs : ShH C pc) (hU : Us c st C) (hq : ∀ M0, SHf (rn4 C c pc) M0 pc → ShF (rn4 C c pc) M0 pc → ShH M0 pc → (C c 8 = 1 → HD M0 pc) → (C c 9 = 1 → DTf M0 pc (M0 (pc + 22)) (M0 (pc + 23)) (M0 (pc + 24))) → w_X4_run_b50 c pc Q M0) : w_X4_run c pc Q C := by
  unfold isP at hpc
  unfold isG at hg
  have hc : 25 < pc := by omega
  unfold w_X4_run
  intro M1 e1 M2 e2 M3 e3 M4 e4 v5 e5 _
  have e : M4 = rn4 C c pc := by rw [e4, e3, e2, e1]; rfl
  have hY4 : Rty M4 R0 := Rty_C hY (fun k a b => by rw [e]; exact rn4_k (by omega))
  have tl : tyLe C M4 := tyLe_of (by rw [e, rn4_k (by omega)]) (fun k a b => by rw [e]; exact rn4_k (by omega))
  have w4 : PW M4 pc := pw_fr hY hw tl (by rw [e, rn4_k (by omega)]) (by rw [e, rn4_k (by omega)]) (fun q a b => by rw [e]; exact rn4_k (by omega)) (fun t a b => by rw [e, rn4_k (by omega)]; exact hw.2.2.2.2.2.2.2.2.2.2.2.1 t a b)
  have s4 : ShH M4 pc := ShH_e hY hw tl (fun q a b => by rw [e]; exact rn4_k (by omega)) hs
  have c8 : M4 c 8 = C c 8 := by rw [e, rn4_k (by omega)]
  have c9 : M4 c 9 = C c 9 := by rw [e, rn4_k (by omega)]
  obtain ⟨u1, u2, -⟩ := hU
  rw [← e] at hq
  have b35 : ∀ M8, SHf M4 M8 pc → ShF M4 M8 pc → ShH M8 pc → (C c 8 = 1 → HD M8 pc) → w_X4_run_b35 c pc Q M8 := fun M8 f8 g8 s8 d8 => by
    unfold w_X4_run_b35
    intro v1 ev _
    have m9 : M8 c 9 = C c 9 := by rw [f8 c (by omega), c9]
    refine ⟨fun z => hq M8 f8 g8 s8 d8 (fun y => by omega), fun z => ?_⟩
    have k8 : C c 8 = 1 := by omega
    exact nD_ (SHf_Y hc f8 hY4) hc (PW_sh hY4 hc f8 w4) s8 (d8 k8) (fun N fN gN sN dN tN => hq N (SHf_t f8 fN) (ShF_t g8 gN) sN (fun _ => dN) (fun _ => tN))
  refine ⟨fun z => b35 M4 (fun _ _ => rfl) (ShF_r M4 pc) s4 (fun y => by omega), fun z => ?_⟩
  exact nH_ hY4 hc w4 s4 (fun M f g s d => b35 M f g s (fun _ => d))
