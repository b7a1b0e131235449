def l_z_X9_isDigit : List Cond := []
def w_z_X9_isDigit : List Cond := .code yX9_isDigit cX9_isDigit 1 (some .boolean) :: (l_z_X9_isDigit)
set_option maxHeartbeats 4000000 in
set_option maxRecDepth 100000 in
theorem z_X9_isDigit (l : Launch) (dC : Nat → ClassId) (dI : Nat → Nat → Nat) (sz : Nat) (Va0 : Int32)   : Met l yX9_isDigit w_z_X9_isDigit ({ frames := 0, cells := 0, slots := 0, locals := 0 }) (va_Pc [.int Va0] (fun U => U.heap.size = sz ∧ Wd dC dI [] (fun _ => True) [] U)) (va_Qi (fun (r : Int32) (u : Unit) => (Va0 < 48 ∧ r = 0) ∨ (¬ Va0 < 48 ∧ 57 < Va0 ∧ r = 0) ∨ (¬ Va0 < 48 ∧ ¬ 57 < Va0 ∧ r = 1)) (fun (u : Unit) t => Wd dC dI [] (va_A [] sz) [] t) (va_A [] sz))  0 0 (va_A [] sz) := by
  refine Met.ofW (cc := cX9_isDigit) (maxL := 1) (ret := (some .boolean)) (by decide) rfl ?_
  intro p e s m args below meth c s₁ B hml hv
  obtain ⟨rfl, hsz, hP, hK, hD0⟩ := hv
  have hx := B.exec
  have hb := B.bytes
  have hr := B.returns
  have hts := atoms_spec (ws := w_z_X9_isDigit) B.pre
  have hown : s.vm.findClass RX9 = some m.cls := findClass_of_methodNamed B.named
  have hlocks := B.notSynchronized
  subst hsz
  have hD := hD0.self (sz := s.heap.size)
  generalize hAe : va_A [] s.heap.size = A at hD ⊢
  have hA : ∀ q : Nat, s.heap.size ≤ q → A q := fun q h => by rw [← hAe]; exact Or.inr h
  have hS : va_S A s.heap s.heap [] := va_S.rf
  have hl := lv_entry ([.int Va0]) (n := 1) (Nat.le_of_ble_eq_true rfl)
  rw [lg_entry_eq]
  generalize (lg_sl ([.int Va0]) ++ List.replicate (1 - (lg_sl ([.int Va0])).length) Slot.unset).toArray = ls at hl ⊢
  have hl : lv_has ls 1 [(0, .int Va0)] := hl
  refine lv_iload_n hx hb dX9_isDigit_0 rfl (lv_at hl 0 rfl) ?_
  refine lv_bipush (v := 48) hx hb dX9_isDigit_1 (by decide) ?_
  refine lv_icmp_lt (tgt := 16) hx hb dX9_isDigit_3 (by decide) (fun c101 => ?_) (fun c101 => ?_)
  · skip
    refine lv_iconst (v := 0) hx hb dX9_isDigit_16 (by decide) ?_
    have hP9 := hP.sub (ws' := []) [] rfl
    have hD9 := hD.sub (ws' := []) [] (by decide) rfl
    have hK9 := hK.sub (tys' := []) [] rfl
    exact W.zret (v := 0) hx hb hr rfl (fun t ht hW => ⟨⟨0, (), rfl, (Or.inl ⟨c101, rfl⟩), by rw [ht]; exact hP9, va_K.moved hW.alike hK9, hD9⟩, hS.F ht⟩) hS.2.2 dX9_isDigit_17
  · skip
    refine lv_iload_n hx hb dX9_isDigit_6 rfl (lv_at hl 0 rfl) ?_
    refine lv_bipush (v := 57) hx hb dX9_isDigit_7 (by decide) ?_
    refine lv_icmp_gt (tgt := 16) hx hb dX9_isDigit_9 (by decide) (fun c102 => ?_) (fun c102 => ?_)
    · skip
      refine lv_iconst (v := 0) hx hb dX9_isDigit_16 (by decide) ?_
      have hP9 := hP.sub (ws' := []) [] rfl
      have hD9 := hD.sub (ws' := []) [] (by decide) rfl
      have hK9 := hK.sub (tys' := []) [] rfl
      exact W.zret (v := 0) hx hb hr rfl (fun t ht hW => ⟨⟨0, (), rfl, (Or.inr (Or.inl ⟨c101, c102, rfl⟩)), by rw [ht]; exact hP9, va_K.moved hW.alike hK9, hD9⟩, hS.F ht⟩) hS.2.2 dX9_isDigit_17
    · skip
      refine lv_iconst (v := 1) hx hb dX9_isDigit_12 (by decide) ?_
      refine lv_goto (tgt := 17) hx hb dX9_isDigit_13 (by decide) ?_
      have hP9 := hP.sub (ws' := []) [] rfl
      have hD9 := hD.sub (ws' := []) [] (by decide) rfl
      have hK9 := hK.sub (tys' := []) [] rfl
      exact W.zret (v := 1) hx hb hr rfl (fun t ht hW => ⟨⟨1, (), rfl, (Or.inr (Or.inr (⟨c101, c102, rfl⟩))), by rw [ht]; exact hP9, va_K.moved hW.alike hK9, hD9⟩, hS.F ht⟩) hS.2.2 dX9_isDigit_17

def l_z_X9_symbolOf : List Cond := [.methodLink RX9 65 yX9_isDigit, .static yX9_isDigit, .initialized RX9, .code yX9_isDigit cX9_isDigit 1 (some .boolean)]
def w_z_X9_symbolOf : List Cond := .code yX9_symbolOf cX9_symbolOf 1 (some .int) :: (l_z_X9_symbolOf)
theorem g_z_X9_symbolOf_z_X9_isDigit_65 : GoodIn w_z_X9_symbolOf (wsS RX9 65 yX9_isDigit w_z_X9_isDigit) := goodIn_app (goodIn_r (([.methodLink RX9 65 yX9_isDigit, .static yX9_isDigit, .initialized RX9] : List Cond)) [1, 2, 3] rfl (by decide +kernel)) (goodIn_r (.code yX9_isDigit cX9_isDigit 1 (some .boolean) :: l_z_X9_isDigit) [4] rfl (by decide +kernel))
set_option maxHeartbeats 4000000 in
set_option maxRecDepth 100000 in
theorem z_X9_symbolOf (l : Launch) (dC : Nat → ClassId) (dI : Nat → Nat → Nat) (sz : Nat) (Va0 : Int32)   : Met l yX9_symbolOf w_z_X9_symbolOf ({ frames := 1, cells := 0, slots := 0, locals := 20 }) (va_Pc [.int Va0] (fun U => U.heap.size = sz ∧ Wd dC dI [] (fun _ => True) [] U)) (va_Qi (fun (r : Int32) (u : Unit) => (Va0 < 65 ∧ Va0 < 97 ∧ Va0 < 48 ∧ r = 0) ∨ (Va0 < 65 ∧ Va0 < 97 ∧ ¬ Va0 < 48 ∧ 57 < Va0 ∧ r = 0) ∨ (Va0 < 65 ∧ Va0 < 97 ∧ ¬ Va0 < 48 ∧ ¬ 57 < Va0 ∧ r = ((Va0 - 48) + 53)) ∨ (¬ Va0 < 65 ∧ 90 < Va0 ∧ Va0 < 97 ∧ ¬ Va0 < 48 ∧ 57 < Va0 ∧ r = 0) ∨ (¬ Va0 < 65 ∧ 90 < Va0 ∧ ¬ Va0 < 97 ∧ 122 < Va0 ∧ ¬ Va0 < 48 ∧ 57 < Va0 ∧ r = 0) ∨ (¬ Va0 < 65 ∧ 90 < Va0 ∧ ¬ Va0 < 97 ∧ ¬ 122 < Va0 ∧ r = ((Va0 - 97) + 27)) ∨ (¬ Va0 < 65 ∧ ¬ 90 < Va0 ∧ r = ((Va0 - 65) + 1))) (fun (u : Unit) t => Wd dC dI [] (va_A [] sz) [] t) (va_A [] sz))  0 0 (va_A [] sz) := by
  refine Met.ofW (cc := cX9_symbolOf) (maxL := 1) (ret := (some .int)) (by decide) rfl ?_
  intro p e s m args below meth c s₁ B hml hv
  obtain ⟨rfl, hsz, hP, hK, hD0⟩ := hv
  have hx := B.exec
  have hb := B.bytes
  have hr := B.returns
  have hts := atoms_spec (ws := w_z_X9_symbolOf) B.pre
  have hown : s.vm.findClass RX9 = some m.cls := findClass_of_methodNamed B.named
  have hlocks := B.notSynchronized
  subst hsz
  have hD := hD0.self (sz := s.heap.size)
  generalize hAe : va_A [] s.heap.size = A at hD ⊢
  have hA : ∀ q : Nat, s.heap.size ≤ q → A q := fun q h => by rw [← hAe]; exact Or.inr h
  have hS : va_S A s.heap s.heap [] := va_S.rf
  have hl := lv_entry ([.int Va0]) (n := 1) (Nat.le_of_ble_eq_true rfl)
  rw [lg_entry_eq]
  generalize (lg_sl ([.int Va0]) ++ List.replicate (1 - (lg_sl ([.int Va0])).length) Slot.unset).toArray = ls at hl ⊢
  have hl : lv_has ls 1 [(0, .int Va0)] := hl
  refine lv_iload_n hx hb dX9_symbolOf_0 rfl (lv_at hl 0 rfl) ?_
  refine lv_bipush (v := 65) hx hb dX9_symbolOf_1 (by decide) ?_
  refine lv_icmp_lt (tgt := 19) hx hb dX9_symbolOf_3 (by decide) (fun c101 => ?_) (fun c101 => ?_)
  · skip
    refine lv_iload_n hx hb dX9_symbolOf_19 rfl (lv_at hl 0 rfl) ?_
    refine lv_bipush (v := 97) hx hb dX9_symbolOf_20 (by decide) ?_
    refine lv_icmp_lt (tgt := 39) hx hb dX9_symbolOf_22 (by decide) (fun c102 => ?_) (fun c102 => (by exfalso; have bd_Va0 := i_bd Va0; (try simp only [i_lt, i_le, i_eq, kc_65, kc_97] at c101 c102); omega))
    refine lv_iload_n hx hb dX9_symbolOf_39 rfl (lv_at hl 0 rfl) ?_
    have hPc := hP.sub (ws' := []) [] rfl
    have hDc := hD.sub (ws' := []) [] (by decide) rfl
    have hKc := hK.sub (tys' := []) [] rfl
    have hFc := va_free (wc := []) hD hS hA [] rfl
    refine va_calli (va_runS (As := [.int Va0]) (rest := []) ⟨hx, hb, hml, hown, hts⟩ (z_X9_isDigit l dC dI s.heap.size Va0  ) (cwS 1 hts g_z_X9_symbolOf_z_X9_isDigit_65 rfl rfl rfl (by decide +kernel) ⟨Nat.le_of_ble_eq_true rfl, Nat.le_of_ble_eq_true rfl⟩) ⟨fun a U g mk q => by obtain ⟨q0, q1, qP, qK, qD⟩ := q; exact ⟨q0, q1, qP, va_K.moved (u := U) (U := U.calling g mk a) (Vm.Alike.refl U.vm) qK, qD⟩, fun U hU hW => ⟨rfl, by rw [hU], by rw [hU]; exact hPc, va_K.moved hW.alike hKc, hDc.weaken (fun _ _ _ _ => trivial)⟩⟩ rfl rfl hl.1 rfl (lv_room (Nat.le_of_ble_eq_true rfl)) dX9_symbolOf_40 ⟨Nat.le_of_ble_eq_true rfl, Nat.le_of_ble_eq_true rfl⟩) hS (fun q _ h => hFc q h) hFc (fun r103 u t H1 locs ht hvm hw hB hz1 hk1 hS => ?_)
    obtain ⟨hP1, hK1, hD1⟩ := hB
    rw [ht] at hP1
    try dsimp only at hw
    obtain ⟨hP, hD⟩ := va_join (wr := []) (w1 := []) hP hD [] [] rfl rfl (by decide) (by decide) hk1 hFc hP1 hD1
    have hK := hK.sub (tys' := []) [] rfl
    generalize H1 = H at hP hS ⊢
    have hP : va_P (dC, dI) vwCl [] H := hP
    have hD : va_D A [] := hD
    rcases hw with ⟨c104, er105⟩ | ⟨c106, c107, er108⟩ | ⟨c109, c110, er111⟩
    · skip
      subst er105
      refine lv_if_eq (tgt := 56) hx hb dX9_symbolOf_43 (by decide) (fun c112 => ?_) (fun c112 => absurd c112 (by decide))
      refine lv_iconst (v := 0) hx hb dX9_symbolOf_56 (by decide) ?_
      have hP9 := hP.sub (ws' := []) [] rfl
      have hD9 := hD.sub (ws' := []) [] (by decide) rfl
      have hK9 := hK.sub (tys' := []) [] rfl
      exact W.iret (v := 0) hx hb hr (fun t ht hW => ⟨⟨0, (), rfl, (Or.inl ⟨c101, c102, c104, rfl⟩), by rw [ht]; exact hP9, va_K.moved hW.alike hK9, hD9⟩, hS.F ht⟩) hS.2.2 dX9_symbolOf_57
    · skip
      subst er108
      refine lv_if_eq (tgt := 56) hx hb dX9_symbolOf_43 (by decide) (fun c113 => ?_) (fun c113 => absurd c113 (by decide))
      refine lv_iconst (v := 0) hx hb dX9_symbolOf_56 (by decide) ?_
      have hP9 := hP.sub (ws' := []) [] rfl
      have hD9 := hD.sub (ws' := []) [] (by decide) rfl
      have hK9 := hK.sub (tys' := []) [] rfl
      exact W.iret (v := 0) hx hb hr (fun t ht hW => ⟨⟨0, (), rfl, (Or.inr (Or.inl ⟨c101, c102, c106, c107, rfl⟩)), by rw [ht]; exact hP9, va_K.moved hW.alike hK9, hD9⟩, hS.F ht⟩) hS.2.2 dX9_symbolOf_57
    · skip
      subst er111
      refine lv_if_eq (tgt := 56) hx hb dX9_symbolOf_43 (by decide) (fun c114 => absurd c114 (by decide)) (fun c114 => ?_)
      refine lv_iload_n hx hb dX9_symbolOf_46 rfl (lv_at hl 0 rfl) ?_
      refine lv_bipush (v := 48) hx hb dX9_symbolOf_47 (by decide) ?_
      refine lv_isub hx hb dX9_symbolOf_49  ?_
      refine lv_topi (fun x115 ex115 => ?_)
      have tx115 : x115.toInt = (Va0 : Int32).toInt - (48 : Int32).toInt := by rw [ex115]; exact i_sub (by have bd_Va0 := i_bd Va0; (try simp only [i_lt, i_le, i_eq, kc_65, kc_97, kc_48, kc_57] at c101 c102 c109 c110 ⊢); omega) (by have bd_Va0 := i_bd Va0; (try simp only [i_lt, i_le, i_eq, kc_65, kc_97, kc_48, kc_57] at c101 c102 c109 c110 ⊢); omega)
      refine lv_bipush (v := 53) hx hb dX9_symbolOf_50 (by decide) ?_
      refine lv_iadd hx hb dX9_symbolOf_52  ?_
      refine lv_topi (fun x116 ex116 => ?_)
      have tx116 : x116.toInt = (x115 : Int32).toInt + (53 : Int32).toInt := by rw [ex116]; exact i_add (by have bd_x115 := i_bd x115; (try simp only [i_lt, i_le, i_eq, kc_48, kc_65, kc_97, kc_57, kc_53] at tx115 c101 c102 c109 c110 ⊢); omega) (by have bd_x115 := i_bd x115; (try simp only [i_lt, i_le, i_eq, kc_48, kc_65, kc_97, kc_57, kc_53] at tx115 c101 c102 c109 c110 ⊢); omega)
      refine lv_goto (tgt := 57) hx hb dX9_symbolOf_53 (by decide) ?_
      have hP9 := hP.sub (ws' := []) [] rfl
      have hD9 := hD.sub (ws' := []) [] (by decide) rfl
      have hK9 := hK.sub (tys' := []) [] rfl
      exact W.iret (v := x116) hx hb hr (fun t ht hW => ⟨⟨x116, (), rfl, (Or.inr (Or.inr (Or.inl ⟨c101, c102, c109, c110, (by subst_vars; rfl)⟩))), by rw [ht]; exact hP9, va_K.moved hW.alike hK9, hD9⟩, hS.F ht⟩) hS.2.2 dX9_symbolOf_57
  · skip
    refine lv_iload_n hx hb dX9_symbolOf_6 rfl (lv_at hl 0 rfl) ?_
    refine lv_bipush (v := 90) hx hb dX9_symbolOf_7 (by decide) ?_
    refine lv_icmp_gt (tgt := 19) hx hb dX9_symbolOf_9 (by decide) (fun c117 => ?_) (fun c117 => ?_)
    · skip
      refine lv_iload_n hx hb dX9_symbolOf_19 rfl (lv_at hl 0 rfl) ?_
      refine lv_bipush (v := 97) hx hb dX9_symbolOf_20 (by decide) ?_
      refine lv_icmp_lt (tgt := 39) hx hb dX9_symbolOf_22 (by decide) (fun c118 => ?_) (fun c118 => ?_)
      · skip
        refine lv_iload_n hx hb dX9_symbolOf_39 rfl (lv_at hl 0 rfl) ?_
        have hPc := hP.sub (ws' := []) [] rfl
        have hDc := hD.sub (ws' := []) [] (by decide) rfl
        have hKc := hK.sub (tys' := []) [] rfl
        have hFc := va_free (wc := []) hD hS hA [] rfl
        refine va_calli (va_runS (As := [.int Va0]) (rest := []) ⟨hx, hb, hml, hown, hts⟩ (z_X9_isDigit l dC dI s.heap.size Va0  ) (cwS 1 hts g_z_X9_symbolOf_z_X9_isDigit_65 rfl rfl rfl (by decide +kernel) ⟨Nat.le_of_ble_eq_true rfl, Nat.le_of_ble_eq_true rfl⟩) ⟨fun a U g mk q => by obtain ⟨q0, q1, qP, qK, qD⟩ := q; exact ⟨q0, q1, qP, va_K.moved (u := U) (U := U.calling g mk a) (Vm.Alike.refl U.vm) qK, qD⟩, fun U hU hW => ⟨rfl, by rw [hU], by rw [hU]; exact hPc, va_K.moved hW.alike hKc, hDc.weaken (fun _ _ _ _ => trivial)⟩⟩ rfl rfl hl.1 rfl (lv_room (Nat.le_of_ble_eq_true rfl)) dX9_symbolOf_40 ⟨Nat.le_of_ble_eq_true rfl, Nat.le_of_ble_eq_true rfl⟩) hS (fun q _ h => hFc q h) hFc (fun r119 u t H1 locs ht hvm hw hB hz1 hk1 hS => ?_)
        obtain ⟨hP1, hK1, hD1⟩ := hB
        rw [ht] at hP1
        try dsimp only at hw
        obtain ⟨hP, hD⟩ := va_join (wr := []) (w1 := []) hP hD [] [] rfl rfl (by decide) (by decide) hk1 hFc hP1 hD1
        have hK := hK.sub (tys' := []) [] rfl
        generalize H1 = H at hP hS ⊢
        have hP : va_P (dC, dI) vwCl [] H := hP
        have hD : va_D A [] := hD
        rcases hw with ⟨c120, er121⟩ | ⟨c122, c123, er124⟩ | ⟨c125, c126, er127⟩
        · exact (by exfalso; (try simp only [i_lt, i_le, i_eq, kc_65, kc_90, kc_97, kc_48] at c101 c117 c118 c120); omega)
        · skip
          subst er124
          refine lv_if_eq (tgt := 56) hx hb dX9_symbolOf_43 (by decide) (fun c128 => ?_) (fun c128 => absurd c128 (by decide))
          refine lv_iconst (v := 0) hx hb dX9_symbolOf_56 (by decide) ?_
          have hP9 := hP.sub (ws' := []) [] rfl
          have hD9 := hD.sub (ws' := []) [] (by decide) rfl
          have hK9 := hK.sub (tys' := []) [] rfl
          exact W.iret (v := 0) hx hb hr (fun t ht hW => ⟨⟨0, (), rfl, (Or.inr (Or.inr (Or.inr (Or.inl ⟨c101, c117, c118, c122, c123, rfl⟩)))), by rw [ht]; exact hP9, va_K.moved hW.alike hK9, hD9⟩, hS.F ht⟩) hS.2.2 dX9_symbolOf_57
        · exact (by exfalso; (try simp only [i_lt, i_le, i_eq, kc_65, kc_90, kc_97, kc_48, kc_57] at c101 c117 c118 c125 c126); omega)
      · skip
        refine lv_iload_n hx hb dX9_symbolOf_25 rfl (lv_at hl 0 rfl) ?_
        refine lv_bipush (v := 122) hx hb dX9_symbolOf_26 (by decide) ?_
        refine lv_icmp_gt (tgt := 39) hx hb dX9_symbolOf_28 (by decide) (fun c129 => ?_) (fun c129 => ?_)
        · skip
          refine lv_iload_n hx hb dX9_symbolOf_39 rfl (lv_at hl 0 rfl) ?_
          have hPc := hP.sub (ws' := []) [] rfl
          have hDc := hD.sub (ws' := []) [] (by decide) rfl
          have hKc := hK.sub (tys' := []) [] rfl
          have hFc := va_free (wc := []) hD hS hA [] rfl
          refine va_calli (va_runS (As := [.int Va0]) (rest := []) ⟨hx, hb, hml, hown, hts⟩ (z_X9_isDigit l dC dI s.heap.size Va0  ) (cwS 1 hts g_z_X9_symbolOf_z_X9_isDigit_65 rfl rfl rfl (by decide +kernel) ⟨Nat.le_of_ble_eq_true rfl, Nat.le_of_ble_eq_true rfl⟩) ⟨fun a U g mk q => by obtain ⟨q0, q1, qP, qK, qD⟩ := q; exact ⟨q0, q1, qP, va_K.moved (u := U) (U := U.calling g mk a) (Vm.Alike.refl U.vm) qK, qD⟩, fun U hU hW => ⟨rfl, by rw [hU], by rw [hU]; exact hPc, va_K.moved hW.alike hKc, hDc.weaken (fun _ _ _ _ => trivial)⟩⟩ rfl rfl hl.1 rfl (lv_room (Nat.le_of_ble_eq_true rfl)) dX9_symbolOf_40 ⟨Nat.le_of_ble_eq_true rfl, Nat.le_of_ble_eq_true rfl⟩) hS (fun q _ h => hFc q h) hFc (fun r130 u t H1 locs ht hvm hw hB hz1 hk1 hS => ?_)
          obtain ⟨hP1, hK1, hD1⟩ := hB
          rw [ht] at hP1
          try dsimp only at hw
          obtain ⟨hP, hD⟩ := va_join (wr := []) (w1 := []) hP hD [] [] rfl rfl (by decide) (by decide) hk1 hFc hP1 hD1
          have hK := hK.sub (tys' := []) [] rfl
          generalize H1 = H at hP hS ⊢
          have hP : va_P (dC, dI) vwCl [] H := hP
          have hD : va_D A [] := hD
          rcases hw with ⟨c131, er132⟩ | ⟨c133, c134, er135⟩ | ⟨c136, c137, er138⟩
          · exact (by exfalso; (try simp only [i_lt, i_le, i_eq, kc_65, kc_90, kc_97, kc_122, kc_48] at c101 c117 c118 c129 c131); omega)
          · skip
            subst er135
            refine lv_if_eq (tgt := 56) hx hb dX9_symbolOf_43 (by decide) (fun c139 => ?_) (fun c139 => absurd c139 (by decide))
            refine lv_iconst (v := 0) hx hb dX9_symbolOf_56 (by decide) ?_
            have hP9 := hP.sub (ws' := []) [] rfl
            have hD9 := hD.sub (ws' := []) [] (by decide) rfl
            have hK9 := hK.sub (tys' := []) [] rfl
            exact W.iret (v := 0) hx hb hr (fun t ht hW => ⟨⟨0, (), rfl, (Or.inr (Or.inr (Or.inr (Or.inr (Or.inl ⟨c101, c117, c118, c129, c133, c134, rfl⟩))))), by rw [ht]; exact hP9, va_K.moved hW.alike hK9, hD9⟩, hS.F ht⟩) hS.2.2 dX9_symbolOf_57
          · exact (by exfalso; (try simp only [i_lt, i_le, i_eq, kc_65, kc_90, kc_97, kc_122, kc_48, kc_57] at c101 c117 c118 c129 c136 c137); omega)
        · skip
          refine lv_iload_n hx hb dX9_symbolOf_31 rfl (lv_at hl 0 rfl) ?_
          refine lv_bipush (v := 97) hx hb dX9_symbolOf_32 (by decide) ?_
          refine lv_isub hx hb dX9_symbolOf_34  ?_
          refine lv_topi (fun x140 ex140 => ?_)
          have tx140 : x140.toInt = (Va0 : Int32).toInt - (97 : Int32).toInt := by rw [ex140]; exact i_sub (by have bd_Va0 := i_bd Va0; (try simp only [i_lt, i_le, i_eq, kc_65, kc_90, kc_97, kc_122] at c101 c117 c118 c129 ⊢); omega) (by have bd_Va0 := i_bd Va0; (try simp only [i_lt, i_le, i_eq, kc_65, kc_90, kc_97, kc_122] at c101 c117 c118 c129 ⊢); omega)
          refine lv_bipush (v := 27) hx hb dX9_symbolOf_35 (by decide) ?_
          refine lv_iadd hx hb dX9_symbolOf_37  ?_
          refine lv_topi (fun x141 ex141 => ?_)
          have tx141 : x141.toInt = (x140 : Int32).toInt + (27 : Int32).toInt := by rw [ex141]; exact i_add (by have bd_x140 := i_bd x140; (try simp only [i_lt, i_le, i_eq, kc_97, kc_65, kc_90, kc_122, kc_27] at tx140 c101 c117 c118 c129 ⊢); omega) (by have bd_x140 := i_bd x140; (try simp only [i_lt, i_le, i_eq, kc_97, kc_65, kc_90, kc_122, kc_27] at tx140 c101 c117 c118 c129 ⊢); omega)
          have hP9 := hP.sub (ws' := []) [] rfl
          have hD9 := hD.sub (ws' := []) [] (by decide) rfl
          have hK9 := hK.sub (tys' := []) [] rfl
          exact W.iret (v := x141) hx hb hr (fun t ht hW => ⟨⟨x141, (), rfl, (Or.inr (Or.inr (Or.inr (Or.inr (Or.inr (Or.inl ⟨c101, c117, c118, c129, (by subst_vars; rfl)⟩)))))), by rw [ht]; exact hP9, va_K.moved hW.alike hK9, hD9⟩, hS.F ht⟩) hS.2.2 dX9_symbolOf_38
    · skip
      refine lv_iload_n hx hb dX9_symbolOf_12 rfl (lv_at hl 0 rfl) ?_
      refine lv_bipush (v := 65) hx hb dX9_symbolOf_13 (by decide) ?_
      refine lv_isub hx hb dX9_symbolOf_15  ?_
      refine lv_topi (fun x142 ex142 => ?_)
      have tx142 : x142.toInt = (Va0 : Int32).toInt - (65 : Int32).toInt := by rw [ex142]; exact i_sub (by have bd_Va0 := i_bd Va0; (try simp only [i_lt, i_le, i_eq, kc_65, kc_90] at c101 c117 ⊢); omega) (by have bd_Va0 := i_bd Va0; (try simp only [i_lt, i_le, i_eq, kc_65, kc_90] at c101 c117 ⊢); omega)
      refine lv_iconst (v := 1) hx hb dX9_symbolOf_16 (by decide) ?_
      refine lv_iadd hx hb dX9_symbolOf_17  ?_
      refine lv_topi (fun x143 ex143 => ?_)
      have tx143 : x143.toInt = (x142 : Int32).toInt + (1 : Int32).toInt := by rw [ex143]; exact i_add (by have bd_x142 := i_bd x142; (try simp only [i_lt, i_le, i_eq, kc_65, kc_90, kc_1] at tx142 c101 c117 ⊢); omega) (by have bd_x142 := i_bd x142; (try simp only [i_lt, i_le, i_eq, kc_65, kc_90, kc_1] at tx142 c101 c117 ⊢); omega)
      have hP9 := hP.sub (ws' := []) [] rfl
      have hD9 := hD.sub (ws' := []) [] (by decide) rfl
      have hK9 := hK.sub (tys' := []) [] rfl
      exact W.iret (v := x143) hx hb hr (fun t ht hW => ⟨⟨x143, (), rfl, (Or.inr (Or.inr (Or.inr (Or.inr (Or.inr (Or.inr (⟨c101, c117, (by subst_vars; rfl)⟩))))))), by rw [ht]; exact hP9, va_K.moved hW.alike hK9, hD9⟩, hS.F ht⟩) hS.2.2 dX9_symbolOf_18

def l_z_X9_init : List Cond := [.methodLink RX9 3 objectInit, .instanceMethod objectInit, .code objectInit ⟨#[0xb1]⟩ 1 none, .arrayClass .int, .fieldLink RX9 11 "HeapWorks$Tape" "bytes" "[I", .fieldLink RX9 15 "HeapWorks$Tape" "ready" "[I", .fieldLink RX9 18 "HeapWorks$Tape" "words" "[I", .fieldLink RX9 21 "HeapWorks$Tape" "places" "[I", .arrayClass .long, .fieldLink RX9 24 "HeapWorks$Tape" "codes" "[J", .fieldLink RX9 28 "HeapWorks$Tape" "keywords" "[J", .methodLink RX9 33 yJ0_length_8abf5, .instanceMethod yJ0_length_8abf5, .selects RJ0 yJ0_length_8abf5 yJ0_length_8abf5, .initialized RJ0, .methodLink RX9 39 yJ0_charAt_5068e, .instanceMethod yJ0_charAt_5068e, .selects RJ0 yJ0_charAt_5068e yJ0_charAt_5068e, .constantLong RX9 43 (64), .methodLink RX9 45 yX9_symbolOf, .static yX9_symbolOf, .initialized RX9, .code yJ0_length_8abf5 cJ0_length_8abf5 1 (some .int), .fieldLink RJ0 9 "java/lang/String" "value" "[B", .methodLink RJ0 335 yJ0_coder_7d493, .instanceMethod yJ0_coder_7d493, .selects RJ0 yJ0_coder_7d493 yJ0_coder_7d493, .code yJ0_coder_7d493 cJ0_coder_7d493 1 (some .byte), .fieldLink RJ0 38 "java/lang/String" "COMPACT_STRINGS" "Z", .fieldLink RJ0 15 "java/lang/String" "coder" "B", .code yJ0_charAt_5068e cJ0_charAt_5068e 2 (some .char), .methodLink RJ0 492 yJ0_isLatin1_aae02, .instanceMethod yJ0_isLatin1_aae02, .selects RJ0 yJ0_isLatin1_aae02 yJ0_isLatin1_aae02, .methodLink RJ0 495 yJ1_charAt_3b067, .static yJ1_charAt_3b067, .initialized RJ1, .code yJ0_isLatin1_aae02 cJ0_isLatin1_aae02 1 (some .boolean), .code yJ1_charAt_3b067 cJ1_charAt_3b067 2 (some .char), .methodLink RJ1 9 yJ0_checkIndex_df160, .static yJ0_checkIndex_df160, .code yJ0_checkIndex_df160 cJ0_checkIndex_df160 2 none, .fieldLink RJ0 1053 "jdk/internal/util/Preconditions" "SIOOBE_FORMATTER" "Ljava/util/function/BiFunction;", .methodLink RJ0 1059 yJ3_checkIndex_8e157, .static yJ3_checkIndex_8e157, .initialized RJ3, .code yJ3_checkIndex_8e157 cJ3_checkIndex_8e157 3 (some .int), .code yX9_symbolOf cX9_symbolOf 1 (some .int), .methodLink RX9 65 yX9_isDigit, .static yX9_isDigit, .code yX9_isDigit cX9_isDigit 1 (some .boolean)]
def w_z_X9_init : List Cond := .code yX9_init cX9_init 5 none :: (l_z_X9_init ++ (wsX90))
theorem in_z_X9_init_X9 : ∀ w ∈ wsX90, w ∈ w_z_X9_init := fun w h => List.mem_cons_of_mem _ (List.mem_append_right _ (h))
theorem g_z_X9_init_z_J0_length_8abf5_33 : GoodIn w_z_X9_init (wsV RX9 33 RJ0 yJ0_length_8abf5 w_z_J0_length_8abf5) := goodIn_app (goodIn_r (([.methodLink RX9 33 yJ0_length_8abf5, .instanceMethod yJ0_length_8abf5, .selects RJ0 yJ0_length_8abf5 yJ0_length_8abf5, .initialized RJ0] : List Cond)) [12, 13, 14, 15] rfl (by decide +kernel)) (goodIn_r (.code yJ0_length_8abf5 cJ0_length_8abf5 1 (some .int) :: l_z_J0_length_8abf5) [23, 24, 25, 26, 27, 15, 28, 29, 30] rfl (by decide +kernel))
theorem g_z_X9_init_z_J0_charAt_5068e_39 : GoodIn w_z_X9_init (wsV RX9 39 RJ0 yJ0_charAt_5068e w_z_J0_charAt_5068e) := goodIn_app (goodIn_r (([.methodLink RX9 39 yJ0_charAt_5068e, .instanceMethod yJ0_charAt_5068e, .selects RJ0 yJ0_charAt_5068e yJ0_charAt_5068e, .initialized RJ0] : List Cond)) [16, 17, 18, 15] rfl (by decide +kernel)) (goodIn_r (.code yJ0_charAt_5068e cJ0_charAt_5068e 2 (some .char) :: l_z_J0_charAt_5068e) [31, 32, 33, 34, 15, 24, 35, 36, 37, 38, 29, 30, 39, 40, 41, 42, 43, 44, 45, 46, 47] rfl (by decide +kernel))
theorem g_z_X9_init_z_X9_symbolOf_45 : GoodIn w_z_X9_init (wsS RX9 45 yX9_symbolOf w_z_X9_symbolOf) := goodIn_app (goodIn_r (([.methodLink RX9 45 yX9_symbolOf, .static yX9_symbolOf, .initialized RX9] : List Cond)) [20, 21, 22] rfl (by decide +kernel)) (goodIn_r (.code yX9_symbolOf cX9_symbolOf 1 (some .int) :: l_z_X9_symbolOf) [48, 49, 50, 22, 51] rfl (by decide +kernel))
set_option maxHeartbeats 4000000 in
set_option maxRecDepth 100000 in
theorem z_X9_init (l : Launch) (dC : Nat → ClassId) (dI : Nat → Nat → Nat) (sz : Nat) (adK adV : Nat → Nat) (Ad0 : Nat) (Fs0 : List Value) (k_Fs0 : fh Fs0 12 [(3, .null)])  : Met l yX9_init w_z_X9_init ({ frames := 4, cells := 6, slots := 16052, locals := 85 }) (va_Pc [.ref Ad0] (fun U => U.heap.size = sz ∧ Kc adK adV (va_A [(Ad0, .inr (12, Fs0))] sz) U ∧ Wd dC dI [] (fun _ => True) [(Ad0, .inr (12, Fs0))] U)) (va_Qv (fun (u : List Value × Nat × (Nat → Int64) × ClassId × Nat × (Nat → Int64) × ClassId × Nat × (Nat → Int32) × ClassId × Nat × (Nat → Int32) × ClassId × Nat × (Nat → Int32) × ClassId × Nat × (Nat → Int32) × ClassId) => match u with | (s130, q126, f305, k127, q121, f123, k122, q116, f118, k117, q111, f113, k112, q106, f108, k107, q101, f103, k102) => (ow Fs0 (s130) 12 [3, 7, 6, 5, 2, 0] [(3, .ref q126), (7, .ref q121), (6, .ref q116), (5, .ref q111), (2, .ref q106), (0, .ref q101)] ∧ (∀ j, f123 j = 0) ∧ (∀ j, f118 j = 0) ∧ (∀ j, f113 j = 0) ∧ (∀ j, f108 j = 0) ∧ (∀ j, f103 j = 0))) (fun (u : List Value × Nat × (Nat → Int64) × ClassId × Nat × (Nat → Int64) × ClassId × Nat × (Nat → Int32) × ClassId × Nat × (Nat → Int32) × ClassId × Nat × (Nat → Int32) × ClassId × Nat × (Nat → Int32) × ClassId) t => match u with | (s130, q126, f305, k127, q121, f123, k122, q116, f118, k117, q111, f113, k112, q106, f108, k107, q101, f103, k102) => Wd dC dI [(k127, .long), (k122, .long), (k117, .int), (k112, .int), (k107, .int), (k102, .int)] (va_A [(Ad0, .inr (12, Fs0))] sz) [(Ad0, .inr (12, s130)), (q126, .inl (k127, 29, .inr (.inl f305))), (q121, .inl (k122, 4001, .inr (.inl f123))), (q116, .inl (k117, 4001, .inl f118)), (q111, .inl (k112, 4001, .inl f113)), (q106, .inl (k107, 20, .inl f108)), (q101, .inl (k102, 4000, .inl f103))] t) (va_A [(Ad0, .inr (12, Fs0))] sz))  6 16052 (va_A [(Ad0, .inr (12, Fs0))] sz) := by
  refine Met.ofW (cc := cX9_init) (maxL := 5) (ret := none) (by decide) rfl ?_
  intro p e s m args below meth c s₁ B hml hv
  obtain ⟨rfl, hsz, hC, hP, hK, hD0⟩ := hv
  have hx := B.exec
  have hb := B.bytes
  have hr := B.returns
  have hts := atoms_spec (ws := w_z_X9_init) B.pre
  have hown : s.vm.findClass RX9 = some m.cls := findClass_of_methodNamed B.named
  have hlocks := B.notSynchronized
  have hin : meth.name = "<init>" := (name_of_methodNamed B.named B.method).1
  subst hsz
  have hD := hD0.self (sz := s.heap.size)
  generalize hAe : va_A [(Ad0, .inr (12, Fs0))] s.heap.size = A at hD hC ⊢
  have hA : ∀ q : Nat, s.heap.size ≤ q → A q := fun q h => by rw [← hAe]; exact Or.inr h
  have hS : va_S A s.heap s.heap [] := va_S.rf
  have hl := lv_entry ([.ref Ad0]) (n := 5) (Nat.le_of_ble_eq_true rfl)
  rw [lg_entry_eq]
  generalize (lg_sl ([.ref Ad0]) ++ List.replicate (5 - (lg_sl ([.ref Ad0])).length) Slot.unset).toArray = ls at hl ⊢
  have hl : lv_has ls 5 [(0, .ref Ad0)] := hl
  have o_Fs0 := ow_0 k_Fs0
  refine lv_aload_n hx hb dX9_init_0 rfl (lv_at hl 0 rfl) ?_
  refine W.objInit hx hb hown (hts (.methodLink RX9 3 objectInit) (by decide +kernel)) (hts (.instanceMethod objectInit) (by decide +kernel)) (hts (.code objectInit ⟨#[0xb1]⟩ 1 none) (by decide +kernel)) rfl (by rw [hml]; exact hl.1) rfl dX9_init_1 (Nat.le_of_ble_eq_true rfl) (Nat.le_of_ble_eq_true rfl) ?_
  refine W.eq (g2 := F0 m 4 ls []) rfl ?_
  refine lv_aload_n hx hb dX9_init_4 rfl (lv_at hl 0 rfl) ?_
  refine lv_sipush (v := 4000) hx hb dX9_init_5 (by decide) ?_
  refine va_newa (atype := .int) (ty := .int) (a0 := (4000, .inl (fun _ : Nat => (0 : Int32)))) (N' := 4000) hx hb (hts (.arrayClass .int) (by decide +kernel)) rfl hK hP hD hS hA (na_I 4000) (by decide) (by decide) (by decide) (Nat.le_of_ble_eq_true rfl) (Nat.le_of_ble_eq_true rfl) dX9_init_8 (fun q101 k102 H hK hP hD hS => ?_)
  have hK : va_K (dC, dI) vwCl [(k102, .int)] s := hK
  have hP : va_P (dC, dI) vwCl [(Ad0, .inr (12, Fs0)), (q101, .inl (k102, 4000, .inl ((fun _ : Nat => (0 : Int32)))))] H := hP
  have hD : va_D A [(Ad0, .inr (12, Fs0)), (q101, .inl (k102, 4000, .inl ((fun _ : Nat => (0 : Int32)))))] := hD
  have z104 : ∀ j, (fun _ : Nat => (0 : Int32)) j = 0 := fun _ => rfl
  generalize (fun _ : Nat => (0 : Int32)) = f103 at hP hD z104
  refine W.widen (k := 1) (n := 4000) (by omega) (by omega) ?_
  refine va_putF (D := (dC, dI)) (ci := 12) (v := .ref q101) (ty := .array .int) (C := RX9) (T := TX9) (N := 12) hx hb hts (in_z_X9_init_X9) tyX9 tyX9_ok nmX9 hown hK hP hD hS 0 rfl rfl 0 (by decide) (hts (.fieldLink RX9 11 "HeapWorks$Tape" "bytes" "[I") (by decide +kernel)) (fun _ h9 => h9) rfl hin rfl (by decide +kernel) rfl rfl (by rw [o_Fs0.2.1]; decide) dX9_init_10 (fun H locs hP hD hS => ?_)
  have hP : va_P (dC, dI) vwCl [(Ad0, .inr (12, (Fs0.set 0 (.ref q101)))), (q101, .inl (k102, 4000, .inl f103))] H := hP
  have hD : va_D A [(Ad0, .inr (12, (Fs0.set 0 (.ref q101)))), (q101, .inl (k102, 4000, .inl f103))] := hD
  have o_s105 := ow_set o_Fs0 0 (.ref q101) (by decide) (l' := [(0, .ref q101), (3, .null)]) (w' := [0]) rfl rfl
  generalize (Fs0.set 0 (.ref q101)) = s105 at hP hD o_s105
  refine lv_aload_n hx hb dX9_init_13 rfl (lv_at hl 0 rfl) ?_
  refine lv_bipush (v := 20) hx hb dX9_init_14 (by decide) ?_
  refine va_newa (atype := .int) (ty := .int) (a0 := (20, .inl (fun _ : Nat => (0 : Int32)))) (N' := 20) hx hb (hts (.arrayClass .int) (by decide +kernel)) rfl hK hP hD hS hA (na_I 20) (by decide) (by decide) (by decide) (Nat.le_of_ble_eq_true rfl) (Nat.le_of_ble_eq_true rfl) dX9_init_16 (fun q106 k107 H hK hP hD hS => ?_)
  have hK : va_K (dC, dI) vwCl [(k102, .int), (k107, .int)] s := hK
  have hP : va_P (dC, dI) vwCl [(Ad0, .inr (12, s105)), (q101, .inl (k102, 4000, .inl f103)), (q106, .inl (k107, 20, .inl ((fun _ : Nat => (0 : Int32)))))] H := hP
  have hD : va_D A [(Ad0, .inr (12, s105)), (q101, .inl (k102, 4000, .inl f103)), (q106, .inl (k107, 20, .inl ((fun _ : Nat => (0 : Int32)))))] := hD
  have z109 : ∀ j, (fun _ : Nat => (0 : Int32)) j = 0 := fun _ => rfl
  generalize (fun _ : Nat => (0 : Int32)) = f108 at hP hD z109
  refine W.widen (k := 2) (n := 4020) (by omega) (by omega) ?_
  refine va_putF (D := (dC, dI)) (ci := 12) (v := .ref q106) (ty := .array .int) (C := RX9) (T := TX9) (N := 12) hx hb hts (in_z_X9_init_X9) tyX9 tyX9_ok nmX9 hown hK hP hD hS 0 rfl rfl 2 (by decide) (hts (.fieldLink RX9 15 "HeapWorks$Tape" "ready" "[I") (by decide +kernel)) (fun _ h9 => h9) rfl hin rfl (by decide +kernel) rfl rfl (by rw [o_s105.2.1]; decide) dX9_init_18 (fun H locs hP hD hS => ?_)
  have hP : va_P (dC, dI) vwCl [(Ad0, .inr (12, (s105.set 2 (.ref q106)))), (q101, .inl (k102, 4000, .inl f103)), (q106, .inl (k107, 20, .inl f108))] H := hP
  have hD : va_D A [(Ad0, .inr (12, (s105.set 2 (.ref q106)))), (q101, .inl (k102, 4000, .inl f103)), (q106, .inl (k107, 20, .inl f108))] := hD
  have o_s110 := ow_set o_s105 2 (.ref q106) (by decide) (l' := [(2, .ref q106), (0, .ref q101), (3, .null)]) (w' := [2, 0]) rfl rfl
  generalize (s105.set 2 (.ref q106)) = s110 at hP hD o_s110
  refine lv_aload_n hx hb dX9_init_21 rfl (lv_at hl 0 rfl) ?_
  refine lv_sipush (v := 4001) hx hb dX9_init_22 (by decide) ?_
  refine va_newa (atype := .int) (ty := .int) (a0 := (4001, .inl (fun _ : Nat => (0 : Int32)))) (N' := 4001) hx hb (hts (.arrayClass .int) (by decide +kernel)) rfl hK hP hD hS hA (na_I 4001) (by decide) (by decide) (by decide) (Nat.le_of_ble_eq_true rfl) (Nat.le_of_ble_eq_true rfl) dX9_init_25 (fun q111 k112 H hK hP hD hS => ?_)
  have hK : va_K (dC, dI) vwCl [(k102, .int), (k107, .int), (k112, .int)] s := hK
  have hP : va_P (dC, dI) vwCl [(Ad0, .inr (12, s110)), (q101, .inl (k102, 4000, .inl f103)), (q106, .inl (k107, 20, .inl f108)), (q111, .inl (k112, 4001, .inl ((fun _ : Nat => (0 : Int32)))))] H := hP
  have hD : va_D A [(Ad0, .inr (12, s110)), (q101, .inl (k102, 4000, .inl f103)), (q106, .inl (k107, 20, .inl f108)), (q111, .inl (k112, 4001, .inl ((fun _ : Nat => (0 : Int32)))))] := hD
  have z114 : ∀ j, (fun _ : Nat => (0 : Int32)) j = 0 := fun _ => rfl
  generalize (fun _ : Nat => (0 : Int32)) = f113 at hP hD z114
  refine W.widen (k := 3) (n := 8021) (by omega) (by omega) ?_
  refine va_putF (D := (dC, dI)) (ci := 12) (v := .ref q111) (ty := .array .int) (C := RX9) (T := TX9) (N := 12) hx hb hts (in_z_X9_init_X9) tyX9 tyX9_ok nmX9 hown hK hP hD hS 0 rfl rfl 5 (by decide) (hts (.fieldLink RX9 18 "HeapWorks$Tape" "words" "[I") (by decide +kernel)) (fun _ h9 => h9) rfl hin rfl (by decide +kernel) rfl rfl (by rw [o_s110.2.1]; decide) dX9_init_27 (fun H locs hP hD hS => ?_)
  have hP : va_P (dC, dI) vwCl [(Ad0, .inr (12, (s110.set 5 (.ref q111)))), (q101, .inl (k102, 4000, .inl f103)), (q106, .inl (k107, 20, .inl f108)), (q111, .inl (k112, 4001, .inl f113))] H := hP
  have hD : va_D A [(Ad0, .inr (12, (s110.set 5 (.ref q111)))), (q101, .inl (k102, 4000, .inl f103)), (q106, .inl (k107, 20, .inl f108)), (q111, .inl (k112, 4001, .inl f113))] := hD
  have o_s115 := ow_set o_s110 5 (.ref q111) (by decide) (l' := [(5, .ref q111), (2, .ref q106), (0, .ref q101), (3, .null)]) (w' := [5, 2, 0]) rfl rfl
  generalize (s110.set 5 (.ref q111)) = s115 at hP hD o_s115
  refine lv_aload_n hx hb dX9_init_30 rfl (lv_at hl 0 rfl) ?_
  refine lv_sipush (v := 4001) hx hb dX9_init_31 (by decide) ?_
  refine va_newa (atype := .int) (ty := .int) (a0 := (4001, .inl (fun _ : Nat => (0 : Int32)))) (N' := 4001) hx hb (hts (.arrayClass .int) (by decide +kernel)) rfl hK hP hD hS hA (na_I 4001) (by decide) (by decide) (by decide) (Nat.le_of_ble_eq_true rfl) (Nat.le_of_ble_eq_true rfl) dX9_init_34 (fun q116 k117 H hK hP hD hS => ?_)
  have hK : va_K (dC, dI) vwCl [(k102, .int), (k107, .int), (k112, .int), (k117, .int)] s := hK
  have hP : va_P (dC, dI) vwCl [(Ad0, .inr (12, s115)), (q101, .inl (k102, 4000, .inl f103)), (q106, .inl (k107, 20, .inl f108)), (q111, .inl (k112, 4001, .inl f113)), (q116, .inl (k117, 4001, .inl ((fun _ : Nat => (0 : Int32)))))] H := hP
  have hD : va_D A [(Ad0, .inr (12, s115)), (q101, .inl (k102, 4000, .inl f103)), (q106, .inl (k107, 20, .inl f108)), (q111, .inl (k112, 4001, .inl f113)), (q116, .inl (k117, 4001, .inl ((fun _ : Nat => (0 : Int32)))))] := hD
  have z119 : ∀ j, (fun _ : Nat => (0 : Int32)) j = 0 := fun _ => rfl
  generalize (fun _ : Nat => (0 : Int32)) = f118 at hP hD z119
  refine W.widen (k := 4) (n := 12022) (by omega) (by omega) ?_
  refine va_putF (D := (dC, dI)) (ci := 12) (v := .ref q116) (ty := .array .int) (C := RX9) (T := TX9) (N := 12) hx hb hts (in_z_X9_init_X9) tyX9 tyX9_ok nmX9 hown hK hP hD hS 0 rfl rfl 6 (by decide) (hts (.fieldLink RX9 21 "HeapWorks$Tape" "places" "[I") (by decide +kernel)) (fun _ h9 => h9) rfl hin rfl (by decide +kernel) rfl rfl (by rw [o_s115.2.1]; decide) dX9_init_36 (fun H locs hP hD hS => ?_)
  have hP : va_P (dC, dI) vwCl [(Ad0, .inr (12, (s115.set 6 (.ref q116)))), (q101, .inl (k102, 4000, .inl f103)), (q106, .inl (k107, 20, .inl f108)), (q111, .inl (k112, 4001, .inl f113)), (q116, .inl (k117, 4001, .inl f118))] H := hP
  have hD : va_D A [(Ad0, .inr (12, (s115.set 6 (.ref q116)))), (q101, .inl (k102, 4000, .inl f103)), (q106, .inl (k107, 20, .inl f108)), (q111, .inl (k112, 4001, .inl f113)), (q116, .inl (k117, 4001, .inl f118))] := hD
  have o_s120 := ow_set o_s115 6 (.ref q116) (by decide) (l' := [(6, .ref q116), (5, .ref q111), (2, .ref q106), (0, .ref q101), (3, .null)]) (w' := [6, 5, 2, 0]) rfl rfl
  generalize (s115.set 6 (.ref q116)) = s120 at hP hD o_s120
  refine lv_aload_n hx hb dX9_init_39 rfl (lv_at hl 0 rfl) ?_
  refine lv_sipush (v := 4001) hx hb dX9_init_40 (by decide) ?_
  refine va_newa (atype := .long) (ty := .long) (a0 := (4001, .inr (.inl (fun _ : Nat => (0 : Int64))))) (N' := 4001) hx hb (hts (.arrayClass .long) (by decide +kernel)) rfl hK hP hD hS hA (na_J 4001) (by decide) (by decide) (by decide) (Nat.le_of_ble_eq_true rfl) (Nat.le_of_ble_eq_true rfl) dX9_init_43 (fun q121 k122 H hK hP hD hS => ?_)
  have hK : va_K (dC, dI) vwCl [(k102, .int), (k107, .int), (k112, .int), (k117, .int), (k122, .long)] s := hK
  have hP : va_P (dC, dI) vwCl [(Ad0, .inr (12, s120)), (q101, .inl (k102, 4000, .inl f103)), (q106, .inl (k107, 20, .inl f108)), (q111, .inl (k112, 4001, .inl f113)), (q116, .inl (k117, 4001, .inl f118)), (q121, .inl (k122, 4001, .inr (.inl ((fun _ : Nat => (0 : Int64))))))] H := hP
  have hD : va_D A [(Ad0, .inr (12, s120)), (q101, .inl (k102, 4000, .inl f103)), (q106, .inl (k107, 20, .inl f108)), (q111, .inl (k112, 4001, .inl f113)), (q116, .inl (k117, 4001, .inl f118)), (q121, .inl (k122, 4001, .inr (.inl ((fun _ : Nat => (0 : Int64))))))] := hD
  have z124 : ∀ j, (fun _ : Nat => (0 : Int64)) j = 0 := fun _ => rfl
  generalize (fun _ : Nat => (0 : Int64)) = f123 at hP hD z124
  refine W.widen (k := 5) (n := 16023) (by omega) (by omega) ?_
  refine va_putF (D := (dC, dI)) (ci := 12) (v := .ref q121) (ty := .array .long) (C := RX9) (T := TX9) (N := 12) hx hb hts (in_z_X9_init_X9) tyX9 tyX9_ok nmX9 hown hK hP hD hS 0 rfl rfl 7 (by decide) (hts (.fieldLink RX9 24 "HeapWorks$Tape" "codes" "[J") (by decide +kernel)) (fun _ h9 => h9) rfl hin rfl (by decide +kernel) rfl rfl (by rw [o_s120.2.1]; decide) dX9_init_45 (fun H locs hP hD hS => ?_)
  have hP : va_P (dC, dI) vwCl [(Ad0, .inr (12, (s120.set 7 (.ref q121)))), (q101, .inl (k102, 4000, .inl f103)), (q106, .inl (k107, 20, .inl f108)), (q111, .inl (k112, 4001, .inl f113)), (q116, .inl (k117, 4001, .inl f118)), (q121, .inl (k122, 4001, .inr (.inl f123)))] H := hP
  have hD : va_D A [(Ad0, .inr (12, (s120.set 7 (.ref q121)))), (q101, .inl (k102, 4000, .inl f103)), (q106, .inl (k107, 20, .inl f108)), (q111, .inl (k112, 4001, .inl f113)), (q116, .inl (k117, 4001, .inl f118)), (q121, .inl (k122, 4001, .inr (.inl f123)))] := hD
  have o_s125 := ow_set o_s120 7 (.ref q121) (by decide) (l' := [(7, .ref q121), (6, .ref q116), (5, .ref q111), (2, .ref q106), (0, .ref q101), (3, .null)]) (w' := [7, 6, 5, 2, 0]) rfl rfl
  generalize (s120.set 7 (.ref q121)) = s125 at hP hD o_s125
  refine lv_aload_n hx hb dX9_init_48 rfl (lv_at hl 0 rfl) ?_
  refine lv_bipush (v := 29) hx hb dX9_init_49 (by decide) ?_
  refine va_newa (atype := .long) (ty := .long) (a0 := (29, .inr (.inl (fun _ : Nat => (0 : Int64))))) (N' := 29) hx hb (hts (.arrayClass .long) (by decide +kernel)) rfl hK hP hD hS hA (na_J 29) (by decide) (by decide) (by decide) (Nat.le_of_ble_eq_true rfl) (Nat.le_of_ble_eq_true rfl) dX9_init_51 (fun q126 k127 H hK hP hD hS => ?_)
  have hK : va_K (dC, dI) vwCl [(k102, .int), (k107, .int), (k112, .int), (k117, .int), (k122, .long), (k127, .long)] s := hK
  have hP : va_P (dC, dI) vwCl [(Ad0, .inr (12, s125)), (q101, .inl (k102, 4000, .inl f103)), (q106, .inl (k107, 20, .inl f108)), (q111, .inl (k112, 4001, .inl f113)), (q116, .inl (k117, 4001, .inl f118)), (q121, .inl (k122, 4001, .inr (.inl f123))), (q126, .inl (k127, 29, .inr (.inl ((fun _ : Nat => (0 : Int64))))))] H := hP
  have hD : va_D A [(Ad0, .inr (12, s125)), (q101, .inl (k102, 4000, .inl f103)), (q106, .inl (k107, 20, .inl f108)), (q111, .inl (k112, 4001, .inl f113)), (q116, .inl (k117, 4001, .inl f118)), (q121, .inl (k122, 4001, .inr (.inl f123))), (q126, .inl (k127, 29, .inr (.inl ((fun _ : Nat => (0 : Int64))))))] := hD
  have z129 : ∀ j, (fun _ : Nat => (0 : Int64)) j = 0 := fun _ => rfl
  generalize (fun _ : Nat => (0 : Int64)) = f128 at hP hD z129
  refine W.widen (k := 6) (n := 16052) (by omega) (by omega) ?_
  refine va_putF (D := (dC, dI)) (ci := 12) (v := .ref q126) (ty := .array .long) (C := RX9) (T := TX9) (N := 12) hx hb hts (in_z_X9_init_X9) tyX9 tyX9_ok nmX9 hown hK hP hD hS 0 rfl rfl 3 (by decide) (hts (.fieldLink RX9 28 "HeapWorks$Tape" "keywords" "[J") (by decide +kernel)) (fun _ h9 => h9) rfl hin rfl (by decide +kernel) rfl rfl (by rw [o_s125.2.1]; decide) dX9_init_53 (fun H locs hP hD hS => ?_)
  have hP : va_P (dC, dI) vwCl [(Ad0, .inr (12, (s125.set 3 (.ref q126)))), (q101, .inl (k102, 4000, .inl f103)), (q106, .inl (k107, 20, .inl f108)), (q111, .inl (k112, 4001, .inl f113)), (q116, .inl (k117, 4001, .inl f118)), (q121, .inl (k122, 4001, .inr (.inl f123))), (q126, .inl (k127, 29, .inr (.inl f128)))] H := hP
  have hD : va_D A [(Ad0, .inr (12, (s125.set 3 (.ref q126)))), (q101, .inl (k102, 4000, .inl f103)), (q106, .inl (k107, 20, .inl f108)), (q111, .inl (k112, 4001, .inl f113)), (q116, .inl (k117, 4001, .inl f118)), (q121, .inl (k122, 4001, .inr (.inl f123))), (q126, .inl (k127, 29, .inr (.inl f128)))] := hD
  have o_s130 := ow_set o_s125 3 (.ref q126) (by decide) (l' := [(3, .ref q126), (7, .ref q121), (6, .ref q116), (5, .ref q111), (2, .ref q106), (0, .ref q101)]) (w' := [3, 7, 6, 5, 2, 0]) rfl rfl
  generalize (s125.set 3 (.ref q126)) = s130 at hP hD o_s130
  refine lv_iconst (v := 0) hx hb dX9_init_56 (by decide) ?_
  refine lv_istore_n (lv' := [(1, .int 0), (0, .ref Ad0)]) hx hb dX9_init_57 rfl hl (by decide) rfl (fun ls hl => ?_)
  refine lv_lconst (v := 0) hx hb dX9_init_58 (by decide) ?_
  refine lv_lstore_n (lv' := [(2, .long 0), (1, .int 0), (0, .ref Ad0)]) hx hb dX9_init_59 rfl hl (by decide) rfl (fun ls hl => ?_)
  refine lv_iconst (v := 0) hx hb dX9_init_60 (by decide) ?_
  refine lv_istore (lv' := [(4, .int 0), (2, .long 0), (1, .int 0), (0, .ref Ad0)]) hx hb dX9_init_61 hl (by decide) rfl (fun ls hl => ?_)
  have HL1 : ∀ (n j300 : Nat) (x301 : Int32) (y302 : Int64) (y303 : Int32) (f305 : Nat → Int64), x301 = nI j300 → 0 ≤ j300 → j300 ≤ 143 → 144 ≤ j300 + n → ((0 : Int) ≤ y303.toInt ∧ y303.toInt ≤ 29) → ∀ (H : Heap) (locs : List Loc) (ls : Array Slot), va_P (dC, dI) vwCl [(Ad0, .inr (12, s130)), (q101, .inl (k102, 4000, .inl f103)), (q106, .inl (k107, 20, .inl f108)), (q111, .inl (k112, 4001, .inl f113)), (q116, .inl (k117, 4001, .inl f118)), (q121, .inl (k122, 4001, .inr (.inl f123))), (q126, .inl (k127, 29, .inr (.inl f305)))] H → va_D A [(Ad0, .inr (12, s130)), (q101, .inl (k102, 4000, .inl f103)), (q106, .inl (k107, 20, .inl f108)), (q111, .inl (k112, 4001, .inl f113)), (q116, .inl (k117, 4001, .inl f118)), (q121, .inl (k122, 4001, .inr (.inl f123))), (q126, .inl (k127, 29, .inr (.inl f305)))] → va_S A s.heap H locs → lv_has ls 5 [(4, .int x301), (2, .long y302), (1, .int y303), (0, .ref Ad0)] → W p l e (headSpec w_z_X9_init ({ frames := 4, cells := 6, slots := 16052, locals := 85 })).room s m ([.ref Ad0]).toArray below meth c H locs 6 16052 (MQ below (va_Qv (fun (u : List Value × Nat × (Nat → Int64) × ClassId × Nat × (Nat → Int64) × ClassId × Nat × (Nat → Int32) × ClassId × Nat × (Nat → Int32) × ClassId × Nat × (Nat → Int32) × ClassId × Nat × (Nat → Int32) × ClassId) => match u with | (s130, q126, f305, k127, q121, f123, k122, q116, f118, k117, q111, f113, k112, q106, f108, k107, q101, f103, k102) => (ow Fs0 (s130) 12 [3, 7, 6, 5, 2, 0] [(3, .ref q126), (7, .ref q121), (6, .ref q116), (5, .ref q111), (2, .ref q106), (0, .ref q101)] ∧ (∀ j, f123 j = 0) ∧ (∀ j, f118 j = 0) ∧ (∀ j, f113 j = 0) ∧ (∀ j, f108 j = 0) ∧ (∀ j, f103 j = 0))) (fun (u : List Value × Nat × (Nat → Int64) × ClassId × Nat × (Nat → Int64) × ClassId × Nat × (Nat → Int32) × ClassId × Nat × (Nat → Int32) × ClassId × Nat × (Nat → Int32) × ClassId × Nat × (Nat → Int32) × ClassId) t => match u with | (s130, q126, f305, k127, q121, f123, k122, q116, f118, k117, q111, f113, k112, q106, f108, k107, q101, f103, k102) => Wd dC dI [(k127, .long), (k122, .long), (k117, .int), (k112, .int), (k107, .int), (k102, .int)] A [(Ad0, .inr (12, s130)), (q126, .inl (k127, 29, .inr (.inl f305))), (q121, .inl (k122, 4001, .inr (.inl f123))), (q116, .inl (k117, 4001, .inl f118)), (q111, .inl (k112, 4001, .inl f113)), (q106, .inl (k107, 20, .inl f108)), (q101, .inl (k102, 4000, .inl f103))] t) A) ([.ref Ad0]).toArray s 6 16052 A) (F0 m 63 ls []) := by
    intro n
    induction n with
    | zero =>
      intro j300 x301 y302 y303 f305 e306 h308 h309 h310 i304
      exact absurd h310 (by omega)
    | succ n ih =>
      intro j300 x301 y302 y303 f305 e306 h308 h309 h310 i304 H locs ls hP hD hS hl
      have t307 : x301.toInt = (j300 : Int) := by rw [e306]; exact nI_toInt (by omega)
      refine lv_iload hx hb dX9_init_63 (lv_at hl 0 rfl) ?_
      refine va_ldcS hx hb hown hC.2.1 dX9_init_65 ?_
      have hPc := hP.sub (ws' := []) [] rfl
      have hDc := hD.sub (ws' := []) [] (by decide) rfl
      have hKc := hK.sub (tys' := []) [] rfl
      have hFc := va_free (wc := []) hD hS hA [] rfl
      refine va_calli (va_runV (As := []) (rest := [.int x301]) ⟨hx, hb, hml, hown, hts⟩ (z_J0_length_8abf5 l dC dI H.size adK adV   ) (cwV 0 hts g_z_X9_init_z_J0_length_8abf5_33 rfl rfl rfl (by decide +kernel) ⟨Nat.le_of_ble_eq_true rfl, Nat.le_of_ble_eq_true rfl⟩) ⟨fun a U g mk q => by obtain ⟨q0, q1, qC, qP, qK, qD⟩ := q; exact ⟨q0, q1, Kc_call qC, qP, va_K.moved (u := U) (U := U.calling g mk a) (Vm.Alike.refl U.vm) qK, qD⟩, vk_recv hC.1 (i := 0) (by decide) hS, fun U hU hW => ⟨rfl, by rw [hU], Kc_go hC hS hFc hU hW, by rw [hU]; exact hPc, va_K.moved hW.alike hKc, hDc.weaken (fun _ _ _ _ => trivial)⟩⟩ rfl rfl hl.1 rfl (lv_room (Nat.le_of_ble_eq_true rfl)) dX9_init_67 ⟨Nat.le_of_ble_eq_true rfl, Nat.le_of_ble_eq_true rfl⟩) hS (fun q _ h => hFc q h) hFc (fun r311 u t H1 locs ht hvm hw hB hz1 hk1 hS => ?_)
      obtain ⟨hP1, hK1, hD1⟩ := hB
      rw [ht] at hP1
      try dsimp only at hw
      obtain ⟨hP, hD⟩ := va_join (wr := [(Ad0, .inr (12, s130)), (q101, .inl (k102, 4000, .inl f103)), (q106, .inl (k107, 20, .inl f108)), (q111, .inl (k112, 4001, .inl f113)), (q116, .inl (k117, 4001, .inl f118)), (q121, .inl (k122, 4001, .inr (.inl f123))), (q126, .inl (k127, 29, .inr (.inl f305)))]) (w1 := []) hP hD [] [0, 1, 2, 3, 4, 5, 6] rfl rfl (by decide) (by decide) hk1 hFc hP1 hD1
      have hK := hK.sub (tys' := [(k102, .int), (k107, .int), (k112, .int), (k117, .int), (k122, .long), (k127, .long)]) [0, 1, 2, 3, 4, 5] rfl
      generalize H1 = H at hP hS ⊢
      have hP : va_P (dC, dI) vwCl [(Ad0, .inr (12, s130)), (q101, .inl (k102, 4000, .inl f103)), (q106, .inl (k107, 20, .inl f108)), (q111, .inl (k112, 4001, .inl f113)), (q116, .inl (k117, 4001, .inl f118)), (q121, .inl (k122, 4001, .inr (.inl f123))), (q126, .inl (k127, 29, .inr (.inl f305)))] H := hP
      have hD : va_D A [(Ad0, .inr (12, s130)), (q101, .inl (k102, 4000, .inl f103)), (q106, .inl (k107, 20, .inl f108)), (q111, .inl (k112, 4001, .inl f113)), (q116, .inl (k117, 4001, .inl f118)), (q121, .inl (k122, 4001, .inr (.inl f123))), (q126, .inl (k127, 29, .inr (.inl f305)))] := hD
      have er312 := hw
      subst er312
      refine lv_icmp_ge (tgt := 130) hx hb dX9_init_70 (by decide) (fun c313 => ?_) (fun c313 => ?_)
      · skip
        have hP9 := hP.sub (ws' := [(Ad0, .inr (12, s130)), (q126, .inl (k127, 29, .inr (.inl f305))), (q121, .inl (k122, 4001, .inr (.inl f123))), (q116, .inl (k117, 4001, .inl f118)), (q111, .inl (k112, 4001, .inl f113)), (q106, .inl (k107, 20, .inl f108)), (q101, .inl (k102, 4000, .inl f103))]) [0, 6, 5, 4, 3, 2, 1] rfl
        have hD9 := hD.sub (ws' := [(Ad0, .inr (12, s130)), (q126, .inl (k127, 29, .inr (.inl f305))), (q121, .inl (k122, 4001, .inr (.inl f123))), (q116, .inl (k117, 4001, .inl f118)), (q111, .inl (k112, 4001, .inl f113)), (q106, .inl (k107, 20, .inl f108)), (q101, .inl (k102, 4000, .inl f103))]) [0, 6, 5, 4, 3, 2, 1] (by decide) rfl
        have hK9 := hK.sub (tys' := [(k127, .long), (k122, .long), (k117, .int), (k112, .int), (k107, .int), (k102, .int)]) [5, 4, 3, 2, 1, 0] rfl
        refine W.widen (k := 6) (n := 16052) (by decide) (by decide) ?_
        exact W.vret hx hb hr (fun t ht hW => ⟨⟨(s130, q126, f305, k127, q121, f123, k122, q116, f118, k117, q111, f113, k112, q106, f108, k107, q101, f103, k102), rfl, ⟨o_s130, z124, z119, z114, z109, z104⟩, by rw [ht]; exact hP9, va_K.moved hW.alike hK9, hD9⟩, hS.F ht⟩) hS.2.2 dX9_init_130
      · skip
        refine va_ldcS hx hb hown hC.2.1 dX9_init_73 ?_
        refine lv_iload hx hb dX9_init_75 (lv_at hl 0 rfl) ?_
        have hPc := hP.sub (ws' := []) [] rfl
        have hDc := hD.sub (ws' := []) [] (by decide) rfl
        have hKc := hK.sub (tys' := []) [] rfl
        have hFc := va_free (wc := []) hD hS hA [] rfl
        refine va_calli (va_runV (As := [.int x301]) (rest := []) ⟨hx, hb, hml, hown, hts⟩ (z_J0_charAt_5068e l dC dI H.size adK adV x301  (by (try simp only [i_lt, i_le, i_eq, kc_143] at t307 h309 h308 c313); omega)) (cwV 1 hts g_z_X9_init_z_J0_charAt_5068e_39 rfl rfl rfl (by decide +kernel) ⟨Nat.le_of_ble_eq_true rfl, Nat.le_of_ble_eq_true rfl⟩) ⟨fun a U g mk q => by obtain ⟨q0, q1, qC, qP, qK, qD⟩ := q; exact ⟨q0, q1, Kc_call qC, qP, va_K.moved (u := U) (U := U.calling g mk a) (Vm.Alike.refl U.vm) qK, qD⟩, vk_recv hC.1 (i := 0) (by decide) hS, fun U hU hW => ⟨rfl, by rw [hU], Kc_go hC hS hFc hU hW, by rw [hU]; exact hPc, va_K.moved hW.alike hKc, hDc.weaken (fun _ _ _ _ => trivial)⟩⟩ rfl rfl hl.1 rfl (lv_room (Nat.le_of_ble_eq_true rfl)) dX9_init_77 ⟨Nat.le_of_ble_eq_true rfl, Nat.le_of_ble_eq_true rfl⟩) hS (fun q _ h => hFc q h) hFc (fun r314 u t H1 locs ht hvm hw hB hz1 hk1 hS => ?_)
        obtain ⟨hP1, hK1, hD1⟩ := hB
        rw [ht] at hP1
        try dsimp only at hw
        obtain ⟨hP, hD⟩ := va_join (wr := [(Ad0, .inr (12, s130)), (q101, .inl (k102, 4000, .inl f103)), (q106, .inl (k107, 20, .inl f108)), (q111, .inl (k112, 4001, .inl f113)), (q116, .inl (k117, 4001, .inl f118)), (q121, .inl (k122, 4001, .inr (.inl f123))), (q126, .inl (k127, 29, .inr (.inl f305)))]) (w1 := []) hP hD [] [0, 1, 2, 3, 4, 5, 6] rfl rfl (by decide) (by decide) hk1 hFc hP1 hD1
        have hK := hK.sub (tys' := [(k102, .int), (k107, .int), (k112, .int), (k117, .int), (k122, .long), (k127, .long)]) [0, 1, 2, 3, 4, 5] rfl
        generalize H1 = H at hP hS ⊢
        have hP : va_P (dC, dI) vwCl [(Ad0, .inr (12, s130)), (q101, .inl (k102, 4000, .inl f103)), (q106, .inl (k107, 20, .inl f108)), (q111, .inl (k112, 4001, .inl f113)), (q116, .inl (k117, 4001, .inl f118)), (q121, .inl (k122, 4001, .inr (.inl f123))), (q126, .inl (k127, 29, .inr (.inl f305)))] H := hP
        have hD : va_D A [(Ad0, .inr (12, s130)), (q101, .inl (k102, 4000, .inl f103)), (q106, .inl (k107, 20, .inl f108)), (q111, .inl (k112, 4001, .inl f113)), (q116, .inl (k117, 4001, .inl f118)), (q121, .inl (k122, 4001, .inr (.inl f123))), (q126, .inl (k127, 29, .inr (.inl f305)))] := hD
        obtain ⟨c315, c316, nc317⟩ := hw
        refine lv_bipush (v := 32) hx hb dX9_init_80 (by decide) ?_
        refine lv_icmp_eq (tgt := 106) hx hb dX9_init_82 (by decide) (fun c318 => ?_) (fun c318 => ?_)
        · skip
          refine lv_iload_n hx hb dX9_init_106 rfl (lv_at hl 2 rfl) ?_
          refine lv_bipush (v := 29) hx hb dX9_init_107 (by decide) ?_
          refine lv_icmp_ge (tgt := 124) hx hb dX9_init_109 (by decide) (fun c319 => ?_) (fun c319 => ?_)
          · skip
            obtain ⟨x320, ex320⟩ : ∃ y : Int32, y = x301 + 1 := ⟨_, rfl⟩
            refine lv_iinc (v := x320) (lv' := [(4, .int x320), (2, .long y302), (1, .int y303), (0, .ref Ad0)]) hx hb dX9_init_124 hl (k := 0) rfl (by rw [ex320]; rfl) (by decide) rfl (fun ls hl => ?_)
            have tx320 : x320.toInt = x301.toInt + (1 : Int32).toInt := by rw [ex320]; exact i_add (by have bd_x301 := i_bd x301; (try simp only [i_lt, i_le, i_eq, kc_143, kc_0, kc_1] at t307 h309 h308 c313 c315 c316 ⊢); omega) (by have bd_x301 := i_bd x301; (try simp only [i_lt, i_le, i_eq, kc_143, kc_0, kc_1] at t307 h309 h308 c313 c315 c316 ⊢); omega)
            refine lv_goto (tgt := 63) hx hb dX9_init_127 (by decide) ?_
            exact ih (j300 + 1) x320 y302 y303 f305 (by rw [ex320, e306]; exact nI_1 _) (by omega) (by (try simp only [i_lt, i_le, i_eq, kc_143, kc_0, kc_1] at t307 h309 h308 c313 c315 c316 tx320); omega) (by omega)  (by have bd_y303 := i_bd y303; (try simp only [i_lt, i_le, i_eq, kc_29] at i304 c319); omega) _ _ _ (hP.sub [0, 1, 2, 3, 4, 5, 6] rfl) (hD.sub [0, 1, 2, 3, 4, 5, 6] (by decide) rfl) hS  (lv_sub hl [0, 1, 2, 3] rfl)
          · skip
            refine lv_aload_n hx hb dX9_init_112 rfl (lv_at hl 3 rfl) ?_
            refine va_get (D := (dC, dI)) (ci := 12) (v := .ref q126) (C := RX9) (T := TX9) (N := 12) hx hb hts (in_z_X9_init_X9) hown hK hP 0 rfl rfl 3 (by decide) (hts (.fieldLink RX9 28 "HeapWorks$Tape" "keywords" "[J") (by decide +kernel)) (fun _ h9 => h9) (ow_at o_s130 0 rfl) dX9_init_113 ?_
            refine lv_iload_n hx hb dX9_init_116 rfl (lv_at hl 2 rfl) ?_
            refine lv_lload_n hx hb dX9_init_117 rfl (lv_at hl 1 rfl) ?_
            refine va_last hx hb hK hP hD hS 6 5 rfl rfl (by rw [vp_in_iff]; (try simp only [i_lt, i_le, i_eq, kc_29] at i304 c319); omega) dX9_init_118 (fun H locs hP hD hS => ?_)
            have hP : va_P (dC, dI) vwCl [(Ad0, .inr (12, s130)), (q101, .inl (k102, 4000, .inl f103)), (q106, .inl (k107, 20, .inl f108)), (q111, .inl (k112, 4001, .inl f113)), (q116, .inl (k117, 4001, .inl f118)), (q121, .inl (k122, 4001, .inr (.inl f123))), (q126, .inl (k127, 29, .inr (.inl (vp_updL f305 (y303 : Int32).toNatClampNeg y302))))] H := hP
            have hD : va_D A [(Ad0, .inr (12, s130)), (q101, .inl (k102, 4000, .inl f103)), (q106, .inl (k107, 20, .inl f108)), (q111, .inl (k112, 4001, .inl f113)), (q116, .inl (k117, 4001, .inl f118)), (q121, .inl (k122, 4001, .inr (.inl f123))), (q126, .inl (k127, 29, .inr (.inl (vp_updL f305 (y303 : Int32).toNatClampNeg y302))))] := hD
            have q322 : (vp_updL f305 (y303 : Int32).toNatClampNeg y302) (y303 : Int32).toNatClampNeg = y302 := pk_uLs
            generalize vp_updL f305 (y303 : Int32).toNatClampNeg y302 = f321 at hP hD q322
            refine lv_lconst (v := 0) hx hb dX9_init_119 (by decide) ?_
            refine lv_lstore_n (lv' := [(2, .long 0), (4, .int x301), (1, .int y303), (0, .ref Ad0)]) hx hb dX9_init_120 rfl hl (by decide) rfl (fun ls hl => ?_)
            obtain ⟨x323, ex323⟩ : ∃ y : Int32, y = y303 + 1 := ⟨_, rfl⟩
            refine lv_iinc (v := x323) (lv' := [(1, .int x323), (2, .long 0), (4, .int x301), (0, .ref Ad0)]) hx hb dX9_init_121 hl (k := 2) rfl (by rw [ex323]; rfl) (by decide) rfl (fun ls hl => ?_)
            have tx323 : x323.toInt = y303.toInt + (1 : Int32).toInt := by rw [ex323]; exact i_add (by have bd_y303 := i_bd y303; (try simp only [i_lt, i_le, i_eq, kc_29, kc_1] at i304 c319 ⊢); omega) (by have bd_y303 := i_bd y303; (try simp only [i_lt, i_le, i_eq, kc_29, kc_1] at i304 c319 ⊢); omega)
            obtain ⟨x324, ex324⟩ : ∃ y : Int32, y = x301 + 1 := ⟨_, rfl⟩
            refine lv_iinc (v := x324) (lv' := [(4, .int x324), (1, .int x323), (2, .long 0), (0, .ref Ad0)]) hx hb dX9_init_124 hl (k := 2) rfl (by rw [ex324]; rfl) (by decide) rfl (fun ls hl => ?_)
            have tx324 : x324.toInt = x301.toInt + (1 : Int32).toInt := by rw [ex324]; exact i_add (by have bd_x301 := i_bd x301; (try simp only [i_lt, i_le, i_eq, kc_143, kc_0, kc_1] at t307 h309 h308 c313 c315 c316 ⊢); omega) (by have bd_x301 := i_bd x301; (try simp only [i_lt, i_le, i_eq, kc_143, kc_0, kc_1] at t307 h309 h308 c313 c315 c316 ⊢); omega)
            refine lv_goto (tgt := 63) hx hb dX9_init_127 (by decide) ?_
            exact ih (j300 + 1) x324 (0) x323 f321 (by rw [ex324, e306]; exact nI_1 _) (by omega) (by (try simp only [i_lt, i_le, i_eq, kc_143, kc_0, kc_1] at t307 h309 h308 c313 c315 c316 tx324); omega) (by omega)  (by have bd_x323 := i_bd x323; (try simp only [i_lt, i_le, i_eq, kc_1, kc_29] at tx323 i304 c319); omega) _ _ _ (hP.sub [0, 1, 2, 3, 4, 5, 6] rfl) (hD.sub [0, 1, 2, 3, 4, 5, 6] (by decide) rfl) hS  (lv_sub hl [0, 2, 1, 3] rfl)
        · skip
          refine lv_lload_n hx hb dX9_init_85 rfl (lv_at hl 1 rfl) ?_
          refine lv_ldc2 (v := 64) hx hb hown (hts (.constantLong RX9 43 (64)) (by decide +kernel)) dX9_init_86 ?_
          refine lv_lmul hx hb dX9_init_89  ?_
          refine lv_topl (fun x325 ex325 => ?_)
          refine va_ldcS hx hb hown hC.2.1 dX9_init_90 ?_
          refine lv_iload hx hb dX9_init_92 (lv_at hl 0 rfl) ?_
          have hPc := hP.sub (ws' := []) [] rfl
          have hDc := hD.sub (ws' := []) [] (by decide) rfl
          have hKc := hK.sub (tys' := []) [] rfl
          have hFc := va_free (wc := []) hD hS hA [] rfl
          refine va_calli (va_runV (As := [.int x301]) (rest := [.long x325]) ⟨hx, hb, hml, hown, hts⟩ (z_J0_charAt_5068e l dC dI H.size adK adV x301  (by (try simp only [i_lt, i_le, i_eq, kc_143, kc_0] at t307 h309 h308 c313 c315 c316); omega)) (cwV 1 hts g_z_X9_init_z_J0_charAt_5068e_39 rfl rfl rfl (by decide +kernel) ⟨Nat.le_of_ble_eq_true rfl, Nat.le_of_ble_eq_true rfl⟩) ⟨fun a U g mk q => by obtain ⟨q0, q1, qC, qP, qK, qD⟩ := q; exact ⟨q0, q1, Kc_call qC, qP, va_K.moved (u := U) (U := U.calling g mk a) (Vm.Alike.refl U.vm) qK, qD⟩, vk_recv hC.1 (i := 0) (by decide) hS, fun U hU hW => ⟨rfl, by rw [hU], Kc_go hC hS hFc hU hW, by rw [hU]; exact hPc, va_K.moved hW.alike hKc, hDc.weaken (fun _ _ _ _ => trivial)⟩⟩ rfl rfl hl.1 rfl (lv_room (Nat.le_of_ble_eq_true rfl)) dX9_init_94 ⟨Nat.le_of_ble_eq_true rfl, Nat.le_of_ble_eq_true rfl⟩) hS (fun q _ h => hFc q h) hFc (fun r326 u t H1 locs ht hvm hw hB hz1 hk1 hS => ?_)
          obtain ⟨hP1, hK1, hD1⟩ := hB
          rw [ht] at hP1
          try dsimp only at hw
          obtain ⟨hP, hD⟩ := va_join (wr := [(Ad0, .inr (12, s130)), (q101, .inl (k102, 4000, .inl f103)), (q106, .inl (k107, 20, .inl f108)), (q111, .inl (k112, 4001, .inl f113)), (q116, .inl (k117, 4001, .inl f118)), (q121, .inl (k122, 4001, .inr (.inl f123))), (q126, .inl (k127, 29, .inr (.inl f305)))]) (w1 := []) hP hD [] [0, 1, 2, 3, 4, 5, 6] rfl rfl (by decide) (by decide) hk1 hFc hP1 hD1
          have hK := hK.sub (tys' := [(k102, .int), (k107, .int), (k112, .int), (k117, .int), (k122, .long), (k127, .long)]) [0, 1, 2, 3, 4, 5] rfl
          generalize H1 = H at hP hS ⊢
          have hP : va_P (dC, dI) vwCl [(Ad0, .inr (12, s130)), (q101, .inl (k102, 4000, .inl f103)), (q106, .inl (k107, 20, .inl f108)), (q111, .inl (k112, 4001, .inl f113)), (q116, .inl (k117, 4001, .inl f118)), (q121, .inl (k122, 4001, .inr (.inl f123))), (q126, .inl (k127, 29, .inr (.inl f305)))] H := hP
          have hD : va_D A [(Ad0, .inr (12, s130)), (q101, .inl (k102, 4000, .inl f103)), (q106, .inl (k107, 20, .inl f108)), (q111, .inl (k112, 4001, .inl f113)), (q116, .inl (k117, 4001, .inl f118)), (q121, .inl (k122, 4001, .inr (.inl f123))), (q126, .inl (k127, 29, .inr (.inl f305)))] := hD
          obtain ⟨c327, c328, nc329⟩ := hw
          have hPc := hP.sub (ws' := []) [] rfl
          have hDc := hD.sub (ws' := []) [] (by decide) rfl
          have hKc := hK.sub (tys' := []) [] rfl
          have hFc := va_free (wc := []) hD hS hA [] rfl
          refine va_calli (va_runS (As := [.int r326]) (rest := [.long x325]) ⟨hx, hb, hml, hown, hts⟩ (z_X9_symbolOf l dC dI H.size r326  ) (cwS 1 hts g_z_X9_init_z_X9_symbolOf_45 rfl rfl rfl (by decide +kernel) ⟨Nat.le_of_ble_eq_true rfl, Nat.le_of_ble_eq_true rfl⟩) ⟨fun a U g mk q => by obtain ⟨q0, q1, qP, qK, qD⟩ := q; exact ⟨q0, q1, qP, va_K.moved (u := U) (U := U.calling g mk a) (Vm.Alike.refl U.vm) qK, qD⟩, fun U hU hW => ⟨rfl, by rw [hU], by rw [hU]; exact hPc, va_K.moved hW.alike hKc, hDc.weaken (fun _ _ _ _ => trivial)⟩⟩ rfl rfl hl.1 rfl (lv_room (Nat.le_of_ble_eq_true rfl)) dX9_init_97 ⟨Nat.le_of_ble_eq_true rfl, Nat.le_of_ble_eq_true rfl⟩) hS (fun q _ h => hFc q h) hFc (fun r330 u t H1 locs ht hvm hw hB hz1 hk1 hS => ?_)
          obtain ⟨hP1, hK1, hD1⟩ := hB
          rw [ht] at hP1
          try dsimp only at hw
          obtain ⟨hP, hD⟩ := va_join (wr := [(Ad0, .inr (12, s130)), (q101, .inl (k102, 4000, .inl f103)), (q106, .inl (k107, 20, .inl f108)), (q111, .inl (k112, 4001, .inl f113)), (q116, .inl (k117, 4001, .inl f118)), (q121, .inl (k122, 4001, .inr (.inl f123))), (q126, .inl (k127, 29, .inr (.inl f305)))]) (w1 := []) hP hD [] [0, 1, 2, 3, 4, 5, 6] rfl rfl (by decide) (by decide) hk1 hFc hP1 hD1
          have hK := hK.sub (tys' := [(k102, .int), (k107, .int), (k112, .int), (k117, .int), (k122, .long), (k127, .long)]) [0, 1, 2, 3, 4, 5] rfl
          generalize H1 = H at hP hS ⊢
          have hP : va_P (dC, dI) vwCl [(Ad0, .inr (12, s130)), (q101, .inl (k102, 4000, .inl f103)), (q106, .inl (k107, 20, .inl f108)), (q111, .inl (k112, 4001, .inl f113)), (q116, .inl (k117, 4001, .inl f118)), (q121, .inl (k122, 4001, .inr (.inl f123))), (q126, .inl (k127, 29, .inr (.inl f305)))] H := hP
          have hD : va_D A [(Ad0, .inr (12, s130)), (q101, .inl (k102, 4000, .inl f103)), (q106, .inl (k107, 20, .inl f108)), (q111, .inl (k112, 4001, .inl f113)), (q116, .inl (k117, 4001, .inl f118)), (q121, .inl (k122, 4001, .inr (.inl f123))), (q126, .inl (k127, 29, .inr (.inl f305)))] := hD
          rcases hw with ⟨c331, c332, c333, er334⟩ | ⟨c335, c336, c337, c338, er339⟩ | ⟨c340, c341, c342, c343, er344⟩ | ⟨c345, c346, c347, c348, c349, er350⟩ | ⟨c351, c352, c353, c354, c355, c356, er357⟩ | ⟨c358, c359, c360, c361, er362⟩ | ⟨c363, c364, er365⟩
          · skip
            subst er334
            refine lv_i2l hx hb dX9_init_100 rfl ?_
            refine lv_topl (fun x366 ex366 => ?_)
            obtain rfl : x366 = 0 := ex366.trans (by decide)
            refine lv_ladd hx hb dX9_init_101  ?_
            refine lv_topl (fun x367 ex367 => ?_)
            refine lv_lstore_n (lv' := [(2, .long x367), (4, .int x301), (1, .int y303), (0, .ref Ad0)]) hx hb dX9_init_102 rfl hl (by decide) rfl (fun ls hl => ?_)
            refine lv_goto (tgt := 124) hx hb dX9_init_103 (by decide) ?_
            obtain ⟨x368, ex368⟩ : ∃ y : Int32, y = x301 + 1 := ⟨_, rfl⟩
            refine lv_iinc (v := x368) (lv' := [(4, .int x368), (2, .long x367), (1, .int y303), (0, .ref Ad0)]) hx hb dX9_init_124 hl (k := 1) rfl (by rw [ex368]; rfl) (by decide) rfl (fun ls hl => ?_)
            have tx368 : x368.toInt = x301.toInt + (1 : Int32).toInt := by rw [ex368]; exact i_add (by have bd_x301 := i_bd x301; (try simp only [i_lt, i_le, i_eq, kc_143, kc_0, kc_1] at t307 h309 h308 c313 c315 c316 c327 c328 ⊢); omega) (by have bd_x301 := i_bd x301; (try simp only [i_lt, i_le, i_eq, kc_143, kc_0, kc_1] at t307 h309 h308 c313 c315 c316 c327 c328 ⊢); omega)
            refine lv_goto (tgt := 63) hx hb dX9_init_127 (by decide) ?_
            exact ih (j300 + 1) x368 x367 y303 f305 (by rw [ex368, e306]; exact nI_1 _) (by omega) (by (try simp only [i_lt, i_le, i_eq, kc_143, kc_0, kc_1] at t307 h309 h308 c313 c315 c316 c327 c328 tx368); omega) (by omega)  (by have bd_y303 := i_bd y303; (try simp only [i_lt, i_le, i_eq] at i304); omega) _ _ _ (hP.sub [0, 1, 2, 3, 4, 5, 6] rfl) (hD.sub [0, 1, 2, 3, 4, 5, 6] (by decide) rfl) hS  (lv_sub hl [0, 1, 2, 3] rfl)
          · skip
            subst er339
            refine lv_i2l hx hb dX9_init_100 rfl ?_
            refine lv_topl (fun x369 ex369 => ?_)
            obtain rfl : x369 = 0 := ex369.trans (by decide)
            refine lv_ladd hx hb dX9_init_101  ?_
            refine lv_topl (fun x370 ex370 => ?_)
            refine lv_lstore_n (lv' := [(2, .long x370), (4, .int x301), (1, .int y303), (0, .ref Ad0)]) hx hb dX9_init_102 rfl hl (by decide) rfl (fun ls hl => ?_)
            refine lv_goto (tgt := 124) hx hb dX9_init_103 (by decide) ?_
            obtain ⟨x371, ex371⟩ : ∃ y : Int32, y = x301 + 1 := ⟨_, rfl⟩
            refine lv_iinc (v := x371) (lv' := [(4, .int x371), (2, .long x370), (1, .int y303), (0, .ref Ad0)]) hx hb dX9_init_124 hl (k := 1) rfl (by rw [ex371]; rfl) (by decide) rfl (fun ls hl => ?_)
            have tx371 : x371.toInt = x301.toInt + (1 : Int32).toInt := by rw [ex371]; exact i_add (by have bd_x301 := i_bd x301; (try simp only [i_lt, i_le, i_eq, kc_143, kc_0, kc_1] at t307 h309 h308 c313 c315 c316 c327 c328 ⊢); omega) (by have bd_x301 := i_bd x301; (try simp only [i_lt, i_le, i_eq, kc_143, kc_0, kc_1] at t307 h309 h308 c313 c315 c316 c327 c328 ⊢); omega)
            refine lv_goto (tgt := 63) hx hb dX9_init_127 (by decide) ?_
            exact ih (j300 + 1) x371 x370 y303 f305 (by rw [ex371, e306]; exact nI_1 _) (by omega) (by (try simp only [i_lt, i_le, i_eq, kc_143, kc_0, kc_1] at t307 h309 h308 c313 c315 c316 c327 c328 tx371); omega) (by omega)  (by have bd_y303 := i_bd y303; (try simp only [i_lt, i_le, i_eq] at i304); omega) _ _ _ (hP.sub [0, 1, 2, 3, 4, 5, 6] rfl) (hD.sub [0, 1, 2, 3, 4, 5, 6] (by decide) rfl) hS  (lv_sub hl [0, 1, 2, 3] rfl)
          · skip
            have er330 := er344
            refine lv_i2l hx hb dX9_init_100 rfl ?_
            refine lv_topl (fun x372 ex372 => ?_)
            refine lv_ladd hx hb dX9_init_101  ?_
            refine lv_topl (fun x373 ex373 => ?_)
            refine lv_lstore_n (lv' := [(2, .long x373), (4, .int x301), (1, .int y303), (0, .ref Ad0)]) hx hb dX9_init_102 rfl hl (by decide) rfl (fun ls hl => ?_)
            refine lv_goto (tgt := 124) hx hb dX9_init_103 (by decide) ?_
            obtain ⟨x374, ex374⟩ : ∃ y : Int32, y = x301 + 1 := ⟨_, rfl⟩
            refine lv_iinc (v := x374) (lv' := [(4, .int x374), (2, .long x373), (1, .int y303), (0, .ref Ad0)]) hx hb dX9_init_124 hl (k := 1) rfl (by rw [ex374]; rfl) (by decide) rfl (fun ls hl => ?_)
            have tx374 : x374.toInt = x301.toInt + (1 : Int32).toInt := by rw [ex374]; exact i_add (by have bd_x301 := i_bd x301; (try simp only [i_lt, i_le, i_eq, kc_143, kc_0, kc_1] at t307 h309 h308 c313 c315 c316 c327 c328 ⊢); omega) (by have bd_x301 := i_bd x301; (try simp only [i_lt, i_le, i_eq, kc_143, kc_0, kc_1] at t307 h309 h308 c313 c315 c316 c327 c328 ⊢); omega)
            refine lv_goto (tgt := 63) hx hb dX9_init_127 (by decide) ?_
            exact ih (j300 + 1) x374 x373 y303 f305 (by rw [ex374, e306]; exact nI_1 _) (by omega) (by (try simp only [i_lt, i_le, i_eq, kc_143, kc_0, kc_1] at t307 h309 h308 c313 c315 c316 c327 c328 tx374); omega) (by omega)  (by have bd_y303 := i_bd y303; (try simp only [i_lt, i_le, i_eq] at i304); omega) _ _ _ (hP.sub [0, 1, 2, 3, 4, 5, 6] rfl) (hD.sub [0, 1, 2, 3, 4, 5, 6] (by decide) rfl) hS  (lv_sub hl [0, 1, 2, 3] rfl)
          · skip
            subst er350
            refine lv_i2l hx hb dX9_init_100 rfl ?_
            refine lv_topl (fun x375 ex375 => ?_)
            obtain rfl : x375 = 0 := ex375.trans (by decide)
            refine lv_ladd hx hb dX9_init_101  ?_
            refine lv_topl (fun x376 ex376 => ?_)
            refine lv_lstore_n (lv' := [(2, .long x376), (4, .int x301), (1, .int y303), (0, .ref Ad0)]) hx hb dX9_init_102 rfl hl (by decide) rfl (fun ls hl => ?_)
            refine lv_goto (tgt := 124) hx hb dX9_init_103 (by decide) ?_
            obtain ⟨x377, ex377⟩ : ∃ y : Int32, y = x301 + 1 := ⟨_, rfl⟩
            refine lv_iinc (v := x377) (lv' := [(4, .int x377), (2, .long x376), (1, .int y303), (0, .ref Ad0)]) hx hb dX9_init_124 hl (k := 1) rfl (by rw [ex377]; rfl) (by decide) rfl (fun ls hl => ?_)
            have tx377 : x377.toInt = x301.toInt + (1 : Int32).toInt := by rw [ex377]; exact i_add (by have bd_x301 := i_bd x301; (try simp only [i_lt, i_le, i_eq, kc_143, kc_0, kc_1] at t307 h309 h308 c313 c315 c316 c327 c328 ⊢); omega) (by have bd_x301 := i_bd x301; (try simp only [i_lt, i_le, i_eq, kc_143, kc_0, kc_1] at t307 h309 h308 c313 c315 c316 c327 c328 ⊢); omega)
            refine lv_goto (tgt := 63) hx hb dX9_init_127 (by decide) ?_
            exact ih (j300 + 1) x377 x376 y303 f305 (by rw [ex377, e306]; exact nI_1 _) (by omega) (by (try simp only [i_lt, i_le, i_eq, kc_143, kc_0, kc_1] at t307 h309 h308 c313 c315 c316 c327 c328 tx377); omega) (by omega)  (by have bd_y303 := i_bd y303; (try simp only [i_lt, i_le, i_eq] at i304); omega) _ _ _ (hP.sub [0, 1, 2, 3, 4, 5, 6] rfl) (hD.sub [0, 1, 2, 3, 4, 5, 6] (by decide) rfl) hS  (lv_sub hl [0, 1, 2, 3] rfl)
          · skip
            subst er357
            refine lv_i2l hx hb dX9_init_100 rfl ?_
            refine lv_topl (fun x378 ex378 => ?_)
            obtain rfl : x378 = 0 := ex378.trans (by decide)
            refine lv_ladd hx hb dX9_init_101  ?_
            refine lv_topl (fun x379 ex379 => ?_)
            refine lv_lstore_n (lv' := [(2, .long x379), (4, .int x301), (1, .int y303), (0, .ref Ad0)]) hx hb dX9_init_102 rfl hl (by decide) rfl (fun ls hl => ?_)
            refine lv_goto (tgt := 124) hx hb dX9_init_103 (by decide) ?_
            obtain ⟨x380, ex380⟩ : ∃ y : Int32, y = x301 + 1 := ⟨_, rfl⟩
            refine lv_iinc (v := x380) (lv' := [(4, .int x380), (2, .long x379), (1, .int y303), (0, .ref Ad0)]) hx hb dX9_init_124 hl (k := 1) rfl (by rw [ex380]; rfl) (by decide) rfl (fun ls hl => ?_)
            have tx380 : x380.toInt = x301.toInt + (1 : Int32).toInt := by rw [ex380]; exact i_add (by have bd_x301 := i_bd x301; (try simp only [i_lt, i_le, i_eq, kc_143, kc_0, kc_1] at t307 h309 h308 c313 c315 c316 c327 c328 ⊢); omega) (by have bd_x301 := i_bd x301; (try simp only [i_lt, i_le, i_eq, kc_143, kc_0, kc_1] at t307 h309 h308 c313 c315 c316 c327 c328 ⊢); omega)
            refine lv_goto (tgt := 63) hx hb dX9_init_127 (by decide) ?_
            exact ih (j300 + 1) x380 x379 y303 f305 (by rw [ex380, e306]; exact nI_1 _) (by omega) (by (try simp only [i_lt, i_le, i_eq, kc_143, kc_0, kc_1] at t307 h309 h308 c313 c315 c316 c327 c328 tx380); omega) (by omega)  (by have bd_y303 := i_bd y303; (try simp only [i_lt, i_le, i_eq] at i304); omega) _ _ _ (hP.sub [0, 1, 2, 3, 4, 5, 6] rfl) (hD.sub [0, 1, 2, 3, 4, 5, 6] (by decide) rfl) hS  (lv_sub hl [0, 1, 2, 3] rfl)
          · skip
            have er330 := er362
            refine lv_i2l hx hb dX9_init_100 rfl ?_
            refine lv_topl (fun x381 ex381 => ?_)
            refine lv_ladd hx hb dX9_init_101  ?_
            refine lv_topl (fun x382 ex382 => ?_)
            refine lv_lstore_n (lv' := [(2, .long x382), (4, .int x301), (1, .int y303), (0, .ref Ad0)]) hx hb dX9_init_102 rfl hl (by decide) rfl (fun ls hl => ?_)
            refine lv_goto (tgt := 124) hx hb dX9_init_103 (by decide) ?_
            obtain ⟨x383, ex383⟩ : ∃ y : Int32, y = x301 + 1 := ⟨_, rfl⟩
            refine lv_iinc (v := x383) (lv' := [(4, .int x383), (2, .long x382), (1, .int y303), (0, .ref Ad0)]) hx hb dX9_init_124 hl (k := 1) rfl (by rw [ex383]; rfl) (by decide) rfl (fun ls hl => ?_)
            have tx383 : x383.toInt = x301.toInt + (1 : Int32).toInt := by rw [ex383]; exact i_add (by have bd_x301 := i_bd x301; (try simp only [i_lt, i_le, i_eq, kc_143, kc_0, kc_1] at t307 h309 h308 c313 c315 c316 c327 c328 ⊢); omega) (by have bd_x301 := i_bd x301; (try simp only [i_lt, i_le, i_eq, kc_143, kc_0, kc_1] at t307 h309 h308 c313 c315 c316 c327 c328 ⊢); omega)
            refine lv_goto (tgt := 63) hx hb dX9_init_127 (by decide) ?_
            exact ih (j300 + 1) x383 x382 y303 f305 (by rw [ex383, e306]; exact nI_1 _) (by omega) (by (try simp only [i_lt, i_le, i_eq, kc_143, kc_0, kc_1] at t307 h309 h308 c313 c315 c316 c327 c328 tx383); omega) (by omega)  (by have bd_y303 := i_bd y303; (try simp only [i_lt, i_le, i_eq] at i304); omega) _ _ _ (hP.sub [0, 1, 2, 3, 4, 5, 6] rfl) (hD.sub [0, 1, 2, 3, 4, 5, 6] (by decide) rfl) hS  (lv_sub hl [0, 1, 2, 3] rfl)
          · skip
            have er330 := er365
            refine lv_i2l hx hb dX9_init_100 rfl ?_
            refine lv_topl (fun x384 ex384 => ?_)
            refine lv_ladd hx hb dX9_init_101  ?_
            refine lv_topl (fun x385 ex385 => ?_)
            refine lv_lstore_n (lv' := [(2, .long x385), (4, .int x301), (1, .int y303), (0, .ref Ad0)]) hx hb dX9_init_102 rfl hl (by decide) rfl (fun ls hl => ?_)
            refine lv_goto (tgt := 124) hx hb dX9_init_103 (by decide) ?_
            obtain ⟨x386, ex386⟩ : ∃ y : Int32, y = x301 + 1 := ⟨_, rfl⟩
            refine lv_iinc (v := x386) (lv' := [(4, .int x386), (2, .long x385), (1, .int y303), (0, .ref Ad0)]) hx hb dX9_init_124 hl (k := 1) rfl (by rw [ex386]; rfl) (by decide) rfl (fun ls hl => ?_)
            have tx386 : x386.toInt = x301.toInt + (1 : Int32).toInt := by rw [ex386]; exact i_add (by have bd_x301 := i_bd x301; (try simp only [i_lt, i_le, i_eq, kc_143, kc_0, kc_1] at t307 h309 h308 c313 c315 c316 c327 c328 ⊢); omega) (by have bd_x301 := i_bd x301; (try simp only [i_lt, i_le, i_eq, kc_143, kc_0, kc_1] at t307 h309 h308 c313 c315 c316 c327 c328 ⊢); omega)
            refine lv_goto (tgt := 63) hx hb dX9_init_127 (by decide) ?_
            exact ih (j300 + 1) x386 x385 y303 f305 (by rw [ex386, e306]; exact nI_1 _) (by omega) (by (try simp only [i_lt, i_le, i_eq, kc_143, kc_0, kc_1] at t307 h309 h308 c313 c315 c316 c327 c328 tx386); omega) (by omega)  (by have bd_y303 := i_bd y303; (try simp only [i_lt, i_le, i_eq] at i304); omega) _ _ _ (hP.sub [0, 1, 2, 3, 4, 5, 6] rfl) (hD.sub [0, 1, 2, 3, 4, 5, 6] (by decide) rfl) hS  (lv_sub hl [0, 1, 2, 3] rfl)
  exact HL1 144 0 (0) (0) (0) f128 (by decide) (by omega) (by omega) (by omega) (by decide) _ _ _ hP hD hS  hl

def l_z_X10_init : List Cond := [.methodLink RX10 5 objectInit, .instanceMethod objectInit, .code objectInit ⟨#[0xb1]⟩ 1 none, .arrayClass .long, .fieldLink RX10 11 "HeapWorks$Types" "name" "[J", .arrayClass .int, .fieldLink RX10 15 "HeapWorks$Types" "loader" "[I", .fieldLink RX10 19 "HeapWorks$Types" "parent" "[I", .arrayClass .boolean, .fieldLink RX10 22 "HeapWorks$Types" "used" "[Z", .fieldLink RX10 26 "HeapWorks$Types" "apart" "[Z", .fieldLink RX10 29 "HeapWorks$Types" "fieldCount" "[I", .fieldLink RX10 32 "HeapWorks$Types" "staticCount" "[I", .fieldLink RX10 35 "HeapWorks$Types" "slotCount" "[I", .fieldLink RX10 38 "HeapWorks$Types" "fieldsEnd" "[I", .fieldLink RX10 41 "HeapWorks$Types" "fieldName" "[J", .fieldLink RX10 44 "HeapWorks$Types" "fieldKind" "[I", .fieldLink RX10 47 "HeapWorks$Types" "fieldLink" "[I", .fieldLink RX10 50 "HeapWorks$Types" "fieldStatic" "[Z", .fieldLink RX10 53 "HeapWorks$Types" "fieldPlace" "[I", .fieldLink RX10 56 "HeapWorks$Types" "slotName" "[J", .fieldLink RX10 59 "HeapWorks$Types" "slotKind" "[I", .fieldLink RX10 62 "HeapWorks$Types" "slotLink" "[I"]
def w_z_X10_init : List Cond := .code yX10_init cX10_init 1 none :: (l_z_X10_init ++ (wsX100))
theorem in_z_X10_init_X10 : ∀ w ∈ wsX100, w ∈ w_z_X10_init := fun w h => List.mem_cons_of_mem _ (List.mem_append_right _ (h))
set_option maxHeartbeats 4000000 in
set_option maxRecDepth 100000 in
theorem z_X10_init (l : Launch) (dC : Nat → ClassId) (dI : Nat → Nat → Nat) (sz : Nat) (Ad0 : Nat) (Fs0 : List Value) (k_Fs0 : fh Fs0 18 [])  : Met l yX10_init w_z_X10_init ({ frames := 1, cells := 17, slots := 5232, locals := 24 }) (va_Pc [.ref Ad0] (fun U => U.heap.size = sz ∧ Wd dC dI [] (fun _ => True) [(Ad0, .inr (13, Fs0))] U)) (va_Qv (fun (u : List Value) => ow Fs0 (u) 18 [17, 16, 15, 14, 13, 12, 11, 10, 9, 8, 7, 6, 5, 4, 3, 2, 1] []) (fun (u : List Value) t => Wd dC dI [] (va_A [(Ad0, .inr (13, Fs0))] sz) [(Ad0, .inr (13, (u)))] t) (va_A [(Ad0, .inr (13, Fs0))] sz))  17 5232 (va_A [(Ad0, .inr (13, Fs0))] sz) := by
  refine Met.ofW (cc := cX10_init) (maxL := 1) (ret := none) (by decide) rfl ?_
  intro p e s m args below meth c s₁ B hml hv
  obtain ⟨rfl, hsz, hP, hK, hD0⟩ := hv
  have hx := B.exec
  have hb := B.bytes
  have hr := B.returns
  have hts := atoms_spec (ws := w_z_X10_init) B.pre
  have hown : s.vm.findClass RX10 = some m.cls := findClass_of_methodNamed B.named
  have hlocks := B.notSynchronized
  have hin : meth.name = "<init>" := (name_of_methodNamed B.named B.method).1
  subst hsz
  have hD := hD0.self (sz := s.heap.size)
  generalize hAe : va_A [(Ad0, .inr (13, Fs0))] s.heap.size = A at hD ⊢
  have hA : ∀ q : Nat, s.heap.size ≤ q → A q := fun q h => by rw [← hAe]; exact Or.inr h
  have hS : va_S A s.heap s.heap [] := va_S.rf
  have hl := lv_entry ([.ref Ad0]) (n := 1) (Nat.le_of_ble_eq_true rfl)
  rw [lg_entry_eq]
  generalize (lg_sl ([.ref Ad0]) ++ List.replicate (1 - (lg_sl ([.ref Ad0])).length) Slot.unset).toArray = ls at hl ⊢
  have hl : lv_has ls 1 [(0, .ref Ad0)] := hl
  have o_Fs0 := ow_0 k_Fs0
  refine lv_aload_n hx hb dX10_init_0 rfl (lv_at hl 0 rfl) ?_
  refine W.objInit hx hb hown (hts (.methodLink RX10 5 objectInit) (by decide +kernel)) (hts (.instanceMethod objectInit) (by decide +kernel)) (hts (.code objectInit ⟨#[0xb1]⟩ 1 none) (by decide +kernel)) rfl (by rw [hml]; exact hl.1) rfl dX10_init_1 (Nat.le_of_ble_eq_true rfl) (Nat.le_of_ble_eq_true rfl) ?_
  refine W.eq (g2 := F0 m 4 ls []) rfl ?_
  refine lv_aload_n hx hb dX10_init_4 rfl (lv_at hl 0 rfl) ?_
  refine lv_bipush (v := 16) hx hb dX10_init_5 (by decide) ?_
  refine va_newa (atype := .long) (ty := .long) (a0 := (16, .inr (.inl (fun _ : Nat => (0 : Int64))))) (N' := 16) hx hb (hts (.arrayClass .long) (by decide +kernel)) rfl hK hP hD hS hA (na_J 16) (by decide) (by decide) (by decide) (Nat.le_of_ble_eq_true rfl) (Nat.le_of_ble_eq_true rfl) dX10_init_7 (fun q101 k102 H hK hP hD hS => ?_)
  have hK : va_K (dC, dI) vwCl [(k102, .long)] s := hK
  have hP : va_P (dC, dI) vwCl [(Ad0, .inr (13, Fs0)), (q101, .inl (k102, 16, .inr (.inl ((fun _ : Nat => (0 : Int64))))))] H := hP
  have hD : va_D A [(Ad0, .inr (13, Fs0)), (q101, .inl (k102, 16, .inr (.inl ((fun _ : Nat => (0 : Int64))))))] := hD
  have z104 : ∀ j, (fun _ : Nat => (0 : Int64)) j = 0 := fun _ => rfl
  generalize (fun _ : Nat => (0 : Int64)) = f103 at hP hD z104
  refine W.widen (k := 1) (n := 16) (by omega) (by omega) ?_
  refine va_putF (D := (dC, dI)) (ci := 13) (v := .ref q101) (ty := .array .long) (C := RX10) (T := TX10) (N := 18) hx hb hts (in_z_X10_init_X10) tyX10 tyX10_ok nmX10 hown hK hP hD hS 0 rfl rfl 1 (by decide) (hts (.fieldLink RX10 11 "HeapWorks$Types" "name" "[J") (by decide +kernel)) (fun _ h9 => h9) rfl hin rfl (by decide +kernel) rfl rfl (by rw [o_Fs0.2.1]; decide) dX10_init_9 (fun H locs hP hD hS => ?_)
  have hP : va_P (dC, dI) vwCl [(Ad0, .inr (13, (Fs0.set 1 (.ref q101)))), (q101, .inl (k102, 16, .inr (.inl f103)))] H := hP
  have hD : va_D A [(Ad0, .inr (13, (Fs0.set 1 (.ref q101)))), (q101, .inl (k102, 16, .inr (.inl f103)))] := hD
  have o_s105 := ow_set o_Fs0 1 (.ref q101) (by decide) (l' := [(1, .ref q101)]) (w' := [1]) rfl rfl
  generalize (Fs0.set 1 (.ref q101)) = s105 at hP hD o_s105
  have hP := hP.sub (ws' := [(Ad0, .inr (13, s105))]) [0] rfl
  have hD := hD.sub (ws' := [(Ad0, .inr (13, s105))]) [0] (by decide) rfl
  have hK := hK.sub (tys' := []) [] rfl
  refine lv_aload_n hx hb dX10_init_12 rfl (lv_at hl 0 rfl) ?_
  refine lv_bipush (v := 16) hx hb dX10_init_13 (by decide) ?_
  refine va_newa (atype := .int) (ty := .int) (a0 := (16, .inl (fun _ : Nat => (0 : Int32)))) (N' := 16) hx hb (hts (.arrayClass .int) (by decide +kernel)) rfl hK hP hD hS hA (na_I 16) (by decide) (by decide) (by decide) (Nat.le_of_ble_eq_true rfl) (Nat.le_of_ble_eq_true rfl) dX10_init_15 (fun q106 k107 H hK hP hD hS => ?_)
  have hK : va_K (dC, dI) vwCl [(k107, .int)] s := hK
  have hP : va_P (dC, dI) vwCl [(Ad0, .inr (13, s105)), (q106, .inl (k107, 16, .inl ((fun _ : Nat => (0 : Int32)))))] H := hP
  have hD : va_D A [(Ad0, .inr (13, s105)), (q106, .inl (k107, 16, .inl ((fun _ : Nat => (0 : Int32)))))] := hD
  have z109 : ∀ j, (fun _ : Nat => (0 : Int32)) j = 0 := fun _ => rfl
  generalize (fun _ : Nat => (0 : Int32)) = f108 at hP hD z109
  refine W.widen (k := 2) (n := 32) (by omega) (by omega) ?_
  refine va_putF (D := (dC, dI)) (ci := 13) (v := .ref q106) (ty := .array .int) (C := RX10) (T := TX10) (N := 18) hx hb hts (in_z_X10_init_X10) tyX10 tyX10_ok nmX10 hown hK hP hD hS 0 rfl rfl 2 (by decide) (hts (.fieldLink RX10 15 "HeapWorks$Types" "loader" "[I") (by decide +kernel)) (fun _ h9 => h9) rfl hin rfl (by decide +kernel) rfl rfl (by rw [o_s105.2.1]; decide) dX10_init_17 (fun H locs hP hD hS => ?_)
  have hP : va_P (dC, dI) vwCl [(Ad0, .inr (13, (s105.set 2 (.ref q106)))), (q106, .inl (k107, 16, .inl f108))] H := hP
  have hD : va_D A [(Ad0, .inr (13, (s105.set 2 (.ref q106)))), (q106, .inl (k107, 16, .inl f108))] := hD
  have o_s110 := ow_set o_s105 2 (.ref q106) (by decide) (l' := [(2, .ref q106), (1, .ref q101)]) (w' := [2, 1]) rfl rfl
  generalize (s105.set 2 (.ref q106)) = s110 at hP hD o_s110
  have hP := hP.sub (ws' := [(Ad0, .inr (13, s110))]) [0] rfl
  have hD := hD.sub (ws' := [(Ad0, .inr (13, s110))]) [0] (by decide) rfl
  have hK := hK.sub (tys' := []) [] rfl
  refine lv_aload_n hx hb dX10_init_20 rfl (lv_at hl 0 rfl) ?_
  refine lv_bipush (v := 16) hx hb dX10_init_21 (by decide) ?_
  refine va_newa (atype := .int) (ty := .int) (a0 := (16, .inl (fun _ : Nat => (0 : Int32)))) (N' := 16) hx hb (hts (.arrayClass .int) (by decide +kernel)) rfl hK hP hD hS hA (na_I 16) (by decide) (by decide) (by decide) (Nat.le_of_ble_eq_true rfl) (Nat.le_of_ble_eq_true rfl) dX10_init_23 (fun q111 k112 H hK hP hD hS => ?_)
  have hK : va_K (dC, dI) vwCl [(k112, .int)] s := hK
  have hP : va_P (dC, dI) vwCl [(Ad0, .inr (13, s110)), (q111, .inl (k112, 16, .inl ((fun _ : Nat => (0 : Int32)))))] H := hP
  have hD : va_D A [(Ad0, .inr (13, s110)), (q111, .inl (k112, 16, .inl ((fun _ : Nat => (0 : Int32)))))] := hD
  have z114 : ∀ j, (fun _ : Nat => (0 : Int32)) j = 0 := fun _ => rfl
  generalize (fun _ : Nat => (0 : Int32)) = f113 at hP hD z114
  refine W.widen (k := 3) (n := 48) (by omega) (by omega) ?_
  refine va_putF (D := (dC, dI)) (ci := 13) (v := .ref q111) (ty := .array .int) (C := RX10) (T := TX10) (N := 18) hx hb hts (in_z_X10_init_X10) tyX10 tyX10_ok nmX10 hown hK hP hD hS 0 rfl rfl 3 (by decide) (hts (.fieldLink RX10 19 "HeapWorks$Types" "parent" "[I") (by decide +kernel)) (fun _ h9 => h9) rfl hin rfl (by decide +kernel) rfl rfl (by rw [o_s110.2.1]; decide) dX10_init_25 (fun H locs hP hD hS => ?_)
  have hP : va_P (dC, dI) vwCl [(Ad0, .inr (13, (s110.set 3 (.ref q111)))), (q111, .inl (k112, 16, .inl f113))] H := hP
  have hD : va_D A [(Ad0, .inr (13, (s110.set 3 (.ref q111)))), (q111, .inl (k112, 16, .inl f113))] := hD
  have o_s115 := ow_set o_s110 3 (.ref q111) (by decide) (l' := [(3, .ref q111), (2, .ref q106), (1, .ref q101)]) (w' := [3, 2, 1]) rfl rfl
  generalize (s110.set 3 (.ref q111)) = s115 at hP hD o_s115
  have hP := hP.sub (ws' := [(Ad0, .inr (13, s115))]) [0] rfl
  have hD := hD.sub (ws' := [(Ad0, .inr (13, s115))]) [0] (by decide) rfl
  have hK := hK.sub (tys' := []) [] rfl
  refine lv_aload_n hx hb dX10_init_28 rfl (lv_at hl 0 rfl) ?_
  refine lv_bipush (v := 16) hx hb dX10_init_29 (by decide) ?_
  refine va_newa (atype := .boolean) (ty := .boolean) (a0 := (16, .inl (fun _ : Nat => (0 : Int32)))) (N' := 16) hx hb (hts (.arrayClass .boolean) (by decide +kernel)) rfl hK hP hD hS hA (na_Z 16) (by decide) (by decide) (by decide) (Nat.le_of_ble_eq_true rfl) (Nat.le_of_ble_eq_true rfl) dX10_init_31 (fun q116 k117 H hK hP hD hS => ?_)
  have hK : va_K (dC, dI) vwCl [(k117, .boolean)] s := hK
  have hP : va_P (dC, dI) vwCl [(Ad0, .inr (13, s115)), (q116, .inl (k117, 16, .inl ((fun _ : Nat => (0 : Int32)))))] H := hP
  have hD : va_D A [(Ad0, .inr (13, s115)), (q116, .inl (k117, 16, .inl ((fun _ : Nat => (0 : Int32)))))] := hD
  have z119 : ∀ j, (fun _ : Nat => (0 : Int32)) j = 0 := fun _ => rfl
  generalize (fun _ : Nat => (0 : Int32)) = f118 at hP hD z119
  refine W.widen (k := 4) (n := 64) (by omega) (by omega) ?_
  refine va_putF (D := (dC, dI)) (ci := 13) (v := .ref q116) (ty := .array .boolean) (C := RX10) (T := TX10) (N := 18) hx hb hts (in_z_X10_init_X10) tyX10 tyX10_ok nmX10 hown hK hP hD hS 0 rfl rfl 4 (by decide) (hts (.fieldLink RX10 22 "HeapWorks$Types" "used" "[Z") (by decide +kernel)) (fun _ h9 => h9) rfl hin rfl (by decide +kernel) rfl rfl (by rw [o_s115.2.1]; decide) dX10_init_33 (fun H locs hP hD hS => ?_)
  have hP : va_P (dC, dI) vwCl [(Ad0, .inr (13, (s115.set 4 (.ref q116)))), (q116, .inl (k117, 16, .inl f118))] H := hP
  have hD : va_D A [(Ad0, .inr (13, (s115.set 4 (.ref q116)))), (q116, .inl (k117, 16, .inl f118))] := hD
  have o_s120 := ow_set o_s115 4 (.ref q116) (by decide) (l' := [(4, .ref q116), (3, .ref q111), (2, .ref q106), (1, .ref q101)]) (w' := [4, 3, 2, 1]) rfl rfl
  generalize (s115.set 4 (.ref q116)) = s120 at hP hD o_s120
  have hP := hP.sub (ws' := [(Ad0, .inr (13, s120))]) [0] rfl
  have hD := hD.sub (ws' := [(Ad0, .inr (13, s120))]) [0] (by decide) rfl
  have hK := hK.sub (tys' := []) [] rfl
  refine lv_aload_n hx hb dX10_init_36 rfl (lv_at hl 0 rfl) ?_
  refine lv_bipush (v := 16) hx hb dX10_init_37 (by decide) ?_
  refine va_newa (atype := .boolean) (ty := .boolean) (a0 := (16, .inl (fun _ : Nat => (0 : Int32)))) (N' := 16) hx hb (hts (.arrayClass .boolean) (by decide +kernel)) rfl hK hP hD hS hA (na_Z 16) (by decide) (by decide) (by decide) (Nat.le_of_ble_eq_true rfl) (Nat.le_of_ble_eq_true rfl) dX10_init_39 (fun q121 k122 H hK hP hD hS => ?_)
  have hK : va_K (dC, dI) vwCl [(k122, .boolean)] s := hK
  have hP : va_P (dC, dI) vwCl [(Ad0, .inr (13, s120)), (q121, .inl (k122, 16, .inl ((fun _ : Nat => (0 : Int32)))))] H := hP
  have hD : va_D A [(Ad0, .inr (13, s120)), (q121, .inl (k122, 16, .inl ((fun _ : Nat => (0 : Int32)))))] := hD
  have z124 : ∀ j, (fun _ : Nat => (0 : Int32)) j = 0 := fun _ => rfl
  generalize (fun _ : Nat => (0 : Int32)) = f123 at hP hD z124
  refine W.widen (k := 5) (n := 80) (by omega) (by omega) ?_
  refine va_putF (D := (dC, dI)) (ci := 13) (v := .ref q121) (ty := .array .boolean) (C := RX10) (T := TX10) (N := 18) hx hb hts (in_z_X10_init_X10) tyX10 tyX10_ok nmX10 hown hK hP hD hS 0 rfl rfl 5 (by decide) (hts (.fieldLink RX10 26 "HeapWorks$Types" "apart" "[Z") (by decide +kernel)) (fun _ h9 => h9) rfl hin rfl (by decide +kernel) rfl rfl (by rw [o_s120.2.1]; decide) dX10_init_41 (fun H locs hP hD hS => ?_)
  have hP : va_P (dC, dI) vwCl [(Ad0, .inr (13, (s120.set 5 (.ref q121)))), (q121, .inl (k122, 16, .inl f123))] H := hP
  have hD : va_D A [(Ad0, .inr (13, (s120.set 5 (.ref q121)))), (q121, .inl (k122, 16, .inl f123))] := hD
  have o_s125 := ow_set o_s120 5 (.ref q121) (by decide) (l' := [(5, .ref q121), (4, .ref q116), (3, .ref q111), (2, .ref q106), (1, .ref q101)]) (w' := [5, 4, 3, 2, 1]) rfl rfl
  generalize (s120.set 5 (.ref q121)) = s125 at hP hD o_s125
  have hP := hP.sub (ws' := [(Ad0, .inr (13, s125))]) [0] rfl
  have hD := hD.sub (ws' := [(Ad0, .inr (13, s125))]) [0] (by decide) rfl
  have hK := hK.sub (tys' := []) [] rfl
  refine lv_aload_n hx hb dX10_init_44 rfl (lv_at hl 0 rfl) ?_
  refine lv_bipush (v := 16) hx hb dX10_init_45 (by decide) ?_
  refine va_newa (atype := .int) (ty := .int) (a0 := (16, .inl (fun _ : Nat => (0 : Int32)))) (N' := 16) hx hb (hts (.arrayClass .int) (by decide +kernel)) rfl hK hP hD hS hA (na_I 16) (by decide) (by decide) (by decide) (Nat.le_of_ble_eq_true rfl) (Nat.le_of_ble_eq_true rfl) dX10_init_47 (fun q126 k127 H hK hP hD hS => ?_)
  have hK : va_K (dC, dI) vwCl [(k127, .int)] s := hK
  have hP : va_P (dC, dI) vwCl [(Ad0, .inr (13, s125)), (q126, .inl (k127, 16, .inl ((fun _ : Nat => (0 : Int32)))))] H := hP
  have hD : va_D A [(Ad0, .inr (13, s125)), (q126, .inl (k127, 16, .inl ((fun _ : Nat => (0 : Int32)))))] := hD
  have z129 : ∀ j, (fun _ : Nat => (0 : Int32)) j = 0 := fun _ => rfl
  generalize (fun _ : Nat => (0 : Int32)) = f128 at hP hD z129
  refine W.widen (k := 6) (n := 96) (by omega) (by omega) ?_
  refine va_putF (D := (dC, dI)) (ci := 13) (v := .ref q126) (ty := .array .int) (C := RX10) (T := TX10) (N := 18) hx hb hts (in_z_X10_init_X10) tyX10 tyX10_ok nmX10 hown hK hP hD hS 0 rfl rfl 6 (by decide) (hts (.fieldLink RX10 29 "HeapWorks$Types" "fieldCount" "[I") (by decide +kernel)) (fun _ h9 => h9) rfl hin rfl (by decide +kernel) rfl rfl (by rw [o_s125.2.1]; decide) dX10_init_49 (fun H locs hP hD hS => ?_)
  have hP : va_P (dC, dI) vwCl [(Ad0, .inr (13, (s125.set 6 (.ref q126)))), (q126, .inl (k127, 16, .inl f128))] H := hP
  have hD : va_D A [(Ad0, .inr (13, (s125.set 6 (.ref q126)))), (q126, .inl (k127, 16, .inl f128))] := hD
  have o_s130 := ow_set o_s125 6 (.ref q126) (by decide) (l' := [(6, .ref q126), (5, .ref q121), (4, .ref q116), (3, .ref q111), (2, .ref q106), (1, .ref q101)]) (w' := [6, 5, 4, 3, 2, 1]) rfl rfl
  generalize (s125.set 6 (.ref q126)) = s130 at hP hD o_s130
  have hP := hP.sub (ws' := [(Ad0, .inr (13, s130))]) [0] rfl
  have hD := hD.sub (ws' := [(Ad0, .inr (13, s130))]) [0] (by decide) rfl
  have hK := hK.sub (tys' := []) [] rfl
  refine lv_aload_n hx hb dX10_init_52 rfl (lv_at hl 0 rfl) ?_
  refine lv_bipush (v := 16) hx hb dX10_init_53 (by decide) ?_
  refine va_newa (atype := .int) (ty := .int) (a0 := (16, .inl (fun _ : Nat => (0 : Int32)))) (N' := 16) hx hb (hts (.arrayClass .int) (by decide +kernel)) rfl hK hP hD hS hA (na_I 16) (by decide) (by decide) (by decide) (Nat.le_of_ble_eq_true rfl) (Nat.le_of_ble_eq_true rfl) dX10_init_55 (fun q131 k132 H hK hP hD hS => ?_)
  have hK : va_K (dC, dI) vwCl [(k132, .int)] s := hK
  have hP : va_P (dC, dI) vwCl [(Ad0, .inr (13, s130)), (q131, .inl (k132, 16, .inl ((fun _ : Nat => (0 : Int32)))))] H := hP
  have hD : va_D A [(Ad0, .inr (13, s130)), (q131, .inl (k132, 16, .inl ((fun _ : Nat => (0 : Int32)))))] := hD
  have z134 : ∀ j, (fun _ : Nat => (0 : Int32)) j = 0 := fun _ => rfl
  generalize (fun _ : Nat => (0 : Int32)) = f133 at hP hD z134
  refine W.widen (k := 7) (n := 112) (by omega) (by omega) ?_
  refine va_putF (D := (dC, dI)) (ci := 13) (v := .ref q131) (ty := .array .int) (C := RX10) (T := TX10) (N := 18) hx hb hts (in_z_X10_init_X10) tyX10 tyX10_ok nmX10 hown hK hP hD hS 0 rfl rfl 7 (by decide) (hts (.fieldLink RX10 32 "HeapWorks$Types" "staticCount" "[I") (by decide +kernel)) (fun _ h9 => h9) rfl hin rfl (by decide +kernel) rfl rfl (by rw [o_s130.2.1]; decide) dX10_init_57 (fun H locs hP hD hS => ?_)
  have hP : va_P (dC, dI) vwCl [(Ad0, .inr (13, (s130.set 7 (.ref q131)))), (q131, .inl (k132, 16, .inl f133))] H := hP
  have hD : va_D A [(Ad0, .inr (13, (s130.set 7 (.ref q131)))), (q131, .inl (k132, 16, .inl f133))] := hD
  have o_s135 := ow_set o_s130 7 (.ref q131) (by decide) (l' := [(7, .ref q131), (6, .ref q126), (5, .ref q121), (4, .ref q116), (3, .ref q111), (2, .ref q106), (1, .ref q101)]) (w' := [7, 6, 5, 4, 3, 2, 1]) rfl rfl
  generalize (s130.set 7 (.ref q131)) = s135 at hP hD o_s135
  have hP := hP.sub (ws' := [(Ad0, .inr (13, s135))]) [0] rfl
  have hD := hD.sub (ws' := [(Ad0, .inr (13, s135))]) [0] (by decide) rfl
  have hK := hK.sub (tys' := []) [] rfl
  refine lv_aload_n hx hb dX10_init_60 rfl (lv_at hl 0 rfl) ?_
  refine lv_bipush (v := 16) hx hb dX10_init_61 (by decide) ?_
  refine va_newa (atype := .int) (ty := .int) (a0 := (16, .inl (fun _ : Nat => (0 : Int32)))) (N' := 16) hx hb (hts (.arrayClass .int) (by decide +kernel)) rfl hK hP hD hS hA (na_I 16) (by decide) (by decide) (by decide) (Nat.le_of_ble_eq_true rfl) (Nat.le_of_ble_eq_true rfl) dX10_init_63 (fun q136 k137 H hK hP hD hS => ?_)
  have hK : va_K (dC, dI) vwCl [(k137, .int)] s := hK
  have hP : va_P (dC, dI) vwCl [(Ad0, .inr (13, s135)), (q136, .inl (k137, 16, .inl ((fun _ : Nat => (0 : Int32)))))] H := hP
  have hD : va_D A [(Ad0, .inr (13, s135)), (q136, .inl (k137, 16, .inl ((fun _ : Nat => (0 : Int32)))))] := hD
  have z139 : ∀ j, (fun _ : Nat => (0 : Int32)) j = 0 := fun _ => rfl
  generalize (fun _ : Nat => (0 : Int32)) = f138 at hP hD z139
  refine W.widen (k := 8) (n := 128) (by omega) (by omega) ?_
  refine va_putF (D := (dC, dI)) (ci := 13) (v := .ref q136) (ty := .array .int) (C := RX10) (T := TX10) (N := 18) hx hb hts (in_z_X10_init_X10) tyX10 tyX10_ok nmX10 hown hK hP hD hS 0 rfl rfl 8 (by decide) (hts (.fieldLink RX10 35 "HeapWorks$Types" "slotCount" "[I") (by decide +kernel)) (fun _ h9 => h9) rfl hin rfl (by decide +kernel) rfl rfl (by rw [o_s135.2.1]; decide) dX10_init_65 (fun H locs hP hD hS => ?_)
  have hP : va_P (dC, dI) vwCl [(Ad0, .inr (13, (s135.set 8 (.ref q136)))), (q136, .inl (k137, 16, .inl f138))] H := hP
  have hD : va_D A [(Ad0, .inr (13, (s135.set 8 (.ref q136)))), (q136, .inl (k137, 16, .inl f138))] := hD
  have o_s140 := ow_set o_s135 8 (.ref q136) (by decide) (l' := [(8, .ref q136), (7, .ref q131), (6, .ref q126), (5, .ref q121), (4, .ref q116), (3, .ref q111), (2, .ref q106), (1, .ref q101)]) (w' := [8, 7, 6, 5, 4, 3, 2, 1]) rfl rfl
  generalize (s135.set 8 (.ref q136)) = s140 at hP hD o_s140
  have hP := hP.sub (ws' := [(Ad0, .inr (13, s140))]) [0] rfl
  have hD := hD.sub (ws' := [(Ad0, .inr (13, s140))]) [0] (by decide) rfl
  have hK := hK.sub (tys' := []) [] rfl
  refine lv_aload_n hx hb dX10_init_68 rfl (lv_at hl 0 rfl) ?_
  refine lv_bipush (v := 16) hx hb dX10_init_69 (by decide) ?_
  refine va_newa (atype := .int) (ty := .int) (a0 := (16, .inl (fun _ : Nat => (0 : Int32)))) (N' := 16) hx hb (hts (.arrayClass .int) (by decide +kernel)) rfl hK hP hD hS hA (na_I 16) (by decide) (by decide) (by decide) (Nat.le_of_ble_eq_true rfl) (Nat.le_of_ble_eq_true rfl) dX10_init_71 (fun q141 k142 H hK hP hD hS => ?_)
  have hK : va_K (dC, dI) vwCl [(k142, .int)] s := hK
  have hP : va_P (dC, dI) vwCl [(Ad0, .inr (13, s140)), (q141, .inl (k142, 16, .inl ((fun _ : Nat => (0 : Int32)))))] H := hP
  have hD : va_D A [(Ad0, .inr (13, s140)), (q141, .inl (k142, 16, .inl ((fun _ : Nat => (0 : Int32)))))] := hD
  have z144 : ∀ j, (fun _ : Nat => (0 : Int32)) j = 0 := fun _ => rfl
  generalize (fun _ : Nat => (0 : Int32)) = f143 at hP hD z144
  refine W.widen (k := 9) (n := 144) (by omega) (by omega) ?_
  refine va_putF (D := (dC, dI)) (ci := 13) (v := .ref q141) (ty := .array .int) (C := RX10) (T := TX10) (N := 18) hx hb hts (in_z_X10_init_X10) tyX10 tyX10_ok nmX10 hown hK hP hD hS 0 rfl rfl 9 (by decide) (hts (.fieldLink RX10 38 "HeapWorks$Types" "fieldsEnd" "[I") (by decide +kernel)) (fun _ h9 => h9) rfl hin rfl (by decide +kernel) rfl rfl (by rw [o_s140.2.1]; decide) dX10_init_73 (fun H locs hP hD hS => ?_)
  have hP : va_P (dC, dI) vwCl [(Ad0, .inr (13, (s140.set 9 (.ref q141)))), (q141, .inl (k142, 16, .inl f143))] H := hP
  have hD : va_D A [(Ad0, .inr (13, (s140.set 9 (.ref q141)))), (q141, .inl (k142, 16, .inl f143))] := hD
  have o_s145 := ow_set o_s140 9 (.ref q141) (by decide) (l' := [(9, .ref q141), (8, .ref q136), (7, .ref q131), (6, .ref q126), (5, .ref q121), (4, .ref q116), (3, .ref q111), (2, .ref q106), (1, .ref q101)]) (w' := [9, 8, 7, 6, 5, 4, 3, 2, 1]) rfl rfl
  generalize (s140.set 9 (.ref q141)) = s145 at hP hD o_s145
  have hP := hP.sub (ws' := [(Ad0, .inr (13, s145))]) [0] rfl
  have hD := hD.sub (ws' := [(Ad0, .inr (13, s145))]) [0] (by decide) rfl
  have hK := hK.sub (tys' := []) [] rfl
  refine lv_aload_n hx hb dX10_init_76 rfl (lv_at hl 0 rfl) ?_
  refine lv_bipush (v := 96) hx hb dX10_init_77 (by decide) ?_
  refine va_newa (atype := .long) (ty := .long) (a0 := (96, .inr (.inl (fun _ : Nat => (0 : Int64))))) (N' := 96) hx hb (hts (.arrayClass .long) (by decide +kernel)) rfl hK hP hD hS hA (na_J 96) (by decide) (by decide) (by decide) (Nat.le_of_ble_eq_true rfl) (Nat.le_of_ble_eq_true rfl) dX10_init_79 (fun q146 k147 H hK hP hD hS => ?_)
  have hK : va_K (dC, dI) vwCl [(k147, .long)] s := hK
  have hP : va_P (dC, dI) vwCl [(Ad0, .inr (13, s145)), (q146, .inl (k147, 96, .inr (.inl ((fun _ : Nat => (0 : Int64))))))] H := hP
  have hD : va_D A [(Ad0, .inr (13, s145)), (q146, .inl (k147, 96, .inr (.inl ((fun _ : Nat => (0 : Int64))))))] := hD
  have z149 : ∀ j, (fun _ : Nat => (0 : Int64)) j = 0 := fun _ => rfl
  generalize (fun _ : Nat => (0 : Int64)) = f148 at hP hD z149
  refine W.widen (k := 10) (n := 240) (by omega) (by omega) ?_
  refine va_putF (D := (dC, dI)) (ci := 13) (v := .ref q146) (ty := .array .long) (C := RX10) (T := TX10) (N := 18) hx hb hts (in_z_X10_init_X10) tyX10 tyX10_ok nmX10 hown hK hP hD hS 0 rfl rfl 10 (by decide) (hts (.fieldLink RX10 41 "HeapWorks$Types" "fieldName" "[J") (by decide +kernel)) (fun _ h9 => h9) rfl hin rfl (by decide +kernel) rfl rfl (by rw [o_s145.2.1]; decide) dX10_init_81 (fun H locs hP hD hS => ?_)
  have hP : va_P (dC, dI) vwCl [(Ad0, .inr (13, (s145.set 10 (.ref q146)))), (q146, .inl (k147, 96, .inr (.inl f148)))] H := hP
  have hD : va_D A [(Ad0, .inr (13, (s145.set 10 (.ref q146)))), (q146, .inl (k147, 96, .inr (.inl f148)))] := hD
  have o_s150 := ow_set o_s145 10 (.ref q146) (by decide) (l' := [(10, .ref q146), (9, .ref q141), (8, .ref q136), (7, .ref q131), (6, .ref q126), (5, .ref q121), (4, .ref q116), (3, .ref q111), (2, .ref q106), (1, .ref q101)]) (w' := [10, 9, 8, 7, 6, 5, 4, 3, 2, 1]) rfl rfl
  generalize (s145.set 10 (.ref q146)) = s150 at hP hD o_s150
  have hP := hP.sub (ws' := [(Ad0, .inr (13, s150))]) [0] rfl
  have hD := hD.sub (ws' := [(Ad0, .inr (13, s150))]) [0] (by decide) rfl
  have hK := hK.sub (tys' := []) [] rfl
  refine lv_aload_n hx hb dX10_init_84 rfl (lv_at hl 0 rfl) ?_
  refine lv_bipush (v := 96) hx hb dX10_init_85 (by decide) ?_
  refine va_newa (atype := .int) (ty := .int) (a0 := (96, .inl (fun _ : Nat => (0 : Int32)))) (N' := 96) hx hb (hts (.arrayClass .int) (by decide +kernel)) rfl hK hP hD hS hA (na_I 96) (by decide) (by decide) (by decide) (Nat.le_of_ble_eq_true rfl) (Nat.le_of_ble_eq_true rfl) dX10_init_87 (fun q151 k152 H hK hP hD hS => ?_)
  have hK : va_K (dC, dI) vwCl [(k152, .int)] s := hK
  have hP : va_P (dC, dI) vwCl [(Ad0, .inr (13, s150)), (q151, .inl (k152, 96, .inl ((fun _ : Nat => (0 : Int32)))))] H := hP
  have hD : va_D A [(Ad0, .inr (13, s150)), (q151, .inl (k152, 96, .inl ((fun _ : Nat => (0 : Int32)))))] := hD
  have z154 : ∀ j, (fun _ : Nat => (0 : Int32)) j = 0 := fun _ => rfl
  generalize (fun _ : Nat => (0 : Int32)) = f153 at hP hD z154
  refine W.widen (k := 11) (n := 336) (by omega) (by omega) ?_
  refine va_putF (D := (dC, dI)) (ci := 13) (v := .ref q151) (ty := .array .int) (C := RX10) (T := TX10) (N := 18) hx hb hts (in_z_X10_init_X10) tyX10 tyX10_ok nmX10 hown hK hP hD hS 0 rfl rfl 11 (by decide) (hts (.fieldLink RX10 44 "HeapWorks$Types" "fieldKind" "[I") (by decide +kernel)) (fun _ h9 => h9) rfl hin rfl (by decide +kernel) rfl rfl (by rw [o_s150.2.1]; decide) dX10_init_89 (fun H locs hP hD hS => ?_)
  have hP : va_P (dC, dI) vwCl [(Ad0, .inr (13, (s150.set 11 (.ref q151)))), (q151, .inl (k152, 96, .inl f153))] H := hP
  have hD : va_D A [(Ad0, .inr (13, (s150.set 11 (.ref q151)))), (q151, .inl (k152, 96, .inl f153))] := hD
  have o_s155 := ow_set o_s150 11 (.ref q151) (by decide) (l' := [(11, .ref q151), (10, .ref q146), (9, .ref q141), (8, .ref q136), (7, .ref q131), (6, .ref q126), (5, .ref q121), (4, .ref q116), (3, .ref q111), (2, .ref q106), (1, .ref q101)]) (w' := [11, 10, 9, 8, 7, 6, 5, 4, 3, 2, 1]) rfl rfl
  generalize (s150.set 11 (.ref q151)) = s155 at hP hD o_s155
  have hP := hP.sub (ws' := [(Ad0, .inr (13, s155))]) [0] rfl
  have hD := hD.sub (ws' := [(Ad0, .inr (13, s155))]) [0] (by decide) rfl
  have hK := hK.sub (tys' := []) [] rfl
  refine lv_aload_n hx hb dX10_init_92 rfl (lv_at hl 0 rfl) ?_
  refine lv_bipush (v := 96) hx hb dX10_init_93 (by decide) ?_
  refine va_newa (atype := .int) (ty := .int) (a0 := (96, .inl (fun _ : Nat => (0 : Int32)))) (N' := 96) hx hb (hts (.arrayClass .int) (by decide +kernel)) rfl hK hP hD hS hA (na_I 96) (by decide) (by decide) (by decide) (Nat.le_of_ble_eq_true rfl) (Nat.le_of_ble_eq_true rfl) dX10_init_95 (fun q156 k157 H hK hP hD hS => ?_)
  have hK : va_K (dC, dI) vwCl [(k157, .int)] s := hK
  have hP : va_P (dC, dI) vwCl [(Ad0, .inr (13, s155)), (q156, .inl (k157, 96, .inl ((fun _ : Nat => (0 : Int32)))))] H := hP
  have hD : va_D A [(Ad0, .inr (13, s155)), (q156, .inl (k157, 96, .inl ((fun _ : Nat => (0 : Int32)))))] := hD
  have z159 : ∀ j, (fun _ : Nat => (0 : Int32)) j = 0 := fun _ => rfl
  generalize (fun _ : Nat => (0 : Int32)) = f158 at hP hD z159
  refine W.widen (k := 12) (n := 432) (by omega) (by omega) ?_
  refine va_putF (D := (dC, dI)) (ci := 13) (v := .ref q156) (ty := .array .int) (C := RX10) (T := TX10) (N := 18) hx hb hts (in_z_X10_init_X10) tyX10 tyX10_ok nmX10 hown hK hP hD hS 0 rfl rfl 12 (by decide) (hts (.fieldLink RX10 47 "HeapWorks$Types" "fieldLink" "[I") (by decide +kernel)) (fun _ h9 => h9) rfl hin rfl (by decide +kernel) rfl rfl (by rw [o_s155.2.1]; decide) dX10_init_97 (fun H locs hP hD hS => ?_)
  have hP : va_P (dC, dI) vwCl [(Ad0, .inr (13, (s155.set 12 (.ref q156)))), (q156, .inl (k157, 96, .inl f158))] H := hP
  have hD : va_D A [(Ad0, .inr (13, (s155.set 12 (.ref q156)))), (q156, .inl (k157, 96, .inl f158))] := hD
  have o_s160 := ow_set o_s155 12 (.ref q156) (by decide) (l' := [(12, .ref q156), (11, .ref q151), (10, .ref q146), (9, .ref q141), (8, .ref q136), (7, .ref q131), (6, .ref q126), (5, .ref q121), (4, .ref q116), (3, .ref q111), (2, .ref q106), (1, .ref q101)]) (w' := [12, 11, 10, 9, 8, 7, 6, 5, 4, 3, 2, 1]) rfl rfl
  generalize (s155.set 12 (.ref q156)) = s160 at hP hD o_s160
  have hP := hP.sub (ws' := [(Ad0, .inr (13, s160))]) [0] rfl
  have hD := hD.sub (ws' := [(Ad0, .inr (13, s160))]) [0] (by decide) rfl
  have hK := hK.sub (tys' := []) [] rfl
  refine lv_aload_n hx hb dX10_init_100 rfl (lv_at hl 0 rfl) ?_
  refine lv_bipush (v := 96) hx hb dX10_init_101 (by decide) ?_
  refine va_newa (atype := .boolean) (ty := .boolean) (a0 := (96, .inl (fun _ : Nat => (0 : Int32)))) (N' := 96) hx hb (hts (.arrayClass .boolean) (by decide +kernel)) rfl hK hP hD hS hA (na_Z 96) (by decide) (by decide) (by decide) (Nat.le_of_ble_eq_true rfl) (Nat.le_of_ble_eq_true rfl) dX10_init_103 (fun q161 k162 H hK hP hD hS => ?_)
  have hK : va_K (dC, dI) vwCl [(k162, .boolean)] s := hK
  have hP : va_P (dC, dI) vwCl [(Ad0, .inr (13, s160)), (q161, .inl (k162, 96, .inl ((fun _ : Nat => (0 : Int32)))))] H := hP
  have hD : va_D A [(Ad0, .inr (13, s160)), (q161, .inl (k162, 96, .inl ((fun _ : Nat => (0 : Int32)))))] := hD
  have z164 : ∀ j, (fun _ : Nat => (0 : Int32)) j = 0 := fun _ => rfl
  generalize (fun _ : Nat => (0 : Int32)) = f163 at hP hD z164
  refine W.widen (k := 13) (n := 528) (by omega) (by omega) ?_
  refine va_putF (D := (dC, dI)) (ci := 13) (v := .ref q161) (ty := .array .boolean) (C := RX10) (T := TX10) (N := 18) hx hb hts (in_z_X10_init_X10) tyX10 tyX10_ok nmX10 hown hK hP hD hS 0 rfl rfl 13 (by decide) (hts (.fieldLink RX10 50 "HeapWorks$Types" "fieldStatic" "[Z") (by decide +kernel)) (fun _ h9 => h9) rfl hin rfl (by decide +kernel) rfl rfl (by rw [o_s160.2.1]; decide) dX10_init_105 (fun H locs hP hD hS => ?_)
  have hP : va_P (dC, dI) vwCl [(Ad0, .inr (13, (s160.set 13 (.ref q161)))), (q161, .inl (k162, 96, .inl f163))] H := hP
  have hD : va_D A [(Ad0, .inr (13, (s160.set 13 (.ref q161)))), (q161, .inl (k162, 96, .inl f163))] := hD
  have o_s165 := ow_set o_s160 13 (.ref q161) (by decide) (l' := [(13, .ref q161), (12, .ref q156), (11, .ref q151), (10, .ref q146), (9, .ref q141), (8, .ref q136), (7, .ref q131), (6, .ref q126), (5, .ref q121), (4, .ref q116), (3, .ref q111), (2, .ref q106), (1, .ref q101)]) (w' := [13, 12, 11, 10, 9, 8, 7, 6, 5, 4, 3, 2, 1]) rfl rfl
  generalize (s160.set 13 (.ref q161)) = s165 at hP hD o_s165
  have hP := hP.sub (ws' := [(Ad0, .inr (13, s165))]) [0] rfl
  have hD := hD.sub (ws' := [(Ad0, .inr (13, s165))]) [0] (by decide) rfl
  have hK := hK.sub (tys' := []) [] rfl
  refine lv_aload_n hx hb dX10_init_108 rfl (lv_at hl 0 rfl) ?_
  refine lv_bipush (v := 96) hx hb dX10_init_109 (by decide) ?_
  refine va_newa (atype := .int) (ty := .int) (a0 := (96, .inl (fun _ : Nat => (0 : Int32)))) (N' := 96) hx hb (hts (.arrayClass .int) (by decide +kernel)) rfl hK hP hD hS hA (na_I 96) (by decide) (by decide) (by decide) (Nat.le_of_ble_eq_true rfl) (Nat.le_of_ble_eq_true rfl) dX10_init_111 (fun q166 k167 H hK hP hD hS => ?_)
  have hK : va_K (dC, dI) vwCl [(k167, .int)] s := hK
  have hP : va_P (dC, dI) vwCl [(Ad0, .inr (13, s165)), (q166, .inl (k167, 96, .inl ((fun _ : Nat => (0 : Int32)))))] H := hP
  have hD : va_D A [(Ad0, .inr (13, s165)), (q166, .inl (k167, 96, .inl ((fun _ : Nat => (0 : Int32)))))] := hD
  have z169 : ∀ j, (fun _ : Nat => (0 : Int32)) j = 0 := fun _ => rfl
  generalize (fun _ : Nat => (0 : Int32)) = f168 at hP hD z169
  refine W.widen (k := 14) (n := 624) (by omega) (by omega) ?_
  refine va_putF (D := (dC, dI)) (ci := 13) (v := .ref q166) (ty := .array .int) (C := RX10) (T := TX10) (N := 18) hx hb hts (in_z_X10_init_X10) tyX10 tyX10_ok nmX10 hown hK hP hD hS 0 rfl rfl 14 (by decide) (hts (.fieldLink RX10 53 "HeapWorks$Types" "fieldPlace" "[I") (by decide +kernel)) (fun _ h9 => h9) rfl hin rfl (by decide +kernel) rfl rfl (by rw [o_s165.2.1]; decide) dX10_init_113 (fun H locs hP hD hS => ?_)
  have hP : va_P (dC, dI) vwCl [(Ad0, .inr (13, (s165.set 14 (.ref q166)))), (q166, .inl (k167, 96, .inl f168))] H := hP
  have hD : va_D A [(Ad0, .inr (13, (s165.set 14 (.ref q166)))), (q166, .inl (k167, 96, .inl f168))] := hD
  have o_s170 := ow_set o_s165 14 (.ref q166) (by decide) (l' := [(14, .ref q166), (13, .ref q161), (12, .ref q156), (11, .ref q151), (10, .ref q146), (9, .ref q141), (8, .ref q136), (7, .ref q131), (6, .ref q126), (5, .ref q121), (4, .ref q116), (3, .ref q111), (2, .ref q106), (1, .ref q101)]) (w' := [14, 13, 12, 11, 10, 9, 8, 7, 6, 5, 4, 3, 2, 1]) rfl rfl
  generalize (s165.set 14 (.ref q166)) = s170 at hP hD o_s170
  have hP := hP.sub (ws' := [(Ad0, .inr (13, s170))]) [0] rfl
  have hD := hD.sub (ws' := [(Ad0, .inr (13, s170))]) [0] (by decide) rfl
  have hK := hK.sub (tys' := []) [] rfl
  refine lv_aload_n hx hb dX10_init_116 rfl (lv_at hl 0 rfl) ?_
  refine lv_sipush (v := 1536) hx hb dX10_init_117 (by decide) ?_
  refine va_newa (atype := .long) (ty := .long) (a0 := (1536, .inr (.inl (fun _ : Nat => (0 : Int64))))) (N' := 1536) hx hb (hts (.arrayClass .long) (by decide +kernel)) rfl hK hP hD hS hA (na_J 1536) (by decide) (by decide) (by decide) (Nat.le_of_ble_eq_true rfl) (Nat.le_of_ble_eq_true rfl) dX10_init_120 (fun q171 k172 H hK hP hD hS => ?_)
  have hK : va_K (dC, dI) vwCl [(k172, .long)] s := hK
  have hP : va_P (dC, dI) vwCl [(Ad0, .inr (13, s170)), (q171, .inl (k172, 1536, .inr (.inl ((fun _ : Nat => (0 : Int64))))))] H := hP
  have hD : va_D A [(Ad0, .inr (13, s170)), (q171, .inl (k172, 1536, .inr (.inl ((fun _ : Nat => (0 : Int64))))))] := hD
  have z174 : ∀ j, (fun _ : Nat => (0 : Int64)) j = 0 := fun _ => rfl
  generalize (fun _ : Nat => (0 : Int64)) = f173 at hP hD z174
  refine W.widen (k := 15) (n := 2160) (by omega) (by omega) ?_
  refine va_putF (D := (dC, dI)) (ci := 13) (v := .ref q171) (ty := .array .long) (C := RX10) (T := TX10) (N := 18) hx hb hts (in_z_X10_init_X10) tyX10 tyX10_ok nmX10 hown hK hP hD hS 0 rfl rfl 15 (by decide) (hts (.fieldLink RX10 56 "HeapWorks$Types" "slotName" "[J") (by decide +kernel)) (fun _ h9 => h9) rfl hin rfl (by decide +kernel) rfl rfl (by rw [o_s170.2.1]; decide) dX10_init_122 (fun H locs hP hD hS => ?_)
  have hP : va_P (dC, dI) vwCl [(Ad0, .inr (13, (s170.set 15 (.ref q171)))), (q171, .inl (k172, 1536, .inr (.inl f173)))] H := hP
  have hD : va_D A [(Ad0, .inr (13, (s170.set 15 (.ref q171)))), (q171, .inl (k172, 1536, .inr (.inl f173)))] := hD
  have o_s175 := ow_set o_s170 15 (.ref q171) (by decide) (l' := [(15, .ref q171), (14, .ref q166), (13, .ref q161), (12, .ref q156), (11, .ref q151), (10, .ref q146), (9, .ref q141), (8, .ref q136), (7, .ref q131), (6, .ref q126), (5, .ref q121), (4, .ref q116), (3, .ref q111), (2, .ref q106), (1, .ref q101)]) (w' := [15, 14, 13, 12, 11, 10, 9, 8, 7, 6, 5, 4, 3, 2, 1]) rfl rfl
  generalize (s170.set 15 (.ref q171)) = s175 at hP hD o_s175
  have hP := hP.sub (ws' := [(Ad0, .inr (13, s175))]) [0] rfl
  have hD := hD.sub (ws' := [(Ad0, .inr (13, s175))]) [0] (by decide) rfl
  have hK := hK.sub (tys' := []) [] rfl
  refine lv_aload_n hx hb dX10_init_125 rfl (lv_at hl 0 rfl) ?_
  refine lv_sipush (v := 1536) hx hb dX10_init_126 (by decide) ?_
  refine va_newa (atype := .int) (ty := .int) (a0 := (1536, .inl (fun _ : Nat => (0 : Int32)))) (N' := 1536) hx hb (hts (.arrayClass .int) (by decide +kernel)) rfl hK hP hD hS hA (na_I 1536) (by decide) (by decide) (by decide) (Nat.le_of_ble_eq_true rfl) (Nat.le_of_ble_eq_true rfl) dX10_init_129 (fun q176 k177 H hK hP hD hS => ?_)
  have hK : va_K (dC, dI) vwCl [(k177, .int)] s := hK
  have hP : va_P (dC, dI) vwCl [(Ad0, .inr (13, s175)), (q176, .inl (k177, 1536, .inl ((fun _ : Nat => (0 : Int32)))))] H := hP
  have hD : va_D A [(Ad0, .inr (13, s175)), (q176, .inl (k177, 1536, .inl ((fun _ : Nat => (0 : Int32)))))] := hD
  have z179 : ∀ j, (fun _ : Nat => (0 : Int32)) j = 0 := fun _ => rfl
  generalize (fun _ : Nat => (0 : Int32)) = f178 at hP hD z179
  refine W.widen (k := 16) (n := 3696) (by omega) (by omega) ?_
  refine va_putF (D := (dC, dI)) (ci := 13) (v := .ref q176) (ty := .array .int) (C := RX10) (T := TX10) (N := 18) hx hb hts (in_z_X10_init_X10) tyX10 tyX10_ok nmX10 hown hK hP hD hS 0 rfl rfl 16 (by decide) (hts (.fieldLink RX10 59 "HeapWorks$Types" "slotKind" "[I") (by decide +kernel)) (fun _ h9 => h9) rfl hin rfl (by decide +kernel) rfl rfl (by rw [o_s175.2.1]; decide) dX10_init_131 (fun H locs hP hD hS => ?_)
  have hP : va_P (dC, dI) vwCl [(Ad0, .inr (13, (s175.set 16 (.ref q176)))), (q176, .inl (k177, 1536, .inl f178))] H := hP
  have hD : va_D A [(Ad0, .inr (13, (s175.set 16 (.ref q176)))), (q176, .inl (k177, 1536, .inl f178))] := hD
  have o_s180 := ow_set o_s175 16 (.ref q176) (by decide) (l' := [(16, .ref q176), (15, .ref q171), (14, .ref q166), (13, .ref q161), (12, .ref q156), (11, .ref q151), (10, .ref q146), (9, .ref q141), (8, .ref q136), (7, .ref q131), (6, .ref q126), (5, .ref q121), (4, .ref q116), (3, .ref q111), (2, .ref q106), (1, .ref q101)]) (w' := [16, 15, 14, 13, 12, 11, 10, 9, 8, 7, 6, 5, 4, 3, 2, 1]) rfl rfl
  generalize (s175.set 16 (.ref q176)) = s180 at hP hD o_s180
  have hP := hP.sub (ws' := [(Ad0, .inr (13, s180))]) [0] rfl
  have hD := hD.sub (ws' := [(Ad0, .inr (13, s180))]) [0] (by decide) rfl
  have hK := hK.sub (tys' := []) [] rfl
  refine lv_aload_n hx hb dX10_init_134 rfl (lv_at hl 0 rfl) ?_
  refine lv_sipush (v := 1536) hx hb dX10_init_135 (by decide) ?_
  refine va_newa (atype := .int) (ty := .int) (a0 := (1536, .inl (fun _ : Nat => (0 : Int32)))) (N' := 1536) hx hb (hts (.arrayClass .int) (by decide +kernel)) rfl hK hP hD hS hA (na_I 1536) (by decide) (by decide) (by decide) (Nat.le_of_ble_eq_true rfl) (Nat.le_of_ble_eq_true rfl) dX10_init_138 (fun q181 k182 H hK hP hD hS => ?_)
  have hK : va_K (dC, dI) vwCl [(k182, .int)] s := hK
  have hP : va_P (dC, dI) vwCl [(Ad0, .inr (13, s180)), (q181, .inl (k182, 1536, .inl ((fun _ : Nat => (0 : Int32)))))] H := hP
  have hD : va_D A [(Ad0, .inr (13, s180)), (q181, .inl (k182, 1536, .inl ((fun _ : Nat => (0 : Int32)))))] := hD
  have z184 : ∀ j, (fun _ : Nat => (0 : Int32)) j = 0 := fun _ => rfl
  generalize (fun _ : Nat => (0 : Int32)) = f183 at hP hD z184
  refine W.widen (k := 17) (n := 5232) (by omega) (by omega) ?_
  refine va_putF (D := (dC, dI)) (ci := 13) (v := .ref q181) (ty := .array .int) (C := RX10) (T := TX10) (N := 18) hx hb hts (in_z_X10_init_X10) tyX10 tyX10_ok nmX10 hown hK hP hD hS 0 rfl rfl 17 (by decide) (hts (.fieldLink RX10 62 "HeapWorks$Types" "slotLink" "[I") (by decide +kernel)) (fun _ h9 => h9) rfl hin rfl (by decide +kernel) rfl rfl (by rw [o_s180.2.1]; decide) dX10_init_140 (fun H locs hP hD hS => ?_)
  have hP : va_P (dC, dI) vwCl [(Ad0, .inr (13, (s180.set 17 (.ref q181)))), (q181, .inl (k182, 1536, .inl f183))] H := hP
  have hD : va_D A [(Ad0, .inr (13, (s180.set 17 (.ref q181)))), (q181, .inl (k182, 1536, .inl f183))] := hD
  have o_s185 := ow_set o_s180 17 (.ref q181) (by decide) (l' := [(17, .ref q181), (16, .ref q176), (15, .ref q171), (14, .ref q166), (13, .ref q161), (12, .ref q156), (11, .ref q151), (10, .ref q146), (9, .ref q141), (8, .ref q136), (7, .ref q131), (6, .ref q126), (5, .ref q121), (4, .ref q116), (3, .ref q111), (2, .ref q106), (1, .ref q101)]) (w' := [17, 16, 15, 14, 13, 12, 11, 10, 9, 8, 7, 6, 5, 4, 3, 2, 1]) rfl rfl
  generalize (s180.set 17 (.ref q181)) = s185 at hP hD o_s185
  have hP := hP.sub (ws' := [(Ad0, .inr (13, s185))]) [0] rfl
  have hD := hD.sub (ws' := [(Ad0, .inr (13, s185))]) [0] (by decide) rfl
  have hK := hK.sub (tys' := []) [] rfl
  have hP9 := hP.sub (ws' := [(Ad0, .inr (13, s185))]) [0] rfl
  have hD9 := hD.sub (ws' := [(Ad0, .inr (13, s185))]) [0] (by decide) rfl
  have hK9 := hK.sub (tys' := []) [] rfl
  refine W.widen (k := 17) (n := 5232) (by decide) (by decide) ?_
  exact W.vret hx hb hr (fun t ht hW => ⟨⟨s185, rfl, (ow_sub o_s185 [] rfl), by rw [ht]; exact hP9, va_K.moved hW.alike hK9, hD9⟩, hS.F ht⟩) hS.2.2 dX10_init_143

def l_z_X2_init : List Cond := [.methodLink RX2 3 objectInit, .instanceMethod objectInit, .code objectInit ⟨#[0xb1]⟩ 1 none, .fieldLink RX2 9 "HeapWorks$Heap" "types" "LHeapWorks$Types;", .arrayClass .int, .fieldLink RX2 15 "HeapWorks$Heap" "type" "[I", .fieldLink RX2 19 "HeapWorks$Heap" "length" "[I", .fieldLink RX2 22 "HeapWorks$Heap" "first" "[I", .arrayClass .long, .fieldLink RX2 25 "HeapWorks$Heap" "value" "[J", .arrayClass .boolean, .fieldLink RX2 29 "HeapWorks$Heap" "link" "[Z", .fieldLink RX2 35 "HeapWorks$Heap" "statics" "[J", .fieldLink RX2 38 "HeapWorks$Heap" "roots" "[I", .fieldLink RX2 41 "HeapWorks$Heap" "order" "[I", .fieldLink RX2 44 "HeapWorks$Heap" "mark" "[I"]
def w_z_X2_init : List Cond := .code yX2_init cX2_init 2 none :: (l_z_X2_init ++ (wsX20))
theorem in_z_X2_init_X2 : ∀ w ∈ wsX20, w ∈ w_z_X2_init := fun w h => List.mem_cons_of_mem _ (List.mem_append_right _ (h))
set_option maxHeartbeats 4000000 in
set_option maxRecDepth 100000 in
theorem z_X2_init (l : Launch) (dC : Nat → ClassId) (dI : Nat → Nat → Nat) (sz : Nat) (Ad0 : Nat) (Fs0 : List Value) (Br0 : Nat) (k_Fs0 : fh Fs0 14 [])  : Met l yX2_init w_z_X2_init ({ frames := 1, cells := 9, slots := 10108, locals := 24 }) (va_Pc [.ref Ad0, .ref Br0] (fun U => U.heap.size = sz ∧ Wd dC dI [] (fun _ => True) [(Ad0, .inr (5, Fs0))] U)) (va_Qv (fun (u : List Value × Nat × (Nat → Int32) × ClassId × Nat × (Nat → Int32) × ClassId × Nat × (Nat → Int64) × ClassId × Nat × (Nat → Int32) × ClassId × Nat × (Nat → Int32) × ClassId × Nat × (Nat → Int32) × ClassId) => match u with | (s146, q142, f144, k143, q122, f124, k123, q117, f119, k118, q112, f114, k113, q107, f109, k108, q102, f104, k103) => (ow Fs0 (s146) 14 [13, 12, 10, 9, 8, 7, 6, 5, 4, 0] [(13, .ref q142), (8, .ref q122), (7, .ref q117), (6, .ref q112), (5, .ref q107), (4, .ref q102), (0, .ref Br0)] ∧ (∀ j, f144 j = 0) ∧ (∀ j, f124 j = 0) ∧ (∀ j, f119 j = 0) ∧ (∀ j, f114 j = 0) ∧ (∀ j, f109 j = 0) ∧ (∀ j, f104 j = 0))) (fun (u : List Value × Nat × (Nat → Int32) × ClassId × Nat × (Nat → Int32) × ClassId × Nat × (Nat → Int64) × ClassId × Nat × (Nat → Int32) × ClassId × Nat × (Nat → Int32) × ClassId × Nat × (Nat → Int32) × ClassId) t => match u with | (s146, q142, f144, k143, q122, f124, k123, q117, f119, k118, q112, f114, k113, q107, f109, k108, q102, f104, k103) => Wd dC dI [(k143, .int), (k123, .boolean), (k118, .long), (k113, .int), (k108, .int), (k103, .int)] (va_A [(Ad0, .inr (5, Fs0))] sz) [(Ad0, .inr (5, s146)), (q142, .inl (k143, 400, .inl f144)), (q122, .inl (k123, 4000, .inl f124)), (q117, .inl (k118, 4000, .inr (.inl f119))), (q112, .inl (k113, 400, .inl f114)), (q107, .inl (k108, 400, .inl f109)), (q102, .inl (k103, 400, .inl f104))] t) (va_A [(Ad0, .inr (5, Fs0))] sz))  9 10108 (va_A [(Ad0, .inr (5, Fs0))] sz) := by
  refine Met.ofW (cc := cX2_init) (maxL := 2) (ret := none) (by decide) rfl ?_
  intro p e s m args below meth c s₁ B hml hv
  obtain ⟨rfl, hsz, hP, hK, hD0⟩ := hv
  have hx := B.exec
  have hb := B.bytes
  have hr := B.returns
  have hts := atoms_spec (ws := w_z_X2_init) B.pre
  have hown : s.vm.findClass RX2 = some m.cls := findClass_of_methodNamed B.named
  have hlocks := B.notSynchronized
  have hin : meth.name = "<init>" := (name_of_methodNamed B.named B.method).1
  subst hsz
  have hD := hD0.self (sz := s.heap.size)
  generalize hAe : va_A [(Ad0, .inr (5, Fs0))] s.heap.size = A at hD ⊢
  have hA : ∀ q : Nat, s.heap.size ≤ q → A q := fun q h => by rw [← hAe]; exact Or.inr h
  have hS : va_S A s.heap s.heap [] := va_S.rf
  have hl := lv_entry ([.ref Ad0, .ref Br0]) (n := 2) (Nat.le_of_ble_eq_true rfl)
  rw [lg_entry_eq]
  generalize (lg_sl ([.ref Ad0, .ref Br0]) ++ List.replicate (2 - (lg_sl ([.ref Ad0, .ref Br0])).length) Slot.unset).toArray = ls at hl ⊢
  have hl : lv_has ls 2 [(0, .ref Ad0), (1, .ref Br0)] := hl
  have o_Fs0 := ow_0 k_Fs0
  refine lv_aload_n hx hb dX2_init_0 rfl (lv_at hl 0 rfl) ?_
  refine W.objInit hx hb hown (hts (.methodLink RX2 3 objectInit) (by decide +kernel)) (hts (.instanceMethod objectInit) (by decide +kernel)) (hts (.code objectInit ⟨#[0xb1]⟩ 1 none) (by decide +kernel)) rfl (by rw [hml]; exact hl.1) rfl dX2_init_1 (Nat.le_of_ble_eq_true rfl) (Nat.le_of_ble_eq_true rfl) ?_
  refine W.eq (g2 := F0 m 4 ls []) rfl ?_
  refine lv_aload_n hx hb dX2_init_4 rfl (lv_at hl 0 rfl) ?_
  refine lv_aload_n hx hb dX2_init_5 rfl (lv_at hl 1 rfl) ?_
  refine va_putF (D := (dC, dI)) (ci := 5) (v := .ref Br0) (ty := .object "HeapWorks$Types") (C := RX2) (T := TX2) (N := 14) hx hb hts (in_z_X2_init_X2) tyX2 tyX2_ok nmX2 hown hK hP hD hS 0 rfl rfl 0 (by decide) (hts (.fieldLink RX2 9 "HeapWorks$Heap" "types" "LHeapWorks$Types;") (by decide +kernel)) (fun _ h9 => h9) rfl hin rfl (by decide +kernel) rfl rfl (by rw [o_Fs0.2.1]; decide) dX2_init_6 (fun H locs hP hD hS => ?_)
  have hP : va_P (dC, dI) vwCl [(Ad0, .inr (5, (Fs0.set 0 (.ref Br0))))] H := hP
  have hD : va_D A [(Ad0, .inr (5, (Fs0.set 0 (.ref Br0))))] := hD
  have o_s101 := ow_set o_Fs0 0 (.ref Br0) (by decide) (l' := [(0, .ref Br0)]) (w' := [0]) rfl rfl
  generalize (Fs0.set 0 (.ref Br0)) = s101 at hP hD o_s101
  refine lv_aload_n hx hb dX2_init_9 rfl (lv_at hl 0 rfl) ?_
  refine lv_sipush (v := 400) hx hb dX2_init_10 (by decide) ?_
  refine va_newa (atype := .int) (ty := .int) (a0 := (400, .inl (fun _ : Nat => (0 : Int32)))) (N' := 400) hx hb (hts (.arrayClass .int) (by decide +kernel)) rfl hK hP hD hS hA (na_I 400) (by decide) (by decide) (by decide) (Nat.le_of_ble_eq_true rfl) (Nat.le_of_ble_eq_true rfl) dX2_init_13 (fun q102 k103 H hK hP hD hS => ?_)
  have hK : va_K (dC, dI) vwCl [(k103, .int)] s := hK
  have hP : va_P (dC, dI) vwCl [(Ad0, .inr (5, s101)), (q102, .inl (k103, 400, .inl ((fun _ : Nat => (0 : Int32)))))] H := hP
  have hD : va_D A [(Ad0, .inr (5, s101)), (q102, .inl (k103, 400, .inl ((fun _ : Nat => (0 : Int32)))))] := hD
  have z105 : ∀ j, (fun _ : Nat => (0 : Int32)) j = 0 := fun _ => rfl
  generalize (fun _ : Nat => (0 : Int32)) = f104 at hP hD z105
  refine W.widen (k := 1) (n := 400) (by omega) (by omega) ?_
  refine va_putF (D := (dC, dI)) (ci := 5) (v := .ref q102) (ty := .array .int) (C := RX2) (T := TX2) (N := 14) hx hb hts (in_z_X2_init_X2) tyX2 tyX2_ok nmX2 hown hK hP hD hS 0 rfl rfl 4 (by decide) (hts (.fieldLink RX2 15 "HeapWorks$Heap" "type" "[I") (by decide +kernel)) (fun _ h9 => h9) rfl hin rfl (by decide +kernel) rfl rfl (by rw [o_s101.2.1]; decide) dX2_init_15 (fun H locs hP hD hS => ?_)
  have hP : va_P (dC, dI) vwCl [(Ad0, .inr (5, (s101.set 4 (.ref q102)))), (q102, .inl (k103, 400, .inl f104))] H := hP
  have hD : va_D A [(Ad0, .inr (5, (s101.set 4 (.ref q102)))), (q102, .inl (k103, 400, .inl f104))] := hD
  have o_s106 := ow_set o_s101 4 (.ref q102) (by decide) (l' := [(4, .ref q102), (0, .ref Br0)]) (w' := [4, 0]) rfl rfl
  generalize (s101.set 4 (.ref q102)) = s106 at hP hD o_s106
  refine lv_aload_n hx hb dX2_init_18 rfl (lv_at hl 0 rfl) ?_
  refine lv_sipush (v := 400) hx hb dX2_init_19 (by decide) ?_
  refine va_newa (atype := .int) (ty := .int) (a0 := (400, .inl (fun _ : Nat => (0 : Int32)))) (N' := 400) hx hb (hts (.arrayClass .int) (by decide +kernel)) rfl hK hP hD hS hA (na_I 400) (by decide) (by decide) (by decide) (Nat.le_of_ble_eq_true rfl) (Nat.le_of_ble_eq_true rfl) dX2_init_22 (fun q107 k108 H hK hP hD hS => ?_)
  have hK : va_K (dC, dI) vwCl [(k103, .int), (k108, .int)] s := hK
  have hP : va_P (dC, dI) vwCl [(Ad0, .inr (5, s106)), (q102, .inl (k103, 400, .inl f104)), (q107, .inl (k108, 400, .inl ((fun _ : Nat => (0 : Int32)))))] H := hP
  have hD : va_D A [(Ad0, .inr (5, s106)), (q102, .inl (k103, 400, .inl f104)), (q107, .inl (k108, 400, .inl ((fun _ : Nat => (0 : Int32)))))] := hD
  have z110 : ∀ j, (fun _ : Nat => (0 : Int32)) j = 0 := fun _ => rfl
  generalize (fun _ : Nat => (0 : Int32)) = f109 at hP hD z110
  refine W.widen (k := 2) (n := 800) (by omega) (by omega) ?_
  refine va_putF (D := (dC, dI)) (ci := 5) (v := .ref q107) (ty := .array .int) (C := RX2) (T := TX2) (N := 14) hx hb hts (in_z_X2_init_X2) tyX2 tyX2_ok nmX2 hown hK hP hD hS 0 rfl rfl 5 (by decide) (hts (.fieldLink RX2 19 "HeapWorks$Heap" "length" "[I") (by decide +kernel)) (fun _ h9 => h9) rfl hin rfl (by decide +kernel) rfl rfl (by rw [o_s106.2.1]; decide) dX2_init_24 (fun H locs hP hD hS => ?_)
  have hP : va_P (dC, dI) vwCl [(Ad0, .inr (5, (s106.set 5 (.ref q107)))), (q102, .inl (k103, 400, .inl f104)), (q107, .inl (k108, 400, .inl f109))] H := hP
  have hD : va_D A [(Ad0, .inr (5, (s106.set 5 (.ref q107)))), (q102, .inl (k103, 400, .inl f104)), (q107, .inl (k108, 400, .inl f109))] := hD
  have o_s111 := ow_set o_s106 5 (.ref q107) (by decide) (l' := [(5, .ref q107), (4, .ref q102), (0, .ref Br0)]) (w' := [5, 4, 0]) rfl rfl
  generalize (s106.set 5 (.ref q107)) = s111 at hP hD o_s111
  refine lv_aload_n hx hb dX2_init_27 rfl (lv_at hl 0 rfl) ?_
  refine lv_sipush (v := 400) hx hb dX2_init_28 (by decide) ?_
  refine va_newa (atype := .int) (ty := .int) (a0 := (400, .inl (fun _ : Nat => (0 : Int32)))) (N' := 400) hx hb (hts (.arrayClass .int) (by decide +kernel)) rfl hK hP hD hS hA (na_I 400) (by decide) (by decide) (by decide) (Nat.le_of_ble_eq_true rfl) (Nat.le_of_ble_eq_true rfl) dX2_init_31 (fun q112 k113 H hK hP hD hS => ?_)
  have hK : va_K (dC, dI) vwCl [(k103, .int), (k108, .int), (k113, .int)] s := hK
  have hP : va_P (dC, dI) vwCl [(Ad0, .inr (5, s111)), (q102, .inl (k103, 400, .inl f104)), (q107, .inl (k108, 400, .inl f109)), (q112, .inl (k113, 400, .inl ((fun _ : Nat => (0 : Int32)))))] H := hP
  have hD : va_D A [(Ad0, .inr (5, s111)), (q102, .inl (k103, 400, .inl f104)), (q107, .inl (k108, 400, .inl f109)), (q112, .inl (k113, 400, .inl ((fun _ : Nat => (0 : Int32)))))] := hD
  have z115 : ∀ j, (fun _ : Nat => (0 : Int32)) j = 0 := fun _ => rfl
  generalize (fun _ : Nat => (0 : Int32)) = f114 at hP hD z115
  refine W.widen (k := 3) (n := 1200) (by omega) (by omega) ?_
  refine va_putF (D := (dC, dI)) (ci := 5) (v := .ref q112) (ty := .array .int) (C := RX2) (T := TX2) (N := 14) hx hb hts (in_z_X2_init_X2) tyX2 tyX2_ok nmX2 hown hK hP hD hS 0 rfl rfl 6 (by decide) (hts (.fieldLink RX2 22 "HeapWorks$Heap" "first" "[I") (by decide +kernel)) (fun _ h9 => h9) rfl hin rfl (by decide +kernel) rfl rfl (by rw [o_s111.2.1]; decide) dX2_init_33 (fun H locs hP hD hS => ?_)
  have hP : va_P (dC, dI) vwCl [(Ad0, .inr (5, (s111.set 6 (.ref q112)))), (q102, .inl (k103, 400, .inl f104)), (q107, .inl (k108, 400, .inl f109)), (q112, .inl (k113, 400, .inl f114))] H := hP
  have hD : va_D A [(Ad0, .inr (5, (s111.set 6 (.ref q112)))), (q102, .inl (k103, 400, .inl f104)), (q107, .inl (k108, 400, .inl f109)), (q112, .inl (k113, 400, .inl f114))] := hD
  have o_s116 := ow_set o_s111 6 (.ref q112) (by decide) (l' := [(6, .ref q112), (5, .ref q107), (4, .ref q102), (0, .ref Br0)]) (w' := [6, 5, 4, 0]) rfl rfl
  generalize (s111.set 6 (.ref q112)) = s116 at hP hD o_s116
  refine lv_aload_n hx hb dX2_init_36 rfl (lv_at hl 0 rfl) ?_
  refine lv_sipush (v := 4000) hx hb dX2_init_37 (by decide) ?_
  refine va_newa (atype := .long) (ty := .long) (a0 := (4000, .inr (.inl (fun _ : Nat => (0 : Int64))))) (N' := 4000) hx hb (hts (.arrayClass .long) (by decide +kernel)) rfl hK hP hD hS hA (na_J 4000) (by decide) (by decide) (by decide) (Nat.le_of_ble_eq_true rfl) (Nat.le_of_ble_eq_true rfl) dX2_init_40 (fun q117 k118 H hK hP hD hS => ?_)
  have hK : va_K (dC, dI) vwCl [(k103, .int), (k108, .int), (k113, .int), (k118, .long)] s := hK
  have hP : va_P (dC, dI) vwCl [(Ad0, .inr (5, s116)), (q102, .inl (k103, 400, .inl f104)), (q107, .inl (k108, 400, .inl f109)), (q112, .inl (k113, 400, .inl f114)), (q117, .inl (k118, 4000, .inr (.inl ((fun _ : Nat => (0 : Int64))))))] H := hP
  have hD : va_D A [(Ad0, .inr (5, s116)), (q102, .inl (k103, 400, .inl f104)), (q107, .inl (k108, 400, .inl f109)), (q112, .inl (k113, 400, .inl f114)), (q117, .inl (k118, 4000, .inr (.inl ((fun _ : Nat => (0 : Int64))))))] := hD
  have z120 : ∀ j, (fun _ : Nat => (0 : Int64)) j = 0 := fun _ => rfl
  generalize (fun _ : Nat => (0 : Int64)) = f119 at hP hD z120
  refine W.widen (k := 4) (n := 5200) (by omega) (by omega) ?_
  refine va_putF (D := (dC, dI)) (ci := 5) (v := .ref q117) (ty := .array .long) (C := RX2) (T := TX2) (N := 14) hx hb hts (in_z_X2_init_X2) tyX2 tyX2_ok nmX2 hown hK hP hD hS 0 rfl rfl 7 (by decide) (hts (.fieldLink RX2 25 "HeapWorks$Heap" "value" "[J") (by decide +kernel)) (fun _ h9 => h9) rfl hin rfl (by decide +kernel) rfl rfl (by rw [o_s116.2.1]; decide) dX2_init_42 (fun H locs hP hD hS => ?_)
  have hP : va_P (dC, dI) vwCl [(Ad0, .inr (5, (s116.set 7 (.ref q117)))), (q102, .inl (k103, 400, .inl f104)), (q107, .inl (k108, 400, .inl f109)), (q112, .inl (k113, 400, .inl f114)), (q117, .inl (k118, 4000, .inr (.inl f119)))] H := hP
  have hD : va_D A [(Ad0, .inr (5, (s116.set 7 (.ref q117)))), (q102, .inl (k103, 400, .inl f104)), (q107, .inl (k108, 400, .inl f109)), (q112, .inl (k113, 400, .inl f114)), (q117, .inl (k118, 4000, .inr (.inl f119)))] := hD
  have o_s121 := ow_set o_s116 7 (.ref q117) (by decide) (l' := [(7, .ref q117), (6, .ref q112), (5, .ref q107), (4, .ref q102), (0, .ref Br0)]) (w' := [7, 6, 5, 4, 0]) rfl rfl
  generalize (s116.set 7 (.ref q117)) = s121 at hP hD o_s121
  refine lv_aload_n hx hb dX2_init_45 rfl (lv_at hl 0 rfl) ?_
  refine lv_sipush (v := 4000) hx hb dX2_init_46 (by decide) ?_
  refine va_newa (atype := .boolean) (ty := .boolean) (a0 := (4000, .inl (fun _ : Nat => (0 : Int32)))) (N' := 4000) hx hb (hts (.arrayClass .boolean) (by decide +kernel)) rfl hK hP hD hS hA (na_Z 4000) (by decide) (by decide) (by decide) (Nat.le_of_ble_eq_true rfl) (Nat.le_of_ble_eq_true rfl) dX2_init_49 (fun q122 k123 H hK hP hD hS => ?_)
  have hK : va_K (dC, dI) vwCl [(k103, .int), (k108, .int), (k113, .int), (k118, .long), (k123, .boolean)] s := hK
  have hP : va_P (dC, dI) vwCl [(Ad0, .inr (5, s121)), (q102, .inl (k103, 400, .inl f104)), (q107, .inl (k108, 400, .inl f109)), (q112, .inl (k113, 400, .inl f114)), (q117, .inl (k118, 4000, .inr (.inl f119))), (q122, .inl (k123, 4000, .inl ((fun _ : Nat => (0 : Int32)))))] H := hP
  have hD : va_D A [(Ad0, .inr (5, s121)), (q102, .inl (k103, 400, .inl f104)), (q107, .inl (k108, 400, .inl f109)), (q112, .inl (k113, 400, .inl f114)), (q117, .inl (k118, 4000, .inr (.inl f119))), (q122, .inl (k123, 4000, .inl ((fun _ : Nat => (0 : Int32)))))] := hD
  have z125 : ∀ j, (fun _ : Nat => (0 : Int32)) j = 0 := fun _ => rfl
  generalize (fun _ : Nat => (0 : Int32)) = f124 at hP hD z125
  refine W.widen (k := 5) (n := 9200) (by omega) (by omega) ?_
  refine va_putF (D := (dC, dI)) (ci := 5) (v := .ref q122) (ty := .array .boolean) (C := RX2) (T := TX2) (N := 14) hx hb hts (in_z_X2_init_X2) tyX2 tyX2_ok nmX2 hown hK hP hD hS 0 rfl rfl 8 (by decide) (hts (.fieldLink RX2 29 "HeapWorks$Heap" "link" "[Z") (by decide +kernel)) (fun _ h9 => h9) rfl hin rfl (by decide +kernel) rfl rfl (by rw [o_s121.2.1]; decide) dX2_init_51 (fun H locs hP hD hS => ?_)
  have hP : va_P (dC, dI) vwCl [(Ad0, .inr (5, (s121.set 8 (.ref q122)))), (q102, .inl (k103, 400, .inl f104)), (q107, .inl (k108, 400, .inl f109)), (q112, .inl (k113, 400, .inl f114)), (q117, .inl (k118, 4000, .inr (.inl f119))), (q122, .inl (k123, 4000, .inl f124))] H := hP
  have hD : va_D A [(Ad0, .inr (5, (s121.set 8 (.ref q122)))), (q102, .inl (k103, 400, .inl f104)), (q107, .inl (k108, 400, .inl f109)), (q112, .inl (k113, 400, .inl f114)), (q117, .inl (k118, 4000, .inr (.inl f119))), (q122, .inl (k123, 4000, .inl f124))] := hD
  have o_s126 := ow_set o_s121 8 (.ref q122) (by decide) (l' := [(8, .ref q122), (7, .ref q117), (6, .ref q112), (5, .ref q107), (4, .ref q102), (0, .ref Br0)]) (w' := [8, 7, 6, 5, 4, 0]) rfl rfl
  generalize (s121.set 8 (.ref q122)) = s126 at hP hD o_s126
  refine lv_aload_n hx hb dX2_init_54 rfl (lv_at hl 0 rfl) ?_
  refine lv_bipush (v := 96) hx hb dX2_init_55 (by decide) ?_
  refine va_newa (atype := .long) (ty := .long) (a0 := (96, .inr (.inl (fun _ : Nat => (0 : Int64))))) (N' := 96) hx hb (hts (.arrayClass .long) (by decide +kernel)) rfl hK hP hD hS hA (na_J 96) (by decide) (by decide) (by decide) (Nat.le_of_ble_eq_true rfl) (Nat.le_of_ble_eq_true rfl) dX2_init_57 (fun q127 k128 H hK hP hD hS => ?_)
  have hK : va_K (dC, dI) vwCl [(k103, .int), (k108, .int), (k113, .int), (k118, .long), (k123, .boolean), (k128, .long)] s := hK
  have hP : va_P (dC, dI) vwCl [(Ad0, .inr (5, s126)), (q102, .inl (k103, 400, .inl f104)), (q107, .inl (k108, 400, .inl f109)), (q112, .inl (k113, 400, .inl f114)), (q117, .inl (k118, 4000, .inr (.inl f119))), (q122, .inl (k123, 4000, .inl f124)), (q127, .inl (k128, 96, .inr (.inl ((fun _ : Nat => (0 : Int64))))))] H := hP
  have hD : va_D A [(Ad0, .inr (5, s126)), (q102, .inl (k103, 400, .inl f104)), (q107, .inl (k108, 400, .inl f109)), (q112, .inl (k113, 400, .inl f114)), (q117, .inl (k118, 4000, .inr (.inl f119))), (q122, .inl (k123, 4000, .inl f124)), (q127, .inl (k128, 96, .inr (.inl ((fun _ : Nat => (0 : Int64))))))] := hD
  have z130 : ∀ j, (fun _ : Nat => (0 : Int64)) j = 0 := fun _ => rfl
  generalize (fun _ : Nat => (0 : Int64)) = f129 at hP hD z130
  refine W.widen (k := 6) (n := 9296) (by omega) (by omega) ?_
  refine va_putF (D := (dC, dI)) (ci := 5) (v := .ref q127) (ty := .array .long) (C := RX2) (T := TX2) (N := 14) hx hb hts (in_z_X2_init_X2) tyX2 tyX2_ok nmX2 hown hK hP hD hS 0 rfl rfl 9 (by decide) (hts (.fieldLink RX2 35 "HeapWorks$Heap" "statics" "[J") (by decide +kernel)) (fun _ h9 => h9) rfl hin rfl (by decide +kernel) rfl rfl (by rw [o_s126.2.1]; decide) dX2_init_59 (fun H locs hP hD hS => ?_)
  have hP : va_P (dC, dI) vwCl [(Ad0, .inr (5, (s126.set 9 (.ref q127)))), (q102, .inl (k103, 400, .inl f104)), (q107, .inl (k108, 400, .inl f109)), (q112, .inl (k113, 400, .inl f114)), (q117, .inl (k118, 4000, .inr (.inl f119))), (q122, .inl (k123, 4000, .inl f124)), (q127, .inl (k128, 96, .inr (.inl f129)))] H := hP
  have hD : va_D A [(Ad0, .inr (5, (s126.set 9 (.ref q127)))), (q102, .inl (k103, 400, .inl f104)), (q107, .inl (k108, 400, .inl f109)), (q112, .inl (k113, 400, .inl f114)), (q117, .inl (k118, 4000, .inr (.inl f119))), (q122, .inl (k123, 4000, .inl f124)), (q127, .inl (k128, 96, .inr (.inl f129)))] := hD
  have o_s131 := ow_set o_s126 9 (.ref q127) (by decide) (l' := [(9, .ref q127), (8, .ref q122), (7, .ref q117), (6, .ref q112), (5, .ref q107), (4, .ref q102), (0, .ref Br0)]) (w' := [9, 8, 7, 6, 5, 4, 0]) rfl rfl
  generalize (s126.set 9 (.ref q127)) = s131 at hP hD o_s131
  have hP := hP.sub (ws' := [(Ad0, .inr (5, s131)), (q102, .inl (k103, 400, .inl f104)), (q107, .inl (k108, 400, .inl f109)), (q112, .inl (k113, 400, .inl f114)), (q117, .inl (k118, 4000, .inr (.inl f119))), (q122, .inl (k123, 4000, .inl f124))]) [0, 1, 2, 3, 4, 5] rfl
  have hD := hD.sub (ws' := [(Ad0, .inr (5, s131)), (q102, .inl (k103, 400, .inl f104)), (q107, .inl (k108, 400, .inl f109)), (q112, .inl (k113, 400, .inl f114)), (q117, .inl (k118, 4000, .inr (.inl f119))), (q122, .inl (k123, 4000, .inl f124))]) [0, 1, 2, 3, 4, 5] (by decide) rfl
  have hK := hK.sub (tys' := [(k103, .int), (k108, .int), (k113, .int), (k118, .long), (k123, .boolean)]) [0, 1, 2, 3, 4] rfl
  refine lv_aload_n hx hb dX2_init_62 rfl (lv_at hl 0 rfl) ?_
  refine lv_bipush (v := 12) hx hb dX2_init_63 (by decide) ?_
  refine va_newa (atype := .int) (ty := .int) (a0 := (12, .inl (fun _ : Nat => (0 : Int32)))) (N' := 12) hx hb (hts (.arrayClass .int) (by decide +kernel)) rfl hK hP hD hS hA (na_I 12) (by decide) (by decide) (by decide) (Nat.le_of_ble_eq_true rfl) (Nat.le_of_ble_eq_true rfl) dX2_init_65 (fun q132 k133 H hK hP hD hS => ?_)
  have hK : va_K (dC, dI) vwCl [(k103, .int), (k108, .int), (k113, .int), (k118, .long), (k123, .boolean), (k133, .int)] s := hK
  have hP : va_P (dC, dI) vwCl [(Ad0, .inr (5, s131)), (q102, .inl (k103, 400, .inl f104)), (q107, .inl (k108, 400, .inl f109)), (q112, .inl (k113, 400, .inl f114)), (q117, .inl (k118, 4000, .inr (.inl f119))), (q122, .inl (k123, 4000, .inl f124)), (q132, .inl (k133, 12, .inl ((fun _ : Nat => (0 : Int32)))))] H := hP
  have hD : va_D A [(Ad0, .inr (5, s131)), (q102, .inl (k103, 400, .inl f104)), (q107, .inl (k108, 400, .inl f109)), (q112, .inl (k113, 400, .inl f114)), (q117, .inl (k118, 4000, .inr (.inl f119))), (q122, .inl (k123, 4000, .inl f124)), (q132, .inl (k133, 12, .inl ((fun _ : Nat => (0 : Int32)))))] := hD
  have z135 : ∀ j, (fun _ : Nat => (0 : Int32)) j = 0 := fun _ => rfl
  generalize (fun _ : Nat => (0 : Int32)) = f134 at hP hD z135
  refine W.widen (k := 7) (n := 9308) (by omega) (by omega) ?_
  refine va_putF (D := (dC, dI)) (ci := 5) (v := .ref q132) (ty := .array .int) (C := RX2) (T := TX2) (N := 14) hx hb hts (in_z_X2_init_X2) tyX2 tyX2_ok nmX2 hown hK hP hD hS 0 rfl rfl 10 (by decide) (hts (.fieldLink RX2 38 "HeapWorks$Heap" "roots" "[I") (by decide +kernel)) (fun _ h9 => h9) rfl hin rfl (by decide +kernel) rfl rfl (by rw [o_s131.2.1]; decide) dX2_init_67 (fun H locs hP hD hS => ?_)
  have hP : va_P (dC, dI) vwCl [(Ad0, .inr (5, (s131.set 10 (.ref q132)))), (q102, .inl (k103, 400, .inl f104)), (q107, .inl (k108, 400, .inl f109)), (q112, .inl (k113, 400, .inl f114)), (q117, .inl (k118, 4000, .inr (.inl f119))), (q122, .inl (k123, 4000, .inl f124)), (q132, .inl (k133, 12, .inl f134))] H := hP
  have hD : va_D A [(Ad0, .inr (5, (s131.set 10 (.ref q132)))), (q102, .inl (k103, 400, .inl f104)), (q107, .inl (k108, 400, .inl f109)), (q112, .inl (k113, 400, .inl f114)), (q117, .inl (k118, 4000, .inr (.inl f119))), (q122, .inl (k123, 4000, .inl f124)), (q132, .inl (k133, 12, .inl f134))] := hD
  have o_s136 := ow_set o_s131 10 (.ref q132) (by decide) (l' := [(10, .ref q132), (9, .ref q127), (8, .ref q122), (7, .ref q117), (6, .ref q112), (5, .ref q107), (4, .ref q102), (0, .ref Br0)]) (w' := [10, 9, 8, 7, 6, 5, 4, 0]) rfl rfl
  generalize (s131.set 10 (.ref q132)) = s136 at hP hD o_s136
  have hP := hP.sub (ws' := [(Ad0, .inr (5, s136)), (q102, .inl (k103, 400, .inl f104)), (q107, .inl (k108, 400, .inl f109)), (q112, .inl (k113, 400, .inl f114)), (q117, .inl (k118, 4000, .inr (.inl f119))), (q122, .inl (k123, 4000, .inl f124))]) [0, 1, 2, 3, 4, 5] rfl
  have hD := hD.sub (ws' := [(Ad0, .inr (5, s136)), (q102, .inl (k103, 400, .inl f104)), (q107, .inl (k108, 400, .inl f109)), (q112, .inl (k113, 400, .inl f114)), (q117, .inl (k118, 4000, .inr (.inl f119))), (q122, .inl (k123, 4000, .inl f124))]) [0, 1, 2, 3, 4, 5] (by decide) rfl
  have hK := hK.sub (tys' := [(k103, .int), (k108, .int), (k113, .int), (k118, .long), (k123, .boolean)]) [0, 1, 2, 3, 4] rfl
  refine lv_aload_n hx hb dX2_init_70 rfl (lv_at hl 0 rfl) ?_
  refine lv_sipush (v := 400) hx hb dX2_init_71 (by decide) ?_
  refine va_newa (atype := .int) (ty := .int) (a0 := (400, .inl (fun _ : Nat => (0 : Int32)))) (N' := 400) hx hb (hts (.arrayClass .int) (by decide +kernel)) rfl hK hP hD hS hA (na_I 400) (by decide) (by decide) (by decide) (Nat.le_of_ble_eq_true rfl) (Nat.le_of_ble_eq_true rfl) dX2_init_74 (fun q137 k138 H hK hP hD hS => ?_)
  have hK : va_K (dC, dI) vwCl [(k103, .int), (k108, .int), (k113, .int), (k118, .long), (k123, .boolean), (k138, .int)] s := hK
  have hP : va_P (dC, dI) vwCl [(Ad0, .inr (5, s136)), (q102, .inl (k103, 400, .inl f104)), (q107, .inl (k108, 400, .inl f109)), (q112, .inl (k113, 400, .inl f114)), (q117, .inl (k118, 4000, .inr (.inl f119))), (q122, .inl (k123, 4000, .inl f124)), (q137, .inl (k138, 400, .inl ((fun _ : Nat => (0 : Int32)))))] H := hP
  have hD : va_D A [(Ad0, .inr (5, s136)), (q102, .inl (k103, 400, .inl f104)), (q107, .inl (k108, 400, .inl f109)), (q112, .inl (k113, 400, .inl f114)), (q117, .inl (k118, 4000, .inr (.inl f119))), (q122, .inl (k123, 4000, .inl f124)), (q137, .inl (k138, 400, .inl ((fun _ : Nat => (0 : Int32)))))] := hD
  have z140 : ∀ j, (fun _ : Nat => (0 : Int32)) j = 0 := fun _ => rfl
  generalize (fun _ : Nat => (0 : Int32)) = f139 at hP hD z140
  refine W.widen (k := 8) (n := 9708) (by omega) (by omega) ?_
  refine va_putF (D := (dC, dI)) (ci := 5) (v := .ref q137) (ty := .array .int) (C := RX2) (T := TX2) (N := 14) hx hb hts (in_z_X2_init_X2) tyX2 tyX2_ok nmX2 hown hK hP hD hS 0 rfl rfl 12 (by decide) (hts (.fieldLink RX2 41 "HeapWorks$Heap" "order" "[I") (by decide +kernel)) (fun _ h9 => h9) rfl hin rfl (by decide +kernel) rfl rfl (by rw [o_s136.2.1]; decide) dX2_init_76 (fun H locs hP hD hS => ?_)
  have hP : va_P (dC, dI) vwCl [(Ad0, .inr (5, (s136.set 12 (.ref q137)))), (q102, .inl (k103, 400, .inl f104)), (q107, .inl (k108, 400, .inl f109)), (q112, .inl (k113, 400, .inl f114)), (q117, .inl (k118, 4000, .inr (.inl f119))), (q122, .inl (k123, 4000, .inl f124)), (q137, .inl (k138, 400, .inl f139))] H := hP
  have hD : va_D A [(Ad0, .inr (5, (s136.set 12 (.ref q137)))), (q102, .inl (k103, 400, .inl f104)), (q107, .inl (k108, 400, .inl f109)), (q112, .inl (k113, 400, .inl f114)), (q117, .inl (k118, 4000, .inr (.inl f119))), (q122, .inl (k123, 4000, .inl f124)), (q137, .inl (k138, 400, .inl f139))] := hD
  have o_s141 := ow_set o_s136 12 (.ref q137) (by decide) (l' := [(12, .ref q137), (10, .ref q132), (9, .ref q127), (8, .ref q122), (7, .ref q117), (6, .ref q112), (5, .ref q107), (4, .ref q102), (0, .ref Br0)]) (w' := [12, 10, 9, 8, 7, 6, 5, 4, 0]) rfl rfl
  generalize (s136.set 12 (.ref q137)) = s141 at hP hD o_s141
  have hP := hP.sub (ws' := [(Ad0, .inr (5, s141)), (q102, .inl (k103, 400, .inl f104)), (q107, .inl (k108, 400, .inl f109)), (q112, .inl (k113, 400, .inl f114)), (q117, .inl (k118, 4000, .inr (.inl f119))), (q122, .inl (k123, 4000, .inl f124))]) [0, 1, 2, 3, 4, 5] rfl
  have hD := hD.sub (ws' := [(Ad0, .inr (5, s141)), (q102, .inl (k103, 400, .inl f104)), (q107, .inl (k108, 400, .inl f109)), (q112, .inl (k113, 400, .inl f114)), (q117, .inl (k118, 4000, .inr (.inl f119))), (q122, .inl (k123, 4000, .inl f124))]) [0, 1, 2, 3, 4, 5] (by decide) rfl
  have hK := hK.sub (tys' := [(k103, .int), (k108, .int), (k113, .int), (k118, .long), (k123, .boolean)]) [0, 1, 2, 3, 4] rfl
  refine lv_aload_n hx hb dX2_init_79 rfl (lv_at hl 0 rfl) ?_
  refine lv_sipush (v := 400) hx hb dX2_init_80 (by decide) ?_
  refine va_newa (atype := .int) (ty := .int) (a0 := (400, .inl (fun _ : Nat => (0 : Int32)))) (N' := 400) hx hb (hts (.arrayClass .int) (by decide +kernel)) rfl hK hP hD hS hA (na_I 400) (by decide) (by decide) (by decide) (Nat.le_of_ble_eq_true rfl) (Nat.le_of_ble_eq_true rfl) dX2_init_83 (fun q142 k143 H hK hP hD hS => ?_)
  have hK : va_K (dC, dI) vwCl [(k103, .int), (k108, .int), (k113, .int), (k118, .long), (k123, .boolean), (k143, .int)] s := hK
  have hP : va_P (dC, dI) vwCl [(Ad0, .inr (5, s141)), (q102, .inl (k103, 400, .inl f104)), (q107, .inl (k108, 400, .inl f109)), (q112, .inl (k113, 400, .inl f114)), (q117, .inl (k118, 4000, .inr (.inl f119))), (q122, .inl (k123, 4000, .inl f124)), (q142, .inl (k143, 400, .inl ((fun _ : Nat => (0 : Int32)))))] H := hP
  have hD : va_D A [(Ad0, .inr (5, s141)), (q102, .inl (k103, 400, .inl f104)), (q107, .inl (k108, 400, .inl f109)), (q112, .inl (k113, 400, .inl f114)), (q117, .inl (k118, 4000, .inr (.inl f119))), (q122, .inl (k123, 4000, .inl f124)), (q142, .inl (k143, 400, .inl ((fun _ : Nat => (0 : Int32)))))] := hD
  have z145 : ∀ j, (fun _ : Nat => (0 : Int32)) j = 0 := fun _ => rfl
  generalize (fun _ : Nat => (0 : Int32)) = f144 at hP hD z145
  refine W.widen (k := 9) (n := 10108) (by omega) (by omega) ?_
  refine va_putF (D := (dC, dI)) (ci := 5) (v := .ref q142) (ty := .array .int) (C := RX2) (T := TX2) (N := 14) hx hb hts (in_z_X2_init_X2) tyX2 tyX2_ok nmX2 hown hK hP hD hS 0 rfl rfl 13 (by decide) (hts (.fieldLink RX2 44 "HeapWorks$Heap" "mark" "[I") (by decide +kernel)) (fun _ h9 => h9) rfl hin rfl (by decide +kernel) rfl rfl (by rw [o_s141.2.1]; decide) dX2_init_85 (fun H locs hP hD hS => ?_)
  have hP : va_P (dC, dI) vwCl [(Ad0, .inr (5, (s141.set 13 (.ref q142)))), (q102, .inl (k103, 400, .inl f104)), (q107, .inl (k108, 400, .inl f109)), (q112, .inl (k113, 400, .inl f114)), (q117, .inl (k118, 4000, .inr (.inl f119))), (q122, .inl (k123, 4000, .inl f124)), (q142, .inl (k143, 400, .inl f144))] H := hP
  have hD : va_D A [(Ad0, .inr (5, (s141.set 13 (.ref q142)))), (q102, .inl (k103, 400, .inl f104)), (q107, .inl (k108, 400, .inl f109)), (q112, .inl (k113, 400, .inl f114)), (q117, .inl (k118, 4000, .inr (.inl f119))), (q122, .inl (k123, 4000, .inl f124)), (q142, .inl (k143, 400, .inl f144))] := hD
  have o_s146 := ow_set o_s141 13 (.ref q142) (by decide) (l' := [(13, .ref q142), (12, .ref q137), (10, .ref q132), (9, .ref q127), (8, .ref q122), (7, .ref q117), (6, .ref q112), (5, .ref q107), (4, .ref q102), (0, .ref Br0)]) (w' := [13, 12, 10, 9, 8, 7, 6, 5, 4, 0]) rfl rfl
  generalize (s141.set 13 (.ref q142)) = s146 at hP hD o_s146
  have hP9 := hP.sub (ws' := [(Ad0, .inr (5, s146)), (q142, .inl (k143, 400, .inl f144)), (q122, .inl (k123, 4000, .inl f124)), (q117, .inl (k118, 4000, .inr (.inl f119))), (q112, .inl (k113, 400, .inl f114)), (q107, .inl (k108, 400, .inl f109)), (q102, .inl (k103, 400, .inl f104))]) [0, 6, 5, 4, 3, 2, 1] rfl
  have hD9 := hD.sub (ws' := [(Ad0, .inr (5, s146)), (q142, .inl (k143, 400, .inl f144)), (q122, .inl (k123, 4000, .inl f124)), (q117, .inl (k118, 4000, .inr (.inl f119))), (q112, .inl (k113, 400, .inl f114)), (q107, .inl (k108, 400, .inl f109)), (q102, .inl (k103, 400, .inl f104))]) [0, 6, 5, 4, 3, 2, 1] (by decide) rfl
  have hK9 := hK.sub (tys' := [(k143, .int), (k123, .boolean), (k118, .long), (k113, .int), (k108, .int), (k103, .int)]) [5, 4, 3, 2, 1, 0] rfl
  refine W.widen (k := 9) (n := 10108) (by decide) (by decide) ?_
  exact W.vret hx hb hr (fun t ht hW => ⟨⟨(s146, q142, f144, k143, q122, f124, k123, q117, f119, k118, q112, f114, k113, q107, f109, k108, q102, f104, k103), rfl, ⟨(ow_sub o_s146 [0, 4, 5, 6, 7, 8, 9] rfl), z145, z125, z120, z115, z110, z105⟩, by rw [ht]; exact hP9, va_K.moved hW.alike hK9, hD9⟩, hS.F ht⟩) hS.2.2 dX2_init_88

def l_z_X3_init : List Cond := [.methodLink RX3 3 objectInit, .instanceMethod objectInit, .code objectInit ⟨#[0xb1]⟩ 1 none, .fieldLink RX3 9 "HeapWorks$Journal" "types" "LHeapWorks$Types;", .arrayClass .int, .fieldLink RX3 15 "HeapWorks$Journal" "undoWrite" "[I", .fieldLink RX3 19 "HeapWorks$Journal" "undoPlace" "[I", .arrayClass .long, .fieldLink RX3 22 "HeapWorks$Journal" "undoValue" "[J", .fieldLink RX3 26 "HeapWorks$Journal" "watchType" "[I", .fieldLink RX3 29 "HeapWorks$Journal" "watchField" "[I", .fieldLink RX3 32 "HeapWorks$Journal" "watchCondition" "[I", .fieldLink RX3 35 "HeapWorks$Journal" "rowCount" "[I", .fieldLink RX3 38 "HeapWorks$Journal" "rowParts" "[J"]
def w_z_X3_init : List Cond := .code yX3_init cX3_init 2 none :: (l_z_X3_init ++ (wsX30))
theorem in_z_X3_init_X3 : ∀ w ∈ wsX30, w ∈ w_z_X3_init := fun w h => List.mem_cons_of_mem _ (List.mem_append_right _ (h))
set_option maxHeartbeats 4000000 in
set_option maxRecDepth 100000 in
theorem z_X3_init (l : Launch) (dC : Nat → ClassId) (dI : Nat → Nat → Nat) (sz : Nat) (Ad0 : Nat) (Fs0 : List Value) (Br0 : Nat) (k_Fs0 : fh Fs0 13 [])  : Met l yX3_init w_z_X3_init ({ frames := 1, cells := 8, slots := 468, locals := 24 }) (va_Pc [.ref Ad0, .ref Br0] (fun U => U.heap.size = sz ∧ Wd dC dI [] (fun _ => True) [(Ad0, .inr (6, Fs0))] U)) (va_Qv (fun (u : List Value) => ow Fs0 (u) 13 [12, 11, 10, 9, 8, 4, 3, 2, 0] [(0, .ref Br0)]) (fun (u : List Value) t => Wd dC dI [] (va_A [(Ad0, .inr (6, Fs0))] sz) [(Ad0, .inr (6, (u)))] t) (va_A [(Ad0, .inr (6, Fs0))] sz))  8 468 (va_A [(Ad0, .inr (6, Fs0))] sz) := by
  refine Met.ofW (cc := cX3_init) (maxL := 2) (ret := none) (by decide) rfl ?_
  intro p e s m args below meth c s₁ B hml hv
  obtain ⟨rfl, hsz, hP, hK, hD0⟩ := hv
  have hx := B.exec
  have hb := B.bytes
  have hr := B.returns
  have hts := atoms_spec (ws := w_z_X3_init) B.pre
  have hown : s.vm.findClass RX3 = some m.cls := findClass_of_methodNamed B.named
  have hlocks := B.notSynchronized
  have hin : meth.name = "<init>" := (name_of_methodNamed B.named B.method).1
  subst hsz
  have hD := hD0.self (sz := s.heap.size)
  generalize hAe : va_A [(Ad0, .inr (6, Fs0))] s.heap.size = A at hD ⊢
  have hA : ∀ q : Nat, s.heap.size ≤ q → A q := fun q h => by rw [← hAe]; exact Or.inr h
  have hS : va_S A s.heap s.heap [] := va_S.rf
  have hl := lv_entry ([.ref Ad0, .ref Br0]) (n := 2) (Nat.le_of_ble_eq_true rfl)
  rw [lg_entry_eq]
  generalize (lg_sl ([.ref Ad0, .ref Br0]) ++ List.replicate (2 - (lg_sl ([.ref Ad0, .ref Br0])).length) Slot.unset).toArray = ls at hl ⊢
  have hl : lv_has ls 2 [(0, .ref Ad0), (1, .ref Br0)] := hl
  have o_Fs0 := ow_0 k_Fs0
  refine lv_aload_n hx hb dX3_init_0 rfl (lv_at hl 0 rfl) ?_
  refine W.objInit hx hb hown (hts (.methodLink RX3 3 objectInit) (by decide +kernel)) (hts (.instanceMethod objectInit) (by decide +kernel)) (hts (.code objectInit ⟨#[0xb1]⟩ 1 none) (by decide +kernel)) rfl (by rw [hml]; exact hl.1) rfl dX3_init_1 (Nat.le_of_ble_eq_true rfl) (Nat.le_of_ble_eq_true rfl) ?_
  refine W.eq (g2 := F0 m 4 ls []) rfl ?_
  refine lv_aload_n hx hb dX3_init_4 rfl (lv_at hl 0 rfl) ?_
  refine lv_aload_n hx hb dX3_init_5 rfl (lv_at hl 1 rfl) ?_
  refine va_putF (D := (dC, dI)) (ci := 6) (v := .ref Br0) (ty := .object "HeapWorks$Types") (C := RX3) (T := TX3) (N := 13) hx hb hts (in_z_X3_init_X3) tyX3 tyX3_ok nmX3 hown hK hP hD hS 0 rfl rfl 0 (by decide) (hts (.fieldLink RX3 9 "HeapWorks$Journal" "types" "LHeapWorks$Types;") (by decide +kernel)) (fun _ h9 => h9) rfl hin rfl (by decide +kernel) rfl rfl (by rw [o_Fs0.2.1]; decide) dX3_init_6 (fun H locs hP hD hS => ?_)
  have hP : va_P (dC, dI) vwCl [(Ad0, .inr (6, (Fs0.set 0 (.ref Br0))))] H := hP
  have hD : va_D A [(Ad0, .inr (6, (Fs0.set 0 (.ref Br0))))] := hD
  have o_s101 := ow_set o_Fs0 0 (.ref Br0) (by decide) (l' := [(0, .ref Br0)]) (w' := [0]) rfl rfl
  generalize (Fs0.set 0 (.ref Br0)) = s101 at hP hD o_s101
  refine lv_aload_n hx hb dX3_init_9 rfl (lv_at hl 0 rfl) ?_
  refine lv_bipush (v := 100) hx hb dX3_init_10 (by decide) ?_
  refine va_newa (atype := .int) (ty := .int) (a0 := (100, .inl (fun _ : Nat => (0 : Int32)))) (N' := 100) hx hb (hts (.arrayClass .int) (by decide +kernel)) rfl hK hP hD hS hA (na_I 100) (by decide) (by decide) (by decide) (Nat.le_of_ble_eq_true rfl) (Nat.le_of_ble_eq_true rfl) dX3_init_12 (fun q102 k103 H hK hP hD hS => ?_)
  have hK : va_K (dC, dI) vwCl [(k103, .int)] s := hK
  have hP : va_P (dC, dI) vwCl [(Ad0, .inr (6, s101)), (q102, .inl (k103, 100, .inl ((fun _ : Nat => (0 : Int32)))))] H := hP
  have hD : va_D A [(Ad0, .inr (6, s101)), (q102, .inl (k103, 100, .inl ((fun _ : Nat => (0 : Int32)))))] := hD
  have z105 : ∀ j, (fun _ : Nat => (0 : Int32)) j = 0 := fun _ => rfl
  generalize (fun _ : Nat => (0 : Int32)) = f104 at hP hD z105
  refine W.widen (k := 1) (n := 100) (by omega) (by omega) ?_
  refine va_putF (D := (dC, dI)) (ci := 6) (v := .ref q102) (ty := .array .int) (C := RX3) (T := TX3) (N := 13) hx hb hts (in_z_X3_init_X3) tyX3 tyX3_ok nmX3 hown hK hP hD hS 0 rfl rfl 2 (by decide) (hts (.fieldLink RX3 15 "HeapWorks$Journal" "undoWrite" "[I") (by decide +kernel)) (fun _ h9 => h9) rfl hin rfl (by decide +kernel) rfl rfl (by rw [o_s101.2.1]; decide) dX3_init_14 (fun H locs hP hD hS => ?_)
  have hP : va_P (dC, dI) vwCl [(Ad0, .inr (6, (s101.set 2 (.ref q102)))), (q102, .inl (k103, 100, .inl f104))] H := hP
  have hD : va_D A [(Ad0, .inr (6, (s101.set 2 (.ref q102)))), (q102, .inl (k103, 100, .inl f104))] := hD
  have o_s106 := ow_set o_s101 2 (.ref q102) (by decide) (l' := [(2, .ref q102), (0, .ref Br0)]) (w' := [2, 0]) rfl rfl
  generalize (s101.set 2 (.ref q102)) = s106 at hP hD o_s106
  have hP := hP.sub (ws' := [(Ad0, .inr (6, s106))]) [0] rfl
  have hD := hD.sub (ws' := [(Ad0, .inr (6, s106))]) [0] (by decide) rfl
  have hK := hK.sub (tys' := []) [] rfl
  refine lv_aload_n hx hb dX3_init_17 rfl (lv_at hl 0 rfl) ?_
  refine lv_bipush (v := 100) hx hb dX3_init_18 (by decide) ?_
  refine va_newa (atype := .int) (ty := .int) (a0 := (100, .inl (fun _ : Nat => (0 : Int32)))) (N' := 100) hx hb (hts (.arrayClass .int) (by decide +kernel)) rfl hK hP hD hS hA (na_I 100) (by decide) (by decide) (by decide) (Nat.le_of_ble_eq_true rfl) (Nat.le_of_ble_eq_true rfl) dX3_init_20 (fun q107 k108 H hK hP hD hS => ?_)
  have hK : va_K (dC, dI) vwCl [(k108, .int)] s := hK
  have hP : va_P (dC, dI) vwCl [(Ad0, .inr (6, s106)), (q107, .inl (k108, 100, .inl ((fun _ : Nat => (0 : Int32)))))] H := hP
  have hD : va_D A [(Ad0, .inr (6, s106)), (q107, .inl (k108, 100, .inl ((fun _ : Nat => (0 : Int32)))))] := hD
  have z110 : ∀ j, (fun _ : Nat => (0 : Int32)) j = 0 := fun _ => rfl
  generalize (fun _ : Nat => (0 : Int32)) = f109 at hP hD z110
  refine W.widen (k := 2) (n := 200) (by omega) (by omega) ?_
  refine va_putF (D := (dC, dI)) (ci := 6) (v := .ref q107) (ty := .array .int) (C := RX3) (T := TX3) (N := 13) hx hb hts (in_z_X3_init_X3) tyX3 tyX3_ok nmX3 hown hK hP hD hS 0 rfl rfl 3 (by decide) (hts (.fieldLink RX3 19 "HeapWorks$Journal" "undoPlace" "[I") (by decide +kernel)) (fun _ h9 => h9) rfl hin rfl (by decide +kernel) rfl rfl (by rw [o_s106.2.1]; decide) dX3_init_22 (fun H locs hP hD hS => ?_)
  have hP : va_P (dC, dI) vwCl [(Ad0, .inr (6, (s106.set 3 (.ref q107)))), (q107, .inl (k108, 100, .inl f109))] H := hP
  have hD : va_D A [(Ad0, .inr (6, (s106.set 3 (.ref q107)))), (q107, .inl (k108, 100, .inl f109))] := hD
  have o_s111 := ow_set o_s106 3 (.ref q107) (by decide) (l' := [(3, .ref q107), (2, .ref q102), (0, .ref Br0)]) (w' := [3, 2, 0]) rfl rfl
  generalize (s106.set 3 (.ref q107)) = s111 at hP hD o_s111
  have hP := hP.sub (ws' := [(Ad0, .inr (6, s111))]) [0] rfl
  have hD := hD.sub (ws' := [(Ad0, .inr (6, s111))]) [0] (by decide) rfl
  have hK := hK.sub (tys' := []) [] rfl
  refine lv_aload_n hx hb dX3_init_25 rfl (lv_at hl 0 rfl) ?_
  refine lv_bipush (v := 100) hx hb dX3_init_26 (by decide) ?_
  refine va_newa (atype := .long) (ty := .long) (a0 := (100, .inr (.inl (fun _ : Nat => (0 : Int64))))) (N' := 100) hx hb (hts (.arrayClass .long) (by decide +kernel)) rfl hK hP hD hS hA (na_J 100) (by decide) (by decide) (by decide) (Nat.le_of_ble_eq_true rfl) (Nat.le_of_ble_eq_true rfl) dX3_init_28 (fun q112 k113 H hK hP hD hS => ?_)
  have hK : va_K (dC, dI) vwCl [(k113, .long)] s := hK
  have hP : va_P (dC, dI) vwCl [(Ad0, .inr (6, s111)), (q112, .inl (k113, 100, .inr (.inl ((fun _ : Nat => (0 : Int64))))))] H := hP
  have hD : va_D A [(Ad0, .inr (6, s111)), (q112, .inl (k113, 100, .inr (.inl ((fun _ : Nat => (0 : Int64))))))] := hD
  have z115 : ∀ j, (fun _ : Nat => (0 : Int64)) j = 0 := fun _ => rfl
  generalize (fun _ : Nat => (0 : Int64)) = f114 at hP hD z115
  refine W.widen (k := 3) (n := 300) (by omega) (by omega) ?_
  refine va_putF (D := (dC, dI)) (ci := 6) (v := .ref q112) (ty := .array .long) (C := RX3) (T := TX3) (N := 13) hx hb hts (in_z_X3_init_X3) tyX3 tyX3_ok nmX3 hown hK hP hD hS 0 rfl rfl 4 (by decide) (hts (.fieldLink RX3 22 "HeapWorks$Journal" "undoValue" "[J") (by decide +kernel)) (fun _ h9 => h9) rfl hin rfl (by decide +kernel) rfl rfl (by rw [o_s111.2.1]; decide) dX3_init_30 (fun H locs hP hD hS => ?_)
  have hP : va_P (dC, dI) vwCl [(Ad0, .inr (6, (s111.set 4 (.ref q112)))), (q112, .inl (k113, 100, .inr (.inl f114)))] H := hP
  have hD : va_D A [(Ad0, .inr (6, (s111.set 4 (.ref q112)))), (q112, .inl (k113, 100, .inr (.inl f114)))] := hD
  have o_s116 := ow_set o_s111 4 (.ref q112) (by decide) (l' := [(4, .ref q112), (3, .ref q107), (2, .ref q102), (0, .ref Br0)]) (w' := [4, 3, 2, 0]) rfl rfl
  generalize (s111.set 4 (.ref q112)) = s116 at hP hD o_s116
  have hP := hP.sub (ws' := [(Ad0, .inr (6, s116))]) [0] rfl
  have hD := hD.sub (ws' := [(Ad0, .inr (6, s116))]) [0] (by decide) rfl
  have hK := hK.sub (tys' := []) [] rfl
  refine lv_aload_n hx hb dX3_init_33 rfl (lv_at hl 0 rfl) ?_
  refine lv_bipush (v := 6) hx hb dX3_init_34 (by decide) ?_
  refine va_newa (atype := .int) (ty := .int) (a0 := (6, .inl (fun _ : Nat => (0 : Int32)))) (N' := 6) hx hb (hts (.arrayClass .int) (by decide +kernel)) rfl hK hP hD hS hA (na_I 6) (by decide) (by decide) (by decide) (Nat.le_of_ble_eq_true rfl) (Nat.le_of_ble_eq_true rfl) dX3_init_36 (fun q117 k118 H hK hP hD hS => ?_)
  have hK : va_K (dC, dI) vwCl [(k118, .int)] s := hK
  have hP : va_P (dC, dI) vwCl [(Ad0, .inr (6, s116)), (q117, .inl (k118, 6, .inl ((fun _ : Nat => (0 : Int32)))))] H := hP
  have hD : va_D A [(Ad0, .inr (6, s116)), (q117, .inl (k118, 6, .inl ((fun _ : Nat => (0 : Int32)))))] := hD
  have z120 : ∀ j, (fun _ : Nat => (0 : Int32)) j = 0 := fun _ => rfl
  generalize (fun _ : Nat => (0 : Int32)) = f119 at hP hD z120
  refine W.widen (k := 4) (n := 306) (by omega) (by omega) ?_
  refine va_putF (D := (dC, dI)) (ci := 6) (v := .ref q117) (ty := .array .int) (C := RX3) (T := TX3) (N := 13) hx hb hts (in_z_X3_init_X3) tyX3 tyX3_ok nmX3 hown hK hP hD hS 0 rfl rfl 8 (by decide) (hts (.fieldLink RX3 26 "HeapWorks$Journal" "watchType" "[I") (by decide +kernel)) (fun _ h9 => h9) rfl hin rfl (by decide +kernel) rfl rfl (by rw [o_s116.2.1]; decide) dX3_init_38 (fun H locs hP hD hS => ?_)
  have hP : va_P (dC, dI) vwCl [(Ad0, .inr (6, (s116.set 8 (.ref q117)))), (q117, .inl (k118, 6, .inl f119))] H := hP
  have hD : va_D A [(Ad0, .inr (6, (s116.set 8 (.ref q117)))), (q117, .inl (k118, 6, .inl f119))] := hD
  have o_s121 := ow_set o_s116 8 (.ref q117) (by decide) (l' := [(8, .ref q117), (4, .ref q112), (3, .ref q107), (2, .ref q102), (0, .ref Br0)]) (w' := [8, 4, 3, 2, 0]) rfl rfl
  generalize (s116.set 8 (.ref q117)) = s121 at hP hD o_s121
  have hP := hP.sub (ws' := [(Ad0, .inr (6, s121))]) [0] rfl
  have hD := hD.sub (ws' := [(Ad0, .inr (6, s121))]) [0] (by decide) rfl
  have hK := hK.sub (tys' := []) [] rfl
  refine lv_aload_n hx hb dX3_init_41 rfl (lv_at hl 0 rfl) ?_
  refine lv_bipush (v := 6) hx hb dX3_init_42 (by decide) ?_
  refine va_newa (atype := .int) (ty := .int) (a0 := (6, .inl (fun _ : Nat => (0 : Int32)))) (N' := 6) hx hb (hts (.arrayClass .int) (by decide +kernel)) rfl hK hP hD hS hA (na_I 6) (by decide) (by decide) (by decide) (Nat.le_of_ble_eq_true rfl) (Nat.le_of_ble_eq_true rfl) dX3_init_44 (fun q122 k123 H hK hP hD hS => ?_)
  have hK : va_K (dC, dI) vwCl [(k123, .int)] s := hK
  have hP : va_P (dC, dI) vwCl [(Ad0, .inr (6, s121)), (q122, .inl (k123, 6, .inl ((fun _ : Nat => (0 : Int32)))))] H := hP
  have hD : va_D A [(Ad0, .inr (6, s121)), (q122, .inl (k123, 6, .inl ((fun _ : Nat => (0 : Int32)))))] := hD
  have z125 : ∀ j, (fun _ : Nat => (0 : Int32)) j = 0 := fun _ => rfl
  generalize (fun _ : Nat => (0 : Int32)) = f124 at hP hD z125
  refine W.widen (k := 5) (n := 312) (by omega) (by omega) ?_
  refine va_putF (D := (dC, dI)) (ci := 6) (v := .ref q122) (ty := .array .int) (C := RX3) (T := TX3) (N := 13) hx hb hts (in_z_X3_init_X3) tyX3 tyX3_ok nmX3 hown hK hP hD hS 0 rfl rfl 9 (by decide) (hts (.fieldLink RX3 29 "HeapWorks$Journal" "watchField" "[I") (by decide +kernel)) (fun _ h9 => h9) rfl hin rfl (by decide +kernel) rfl rfl (by rw [o_s121.2.1]; decide) dX3_init_46 (fun H locs hP hD hS => ?_)
  have hP : va_P (dC, dI) vwCl [(Ad0, .inr (6, (s121.set 9 (.ref q122)))), (q122, .inl (k123, 6, .inl f124))] H := hP
  have hD : va_D A [(Ad0, .inr (6, (s121.set 9 (.ref q122)))), (q122, .inl (k123, 6, .inl f124))] := hD
  have o_s126 := ow_set o_s121 9 (.ref q122) (by decide) (l' := [(9, .ref q122), (8, .ref q117), (4, .ref q112), (3, .ref q107), (2, .ref q102), (0, .ref Br0)]) (w' := [9, 8, 4, 3, 2, 0]) rfl rfl
  generalize (s121.set 9 (.ref q122)) = s126 at hP hD o_s126
  have hP := hP.sub (ws' := [(Ad0, .inr (6, s126))]) [0] rfl
  have hD := hD.sub (ws' := [(Ad0, .inr (6, s126))]) [0] (by decide) rfl
  have hK := hK.sub (tys' := []) [] rfl
  refine lv_aload_n hx hb dX3_init_49 rfl (lv_at hl 0 rfl) ?_
  refine lv_bipush (v := 6) hx hb dX3_init_50 (by decide) ?_
  refine va_newa (atype := .int) (ty := .int) (a0 := (6, .inl (fun _ : Nat => (0 : Int32)))) (N' := 6) hx hb (hts (.arrayClass .int) (by decide +kernel)) rfl hK hP hD hS hA (na_I 6) (by decide) (by decide) (by decide) (Nat.le_of_ble_eq_true rfl) (Nat.le_of_ble_eq_true rfl) dX3_init_52 (fun q127 k128 H hK hP hD hS => ?_)
  have hK : va_K (dC, dI) vwCl [(k128, .int)] s := hK
  have hP : va_P (dC, dI) vwCl [(Ad0, .inr (6, s126)), (q127, .inl (k128, 6, .inl ((fun _ : Nat => (0 : Int32)))))] H := hP
  have hD : va_D A [(Ad0, .inr (6, s126)), (q127, .inl (k128, 6, .inl ((fun _ : Nat => (0 : Int32)))))] := hD
  have z130 : ∀ j, (fun _ : Nat => (0 : Int32)) j = 0 := fun _ => rfl
  generalize (fun _ : Nat => (0 : Int32)) = f129 at hP hD z130
  refine W.widen (k := 6) (n := 318) (by omega) (by omega) ?_
  refine va_putF (D := (dC, dI)) (ci := 6) (v := .ref q127) (ty := .array .int) (C := RX3) (T := TX3) (N := 13) hx hb hts (in_z_X3_init_X3) tyX3 tyX3_ok nmX3 hown hK hP hD hS 0 rfl rfl 10 (by decide) (hts (.fieldLink RX3 32 "HeapWorks$Journal" "watchCondition" "[I") (by decide +kernel)) (fun _ h9 => h9) rfl hin rfl (by decide +kernel) rfl rfl (by rw [o_s126.2.1]; decide) dX3_init_54 (fun H locs hP hD hS => ?_)
  have hP : va_P (dC, dI) vwCl [(Ad0, .inr (6, (s126.set 10 (.ref q127)))), (q127, .inl (k128, 6, .inl f129))] H := hP
  have hD : va_D A [(Ad0, .inr (6, (s126.set 10 (.ref q127)))), (q127, .inl (k128, 6, .inl f129))] := hD
  have o_s131 := ow_set o_s126 10 (.ref q127) (by decide) (l' := [(10, .ref q127), (9, .ref q122), (8, .ref q117), (4, .ref q112), (3, .ref q107), (2, .ref q102), (0, .ref Br0)]) (w' := [10, 9, 8, 4, 3, 2, 0]) rfl rfl
  generalize (s126.set 10 (.ref q127)) = s131 at hP hD o_s131
  have hP := hP.sub (ws' := [(Ad0, .inr (6, s131))]) [0] rfl
  have hD := hD.sub (ws' := [(Ad0, .inr (6, s131))]) [0] (by decide) rfl
  have hK := hK.sub (tys' := []) [] rfl
  refine lv_aload_n hx hb dX3_init_57 rfl (lv_at hl 0 rfl) ?_
  refine lv_bipush (v := 6) hx hb dX3_init_58 (by decide) ?_
  refine va_newa (atype := .int) (ty := .int) (a0 := (6, .inl (fun _ : Nat => (0 : Int32)))) (N' := 6) hx hb (hts (.arrayClass .int) (by decide +kernel)) rfl hK hP hD hS hA (na_I 6) (by decide) (by decide) (by decide) (Nat.le_of_ble_eq_true rfl) (Nat.le_of_ble_eq_true rfl) dX3_init_60 (fun q132 k133 H hK hP hD hS => ?_)
  have hK : va_K (dC, dI) vwCl [(k133, .int)] s := hK
  have hP : va_P (dC, dI) vwCl [(Ad0, .inr (6, s131)), (q132, .inl (k133, 6, .inl ((fun _ : Nat => (0 : Int32)))))] H := hP
  have hD : va_D A [(Ad0, .inr (6, s131)), (q132, .inl (k133, 6, .inl ((fun _ : Nat => (0 : Int32)))))] := hD
  have z135 : ∀ j, (fun _ : Nat => (0 : Int32)) j = 0 := fun _ => rfl
  generalize (fun _ : Nat => (0 : Int32)) = f134 at hP hD z135
  refine W.widen (k := 7) (n := 324) (by omega) (by omega) ?_
  refine va_putF (D := (dC, dI)) (ci := 6) (v := .ref q132) (ty := .array .int) (C := RX3) (T := TX3) (N := 13) hx hb hts (in_z_X3_init_X3) tyX3 tyX3_ok nmX3 hown hK hP hD hS 0 rfl rfl 11 (by decide) (hts (.fieldLink RX3 35 "HeapWorks$Journal" "rowCount" "[I") (by decide +kernel)) (fun _ h9 => h9) rfl hin rfl (by decide +kernel) rfl rfl (by rw [o_s131.2.1]; decide) dX3_init_62 (fun H locs hP hD hS => ?_)
  have hP : va_P (dC, dI) vwCl [(Ad0, .inr (6, (s131.set 11 (.ref q132)))), (q132, .inl (k133, 6, .inl f134))] H := hP
  have hD : va_D A [(Ad0, .inr (6, (s131.set 11 (.ref q132)))), (q132, .inl (k133, 6, .inl f134))] := hD
  have o_s136 := ow_set o_s131 11 (.ref q132) (by decide) (l' := [(11, .ref q132), (10, .ref q127), (9, .ref q122), (8, .ref q117), (4, .ref q112), (3, .ref q107), (2, .ref q102), (0, .ref Br0)]) (w' := [11, 10, 9, 8, 4, 3, 2, 0]) rfl rfl
  generalize (s131.set 11 (.ref q132)) = s136 at hP hD o_s136
  have hP := hP.sub (ws' := [(Ad0, .inr (6, s136))]) [0] rfl
  have hD := hD.sub (ws' := [(Ad0, .inr (6, s136))]) [0] (by decide) rfl
  have hK := hK.sub (tys' := []) [] rfl
  refine lv_aload_n hx hb dX3_init_65 rfl (lv_at hl 0 rfl) ?_
  refine lv_sipush (v := 144) hx hb dX3_init_66 (by decide) ?_
  refine va_newa (atype := .long) (ty := .long) (a0 := (144, .inr (.inl (fun _ : Nat => (0 : Int64))))) (N' := 144) hx hb (hts (.arrayClass .long) (by decide +kernel)) rfl hK hP hD hS hA (na_J 144) (by decide) (by decide) (by decide) (Nat.le_of_ble_eq_true rfl) (Nat.le_of_ble_eq_true rfl) dX3_init_69 (fun q137 k138 H hK hP hD hS => ?_)
  have hK : va_K (dC, dI) vwCl [(k138, .long)] s := hK
  have hP : va_P (dC, dI) vwCl [(Ad0, .inr (6, s136)), (q137, .inl (k138, 144, .inr (.inl ((fun _ : Nat => (0 : Int64))))))] H := hP
  have hD : va_D A [(Ad0, .inr (6, s136)), (q137, .inl (k138, 144, .inr (.inl ((fun _ : Nat => (0 : Int64))))))] := hD
  have z140 : ∀ j, (fun _ : Nat => (0 : Int64)) j = 0 := fun _ => rfl
  generalize (fun _ : Nat => (0 : Int64)) = f139 at hP hD z140
  refine W.widen (k := 8) (n := 468) (by omega) (by omega) ?_
  refine va_putF (D := (dC, dI)) (ci := 6) (v := .ref q137) (ty := .array .long) (C := RX3) (T := TX3) (N := 13) hx hb hts (in_z_X3_init_X3) tyX3 tyX3_ok nmX3 hown hK hP hD hS 0 rfl rfl 12 (by decide) (hts (.fieldLink RX3 38 "HeapWorks$Journal" "rowParts" "[J") (by decide +kernel)) (fun _ h9 => h9) rfl hin rfl (by decide +kernel) rfl rfl (by rw [o_s136.2.1]; decide) dX3_init_71 (fun H locs hP hD hS => ?_)
  have hP : va_P (dC, dI) vwCl [(Ad0, .inr (6, (s136.set 12 (.ref q137)))), (q137, .inl (k138, 144, .inr (.inl f139)))] H := hP
  have hD : va_D A [(Ad0, .inr (6, (s136.set 12 (.ref q137)))), (q137, .inl (k138, 144, .inr (.inl f139)))] := hD
  have o_s141 := ow_set o_s136 12 (.ref q137) (by decide) (l' := [(12, .ref q137), (11, .ref q132), (10, .ref q127), (9, .ref q122), (8, .ref q117), (4, .ref q112), (3, .ref q107), (2, .ref q102), (0, .ref Br0)]) (w' := [12, 11, 10, 9, 8, 4, 3, 2, 0]) rfl rfl
  generalize (s136.set 12 (.ref q137)) = s141 at hP hD o_s141
  have hP := hP.sub (ws' := [(Ad0, .inr (6, s141))]) [0] rfl
  have hD := hD.sub (ws' := [(Ad0, .inr (6, s141))]) [0] (by decide) rfl
  have hK := hK.sub (tys' := []) [] rfl
  have hP9 := hP.sub (ws' := [(Ad0, .inr (6, s141))]) [0] rfl
  have hD9 := hD.sub (ws' := [(Ad0, .inr (6, s141))]) [0] (by decide) rfl
  have hK9 := hK.sub (tys' := []) [] rfl
  refine W.widen (k := 8) (n := 468) (by decide) (by decide) ?_
  exact W.vret hx hb hr (fun t ht hW => ⟨⟨s141, rfl, (ow_sub o_s141 [8] rfl), by rw [ht]; exact hP9, va_K.moved hW.alike hK9, hD9⟩, hS.F ht⟩) hS.2.2 dX3_init_74

def l_z_X8_init : List Cond := [.methodLink RX8 3 objectInit, .instanceMethod objectInit, .code objectInit ⟨#[0xb1]⟩ 1 none, .fieldLink RX8 9 "HeapWorks$Shape" "types" "LHeapWorks$Types;", .arrayClass .int, .fieldLink RX8 17 "HeapWorks$Shape" "holderFirst" "[I", .fieldLink RX8 21 "HeapWorks$Shape" "holderThing" "[I", .fieldLink RX8 24 "HeapWorks$Shape" "holderSlot" "[I", .fieldLink RX8 27 "HeapWorks$Shape" "dominator" "[I", .fieldLink RX8 30 "HeapWorks$Shape" "kept" "[I", .fieldLink RX8 33 "HeapWorks$Shape" "dominated" "[I", .fieldLink RX8 36 "HeapWorks$Shape" "ring" "[I", .fieldLink RX8 39 "HeapWorks$Shape" "twin" "[I", .fieldLink RX8 42 "HeapWorks$Shape" "order" "[I", .fieldLink RX8 45 "HeapWorks$Shape" "low" "[I", .fieldLink RX8 48 "HeapWorks$Shape" "stack" "[I", .fieldLink RX8 51 "HeapWorks$Shape" "path" "[I", .fieldLink RX8 54 "HeapWorks$Shape" "cursor" "[I", .fieldLink RX8 57 "HeapWorks$Shape" "bucket" "[I"]
def w_z_X8_init : List Cond := .code yX8_init cX8_init 2 none :: (l_z_X8_init ++ (wsX80))
theorem in_z_X8_init_X8 : ∀ w ∈ wsX80, w ∈ w_z_X8_init := fun w h => List.mem_cons_of_mem _ (List.mem_append_right _ (h))
set_option maxHeartbeats 4000000 in
set_option maxRecDepth 100000 in
theorem z_X8_init (l : Launch) (dC : Nat → ClassId) (dI : Nat → Nat → Nat) (sz : Nat) (Ad0 : Nat) (Fs0 : List Value) (Br0 : Nat) (k_Fs0 : fh Fs0 18 [])  : Met l yX8_init w_z_X8_init ({ frames := 1, cells := 14, slots := 13129, locals := 24 }) (va_Pc [.ref Ad0, .ref Br0] (fun U => U.heap.size = sz ∧ Wd dC dI [] (fun _ => True) [(Ad0, .inr (11, Fs0))] U)) (va_Qv (fun (u : List Value × Nat × (Nat → Int32) × ClassId × Nat × (Nat → Int32) × ClassId × Nat × (Nat → Int32) × ClassId × Nat × (Nat → Int32) × ClassId × Nat × (Nat → Int32) × ClassId) => match u with | (s171, q167, f169, k168, q157, f159, k158, q147, f149, k148, q137, f139, k138, q132, f134, k133) => (ow Fs0 (s171) 18 [17, 16, 15, 14, 13, 12, 10, 8, 7, 6, 5, 4, 3, 2, 0] [(17, .ref q167), (15, .ref q157), (13, .ref q147), (10, .ref q137), (8, .ref q132), (0, .ref Br0)] ∧ (∀ j, f169 j = 0) ∧ (∀ j, f159 j = 0) ∧ (∀ j, f149 j = 0) ∧ (∀ j, f139 j = 0) ∧ (∀ j, f134 j = 0))) (fun (u : List Value × Nat × (Nat → Int32) × ClassId × Nat × (Nat → Int32) × ClassId × Nat × (Nat → Int32) × ClassId × Nat × (Nat → Int32) × ClassId × Nat × (Nat → Int32) × ClassId) t => match u with | (s171, q167, f169, k168, q157, f159, k158, q147, f149, k148, q137, f139, k138, q132, f134, k133) => Wd dC dI [(k168, .int), (k158, .int), (k148, .int), (k138, .int), (k133, .int)] (va_A [(Ad0, .inr (11, Fs0))] sz) [(Ad0, .inr (11, s171)), (q167, .inl (k168, 512, .inl f169)), (q157, .inl (k158, 400, .inl f159)), (q147, .inl (k148, 400, .inl f149)), (q137, .inl (k138, 400, .inl f139)), (q132, .inl (k133, 400, .inl f134))] t) (va_A [(Ad0, .inr (11, Fs0))] sz))  14 13129 (va_A [(Ad0, .inr (11, Fs0))] sz) := by
  refine Met.ofW (cc := cX8_init) (maxL := 2) (ret := none) (by decide) rfl ?_
  intro p e s m args below meth c s₁ B hml hv
  obtain ⟨rfl, hsz, hP, hK, hD0⟩ := hv
  have hx := B.exec
  have hb := B.bytes
  have hr := B.returns
  have hts := atoms_spec (ws := w_z_X8_init) B.pre
  have hown : s.vm.findClass RX8 = some m.cls := findClass_of_methodNamed B.named
  have hlocks := B.notSynchronized
  have hin : meth.name = "<init>" := (name_of_methodNamed B.named B.method).1
  subst hsz
  have hD := hD0.self (sz := s.heap.size)
  generalize hAe : va_A [(Ad0, .inr (11, Fs0))] s.heap.size = A at hD ⊢
  have hA : ∀ q : Nat, s.heap.size ≤ q → A q := fun q h => by rw [← hAe]; exact Or.inr h
  have hS : va_S A s.heap s.heap [] := va_S.rf
  have hl := lv_entry ([.ref Ad0, .ref Br0]) (n := 2) (Nat.le_of_ble_eq_true rfl)
  rw [lg_entry_eq]
  generalize (lg_sl ([.ref Ad0, .ref Br0]) ++ List.replicate (2 - (lg_sl ([.ref Ad0, .ref Br0])).length) Slot.unset).toArray = ls at hl ⊢
  have hl : lv_has ls 2 [(0, .ref Ad0), (1, .ref Br0)] := hl
  have o_Fs0 := ow_0 k_Fs0
  refine lv_aload_n hx hb dX8_init_0 rfl (lv_at hl 0 rfl) ?_
  refine W.objInit hx hb hown (hts (.methodLink RX8 3 objectInit) (by decide +kernel)) (hts (.instanceMethod objectInit) (by decide +kernel)) (hts (.code objectInit ⟨#[0xb1]⟩ 1 none) (by decide +kernel)) rfl (by rw [hml]; exact hl.1) rfl dX8_init_1 (Nat.le_of_ble_eq_true rfl) (Nat.le_of_ble_eq_true rfl) ?_
  refine W.eq (g2 := F0 m 4 ls []) rfl ?_
  refine lv_aload_n hx hb dX8_init_4 rfl (lv_at hl 0 rfl) ?_
  refine lv_aload_n hx hb dX8_init_5 rfl (lv_at hl 1 rfl) ?_
  refine va_putF (D := (dC, dI)) (ci := 11) (v := .ref Br0) (ty := .object "HeapWorks$Types") (C := RX8) (T := TX8) (N := 18) hx hb hts (in_z_X8_init_X8) tyX8 tyX8_ok nmX8 hown hK hP hD hS 0 rfl rfl 0 (by decide) (hts (.fieldLink RX8 9 "HeapWorks$Shape" "types" "LHeapWorks$Types;") (by decide +kernel)) (fun _ h9 => h9) rfl hin rfl (by decide +kernel) rfl rfl (by rw [o_Fs0.2.1]; decide) dX8_init_6 (fun H locs hP hD hS => ?_)
  have hP : va_P (dC, dI) vwCl [(Ad0, .inr (11, (Fs0.set 0 (.ref Br0))))] H := hP
  have hD : va_D A [(Ad0, .inr (11, (Fs0.set 0 (.ref Br0))))] := hD
  have o_s101 := ow_set o_Fs0 0 (.ref Br0) (by decide) (l' := [(0, .ref Br0)]) (w' := [0]) rfl rfl
  generalize (Fs0.set 0 (.ref Br0)) = s101 at hP hD o_s101
  refine lv_aload_n hx hb dX8_init_9 rfl (lv_at hl 0 rfl) ?_
  refine lv_sipush (v := 401) hx hb dX8_init_10 (by decide) ?_
  refine va_newa (atype := .int) (ty := .int) (a0 := (401, .inl (fun _ : Nat => (0 : Int32)))) (N' := 401) hx hb (hts (.arrayClass .int) (by decide +kernel)) rfl hK hP hD hS hA (na_I 401) (by decide) (by decide) (by decide) (Nat.le_of_ble_eq_true rfl) (Nat.le_of_ble_eq_true rfl) dX8_init_13 (fun q102 k103 H hK hP hD hS => ?_)
  have hK : va_K (dC, dI) vwCl [(k103, .int)] s := hK
  have hP : va_P (dC, dI) vwCl [(Ad0, .inr (11, s101)), (q102, .inl (k103, 401, .inl ((fun _ : Nat => (0 : Int32)))))] H := hP
  have hD : va_D A [(Ad0, .inr (11, s101)), (q102, .inl (k103, 401, .inl ((fun _ : Nat => (0 : Int32)))))] := hD
  have z105 : ∀ j, (fun _ : Nat => (0 : Int32)) j = 0 := fun _ => rfl
  generalize (fun _ : Nat => (0 : Int32)) = f104 at hP hD z105
  refine W.widen (k := 1) (n := 401) (by omega) (by omega) ?_
  refine va_putF (D := (dC, dI)) (ci := 11) (v := .ref q102) (ty := .array .int) (C := RX8) (T := TX8) (N := 18) hx hb hts (in_z_X8_init_X8) tyX8 tyX8_ok nmX8 hown hK hP hD hS 0 rfl rfl 2 (by decide) (hts (.fieldLink RX8 17 "HeapWorks$Shape" "holderFirst" "[I") (by decide +kernel)) (fun _ h9 => h9) rfl hin rfl (by decide +kernel) rfl rfl (by rw [o_s101.2.1]; decide) dX8_init_15 (fun H locs hP hD hS => ?_)
  have hP : va_P (dC, dI) vwCl [(Ad0, .inr (11, (s101.set 2 (.ref q102)))), (q102, .inl (k103, 401, .inl f104))] H := hP
  have hD : va_D A [(Ad0, .inr (11, (s101.set 2 (.ref q102)))), (q102, .inl (k103, 401, .inl f104))] := hD
  have o_s106 := ow_set o_s101 2 (.ref q102) (by decide) (l' := [(2, .ref q102), (0, .ref Br0)]) (w' := [2, 0]) rfl rfl
  generalize (s101.set 2 (.ref q102)) = s106 at hP hD o_s106
  have hP := hP.sub (ws' := [(Ad0, .inr (11, s106))]) [0] rfl
  have hD := hD.sub (ws' := [(Ad0, .inr (11, s106))]) [0] (by decide) rfl
  have hK := hK.sub (tys' := []) [] rfl
  refine lv_aload_n hx hb dX8_init_18 rfl (lv_at hl 0 rfl) ?_
  refine lv_sipush (v := 4108) hx hb dX8_init_19 (by decide) ?_
  refine va_newa (atype := .int) (ty := .int) (a0 := (4108, .inl (fun _ : Nat => (0 : Int32)))) (N' := 4108) hx hb (hts (.arrayClass .int) (by decide +kernel)) rfl hK hP hD hS hA (na_I 4108) (by decide) (by decide) (by decide) (Nat.le_of_ble_eq_true rfl) (Nat.le_of_ble_eq_true rfl) dX8_init_22 (fun q107 k108 H hK hP hD hS => ?_)
  have hK : va_K (dC, dI) vwCl [(k108, .int)] s := hK
  have hP : va_P (dC, dI) vwCl [(Ad0, .inr (11, s106)), (q107, .inl (k108, 4108, .inl ((fun _ : Nat => (0 : Int32)))))] H := hP
  have hD : va_D A [(Ad0, .inr (11, s106)), (q107, .inl (k108, 4108, .inl ((fun _ : Nat => (0 : Int32)))))] := hD
  have z110 : ∀ j, (fun _ : Nat => (0 : Int32)) j = 0 := fun _ => rfl
  generalize (fun _ : Nat => (0 : Int32)) = f109 at hP hD z110
  refine W.widen (k := 2) (n := 4509) (by omega) (by omega) ?_
  refine va_putF (D := (dC, dI)) (ci := 11) (v := .ref q107) (ty := .array .int) (C := RX8) (T := TX8) (N := 18) hx hb hts (in_z_X8_init_X8) tyX8 tyX8_ok nmX8 hown hK hP hD hS 0 rfl rfl 3 (by decide) (hts (.fieldLink RX8 21 "HeapWorks$Shape" "holderThing" "[I") (by decide +kernel)) (fun _ h9 => h9) rfl hin rfl (by decide +kernel) rfl rfl (by rw [o_s106.2.1]; decide) dX8_init_24 (fun H locs hP hD hS => ?_)
  have hP : va_P (dC, dI) vwCl [(Ad0, .inr (11, (s106.set 3 (.ref q107)))), (q107, .inl (k108, 4108, .inl f109))] H := hP
  have hD : va_D A [(Ad0, .inr (11, (s106.set 3 (.ref q107)))), (q107, .inl (k108, 4108, .inl f109))] := hD
  have o_s111 := ow_set o_s106 3 (.ref q107) (by decide) (l' := [(3, .ref q107), (2, .ref q102), (0, .ref Br0)]) (w' := [3, 2, 0]) rfl rfl
  generalize (s106.set 3 (.ref q107)) = s111 at hP hD o_s111
  have hP := hP.sub (ws' := [(Ad0, .inr (11, s111))]) [0] rfl
  have hD := hD.sub (ws' := [(Ad0, .inr (11, s111))]) [0] (by decide) rfl
  have hK := hK.sub (tys' := []) [] rfl
  refine lv_aload_n hx hb dX8_init_27 rfl (lv_at hl 0 rfl) ?_
  refine lv_sipush (v := 4108) hx hb dX8_init_28 (by decide) ?_
  refine va_newa (atype := .int) (ty := .int) (a0 := (4108, .inl (fun _ : Nat => (0 : Int32)))) (N' := 4108) hx hb (hts (.arrayClass .int) (by decide +kernel)) rfl hK hP hD hS hA (na_I 4108) (by decide) (by decide) (by decide) (Nat.le_of_ble_eq_true rfl) (Nat.le_of_ble_eq_true rfl) dX8_init_31 (fun q112 k113 H hK hP hD hS => ?_)
  have hK : va_K (dC, dI) vwCl [(k113, .int)] s := hK
  have hP : va_P (dC, dI) vwCl [(Ad0, .inr (11, s111)), (q112, .inl (k113, 4108, .inl ((fun _ : Nat => (0 : Int32)))))] H := hP
  have hD : va_D A [(Ad0, .inr (11, s111)), (q112, .inl (k113, 4108, .inl ((fun _ : Nat => (0 : Int32)))))] := hD
  have z115 : ∀ j, (fun _ : Nat => (0 : Int32)) j = 0 := fun _ => rfl
  generalize (fun _ : Nat => (0 : Int32)) = f114 at hP hD z115
  refine W.widen (k := 3) (n := 8617) (by omega) (by omega) ?_
  refine va_putF (D := (dC, dI)) (ci := 11) (v := .ref q112) (ty := .array .int) (C := RX8) (T := TX8) (N := 18) hx hb hts (in_z_X8_init_X8) tyX8 tyX8_ok nmX8 hown hK hP hD hS 0 rfl rfl 4 (by decide) (hts (.fieldLink RX8 24 "HeapWorks$Shape" "holderSlot" "[I") (by decide +kernel)) (fun _ h9 => h9) rfl hin rfl (by decide +kernel) rfl rfl (by rw [o_s111.2.1]; decide) dX8_init_33 (fun H locs hP hD hS => ?_)
  have hP : va_P (dC, dI) vwCl [(Ad0, .inr (11, (s111.set 4 (.ref q112)))), (q112, .inl (k113, 4108, .inl f114))] H := hP
  have hD : va_D A [(Ad0, .inr (11, (s111.set 4 (.ref q112)))), (q112, .inl (k113, 4108, .inl f114))] := hD
  have o_s116 := ow_set o_s111 4 (.ref q112) (by decide) (l' := [(4, .ref q112), (3, .ref q107), (2, .ref q102), (0, .ref Br0)]) (w' := [4, 3, 2, 0]) rfl rfl
  generalize (s111.set 4 (.ref q112)) = s116 at hP hD o_s116
  have hP := hP.sub (ws' := [(Ad0, .inr (11, s116))]) [0] rfl
  have hD := hD.sub (ws' := [(Ad0, .inr (11, s116))]) [0] (by decide) rfl
  have hK := hK.sub (tys' := []) [] rfl
  refine lv_aload_n hx hb dX8_init_36 rfl (lv_at hl 0 rfl) ?_
  refine lv_sipush (v := 400) hx hb dX8_init_37 (by decide) ?_
  refine va_newa (atype := .int) (ty := .int) (a0 := (400, .inl (fun _ : Nat => (0 : Int32)))) (N' := 400) hx hb (hts (.arrayClass .int) (by decide +kernel)) rfl hK hP hD hS hA (na_I 400) (by decide) (by decide) (by decide) (Nat.le_of_ble_eq_true rfl) (Nat.le_of_ble_eq_true rfl) dX8_init_40 (fun q117 k118 H hK hP hD hS => ?_)
  have hK : va_K (dC, dI) vwCl [(k118, .int)] s := hK
  have hP : va_P (dC, dI) vwCl [(Ad0, .inr (11, s116)), (q117, .inl (k118, 400, .inl ((fun _ : Nat => (0 : Int32)))))] H := hP
  have hD : va_D A [(Ad0, .inr (11, s116)), (q117, .inl (k118, 400, .inl ((fun _ : Nat => (0 : Int32)))))] := hD
  have z120 : ∀ j, (fun _ : Nat => (0 : Int32)) j = 0 := fun _ => rfl
  generalize (fun _ : Nat => (0 : Int32)) = f119 at hP hD z120
  refine W.widen (k := 4) (n := 9017) (by omega) (by omega) ?_
  refine va_putF (D := (dC, dI)) (ci := 11) (v := .ref q117) (ty := .array .int) (C := RX8) (T := TX8) (N := 18) hx hb hts (in_z_X8_init_X8) tyX8 tyX8_ok nmX8 hown hK hP hD hS 0 rfl rfl 5 (by decide) (hts (.fieldLink RX8 27 "HeapWorks$Shape" "dominator" "[I") (by decide +kernel)) (fun _ h9 => h9) rfl hin rfl (by decide +kernel) rfl rfl (by rw [o_s116.2.1]; decide) dX8_init_42 (fun H locs hP hD hS => ?_)
  have hP : va_P (dC, dI) vwCl [(Ad0, .inr (11, (s116.set 5 (.ref q117)))), (q117, .inl (k118, 400, .inl f119))] H := hP
  have hD : va_D A [(Ad0, .inr (11, (s116.set 5 (.ref q117)))), (q117, .inl (k118, 400, .inl f119))] := hD
  have o_s121 := ow_set o_s116 5 (.ref q117) (by decide) (l' := [(5, .ref q117), (4, .ref q112), (3, .ref q107), (2, .ref q102), (0, .ref Br0)]) (w' := [5, 4, 3, 2, 0]) rfl rfl
  generalize (s116.set 5 (.ref q117)) = s121 at hP hD o_s121
  have hP := hP.sub (ws' := [(Ad0, .inr (11, s121))]) [0] rfl
  have hD := hD.sub (ws' := [(Ad0, .inr (11, s121))]) [0] (by decide) rfl
  have hK := hK.sub (tys' := []) [] rfl
  refine lv_aload_n hx hb dX8_init_45 rfl (lv_at hl 0 rfl) ?_
  refine lv_sipush (v := 400) hx hb dX8_init_46 (by decide) ?_
  refine va_newa (atype := .int) (ty := .int) (a0 := (400, .inl (fun _ : Nat => (0 : Int32)))) (N' := 400) hx hb (hts (.arrayClass .int) (by decide +kernel)) rfl hK hP hD hS hA (na_I 400) (by decide) (by decide) (by decide) (Nat.le_of_ble_eq_true rfl) (Nat.le_of_ble_eq_true rfl) dX8_init_49 (fun q122 k123 H hK hP hD hS => ?_)
  have hK : va_K (dC, dI) vwCl [(k123, .int)] s := hK
  have hP : va_P (dC, dI) vwCl [(Ad0, .inr (11, s121)), (q122, .inl (k123, 400, .inl ((fun _ : Nat => (0 : Int32)))))] H := hP
  have hD : va_D A [(Ad0, .inr (11, s121)), (q122, .inl (k123, 400, .inl ((fun _ : Nat => (0 : Int32)))))] := hD
  have z125 : ∀ j, (fun _ : Nat => (0 : Int32)) j = 0 := fun _ => rfl
  generalize (fun _ : Nat => (0 : Int32)) = f124 at hP hD z125
  refine W.widen (k := 5) (n := 9417) (by omega) (by omega) ?_
  refine va_putF (D := (dC, dI)) (ci := 11) (v := .ref q122) (ty := .array .int) (C := RX8) (T := TX8) (N := 18) hx hb hts (in_z_X8_init_X8) tyX8 tyX8_ok nmX8 hown hK hP hD hS 0 rfl rfl 6 (by decide) (hts (.fieldLink RX8 30 "HeapWorks$Shape" "kept" "[I") (by decide +kernel)) (fun _ h9 => h9) rfl hin rfl (by decide +kernel) rfl rfl (by rw [o_s121.2.1]; decide) dX8_init_51 (fun H locs hP hD hS => ?_)
  have hP : va_P (dC, dI) vwCl [(Ad0, .inr (11, (s121.set 6 (.ref q122)))), (q122, .inl (k123, 400, .inl f124))] H := hP
  have hD : va_D A [(Ad0, .inr (11, (s121.set 6 (.ref q122)))), (q122, .inl (k123, 400, .inl f124))] := hD
  have o_s126 := ow_set o_s121 6 (.ref q122) (by decide) (l' := [(6, .ref q122), (5, .ref q117), (4, .ref q112), (3, .ref q107), (2, .ref q102), (0, .ref Br0)]) (w' := [6, 5, 4, 3, 2, 0]) rfl rfl
  generalize (s121.set 6 (.ref q122)) = s126 at hP hD o_s126
  have hP := hP.sub (ws' := [(Ad0, .inr (11, s126))]) [0] rfl
  have hD := hD.sub (ws' := [(Ad0, .inr (11, s126))]) [0] (by decide) rfl
  have hK := hK.sub (tys' := []) [] rfl
  refine lv_aload_n hx hb dX8_init_54 rfl (lv_at hl 0 rfl) ?_
  refine lv_sipush (v := 400) hx hb dX8_init_55 (by decide) ?_
  refine va_newa (atype := .int) (ty := .int) (a0 := (400, .inl (fun _ : Nat => (0 : Int32)))) (N' := 400) hx hb (hts (.arrayClass .int) (by decide +kernel)) rfl hK hP hD hS hA (na_I 400) (by decide) (by decide) (by decide) (Nat.le_of_ble_eq_true rfl) (Nat.le_of_ble_eq_true rfl) dX8_init_58 (fun q127 k128 H hK hP hD hS => ?_)
  have hK : va_K (dC, dI) vwCl [(k128, .int)] s := hK
  have hP : va_P (dC, dI) vwCl [(Ad0, .inr (11, s126)), (q127, .inl (k128, 400, .inl ((fun _ : Nat => (0 : Int32)))))] H := hP
  have hD : va_D A [(Ad0, .inr (11, s126)), (q127, .inl (k128, 400, .inl ((fun _ : Nat => (0 : Int32)))))] := hD
  have z130 : ∀ j, (fun _ : Nat => (0 : Int32)) j = 0 := fun _ => rfl
  generalize (fun _ : Nat => (0 : Int32)) = f129 at hP hD z130
  refine W.widen (k := 6) (n := 9817) (by omega) (by omega) ?_
  refine va_putF (D := (dC, dI)) (ci := 11) (v := .ref q127) (ty := .array .int) (C := RX8) (T := TX8) (N := 18) hx hb hts (in_z_X8_init_X8) tyX8 tyX8_ok nmX8 hown hK hP hD hS 0 rfl rfl 7 (by decide) (hts (.fieldLink RX8 33 "HeapWorks$Shape" "dominated" "[I") (by decide +kernel)) (fun _ h9 => h9) rfl hin rfl (by decide +kernel) rfl rfl (by rw [o_s126.2.1]; decide) dX8_init_60 (fun H locs hP hD hS => ?_)
  have hP : va_P (dC, dI) vwCl [(Ad0, .inr (11, (s126.set 7 (.ref q127)))), (q127, .inl (k128, 400, .inl f129))] H := hP
  have hD : va_D A [(Ad0, .inr (11, (s126.set 7 (.ref q127)))), (q127, .inl (k128, 400, .inl f129))] := hD
  have o_s131 := ow_set o_s126 7 (.ref q127) (by decide) (l' := [(7, .ref q127), (6, .ref q122), (5, .ref q117), (4, .ref q112), (3, .ref q107), (2, .ref q102), (0, .ref Br0)]) (w' := [7, 6, 5, 4, 3, 2, 0]) rfl rfl
  generalize (s126.set 7 (.ref q127)) = s131 at hP hD o_s131
  have hP := hP.sub (ws' := [(Ad0, .inr (11, s131))]) [0] rfl
  have hD := hD.sub (ws' := [(Ad0, .inr (11, s131))]) [0] (by decide) rfl
  have hK := hK.sub (tys' := []) [] rfl
  refine lv_aload_n hx hb dX8_init_63 rfl (lv_at hl 0 rfl) ?_
  refine lv_sipush (v := 400) hx hb dX8_init_64 (by decide) ?_
  refine va_newa (atype := .int) (ty := .int) (a0 := (400, .inl (fun _ : Nat => (0 : Int32)))) (N' := 400) hx hb (hts (.arrayClass .int) (by decide +kernel)) rfl hK hP hD hS hA (na_I 400) (by decide) (by decide) (by decide) (Nat.le_of_ble_eq_true rfl) (Nat.le_of_ble_eq_true rfl) dX8_init_67 (fun q132 k133 H hK hP hD hS => ?_)
  have hK : va_K (dC, dI) vwCl [(k133, .int)] s := hK
  have hP : va_P (dC, dI) vwCl [(Ad0, .inr (11, s131)), (q132, .inl (k133, 400, .inl ((fun _ : Nat => (0 : Int32)))))] H := hP
  have hD : va_D A [(Ad0, .inr (11, s131)), (q132, .inl (k133, 400, .inl ((fun _ : Nat => (0 : Int32)))))] := hD
  have z135 : ∀ j, (fun _ : Nat => (0 : Int32)) j = 0 := fun _ => rfl
  generalize (fun _ : Nat => (0 : Int32)) = f134 at hP hD z135
  refine W.widen (k := 7) (n := 10217) (by omega) (by omega) ?_
  refine va_putF (D := (dC, dI)) (ci := 11) (v := .ref q132) (ty := .array .int) (C := RX8) (T := TX8) (N := 18) hx hb hts (in_z_X8_init_X8) tyX8 tyX8_ok nmX8 hown hK hP hD hS 0 rfl rfl 8 (by decide) (hts (.fieldLink RX8 36 "HeapWorks$Shape" "ring" "[I") (by decide +kernel)) (fun _ h9 => h9) rfl hin rfl (by decide +kernel) rfl rfl (by rw [o_s131.2.1]; decide) dX8_init_69 (fun H locs hP hD hS => ?_)
  have hP : va_P (dC, dI) vwCl [(Ad0, .inr (11, (s131.set 8 (.ref q132)))), (q132, .inl (k133, 400, .inl f134))] H := hP
  have hD : va_D A [(Ad0, .inr (11, (s131.set 8 (.ref q132)))), (q132, .inl (k133, 400, .inl f134))] := hD
  have o_s136 := ow_set o_s131 8 (.ref q132) (by decide) (l' := [(8, .ref q132), (7, .ref q127), (6, .ref q122), (5, .ref q117), (4, .ref q112), (3, .ref q107), (2, .ref q102), (0, .ref Br0)]) (w' := [8, 7, 6, 5, 4, 3, 2, 0]) rfl rfl
  generalize (s131.set 8 (.ref q132)) = s136 at hP hD o_s136
  refine lv_aload_n hx hb dX8_init_72 rfl (lv_at hl 0 rfl) ?_
  refine lv_sipush (v := 400) hx hb dX8_init_73 (by decide) ?_
  refine va_newa (atype := .int) (ty := .int) (a0 := (400, .inl (fun _ : Nat => (0 : Int32)))) (N' := 400) hx hb (hts (.arrayClass .int) (by decide +kernel)) rfl hK hP hD hS hA (na_I 400) (by decide) (by decide) (by decide) (Nat.le_of_ble_eq_true rfl) (Nat.le_of_ble_eq_true rfl) dX8_init_76 (fun q137 k138 H hK hP hD hS => ?_)
  have hK : va_K (dC, dI) vwCl [(k133, .int), (k138, .int)] s := hK
  have hP : va_P (dC, dI) vwCl [(Ad0, .inr (11, s136)), (q132, .inl (k133, 400, .inl f134)), (q137, .inl (k138, 400, .inl ((fun _ : Nat => (0 : Int32)))))] H := hP
  have hD : va_D A [(Ad0, .inr (11, s136)), (q132, .inl (k133, 400, .inl f134)), (q137, .inl (k138, 400, .inl ((fun _ : Nat => (0 : Int32)))))] := hD
  have z140 : ∀ j, (fun _ : Nat => (0 : Int32)) j = 0 := fun _ => rfl
  generalize (fun _ : Nat => (0 : Int32)) = f139 at hP hD z140
  refine W.widen (k := 8) (n := 10617) (by omega) (by omega) ?_
  refine va_putF (D := (dC, dI)) (ci := 11) (v := .ref q137) (ty := .array .int) (C := RX8) (T := TX8) (N := 18) hx hb hts (in_z_X8_init_X8) tyX8 tyX8_ok nmX8 hown hK hP hD hS 0 rfl rfl 10 (by decide) (hts (.fieldLink RX8 39 "HeapWorks$Shape" "twin" "[I") (by decide +kernel)) (fun _ h9 => h9) rfl hin rfl (by decide +kernel) rfl rfl (by rw [o_s136.2.1]; decide) dX8_init_78 (fun H locs hP hD hS => ?_)
  have hP : va_P (dC, dI) vwCl [(Ad0, .inr (11, (s136.set 10 (.ref q137)))), (q132, .inl (k133, 400, .inl f134)), (q137, .inl (k138, 400, .inl f139))] H := hP
  have hD : va_D A [(Ad0, .inr (11, (s136.set 10 (.ref q137)))), (q132, .inl (k133, 400, .inl f134)), (q137, .inl (k138, 400, .inl f139))] := hD
  have o_s141 := ow_set o_s136 10 (.ref q137) (by decide) (l' := [(10, .ref q137), (8, .ref q132), (7, .ref q127), (6, .ref q122), (5, .ref q117), (4, .ref q112), (3, .ref q107), (2, .ref q102), (0, .ref Br0)]) (w' := [10, 8, 7, 6, 5, 4, 3, 2, 0]) rfl rfl
  generalize (s136.set 10 (.ref q137)) = s141 at hP hD o_s141
  refine lv_aload_n hx hb dX8_init_81 rfl (lv_at hl 0 rfl) ?_
  refine lv_sipush (v := 400) hx hb dX8_init_82 (by decide) ?_
  refine va_newa (atype := .int) (ty := .int) (a0 := (400, .inl (fun _ : Nat => (0 : Int32)))) (N' := 400) hx hb (hts (.arrayClass .int) (by decide +kernel)) rfl hK hP hD hS hA (na_I 400) (by decide) (by decide) (by decide) (Nat.le_of_ble_eq_true rfl) (Nat.le_of_ble_eq_true rfl) dX8_init_85 (fun q142 k143 H hK hP hD hS => ?_)
  have hK : va_K (dC, dI) vwCl [(k133, .int), (k138, .int), (k143, .int)] s := hK
  have hP : va_P (dC, dI) vwCl [(Ad0, .inr (11, s141)), (q132, .inl (k133, 400, .inl f134)), (q137, .inl (k138, 400, .inl f139)), (q142, .inl (k143, 400, .inl ((fun _ : Nat => (0 : Int32)))))] H := hP
  have hD : va_D A [(Ad0, .inr (11, s141)), (q132, .inl (k133, 400, .inl f134)), (q137, .inl (k138, 400, .inl f139)), (q142, .inl (k143, 400, .inl ((fun _ : Nat => (0 : Int32)))))] := hD
  have z145 : ∀ j, (fun _ : Nat => (0 : Int32)) j = 0 := fun _ => rfl
  generalize (fun _ : Nat => (0 : Int32)) = f144 at hP hD z145
  refine W.widen (k := 9) (n := 11017) (by omega) (by omega) ?_
  refine va_putF (D := (dC, dI)) (ci := 11) (v := .ref q142) (ty := .array .int) (C := RX8) (T := TX8) (N := 18) hx hb hts (in_z_X8_init_X8) tyX8 tyX8_ok nmX8 hown hK hP hD hS 0 rfl rfl 12 (by decide) (hts (.fieldLink RX8 42 "HeapWorks$Shape" "order" "[I") (by decide +kernel)) (fun _ h9 => h9) rfl hin rfl (by decide +kernel) rfl rfl (by rw [o_s141.2.1]; decide) dX8_init_87 (fun H locs hP hD hS => ?_)
  have hP : va_P (dC, dI) vwCl [(Ad0, .inr (11, (s141.set 12 (.ref q142)))), (q132, .inl (k133, 400, .inl f134)), (q137, .inl (k138, 400, .inl f139)), (q142, .inl (k143, 400, .inl f144))] H := hP
  have hD : va_D A [(Ad0, .inr (11, (s141.set 12 (.ref q142)))), (q132, .inl (k133, 400, .inl f134)), (q137, .inl (k138, 400, .inl f139)), (q142, .inl (k143, 400, .inl f144))] := hD
  have o_s146 := ow_set o_s141 12 (.ref q142) (by decide) (l' := [(12, .ref q142), (10, .ref q137), (8, .ref q132), (7, .ref q127), (6, .ref q122), (5, .ref q117), (4, .ref q112), (3, .ref q107), (2, .ref q102), (0, .ref Br0)]) (w' := [12, 10, 8, 7, 6, 5, 4, 3, 2, 0]) rfl rfl
  generalize (s141.set 12 (.ref q142)) = s146 at hP hD o_s146
  have hP := hP.sub (ws' := [(Ad0, .inr (11, s146)), (q132, .inl (k133, 400, .inl f134)), (q137, .inl (k138, 400, .inl f139))]) [0, 1, 2] rfl
  have hD := hD.sub (ws' := [(Ad0, .inr (11, s146)), (q132, .inl (k133, 400, .inl f134)), (q137, .inl (k138, 400, .inl f139))]) [0, 1, 2] (by decide) rfl
  have hK := hK.sub (tys' := [(k133, .int), (k138, .int)]) [0, 1] rfl
  refine lv_aload_n hx hb dX8_init_90 rfl (lv_at hl 0 rfl) ?_
  refine lv_sipush (v := 400) hx hb dX8_init_91 (by decide) ?_
  refine va_newa (atype := .int) (ty := .int) (a0 := (400, .inl (fun _ : Nat => (0 : Int32)))) (N' := 400) hx hb (hts (.arrayClass .int) (by decide +kernel)) rfl hK hP hD hS hA (na_I 400) (by decide) (by decide) (by decide) (Nat.le_of_ble_eq_true rfl) (Nat.le_of_ble_eq_true rfl) dX8_init_94 (fun q147 k148 H hK hP hD hS => ?_)
  have hK : va_K (dC, dI) vwCl [(k133, .int), (k138, .int), (k148, .int)] s := hK
  have hP : va_P (dC, dI) vwCl [(Ad0, .inr (11, s146)), (q132, .inl (k133, 400, .inl f134)), (q137, .inl (k138, 400, .inl f139)), (q147, .inl (k148, 400, .inl ((fun _ : Nat => (0 : Int32)))))] H := hP
  have hD : va_D A [(Ad0, .inr (11, s146)), (q132, .inl (k133, 400, .inl f134)), (q137, .inl (k138, 400, .inl f139)), (q147, .inl (k148, 400, .inl ((fun _ : Nat => (0 : Int32)))))] := hD
  have z150 : ∀ j, (fun _ : Nat => (0 : Int32)) j = 0 := fun _ => rfl
  generalize (fun _ : Nat => (0 : Int32)) = f149 at hP hD z150
  refine W.widen (k := 10) (n := 11417) (by omega) (by omega) ?_
  refine va_putF (D := (dC, dI)) (ci := 11) (v := .ref q147) (ty := .array .int) (C := RX8) (T := TX8) (N := 18) hx hb hts (in_z_X8_init_X8) tyX8 tyX8_ok nmX8 hown hK hP hD hS 0 rfl rfl 13 (by decide) (hts (.fieldLink RX8 45 "HeapWorks$Shape" "low" "[I") (by decide +kernel)) (fun _ h9 => h9) rfl hin rfl (by decide +kernel) rfl rfl (by rw [o_s146.2.1]; decide) dX8_init_96 (fun H locs hP hD hS => ?_)
  have hP : va_P (dC, dI) vwCl [(Ad0, .inr (11, (s146.set 13 (.ref q147)))), (q132, .inl (k133, 400, .inl f134)), (q137, .inl (k138, 400, .inl f139)), (q147, .inl (k148, 400, .inl f149))] H := hP
  have hD : va_D A [(Ad0, .inr (11, (s146.set 13 (.ref q147)))), (q132, .inl (k133, 400, .inl f134)), (q137, .inl (k138, 400, .inl f139)), (q147, .inl (k148, 400, .inl f149))] := hD
  have o_s151 := ow_set o_s146 13 (.ref q147) (by decide) (l' := [(13, .ref q147), (12, .ref q142), (10, .ref q137), (8, .ref q132), (7, .ref q127), (6, .ref q122), (5, .ref q117), (4, .ref q112), (3, .ref q107), (2, .ref q102), (0, .ref Br0)]) (w' := [13, 12, 10, 8, 7, 6, 5, 4, 3, 2, 0]) rfl rfl
  generalize (s146.set 13 (.ref q147)) = s151 at hP hD o_s151
  refine lv_aload_n hx hb dX8_init_99 rfl (lv_at hl 0 rfl) ?_
  refine lv_sipush (v := 400) hx hb dX8_init_100 (by decide) ?_
  refine va_newa (atype := .int) (ty := .int) (a0 := (400, .inl (fun _ : Nat => (0 : Int32)))) (N' := 400) hx hb (hts (.arrayClass .int) (by decide +kernel)) rfl hK hP hD hS hA (na_I 400) (by decide) (by decide) (by decide) (Nat.le_of_ble_eq_true rfl) (Nat.le_of_ble_eq_true rfl) dX8_init_103 (fun q152 k153 H hK hP hD hS => ?_)
  have hK : va_K (dC, dI) vwCl [(k133, .int), (k138, .int), (k148, .int), (k153, .int)] s := hK
  have hP : va_P (dC, dI) vwCl [(Ad0, .inr (11, s151)), (q132, .inl (k133, 400, .inl f134)), (q137, .inl (k138, 400, .inl f139)), (q147, .inl (k148, 400, .inl f149)), (q152, .inl (k153, 400, .inl ((fun _ : Nat => (0 : Int32)))))] H := hP
  have hD : va_D A [(Ad0, .inr (11, s151)), (q132, .inl (k133, 400, .inl f134)), (q137, .inl (k138, 400, .inl f139)), (q147, .inl (k148, 400, .inl f149)), (q152, .inl (k153, 400, .inl ((fun _ : Nat => (0 : Int32)))))] := hD
  have z155 : ∀ j, (fun _ : Nat => (0 : Int32)) j = 0 := fun _ => rfl
  generalize (fun _ : Nat => (0 : Int32)) = f154 at hP hD z155
  refine W.widen (k := 11) (n := 11817) (by omega) (by omega) ?_
  refine va_putF (D := (dC, dI)) (ci := 11) (v := .ref q152) (ty := .array .int) (C := RX8) (T := TX8) (N := 18) hx hb hts (in_z_X8_init_X8) tyX8 tyX8_ok nmX8 hown hK hP hD hS 0 rfl rfl 14 (by decide) (hts (.fieldLink RX8 48 "HeapWorks$Shape" "stack" "[I") (by decide +kernel)) (fun _ h9 => h9) rfl hin rfl (by decide +kernel) rfl rfl (by rw [o_s151.2.1]; decide) dX8_init_105 (fun H locs hP hD hS => ?_)
  have hP : va_P (dC, dI) vwCl [(Ad0, .inr (11, (s151.set 14 (.ref q152)))), (q132, .inl (k133, 400, .inl f134)), (q137, .inl (k138, 400, .inl f139)), (q147, .inl (k148, 400, .inl f149)), (q152, .inl (k153, 400, .inl f154))] H := hP
  have hD : va_D A [(Ad0, .inr (11, (s151.set 14 (.ref q152)))), (q132, .inl (k133, 400, .inl f134)), (q137, .inl (k138, 400, .inl f139)), (q147, .inl (k148, 400, .inl f149)), (q152, .inl (k153, 400, .inl f154))] := hD
  have o_s156 := ow_set o_s151 14 (.ref q152) (by decide) (l' := [(14, .ref q152), (13, .ref q147), (12, .ref q142), (10, .ref q137), (8, .ref q132), (7, .ref q127), (6, .ref q122), (5, .ref q117), (4, .ref q112), (3, .ref q107), (2, .ref q102), (0, .ref Br0)]) (w' := [14, 13, 12, 10, 8, 7, 6, 5, 4, 3, 2, 0]) rfl rfl
  generalize (s151.set 14 (.ref q152)) = s156 at hP hD o_s156
  have hP := hP.sub (ws' := [(Ad0, .inr (11, s156)), (q132, .inl (k133, 400, .inl f134)), (q137, .inl (k138, 400, .inl f139)), (q147, .inl (k148, 400, .inl f149))]) [0, 1, 2, 3] rfl
  have hD := hD.sub (ws' := [(Ad0, .inr (11, s156)), (q132, .inl (k133, 400, .inl f134)), (q137, .inl (k138, 400, .inl f139)), (q147, .inl (k148, 400, .inl f149))]) [0, 1, 2, 3] (by decide) rfl
  have hK := hK.sub (tys' := [(k133, .int), (k138, .int), (k148, .int)]) [0, 1, 2] rfl
  refine lv_aload_n hx hb dX8_init_108 rfl (lv_at hl 0 rfl) ?_
  refine lv_sipush (v := 400) hx hb dX8_init_109 (by decide) ?_
  refine va_newa (atype := .int) (ty := .int) (a0 := (400, .inl (fun _ : Nat => (0 : Int32)))) (N' := 400) hx hb (hts (.arrayClass .int) (by decide +kernel)) rfl hK hP hD hS hA (na_I 400) (by decide) (by decide) (by decide) (Nat.le_of_ble_eq_true rfl) (Nat.le_of_ble_eq_true rfl) dX8_init_112 (fun q157 k158 H hK hP hD hS => ?_)
  have hK : va_K (dC, dI) vwCl [(k133, .int), (k138, .int), (k148, .int), (k158, .int)] s := hK
  have hP : va_P (dC, dI) vwCl [(Ad0, .inr (11, s156)), (q132, .inl (k133, 400, .inl f134)), (q137, .inl (k138, 400, .inl f139)), (q147, .inl (k148, 400, .inl f149)), (q157, .inl (k158, 400, .inl ((fun _ : Nat => (0 : Int32)))))] H := hP
  have hD : va_D A [(Ad0, .inr (11, s156)), (q132, .inl (k133, 400, .inl f134)), (q137, .inl (k138, 400, .inl f139)), (q147, .inl (k148, 400, .inl f149)), (q157, .inl (k158, 400, .inl ((fun _ : Nat => (0 : Int32)))))] := hD
  have z160 : ∀ j, (fun _ : Nat => (0 : Int32)) j = 0 := fun _ => rfl
  generalize (fun _ : Nat => (0 : Int32)) = f159 at hP hD z160
  refine W.widen (k := 12) (n := 12217) (by omega) (by omega) ?_
  refine va_putF (D := (dC, dI)) (ci := 11) (v := .ref q157) (ty := .array .int) (C := RX8) (T := TX8) (N := 18) hx hb hts (in_z_X8_init_X8) tyX8 tyX8_ok nmX8 hown hK hP hD hS 0 rfl rfl 15 (by decide) (hts (.fieldLink RX8 51 "HeapWorks$Shape" "path" "[I") (by decide +kernel)) (fun _ h9 => h9) rfl hin rfl (by decide +kernel) rfl rfl (by rw [o_s156.2.1]; decide) dX8_init_114 (fun H locs hP hD hS => ?_)
  have hP : va_P (dC, dI) vwCl [(Ad0, .inr (11, (s156.set 15 (.ref q157)))), (q132, .inl (k133, 400, .inl f134)), (q137, .inl (k138, 400, .inl f139)), (q147, .inl (k148, 400, .inl f149)), (q157, .inl (k158, 400, .inl f159))] H := hP
  have hD : va_D A [(Ad0, .inr (11, (s156.set 15 (.ref q157)))), (q132, .inl (k133, 400, .inl f134)), (q137, .inl (k138, 400, .inl f139)), (q147, .inl (k148, 400, .inl f149)), (q157, .inl (k158, 400, .inl f159))] := hD
  have o_s161 := ow_set o_s156 15 (.ref q157) (by decide) (l' := [(15, .ref q157), (14, .ref q152), (13, .ref q147), (12, .ref q142), (10, .ref q137), (8, .ref q132), (7, .ref q127), (6, .ref q122), (5, .ref q117), (4, .ref q112), (3, .ref q107), (2, .ref q102), (0, .ref Br0)]) (w' := [15, 14, 13, 12, 10, 8, 7, 6, 5, 4, 3, 2, 0]) rfl rfl
  generalize (s156.set 15 (.ref q157)) = s161 at hP hD o_s161
  refine lv_aload_n hx hb dX8_init_117 rfl (lv_at hl 0 rfl) ?_
  refine lv_sipush (v := 400) hx hb dX8_init_118 (by decide) ?_
  refine va_newa (atype := .int) (ty := .int) (a0 := (400, .inl (fun _ : Nat => (0 : Int32)))) (N' := 400) hx hb (hts (.arrayClass .int) (by decide +kernel)) rfl hK hP hD hS hA (na_I 400) (by decide) (by decide) (by decide) (Nat.le_of_ble_eq_true rfl) (Nat.le_of_ble_eq_true rfl) dX8_init_121 (fun q162 k163 H hK hP hD hS => ?_)
  have hK : va_K (dC, dI) vwCl [(k133, .int), (k138, .int), (k148, .int), (k158, .int), (k163, .int)] s := hK
  have hP : va_P (dC, dI) vwCl [(Ad0, .inr (11, s161)), (q132, .inl (k133, 400, .inl f134)), (q137, .inl (k138, 400, .inl f139)), (q147, .inl (k148, 400, .inl f149)), (q157, .inl (k158, 400, .inl f159)), (q162, .inl (k163, 400, .inl ((fun _ : Nat => (0 : Int32)))))] H := hP
  have hD : va_D A [(Ad0, .inr (11, s161)), (q132, .inl (k133, 400, .inl f134)), (q137, .inl (k138, 400, .inl f139)), (q147, .inl (k148, 400, .inl f149)), (q157, .inl (k158, 400, .inl f159)), (q162, .inl (k163, 400, .inl ((fun _ : Nat => (0 : Int32)))))] := hD
  have z165 : ∀ j, (fun _ : Nat => (0 : Int32)) j = 0 := fun _ => rfl
  generalize (fun _ : Nat => (0 : Int32)) = f164 at hP hD z165
  refine W.widen (k := 13) (n := 12617) (by omega) (by omega) ?_
  refine va_putF (D := (dC, dI)) (ci := 11) (v := .ref q162) (ty := .array .int) (C := RX8) (T := TX8) (N := 18) hx hb hts (in_z_X8_init_X8) tyX8 tyX8_ok nmX8 hown hK hP hD hS 0 rfl rfl 16 (by decide) (hts (.fieldLink RX8 54 "HeapWorks$Shape" "cursor" "[I") (by decide +kernel)) (fun _ h9 => h9) rfl hin rfl (by decide +kernel) rfl rfl (by rw [o_s161.2.1]; decide) dX8_init_123 (fun H locs hP hD hS => ?_)
  have hP : va_P (dC, dI) vwCl [(Ad0, .inr (11, (s161.set 16 (.ref q162)))), (q132, .inl (k133, 400, .inl f134)), (q137, .inl (k138, 400, .inl f139)), (q147, .inl (k148, 400, .inl f149)), (q157, .inl (k158, 400, .inl f159)), (q162, .inl (k163, 400, .inl f164))] H := hP
  have hD : va_D A [(Ad0, .inr (11, (s161.set 16 (.ref q162)))), (q132, .inl (k133, 400, .inl f134)), (q137, .inl (k138, 400, .inl f139)), (q147, .inl (k148, 400, .inl f149)), (q157, .inl (k158, 400, .inl f159)), (q162, .inl (k163, 400, .inl f164))] := hD
  have o_s166 := ow_set o_s161 16 (.ref q162) (by decide) (l' := [(16, .ref q162), (15, .ref q157), (14, .ref q152), (13, .ref q147), (12, .ref q142), (10, .ref q137), (8, .ref q132), (7, .ref q127), (6, .ref q122), (5, .ref q117), (4, .ref q112), (3, .ref q107), (2, .ref q102), (0, .ref Br0)]) (w' := [16, 15, 14, 13, 12, 10, 8, 7, 6, 5, 4, 3, 2, 0]) rfl rfl
  generalize (s161.set 16 (.ref q162)) = s166 at hP hD o_s166
  have hP := hP.sub (ws' := [(Ad0, .inr (11, s166)), (q132, .inl (k133, 400, .inl f134)), (q137, .inl (k138, 400, .inl f139)), (q147, .inl (k148, 400, .inl f149)), (q157, .inl (k158, 400, .inl f159))]) [0, 1, 2, 3, 4] rfl
  have hD := hD.sub (ws' := [(Ad0, .inr (11, s166)), (q132, .inl (k133, 400, .inl f134)), (q137, .inl (k138, 400, .inl f139)), (q147, .inl (k148, 400, .inl f149)), (q157, .inl (k158, 400, .inl f159))]) [0, 1, 2, 3, 4] (by decide) rfl
  have hK := hK.sub (tys' := [(k133, .int), (k138, .int), (k148, .int), (k158, .int)]) [0, 1, 2, 3] rfl
  refine lv_aload_n hx hb dX8_init_126 rfl (lv_at hl 0 rfl) ?_
  refine lv_sipush (v := 512) hx hb dX8_init_127 (by decide) ?_
  refine va_newa (atype := .int) (ty := .int) (a0 := (512, .inl (fun _ : Nat => (0 : Int32)))) (N' := 512) hx hb (hts (.arrayClass .int) (by decide +kernel)) rfl hK hP hD hS hA (na_I 512) (by decide) (by decide) (by decide) (Nat.le_of_ble_eq_true rfl) (Nat.le_of_ble_eq_true rfl) dX8_init_130 (fun q167 k168 H hK hP hD hS => ?_)
  have hK : va_K (dC, dI) vwCl [(k133, .int), (k138, .int), (k148, .int), (k158, .int), (k168, .int)] s := hK
  have hP : va_P (dC, dI) vwCl [(Ad0, .inr (11, s166)), (q132, .inl (k133, 400, .inl f134)), (q137, .inl (k138, 400, .inl f139)), (q147, .inl (k148, 400, .inl f149)), (q157, .inl (k158, 400, .inl f159)), (q167, .inl (k168, 512, .inl ((fun _ : Nat => (0 : Int32)))))] H := hP
  have hD : va_D A [(Ad0, .inr (11, s166)), (q132, .inl (k133, 400, .inl f134)), (q137, .inl (k138, 400, .inl f139)), (q147, .inl (k148, 400, .inl f149)), (q157, .inl (k158, 400, .inl f159)), (q167, .inl (k168, 512, .inl ((fun _ : Nat => (0 : Int32)))))] := hD
  have z170 : ∀ j, (fun _ : Nat => (0 : Int32)) j = 0 := fun _ => rfl
  generalize (fun _ : Nat => (0 : Int32)) = f169 at hP hD z170
  refine W.widen (k := 14) (n := 13129) (by omega) (by omega) ?_
  refine va_putF (D := (dC, dI)) (ci := 11) (v := .ref q167) (ty := .array .int) (C := RX8) (T := TX8) (N := 18) hx hb hts (in_z_X8_init_X8) tyX8 tyX8_ok nmX8 hown hK hP hD hS 0 rfl rfl 17 (by decide) (hts (.fieldLink RX8 57 "HeapWorks$Shape" "bucket" "[I") (by decide +kernel)) (fun _ h9 => h9) rfl hin rfl (by decide +kernel) rfl rfl (by rw [o_s166.2.1]; decide) dX8_init_132 (fun H locs hP hD hS => ?_)
  have hP : va_P (dC, dI) vwCl [(Ad0, .inr (11, (s166.set 17 (.ref q167)))), (q132, .inl (k133, 400, .inl f134)), (q137, .inl (k138, 400, .inl f139)), (q147, .inl (k148, 400, .inl f149)), (q157, .inl (k158, 400, .inl f159)), (q167, .inl (k168, 512, .inl f169))] H := hP
  have hD : va_D A [(Ad0, .inr (11, (s166.set 17 (.ref q167)))), (q132, .inl (k133, 400, .inl f134)), (q137, .inl (k138, 400, .inl f139)), (q147, .inl (k148, 400, .inl f149)), (q157, .inl (k158, 400, .inl f159)), (q167, .inl (k168, 512, .inl f169))] := hD
  have o_s171 := ow_set o_s166 17 (.ref q167) (by decide) (l' := [(17, .ref q167), (16, .ref q162), (15, .ref q157), (14, .ref q152), (13, .ref q147), (12, .ref q142), (10, .ref q137), (8, .ref q132), (7, .ref q127), (6, .ref q122), (5, .ref q117), (4, .ref q112), (3, .ref q107), (2, .ref q102), (0, .ref Br0)]) (w' := [17, 16, 15, 14, 13, 12, 10, 8, 7, 6, 5, 4, 3, 2, 0]) rfl rfl
  generalize (s166.set 17 (.ref q167)) = s171 at hP hD o_s171
  have hP9 := hP.sub (ws' := [(Ad0, .inr (11, s171)), (q167, .inl (k168, 512, .inl f169)), (q157, .inl (k158, 400, .inl f159)), (q147, .inl (k148, 400, .inl f149)), (q137, .inl (k138, 400, .inl f139)), (q132, .inl (k133, 400, .inl f134))]) [0, 5, 4, 3, 2, 1] rfl
  have hD9 := hD.sub (ws' := [(Ad0, .inr (11, s171)), (q167, .inl (k168, 512, .inl f169)), (q157, .inl (k158, 400, .inl f159)), (q147, .inl (k148, 400, .inl f149)), (q137, .inl (k138, 400, .inl f139)), (q132, .inl (k133, 400, .inl f134))]) [0, 5, 4, 3, 2, 1] (by decide) rfl
  have hK9 := hK.sub (tys' := [(k168, .int), (k158, .int), (k148, .int), (k138, .int), (k133, .int)]) [4, 3, 2, 1, 0] rfl
  refine W.widen (k := 14) (n := 13129) (by decide) (by decide) ?_
  exact W.vret hx hb hr (fun t ht hW => ⟨⟨(s171, q167, f169, k168, q157, f159, k158, q147, f149, k148, q137, f139, k138, q132, f134, k133), rfl, ⟨(ow_sub o_s171 [0, 2, 4, 6, 7, 14] rfl), z170, z160, z150, z140, z135⟩, by rw [ht]; exact hP9, va_K.moved hW.alike hK9, hD9⟩, hS.F ht⟩) hS.2.2 dX8_init_135

def l_z_X5_init : List Cond := [.methodLink RX5 3 objectInit, .instanceMethod objectInit, .code objectInit ⟨#[0xb1]⟩ 1 none, .arrayClass .int, .fieldLink RX5 11 "HeapWorks$Picture" "object" "[I", .fieldLink RX5 15 "HeapWorks$Picture" "type" "[I", .fieldLink RX5 18 "HeapWorks$Picture" "length" "[I", .fieldLink RX5 21 "HeapWorks$Picture" "first" "[I", .fieldLink RX5 24 "HeapWorks$Picture" "depth" "[I", .fieldLink RX5 27 "HeapWorks$Picture" "wayThing" "[I", .fieldLink RX5 30 "HeapWorks$Picture" "waySlot" "[I", .fieldLink RX5 35 "HeapWorks$Picture" "thingOf" "[I", .methodLink RX5 38 yJ7_fill_53178, .static yJ7_fill_53178, .initialized RJ7, .arrayClass .long, .fieldLink RX5 44 "HeapWorks$Picture" "value" "[J", .arrayClass .boolean, .fieldLink RX5 48 "HeapWorks$Picture" "link" "[Z", .fieldLink RX5 52 "HeapWorks$Picture" "rootNumber" "[I", .fieldLink RX5 55 "HeapWorks$Picture" "rootThing" "[I", .fieldLink RX5 58 "HeapWorks$Picture" "chosen" "[Z", .fieldLink RX5 61 "HeapWorks$Picture" "lostThings" "[I", .fieldLink RX5 64 "HeapWorks$Picture" "mark" "[I", .fieldLink RX5 67 "HeapWorks$Picture" "mate" "[I", .fieldLink RX5 70 "HeapWorks$Picture" "queue" "[I", .classLink RX5 73 RX8, .instantiable RX8 18, .initialized RX8, .methodLink RX5 75 yX8_init, .instanceMethod yX8_init, .fieldLink RX5 78 "HeapWorks$Picture" "shape" "LHeapWorks$Shape;", .code yJ7_fill_53178 cJ7_fill_53178 4 none, .code yX8_init cX8_init 2 none, .methodLink RX8 3 objectInit, .fieldLink RX8 9 "HeapWorks$Shape" "types" "LHeapWorks$Types;", .fieldLink RX8 17 "HeapWorks$Shape" "holderFirst" "[I", .fieldLink RX8 21 "HeapWorks$Shape" "holderThing" "[I", .fieldLink RX8 24 "HeapWorks$Shape" "holderSlot" "[I", .fieldLink RX8 27 "HeapWorks$Shape" "dominator" "[I", .fieldLink RX8 30 "HeapWorks$Shape" "kept" "[I", .fieldLink RX8 33 "HeapWorks$Shape" "dominated" "[I", .fieldLink RX8 36 "HeapWorks$Shape" "ring" "[I", .fieldLink RX8 39 "HeapWorks$Shape" "twin" "[I", .fieldLink RX8 42 "HeapWorks$Shape" "order" "[I", .fieldLink RX8 45 "HeapWorks$Shape" "low" "[I", .fieldLink RX8 48 "HeapWorks$Shape" "stack" "[I", .fieldLink RX8 51 "HeapWorks$Shape" "path" "[I", .fieldLink RX8 54 "HeapWorks$Shape" "cursor" "[I", .fieldLink RX8 57 "HeapWorks$Shape" "bucket" "[I"]
def w_z_X5_init : List Cond := .code yX5_init cX5_init 2 none :: (l_z_X5_init ++ ((wsX50 ++ wsX80)))
theorem in_z_X5_init_X5 : ∀ w ∈ wsX50, w ∈ w_z_X5_init := fun w h => List.mem_cons_of_mem _ (List.mem_append_right _ (List.mem_append_left _ h))
theorem in_z_X5_init_X8 : ∀ w ∈ wsX80, w ∈ w_z_X5_init := fun w h => List.mem_cons_of_mem _ (List.mem_append_right _ (List.mem_append_right _ (h)))
theorem g_z_X5_init_z_J7_fill_53178_2_38 : GoodIn w_z_X5_init (va_wsS RX5 38 yJ7_fill_53178 w_z_J7_fill_53178_2) := goodIn_app (goodIn_r (([.methodLink RX5 38 yJ7_fill_53178, .static yJ7_fill_53178, .initialized RJ7] : List Cond)) [13, 14, 15] rfl (by decide +kernel)) (goodIn_r (.code yJ7_fill_53178 cJ7_fill_53178 4 none :: l_z_J7_fill_53178_2) [33] rfl (by decide +kernel))
theorem g_z_X5_init_z_X8_init_75 : GoodIn w_z_X5_init w_z_X8_init := (goodIn_ca (goodIn_r (.code yX8_init cX8_init 2 none :: l_z_X8_init) [34, 35, 2, 3, 36, 4, 37, 38, 39, 40, 41, 42, 43, 44, 45, 46, 47, 48, 49, 50] rfl (by decide +kernel)) (goodIn_in (in_z_X5_init_X8) gd_X8))
set_option maxHeartbeats 4000000 in
set_option maxRecDepth 100000 in
theorem z_X5_init (l : Launch) (dC : Nat → ClassId) (dI : Nat → Nat → Nat) (sz : Nat) (Ad0 : Nat) (Fs0 : List Value) (Br0 : Nat) (k_Fs0 : fh Fs0 21 [(8, .null)])  : Met l yX5_init w_z_X5_init ({ frames := 2, cells := 32, slots := 26564, locals := 45 }) (va_Pc [.ref Ad0, .ref Br0] (fun U => U.heap.size = sz ∧ Wd dC dI [] (fun _ => True) [(Ad0, .inr (8, Fs0))] U)) (va_Qv (fun (u : List Value × Nat × List Value × Nat × (Nat → Int32) × ClassId × Nat × (Nat → Int32) × ClassId × Nat × (Nat → Int32) × ClassId × Nat × (Nat → Int32) × ClassId × Nat × (Nat → Int32) × ClassId × Nat × (Nat → Int32) × ClassId × Nat × (Nat → Int32) × ClassId) => match u with | (s210, q187, s189, q172, f174, k173, q136, f141, k137, q190, f191, k192, q193, f194, k195, q196, f197, k198, q199, f200, k201, q202, f203, k204) => (ow Fs0 (s210) 21 [20, 19, 18, 17, 15, 14, 13, 12, 10, 9, 8, 7, 6, 5, 4, 3, 2, 1] [(20, .ref q187), (17, .ref q172), (8, .ref q136)] ∧ fh s189 18 [(17, .ref q190), (15, .ref q193), (13, .ref q196), (10, .ref q199), (8, .ref q202), (0, .ref Br0), (1, .int 0), (9, .int 0), (11, .int 0)] ∧ (∀ j, f174 j = 0) ∧ (∀ j, f191 j = 0) ∧ (∀ j, f194 j = 0) ∧ (∀ j, f197 j = 0) ∧ (∀ j, f200 j = 0) ∧ (∀ j, f203 j = 0))) (fun (u : List Value × Nat × List Value × Nat × (Nat → Int32) × ClassId × Nat × (Nat → Int32) × ClassId × Nat × (Nat → Int32) × ClassId × Nat × (Nat → Int32) × ClassId × Nat × (Nat → Int32) × ClassId × Nat × (Nat → Int32) × ClassId × Nat × (Nat → Int32) × ClassId) t => match u with | (s210, q187, s189, q172, f174, k173, q136, f141, k137, q190, f191, k192, q193, f194, k195, q196, f197, k198, q199, f200, k201, q202, f203, k204) => Wd dC dI [(k173, .int), (k137, .int), (k192, .int), (k195, .int), (k198, .int), (k201, .int), (k204, .int)] (va_A [(Ad0, .inr (8, Fs0))] sz) [(Ad0, .inr (8, s210)), (q187, .inr (11, s189)), (q172, .inl (k173, 400, .inl f174)), (q136, .inl (k137, 400, .inl f141)), (q190, .inl (k192, 512, .inl f191)), (q193, .inl (k195, 400, .inl f194)), (q196, .inl (k198, 400, .inl f197)), (q199, .inl (k201, 400, .inl f200)), (q202, .inl (k204, 400, .inl f203))] t) (va_A [(Ad0, .inr (8, Fs0))] sz))  32 26564 (va_A [(Ad0, .inr (8, Fs0))] sz) := by
  refine Met.ofW (cc := cX5_init) (maxL := 2) (ret := none) (by decide) rfl ?_
  intro p e s m args below meth c s₁ B hml hv
  obtain ⟨rfl, hsz, hP, hK, hD0⟩ := hv
  have hx := B.exec
  have hb := B.bytes
  have hr := B.returns
  have hts := atoms_spec (ws := w_z_X5_init) B.pre
  have hown : s.vm.findClass RX5 = some m.cls := findClass_of_methodNamed B.named
  have hlocks := B.notSynchronized
  have hin : meth.name = "<init>" := (name_of_methodNamed B.named B.method).1
  subst hsz
  have hD := hD0.self (sz := s.heap.size)
  generalize hAe : va_A [(Ad0, .inr (8, Fs0))] s.heap.size = A at hD ⊢
  have hA : ∀ q : Nat, s.heap.size ≤ q → A q := fun q h => by rw [← hAe]; exact Or.inr h
  have hS : va_S A s.heap s.heap [] := va_S.rf
  have hl := lv_entry ([.ref Ad0, .ref Br0]) (n := 2) (Nat.le_of_ble_eq_true rfl)
  rw [lg_entry_eq]
  generalize (lg_sl ([.ref Ad0, .ref Br0]) ++ List.replicate (2 - (lg_sl ([.ref Ad0, .ref Br0])).length) Slot.unset).toArray = ls at hl ⊢
  have hl : lv_has ls 2 [(0, .ref Ad0), (1, .ref Br0)] := hl
  have o_Fs0 := ow_0 k_Fs0
  refine lv_aload_n hx hb dX5_init_0 rfl (lv_at hl 0 rfl) ?_
  refine W.objInit hx hb hown (hts (.methodLink RX5 3 objectInit) (by decide +kernel)) (hts (.instanceMethod objectInit) (by decide +kernel)) (hts (.code objectInit ⟨#[0xb1]⟩ 1 none) (by decide +kernel)) rfl (by rw [hml]; exact hl.1) rfl dX5_init_1 (Nat.le_of_ble_eq_true rfl) (Nat.le_of_ble_eq_true rfl) ?_
  refine W.eq (g2 := F0 m 4 ls []) rfl ?_
  refine lv_aload_n hx hb dX5_init_4 rfl (lv_at hl 0 rfl) ?_
  refine lv_sipush (v := 400) hx hb dX5_init_5 (by decide) ?_
  refine va_newa (atype := .int) (ty := .int) (a0 := (400, .inl (fun _ : Nat => (0 : Int32)))) (N' := 400) hx hb (hts (.arrayClass .int) (by decide +kernel)) rfl hK hP hD hS hA (na_I 400) (by decide) (by decide) (by decide) (Nat.le_of_ble_eq_true rfl) (Nat.le_of_ble_eq_true rfl) dX5_init_8 (fun q101 k102 H hK hP hD hS => ?_)
  have hK : va_K (dC, dI) vwCl [(k102, .int)] s := hK
  have hP : va_P (dC, dI) vwCl [(Ad0, .inr (8, Fs0)), (q101, .inl (k102, 400, .inl ((fun _ : Nat => (0 : Int32)))))] H := hP
  have hD : va_D A [(Ad0, .inr (8, Fs0)), (q101, .inl (k102, 400, .inl ((fun _ : Nat => (0 : Int32)))))] := hD
  have z104 : ∀ j, (fun _ : Nat => (0 : Int32)) j = 0 := fun _ => rfl
  generalize (fun _ : Nat => (0 : Int32)) = f103 at hP hD z104
  refine W.widen (k := 1) (n := 400) (by omega) (by omega) ?_
  refine va_putF (D := (dC, dI)) (ci := 8) (v := .ref q101) (ty := .array .int) (C := RX5) (T := TX5) (N := 21) hx hb hts (in_z_X5_init_X5) tyX5 tyX5_ok nmX5 hown hK hP hD hS 0 rfl rfl 1 (by decide) (hts (.fieldLink RX5 11 "HeapWorks$Picture" "object" "[I") (by decide +kernel)) (fun _ h9 => h9) rfl hin rfl (by decide +kernel) rfl rfl (by rw [o_Fs0.2.1]; decide) dX5_init_10 (fun H locs hP hD hS => ?_)
  have hP : va_P (dC, dI) vwCl [(Ad0, .inr (8, (Fs0.set 1 (.ref q101)))), (q101, .inl (k102, 400, .inl f103))] H := hP
  have hD : va_D A [(Ad0, .inr (8, (Fs0.set 1 (.ref q101)))), (q101, .inl (k102, 400, .inl f103))] := hD
  have o_s105 := ow_set o_Fs0 1 (.ref q101) (by decide) (l' := [(1, .ref q101), (8, .null)]) (w' := [1]) rfl rfl
  generalize (Fs0.set 1 (.ref q101)) = s105 at hP hD o_s105
  have hP := hP.sub (ws' := [(Ad0, .inr (8, s105))]) [0] rfl
  have hD := hD.sub (ws' := [(Ad0, .inr (8, s105))]) [0] (by decide) rfl
  have hK := hK.sub (tys' := []) [] rfl
  refine lv_aload_n hx hb dX5_init_13 rfl (lv_at hl 0 rfl) ?_
  refine lv_sipush (v := 400) hx hb dX5_init_14 (by decide) ?_
  refine va_newa (atype := .int) (ty := .int) (a0 := (400, .inl (fun _ : Nat => (0 : Int32)))) (N' := 400) hx hb (hts (.arrayClass .int) (by decide +kernel)) rfl hK hP hD hS hA (na_I 400) (by decide) (by decide) (by decide) (Nat.le_of_ble_eq_true rfl) (Nat.le_of_ble_eq_true rfl) dX5_init_17 (fun q106 k107 H hK hP hD hS => ?_)
  have hK : va_K (dC, dI) vwCl [(k107, .int)] s := hK
  have hP : va_P (dC, dI) vwCl [(Ad0, .inr (8, s105)), (q106, .inl (k107, 400, .inl ((fun _ : Nat => (0 : Int32)))))] H := hP
  have hD : va_D A [(Ad0, .inr (8, s105)), (q106, .inl (k107, 400, .inl ((fun _ : Nat => (0 : Int32)))))] := hD
  have z109 : ∀ j, (fun _ : Nat => (0 : Int32)) j = 0 := fun _ => rfl
  generalize (fun _ : Nat => (0 : Int32)) = f108 at hP hD z109
  refine W.widen (k := 2) (n := 800) (by omega) (by omega) ?_
  refine va_putF (D := (dC, dI)) (ci := 8) (v := .ref q106) (ty := .array .int) (C := RX5) (T := TX5) (N := 21) hx hb hts (in_z_X5_init_X5) tyX5 tyX5_ok nmX5 hown hK hP hD hS 0 rfl rfl 2 (by decide) (hts (.fieldLink RX5 15 "HeapWorks$Picture" "type" "[I") (by decide +kernel)) (fun _ h9 => h9) rfl hin rfl (by decide +kernel) rfl rfl (by rw [o_s105.2.1]; decide) dX5_init_19 (fun H locs hP hD hS => ?_)
  have hP : va_P (dC, dI) vwCl [(Ad0, .inr (8, (s105.set 2 (.ref q106)))), (q106, .inl (k107, 400, .inl f108))] H := hP
  have hD : va_D A [(Ad0, .inr (8, (s105.set 2 (.ref q106)))), (q106, .inl (k107, 400, .inl f108))] := hD
  have o_s110 := ow_set o_s105 2 (.ref q106) (by decide) (l' := [(2, .ref q106), (1, .ref q101), (8, .null)]) (w' := [2, 1]) rfl rfl
  generalize (s105.set 2 (.ref q106)) = s110 at hP hD o_s110
  have hP := hP.sub (ws' := [(Ad0, .inr (8, s110))]) [0] rfl
  have hD := hD.sub (ws' := [(Ad0, .inr (8, s110))]) [0] (by decide) rfl
  have hK := hK.sub (tys' := []) [] rfl
  refine lv_aload_n hx hb dX5_init_22 rfl (lv_at hl 0 rfl) ?_
  refine lv_sipush (v := 400) hx hb dX5_init_23 (by decide) ?_
  refine va_newa (atype := .int) (ty := .int) (a0 := (400, .inl (fun _ : Nat => (0 : Int32)))) (N' := 400) hx hb (hts (.arrayClass .int) (by decide +kernel)) rfl hK hP hD hS hA (na_I 400) (by decide) (by decide) (by decide) (Nat.le_of_ble_eq_true rfl) (Nat.le_of_ble_eq_true rfl) dX5_init_26 (fun q111 k112 H hK hP hD hS => ?_)
  have hK : va_K (dC, dI) vwCl [(k112, .int)] s := hK
  have hP : va_P (dC, dI) vwCl [(Ad0, .inr (8, s110)), (q111, .inl (k112, 400, .inl ((fun _ : Nat => (0 : Int32)))))] H := hP
  have hD : va_D A [(Ad0, .inr (8, s110)), (q111, .inl (k112, 400, .inl ((fun _ : Nat => (0 : Int32)))))] := hD
  have z114 : ∀ j, (fun _ : Nat => (0 : Int32)) j = 0 := fun _ => rfl
  generalize (fun _ : Nat => (0 : Int32)) = f113 at hP hD z114
  refine W.widen (k := 3) (n := 1200) (by omega) (by omega) ?_
  refine va_putF (D := (dC, dI)) (ci := 8) (v := .ref q111) (ty := .array .int) (C := RX5) (T := TX5) (N := 21) hx hb hts (in_z_X5_init_X5) tyX5 tyX5_ok nmX5 hown hK hP hD hS 0 rfl rfl 3 (by decide) (hts (.fieldLink RX5 18 "HeapWorks$Picture" "length" "[I") (by decide +kernel)) (fun _ h9 => h9) rfl hin rfl (by decide +kernel) rfl rfl (by rw [o_s110.2.1]; decide) dX5_init_28 (fun H locs hP hD hS => ?_)
  have hP : va_P (dC, dI) vwCl [(Ad0, .inr (8, (s110.set 3 (.ref q111)))), (q111, .inl (k112, 400, .inl f113))] H := hP
  have hD : va_D A [(Ad0, .inr (8, (s110.set 3 (.ref q111)))), (q111, .inl (k112, 400, .inl f113))] := hD
  have o_s115 := ow_set o_s110 3 (.ref q111) (by decide) (l' := [(3, .ref q111), (2, .ref q106), (1, .ref q101), (8, .null)]) (w' := [3, 2, 1]) rfl rfl
  generalize (s110.set 3 (.ref q111)) = s115 at hP hD o_s115
  have hP := hP.sub (ws' := [(Ad0, .inr (8, s115))]) [0] rfl
  have hD := hD.sub (ws' := [(Ad0, .inr (8, s115))]) [0] (by decide) rfl
  have hK := hK.sub (tys' := []) [] rfl
  refine lv_aload_n hx hb dX5_init_31 rfl (lv_at hl 0 rfl) ?_
  refine lv_sipush (v := 401) hx hb dX5_init_32 (by decide) ?_
  refine va_newa (atype := .int) (ty := .int) (a0 := (401, .inl (fun _ : Nat => (0 : Int32)))) (N' := 401) hx hb (hts (.arrayClass .int) (by decide +kernel)) rfl hK hP hD hS hA (na_I 401) (by decide) (by decide) (by decide) (Nat.le_of_ble_eq_true rfl) (Nat.le_of_ble_eq_true rfl) dX5_init_35 (fun q116 k117 H hK hP hD hS => ?_)
  have hK : va_K (dC, dI) vwCl [(k117, .int)] s := hK
  have hP : va_P (dC, dI) vwCl [(Ad0, .inr (8, s115)), (q116, .inl (k117, 401, .inl ((fun _ : Nat => (0 : Int32)))))] H := hP
  have hD : va_D A [(Ad0, .inr (8, s115)), (q116, .inl (k117, 401, .inl ((fun _ : Nat => (0 : Int32)))))] := hD
  have z119 : ∀ j, (fun _ : Nat => (0 : Int32)) j = 0 := fun _ => rfl
  generalize (fun _ : Nat => (0 : Int32)) = f118 at hP hD z119
  refine W.widen (k := 4) (n := 1601) (by omega) (by omega) ?_
  refine va_putF (D := (dC, dI)) (ci := 8) (v := .ref q116) (ty := .array .int) (C := RX5) (T := TX5) (N := 21) hx hb hts (in_z_X5_init_X5) tyX5 tyX5_ok nmX5 hown hK hP hD hS 0 rfl rfl 4 (by decide) (hts (.fieldLink RX5 21 "HeapWorks$Picture" "first" "[I") (by decide +kernel)) (fun _ h9 => h9) rfl hin rfl (by decide +kernel) rfl rfl (by rw [o_s115.2.1]; decide) dX5_init_37 (fun H locs hP hD hS => ?_)
  have hP : va_P (dC, dI) vwCl [(Ad0, .inr (8, (s115.set 4 (.ref q116)))), (q116, .inl (k117, 401, .inl f118))] H := hP
  have hD : va_D A [(Ad0, .inr (8, (s115.set 4 (.ref q116)))), (q116, .inl (k117, 401, .inl f118))] := hD
  have o_s120 := ow_set o_s115 4 (.ref q116) (by decide) (l' := [(4, .ref q116), (3, .ref q111), (2, .ref q106), (1, .ref q101), (8, .null)]) (w' := [4, 3, 2, 1]) rfl rfl
  generalize (s115.set 4 (.ref q116)) = s120 at hP hD o_s120
  have hP := hP.sub (ws' := [(Ad0, .inr (8, s120))]) [0] rfl
  have hD := hD.sub (ws' := [(Ad0, .inr (8, s120))]) [0] (by decide) rfl
  have hK := hK.sub (tys' := []) [] rfl
  refine lv_aload_n hx hb dX5_init_40 rfl (lv_at hl 0 rfl) ?_
  refine lv_sipush (v := 400) hx hb dX5_init_41 (by decide) ?_
  refine va_newa (atype := .int) (ty := .int) (a0 := (400, .inl (fun _ : Nat => (0 : Int32)))) (N' := 400) hx hb (hts (.arrayClass .int) (by decide +kernel)) rfl hK hP hD hS hA (na_I 400) (by decide) (by decide) (by decide) (Nat.le_of_ble_eq_true rfl) (Nat.le_of_ble_eq_true rfl) dX5_init_44 (fun q121 k122 H hK hP hD hS => ?_)
  have hK : va_K (dC, dI) vwCl [(k122, .int)] s := hK
  have hP : va_P (dC, dI) vwCl [(Ad0, .inr (8, s120)), (q121, .inl (k122, 400, .inl ((fun _ : Nat => (0 : Int32)))))] H := hP
  have hD : va_D A [(Ad0, .inr (8, s120)), (q121, .inl (k122, 400, .inl ((fun _ : Nat => (0 : Int32)))))] := hD
  have z124 : ∀ j, (fun _ : Nat => (0 : Int32)) j = 0 := fun _ => rfl
  generalize (fun _ : Nat => (0 : Int32)) = f123 at hP hD z124
  refine W.widen (k := 5) (n := 2001) (by omega) (by omega) ?_
  refine va_putF (D := (dC, dI)) (ci := 8) (v := .ref q121) (ty := .array .int) (C := RX5) (T := TX5) (N := 21) hx hb hts (in_z_X5_init_X5) tyX5 tyX5_ok nmX5 hown hK hP hD hS 0 rfl rfl 5 (by decide) (hts (.fieldLink RX5 24 "HeapWorks$Picture" "depth" "[I") (by decide +kernel)) (fun _ h9 => h9) rfl hin rfl (by decide +kernel) rfl rfl (by rw [o_s120.2.1]; decide) dX5_init_46 (fun H locs hP hD hS => ?_)
  have hP : va_P (dC, dI) vwCl [(Ad0, .inr (8, (s120.set 5 (.ref q121)))), (q121, .inl (k122, 400, .inl f123))] H := hP
  have hD : va_D A [(Ad0, .inr (8, (s120.set 5 (.ref q121)))), (q121, .inl (k122, 400, .inl f123))] := hD
  have o_s125 := ow_set o_s120 5 (.ref q121) (by decide) (l' := [(5, .ref q121), (4, .ref q116), (3, .ref q111), (2, .ref q106), (1, .ref q101), (8, .null)]) (w' := [5, 4, 3, 2, 1]) rfl rfl
  generalize (s120.set 5 (.ref q121)) = s125 at hP hD o_s125
  have hP := hP.sub (ws' := [(Ad0, .inr (8, s125))]) [0] rfl
  have hD := hD.sub (ws' := [(Ad0, .inr (8, s125))]) [0] (by decide) rfl
  have hK := hK.sub (tys' := []) [] rfl
  refine lv_aload_n hx hb dX5_init_49 rfl (lv_at hl 0 rfl) ?_
  refine lv_sipush (v := 400) hx hb dX5_init_50 (by decide) ?_
  refine va_newa (atype := .int) (ty := .int) (a0 := (400, .inl (fun _ : Nat => (0 : Int32)))) (N' := 400) hx hb (hts (.arrayClass .int) (by decide +kernel)) rfl hK hP hD hS hA (na_I 400) (by decide) (by decide) (by decide) (Nat.le_of_ble_eq_true rfl) (Nat.le_of_ble_eq_true rfl) dX5_init_53 (fun q126 k127 H hK hP hD hS => ?_)
  have hK : va_K (dC, dI) vwCl [(k127, .int)] s := hK
  have hP : va_P (dC, dI) vwCl [(Ad0, .inr (8, s125)), (q126, .inl (k127, 400, .inl ((fun _ : Nat => (0 : Int32)))))] H := hP
  have hD : va_D A [(Ad0, .inr (8, s125)), (q126, .inl (k127, 400, .inl ((fun _ : Nat => (0 : Int32)))))] := hD
  have z129 : ∀ j, (fun _ : Nat => (0 : Int32)) j = 0 := fun _ => rfl
  generalize (fun _ : Nat => (0 : Int32)) = f128 at hP hD z129
  refine W.widen (k := 6) (n := 2401) (by omega) (by omega) ?_
  refine va_putF (D := (dC, dI)) (ci := 8) (v := .ref q126) (ty := .array .int) (C := RX5) (T := TX5) (N := 21) hx hb hts (in_z_X5_init_X5) tyX5 tyX5_ok nmX5 hown hK hP hD hS 0 rfl rfl 6 (by decide) (hts (.fieldLink RX5 27 "HeapWorks$Picture" "wayThing" "[I") (by decide +kernel)) (fun _ h9 => h9) rfl hin rfl (by decide +kernel) rfl rfl (by rw [o_s125.2.1]; decide) dX5_init_55 (fun H locs hP hD hS => ?_)
  have hP : va_P (dC, dI) vwCl [(Ad0, .inr (8, (s125.set 6 (.ref q126)))), (q126, .inl (k127, 400, .inl f128))] H := hP
  have hD : va_D A [(Ad0, .inr (8, (s125.set 6 (.ref q126)))), (q126, .inl (k127, 400, .inl f128))] := hD
  have o_s130 := ow_set o_s125 6 (.ref q126) (by decide) (l' := [(6, .ref q126), (5, .ref q121), (4, .ref q116), (3, .ref q111), (2, .ref q106), (1, .ref q101), (8, .null)]) (w' := [6, 5, 4, 3, 2, 1]) rfl rfl
  generalize (s125.set 6 (.ref q126)) = s130 at hP hD o_s130
  have hP := hP.sub (ws' := [(Ad0, .inr (8, s130))]) [0] rfl
  have hD := hD.sub (ws' := [(Ad0, .inr (8, s130))]) [0] (by decide) rfl
  have hK := hK.sub (tys' := []) [] rfl
  refine lv_aload_n hx hb dX5_init_58 rfl (lv_at hl 0 rfl) ?_
  refine lv_sipush (v := 400) hx hb dX5_init_59 (by decide) ?_
  refine va_newa (atype := .int) (ty := .int) (a0 := (400, .inl (fun _ : Nat => (0 : Int32)))) (N' := 400) hx hb (hts (.arrayClass .int) (by decide +kernel)) rfl hK hP hD hS hA (na_I 400) (by decide) (by decide) (by decide) (Nat.le_of_ble_eq_true rfl) (Nat.le_of_ble_eq_true rfl) dX5_init_62 (fun q131 k132 H hK hP hD hS => ?_)
  have hK : va_K (dC, dI) vwCl [(k132, .int)] s := hK
  have hP : va_P (dC, dI) vwCl [(Ad0, .inr (8, s130)), (q131, .inl (k132, 400, .inl ((fun _ : Nat => (0 : Int32)))))] H := hP
  have hD : va_D A [(Ad0, .inr (8, s130)), (q131, .inl (k132, 400, .inl ((fun _ : Nat => (0 : Int32)))))] := hD
  have z134 : ∀ j, (fun _ : Nat => (0 : Int32)) j = 0 := fun _ => rfl
  generalize (fun _ : Nat => (0 : Int32)) = f133 at hP hD z134
  refine W.widen (k := 7) (n := 2801) (by omega) (by omega) ?_
  refine va_putF (D := (dC, dI)) (ci := 8) (v := .ref q131) (ty := .array .int) (C := RX5) (T := TX5) (N := 21) hx hb hts (in_z_X5_init_X5) tyX5 tyX5_ok nmX5 hown hK hP hD hS 0 rfl rfl 7 (by decide) (hts (.fieldLink RX5 30 "HeapWorks$Picture" "waySlot" "[I") (by decide +kernel)) (fun _ h9 => h9) rfl hin rfl (by decide +kernel) rfl rfl (by rw [o_s130.2.1]; decide) dX5_init_64 (fun H locs hP hD hS => ?_)
  have hP : va_P (dC, dI) vwCl [(Ad0, .inr (8, (s130.set 7 (.ref q131)))), (q131, .inl (k132, 400, .inl f133))] H := hP
  have hD : va_D A [(Ad0, .inr (8, (s130.set 7 (.ref q131)))), (q131, .inl (k132, 400, .inl f133))] := hD
  have o_s135 := ow_set o_s130 7 (.ref q131) (by decide) (l' := [(7, .ref q131), (6, .ref q126), (5, .ref q121), (4, .ref q116), (3, .ref q111), (2, .ref q106), (1, .ref q101), (8, .null)]) (w' := [7, 6, 5, 4, 3, 2, 1]) rfl rfl
  generalize (s130.set 7 (.ref q131)) = s135 at hP hD o_s135
  have hP := hP.sub (ws' := [(Ad0, .inr (8, s135))]) [0] rfl
  have hD := hD.sub (ws' := [(Ad0, .inr (8, s135))]) [0] (by decide) rfl
  have hK := hK.sub (tys' := []) [] rfl
  refine lv_aload_n hx hb dX5_init_67 rfl (lv_at hl 0 rfl) ?_
  refine lv_sipush (v := 400) hx hb dX5_init_68 (by decide) ?_
  refine va_newa (atype := .int) (ty := .int) (a0 := (400, .inl (fun _ : Nat => (0 : Int32)))) (N' := 400) hx hb (hts (.arrayClass .int) (by decide +kernel)) rfl hK hP hD hS hA (na_I 400) (by decide) (by decide) (by decide) (Nat.le_of_ble_eq_true rfl) (Nat.le_of_ble_eq_true rfl) dX5_init_71 (fun q136 k137 H hK hP hD hS => ?_)
  have hK : va_K (dC, dI) vwCl [(k137, .int)] s := hK
  have hP : va_P (dC, dI) vwCl [(Ad0, .inr (8, s135)), (q136, .inl (k137, 400, .inl ((fun _ : Nat => (0 : Int32)))))] H := hP
  have hD : va_D A [(Ad0, .inr (8, s135)), (q136, .inl (k137, 400, .inl ((fun _ : Nat => (0 : Int32)))))] := hD
  have z139 : ∀ j, (fun _ : Nat => (0 : Int32)) j = 0 := fun _ => rfl
  generalize (fun _ : Nat => (0 : Int32)) = f138 at hP hD z139
  refine W.widen (k := 8) (n := 3201) (by omega) (by omega) ?_
  refine va_putF (D := (dC, dI)) (ci := 8) (v := .ref q136) (ty := .array .int) (C := RX5) (T := TX5) (N := 21) hx hb hts (in_z_X5_init_X5) tyX5 tyX5_ok nmX5 hown hK hP hD hS 0 rfl rfl 8 (by decide) (hts (.fieldLink RX5 35 "HeapWorks$Picture" "thingOf" "[I") (by decide +kernel)) (fun _ h9 => h9) rfl hin rfl (by decide +kernel) rfl rfl (by rw [o_s135.2.1]; decide) dX5_init_73 (fun H locs hP hD hS => ?_)
  have hP : va_P (dC, dI) vwCl [(Ad0, .inr (8, (s135.set 8 (.ref q136)))), (q136, .inl (k137, 400, .inl f138))] H := hP
  have hD : va_D A [(Ad0, .inr (8, (s135.set 8 (.ref q136)))), (q136, .inl (k137, 400, .inl f138))] := hD
  have o_s140 := ow_set o_s135 8 (.ref q136) (by decide) (l' := [(8, .ref q136), (7, .ref q131), (6, .ref q126), (5, .ref q121), (4, .ref q116), (3, .ref q111), (2, .ref q106), (1, .ref q101)]) (w' := [8, 7, 6, 5, 4, 3, 2, 1]) rfl rfl
  generalize (s135.set 8 (.ref q136)) = s140 at hP hD o_s140
  refine lv_aload_n hx hb dX5_init_76 rfl (lv_at hl 0 rfl) ?_
  refine va_get (D := (dC, dI)) (ci := 8) (v := .ref q136) (C := RX5) (T := TX5) (N := 21) hx hb hts (in_z_X5_init_X5) hown hK hP 0 rfl rfl 8 (by decide) (hts (.fieldLink RX5 35 "HeapWorks$Picture" "thingOf" "[I") (by decide +kernel)) (fun _ h9 => h9) (ow_at o_s140 0 rfl) dX5_init_77 ?_
  refine lv_iconst (v := (-1)) hx hb dX5_init_80 (by decide) ?_
  have hPc := hP.sub (ws' := [(q136, .inl (k137, 400, .inl f138))]) [1] rfl
  have hDc := hD.sub (ws' := [(q136, .inl (k137, 400, .inl f138))]) [1] (by decide) rfl
  have hKc := hK.sub (tys' := [(k137, .int)]) [0] rfl
  have hFc := va_free (wc := [(q136, .inl (k137, 400, .inl f138))]) hD hS hA [1] rfl
  refine va_callv (va_runS (As := [.ref q136, .int (-1)]) (rest := []) ⟨hx, hb, hml, hown, hts⟩ (z_J7_fill_53178_2 l dC dI H.size q136 f138 k137  ) (va_cwS 2 hts g_z_X5_init_z_J7_fill_53178_2_38 rfl rfl rfl (by decide +kernel) ⟨Nat.le_of_ble_eq_true rfl, Nat.le_of_ble_eq_true rfl⟩) ⟨fun a U g mk q => by obtain ⟨q0, q1, qP, qK, qD⟩ := q; exact ⟨q0, q1, qP, va_K.moved (u := U) (U := U.calling g mk a) (Vm.Alike.refl U.vm) qK, qD⟩, fun U hU hW => ⟨rfl, by rw [hU], by rw [hU]; exact hPc, va_K.moved hW.alike hKc, hDc.weaken (fun _ _ _ _ => trivial)⟩⟩ rfl rfl hl.1 rfl (lv_room (Nat.le_of_ble_eq_true rfl)) dX5_init_81 ⟨Nat.le_of_ble_eq_true rfl, Nat.le_of_ble_eq_true rfl⟩) hS (fun q _ h => hFc q h) hFc (fun u t H1 locs ht hvm hw hB hz1 hk1 hS => ?_)
  obtain ⟨f141, rfl⟩ : ∃ z, z = u := ⟨_, rfl⟩
  obtain ⟨hP1, hK1, hD1⟩ := hB
  rw [ht] at hP1
  try dsimp only at hw
  obtain ⟨hP, hD⟩ := va_join (wr := [(Ad0, .inr (8, s140))]) (w1 := [(q136, .inl (k137, 400, .inl f141))]) hP hD [1] [0] rfl rfl (by decide) (by decide) hk1 hFc hP1 hD1
  have hK := hK.sub (tys' := [(k137, .int)]) [0] rfl
  generalize H1 = H at hP hS ⊢
  have hP : va_P (dC, dI) vwCl [(Ad0, .inr (8, s140)), (q136, .inl (k137, 400, .inl f141))] H := hP
  have hD : va_D A [(Ad0, .inr (8, s140)), (q136, .inl (k137, 400, .inl f141))] := hD
  refine lv_aload_n hx hb dX5_init_84 rfl (lv_at hl 0 rfl) ?_
  refine lv_sipush (v := 4000) hx hb dX5_init_85 (by decide) ?_
  refine va_newa (atype := .long) (ty := .long) (a0 := (4000, .inr (.inl (fun _ : Nat => (0 : Int64))))) (N' := 4000) hx hb (hts (.arrayClass .long) (by decide +kernel)) rfl hK hP hD hS hA (na_J 4000) (by decide) (by decide) (by decide) (Nat.le_of_ble_eq_true rfl) (Nat.le_of_ble_eq_true rfl) dX5_init_88 (fun q142 k143 H hK hP hD hS => ?_)
  have hK : va_K (dC, dI) vwCl [(k137, .int), (k143, .long)] s := hK
  have hP : va_P (dC, dI) vwCl [(Ad0, .inr (8, s140)), (q136, .inl (k137, 400, .inl f141)), (q142, .inl (k143, 4000, .inr (.inl ((fun _ : Nat => (0 : Int64))))))] H := hP
  have hD : va_D A [(Ad0, .inr (8, s140)), (q136, .inl (k137, 400, .inl f141)), (q142, .inl (k143, 4000, .inr (.inl ((fun _ : Nat => (0 : Int64))))))] := hD
  have z145 : ∀ j, (fun _ : Nat => (0 : Int64)) j = 0 := fun _ => rfl
  generalize (fun _ : Nat => (0 : Int64)) = f144 at hP hD z145
  refine W.widen (k := 9) (n := 7201) (by omega) (by omega) ?_
  refine va_putF (D := (dC, dI)) (ci := 8) (v := .ref q142) (ty := .array .long) (C := RX5) (T := TX5) (N := 21) hx hb hts (in_z_X5_init_X5) tyX5 tyX5_ok nmX5 hown hK hP hD hS 0 rfl rfl 9 (by decide) (hts (.fieldLink RX5 44 "HeapWorks$Picture" "value" "[J") (by decide +kernel)) (fun _ h9 => h9) rfl hin rfl (by decide +kernel) rfl rfl (by rw [o_s140.2.1]; decide) dX5_init_90 (fun H locs hP hD hS => ?_)
  have hP : va_P (dC, dI) vwCl [(Ad0, .inr (8, (s140.set 9 (.ref q142)))), (q136, .inl (k137, 400, .inl f141)), (q142, .inl (k143, 4000, .inr (.inl f144)))] H := hP
  have hD : va_D A [(Ad0, .inr (8, (s140.set 9 (.ref q142)))), (q136, .inl (k137, 400, .inl f141)), (q142, .inl (k143, 4000, .inr (.inl f144)))] := hD
  have o_s146 := ow_set o_s140 9 (.ref q142) (by decide) (l' := [(9, .ref q142), (8, .ref q136), (7, .ref q131), (6, .ref q126), (5, .ref q121), (4, .ref q116), (3, .ref q111), (2, .ref q106), (1, .ref q101)]) (w' := [9, 8, 7, 6, 5, 4, 3, 2, 1]) rfl rfl
  generalize (s140.set 9 (.ref q142)) = s146 at hP hD o_s146
  have hP := hP.sub (ws' := [(Ad0, .inr (8, s146)), (q136, .inl (k137, 400, .inl f141))]) [0, 1] rfl
  have hD := hD.sub (ws' := [(Ad0, .inr (8, s146)), (q136, .inl (k137, 400, .inl f141))]) [0, 1] (by decide) rfl
  have hK := hK.sub (tys' := [(k137, .int)]) [0] rfl
  refine lv_aload_n hx hb dX5_init_93 rfl (lv_at hl 0 rfl) ?_
  refine lv_sipush (v := 4000) hx hb dX5_init_94 (by decide) ?_
  refine va_newa (atype := .boolean) (ty := .boolean) (a0 := (4000, .inl (fun _ : Nat => (0 : Int32)))) (N' := 4000) hx hb (hts (.arrayClass .boolean) (by decide +kernel)) rfl hK hP hD hS hA (na_Z 4000) (by decide) (by decide) (by decide) (Nat.le_of_ble_eq_true rfl) (Nat.le_of_ble_eq_true rfl) dX5_init_97 (fun q147 k148 H hK hP hD hS => ?_)
  have hK : va_K (dC, dI) vwCl [(k137, .int), (k148, .boolean)] s := hK
  have hP : va_P (dC, dI) vwCl [(Ad0, .inr (8, s146)), (q136, .inl (k137, 400, .inl f141)), (q147, .inl (k148, 4000, .inl ((fun _ : Nat => (0 : Int32)))))] H := hP
  have hD : va_D A [(Ad0, .inr (8, s146)), (q136, .inl (k137, 400, .inl f141)), (q147, .inl (k148, 4000, .inl ((fun _ : Nat => (0 : Int32)))))] := hD
  have z150 : ∀ j, (fun _ : Nat => (0 : Int32)) j = 0 := fun _ => rfl
  generalize (fun _ : Nat => (0 : Int32)) = f149 at hP hD z150
  refine W.widen (k := 10) (n := 11201) (by omega) (by omega) ?_
  refine va_putF (D := (dC, dI)) (ci := 8) (v := .ref q147) (ty := .array .boolean) (C := RX5) (T := TX5) (N := 21) hx hb hts (in_z_X5_init_X5) tyX5 tyX5_ok nmX5 hown hK hP hD hS 0 rfl rfl 10 (by decide) (hts (.fieldLink RX5 48 "HeapWorks$Picture" "link" "[Z") (by decide +kernel)) (fun _ h9 => h9) rfl hin rfl (by decide +kernel) rfl rfl (by rw [o_s146.2.1]; decide) dX5_init_99 (fun H locs hP hD hS => ?_)
  have hP : va_P (dC, dI) vwCl [(Ad0, .inr (8, (s146.set 10 (.ref q147)))), (q136, .inl (k137, 400, .inl f141)), (q147, .inl (k148, 4000, .inl f149))] H := hP
  have hD : va_D A [(Ad0, .inr (8, (s146.set 10 (.ref q147)))), (q136, .inl (k137, 400, .inl f141)), (q147, .inl (k148, 4000, .inl f149))] := hD
  have o_s151 := ow_set o_s146 10 (.ref q147) (by decide) (l' := [(10, .ref q147), (9, .ref q142), (8, .ref q136), (7, .ref q131), (6, .ref q126), (5, .ref q121), (4, .ref q116), (3, .ref q111), (2, .ref q106), (1, .ref q101)]) (w' := [10, 9, 8, 7, 6, 5, 4, 3, 2, 1]) rfl rfl
  generalize (s146.set 10 (.ref q147)) = s151 at hP hD o_s151
  have hP := hP.sub (ws' := [(Ad0, .inr (8, s151)), (q136, .inl (k137, 400, .inl f141))]) [0, 1] rfl
  have hD := hD.sub (ws' := [(Ad0, .inr (8, s151)), (q136, .inl (k137, 400, .inl f141))]) [0, 1] (by decide) rfl
  have hK := hK.sub (tys' := [(k137, .int)]) [0] rfl
  refine lv_aload_n hx hb dX5_init_102 rfl (lv_at hl 0 rfl) ?_
  refine lv_bipush (v := 108) hx hb dX5_init_103 (by decide) ?_
  refine va_newa (atype := .int) (ty := .int) (a0 := (108, .inl (fun _ : Nat => (0 : Int32)))) (N' := 108) hx hb (hts (.arrayClass .int) (by decide +kernel)) rfl hK hP hD hS hA (na_I 108) (by decide) (by decide) (by decide) (Nat.le_of_ble_eq_true rfl) (Nat.le_of_ble_eq_true rfl) dX5_init_105 (fun q152 k153 H hK hP hD hS => ?_)
  have hK : va_K (dC, dI) vwCl [(k137, .int), (k153, .int)] s := hK
  have hP : va_P (dC, dI) vwCl [(Ad0, .inr (8, s151)), (q136, .inl (k137, 400, .inl f141)), (q152, .inl (k153, 108, .inl ((fun _ : Nat => (0 : Int32)))))] H := hP
  have hD : va_D A [(Ad0, .inr (8, s151)), (q136, .inl (k137, 400, .inl f141)), (q152, .inl (k153, 108, .inl ((fun _ : Nat => (0 : Int32)))))] := hD
  have z155 : ∀ j, (fun _ : Nat => (0 : Int32)) j = 0 := fun _ => rfl
  generalize (fun _ : Nat => (0 : Int32)) = f154 at hP hD z155
  refine W.widen (k := 11) (n := 11309) (by omega) (by omega) ?_
  refine va_putF (D := (dC, dI)) (ci := 8) (v := .ref q152) (ty := .array .int) (C := RX5) (T := TX5) (N := 21) hx hb hts (in_z_X5_init_X5) tyX5 tyX5_ok nmX5 hown hK hP hD hS 0 rfl rfl 12 (by decide) (hts (.fieldLink RX5 52 "HeapWorks$Picture" "rootNumber" "[I") (by decide +kernel)) (fun _ h9 => h9) rfl hin rfl (by decide +kernel) rfl rfl (by rw [o_s151.2.1]; decide) dX5_init_107 (fun H locs hP hD hS => ?_)
  have hP : va_P (dC, dI) vwCl [(Ad0, .inr (8, (s151.set 12 (.ref q152)))), (q136, .inl (k137, 400, .inl f141)), (q152, .inl (k153, 108, .inl f154))] H := hP
  have hD : va_D A [(Ad0, .inr (8, (s151.set 12 (.ref q152)))), (q136, .inl (k137, 400, .inl f141)), (q152, .inl (k153, 108, .inl f154))] := hD
  have o_s156 := ow_set o_s151 12 (.ref q152) (by decide) (l' := [(12, .ref q152), (10, .ref q147), (9, .ref q142), (8, .ref q136), (7, .ref q131), (6, .ref q126), (5, .ref q121), (4, .ref q116), (3, .ref q111), (2, .ref q106), (1, .ref q101)]) (w' := [12, 10, 9, 8, 7, 6, 5, 4, 3, 2, 1]) rfl rfl
  generalize (s151.set 12 (.ref q152)) = s156 at hP hD o_s156
  have hP := hP.sub (ws' := [(Ad0, .inr (8, s156)), (q136, .inl (k137, 400, .inl f141))]) [0, 1] rfl
  have hD := hD.sub (ws' := [(Ad0, .inr (8, s156)), (q136, .inl (k137, 400, .inl f141))]) [0, 1] (by decide) rfl
  have hK := hK.sub (tys' := [(k137, .int)]) [0] rfl
  refine lv_aload_n hx hb dX5_init_110 rfl (lv_at hl 0 rfl) ?_
  refine lv_bipush (v := 108) hx hb dX5_init_111 (by decide) ?_
  refine va_newa (atype := .int) (ty := .int) (a0 := (108, .inl (fun _ : Nat => (0 : Int32)))) (N' := 108) hx hb (hts (.arrayClass .int) (by decide +kernel)) rfl hK hP hD hS hA (na_I 108) (by decide) (by decide) (by decide) (Nat.le_of_ble_eq_true rfl) (Nat.le_of_ble_eq_true rfl) dX5_init_113 (fun q157 k158 H hK hP hD hS => ?_)
  have hK : va_K (dC, dI) vwCl [(k137, .int), (k158, .int)] s := hK
  have hP : va_P (dC, dI) vwCl [(Ad0, .inr (8, s156)), (q136, .inl (k137, 400, .inl f141)), (q157, .inl (k158, 108, .inl ((fun _ : Nat => (0 : Int32)))))] H := hP
  have hD : va_D A [(Ad0, .inr (8, s156)), (q136, .inl (k137, 400, .inl f141)), (q157, .inl (k158, 108, .inl ((fun _ : Nat => (0 : Int32)))))] := hD
  have z160 : ∀ j, (fun _ : Nat => (0 : Int32)) j = 0 := fun _ => rfl
  generalize (fun _ : Nat => (0 : Int32)) = f159 at hP hD z160
  refine W.widen (k := 12) (n := 11417) (by omega) (by omega) ?_
  refine va_putF (D := (dC, dI)) (ci := 8) (v := .ref q157) (ty := .array .int) (C := RX5) (T := TX5) (N := 21) hx hb hts (in_z_X5_init_X5) tyX5 tyX5_ok nmX5 hown hK hP hD hS 0 rfl rfl 13 (by decide) (hts (.fieldLink RX5 55 "HeapWorks$Picture" "rootThing" "[I") (by decide +kernel)) (fun _ h9 => h9) rfl hin rfl (by decide +kernel) rfl rfl (by rw [o_s156.2.1]; decide) dX5_init_115 (fun H locs hP hD hS => ?_)
  have hP : va_P (dC, dI) vwCl [(Ad0, .inr (8, (s156.set 13 (.ref q157)))), (q136, .inl (k137, 400, .inl f141)), (q157, .inl (k158, 108, .inl f159))] H := hP
  have hD : va_D A [(Ad0, .inr (8, (s156.set 13 (.ref q157)))), (q136, .inl (k137, 400, .inl f141)), (q157, .inl (k158, 108, .inl f159))] := hD
  have o_s161 := ow_set o_s156 13 (.ref q157) (by decide) (l' := [(13, .ref q157), (12, .ref q152), (10, .ref q147), (9, .ref q142), (8, .ref q136), (7, .ref q131), (6, .ref q126), (5, .ref q121), (4, .ref q116), (3, .ref q111), (2, .ref q106), (1, .ref q101)]) (w' := [13, 12, 10, 9, 8, 7, 6, 5, 4, 3, 2, 1]) rfl rfl
  generalize (s156.set 13 (.ref q157)) = s161 at hP hD o_s161
  have hP := hP.sub (ws' := [(Ad0, .inr (8, s161)), (q136, .inl (k137, 400, .inl f141))]) [0, 1] rfl
  have hD := hD.sub (ws' := [(Ad0, .inr (8, s161)), (q136, .inl (k137, 400, .inl f141))]) [0, 1] (by decide) rfl
  have hK := hK.sub (tys' := [(k137, .int)]) [0] rfl
  refine lv_aload_n hx hb dX5_init_118 rfl (lv_at hl 0 rfl) ?_
  refine lv_sipush (v := 400) hx hb dX5_init_119 (by decide) ?_
  refine va_newa (atype := .boolean) (ty := .boolean) (a0 := (400, .inl (fun _ : Nat => (0 : Int32)))) (N' := 400) hx hb (hts (.arrayClass .boolean) (by decide +kernel)) rfl hK hP hD hS hA (na_Z 400) (by decide) (by decide) (by decide) (Nat.le_of_ble_eq_true rfl) (Nat.le_of_ble_eq_true rfl) dX5_init_122 (fun q162 k163 H hK hP hD hS => ?_)
  have hK : va_K (dC, dI) vwCl [(k137, .int), (k163, .boolean)] s := hK
  have hP : va_P (dC, dI) vwCl [(Ad0, .inr (8, s161)), (q136, .inl (k137, 400, .inl f141)), (q162, .inl (k163, 400, .inl ((fun _ : Nat => (0 : Int32)))))] H := hP
  have hD : va_D A [(Ad0, .inr (8, s161)), (q136, .inl (k137, 400, .inl f141)), (q162, .inl (k163, 400, .inl ((fun _ : Nat => (0 : Int32)))))] := hD
  have z165 : ∀ j, (fun _ : Nat => (0 : Int32)) j = 0 := fun _ => rfl
  generalize (fun _ : Nat => (0 : Int32)) = f164 at hP hD z165
  refine W.widen (k := 13) (n := 11817) (by omega) (by omega) ?_
  refine va_putF (D := (dC, dI)) (ci := 8) (v := .ref q162) (ty := .array .boolean) (C := RX5) (T := TX5) (N := 21) hx hb hts (in_z_X5_init_X5) tyX5 tyX5_ok nmX5 hown hK hP hD hS 0 rfl rfl 14 (by decide) (hts (.fieldLink RX5 58 "HeapWorks$Picture" "chosen" "[Z") (by decide +kernel)) (fun _ h9 => h9) rfl hin rfl (by decide +kernel) rfl rfl (by rw [o_s161.2.1]; decide) dX5_init_124 (fun H locs hP hD hS => ?_)
  have hP : va_P (dC, dI) vwCl [(Ad0, .inr (8, (s161.set 14 (.ref q162)))), (q136, .inl (k137, 400, .inl f141)), (q162, .inl (k163, 400, .inl f164))] H := hP
  have hD : va_D A [(Ad0, .inr (8, (s161.set 14 (.ref q162)))), (q136, .inl (k137, 400, .inl f141)), (q162, .inl (k163, 400, .inl f164))] := hD
  have o_s166 := ow_set o_s161 14 (.ref q162) (by decide) (l' := [(14, .ref q162), (13, .ref q157), (12, .ref q152), (10, .ref q147), (9, .ref q142), (8, .ref q136), (7, .ref q131), (6, .ref q126), (5, .ref q121), (4, .ref q116), (3, .ref q111), (2, .ref q106), (1, .ref q101)]) (w' := [14, 13, 12, 10, 9, 8, 7, 6, 5, 4, 3, 2, 1]) rfl rfl
  generalize (s161.set 14 (.ref q162)) = s166 at hP hD o_s166
  have hP := hP.sub (ws' := [(Ad0, .inr (8, s166)), (q136, .inl (k137, 400, .inl f141))]) [0, 1] rfl
  have hD := hD.sub (ws' := [(Ad0, .inr (8, s166)), (q136, .inl (k137, 400, .inl f141))]) [0, 1] (by decide) rfl
  have hK := hK.sub (tys' := [(k137, .int)]) [0] rfl
  refine lv_aload_n hx hb dX5_init_127 rfl (lv_at hl 0 rfl) ?_
  refine lv_sipush (v := 400) hx hb dX5_init_128 (by decide) ?_
  refine va_newa (atype := .int) (ty := .int) (a0 := (400, .inl (fun _ : Nat => (0 : Int32)))) (N' := 400) hx hb (hts (.arrayClass .int) (by decide +kernel)) rfl hK hP hD hS hA (na_I 400) (by decide) (by decide) (by decide) (Nat.le_of_ble_eq_true rfl) (Nat.le_of_ble_eq_true rfl) dX5_init_131 (fun q167 k168 H hK hP hD hS => ?_)
  have hK : va_K (dC, dI) vwCl [(k137, .int), (k168, .int)] s := hK
  have hP : va_P (dC, dI) vwCl [(Ad0, .inr (8, s166)), (q136, .inl (k137, 400, .inl f141)), (q167, .inl (k168, 400, .inl ((fun _ : Nat => (0 : Int32)))))] H := hP
  have hD : va_D A [(Ad0, .inr (8, s166)), (q136, .inl (k137, 400, .inl f141)), (q167, .inl (k168, 400, .inl ((fun _ : Nat => (0 : Int32)))))] := hD
  have z170 : ∀ j, (fun _ : Nat => (0 : Int32)) j = 0 := fun _ => rfl
  generalize (fun _ : Nat => (0 : Int32)) = f169 at hP hD z170
  refine W.widen (k := 14) (n := 12217) (by omega) (by omega) ?_
  refine va_putF (D := (dC, dI)) (ci := 8) (v := .ref q167) (ty := .array .int) (C := RX5) (T := TX5) (N := 21) hx hb hts (in_z_X5_init_X5) tyX5 tyX5_ok nmX5 hown hK hP hD hS 0 rfl rfl 15 (by decide) (hts (.fieldLink RX5 61 "HeapWorks$Picture" "lostThings" "[I") (by decide +kernel)) (fun _ h9 => h9) rfl hin rfl (by decide +kernel) rfl rfl (by rw [o_s166.2.1]; decide) dX5_init_133 (fun H locs hP hD hS => ?_)
  have hP : va_P (dC, dI) vwCl [(Ad0, .inr (8, (s166.set 15 (.ref q167)))), (q136, .inl (k137, 400, .inl f141)), (q167, .inl (k168, 400, .inl f169))] H := hP
  have hD : va_D A [(Ad0, .inr (8, (s166.set 15 (.ref q167)))), (q136, .inl (k137, 400, .inl f141)), (q167, .inl (k168, 400, .inl f169))] := hD
  have o_s171 := ow_set o_s166 15 (.ref q167) (by decide) (l' := [(15, .ref q167), (14, .ref q162), (13, .ref q157), (12, .ref q152), (10, .ref q147), (9, .ref q142), (8, .ref q136), (7, .ref q131), (6, .ref q126), (5, .ref q121), (4, .ref q116), (3, .ref q111), (2, .ref q106), (1, .ref q101)]) (w' := [15, 14, 13, 12, 10, 9, 8, 7, 6, 5, 4, 3, 2, 1]) rfl rfl
  generalize (s166.set 15 (.ref q167)) = s171 at hP hD o_s171
  have hP := hP.sub (ws' := [(Ad0, .inr (8, s171)), (q136, .inl (k137, 400, .inl f141))]) [0, 1] rfl
  have hD := hD.sub (ws' := [(Ad0, .inr (8, s171)), (q136, .inl (k137, 400, .inl f141))]) [0, 1] (by decide) rfl
  have hK := hK.sub (tys' := [(k137, .int)]) [0] rfl
  refine lv_aload_n hx hb dX5_init_136 rfl (lv_at hl 0 rfl) ?_
  refine lv_sipush (v := 400) hx hb dX5_init_137 (by decide) ?_
  refine va_newa (atype := .int) (ty := .int) (a0 := (400, .inl (fun _ : Nat => (0 : Int32)))) (N' := 400) hx hb (hts (.arrayClass .int) (by decide +kernel)) rfl hK hP hD hS hA (na_I 400) (by decide) (by decide) (by decide) (Nat.le_of_ble_eq_true rfl) (Nat.le_of_ble_eq_true rfl) dX5_init_140 (fun q172 k173 H hK hP hD hS => ?_)
  have hK : va_K (dC, dI) vwCl [(k137, .int), (k173, .int)] s := hK
  have hP : va_P (dC, dI) vwCl [(Ad0, .inr (8, s171)), (q136, .inl (k137, 400, .inl f141)), (q172, .inl (k173, 400, .inl ((fun _ : Nat => (0 : Int32)))))] H := hP
  have hD : va_D A [(Ad0, .inr (8, s171)), (q136, .inl (k137, 400, .inl f141)), (q172, .inl (k173, 400, .inl ((fun _ : Nat => (0 : Int32)))))] := hD
  have z175 : ∀ j, (fun _ : Nat => (0 : Int32)) j = 0 := fun _ => rfl
  generalize (fun _ : Nat => (0 : Int32)) = f174 at hP hD z175
  refine W.widen (k := 15) (n := 12617) (by omega) (by omega) ?_
  refine va_putF (D := (dC, dI)) (ci := 8) (v := .ref q172) (ty := .array .int) (C := RX5) (T := TX5) (N := 21) hx hb hts (in_z_X5_init_X5) tyX5 tyX5_ok nmX5 hown hK hP hD hS 0 rfl rfl 17 (by decide) (hts (.fieldLink RX5 64 "HeapWorks$Picture" "mark" "[I") (by decide +kernel)) (fun _ h9 => h9) rfl hin rfl (by decide +kernel) rfl rfl (by rw [o_s171.2.1]; decide) dX5_init_142 (fun H locs hP hD hS => ?_)
  have hP : va_P (dC, dI) vwCl [(Ad0, .inr (8, (s171.set 17 (.ref q172)))), (q136, .inl (k137, 400, .inl f141)), (q172, .inl (k173, 400, .inl f174))] H := hP
  have hD : va_D A [(Ad0, .inr (8, (s171.set 17 (.ref q172)))), (q136, .inl (k137, 400, .inl f141)), (q172, .inl (k173, 400, .inl f174))] := hD
  have o_s176 := ow_set o_s171 17 (.ref q172) (by decide) (l' := [(17, .ref q172), (15, .ref q167), (14, .ref q162), (13, .ref q157), (12, .ref q152), (10, .ref q147), (9, .ref q142), (8, .ref q136), (7, .ref q131), (6, .ref q126), (5, .ref q121), (4, .ref q116), (3, .ref q111), (2, .ref q106), (1, .ref q101)]) (w' := [17, 15, 14, 13, 12, 10, 9, 8, 7, 6, 5, 4, 3, 2, 1]) rfl rfl
  generalize (s171.set 17 (.ref q172)) = s176 at hP hD o_s176
  refine lv_aload_n hx hb dX5_init_145 rfl (lv_at hl 0 rfl) ?_
  refine lv_sipush (v := 400) hx hb dX5_init_146 (by decide) ?_
  refine va_newa (atype := .int) (ty := .int) (a0 := (400, .inl (fun _ : Nat => (0 : Int32)))) (N' := 400) hx hb (hts (.arrayClass .int) (by decide +kernel)) rfl hK hP hD hS hA (na_I 400) (by decide) (by decide) (by decide) (Nat.le_of_ble_eq_true rfl) (Nat.le_of_ble_eq_true rfl) dX5_init_149 (fun q177 k178 H hK hP hD hS => ?_)
  have hK : va_K (dC, dI) vwCl [(k137, .int), (k173, .int), (k178, .int)] s := hK
  have hP : va_P (dC, dI) vwCl [(Ad0, .inr (8, s176)), (q136, .inl (k137, 400, .inl f141)), (q172, .inl (k173, 400, .inl f174)), (q177, .inl (k178, 400, .inl ((fun _ : Nat => (0 : Int32)))))] H := hP
  have hD : va_D A [(Ad0, .inr (8, s176)), (q136, .inl (k137, 400, .inl f141)), (q172, .inl (k173, 400, .inl f174)), (q177, .inl (k178, 400, .inl ((fun _ : Nat => (0 : Int32)))))] := hD
  have z180 : ∀ j, (fun _ : Nat => (0 : Int32)) j = 0 := fun _ => rfl
  generalize (fun _ : Nat => (0 : Int32)) = f179 at hP hD z180
  refine W.widen (k := 16) (n := 13017) (by omega) (by omega) ?_
  refine va_putF (D := (dC, dI)) (ci := 8) (v := .ref q177) (ty := .array .int) (C := RX5) (T := TX5) (N := 21) hx hb hts (in_z_X5_init_X5) tyX5 tyX5_ok nmX5 hown hK hP hD hS 0 rfl rfl 18 (by decide) (hts (.fieldLink RX5 67 "HeapWorks$Picture" "mate" "[I") (by decide +kernel)) (fun _ h9 => h9) rfl hin rfl (by decide +kernel) rfl rfl (by rw [o_s176.2.1]; decide) dX5_init_151 (fun H locs hP hD hS => ?_)
  have hP : va_P (dC, dI) vwCl [(Ad0, .inr (8, (s176.set 18 (.ref q177)))), (q136, .inl (k137, 400, .inl f141)), (q172, .inl (k173, 400, .inl f174)), (q177, .inl (k178, 400, .inl f179))] H := hP
  have hD : va_D A [(Ad0, .inr (8, (s176.set 18 (.ref q177)))), (q136, .inl (k137, 400, .inl f141)), (q172, .inl (k173, 400, .inl f174)), (q177, .inl (k178, 400, .inl f179))] := hD
  have o_s181 := ow_set o_s176 18 (.ref q177) (by decide) (l' := [(18, .ref q177), (17, .ref q172), (15, .ref q167), (14, .ref q162), (13, .ref q157), (12, .ref q152), (10, .ref q147), (9, .ref q142), (8, .ref q136), (7, .ref q131), (6, .ref q126), (5, .ref q121), (4, .ref q116), (3, .ref q111), (2, .ref q106), (1, .ref q101)]) (w' := [18, 17, 15, 14, 13, 12, 10, 9, 8, 7, 6, 5, 4, 3, 2, 1]) rfl rfl
  generalize (s176.set 18 (.ref q177)) = s181 at hP hD o_s181
  have hP := hP.sub (ws' := [(Ad0, .inr (8, s181)), (q136, .inl (k137, 400, .inl f141)), (q172, .inl (k173, 400, .inl f174))]) [0, 1, 2] rfl
  have hD := hD.sub (ws' := [(Ad0, .inr (8, s181)), (q136, .inl (k137, 400, .inl f141)), (q172, .inl (k173, 400, .inl f174))]) [0, 1, 2] (by decide) rfl
  have hK := hK.sub (tys' := [(k137, .int), (k173, .int)]) [0, 1] rfl
  refine lv_aload_n hx hb dX5_init_154 rfl (lv_at hl 0 rfl) ?_
  refine lv_sipush (v := 400) hx hb dX5_init_155 (by decide) ?_
  refine va_newa (atype := .int) (ty := .int) (a0 := (400, .inl (fun _ : Nat => (0 : Int32)))) (N' := 400) hx hb (hts (.arrayClass .int) (by decide +kernel)) rfl hK hP hD hS hA (na_I 400) (by decide) (by decide) (by decide) (Nat.le_of_ble_eq_true rfl) (Nat.le_of_ble_eq_true rfl) dX5_init_158 (fun q182 k183 H hK hP hD hS => ?_)
  have hK : va_K (dC, dI) vwCl [(k137, .int), (k173, .int), (k183, .int)] s := hK
  have hP : va_P (dC, dI) vwCl [(Ad0, .inr (8, s181)), (q136, .inl (k137, 400, .inl f141)), (q172, .inl (k173, 400, .inl f174)), (q182, .inl (k183, 400, .inl ((fun _ : Nat => (0 : Int32)))))] H := hP
  have hD : va_D A [(Ad0, .inr (8, s181)), (q136, .inl (k137, 400, .inl f141)), (q172, .inl (k173, 400, .inl f174)), (q182, .inl (k183, 400, .inl ((fun _ : Nat => (0 : Int32)))))] := hD
  have z185 : ∀ j, (fun _ : Nat => (0 : Int32)) j = 0 := fun _ => rfl
  generalize (fun _ : Nat => (0 : Int32)) = f184 at hP hD z185
  refine W.widen (k := 17) (n := 13417) (by omega) (by omega) ?_
  refine va_putF (D := (dC, dI)) (ci := 8) (v := .ref q182) (ty := .array .int) (C := RX5) (T := TX5) (N := 21) hx hb hts (in_z_X5_init_X5) tyX5 tyX5_ok nmX5 hown hK hP hD hS 0 rfl rfl 19 (by decide) (hts (.fieldLink RX5 70 "HeapWorks$Picture" "queue" "[I") (by decide +kernel)) (fun _ h9 => h9) rfl hin rfl (by decide +kernel) rfl rfl (by rw [o_s181.2.1]; decide) dX5_init_160 (fun H locs hP hD hS => ?_)
  have hP : va_P (dC, dI) vwCl [(Ad0, .inr (8, (s181.set 19 (.ref q182)))), (q136, .inl (k137, 400, .inl f141)), (q172, .inl (k173, 400, .inl f174)), (q182, .inl (k183, 400, .inl f184))] H := hP
  have hD : va_D A [(Ad0, .inr (8, (s181.set 19 (.ref q182)))), (q136, .inl (k137, 400, .inl f141)), (q172, .inl (k173, 400, .inl f174)), (q182, .inl (k183, 400, .inl f184))] := hD
  have o_s186 := ow_set o_s181 19 (.ref q182) (by decide) (l' := [(19, .ref q182), (18, .ref q177), (17, .ref q172), (15, .ref q167), (14, .ref q162), (13, .ref q157), (12, .ref q152), (10, .ref q147), (9, .ref q142), (8, .ref q136), (7, .ref q131), (6, .ref q126), (5, .ref q121), (4, .ref q116), (3, .ref q111), (2, .ref q106), (1, .ref q101)]) (w' := [19, 18, 17, 15, 14, 13, 12, 10, 9, 8, 7, 6, 5, 4, 3, 2, 1]) rfl rfl
  generalize (s181.set 19 (.ref q182)) = s186 at hP hD o_s186
  have hP := hP.sub (ws' := [(Ad0, .inr (8, s186)), (q136, .inl (k137, 400, .inl f141)), (q172, .inl (k173, 400, .inl f174))]) [0, 1, 2] rfl
  have hD := hD.sub (ws' := [(Ad0, .inr (8, s186)), (q136, .inl (k137, 400, .inl f141)), (q172, .inl (k173, 400, .inl f174))]) [0, 1, 2] (by decide) rfl
  have hK := hK.sub (tys' := [(k137, .int), (k173, .int)]) [0, 1] rfl
  refine lv_aload_n hx hb dX5_init_163 rfl (lv_at hl 0 rfl) ?_
  refine va_new (ci := 11) (fs := [.null, .int 0, .null, .null, .null, .null, .null, .null, .null, .int 0, .null, .int 0, .null, .null, .null, .null, .null, .null]) (C := RX8) (T := TX8) (N := 18) hx hb hts (in_z_X5_init_X8) tyX8 tyX8_ok hown (hts (.classLink RX5 73 RX8) (by decide +kernel)) (hts (.instantiable RX8 18) (by decide +kernel)) (hts (.initialized RX8) (by decide +kernel)) hK hP hD hS hA rfl (by decide) (Nat.le_of_ble_eq_true rfl) (Nat.le_of_ble_eq_true rfl) dX5_init_164 (fun q187 H hP hD hS => ?_)
  have hP : va_P (dC, dI) vwCl [(Ad0, .inr (8, s186)), (q136, .inl (k137, 400, .inl f141)), (q172, .inl (k173, 400, .inl f174)), (q187, .inr (11, [.null, .int 0, .null, .null, .null, .null, .null, .null, .null, .int 0, .null, .int 0, .null, .null, .null, .null, .null, .null]))] H := hP
  have hD : va_D A [(Ad0, .inr (8, s186)), (q136, .inl (k137, 400, .inl f141)), (q172, .inl (k173, 400, .inl f174)), (q187, .inr (11, [.null, .int 0, .null, .null, .null, .null, .null, .null, .null, .int 0, .null, .int 0, .null, .null, .null, .null, .null, .null]))] := hD
  have k_s188 : fh [.null, .int 0, .null, .null, .null, .null, .null, .null, .null, .int 0, .null, .int 0, .null, .null, .null, .null, .null, .null] 18 [(0, .null), (1, .int 0), (2, .null), (3, .null), (4, .null), (5, .null), (6, .null), (7, .null), (8, .null), (9, .int 0), (10, .null), (11, .int 0), (12, .null), (13, .null), (14, .null), (15, .null), (16, .null), (17, .null)] := ⟨rfl, by decide⟩
  generalize ([.null, .int 0, .null, .null, .null, .null, .null, .null, .null, .int 0, .null, .int 0, .null, .null, .null, .null, .null, .null] : List Value) = s188 at hP hD k_s188
  have o_s188 := ow_0 k_s188
  refine W.widen (k := 18) (n := 13435) (by omega) (by omega) ?_
  refine lv_dup hx hb dX5_init_167 rfl ?_
  refine lv_aload_n hx hb dX5_init_168 rfl (lv_at hl 1 rfl) ?_
  have hPc := hP.sub (ws' := [(q187, .inr (11, s188))]) [3] rfl
  have hDc := hD.sub (ws' := [(q187, .inr (11, s188))]) [3] (by decide) rfl
  have hKc := hK.sub (tys' := []) [] rfl
  have hFc := va_free (wc := [(q187, .inr (11, s188))]) hD hS hA [3] rfl
  refine va_callv (va_runI (As := [.ref Br0]) (rest := [.ref q187, .ref Ad0]) ⟨hx, hb, hml, hown, hts⟩ (z_X8_init l dC dI H.size q187 s188 Br0 (fh_sub o_s188.2 [] rfl) ) (cwI 1 hts g_z_X5_init_z_X8_init_75 rfl rfl rfl (hts (.initialized RX8) (by decide +kernel)) (hts (.methodLink RX5 75 yX8_init) (by decide +kernel)) (hts (.instanceMethod yX8_init) (by decide +kernel)) rfl (by decide +kernel) ⟨Nat.le_of_ble_eq_true rfl, Nat.le_of_ble_eq_true rfl⟩) ⟨fun a U g mk q => by obtain ⟨q0, q1, qP, qK, qD⟩ := q; exact ⟨q0, q1, qP, va_K.moved (u := U) (U := U.calling g mk a) (Vm.Alike.refl U.vm) qK, qD⟩, fun U hU hW => ⟨rfl, by rw [hU], by rw [hU]; exact hPc, va_K.moved hW.alike hKc, hDc.weaken (fun _ _ _ _ => trivial)⟩⟩ rfl rfl hl.1 rfl (lv_room (Nat.le_of_ble_eq_true rfl)) dX5_init_169 ⟨Nat.le_of_ble_eq_true rfl, Nat.le_of_ble_eq_true rfl⟩) hS (fun q _ h => hFc q h) hFc (fun u t H1 locs ht hvm hw hB hz1 hk1 hS => ?_)
  obtain ⟨s189, q190, f191, k192, q193, f194, k195, q196, f197, k198, q199, f200, k201, q202, f203, k204⟩ := u
  dsimp only at hB
  obtain ⟨hP1, hK1, hD1⟩ := hB
  rw [ht] at hP1
  try dsimp only at hw
  obtain ⟨hP, hD⟩ := va_join (wr := [(Ad0, .inr (8, s186)), (q136, .inl (k137, 400, .inl f141)), (q172, .inl (k173, 400, .inl f174))]) (w1 := [(q187, .inr (11, s189)), (q190, .inl (k192, 512, .inl f191)), (q193, .inl (k195, 400, .inl f194)), (q196, .inl (k198, 400, .inl f197)), (q199, .inl (k201, 400, .inl f200)), (q202, .inl (k204, 400, .inl f203))]) hP hD [3] [0, 1, 2] rfl rfl (by decide) (by decide) hk1 hFc hP1 hD1
  have hK1 := va_K.moved hvm.symm hK1
  have hKr : va_K (dC, dI) vwCl [(k137, .int), (k173, .int)] s := hK.sub [0, 1] rfl
  have hK : va_K (dC, dI) vwCl [(k137, .int), (k173, .int), (k192, .int), (k195, .int), (k198, .int), (k201, .int), (k204, .int)] s := hKr.app hK1
  generalize H1 = H at hP hS ⊢
  refine W.widen (k := 32) (n := 26564) (by omega) (by omega) ?_
  have hP : va_P (dC, dI) vwCl [(Ad0, .inr (8, s186)), (q136, .inl (k137, 400, .inl f141)), (q172, .inl (k173, 400, .inl f174)), (q187, .inr (11, s189)), (q190, .inl (k192, 512, .inl f191)), (q193, .inl (k195, 400, .inl f194)), (q196, .inl (k198, 400, .inl f197)), (q199, .inl (k201, 400, .inl f200)), (q202, .inl (k204, 400, .inl f203))] H := hP
  have hD : va_D A [(Ad0, .inr (8, s186)), (q136, .inl (k137, 400, .inl f141)), (q172, .inl (k173, 400, .inl f174)), (q187, .inr (11, s189)), (q190, .inl (k192, 512, .inl f191)), (q193, .inl (k195, 400, .inl f194)), (q196, .inl (k198, 400, .inl f197)), (q199, .inl (k201, 400, .inl f200)), (q202, .inl (k204, 400, .inl f203))] := hD
  obtain ⟨o_s189, b205, b206, b207, b208, b209⟩ := hw
  have o_s189 := ow_on o_s188 o_s189 (l' := [(17, .ref q190), (15, .ref q193), (13, .ref q196), (10, .ref q199), (8, .ref q202), (0, .ref Br0), (1, .int 0), (9, .int 0), (11, .int 0)]) (w' := [17, 16, 15, 14, 13, 12, 10, 8, 7, 6, 5, 4, 3, 2, 0]) rfl rfl
  refine va_putF (D := (dC, dI)) (ci := 8) (v := .ref q187) (ty := .object "HeapWorks$Shape") (C := RX5) (T := TX5) (N := 21) hx hb hts (in_z_X5_init_X5) tyX5 tyX5_ok nmX5 hown hK hP hD hS 0 rfl rfl 20 (by decide) (hts (.fieldLink RX5 78 "HeapWorks$Picture" "shape" "LHeapWorks$Shape;") (by decide +kernel)) (fun _ h9 => h9) rfl hin rfl (by decide +kernel) rfl rfl (by rw [o_s186.2.1]; decide) dX5_init_172 (fun H locs hP hD hS => ?_)
  have hP : va_P (dC, dI) vwCl [(Ad0, .inr (8, (s186.set 20 (.ref q187)))), (q136, .inl (k137, 400, .inl f141)), (q172, .inl (k173, 400, .inl f174)), (q187, .inr (11, s189)), (q190, .inl (k192, 512, .inl f191)), (q193, .inl (k195, 400, .inl f194)), (q196, .inl (k198, 400, .inl f197)), (q199, .inl (k201, 400, .inl f200)), (q202, .inl (k204, 400, .inl f203))] H := hP
  have hD : va_D A [(Ad0, .inr (8, (s186.set 20 (.ref q187)))), (q136, .inl (k137, 400, .inl f141)), (q172, .inl (k173, 400, .inl f174)), (q187, .inr (11, s189)), (q190, .inl (k192, 512, .inl f191)), (q193, .inl (k195, 400, .inl f194)), (q196, .inl (k198, 400, .inl f197)), (q199, .inl (k201, 400, .inl f200)), (q202, .inl (k204, 400, .inl f203))] := hD
  have o_s210 := ow_set o_s186 20 (.ref q187) (by decide) (l' := [(20, .ref q187), (19, .ref q182), (18, .ref q177), (17, .ref q172), (15, .ref q167), (14, .ref q162), (13, .ref q157), (12, .ref q152), (10, .ref q147), (9, .ref q142), (8, .ref q136), (7, .ref q131), (6, .ref q126), (5, .ref q121), (4, .ref q116), (3, .ref q111), (2, .ref q106), (1, .ref q101)]) (w' := [20, 19, 18, 17, 15, 14, 13, 12, 10, 9, 8, 7, 6, 5, 4, 3, 2, 1]) rfl rfl
  generalize (s186.set 20 (.ref q187)) = s210 at hP hD o_s210
  have hP9 := hP.sub (ws' := [(Ad0, .inr (8, s210)), (q187, .inr (11, s189)), (q172, .inl (k173, 400, .inl f174)), (q136, .inl (k137, 400, .inl f141)), (q190, .inl (k192, 512, .inl f191)), (q193, .inl (k195, 400, .inl f194)), (q196, .inl (k198, 400, .inl f197)), (q199, .inl (k201, 400, .inl f200)), (q202, .inl (k204, 400, .inl f203))]) [0, 3, 2, 1, 4, 5, 6, 7, 8] rfl
  have hD9 := hD.sub (ws' := [(Ad0, .inr (8, s210)), (q187, .inr (11, s189)), (q172, .inl (k173, 400, .inl f174)), (q136, .inl (k137, 400, .inl f141)), (q190, .inl (k192, 512, .inl f191)), (q193, .inl (k195, 400, .inl f194)), (q196, .inl (k198, 400, .inl f197)), (q199, .inl (k201, 400, .inl f200)), (q202, .inl (k204, 400, .inl f203))]) [0, 3, 2, 1, 4, 5, 6, 7, 8] (by decide) rfl
  have hK9 := hK.sub (tys' := [(k173, .int), (k137, .int), (k192, .int), (k195, .int), (k198, .int), (k201, .int), (k204, .int)]) [1, 0, 2, 3, 4, 5, 6] rfl
  refine W.widen (k := 32) (n := 26564) (by decide) (by decide) ?_
  exact W.vret hx hb hr (fun t ht hW => ⟨⟨(s210, q187, s189, q172, f174, k173, q136, f141, k137, q190, f191, k192, q193, f194, k195, q196, f197, k198, q199, f200, k201, q202, f203, k204), rfl, ⟨(ow_sub o_s210 [0, 3, 10] rfl), (fh_sub o_s189.2 [0, 1, 2, 3, 4, 5, 6, 7, 8] rfl), z175, b205, b206, b207, b208, b209⟩, by rw [ht]; exact hP9, va_K.moved hW.alike hK9, hD9⟩, hS.F ht⟩) hS.2.2 dX5_init_175

def l_z_X6_init : List Cond := [.methodLink RX6 3 objectInit, .instanceMethod objectInit, .code objectInit ⟨#[0xb1]⟩ 1 none, .fieldLink RX6 9 "HeapWorks$Program" "tape" "LHeapWorks$Tape;", .arrayClass .int, .fieldLink RX6 15 "HeapWorks$Program" "op" "[I", .fieldLink RX6 19 "HeapWorks$Program" "frame" "[I", .fieldLink RX6 22 "HeapWorks$Program" "target" "[I", .arrayClass .long, .fieldLink RX6 25 "HeapWorks$Program" "detail" "[J", .fieldLink RX6 29 "HeapWorks$Program" "scopeName" "[J", .fieldLink RX6 32 "HeapWorks$Program" "scopeFrame" "[I", .fieldLink RX6 35 "HeapWorks$Program" "waiting" "[I"]
def w_z_X6_init : List Cond := .code yX6_init cX6_init 2 none :: (l_z_X6_init ++ (wsX60))
theorem in_z_X6_init_X6 : ∀ w ∈ wsX60, w ∈ w_z_X6_init := fun w h => List.mem_cons_of_mem _ (List.mem_append_right _ (h))
set_option maxHeartbeats 4000000 in
set_option maxRecDepth 100000 in
theorem z_X6_init (l : Launch) (dC : Nat → ClassId) (dI : Nat → Nat → Nat) (sz : Nat) (Ad0 : Nat) (Fs0 : List Value) (Br0 : Nat) (k_Fs0 : fh Fs0 19 [])  : Met l yX6_init w_z_X6_init ({ frames := 1, cells := 7, slots := 2140, locals := 24 }) (va_Pc [.ref Ad0, .ref Br0] (fun U => U.heap.size = sz ∧ Wd dC dI [] (fun _ => True) [(Ad0, .inr (9, Fs0))] U)) (va_Qv (fun (u : List Value) => ow Fs0 (u) 19 [17, 15, 14, 4, 3, 2, 1, 0] [(0, .ref Br0)]) (fun (u : List Value) t => Wd dC dI [] (va_A [(Ad0, .inr (9, Fs0))] sz) [(Ad0, .inr (9, (u)))] t) (va_A [(Ad0, .inr (9, Fs0))] sz))  7 2140 (va_A [(Ad0, .inr (9, Fs0))] sz) := by
  refine Met.ofW (cc := cX6_init) (maxL := 2) (ret := none) (by decide) rfl ?_
  intro p e s m args below meth c s₁ B hml hv
  obtain ⟨rfl, hsz, hP, hK, hD0⟩ := hv
  have hx := B.exec
  have hb := B.bytes
  have hr := B.returns
  have hts := atoms_spec (ws := w_z_X6_init) B.pre
  have hown : s.vm.findClass RX6 = some m.cls := findClass_of_methodNamed B.named
  have hlocks := B.notSynchronized
  have hin : meth.name = "<init>" := (name_of_methodNamed B.named B.method).1
  subst hsz
  have hD := hD0.self (sz := s.heap.size)
  generalize hAe : va_A [(Ad0, .inr (9, Fs0))] s.heap.size = A at hD ⊢
  have hA : ∀ q : Nat, s.heap.size ≤ q → A q := fun q h => by rw [← hAe]; exact Or.inr h
  have hS : va_S A s.heap s.heap [] := va_S.rf
  have hl := lv_entry ([.ref Ad0, .ref Br0]) (n := 2) (Nat.le_of_ble_eq_true rfl)
  rw [lg_entry_eq]
  generalize (lg_sl ([.ref Ad0, .ref Br0]) ++ List.replicate (2 - (lg_sl ([.ref Ad0, .ref Br0])).length) Slot.unset).toArray = ls at hl ⊢
  have hl : lv_has ls 2 [(0, .ref Ad0), (1, .ref Br0)] := hl
  have o_Fs0 := ow_0 k_Fs0
  refine lv_aload_n hx hb dX6_init_0 rfl (lv_at hl 0 rfl) ?_
  refine W.objInit hx hb hown (hts (.methodLink RX6 3 objectInit) (by decide +kernel)) (hts (.instanceMethod objectInit) (by decide +kernel)) (hts (.code objectInit ⟨#[0xb1]⟩ 1 none) (by decide +kernel)) rfl (by rw [hml]; exact hl.1) rfl dX6_init_1 (Nat.le_of_ble_eq_true rfl) (Nat.le_of_ble_eq_true rfl) ?_
  refine W.eq (g2 := F0 m 4 ls []) rfl ?_
  refine lv_aload_n hx hb dX6_init_4 rfl (lv_at hl 0 rfl) ?_
  refine lv_aload_n hx hb dX6_init_5 rfl (lv_at hl 1 rfl) ?_
  refine va_putF (D := (dC, dI)) (ci := 9) (v := .ref Br0) (ty := .object "HeapWorks$Tape") (C := RX6) (T := TX6) (N := 19) hx hb hts (in_z_X6_init_X6) tyX6 tyX6_ok nmX6 hown hK hP hD hS 0 rfl rfl 0 (by decide) (hts (.fieldLink RX6 9 "HeapWorks$Program" "tape" "LHeapWorks$Tape;") (by decide +kernel)) (fun _ h9 => h9) rfl hin rfl (by decide +kernel) rfl rfl (by rw [o_Fs0.2.1]; decide) dX6_init_6 (fun H locs hP hD hS => ?_)
  have hP : va_P (dC, dI) vwCl [(Ad0, .inr (9, (Fs0.set 0 (.ref Br0))))] H := hP
  have hD : va_D A [(Ad0, .inr (9, (Fs0.set 0 (.ref Br0))))] := hD
  have o_s101 := ow_set o_Fs0 0 (.ref Br0) (by decide) (l' := [(0, .ref Br0)]) (w' := [0]) rfl rfl
  generalize (Fs0.set 0 (.ref Br0)) = s101 at hP hD o_s101
  refine lv_aload_n hx hb dX6_init_9 rfl (lv_at hl 0 rfl) ?_
  refine lv_sipush (v := 500) hx hb dX6_init_10 (by decide) ?_
  refine va_newa (atype := .int) (ty := .int) (a0 := (500, .inl (fun _ : Nat => (0 : Int32)))) (N' := 500) hx hb (hts (.arrayClass .int) (by decide +kernel)) rfl hK hP hD hS hA (na_I 500) (by decide) (by decide) (by decide) (Nat.le_of_ble_eq_true rfl) (Nat.le_of_ble_eq_true rfl) dX6_init_13 (fun q102 k103 H hK hP hD hS => ?_)
  have hK : va_K (dC, dI) vwCl [(k103, .int)] s := hK
  have hP : va_P (dC, dI) vwCl [(Ad0, .inr (9, s101)), (q102, .inl (k103, 500, .inl ((fun _ : Nat => (0 : Int32)))))] H := hP
  have hD : va_D A [(Ad0, .inr (9, s101)), (q102, .inl (k103, 500, .inl ((fun _ : Nat => (0 : Int32)))))] := hD
  have z105 : ∀ j, (fun _ : Nat => (0 : Int32)) j = 0 := fun _ => rfl
  generalize (fun _ : Nat => (0 : Int32)) = f104 at hP hD z105
  refine W.widen (k := 1) (n := 500) (by omega) (by omega) ?_
  refine va_putF (D := (dC, dI)) (ci := 9) (v := .ref q102) (ty := .array .int) (C := RX6) (T := TX6) (N := 19) hx hb hts (in_z_X6_init_X6) tyX6 tyX6_ok nmX6 hown hK hP hD hS 0 rfl rfl 1 (by decide) (hts (.fieldLink RX6 15 "HeapWorks$Program" "op" "[I") (by decide +kernel)) (fun _ h9 => h9) rfl hin rfl (by decide +kernel) rfl rfl (by rw [o_s101.2.1]; decide) dX6_init_15 (fun H locs hP hD hS => ?_)
  have hP : va_P (dC, dI) vwCl [(Ad0, .inr (9, (s101.set 1 (.ref q102)))), (q102, .inl (k103, 500, .inl f104))] H := hP
  have hD : va_D A [(Ad0, .inr (9, (s101.set 1 (.ref q102)))), (q102, .inl (k103, 500, .inl f104))] := hD
  have o_s106 := ow_set o_s101 1 (.ref q102) (by decide) (l' := [(1, .ref q102), (0, .ref Br0)]) (w' := [1, 0]) rfl rfl
  generalize (s101.set 1 (.ref q102)) = s106 at hP hD o_s106
  have hP := hP.sub (ws' := [(Ad0, .inr (9, s106))]) [0] rfl
  have hD := hD.sub (ws' := [(Ad0, .inr (9, s106))]) [0] (by decide) rfl
  have hK := hK.sub (tys' := []) [] rfl
  refine lv_aload_n hx hb dX6_init_18 rfl (lv_at hl 0 rfl) ?_
  refine lv_sipush (v := 500) hx hb dX6_init_19 (by decide) ?_
  refine va_newa (atype := .int) (ty := .int) (a0 := (500, .inl (fun _ : Nat => (0 : Int32)))) (N' := 500) hx hb (hts (.arrayClass .int) (by decide +kernel)) rfl hK hP hD hS hA (na_I 500) (by decide) (by decide) (by decide) (Nat.le_of_ble_eq_true rfl) (Nat.le_of_ble_eq_true rfl) dX6_init_22 (fun q107 k108 H hK hP hD hS => ?_)
  have hK : va_K (dC, dI) vwCl [(k108, .int)] s := hK
  have hP : va_P (dC, dI) vwCl [(Ad0, .inr (9, s106)), (q107, .inl (k108, 500, .inl ((fun _ : Nat => (0 : Int32)))))] H := hP
  have hD : va_D A [(Ad0, .inr (9, s106)), (q107, .inl (k108, 500, .inl ((fun _ : Nat => (0 : Int32)))))] := hD
  have z110 : ∀ j, (fun _ : Nat => (0 : Int32)) j = 0 := fun _ => rfl
  generalize (fun _ : Nat => (0 : Int32)) = f109 at hP hD z110
  refine W.widen (k := 2) (n := 1000) (by omega) (by omega) ?_
  refine va_putF (D := (dC, dI)) (ci := 9) (v := .ref q107) (ty := .array .int) (C := RX6) (T := TX6) (N := 19) hx hb hts (in_z_X6_init_X6) tyX6 tyX6_ok nmX6 hown hK hP hD hS 0 rfl rfl 2 (by decide) (hts (.fieldLink RX6 19 "HeapWorks$Program" "frame" "[I") (by decide +kernel)) (fun _ h9 => h9) rfl hin rfl (by decide +kernel) rfl rfl (by rw [o_s106.2.1]; decide) dX6_init_24 (fun H locs hP hD hS => ?_)
  have hP : va_P (dC, dI) vwCl [(Ad0, .inr (9, (s106.set 2 (.ref q107)))), (q107, .inl (k108, 500, .inl f109))] H := hP
  have hD : va_D A [(Ad0, .inr (9, (s106.set 2 (.ref q107)))), (q107, .inl (k108, 500, .inl f109))] := hD
  have o_s111 := ow_set o_s106 2 (.ref q107) (by decide) (l' := [(2, .ref q107), (1, .ref q102), (0, .ref Br0)]) (w' := [2, 1, 0]) rfl rfl
  generalize (s106.set 2 (.ref q107)) = s111 at hP hD o_s111
  have hP := hP.sub (ws' := [(Ad0, .inr (9, s111))]) [0] rfl
  have hD := hD.sub (ws' := [(Ad0, .inr (9, s111))]) [0] (by decide) rfl
  have hK := hK.sub (tys' := []) [] rfl
  refine lv_aload_n hx hb dX6_init_27 rfl (lv_at hl 0 rfl) ?_
  refine lv_sipush (v := 500) hx hb dX6_init_28 (by decide) ?_
  refine va_newa (atype := .int) (ty := .int) (a0 := (500, .inl (fun _ : Nat => (0 : Int32)))) (N' := 500) hx hb (hts (.arrayClass .int) (by decide +kernel)) rfl hK hP hD hS hA (na_I 500) (by decide) (by decide) (by decide) (Nat.le_of_ble_eq_true rfl) (Nat.le_of_ble_eq_true rfl) dX6_init_31 (fun q112 k113 H hK hP hD hS => ?_)
  have hK : va_K (dC, dI) vwCl [(k113, .int)] s := hK
  have hP : va_P (dC, dI) vwCl [(Ad0, .inr (9, s111)), (q112, .inl (k113, 500, .inl ((fun _ : Nat => (0 : Int32)))))] H := hP
  have hD : va_D A [(Ad0, .inr (9, s111)), (q112, .inl (k113, 500, .inl ((fun _ : Nat => (0 : Int32)))))] := hD
  have z115 : ∀ j, (fun _ : Nat => (0 : Int32)) j = 0 := fun _ => rfl
  generalize (fun _ : Nat => (0 : Int32)) = f114 at hP hD z115
  refine W.widen (k := 3) (n := 1500) (by omega) (by omega) ?_
  refine va_putF (D := (dC, dI)) (ci := 9) (v := .ref q112) (ty := .array .int) (C := RX6) (T := TX6) (N := 19) hx hb hts (in_z_X6_init_X6) tyX6 tyX6_ok nmX6 hown hK hP hD hS 0 rfl rfl 3 (by decide) (hts (.fieldLink RX6 22 "HeapWorks$Program" "target" "[I") (by decide +kernel)) (fun _ h9 => h9) rfl hin rfl (by decide +kernel) rfl rfl (by rw [o_s111.2.1]; decide) dX6_init_33 (fun H locs hP hD hS => ?_)
  have hP : va_P (dC, dI) vwCl [(Ad0, .inr (9, (s111.set 3 (.ref q112)))), (q112, .inl (k113, 500, .inl f114))] H := hP
  have hD : va_D A [(Ad0, .inr (9, (s111.set 3 (.ref q112)))), (q112, .inl (k113, 500, .inl f114))] := hD
  have o_s116 := ow_set o_s111 3 (.ref q112) (by decide) (l' := [(3, .ref q112), (2, .ref q107), (1, .ref q102), (0, .ref Br0)]) (w' := [3, 2, 1, 0]) rfl rfl
  generalize (s111.set 3 (.ref q112)) = s116 at hP hD o_s116
  have hP := hP.sub (ws' := [(Ad0, .inr (9, s116))]) [0] rfl
  have hD := hD.sub (ws' := [(Ad0, .inr (9, s116))]) [0] (by decide) rfl
  have hK := hK.sub (tys' := []) [] rfl
  refine lv_aload_n hx hb dX6_init_36 rfl (lv_at hl 0 rfl) ?_
  refine lv_sipush (v := 500) hx hb dX6_init_37 (by decide) ?_
  refine va_newa (atype := .long) (ty := .long) (a0 := (500, .inr (.inl (fun _ : Nat => (0 : Int64))))) (N' := 500) hx hb (hts (.arrayClass .long) (by decide +kernel)) rfl hK hP hD hS hA (na_J 500) (by decide) (by decide) (by decide) (Nat.le_of_ble_eq_true rfl) (Nat.le_of_ble_eq_true rfl) dX6_init_40 (fun q117 k118 H hK hP hD hS => ?_)
  have hK : va_K (dC, dI) vwCl [(k118, .long)] s := hK
  have hP : va_P (dC, dI) vwCl [(Ad0, .inr (9, s116)), (q117, .inl (k118, 500, .inr (.inl ((fun _ : Nat => (0 : Int64))))))] H := hP
  have hD : va_D A [(Ad0, .inr (9, s116)), (q117, .inl (k118, 500, .inr (.inl ((fun _ : Nat => (0 : Int64))))))] := hD
  have z120 : ∀ j, (fun _ : Nat => (0 : Int64)) j = 0 := fun _ => rfl
  generalize (fun _ : Nat => (0 : Int64)) = f119 at hP hD z120
  refine W.widen (k := 4) (n := 2000) (by omega) (by omega) ?_
  refine va_putF (D := (dC, dI)) (ci := 9) (v := .ref q117) (ty := .array .long) (C := RX6) (T := TX6) (N := 19) hx hb hts (in_z_X6_init_X6) tyX6 tyX6_ok nmX6 hown hK hP hD hS 0 rfl rfl 4 (by decide) (hts (.fieldLink RX6 25 "HeapWorks$Program" "detail" "[J") (by decide +kernel)) (fun _ h9 => h9) rfl hin rfl (by decide +kernel) rfl rfl (by rw [o_s116.2.1]; decide) dX6_init_42 (fun H locs hP hD hS => ?_)
  have hP : va_P (dC, dI) vwCl [(Ad0, .inr (9, (s116.set 4 (.ref q117)))), (q117, .inl (k118, 500, .inr (.inl f119)))] H := hP
  have hD : va_D A [(Ad0, .inr (9, (s116.set 4 (.ref q117)))), (q117, .inl (k118, 500, .inr (.inl f119)))] := hD
  have o_s121 := ow_set o_s116 4 (.ref q117) (by decide) (l' := [(4, .ref q117), (3, .ref q112), (2, .ref q107), (1, .ref q102), (0, .ref Br0)]) (w' := [4, 3, 2, 1, 0]) rfl rfl
  generalize (s116.set 4 (.ref q117)) = s121 at hP hD o_s121
  have hP := hP.sub (ws' := [(Ad0, .inr (9, s121))]) [0] rfl
  have hD := hD.sub (ws' := [(Ad0, .inr (9, s121))]) [0] (by decide) rfl
  have hK := hK.sub (tys' := []) [] rfl
  refine lv_aload_n hx hb dX6_init_45 rfl (lv_at hl 0 rfl) ?_
  refine lv_bipush (v := 10) hx hb dX6_init_46 (by decide) ?_
  refine va_newa (atype := .long) (ty := .long) (a0 := (10, .inr (.inl (fun _ : Nat => (0 : Int64))))) (N' := 10) hx hb (hts (.arrayClass .long) (by decide +kernel)) rfl hK hP hD hS hA (na_J 10) (by decide) (by decide) (by decide) (Nat.le_of_ble_eq_true rfl) (Nat.le_of_ble_eq_true rfl) dX6_init_48 (fun q122 k123 H hK hP hD hS => ?_)
  have hK : va_K (dC, dI) vwCl [(k123, .long)] s := hK
  have hP : va_P (dC, dI) vwCl [(Ad0, .inr (9, s121)), (q122, .inl (k123, 10, .inr (.inl ((fun _ : Nat => (0 : Int64))))))] H := hP
  have hD : va_D A [(Ad0, .inr (9, s121)), (q122, .inl (k123, 10, .inr (.inl ((fun _ : Nat => (0 : Int64))))))] := hD
  have z125 : ∀ j, (fun _ : Nat => (0 : Int64)) j = 0 := fun _ => rfl
  generalize (fun _ : Nat => (0 : Int64)) = f124 at hP hD z125
  refine W.widen (k := 5) (n := 2010) (by omega) (by omega) ?_
  refine va_putF (D := (dC, dI)) (ci := 9) (v := .ref q122) (ty := .array .long) (C := RX6) (T := TX6) (N := 19) hx hb hts (in_z_X6_init_X6) tyX6 tyX6_ok nmX6 hown hK hP hD hS 0 rfl rfl 14 (by decide) (hts (.fieldLink RX6 29 "HeapWorks$Program" "scopeName" "[J") (by decide +kernel)) (fun _ h9 => h9) rfl hin rfl (by decide +kernel) rfl rfl (by rw [o_s121.2.1]; decide) dX6_init_50 (fun H locs hP hD hS => ?_)
  have hP : va_P (dC, dI) vwCl [(Ad0, .inr (9, (s121.set 14 (.ref q122)))), (q122, .inl (k123, 10, .inr (.inl f124)))] H := hP
  have hD : va_D A [(Ad0, .inr (9, (s121.set 14 (.ref q122)))), (q122, .inl (k123, 10, .inr (.inl f124)))] := hD
  have o_s126 := ow_set o_s121 14 (.ref q122) (by decide) (l' := [(14, .ref q122), (4, .ref q117), (3, .ref q112), (2, .ref q107), (1, .ref q102), (0, .ref Br0)]) (w' := [14, 4, 3, 2, 1, 0]) rfl rfl
  generalize (s121.set 14 (.ref q122)) = s126 at hP hD o_s126
  have hP := hP.sub (ws' := [(Ad0, .inr (9, s126))]) [0] rfl
  have hD := hD.sub (ws' := [(Ad0, .inr (9, s126))]) [0] (by decide) rfl
  have hK := hK.sub (tys' := []) [] rfl
  refine lv_aload_n hx hb dX6_init_53 rfl (lv_at hl 0 rfl) ?_
  refine lv_bipush (v := 10) hx hb dX6_init_54 (by decide) ?_
  refine va_newa (atype := .int) (ty := .int) (a0 := (10, .inl (fun _ : Nat => (0 : Int32)))) (N' := 10) hx hb (hts (.arrayClass .int) (by decide +kernel)) rfl hK hP hD hS hA (na_I 10) (by decide) (by decide) (by decide) (Nat.le_of_ble_eq_true rfl) (Nat.le_of_ble_eq_true rfl) dX6_init_56 (fun q127 k128 H hK hP hD hS => ?_)
  have hK : va_K (dC, dI) vwCl [(k128, .int)] s := hK
  have hP : va_P (dC, dI) vwCl [(Ad0, .inr (9, s126)), (q127, .inl (k128, 10, .inl ((fun _ : Nat => (0 : Int32)))))] H := hP
  have hD : va_D A [(Ad0, .inr (9, s126)), (q127, .inl (k128, 10, .inl ((fun _ : Nat => (0 : Int32)))))] := hD
  have z130 : ∀ j, (fun _ : Nat => (0 : Int32)) j = 0 := fun _ => rfl
  generalize (fun _ : Nat => (0 : Int32)) = f129 at hP hD z130
  refine W.widen (k := 6) (n := 2020) (by omega) (by omega) ?_
  refine va_putF (D := (dC, dI)) (ci := 9) (v := .ref q127) (ty := .array .int) (C := RX6) (T := TX6) (N := 19) hx hb hts (in_z_X6_init_X6) tyX6 tyX6_ok nmX6 hown hK hP hD hS 0 rfl rfl 15 (by decide) (hts (.fieldLink RX6 32 "HeapWorks$Program" "scopeFrame" "[I") (by decide +kernel)) (fun _ h9 => h9) rfl hin rfl (by decide +kernel) rfl rfl (by rw [o_s126.2.1]; decide) dX6_init_58 (fun H locs hP hD hS => ?_)
  have hP : va_P (dC, dI) vwCl [(Ad0, .inr (9, (s126.set 15 (.ref q127)))), (q127, .inl (k128, 10, .inl f129))] H := hP
  have hD : va_D A [(Ad0, .inr (9, (s126.set 15 (.ref q127)))), (q127, .inl (k128, 10, .inl f129))] := hD
  have o_s131 := ow_set o_s126 15 (.ref q127) (by decide) (l' := [(15, .ref q127), (14, .ref q122), (4, .ref q117), (3, .ref q112), (2, .ref q107), (1, .ref q102), (0, .ref Br0)]) (w' := [15, 14, 4, 3, 2, 1, 0]) rfl rfl
  generalize (s126.set 15 (.ref q127)) = s131 at hP hD o_s131
  have hP := hP.sub (ws' := [(Ad0, .inr (9, s131))]) [0] rfl
  have hD := hD.sub (ws' := [(Ad0, .inr (9, s131))]) [0] (by decide) rfl
  have hK := hK.sub (tys' := []) [] rfl
  refine lv_aload_n hx hb dX6_init_61 rfl (lv_at hl 0 rfl) ?_
  refine lv_bipush (v := 120) hx hb dX6_init_62 (by decide) ?_
  refine va_newa (atype := .int) (ty := .int) (a0 := (120, .inl (fun _ : Nat => (0 : Int32)))) (N' := 120) hx hb (hts (.arrayClass .int) (by decide +kernel)) rfl hK hP hD hS hA (na_I 120) (by decide) (by decide) (by decide) (Nat.le_of_ble_eq_true rfl) (Nat.le_of_ble_eq_true rfl) dX6_init_64 (fun q132 k133 H hK hP hD hS => ?_)
  have hK : va_K (dC, dI) vwCl [(k133, .int)] s := hK
  have hP : va_P (dC, dI) vwCl [(Ad0, .inr (9, s131)), (q132, .inl (k133, 120, .inl ((fun _ : Nat => (0 : Int32)))))] H := hP
  have hD : va_D A [(Ad0, .inr (9, s131)), (q132, .inl (k133, 120, .inl ((fun _ : Nat => (0 : Int32)))))] := hD
  have z135 : ∀ j, (fun _ : Nat => (0 : Int32)) j = 0 := fun _ => rfl
  generalize (fun _ : Nat => (0 : Int32)) = f134 at hP hD z135
  refine W.widen (k := 7) (n := 2140) (by omega) (by omega) ?_
  refine va_putF (D := (dC, dI)) (ci := 9) (v := .ref q132) (ty := .array .int) (C := RX6) (T := TX6) (N := 19) hx hb hts (in_z_X6_init_X6) tyX6 tyX6_ok nmX6 hown hK hP hD hS 0 rfl rfl 17 (by decide) (hts (.fieldLink RX6 35 "HeapWorks$Program" "waiting" "[I") (by decide +kernel)) (fun _ h9 => h9) rfl hin rfl (by decide +kernel) rfl rfl (by rw [o_s131.2.1]; decide) dX6_init_66 (fun H locs hP hD hS => ?_)
  have hP : va_P (dC, dI) vwCl [(Ad0, .inr (9, (s131.set 17 (.ref q132)))), (q132, .inl (k133, 120, .inl f134))] H := hP
  have hD : va_D A [(Ad0, .inr (9, (s131.set 17 (.ref q132)))), (q132, .inl (k133, 120, .inl f134))] := hD
  have o_s136 := ow_set o_s131 17 (.ref q132) (by decide) (l' := [(17, .ref q132), (15, .ref q127), (14, .ref q122), (4, .ref q117), (3, .ref q112), (2, .ref q107), (1, .ref q102), (0, .ref Br0)]) (w' := [17, 15, 14, 4, 3, 2, 1, 0]) rfl rfl
  generalize (s131.set 17 (.ref q132)) = s136 at hP hD o_s136
  have hP := hP.sub (ws' := [(Ad0, .inr (9, s136))]) [0] rfl
  have hD := hD.sub (ws' := [(Ad0, .inr (9, s136))]) [0] (by decide) rfl
  have hK := hK.sub (tys' := []) [] rfl
  have hP9 := hP.sub (ws' := [(Ad0, .inr (9, s136))]) [0] rfl
  have hD9 := hD.sub (ws' := [(Ad0, .inr (9, s136))]) [0] (by decide) rfl
  have hK9 := hK.sub (tys' := []) [] rfl
  refine W.widen (k := 7) (n := 2140) (by decide) (by decide) ?_
  exact W.vret hx hb hr (fun t ht hW => ⟨⟨s136, rfl, (ow_sub o_s136 [7] rfl), by rw [ht]; exact hP9, va_K.moved hW.alike hK9, hD9⟩, hS.F ht⟩) hS.2.2 dX6_init_69

