def l_z_X12_isDigit : List Cond := []
def w_z_X12_isDigit : List Cond := .code yX12_isDigit cX12_isDigit 1 (some .boolean) :: (l_z_X12_isDigit)
set_option maxHeartbeats 4000000 in
set_option maxRecDepth 100000 in
theorem z_X12_isDigit (l : Launch) (dC : Nat → ClassId) (dI : Nat → Nat → Nat) (sz : Nat) (Va0 : Int32)   : Met l yX12_isDigit w_z_X12_isDigit ({ frames := 0, cells := 0, slots := 0, locals := 0 }) (va_Pc [.int Va0] (fun U => U.heap.size = sz ∧ Wd dC dI [] (fun _ => True) [] U)) (va_Qi (fun (r : Int32) (u : Unit) => (Va0 < 48 ∧ r = 0) ∨ (¬ Va0 < 48 ∧ 57 < Va0 ∧ r = 0) ∨ (¬ Va0 < 48 ∧ ¬ 57 < Va0 ∧ r = 1)) (fun (u : Unit) t => Wd dC dI [] (va_A [] sz) [] t) (va_A [] sz))  0 0 (va_A [] sz) := by
  refine Met.ofW (cc := cX12_isDigit) (maxL := 1) (ret := (some .boolean)) (by decide) rfl ?_
  intro p e s m args below meth c s₁ B hml hv
  obtain ⟨rfl, hsz, hP, hK, hD0⟩ := hv
  have hx := B.exec
  have hb := B.bytes
  have hr := B.returns
  have hts := atoms_spec (ws := w_z_X12_isDigit) B.pre
  have hown : s.vm.findClass RX12 = some m.cls := findClass_of_methodNamed B.named
  have hlocks := B.notSynchronized
  subst hsz
  have hD := hD0.self (sz := s.heap.size)
  generalize hAe : va_A [] s.heap.size = A at hD ⊢
  have hA : ∀ q : Nat, s.heap.size ≤ q → A q := fun q h => by rw [← hAe]; exact Or.inr h
  have hS : va_S A s.heap s.heap [] := va_S.rf
  have hl := lv_entry ([.int Va0]) (n := 1) (Nat.le_of_ble_eq_true rfl)
  rw [lg_entry_eq]
  generalize (lg_sl ([.int Va0]) ++ List.replicate (1 - (lg_sl ([.int Va0])).length) Slot.unset).toArray = ls at hl ⊢
  have hl : lv_has ls 1 [(0, .int Va0)] := hl
  refine lv_iload_n hx hb dX12_isDigit_0 rfl (lv_at hl 0 rfl) ?_
  refine lv_bipush (v := 48) hx hb dX12_isDigit_1 (by decide) ?_
  refine lv_icmp_lt (tgt := 16) hx hb dX12_isDigit_3 (by decide) (fun c101 => ?_) (fun c101 => ?_)
  · skip
    refine lv_iconst (v := 0) hx hb dX12_isDigit_16 (by decide) ?_
    have hP9 := hP.sub (ws' := []) [] rfl
    have hD9 := hD.sub (ws' := []) [] (by decide) rfl
    have hK9 := hK.sub (tys' := []) [] rfl
    exact W.zret (v := 0) hx hb hr rfl (fun t ht hW => ⟨⟨0, (), rfl, (Or.inl ⟨c101, rfl⟩), by rw [ht]; exact hP9, va_K.moved hW.alike hK9, hD9⟩, hS.F ht⟩) hS.2.2 dX12_isDigit_17
  · skip
    refine lv_iload_n hx hb dX12_isDigit_6 rfl (lv_at hl 0 rfl) ?_
    refine lv_bipush (v := 57) hx hb dX12_isDigit_7 (by decide) ?_
    refine lv_icmp_gt (tgt := 16) hx hb dX12_isDigit_9 (by decide) (fun c102 => ?_) (fun c102 => ?_)
    · skip
      refine lv_iconst (v := 0) hx hb dX12_isDigit_16 (by decide) ?_
      have hP9 := hP.sub (ws' := []) [] rfl
      have hD9 := hD.sub (ws' := []) [] (by decide) rfl
      have hK9 := hK.sub (tys' := []) [] rfl
      exact W.zret (v := 0) hx hb hr rfl (fun t ht hW => ⟨⟨0, (), rfl, (Or.inr (Or.inl ⟨c101, c102, rfl⟩)), by rw [ht]; exact hP9, va_K.moved hW.alike hK9, hD9⟩, hS.F ht⟩) hS.2.2 dX12_isDigit_17
    · skip
      refine lv_iconst (v := 1) hx hb dX12_isDigit_12 (by decide) ?_
      refine lv_goto (tgt := 17) hx hb dX12_isDigit_13 (by decide) ?_
      have hP9 := hP.sub (ws' := []) [] rfl
      have hD9 := hD.sub (ws' := []) [] (by decide) rfl
      have hK9 := hK.sub (tys' := []) [] rfl
      exact W.zret (v := 1) hx hb hr rfl (fun t ht hW => ⟨⟨1, (), rfl, (Or.inr (Or.inr (⟨c101, c102, rfl⟩))), by rw [ht]; exact hP9, va_K.moved hW.alike hK9, hD9⟩, hS.F ht⟩) hS.2.2 dX12_isDigit_17

def l_z_X12_code : List Cond := [.methodLink RX12 394 yX12_isDigit, .static yX12_isDigit, .initialized RX12, .code yX12_isDigit cX12_isDigit 1 (some .boolean)]
def w_z_X12_code : List Cond := .code yX12_code cX12_code 1 (some .int) :: (l_z_X12_code)
theorem g_z_X12_code_z_X12_isDigit_394 : GoodIn w_z_X12_code (wsS RX12 394 yX12_isDigit w_z_X12_isDigit) := goodIn_app (goodIn_r (([.methodLink RX12 394 yX12_isDigit, .static yX12_isDigit, .initialized RX12] : List Cond)) [1, 2, 3] rfl (by decide +kernel)) (goodIn_r (.code yX12_isDigit cX12_isDigit 1 (some .boolean) :: l_z_X12_isDigit) [4] rfl (by decide +kernel))
set_option maxHeartbeats 4000000 in
set_option maxRecDepth 100000 in
theorem z_X12_code (l : Launch) (dC : Nat → ClassId) (dI : Nat → Nat → Nat) (sz : Nat) (Va0 : Int32)   : Met l yX12_code w_z_X12_code ({ frames := 1, cells := 0, slots := 0, locals := 20 }) (va_Pc [.int Va0] (fun U => U.heap.size = sz ∧ Wd dC dI [] (fun _ => True) [] U)) (va_Qi (fun (r : Int32) (u : Unit) => (Va0 < 48 ∧ ¬ 90 < Va0 ∧ r = ((Va0 - 65) + 11)) ∨ (¬ Va0 < 48 ∧ 57 < Va0 ∧ 90 < Va0 ∧ r = ((Va0 - 97) + 37)) ∨ (¬ Va0 < 48 ∧ 57 < Va0 ∧ ¬ 90 < Va0 ∧ r = ((Va0 - 65) + 11)) ∨ (¬ Va0 < 48 ∧ ¬ 57 < Va0 ∧ r = ((Va0 - 48) + 1))) (fun (u : Unit) t => Wd dC dI [] (va_A [] sz) [] t) (va_A [] sz))  0 0 (va_A [] sz) := by
  refine Met.ofW (cc := cX12_code) (maxL := 1) (ret := (some .int)) (by decide) rfl ?_
  intro p e s m args below meth c s₁ B hml hv
  obtain ⟨rfl, hsz, hP, hK, hD0⟩ := hv
  have hx := B.exec
  have hb := B.bytes
  have hr := B.returns
  have hts := atoms_spec (ws := w_z_X12_code) B.pre
  have hown : s.vm.findClass RX12 = some m.cls := findClass_of_methodNamed B.named
  have hlocks := B.notSynchronized
  subst hsz
  have hD := hD0.self (sz := s.heap.size)
  generalize hAe : va_A [] s.heap.size = A at hD ⊢
  have hA : ∀ q : Nat, s.heap.size ≤ q → A q := fun q h => by rw [← hAe]; exact Or.inr h
  have hS : va_S A s.heap s.heap [] := va_S.rf
  have hl := lv_entry ([.int Va0]) (n := 1) (Nat.le_of_ble_eq_true rfl)
  rw [lg_entry_eq]
  generalize (lg_sl ([.int Va0]) ++ List.replicate (1 - (lg_sl ([.int Va0])).length) Slot.unset).toArray = ls at hl ⊢
  have hl : lv_has ls 1 [(0, .int Va0)] := hl
  refine lv_iload_n hx hb dX12_code_0 rfl (lv_at hl 0 rfl) ?_
  have hPc := hP.sub (ws' := []) [] rfl
  have hDc := hD.sub (ws' := []) [] (by decide) rfl
  have hKc := hK.sub (tys' := []) [] rfl
  have hFc := va_free (wc := []) hD hS hA [] rfl
  refine va_calli (va_runS (As := [.int Va0]) (rest := []) ⟨hx, hb, hml, hown, hts⟩ (z_X12_isDigit l dC dI s.heap.size Va0  ) (cwS 1 hts g_z_X12_code_z_X12_isDigit_394 rfl rfl rfl (by decide +kernel) ⟨Nat.le_of_ble_eq_true rfl, Nat.le_of_ble_eq_true rfl⟩) ⟨fun a U g mk q => by obtain ⟨q0, q1, qP, qK, qD⟩ := q; exact ⟨q0, q1, qP, va_K.moved (u := U) (U := U.calling g mk a) (Vm.Alike.refl U.vm) qK, qD⟩, fun U hU hW => ⟨rfl, by rw [hU], by rw [hU]; exact hPc, va_K.moved hW.alike hKc, hDc.weaken (fun _ _ _ _ => trivial)⟩⟩ rfl rfl hl.1 rfl (lv_room (Nat.le_of_ble_eq_true rfl)) dX12_code_1 ⟨Nat.le_of_ble_eq_true rfl, Nat.le_of_ble_eq_true rfl⟩) hS (fun q _ h => hFc q h) hFc (fun r101 u t H1 locs ht hvm hw hB hz1 hk1 hS => ?_)
  obtain ⟨hP1, hK1, hD1⟩ := hB
  rw [ht] at hP1
  try dsimp only at hw
  obtain ⟨hP, hD⟩ := va_join (wr := []) (w1 := []) hP hD [] [] rfl rfl (by decide) (by decide) hk1 hFc hP1 hD1
  have hK := hK.sub (tys' := []) [] rfl
  generalize H1 = H at hP hS ⊢
  have hP : va_P (dC, dI) vwCl [] H := hP
  have hD : va_D A [] := hD
  rcases hw with ⟨c102, er103⟩ | ⟨c104, c105, er106⟩ | ⟨c107, c108, er109⟩
  · skip
    subst er103
    refine lv_if_eq (tgt := 16) hx hb dX12_code_4 (by decide) (fun c110 => ?_) (fun c110 => absurd c110 (by decide))
    refine lv_iload_n hx hb dX12_code_16 rfl (lv_at hl 0 rfl) ?_
    refine lv_bipush (v := 90) hx hb dX12_code_17 (by decide) ?_
    refine lv_icmp_gt (tgt := 32) hx hb dX12_code_19 (by decide) (fun c111 => (by exfalso; have bd_Va0 := i_bd Va0; (try simp only [i_lt, i_le, i_eq, kc_48, kc_90] at c102 c111); omega)) (fun c111 => ?_)
    refine lv_iload_n hx hb dX12_code_22 rfl (lv_at hl 0 rfl) ?_
    refine lv_bipush (v := 65) hx hb dX12_code_23 (by decide) ?_
    refine lv_isub hx hb dX12_code_25  ?_
    refine lv_topi (fun x112 ex112 => ?_)
    refine lv_bipush (v := 11) hx hb dX12_code_26 (by decide) ?_
    refine lv_iadd hx hb dX12_code_28  ?_
    refine lv_topi (fun x113 ex113 => ?_)
    refine lv_goto (tgt := 39) hx hb dX12_code_29 (by decide) ?_
    have hP9 := hP.sub (ws' := []) [] rfl
    have hD9 := hD.sub (ws' := []) [] (by decide) rfl
    have hK9 := hK.sub (tys' := []) [] rfl
    exact W.iret (v := x113) hx hb hr (fun t ht hW => ⟨⟨x113, (), rfl, (Or.inl ⟨c102, c111, (by subst_vars; rfl)⟩), by rw [ht]; exact hP9, va_K.moved hW.alike hK9, hD9⟩, hS.F ht⟩) hS.2.2 dX12_code_39
  · skip
    subst er106
    refine lv_if_eq (tgt := 16) hx hb dX12_code_4 (by decide) (fun c114 => ?_) (fun c114 => absurd c114 (by decide))
    refine lv_iload_n hx hb dX12_code_16 rfl (lv_at hl 0 rfl) ?_
    refine lv_bipush (v := 90) hx hb dX12_code_17 (by decide) ?_
    refine lv_icmp_gt (tgt := 32) hx hb dX12_code_19 (by decide) (fun c115 => ?_) (fun c115 => ?_)
    · skip
      refine lv_iload_n hx hb dX12_code_32 rfl (lv_at hl 0 rfl) ?_
      refine lv_bipush (v := 97) hx hb dX12_code_33 (by decide) ?_
      refine lv_isub hx hb dX12_code_35  ?_
      refine lv_topi (fun x116 ex116 => ?_)
      have tx116 : x116.toInt = (Va0 : Int32).toInt - (97 : Int32).toInt := by rw [ex116]; exact i_sub (by have bd_Va0 := i_bd Va0; (try simp only [i_lt, i_le, i_eq, kc_48, kc_57, kc_90, kc_97] at c104 c105 c115 ⊢); omega) (by have bd_Va0 := i_bd Va0; (try simp only [i_lt, i_le, i_eq, kc_48, kc_57, kc_90, kc_97] at c104 c105 c115 ⊢); omega)
      refine lv_bipush (v := 37) hx hb dX12_code_36 (by decide) ?_
      refine lv_iadd hx hb dX12_code_38  ?_
      refine lv_topi (fun x117 ex117 => ?_)
      have tx117 : x117.toInt = (x116 : Int32).toInt + (37 : Int32).toInt := by rw [ex117]; exact i_add (by have bd_x116 := i_bd x116; have bd_Va0 := i_bd Va0; (try simp only [i_lt, i_le, i_eq, kc_97, kc_48, kc_57, kc_90, kc_37] at tx116 c104 c105 c115 ⊢); omega) (by have bd_x116 := i_bd x116; have bd_Va0 := i_bd Va0; (try simp only [i_lt, i_le, i_eq, kc_97, kc_48, kc_57, kc_90, kc_37] at tx116 c104 c105 c115 ⊢); omega)
      have hP9 := hP.sub (ws' := []) [] rfl
      have hD9 := hD.sub (ws' := []) [] (by decide) rfl
      have hK9 := hK.sub (tys' := []) [] rfl
      exact W.iret (v := x117) hx hb hr (fun t ht hW => ⟨⟨x117, (), rfl, (Or.inr (Or.inl ⟨c104, c105, c115, (by subst_vars; rfl)⟩)), by rw [ht]; exact hP9, va_K.moved hW.alike hK9, hD9⟩, hS.F ht⟩) hS.2.2 dX12_code_39
    · skip
      refine lv_iload_n hx hb dX12_code_22 rfl (lv_at hl 0 rfl) ?_
      refine lv_bipush (v := 65) hx hb dX12_code_23 (by decide) ?_
      refine lv_isub hx hb dX12_code_25  ?_
      refine lv_topi (fun x118 ex118 => ?_)
      have tx118 : x118.toInt = (Va0 : Int32).toInt - (65 : Int32).toInt := by rw [ex118]; exact i_sub (by have bd_Va0 := i_bd Va0; (try simp only [i_lt, i_le, i_eq, kc_48, kc_57, kc_90, kc_65] at c104 c105 c115 ⊢); omega) (by have bd_Va0 := i_bd Va0; (try simp only [i_lt, i_le, i_eq, kc_48, kc_57, kc_90, kc_65] at c104 c105 c115 ⊢); omega)
      refine lv_bipush (v := 11) hx hb dX12_code_26 (by decide) ?_
      refine lv_iadd hx hb dX12_code_28  ?_
      refine lv_topi (fun x119 ex119 => ?_)
      have tx119 : x119.toInt = (x118 : Int32).toInt + (11 : Int32).toInt := by rw [ex119]; exact i_add (by have bd_x118 := i_bd x118; (try simp only [i_lt, i_le, i_eq, kc_65, kc_48, kc_57, kc_90, kc_11] at tx118 c104 c105 c115 ⊢); omega) (by have bd_x118 := i_bd x118; (try simp only [i_lt, i_le, i_eq, kc_65, kc_48, kc_57, kc_90, kc_11] at tx118 c104 c105 c115 ⊢); omega)
      refine lv_goto (tgt := 39) hx hb dX12_code_29 (by decide) ?_
      have hP9 := hP.sub (ws' := []) [] rfl
      have hD9 := hD.sub (ws' := []) [] (by decide) rfl
      have hK9 := hK.sub (tys' := []) [] rfl
      exact W.iret (v := x119) hx hb hr (fun t ht hW => ⟨⟨x119, (), rfl, (Or.inr (Or.inr (Or.inl ⟨c104, c105, c115, (by subst_vars; rfl)⟩))), by rw [ht]; exact hP9, va_K.moved hW.alike hK9, hD9⟩, hS.F ht⟩) hS.2.2 dX12_code_39
  · skip
    subst er109
    refine lv_if_eq (tgt := 16) hx hb dX12_code_4 (by decide) (fun c120 => absurd c120 (by decide)) (fun c120 => ?_)
    refine lv_iload_n hx hb dX12_code_7 rfl (lv_at hl 0 rfl) ?_
    refine lv_bipush (v := 48) hx hb dX12_code_8 (by decide) ?_
    refine lv_isub hx hb dX12_code_10  ?_
    refine lv_topi (fun x121 ex121 => ?_)
    have tx121 : x121.toInt = (Va0 : Int32).toInt - (48 : Int32).toInt := by rw [ex121]; exact i_sub (by have bd_Va0 := i_bd Va0; (try simp only [i_lt, i_le, i_eq, kc_48, kc_57] at c107 c108 ⊢); omega) (by have bd_Va0 := i_bd Va0; (try simp only [i_lt, i_le, i_eq, kc_48, kc_57] at c107 c108 ⊢); omega)
    refine lv_iconst (v := 1) hx hb dX12_code_11 (by decide) ?_
    refine lv_iadd hx hb dX12_code_12  ?_
    refine lv_topi (fun x122 ex122 => ?_)
    have tx122 : x122.toInt = (x121 : Int32).toInt + (1 : Int32).toInt := by rw [ex122]; exact i_add (by have bd_x121 := i_bd x121; (try simp only [i_lt, i_le, i_eq, kc_48, kc_57, kc_1] at tx121 c107 c108 ⊢); omega) (by have bd_x121 := i_bd x121; (try simp only [i_lt, i_le, i_eq, kc_48, kc_57, kc_1] at tx121 c107 c108 ⊢); omega)
    refine lv_goto (tgt := 39) hx hb dX12_code_13 (by decide) ?_
    have hP9 := hP.sub (ws' := []) [] rfl
    have hD9 := hD.sub (ws' := []) [] (by decide) rfl
    have hK9 := hK.sub (tys' := []) [] rfl
    exact W.iret (v := x122) hx hb hr (fun t ht hW => ⟨⟨x122, (), rfl, (Or.inr (Or.inr (Or.inr (⟨c107, c108, (by subst_vars; rfl)⟩)))), by rw [ht]; exact hP9, va_K.moved hW.alike hK9, hD9⟩, hS.F ht⟩) hS.2.2 dX12_code_39

def l_z_X12_coded : List Cond := [.constantLong RX12 398 (255), .constantLong RX12 400 (63), .methodLink RX12 402 yX12_code, .static yX12_code, .initialized RX12, .code yX12_code cX12_code 1 (some .int), .methodLink RX12 394 yX12_isDigit, .static yX12_isDigit, .code yX12_isDigit cX12_isDigit 1 (some .boolean)]
def w_z_X12_coded : List Cond := .code yX12_coded cX12_coded 6 (some .long) :: (l_z_X12_coded)
theorem g_z_X12_coded_z_X12_code_402 : GoodIn w_z_X12_coded (wsS RX12 402 yX12_code w_z_X12_code) := goodIn_app (goodIn_r (([.methodLink RX12 402 yX12_code, .static yX12_code, .initialized RX12] : List Cond)) [3, 4, 5] rfl (by decide +kernel)) (goodIn_r (.code yX12_code cX12_code 1 (some .int) :: l_z_X12_code) [6, 7, 8, 5, 9] rfl (by decide +kernel))
set_option maxHeartbeats 4000000 in
set_option maxRecDepth 100000 in
theorem z_X12_coded (l : Launch) (dC : Nat → ClassId) (dI : Nat → Nat → Nat) (sz : Nat) (Ja0 : Int64)   : Met l yX12_coded w_z_X12_coded ({ frames := 2, cells := 0, slots := 0, locals := 40 }) (va_Pc [.long Ja0] (fun U => U.heap.size = sz ∧ Wd dC dI [] (fun _ => True) [] U)) (va_Ql (fun (r : Int64) (u : Unit) => True) (fun (u : Unit) t => Wd dC dI [] (va_A [] sz) [] t) (va_A [] sz))  0 0 (va_A [] sz) := by
  refine Met.ofW (cc := cX12_coded) (maxL := 6) (ret := (some .long)) (by decide) rfl ?_
  intro p e s m args below meth c s₁ B hml hv
  obtain ⟨rfl, hsz, hP, hK, hD0⟩ := hv
  have hx := B.exec
  have hb := B.bytes
  have hr := B.returns
  have hts := atoms_spec (ws := w_z_X12_coded) B.pre
  have hown : s.vm.findClass RX12 = some m.cls := findClass_of_methodNamed B.named
  have hlocks := B.notSynchronized
  subst hsz
  have hD := hD0.self (sz := s.heap.size)
  generalize hAe : va_A [] s.heap.size = A at hD ⊢
  have hA : ∀ q : Nat, s.heap.size ≤ q → A q := fun q h => by rw [← hAe]; exact Or.inr h
  have hS : va_S A s.heap s.heap [] := va_S.rf
  have hl := lv_entry ([.long Ja0]) (n := 6) (Nat.le_of_ble_eq_true rfl)
  rw [lg_entry_eq]
  generalize (lg_sl ([.long Ja0]) ++ List.replicate (6 - (lg_sl ([.long Ja0])).length) Slot.unset).toArray = ls at hl ⊢
  have hl : lv_has ls 6 [(0, .long Ja0)] := hl
  refine lv_lconst (v := 0) hx hb dX12_coded_0 (by decide) ?_
  refine lv_lstore_n (lv' := [(2, .long 0), (0, .long Ja0)]) hx hb dX12_coded_1 rfl hl (by decide) rfl (fun ls hl => ?_)
  refine lv_bipush (v := 7) hx hb dX12_coded_2 (by decide) ?_
  refine lv_istore (lv' := [(4, .int 7), (2, .long 0), (0, .long Ja0)]) hx hb dX12_coded_4 hl (by decide) rfl (fun ls hl => ?_)
  have HL1 : ∀ (n j186 : Nat) (x187 : Int32) (y188 : Int64), x187.toInt = (j186 : Int) - 1 → 0 ≤ j186 → j186 ≤ 8 → j186 + 1 ≤ n → ∀ (H : Heap) (locs : List Loc) (ls : Array Slot), va_P (dC, dI) vwCl [] H → va_D A [] → va_S A s.heap H locs → lv_has ls 6 [(4, .int x187), (2, .long y188), (0, .long Ja0)] → W p l e (headSpec w_z_X12_coded ({ frames := 2, cells := 0, slots := 0, locals := 40 })).room s m ([.long Ja0]).toArray below meth c H locs 0 0 (MQ below (va_Ql (fun (r : Int64) (u : Unit) => True) (fun (u : Unit) t => Wd dC dI [] A [] t) A) ([.long Ja0]).toArray s 0 0 A) (F0 m 6 ls []) := by
    intro n
    induction n with
    | zero =>
      intro j186 x187 y188 e189 h191 h192 h193
      exact absurd h193 (by omega)
    | succ n ih =>
      intro j186 x187 y188 e189 h191 h192 h193 H locs ls hP hD hS hl
      have t190 := e189
      refine lv_iload hx hb dX12_coded_6 (lv_at hl 0 rfl) ?_
      refine lv_if_lt (tgt := 53) hx hb dX12_coded_8 (by decide) (fun c194 => ?_) (fun c194 => ?_)
      · skip
        refine lv_lload_n hx hb dX12_coded_53 rfl (lv_at hl 1 rfl) ?_
        have hP9 := hP.sub (ws' := []) [] rfl
        have hD9 := hD.sub (ws' := []) [] (by decide) rfl
        have hK9 := hK.sub (tys' := []) [] rfl
        exact W.lret (v := y188) hx hb hr (fun t ht hW => ⟨⟨y188, (), rfl, trivial, by rw [ht]; exact hP9, va_K.moved hW.alike hK9, hD9⟩, hS.F ht⟩) hS.2.2 dX12_coded_54
      · skip
        refine lv_lload_n hx hb dX12_coded_11 rfl (lv_at hl 2 rfl) ?_
        refine lv_bipush (v := 8) hx hb dX12_coded_12 (by decide) ?_
        refine lv_iload hx hb dX12_coded_14 (lv_at hl 0 rfl) ?_
        refine lv_imul hx hb dX12_coded_16  ?_
        refine lv_topi (fun x195 ex195 => ?_)
        refine lv_lshr hx hb dX12_coded_17 rfl ?_
        refine lv_topl (fun x196 ex196 => ?_)
        refine lv_ldc2 (v := 255) hx hb hown (hts (.constantLong RX12 398 (255)) (by decide +kernel)) dX12_coded_18 ?_
        refine lv_land hx hb dX12_coded_21  ?_
        refine lv_topl (fun x197 ex197 => ?_)
        refine lv_l2i hx hb dX12_coded_22 rfl ?_
        refine lv_topi (fun x198 ex198 => ?_)
        refine lv_istore (lv' := [(5, .int x198), (4, .int x187), (2, .long y188), (0, .long Ja0)]) hx hb dX12_coded_23 hl (by decide) rfl (fun ls hl => ?_)
        refine lv_iload hx hb dX12_coded_25 (lv_at hl 0 rfl) ?_
        refine lv_if_ne (tgt := 34) hx hb dX12_coded_27 (by decide) (fun c199 => ?_) (fun c199 => ?_)
        · skip
          refine lv_ldc2 (v := 63) hx hb hown (hts (.constantLong RX12 400 (63)) (by decide +kernel)) dX12_coded_34 ?_
          refine lv_lload_n hx hb dX12_coded_37 rfl (lv_at hl 2 rfl) ?_
          refine lv_lmul hx hb dX12_coded_38  ?_
          refine lv_topl (fun x200 ex200 => ?_)
          refine lv_iload hx hb dX12_coded_39 (lv_at hl 0 rfl) ?_
          have hPc := hP.sub (ws' := []) [] rfl
          have hDc := hD.sub (ws' := []) [] (by decide) rfl
          have hKc := hK.sub (tys' := []) [] rfl
          have hFc := va_free (wc := []) hD hS hA [] rfl
          refine va_calli (va_runS (As := [.int x198]) (rest := [.long x200]) ⟨hx, hb, hml, hown, hts⟩ (z_X12_code l dC dI H.size x198  ) (cwS 1 hts g_z_X12_coded_z_X12_code_402 rfl rfl rfl (by decide +kernel) ⟨Nat.le_of_ble_eq_true rfl, Nat.le_of_ble_eq_true rfl⟩) ⟨fun a U g mk q => by obtain ⟨q0, q1, qP, qK, qD⟩ := q; exact ⟨q0, q1, qP, va_K.moved (u := U) (U := U.calling g mk a) (Vm.Alike.refl U.vm) qK, qD⟩, fun U hU hW => ⟨rfl, by rw [hU], by rw [hU]; exact hPc, va_K.moved hW.alike hKc, hDc.weaken (fun _ _ _ _ => trivial)⟩⟩ rfl rfl hl.1 rfl (lv_room (Nat.le_of_ble_eq_true rfl)) dX12_coded_41 ⟨Nat.le_of_ble_eq_true rfl, Nat.le_of_ble_eq_true rfl⟩) hS (fun q _ h => hFc q h) hFc (fun r201 u t H1 locs ht hvm hw hB hz1 hk1 hS => ?_)
          obtain ⟨hP1, hK1, hD1⟩ := hB
          rw [ht] at hP1
          try dsimp only at hw
          obtain ⟨hP, hD⟩ := va_join (wr := []) (w1 := []) hP hD [] [] rfl rfl (by decide) (by decide) hk1 hFc hP1 hD1
          have hK := hK.sub (tys' := []) [] rfl
          generalize H1 = H at hP hS ⊢
          have hP : va_P (dC, dI) vwCl [] H := hP
          have hD : va_D A [] := hD
          rcases hw with ⟨c202, c203, er204⟩ | ⟨c205, c206, c207, er208⟩ | ⟨c209, c210, c211, er212⟩ | ⟨c213, c214, er215⟩
          · skip
            have er201 := er204
            refine lv_i2l hx hb dX12_coded_44 rfl ?_
            refine lv_topl (fun x216 ex216 => ?_)
            refine lv_ladd hx hb dX12_coded_45  ?_
            refine lv_topl (fun x217 ex217 => ?_)
            refine lv_lstore_n (lv' := [(2, .long x217), (5, .int x198), (4, .int x187), (0, .long Ja0)]) hx hb dX12_coded_46 rfl hl (by decide) rfl (fun ls hl => ?_)
            obtain ⟨x218, ex218⟩ : ∃ y : Int32, y = x187 + (-1) := ⟨_, rfl⟩
            refine lv_iinc (v := x218) (lv' := [(4, .int x218), (2, .long x217), (5, .int x198), (0, .long Ja0)]) hx hb dX12_coded_47 hl (k := 2) rfl (by rw [ex218]; rfl) (by decide) rfl (fun ls hl => ?_)
            have tx218 : x218.toInt = x187.toInt + ((-1) : Int32).toInt := by rw [ex218]; exact i_add (by have bd_x187 := i_bd x187; (try simp only [i_lt, i_le, i_eq, kc_0, kc_m1] at t190 h192 h191 c194 ⊢); omega) (by have bd_x187 := i_bd x187; (try simp only [i_lt, i_le, i_eq, kc_0, kc_m1] at t190 h192 h191 c194 ⊢); omega)
            refine lv_goto (tgt := 6) hx hb dX12_coded_50 (by decide) ?_
            exact ih (j186 - 1) x218 x217 (by rw [ex218, i_add (by rw [kc_m1]; (try simp only [i_lt, i_le, i_eq, kc_0, kc_m1] at t190 h192 h191 c194 tx218); omega) (by rw [kc_m1]; (try simp only [i_lt, i_le, i_eq, kc_0, kc_m1] at t190 h192 h191 c194 tx218); omega), kc_m1]; (try simp only [i_lt, i_le, i_eq, kc_0, kc_m1] at t190 h192 h191 c194 tx218); omega) (by omega) (by (try simp only [i_lt, i_le, i_eq, kc_0, kc_m1] at t190 h192 h191 c194 tx218); omega) (by (try simp only [i_lt, i_le, i_eq, kc_0, kc_m1] at t190 h192 h191 c194 tx218); omega) _ _ _ (hP.sub [] rfl) (hD.sub [] (by decide) rfl) hS  (lv_sub hl [0, 1, 3] rfl)
          · skip
            have er201 := er208
            refine lv_i2l hx hb dX12_coded_44 rfl ?_
            refine lv_topl (fun x219 ex219 => ?_)
            refine lv_ladd hx hb dX12_coded_45  ?_
            refine lv_topl (fun x220 ex220 => ?_)
            refine lv_lstore_n (lv' := [(2, .long x220), (5, .int x198), (4, .int x187), (0, .long Ja0)]) hx hb dX12_coded_46 rfl hl (by decide) rfl (fun ls hl => ?_)
            obtain ⟨x221, ex221⟩ : ∃ y : Int32, y = x187 + (-1) := ⟨_, rfl⟩
            refine lv_iinc (v := x221) (lv' := [(4, .int x221), (2, .long x220), (5, .int x198), (0, .long Ja0)]) hx hb dX12_coded_47 hl (k := 2) rfl (by rw [ex221]; rfl) (by decide) rfl (fun ls hl => ?_)
            have tx221 : x221.toInt = x187.toInt + ((-1) : Int32).toInt := by rw [ex221]; exact i_add (by have bd_x187 := i_bd x187; (try simp only [i_lt, i_le, i_eq, kc_0, kc_m1] at t190 h192 h191 c194 ⊢); omega) (by have bd_x187 := i_bd x187; (try simp only [i_lt, i_le, i_eq, kc_0, kc_m1] at t190 h192 h191 c194 ⊢); omega)
            refine lv_goto (tgt := 6) hx hb dX12_coded_50 (by decide) ?_
            exact ih (j186 - 1) x221 x220 (by rw [ex221, i_add (by rw [kc_m1]; (try simp only [i_lt, i_le, i_eq, kc_0, kc_m1] at t190 h192 h191 c194 tx221); omega) (by rw [kc_m1]; (try simp only [i_lt, i_le, i_eq, kc_0, kc_m1] at t190 h192 h191 c194 tx221); omega), kc_m1]; (try simp only [i_lt, i_le, i_eq, kc_0, kc_m1] at t190 h192 h191 c194 tx221); omega) (by omega) (by (try simp only [i_lt, i_le, i_eq, kc_0, kc_m1] at t190 h192 h191 c194 tx221); omega) (by (try simp only [i_lt, i_le, i_eq, kc_0, kc_m1] at t190 h192 h191 c194 tx221); omega) _ _ _ (hP.sub [] rfl) (hD.sub [] (by decide) rfl) hS  (lv_sub hl [0, 1, 3] rfl)
          · skip
            have er201 := er212
            refine lv_i2l hx hb dX12_coded_44 rfl ?_
            refine lv_topl (fun x222 ex222 => ?_)
            refine lv_ladd hx hb dX12_coded_45  ?_
            refine lv_topl (fun x223 ex223 => ?_)
            refine lv_lstore_n (lv' := [(2, .long x223), (5, .int x198), (4, .int x187), (0, .long Ja0)]) hx hb dX12_coded_46 rfl hl (by decide) rfl (fun ls hl => ?_)
            obtain ⟨x224, ex224⟩ : ∃ y : Int32, y = x187 + (-1) := ⟨_, rfl⟩
            refine lv_iinc (v := x224) (lv' := [(4, .int x224), (2, .long x223), (5, .int x198), (0, .long Ja0)]) hx hb dX12_coded_47 hl (k := 2) rfl (by rw [ex224]; rfl) (by decide) rfl (fun ls hl => ?_)
            have tx224 : x224.toInt = x187.toInt + ((-1) : Int32).toInt := by rw [ex224]; exact i_add (by have bd_x187 := i_bd x187; (try simp only [i_lt, i_le, i_eq, kc_0, kc_m1] at t190 h192 h191 c194 ⊢); omega) (by have bd_x187 := i_bd x187; (try simp only [i_lt, i_le, i_eq, kc_0, kc_m1] at t190 h192 h191 c194 ⊢); omega)
            refine lv_goto (tgt := 6) hx hb dX12_coded_50 (by decide) ?_
            exact ih (j186 - 1) x224 x223 (by rw [ex224, i_add (by rw [kc_m1]; (try simp only [i_lt, i_le, i_eq, kc_0, kc_m1] at t190 h192 h191 c194 tx224); omega) (by rw [kc_m1]; (try simp only [i_lt, i_le, i_eq, kc_0, kc_m1] at t190 h192 h191 c194 tx224); omega), kc_m1]; (try simp only [i_lt, i_le, i_eq, kc_0, kc_m1] at t190 h192 h191 c194 tx224); omega) (by omega) (by (try simp only [i_lt, i_le, i_eq, kc_0, kc_m1] at t190 h192 h191 c194 tx224); omega) (by (try simp only [i_lt, i_le, i_eq, kc_0, kc_m1] at t190 h192 h191 c194 tx224); omega) _ _ _ (hP.sub [] rfl) (hD.sub [] (by decide) rfl) hS  (lv_sub hl [0, 1, 3] rfl)
          · skip
            have er201 := er215
            refine lv_i2l hx hb dX12_coded_44 rfl ?_
            refine lv_topl (fun x225 ex225 => ?_)
            refine lv_ladd hx hb dX12_coded_45  ?_
            refine lv_topl (fun x226 ex226 => ?_)
            refine lv_lstore_n (lv' := [(2, .long x226), (5, .int x198), (4, .int x187), (0, .long Ja0)]) hx hb dX12_coded_46 rfl hl (by decide) rfl (fun ls hl => ?_)
            obtain ⟨x227, ex227⟩ : ∃ y : Int32, y = x187 + (-1) := ⟨_, rfl⟩
            refine lv_iinc (v := x227) (lv' := [(4, .int x227), (2, .long x226), (5, .int x198), (0, .long Ja0)]) hx hb dX12_coded_47 hl (k := 2) rfl (by rw [ex227]; rfl) (by decide) rfl (fun ls hl => ?_)
            have tx227 : x227.toInt = x187.toInt + ((-1) : Int32).toInt := by rw [ex227]; exact i_add (by have bd_x187 := i_bd x187; (try simp only [i_lt, i_le, i_eq, kc_0, kc_m1] at t190 h192 h191 c194 ⊢); omega) (by have bd_x187 := i_bd x187; (try simp only [i_lt, i_le, i_eq, kc_0, kc_m1] at t190 h192 h191 c194 ⊢); omega)
            refine lv_goto (tgt := 6) hx hb dX12_coded_50 (by decide) ?_
            exact ih (j186 - 1) x227 x226 (by rw [ex227, i_add (by rw [kc_m1]; (try simp only [i_lt, i_le, i_eq, kc_0, kc_m1] at t190 h192 h191 c194 tx227); omega) (by rw [kc_m1]; (try simp only [i_lt, i_le, i_eq, kc_0, kc_m1] at t190 h192 h191 c194 tx227); omega), kc_m1]; (try simp only [i_lt, i_le, i_eq, kc_0, kc_m1] at t190 h192 h191 c194 tx227); omega) (by omega) (by (try simp only [i_lt, i_le, i_eq, kc_0, kc_m1] at t190 h192 h191 c194 tx227); omega) (by (try simp only [i_lt, i_le, i_eq, kc_0, kc_m1] at t190 h192 h191 c194 tx227); omega) _ _ _ (hP.sub [] rfl) (hD.sub [] (by decide) rfl) hS  (lv_sub hl [0, 1, 3] rfl)
        · skip
          refine lv_lload_n hx hb dX12_coded_30 rfl (lv_at hl 2 rfl) ?_
          refine lv_goto (tgt := 46) hx hb dX12_coded_31 (by decide) ?_
          refine lv_lstore_n (lv' := [(2, .long y188), (5, .int x198), (4, .int x187), (0, .long Ja0)]) hx hb dX12_coded_46 rfl hl (by decide) rfl (fun ls hl => ?_)
          obtain ⟨x228, ex228⟩ : ∃ y : Int32, y = x187 + (-1) := ⟨_, rfl⟩
          refine lv_iinc (v := x228) (lv' := [(4, .int x228), (2, .long y188), (5, .int x198), (0, .long Ja0)]) hx hb dX12_coded_47 hl (k := 2) rfl (by rw [ex228]; rfl) (by decide) rfl (fun ls hl => ?_)
          have tx228 : x228.toInt = x187.toInt + ((-1) : Int32).toInt := by rw [ex228]; exact i_add (by have bd_x187 := i_bd x187; (try simp only [i_lt, i_le, i_eq, kc_0, kc_m1] at t190 h192 h191 c194 ⊢); omega) (by have bd_x187 := i_bd x187; (try simp only [i_lt, i_le, i_eq, kc_0, kc_m1] at t190 h192 h191 c194 ⊢); omega)
          refine lv_goto (tgt := 6) hx hb dX12_coded_50 (by decide) ?_
          exact ih (j186 - 1) x228 y188 (by rw [ex228, i_add (by rw [kc_m1]; (try simp only [i_lt, i_le, i_eq, kc_0, kc_m1] at t190 h192 h191 c194 tx228); omega) (by rw [kc_m1]; (try simp only [i_lt, i_le, i_eq, kc_0, kc_m1] at t190 h192 h191 c194 tx228); omega), kc_m1]; (try simp only [i_lt, i_le, i_eq, kc_0, kc_m1] at t190 h192 h191 c194 tx228); omega) (by omega) (by (try simp only [i_lt, i_le, i_eq, kc_0, kc_m1] at t190 h192 h191 c194 tx228); omega) (by (try simp only [i_lt, i_le, i_eq, kc_0, kc_m1] at t190 h192 h191 c194 tx228); omega) _ _ _ (hP.sub [] rfl) (hD.sub [] (by decide) rfl) hS  (lv_sub hl [0, 1, 3] rfl)
  exact HL1 9 8 (7) (0) (by decide) (by omega) (by omega) (by omega)  _ _ _ hP hD hS  hl

