def l_z_X11_rules : List Cond := [.methodLink RX11 353 yX11_needPicture, .static yX11_needPicture, .initialized RX11, .fieldLink RX11 41 "HeapWorks" "pictures" "[LHeapWorks$Picture;", .fieldLink RX11 356 "HeapWorks$Picture" "things" "I", .fieldLink RX11 77 "HeapWorks" "ruleText" "LHeapWorks$RuleText;", .methodLink RX11 481 yX7_readAll, .instanceMethod yX7_readAll, .selects RX7 yX7_readAll yX7_readAll, .initialized RX7, .fieldLink RX11 484 "HeapWorks$RuleText" "fault" "I", .fieldLink RX11 485 "HeapWorks$RuleText" "place" "I", .methodLink RX11 339 yX11_tellFault, .instanceMethod yX11_tellFault, .selects RX11 yX11_tellFault yX11_tellFault, .fieldLink RX11 84 "HeapWorks" "factBook" "LHeapWorks$FactBook;", .methodLink RX11 486 yX1_workOut, .instanceMethod yX1_workOut, .selects RX1 yX1_workOut yX1_workOut, .initialized RX1, .fieldLink RX11 490 "HeapWorks$RuleText" "relations" "I", .code yX11_needPicture cX11_needPicture 1 none, .methodLink RX11 411 yX11_isPicture, .static yX11_isPicture, .classLink RX11 120 "java/lang/IndexOutOfBoundsException", .initialized "java/lang/IndexOutOfBoundsException", .code yX11_isPicture cX11_isPicture 1 (some .boolean), .code yX7_readAll cX7_readAll 2 (some .boolean), .fieldLink RX7 70 "HeapWorks$RuleText" "rules" "I", .fieldLink RX7 74 "HeapWorks$RuleText" "relations" "I", .fieldLink RX7 77 "HeapWorks$RuleText" "fault" "I", .fieldLink RX7 80 "HeapWorks$RuleText" "place" "I", .fieldLink RX7 9 "HeapWorks$RuleText" "tape" "LHeapWorks$Tape;", .methodLink RX7 83 yX9_startWords, .instanceMethod yX9_startWords, .selects RX9 yX9_startWords yX9_startWords, .initialized RX9, .fieldLink RX7 86 "HeapWorks$Tape" "word" "I", .code yX9_startWords cX9_startWords 2 none, .fieldLink RX9 69 "HeapWorks$Tape" "at" "I", .methodLink RX9 72 yX9_scanWord, .instanceMethod yX9_scanWord, .selects RX9 yX9_scanWord yX9_scanWord, .fieldLink RX9 18 "HeapWorks$Tape" "words" "[I", .fieldLink RX9 75 "HeapWorks$Tape" "word" "I", .fieldLink RX9 21 "HeapWorks$Tape" "places" "[I", .fieldLink RX9 78 "HeapWorks$Tape" "place" "I", .fieldLink RX9 24 "HeapWorks$Tape" "codes" "[J", .fieldLink RX9 81 "HeapWorks$Tape" "code" "J", .fieldLink RX9 85 "HeapWorks$Tape" "next" "I", .methodLink RX9 88 yX9_nextWord, .instanceMethod yX9_nextWord, .selects RX9 yX9_nextWord yX9_nextWord, .code yX9_scanWord cX9_scanWord 1 none, .fieldLink RX9 49 "HeapWorks$Tape" "size" "I", .code yX9_nextWord cX9_nextWord 1 none, .code yX11_tellFault cX11_tellFault 3 none, .fieldLink RX11 469 "HeapWorks" "faultCode" "I", .fieldLink RX11 98 "HeapWorks" "faultPlace" "I", .code yX1_workOut cX1_workOut 5 none, .fieldLink RX1 34 "HeapWorks$FactBook" "text" "LHeapWorks$RuleText;", .fieldLink RX1 38 "HeapWorks$Picture" "things" "I", .methodLink RX1 44 Lib.Math.min.name, .static Lib.Math.min.name, .initialized "java/lang/Math", .code Lib.Math.min.name Lib.Math.min.code 2 (some .int), .fieldLink RX1 50 "HeapWorks$FactBook" "things" "I", .fieldLink RX1 51 "HeapWorks$FactBook" "full" "J", .fieldLink RX1 15 "HeapWorks$FactBook" "row" "[J", .methodLink RX1 55 yJ7_fill_d0a16, .static yJ7_fill_d0a16, .initialized RJ7, .fieldLink RX1 19 "HeapWorks$FactBook" "column" "[J", .fieldLink RX1 22 "HeapWorks$FactBook" "diagonal" "[J", .methodLink RX1 61 yX1_addGiven, .instanceMethod yX1_addGiven, .selects RX1 yX1_addGiven yX1_addGiven, .methodLink RX1 65 yX1_findClasses, .instanceMethod yX1_findClasses, .selects RX1 yX1_findClasses yX1_findClasses, .fieldLink RX1 68 "HeapWorks$FactBook" "changed" "Z", .constant RX1 72 (1000000), .fieldLink RX1 73 "HeapWorks$RuleText" "rules" "I", .code yJ7_fill_d0a16 cJ7_fill_d0a16 5 none, .code yX1_addGiven cX1_addGiven 4 none, .code yX1_findClasses cX1_findClasses 6 none]
def w_z_X11_rules : List Cond := .code yX11_rules cX11_rules 5 (some .int) :: (l_z_X11_rules ++ ((wsX110 ++ (wsX50 ++ (wsX70 ++ (((vx_at0 RX11 122 "java/lang/IndexOutOfBoundsException" ["java/lang/RuntimeException", "java/lang/Exception"]).filter goodWord) ++ (wsX90 ++ wsX10)))))))
theorem in_z_X11_rules_X11 : ∀ w ∈ wsX110, w ∈ w_z_X11_rules := fun w h => List.mem_cons_of_mem _ (List.mem_append_right _ (List.mem_append_left _ h))
theorem in_z_X11_rules_X5 : ∀ w ∈ wsX50, w ∈ w_z_X11_rules := fun w h => List.mem_cons_of_mem _ (List.mem_append_right _ (List.mem_append_right _ (List.mem_append_left _ h)))
theorem in_z_X11_rules_X7 : ∀ w ∈ wsX70, w ∈ w_z_X11_rules := fun w h => List.mem_cons_of_mem _ (List.mem_append_right _ (List.mem_append_right _ (List.mem_append_right _ (List.mem_append_left _ h))))
theorem in_z_X11_rules_at0_X11_122 : ∀ w ∈ ((vx_at0 RX11 122 "java/lang/IndexOutOfBoundsException" ["java/lang/RuntimeException", "java/lang/Exception"]).filter goodWord), w ∈ w_z_X11_rules := fun w h => List.mem_cons_of_mem _ (List.mem_append_right _ (List.mem_append_right _ (List.mem_append_right _ (List.mem_append_right _ (List.mem_append_left _ h)))))
theorem in_z_X11_rules_X9 : ∀ w ∈ wsX90, w ∈ w_z_X11_rules := fun w h => List.mem_cons_of_mem _ (List.mem_append_right _ (List.mem_append_right _ (List.mem_append_right _ (List.mem_append_right _ (List.mem_append_right _ (List.mem_append_left _ h))))))
theorem in_z_X11_rules_X1 : ∀ w ∈ wsX10, w ∈ w_z_X11_rules := fun w h => List.mem_cons_of_mem _ (List.mem_append_right _ (List.mem_append_right _ (List.mem_append_right _ (List.mem_append_right _ (List.mem_append_right _ (List.mem_append_right _ (h)))))))
theorem g_z_X11_rules_z_X11_needPicture_353 : GoodIn w_z_X11_rules (wsS RX11 353 yX11_needPicture w_z_X11_needPicture) := goodIn_app (goodIn_r (([.methodLink RX11 353 yX11_needPicture, .static yX11_needPicture, .initialized RX11] : List Cond)) [1, 2, 3] rfl (by decide +kernel)) (goodIn_ca (goodIn_r (.code yX11_needPicture cX11_needPicture 1 none :: l_z_X11_needPicture) [22, 23, 24, 3, 25, 26, 27] rfl (by decide +kernel)) (goodIn_in (in_z_X11_rules_at0_X11_122) gd_at0_X11_122))
theorem g_z_X11_rules_z_X7_readAll_481 : GoodIn w_z_X11_rules (wsV RX11 481 RX7 yX7_readAll w_z_X7_readAll) := goodIn_app (goodIn_r (([.methodLink RX11 481 yX7_readAll, .instanceMethod yX7_readAll, .selects RX7 yX7_readAll yX7_readAll, .initialized RX7] : List Cond)) [7, 8, 9, 10] rfl (by decide +kernel)) (goodIn_ca (goodIn_r (.code yX7_readAll cX7_readAll 2 (some .boolean) :: l_z_X7_readAll) [28, 29, 30, 31, 32, 33, 34, 35, 36, 37, 38, 39, 40, 41, 42, 43, 44, 45, 46, 47, 48, 49, 50, 51, 52, 53, 54, 55, 56] rfl (by decide +kernel)) (goodIn_app (goodIn_in (in_z_X11_rules_X7) gd_X7) (goodIn_in (in_z_X11_rules_X9) gd_X9)))
theorem g_z_X11_rules_z_X11_tellFault_1_339 : GoodIn w_z_X11_rules (wsV RX11 339 RX11 yX11_tellFault w_z_X11_tellFault_1) := goodIn_app (goodIn_r (([.methodLink RX11 339 yX11_tellFault, .instanceMethod yX11_tellFault, .selects RX11 yX11_tellFault yX11_tellFault, .initialized RX11] : List Cond)) [13, 14, 15, 3] rfl (by decide +kernel)) (goodIn_ca (goodIn_r (.code yX11_tellFault cX11_tellFault 3 none :: l_z_X11_tellFault_1) [57, 58, 59] rfl (by decide +kernel)) (goodIn_in (in_z_X11_rules_X11) gd_X11))
theorem g_z_X11_rules_z_X1_workOut_486 : GoodIn w_z_X11_rules (wsV RX11 486 RX1 yX1_workOut w_z_X1_workOut) := goodIn_app (goodIn_r (([.methodLink RX11 486 yX1_workOut, .instanceMethod yX1_workOut, .selects RX1 yX1_workOut yX1_workOut, .initialized RX1] : List Cond)) [17, 18, 19, 20] rfl (by decide +kernel)) (goodIn_ca (goodIn_r (.code yX1_workOut cX1_workOut 5 none :: l_z_X1_workOut) [60, 61, 62, 63, 64, 65, 66, 67, 68, 69, 70, 71, 72, 73, 74, 75, 76, 77, 20, 78, 79, 80, 81, 82, 83, 84, 85, 86] rfl (by decide +kernel)) (goodIn_app (goodIn_in (in_z_X11_rules_X1) gd_X1) (goodIn_app (goodIn_in (in_z_X11_rules_X5) gd_X5) (goodIn_in (in_z_X11_rules_X7) gd_X7))))
set_option maxHeartbeats 4000000 in
set_option maxRecDepth 100000 in
theorem z_X11_rules (l : Launch) (dC : Nat → ClassId) (dI : Nat → Nat → Nat) (sz : Nat) (Ad0 : Nat) (Fs0 : List Value) (Ad1 : Nat) (Fs1 : List Value) (Ad2 : Nat) (Fa0 : Nat → Int32) (Ka0 : ClassId) (Ad3 : Nat) (Fa1 : Nat → Int32) (Ka1 : ClassId) (Ad4 : Nat) (Fa2 : Nat → Int64) (Ka2 : ClassId) (Ad5 : Nat) (Fa3 : Nat → Option Nat) (Ka3 : ClassId) (Ad6 : Nat) (Fs2 : List Value) (Ad7 : Nat) (Fs3 : List Value) (Ad8 : Nat) (Fs4 : List Value) (Ad9 : Nat) (Fa4 : Nat → Int64) (Ka4 : ClassId) (Ad10 : Nat) (Fa5 : Nat → Int64) (Ka5 : ClassId) (Ad11 : Nat) (Fa6 : Nat → Int64) (Ka6 : ClassId) (Va0 : Int32) (k_Fs0 : fh Fs0 18 [(4, .ref Ad5), (11, .ref Ad7), (12, .ref Ad8)]) (k_Fs1 : fh Fs1 12 [(1, .int 0), (5, .ref Ad2), (6, .ref Ad3), (7, .ref Ad4)]) (k_Fs2 : fh Fs2 21 [(0, .int 0)]) (k_Fs3 : fh Fs3 21 [(0, .ref Ad1), (16, .int 0)]) (k_Fs4 : fh Fs4 10 [(3, .ref Ad9), (4, .ref Ad10), (5, .ref Ad11)]) (hst : l.stackTraces = false) (hg0 : Fa3 Va0.toNatClampNeg = some Ad6) : vx_Met l yX11_rules w_z_X11_rules ({ frames := 8, cells := 1, slots := 6, locals := 160 }) (va_Pc [.ref Ad0, .int Va0] (fun U => U.heap.size = sz ∧ Zz (va_A [(Ad0, .inr (14, Fs0)), (Ad1, .inr (12, Fs1)), (Ad2, .inl (Ka0, 4001, .inl Fa0)), (Ad3, .inl (Ka1, 4001, .inl Fa1)), (Ad4, .inl (Ka2, 4001, .inr (.inl Fa2))), (Ad5, .inl (Ka3, 4, .inr (.inr (.inr (.inr Fa3))))), (Ad6, .inr (8, Fs2)), (Ad7, .inr (10, Fs3)), (Ad8, .inr (4, Fs4)), (Ad9, .inl (Ka4, 360, .inr (.inl Fa4))), (Ad10, .inl (Ka5, 360, .inr (.inl Fa5))), (Ad11, .inl (Ka6, 9, .inr (.inl Fa6)))] sz) U ∧ Wd dC dI [(Ka0, .int), (Ka1, .int), (Ka2, .long), (Ka3, .object "HeapWorks$Picture"), (Ka4, .long), (Ka5, .long), (Ka6, .long)] (fun _ => True) [(Ad0, .inr (14, Fs0)), (Ad1, .inr (12, Fs1)), (Ad2, .inl (Ka0, 4001, .inl Fa0)), (Ad3, .inl (Ka1, 4001, .inl Fa1)), (Ad4, .inl (Ka2, 4001, .inr (.inl Fa2))), (Ad5, .inl (Ka3, 4, .inr (.inr (.inr (.inr Fa3))))), (Ad6, .inr (8, Fs2)), (Ad7, .inr (10, Fs3)), (Ad8, .inr (4, Fs4)), (Ad9, .inl (Ka4, 360, .inr (.inl Fa4))), (Ad10, .inl (Ka5, 360, .inr (.inl Fa5))), (Ad11, .inl (Ka6, 9, .inr (.inl Fa6)))] U)) (va_Qi (fun (r : Int32) (u : List Value × List Value × (Nat → Int32) × (Nat → Int32) × (Nat → Int64) × List Value × List Value × (Nat → Int64) × (Nat → Int64) × (Nat → Int64)) => (¬ Va0 < 0 ∧ ¬ 4 ≤ Va0 ∧ r = 0 ∧ ow Fs0 (u.1) 18 [17, 16] [(17, .int (-1)), (16, .int 0), (4, .ref Ad5), (11, .ref Ad7), (12, .ref Ad8)] ∧ ow Fs1 (u.2.1) 12 [11, 10, 9, 8, 4] [(11, .long 0), (10, .int 0), (9, .int 0), (8, .int 0), (5, .ref Ad2), (6, .ref Ad3), (7, .ref Ad4), (8, .int 0), (4, .int 0), (1, .int 0), (4, .int 0), (1, .int 0), (5, .ref Ad2), (6, .ref Ad3), (7, .ref Ad4), (1, .int 0), (5, .ref Ad2), (6, .ref Ad3), (7, .ref Ad4), (1, .int 0), (5, .ref Ad2), (6, .ref Ad3), (7, .ref Ad4)] ∧ ow Fs3 (u.2.2.2.2.2.1) 21 [20, 19, 16, 3] [(20, .int (-1)), (19, .int 0), (16, .int 0), (3, .int 0), (0, .ref Ad1), (0, .ref Ad1)] ∧ ow Fs4 (u.2.2.2.2.2.2.1) 10 [9, 2, 1, 8] [(9, .int 0), (2, .long 0), (1, .int 0), (8, .ref Ad7), (3, .ref Ad9), (4, .ref Ad10), (5, .ref Ad11), (3, .ref Ad9), (4, .ref Ad10), (5, .ref Ad11)] ∧ (u.2.2.1) (0 : Int32).toNatClampNeg = 0 ∧ (u.2.2.2.1) (0 : Int32).toNatClampNeg = 0 ∧ (u.2.2.2.2.1) (0 : Int32).toNatClampNeg = 0)) (fun (u : List Value × List Value × (Nat → Int32) × (Nat → Int32) × (Nat → Int64) × List Value × List Value × (Nat → Int64) × (Nat → Int64) × (Nat → Int64)) t => Wd dC dI [(Ka0, .int), (Ka1, .int), (Ka2, .long), (Ka3, .object "HeapWorks$Picture"), (Ka4, .long), (Ka5, .long), (Ka6, .long)] (va_A [(Ad0, .inr (14, Fs0)), (Ad1, .inr (12, Fs1)), (Ad2, .inl (Ka0, 4001, .inl Fa0)), (Ad3, .inl (Ka1, 4001, .inl Fa1)), (Ad4, .inl (Ka2, 4001, .inr (.inl Fa2))), (Ad5, .inl (Ka3, 4, .inr (.inr (.inr (.inr Fa3))))), (Ad6, .inr (8, Fs2)), (Ad7, .inr (10, Fs3)), (Ad8, .inr (4, Fs4)), (Ad9, .inl (Ka4, 360, .inr (.inl Fa4))), (Ad10, .inl (Ka5, 360, .inr (.inl Fa5))), (Ad11, .inl (Ka6, 9, .inr (.inl Fa6)))] sz) [(Ad0, .inr (14, (u.1))), (Ad1, .inr (12, (u.2.1))), (Ad2, .inl (Ka0, 4001, .inl ((u.2.2.1)))), (Ad3, .inl (Ka1, 4001, .inl ((u.2.2.2.1)))), (Ad4, .inl (Ka2, 4001, .inr (.inl ((u.2.2.2.2.1))))), (Ad5, .inl (Ka3, 4, .inr (.inr (.inr (.inr Fa3))))), (Ad6, .inr (8, Fs2)), (Ad7, .inr (10, (u.2.2.2.2.2.1))), (Ad8, .inr (4, (u.2.2.2.2.2.2.1))), (Ad9, .inl (Ka4, 360, .inr (.inl ((u.2.2.2.2.2.2.2.1))))), (Ad10, .inl (Ka5, 360, .inr (.inl ((u.2.2.2.2.2.2.2.2.1))))), (Ad11, .inl (Ka6, 9, .inr (.inl ((u.2.2.2.2.2.2.2.2.2)))))] t) (va_A [(Ad0, .inr (14, Fs0)), (Ad1, .inr (12, Fs1)), (Ad2, .inl (Ka0, 4001, .inl Fa0)), (Ad3, .inl (Ka1, 4001, .inl Fa1)), (Ad4, .inl (Ka2, 4001, .inr (.inl Fa2))), (Ad5, .inl (Ka3, 4, .inr (.inr (.inr (.inr Fa3))))), (Ad6, .inr (8, Fs2)), (Ad7, .inr (10, Fs3)), (Ad8, .inr (4, Fs4)), (Ad9, .inl (Ka4, 360, .inr (.inl Fa4))), (Ad10, .inl (Ka5, 360, .inr (.inl Fa5))), (Ad11, .inl (Ka6, 9, .inr (.inl Fa6)))] sz)) (vx_X (fun _ : Unit => True) (fun E _ _ => (E = "java/lang/IndexOutOfBoundsException" ∧ Va0 < 0) ∨ (E = "java/lang/IndexOutOfBoundsException" ∧ ¬ Va0 < 0 ∧ 4 ≤ Va0)) (va_A [(Ad0, .inr (14, Fs0)), (Ad1, .inr (12, Fs1)), (Ad2, .inl (Ka0, 4001, .inl Fa0)), (Ad3, .inl (Ka1, 4001, .inl Fa1)), (Ad4, .inl (Ka2, 4001, .inr (.inl Fa2))), (Ad5, .inl (Ka3, 4, .inr (.inr (.inr (.inr Fa3))))), (Ad6, .inr (8, Fs2)), (Ad7, .inr (10, Fs3)), (Ad8, .inr (4, Fs4)), (Ad9, .inl (Ka4, 360, .inr (.inl Fa4))), (Ad10, .inl (Ka5, 360, .inr (.inl Fa5))), (Ad11, .inl (Ka6, 9, .inr (.inl Fa6)))] sz)) 1 6 (va_A [(Ad0, .inr (14, Fs0)), (Ad1, .inr (12, Fs1)), (Ad2, .inl (Ka0, 4001, .inl Fa0)), (Ad3, .inl (Ka1, 4001, .inl Fa1)), (Ad4, .inl (Ka2, 4001, .inr (.inl Fa2))), (Ad5, .inl (Ka3, 4, .inr (.inr (.inr (.inr Fa3))))), (Ad6, .inr (8, Fs2)), (Ad7, .inr (10, Fs3)), (Ad8, .inr (4, Fs4)), (Ad9, .inl (Ka4, 360, .inr (.inl Fa4))), (Ad10, .inl (Ka5, 360, .inr (.inl Fa5))), (Ad11, .inl (Ka6, 9, .inr (.inl Fa6)))] sz) := by
  refine vx_ofW (cc := cX11_rules) (maxL := 5) (ret := (some .int)) (by decide) rfl ?_
  intro p e s m args below meth c s₁ B hml htab hv
  obtain ⟨rfl, hsz, hZ, hP, hK, hD0⟩ := hv
  have hx := B.exec
  have hb := B.bytes
  have hr := B.returns
  have hts := atoms_spec (ws := w_z_X11_rules) B.pre
  have hown : s.vm.findClass RX11 = some m.cls := findClass_of_methodNamed B.named
  have hlocks := B.notSynchronized
  subst hsz
  have hD := hD0.self (sz := s.heap.size)
  generalize hAe : va_A [(Ad0, .inr (14, Fs0)), (Ad1, .inr (12, Fs1)), (Ad2, .inl (Ka0, 4001, .inl Fa0)), (Ad3, .inl (Ka1, 4001, .inl Fa1)), (Ad4, .inl (Ka2, 4001, .inr (.inl Fa2))), (Ad5, .inl (Ka3, 4, .inr (.inr (.inr (.inr Fa3))))), (Ad6, .inr (8, Fs2)), (Ad7, .inr (10, Fs3)), (Ad8, .inr (4, Fs4)), (Ad9, .inl (Ka4, 360, .inr (.inl Fa4))), (Ad10, .inl (Ka5, 360, .inr (.inl Fa5))), (Ad11, .inl (Ka6, 9, .inr (.inl Fa6)))] s.heap.size = A at hD hZ ⊢
  have hA : ∀ q : Nat, s.heap.size ≤ q → A q := fun q h => by rw [← hAe]; exact Or.inr h
  have hS : va_S A s.heap s.heap [] := va_S.rf
  have hl := lv_entry ([.ref Ad0, .int Va0]) (n := 5) (Nat.le_of_ble_eq_true rfl)
  rw [lg_entry_eq]
  generalize (lg_sl ([.ref Ad0, .int Va0]) ++ List.replicate (5 - (lg_sl ([.ref Ad0, .int Va0])).length) Slot.unset).toArray = ls at hl ⊢
  have hl : lv_has ls 5 [(0, .ref Ad0), (1, .int Va0)] := hl
  have o_Fs0 := ow_0 k_Fs0
  have o_Fs1 := ow_0 k_Fs1
  have o_Fs2 := ow_0 k_Fs2
  have o_Fs3 := ow_0 k_Fs3
  have o_Fs4 := ow_0 k_Fs4
  refine lv_iload_n hx hb dX11_rules_0 rfl (lv_at hl 1 rfl) ?_
  have hPc := hP.sub (ws' := []) [] rfl
  have hDc := hD.sub (ws' := []) [] (by decide) rfl
  have hKc := hK.sub (tys' := []) [] rfl
  have hFc := va_free (wc := []) hD hS hA [] rfl
  refine vx_callv (vx_runS (As := [.int Va0]) (rest := []) ⟨hx, hb, hml, hown, hts⟩ (z_X11_needPicture l dC dI s.heap.size Va0  hst ) (cwS 1 hts g_z_X11_rules_z_X11_needPicture_353 rfl rfl rfl (by decide +kernel) ⟨Nat.le_of_ble_eq_true rfl, Nat.le_of_ble_eq_true rfl⟩) ⟨fun a U g mk q => by obtain ⟨q0, q1, qZ, qP, qK, qD⟩ := q; exact ⟨q0, q1, Zz_call qZ, qP, va_K.moved (u := U) (U := U.calling g mk a) (Vm.Alike.refl U.vm) qK, qD⟩, fun U hU hW => ⟨rfl, by rw [hU], Zz_go hZ hS hFc hU hW, by rw [hU]; exact hPc, va_K.moved hW.alike hKc, hDc.weaken (fun _ _ _ _ => trivial)⟩⟩ rfl rfl hl.1 rfl (lv_room (Nat.le_of_ble_eq_true rfl)) dX11_rules_1 ⟨Nat.le_of_ble_eq_true rfl, Nat.le_of_ble_eq_true rfl⟩) hS (fun q _ h => hFc q h) hFc (fun q _ h => hFc q h) (fun E ce q9 u t H1 locs ht hvm hpx hBX hz1 hk1 hS hce hcv hcl => ?_) (fun u t H1 locs ht hvm hw hB hz1 hk1 hS => ?_)
  · rcases hBX with ⟨rfl, c101⟩ | ⟨rfl, c102, c103⟩
    · exact vx_out (fun x h => (htab x h).elim) hlocks hce hcv hcl (fun t9 ht9 _ => ⟨(), trivial, (Or.inl ⟨rfl, c101⟩), hS.F ht9⟩) hS.2.2 (by decide) (by decide)
    · exact vx_out (fun x h => (htab x h).elim) hlocks hce hcv hcl (fun t9 ht9 _ => ⟨(), trivial, (Or.inr (⟨rfl, c102, c103⟩)), hS.F ht9⟩) hS.2.2 (by decide) (by decide)
  · skip
    obtain ⟨hP1, hK1, hD1⟩ := hB
    rw [ht] at hP1
    try dsimp only at hw
    obtain ⟨hP, hD⟩ := va_join (wr := [(Ad0, .inr (14, Fs0)), (Ad1, .inr (12, Fs1)), (Ad2, .inl (Ka0, 4001, .inl Fa0)), (Ad3, .inl (Ka1, 4001, .inl Fa1)), (Ad4, .inl (Ka2, 4001, .inr (.inl Fa2))), (Ad5, .inl (Ka3, 4, .inr (.inr (.inr (.inr Fa3))))), (Ad6, .inr (8, Fs2)), (Ad7, .inr (10, Fs3)), (Ad8, .inr (4, Fs4)), (Ad9, .inl (Ka4, 360, .inr (.inl Fa4))), (Ad10, .inl (Ka5, 360, .inr (.inl Fa5))), (Ad11, .inl (Ka6, 9, .inr (.inl Fa6)))]) (w1 := []) hP hD [] [0, 1, 2, 3, 4, 5, 6, 7, 8, 9, 10, 11] rfl rfl (by decide) (by decide) hk1 hFc hP1 hD1
    have hK := hK.sub (tys' := [(Ka0, .int), (Ka1, .int), (Ka2, .long), (Ka3, .object "HeapWorks$Picture"), (Ka4, .long), (Ka5, .long), (Ka6, .long)]) [0, 1, 2, 3, 4, 5, 6] rfl
    generalize H1 = H at hP hS ⊢
    refine W.widen (k := 1) (n := 6) (by omega) (by omega) ?_
    have hP : va_P (dC, dI) vwCl [(Ad0, .inr (14, Fs0)), (Ad1, .inr (12, Fs1)), (Ad2, .inl (Ka0, 4001, .inl Fa0)), (Ad3, .inl (Ka1, 4001, .inl Fa1)), (Ad4, .inl (Ka2, 4001, .inr (.inl Fa2))), (Ad5, .inl (Ka3, 4, .inr (.inr (.inr (.inr Fa3))))), (Ad6, .inr (8, Fs2)), (Ad7, .inr (10, Fs3)), (Ad8, .inr (4, Fs4)), (Ad9, .inl (Ka4, 360, .inr (.inl Fa4))), (Ad10, .inl (Ka5, 360, .inr (.inl Fa5))), (Ad11, .inl (Ka6, 9, .inr (.inl Fa6)))] H := hP
    have hD : va_D A [(Ad0, .inr (14, Fs0)), (Ad1, .inr (12, Fs1)), (Ad2, .inl (Ka0, 4001, .inl Fa0)), (Ad3, .inl (Ka1, 4001, .inl Fa1)), (Ad4, .inl (Ka2, 4001, .inr (.inl Fa2))), (Ad5, .inl (Ka3, 4, .inr (.inr (.inr (.inr Fa3))))), (Ad6, .inr (8, Fs2)), (Ad7, .inr (10, Fs3)), (Ad8, .inr (4, Fs4)), (Ad9, .inl (Ka4, 360, .inr (.inl Fa4))), (Ad10, .inl (Ka5, 360, .inr (.inl Fa5))), (Ad11, .inl (Ka6, 9, .inr (.inl Fa6)))] := hD
    obtain ⟨c104, c105⟩ := hw
    refine lv_aload_n hx hb dX11_rules_4 rfl (lv_at hl 0 rfl) ?_
    refine va_get (D := (dC, dI)) (ci := 14) (v := .ref Ad5) (C := RX11) (T := TX11) (N := 18) hx hb hts (in_z_X11_rules_X11) hown hK hP 0 rfl rfl 4 (by decide) (hts (.fieldLink RX11 41 "HeapWorks" "pictures" "[LHeapWorks$Picture;") (by decide +kernel)) (fun _ h9 => h9) (ow_at o_Fs0 0 rfl) dX11_rules_5 ?_
    refine lv_iload_n hx hb dX11_rules_8 rfl (lv_at hl 1 rfl) ?_
    refine va_aldq hx hb hK hP 5 3 rfl rfl (by rw [vp_in_iff]; (try simp only [i_lt, i_le, i_eq, kc_0, kc_4] at c104 c105); omega) dX11_rules_9 ?_
    refine W.eq (g2 := F0 m 10 ls (.ref Ad6 :: [])) (by rw [hg0]; rfl) ?_
    refine va_get (D := (dC, dI)) (ci := 8) (v := .int 0) (C := RX5) (T := TX5) (N := 21) hx hb hts (in_z_X11_rules_X5) hown hK hP 6 rfl rfl 0 (by decide) (hts (.fieldLink RX11 356 "HeapWorks$Picture" "things" "I") (by decide +kernel)) (fun _ h9 => h9) (ow_at o_Fs2 0 rfl) dX11_rules_10 ?_
    refine lv_bipush (v := 40) hx hb dX11_rules_13 (by decide) ?_
    refine lv_icmp_le (tgt := 26) hx hb dX11_rules_15 (by decide) (fun c106 => ?_) (fun c106 => absurd c106 (by decide))
    refine lv_aload_n hx hb dX11_rules_26 rfl (lv_at hl 0 rfl) ?_
    refine va_get (D := (dC, dI)) (ci := 14) (v := .ref Ad7) (C := RX11) (T := TX11) (N := 18) hx hb hts (in_z_X11_rules_X11) hown hK hP 0 rfl rfl 11 (by decide) (hts (.fieldLink RX11 77 "HeapWorks" "ruleText" "LHeapWorks$RuleText;") (by decide +kernel)) (fun _ h9 => h9) (ow_at o_Fs0 1 rfl) dX11_rules_27 ?_
    have hPc := hP.sub (ws' := [(Ad1, .inr (12, Fs1)), (Ad2, .inl (Ka0, 4001, .inl Fa0)), (Ad3, .inl (Ka1, 4001, .inl Fa1)), (Ad4, .inl (Ka2, 4001, .inr (.inl Fa2))), (Ad7, .inr (10, Fs3))]) [1, 2, 3, 4, 7] rfl
    have hDc := hD.sub (ws' := [(Ad1, .inr (12, Fs1)), (Ad2, .inl (Ka0, 4001, .inl Fa0)), (Ad3, .inl (Ka1, 4001, .inl Fa1)), (Ad4, .inl (Ka2, 4001, .inr (.inl Fa2))), (Ad7, .inr (10, Fs3))]) [1, 2, 3, 4, 7] (by decide) rfl
    have hKc := hK.sub (tys' := [(Ka0, .int), (Ka1, .int), (Ka2, .long)]) [0, 1, 2] rfl
    have hFc := va_free (wc := [(Ad1, .inr (12, Fs1)), (Ad2, .inl (Ka0, 4001, .inl Fa0)), (Ad3, .inl (Ka1, 4001, .inl Fa1)), (Ad4, .inl (Ka2, 4001, .inr (.inl Fa2))), (Ad7, .inr (10, Fs3))]) hD hS hA [1, 2, 3, 4, 7] rfl
    refine va_calli (va_runV (As := []) (rest := []) ⟨hx, hb, hml, hown, hts⟩ (z_X7_readAll l dC dI H.size Ad1 Fs1 Ad2 Fa0 Ka0 Ad3 Fa1 Ka1 Ad4 Fa2 Ka2 Ad7 Fs3 (fh_sub o_Fs1.2 [0, 1, 2, 3] rfl) (fh_sub o_Fs3.2 [0] rfl) ) (cwV 0 hts g_z_X11_rules_z_X7_readAll_481 rfl rfl rfl (by decide +kernel) ⟨Nat.le_of_ble_eq_true rfl, Nat.le_of_ble_eq_true rfl⟩) ⟨fun a U g mk q => by obtain ⟨q0, q1, qP, qK, qD⟩ := q; exact ⟨q0, q1, qP, va_K.moved (u := U) (U := U.calling g mk a) (Vm.Alike.refl U.vm) qK, qD⟩, va_recv hK hP (ci := 10) (q0 := 7) rfl rfl, fun U hU hW => ⟨rfl, by rw [hU], by rw [hU]; exact hPc, va_K.moved hW.alike hKc, hDc.weaken (fun _ _ _ _ => trivial)⟩⟩ rfl rfl hl.1 rfl (lv_room (Nat.le_of_ble_eq_true rfl)) dX11_rules_30 ⟨Nat.le_of_ble_eq_true rfl, Nat.le_of_ble_eq_true rfl⟩) hS (fun q _ h => hFc q h) hFc (fun r107 u t H1 locs ht hvm hw hB hz1 hk1 hS => ?_)
    obtain ⟨s108, f109, f110, f111, s112⟩ := u
    obtain ⟨hP1, hK1, hD1⟩ := hB
    rw [ht] at hP1
    try dsimp only at hw
    obtain ⟨hP, hD⟩ := va_join (wr := [(Ad0, .inr (14, Fs0)), (Ad5, .inl (Ka3, 4, .inr (.inr (.inr (.inr Fa3))))), (Ad6, .inr (8, Fs2)), (Ad8, .inr (4, Fs4)), (Ad9, .inl (Ka4, 360, .inr (.inl Fa4))), (Ad10, .inl (Ka5, 360, .inr (.inl Fa5))), (Ad11, .inl (Ka6, 9, .inr (.inl Fa6)))]) (w1 := [(Ad1, .inr (12, s108)), (Ad2, .inl (Ka0, 4001, .inl f109)), (Ad3, .inl (Ka1, 4001, .inl f110)), (Ad4, .inl (Ka2, 4001, .inr (.inl f111))), (Ad7, .inr (10, s112))]) hP hD [1, 2, 3, 4, 7] [0, 5, 6, 8, 9, 10, 11] rfl rfl (by decide) (by decide) hk1 hFc hP1 hD1
    have hK := hK.sub (tys' := [(Ka3, .object "HeapWorks$Picture"), (Ka4, .long), (Ka5, .long), (Ka6, .long), (Ka0, .int), (Ka1, .int), (Ka2, .long)]) [3, 4, 5, 6, 0, 1, 2] rfl
    generalize H1 = H at hP hS ⊢
    have hP : va_P (dC, dI) vwCl [(Ad0, .inr (14, Fs0)), (Ad5, .inl (Ka3, 4, .inr (.inr (.inr (.inr Fa3))))), (Ad6, .inr (8, Fs2)), (Ad8, .inr (4, Fs4)), (Ad9, .inl (Ka4, 360, .inr (.inl Fa4))), (Ad10, .inl (Ka5, 360, .inr (.inl Fa5))), (Ad11, .inl (Ka6, 9, .inr (.inl Fa6))), (Ad1, .inr (12, s108)), (Ad2, .inl (Ka0, 4001, .inl f109)), (Ad3, .inl (Ka1, 4001, .inl f110)), (Ad4, .inl (Ka2, 4001, .inr (.inl f111))), (Ad7, .inr (10, s112))] H := hP
    have hD : va_D A [(Ad0, .inr (14, Fs0)), (Ad5, .inl (Ka3, 4, .inr (.inr (.inr (.inr Fa3))))), (Ad6, .inr (8, Fs2)), (Ad8, .inr (4, Fs4)), (Ad9, .inl (Ka4, 360, .inr (.inl Fa4))), (Ad10, .inl (Ka5, 360, .inr (.inl Fa5))), (Ad11, .inl (Ka6, 9, .inr (.inl Fa6))), (Ad1, .inr (12, s108)), (Ad2, .inl (Ka0, 4001, .inl f109)), (Ad3, .inl (Ka1, 4001, .inl f110)), (Ad4, .inl (Ka2, 4001, .inr (.inl f111))), (Ad7, .inr (10, s112))] := hD
    obtain ⟨er113, o_s108, o_s112, q114, q115, q116⟩ := hw
    subst er113
    have o_s108 := ow_on o_Fs1 o_s108 (l' := [(11, .long 0), (10, .int 0), (9, .int 0), (8, .int 0), (5, .ref Ad2), (6, .ref Ad3), (7, .ref Ad4), (8, .int 0), (4, .int 0), (1, .int 0), (4, .int 0), (1, .int 0), (5, .ref Ad2), (6, .ref Ad3), (7, .ref Ad4), (1, .int 0), (5, .ref Ad2), (6, .ref Ad3), (7, .ref Ad4), (1, .int 0), (5, .ref Ad2), (6, .ref Ad3), (7, .ref Ad4)]) (w' := [11, 10, 9, 8, 4]) rfl rfl
    have o_s112 := ow_on o_Fs3 o_s112 (l' := [(20, .int (-1)), (19, .int 0), (16, .int 0), (3, .int 0), (0, .ref Ad1), (0, .ref Ad1)]) (w' := [20, 19, 16, 3]) rfl rfl
    refine lv_istore_n (lv' := [(2, .int 1), (0, .ref Ad0), (1, .int Va0)]) hx hb dX11_rules_33 rfl hl (by decide) rfl (fun ls hl => ?_)
    refine lv_aload_n hx hb dX11_rules_34 rfl (lv_at hl 1 rfl) ?_
    refine lv_aload_n hx hb dX11_rules_35 rfl (lv_at hl 1 rfl) ?_
    refine va_get (D := (dC, dI)) (ci := 14) (v := .ref Ad7) (C := RX11) (T := TX11) (N := 18) hx hb hts (in_z_X11_rules_X11) hown hK hP 0 rfl rfl 11 (by decide) (hts (.fieldLink RX11 77 "HeapWorks" "ruleText" "LHeapWorks$RuleText;") (by decide +kernel)) (fun _ h9 => h9) (ow_at o_Fs0 1 rfl) dX11_rules_36 ?_
    refine va_get (D := (dC, dI)) (ci := 10) (v := .int 0) (C := RX7) (T := TX7) (N := 21) hx hb hts (in_z_X11_rules_X7) hown hK hP 11 rfl rfl 19 (by decide) (hts (.fieldLink RX11 484 "HeapWorks$RuleText" "fault" "I") (by decide +kernel)) (fun _ h9 => h9) (ow_at o_s112 1 rfl) dX11_rules_39 ?_
    refine lv_aload_n hx hb dX11_rules_42 rfl (lv_at hl 1 rfl) ?_
    refine va_get (D := (dC, dI)) (ci := 14) (v := .ref Ad7) (C := RX11) (T := TX11) (N := 18) hx hb hts (in_z_X11_rules_X11) hown hK hP 0 rfl rfl 11 (by decide) (hts (.fieldLink RX11 77 "HeapWorks" "ruleText" "LHeapWorks$RuleText;") (by decide +kernel)) (fun _ h9 => h9) (ow_at o_Fs0 1 rfl) dX11_rules_43 ?_
    refine va_get (D := (dC, dI)) (ci := 10) (v := .int (-1)) (C := RX7) (T := TX7) (N := 21) hx hb hts (in_z_X11_rules_X7) hown hK hP 11 rfl rfl 20 (by decide) (hts (.fieldLink RX11 485 "HeapWorks$RuleText" "place" "I") (by decide +kernel)) (fun _ h9 => h9) (ow_at o_s112 0 rfl) dX11_rules_46 ?_
    have hPc := hP.sub (ws' := [(Ad0, .inr (14, Fs0))]) [0] rfl
    have hDc := hD.sub (ws' := [(Ad0, .inr (14, Fs0))]) [0] (by decide) rfl
    have hKc := hK.sub (tys' := []) [] rfl
    have hFc := va_free (wc := [(Ad0, .inr (14, Fs0))]) hD hS hA [0] rfl
    refine va_callv (va_runV (As := [.int 0, .int (-1)]) (rest := []) ⟨hx, hb, hml, hown, hts⟩ (z_X11_tellFault_1 l dC dI H.size Ad0 Fs0 (fh_sub o_Fs0.2 [] rfl) ) (cwV 2 hts g_z_X11_rules_z_X11_tellFault_1_339 rfl rfl rfl (by decide +kernel) ⟨Nat.le_of_ble_eq_true rfl, Nat.le_of_ble_eq_true rfl⟩) ⟨fun a U g mk q => by obtain ⟨q0, q1, qP, qK, qD⟩ := q; exact ⟨q0, q1, qP, va_K.moved (u := U) (U := U.calling g mk a) (Vm.Alike.refl U.vm) qK, qD⟩, va_recv hK hP (ci := 14) (q0 := 0) rfl rfl, fun U hU hW => ⟨rfl, by rw [hU], by rw [hU]; exact hPc, va_K.moved hW.alike hKc, hDc.weaken (fun _ _ _ _ => trivial)⟩⟩ rfl rfl hl.1 rfl (lv_room (Nat.le_of_ble_eq_true rfl)) dX11_rules_49 ⟨Nat.le_of_ble_eq_true rfl, Nat.le_of_ble_eq_true rfl⟩) hS (fun q _ h => hFc q h) hFc (fun u t H1 locs ht hvm hw hB hz1 hk1 hS => ?_)
    obtain ⟨s117, rfl⟩ : ∃ z, z = u := ⟨_, rfl⟩
    obtain ⟨hP1, hK1, hD1⟩ := hB
    rw [ht] at hP1
    try dsimp only at hw
    obtain ⟨hP, hD⟩ := va_join (wr := [(Ad5, .inl (Ka3, 4, .inr (.inr (.inr (.inr Fa3))))), (Ad6, .inr (8, Fs2)), (Ad8, .inr (4, Fs4)), (Ad9, .inl (Ka4, 360, .inr (.inl Fa4))), (Ad10, .inl (Ka5, 360, .inr (.inl Fa5))), (Ad11, .inl (Ka6, 9, .inr (.inl Fa6))), (Ad1, .inr (12, s108)), (Ad2, .inl (Ka0, 4001, .inl f109)), (Ad3, .inl (Ka1, 4001, .inl f110)), (Ad4, .inl (Ka2, 4001, .inr (.inl f111))), (Ad7, .inr (10, s112))]) (w1 := [(Ad0, .inr (14, s117))]) hP hD [0] [1, 2, 3, 4, 5, 6, 7, 8, 9, 10, 11] rfl rfl (by decide) (by decide) hk1 hFc hP1 hD1
    have hK := hK.sub (tys' := [(Ka3, .object "HeapWorks$Picture"), (Ka4, .long), (Ka5, .long), (Ka6, .long), (Ka0, .int), (Ka1, .int), (Ka2, .long)]) [0, 1, 2, 3, 4, 5, 6] rfl
    generalize H1 = H at hP hS ⊢
    have hP : va_P (dC, dI) vwCl [(Ad5, .inl (Ka3, 4, .inr (.inr (.inr (.inr Fa3))))), (Ad6, .inr (8, Fs2)), (Ad8, .inr (4, Fs4)), (Ad9, .inl (Ka4, 360, .inr (.inl Fa4))), (Ad10, .inl (Ka5, 360, .inr (.inl Fa5))), (Ad11, .inl (Ka6, 9, .inr (.inl Fa6))), (Ad1, .inr (12, s108)), (Ad2, .inl (Ka0, 4001, .inl f109)), (Ad3, .inl (Ka1, 4001, .inl f110)), (Ad4, .inl (Ka2, 4001, .inr (.inl f111))), (Ad7, .inr (10, s112)), (Ad0, .inr (14, s117))] H := hP
    have hD : va_D A [(Ad5, .inl (Ka3, 4, .inr (.inr (.inr (.inr Fa3))))), (Ad6, .inr (8, Fs2)), (Ad8, .inr (4, Fs4)), (Ad9, .inl (Ka4, 360, .inr (.inl Fa4))), (Ad10, .inl (Ka5, 360, .inr (.inl Fa5))), (Ad11, .inl (Ka6, 9, .inr (.inl Fa6))), (Ad1, .inr (12, s108)), (Ad2, .inl (Ka0, 4001, .inl f109)), (Ad3, .inl (Ka1, 4001, .inl f110)), (Ad4, .inl (Ka2, 4001, .inr (.inl f111))), (Ad7, .inr (10, s112)), (Ad0, .inr (14, s117))] := hD
    have o_s117 := hw
    have o_s117 := ow_on o_Fs0 o_s117 (l' := [(17, .int (-1)), (16, .int 0), (4, .ref Ad5), (11, .ref Ad7), (12, .ref Ad8)]) (w' := [17, 16]) rfl rfl
    refine lv_iload_n hx hb dX11_rules_52 rfl (lv_at hl 0 rfl) ?_
    refine lv_if_ne (tgt := 64) hx hb dX11_rules_53 (by decide) (fun c118 => ?_) (fun c118 => absurd c118 (by decide))
    refine lv_aload_n hx hb dX11_rules_64 rfl (lv_at hl 1 rfl) ?_
    refine va_get (D := (dC, dI)) (ci := 14) (v := .ref Ad8) (C := RX11) (T := TX11) (N := 18) hx hb hts (in_z_X11_rules_X11) hown hK hP 11 rfl rfl 12 (by decide) (hts (.fieldLink RX11 84 "HeapWorks" "factBook" "LHeapWorks$FactBook;") (by decide +kernel)) (fun _ h9 => h9) (ow_at o_s117 4 rfl) dX11_rules_65 ?_
    refine lv_aload_n hx hb dX11_rules_68 rfl (lv_at hl 1 rfl) ?_
    refine va_get (D := (dC, dI)) (ci := 14) (v := .ref Ad7) (C := RX11) (T := TX11) (N := 18) hx hb hts (in_z_X11_rules_X11) hown hK hP 11 rfl rfl 11 (by decide) (hts (.fieldLink RX11 77 "HeapWorks" "ruleText" "LHeapWorks$RuleText;") (by decide +kernel)) (fun _ h9 => h9) (ow_at o_s117 3 rfl) dX11_rules_69 ?_
    refine lv_aload_n hx hb dX11_rules_72 rfl (lv_at hl 1 rfl) ?_
    refine va_get (D := (dC, dI)) (ci := 14) (v := .ref Ad5) (C := RX11) (T := TX11) (N := 18) hx hb hts (in_z_X11_rules_X11) hown hK hP 11 rfl rfl 4 (by decide) (hts (.fieldLink RX11 41 "HeapWorks" "pictures" "[LHeapWorks$Picture;") (by decide +kernel)) (fun _ h9 => h9) (ow_at o_s117 2 rfl) dX11_rules_73 ?_
    refine lv_iload_n hx hb dX11_rules_76 rfl (lv_at hl 2 rfl) ?_
    refine va_aldq hx hb hK hP 0 0 rfl rfl (by rw [vp_in_iff]; (try simp only [i_lt, i_le, i_eq, kc_0, kc_4] at c104 c105); omega) dX11_rules_77 ?_
    refine W.eq (g2 := F0 m 78 ls (.ref Ad6 :: [.ref Ad7, .ref Ad8])) (by rw [hg0]; rfl) ?_
    have hPc := hP.sub (ws' := [(Ad6, .inr (8, Fs2)), (Ad8, .inr (4, Fs4)), (Ad9, .inl (Ka4, 360, .inr (.inl Fa4))), (Ad10, .inl (Ka5, 360, .inr (.inl Fa5))), (Ad11, .inl (Ka6, 9, .inr (.inl Fa6))), (Ad7, .inr (10, s112))]) [1, 2, 3, 4, 5, 10] rfl
    have hDc := hD.sub (ws' := [(Ad6, .inr (8, Fs2)), (Ad8, .inr (4, Fs4)), (Ad9, .inl (Ka4, 360, .inr (.inl Fa4))), (Ad10, .inl (Ka5, 360, .inr (.inl Fa5))), (Ad11, .inl (Ka6, 9, .inr (.inl Fa6))), (Ad7, .inr (10, s112))]) [1, 2, 3, 4, 5, 10] (by decide) rfl
    have hKc := hK.sub (tys' := [(Ka4, .long), (Ka5, .long), (Ka6, .long)]) [1, 2, 3] rfl
    have hFc := va_free (wc := [(Ad6, .inr (8, Fs2)), (Ad8, .inr (4, Fs4)), (Ad9, .inl (Ka4, 360, .inr (.inl Fa4))), (Ad10, .inl (Ka5, 360, .inr (.inl Fa5))), (Ad11, .inl (Ka6, 9, .inr (.inl Fa6))), (Ad7, .inr (10, s112))]) hD hS hA [1, 2, 3, 4, 5, 10] rfl
    refine va_callv (va_runV (As := [.ref Ad7, .ref Ad6]) (rest := []) ⟨hx, hb, hml, hown, hts⟩ (z_X1_workOut l dC dI H.size Ad6 Fs2 Ad8 Fs4 Ad9 Fa4 Ka4 Ad10 Fa5 Ka5 Ad11 Fa6 Ka6 Ad7 s112 (fh_sub o_Fs2.2 [0] rfl) (fh_sub o_Fs4.2 [0, 1, 2] rfl) (fh_sub o_s112.2 [3] rfl) ) (cwV 2 hts g_z_X11_rules_z_X1_workOut_486 rfl rfl rfl (by decide +kernel) ⟨Nat.le_of_ble_eq_true rfl, Nat.le_of_ble_eq_true rfl⟩) ⟨fun a U g mk q => by obtain ⟨q0, q1, qP, qK, qD⟩ := q; exact ⟨q0, q1, qP, va_K.moved (u := U) (U := U.calling g mk a) (Vm.Alike.refl U.vm) qK, qD⟩, va_recv hK hP (ci := 4) (q0 := 2) rfl rfl, fun U hU hW => ⟨rfl, by rw [hU], by rw [hU]; exact hPc, va_K.moved hW.alike hKc, hDc.weaken (fun _ _ _ _ => trivial)⟩⟩ rfl rfl hl.1 rfl (lv_room (Nat.le_of_ble_eq_true rfl)) dX11_rules_78 ⟨Nat.le_of_ble_eq_true rfl, Nat.le_of_ble_eq_true rfl⟩) hS (fun q _ h => hFc q h) hFc (fun u t H1 locs ht hvm hw hB hz1 hk1 hS => ?_)
    obtain ⟨s119, f120, f121, f122⟩ := u
    obtain ⟨hP1, hK1, hD1⟩ := hB
    rw [ht] at hP1
    try dsimp only at hw
    obtain ⟨hP, hD⟩ := va_join (wr := [(Ad5, .inl (Ka3, 4, .inr (.inr (.inr (.inr Fa3))))), (Ad1, .inr (12, s108)), (Ad2, .inl (Ka0, 4001, .inl f109)), (Ad3, .inl (Ka1, 4001, .inl f110)), (Ad4, .inl (Ka2, 4001, .inr (.inl f111))), (Ad0, .inr (14, s117))]) (w1 := [(Ad6, .inr (8, Fs2)), (Ad8, .inr (4, s119)), (Ad9, .inl (Ka4, 360, .inr (.inl f120))), (Ad10, .inl (Ka5, 360, .inr (.inl f121))), (Ad11, .inl (Ka6, 9, .inr (.inl f122))), (Ad7, .inr (10, s112))]) hP hD [1, 2, 3, 4, 5, 10] [0, 6, 7, 8, 9, 11] rfl rfl (by decide) (by decide) hk1 hFc hP1 hD1
    have hK := hK.sub (tys' := [(Ka3, .object "HeapWorks$Picture"), (Ka0, .int), (Ka1, .int), (Ka2, .long), (Ka4, .long), (Ka5, .long), (Ka6, .long)]) [0, 4, 5, 6, 1, 2, 3] rfl
    generalize H1 = H at hP hS ⊢
    have hP : va_P (dC, dI) vwCl [(Ad5, .inl (Ka3, 4, .inr (.inr (.inr (.inr Fa3))))), (Ad1, .inr (12, s108)), (Ad2, .inl (Ka0, 4001, .inl f109)), (Ad3, .inl (Ka1, 4001, .inl f110)), (Ad4, .inl (Ka2, 4001, .inr (.inl f111))), (Ad0, .inr (14, s117)), (Ad6, .inr (8, Fs2)), (Ad8, .inr (4, s119)), (Ad9, .inl (Ka4, 360, .inr (.inl f120))), (Ad10, .inl (Ka5, 360, .inr (.inl f121))), (Ad11, .inl (Ka6, 9, .inr (.inl f122))), (Ad7, .inr (10, s112))] H := hP
    have hD : va_D A [(Ad5, .inl (Ka3, 4, .inr (.inr (.inr (.inr Fa3))))), (Ad1, .inr (12, s108)), (Ad2, .inl (Ka0, 4001, .inl f109)), (Ad3, .inl (Ka1, 4001, .inl f110)), (Ad4, .inl (Ka2, 4001, .inr (.inl f111))), (Ad0, .inr (14, s117)), (Ad6, .inr (8, Fs2)), (Ad8, .inr (4, s119)), (Ad9, .inl (Ka4, 360, .inr (.inl f120))), (Ad10, .inl (Ka5, 360, .inr (.inl f121))), (Ad11, .inl (Ka6, 9, .inr (.inl f122))), (Ad7, .inr (10, s112))] := hD
    have o_s119 := hw
    have o_s119 := ow_on o_Fs4 o_s119 (l' := [(9, .int 0), (2, .long 0), (1, .int 0), (8, .ref Ad7), (3, .ref Ad9), (4, .ref Ad10), (5, .ref Ad11), (3, .ref Ad9), (4, .ref Ad10), (5, .ref Ad11)]) (w' := [9, 2, 1, 8]) rfl rfl
    refine lv_iconst (v := 0) hx hb dX11_rules_81 (by decide) ?_
    refine lv_istore_n (lv' := [(3, .int 0), (2, .int 1), (0, .ref Ad0), (1, .int Va0)]) hx hb dX11_rules_82 rfl hl (by decide) rfl (fun ls hl => ?_)
    refine lv_iconst (v := 0) hx hb dX11_rules_83 (by decide) ?_
    refine lv_istore (lv' := [(4, .int 0), (3, .int 0), (2, .int 1), (0, .ref Ad0), (1, .int Va0)]) hx hb dX11_rules_84 hl (by decide) rfl (fun ls hl => ?_)
    refine lv_iload hx hb dX11_rules_86 (lv_at hl 0 rfl) ?_
    refine lv_aload_n hx hb dX11_rules_88 rfl (lv_at hl 3 rfl) ?_
    refine va_get (D := (dC, dI)) (ci := 14) (v := .ref Ad7) (C := RX11) (T := TX11) (N := 18) hx hb hts (in_z_X11_rules_X11) hown hK hP 5 rfl rfl 11 (by decide) (hts (.fieldLink RX11 77 "HeapWorks" "ruleText" "LHeapWorks$RuleText;") (by decide +kernel)) (fun _ h9 => h9) (ow_at o_s117 3 rfl) dX11_rules_89 ?_
    refine va_get (D := (dC, dI)) (ci := 10) (v := .int 0) (C := RX7) (T := TX7) (N := 21) hx hb hts (in_z_X11_rules_X7) hown hK hP 11 rfl rfl 16 (by decide) (hts (.fieldLink RX11 490 "HeapWorks$RuleText" "relations" "I") (by decide +kernel)) (fun _ h9 => h9) (ow_at o_s112 2 rfl) dX11_rules_92 ?_
    refine lv_icmp_ge (tgt := 116) hx hb dX11_rules_95 (by decide) (fun c123 => ?_) (fun c123 => absurd c123 (by decide))
    refine lv_iload_n hx hb dX11_rules_116 rfl (lv_at hl 1 rfl) ?_
    have hP9 := hP.sub (ws' := [(Ad0, .inr (14, s117)), (Ad1, .inr (12, s108)), (Ad2, .inl (Ka0, 4001, .inl f109)), (Ad3, .inl (Ka1, 4001, .inl f110)), (Ad4, .inl (Ka2, 4001, .inr (.inl f111))), (Ad5, .inl (Ka3, 4, .inr (.inr (.inr (.inr Fa3))))), (Ad6, .inr (8, Fs2)), (Ad7, .inr (10, s112)), (Ad8, .inr (4, s119)), (Ad9, .inl (Ka4, 360, .inr (.inl f120))), (Ad10, .inl (Ka5, 360, .inr (.inl f121))), (Ad11, .inl (Ka6, 9, .inr (.inl f122)))]) [5, 1, 2, 3, 4, 0, 6, 11, 7, 8, 9, 10] rfl
    have hD9 := hD.sub (ws' := [(Ad0, .inr (14, s117)), (Ad1, .inr (12, s108)), (Ad2, .inl (Ka0, 4001, .inl f109)), (Ad3, .inl (Ka1, 4001, .inl f110)), (Ad4, .inl (Ka2, 4001, .inr (.inl f111))), (Ad5, .inl (Ka3, 4, .inr (.inr (.inr (.inr Fa3))))), (Ad6, .inr (8, Fs2)), (Ad7, .inr (10, s112)), (Ad8, .inr (4, s119)), (Ad9, .inl (Ka4, 360, .inr (.inl f120))), (Ad10, .inl (Ka5, 360, .inr (.inl f121))), (Ad11, .inl (Ka6, 9, .inr (.inl f122)))]) [5, 1, 2, 3, 4, 0, 6, 11, 7, 8, 9, 10] (by decide) rfl
    have hK9 := hK.sub (tys' := [(Ka0, .int), (Ka1, .int), (Ka2, .long), (Ka3, .object "HeapWorks$Picture"), (Ka4, .long), (Ka5, .long), (Ka6, .long)]) [1, 2, 3, 0, 4, 5, 6] rfl
    refine vx_ret ?_
    refine W.widen (k := 1) (n := 6) (by decide) (by decide) ?_
    exact W.iret (v := 0) hx hb hr (fun t ht hW => ⟨⟨0, (s117, s108, f109, f110, f111, s112, s119, f120, f121, f122), rfl, ⟨c104, c105, rfl, o_s117, o_s108, o_s112, o_s119, q114, q115, q116⟩, by rw [ht]; exact hP9, va_K.moved hW.alike hK9, hD9⟩, hS.F ht⟩) hS.2.2 dX11_rules_117

def l_z_X11_facts : List Cond := [.fieldLink RX11 77 "HeapWorks" "ruleText" "LHeapWorks$RuleText;", .fieldLink RX11 490 "HeapWorks$RuleText" "relations" "I"]
def w_z_X11_facts : List Cond := .code yX11_facts cX11_facts 2 (some .int) :: (l_z_X11_facts ++ ((wsX110 ++ wsX70)))
theorem in_z_X11_facts_X11 : ∀ w ∈ wsX110, w ∈ w_z_X11_facts := fun w h => List.mem_cons_of_mem _ (List.mem_append_right _ (List.mem_append_left _ h))
theorem in_z_X11_facts_X7 : ∀ w ∈ wsX70, w ∈ w_z_X11_facts := fun w h => List.mem_cons_of_mem _ (List.mem_append_right _ (List.mem_append_right _ (h)))
set_option maxHeartbeats 4000000 in
set_option maxRecDepth 100000 in
theorem z_X11_facts (l : Launch) (dC : Nat → ClassId) (dI : Nat → Nat → Nat) (sz : Nat) (Ad0 : Nat) (Fs0 : List Value) (Ad1 : Nat) (Fs1 : List Value) (Va0 : Int32) (k_Fs0 : fh Fs0 18 [(11, .ref Ad1)]) (k_Fs1 : fh Fs1 21 [(16, .int 0)])  : Met l yX11_facts w_z_X11_facts ({ frames := 0, cells := 0, slots := 0, locals := 0 }) (va_Pc [.ref Ad0, .int Va0] (fun U => U.heap.size = sz ∧ Wd dC dI [] (fun _ => True) [(Ad0, .inr (14, Fs0)), (Ad1, .inr (10, Fs1))] U)) (va_Qi (fun (r : Int32) (u : Unit) => (Va0 < 0 ∧ r = (-1)) ∨ (¬ Va0 < 0 ∧ 0 ≤ Va0 ∧ r = (-1))) (fun (u : Unit) t => Wd dC dI [] (va_A [(Ad0, .inr (14, Fs0)), (Ad1, .inr (10, Fs1))] sz) [(Ad0, .inr (14, Fs0)), (Ad1, .inr (10, Fs1))] t) (va_A [(Ad0, .inr (14, Fs0)), (Ad1, .inr (10, Fs1))] sz))  0 0 (va_A [(Ad0, .inr (14, Fs0)), (Ad1, .inr (10, Fs1))] sz) := by
  refine Met.ofW (cc := cX11_facts) (maxL := 2) (ret := (some .int)) (by decide) rfl ?_
  intro p e s m args below meth c s₁ B hml hv
  obtain ⟨rfl, hsz, hP, hK, hD0⟩ := hv
  have hx := B.exec
  have hb := B.bytes
  have hr := B.returns
  have hts := atoms_spec (ws := w_z_X11_facts) B.pre
  have hown : s.vm.findClass RX11 = some m.cls := findClass_of_methodNamed B.named
  have hlocks := B.notSynchronized
  subst hsz
  have hD := hD0.self (sz := s.heap.size)
  generalize hAe : va_A [(Ad0, .inr (14, Fs0)), (Ad1, .inr (10, Fs1))] s.heap.size = A at hD ⊢
  have hA : ∀ q : Nat, s.heap.size ≤ q → A q := fun q h => by rw [← hAe]; exact Or.inr h
  have hS : va_S A s.heap s.heap [] := va_S.rf
  have hl := lv_entry ([.ref Ad0, .int Va0]) (n := 2) (Nat.le_of_ble_eq_true rfl)
  rw [lg_entry_eq]
  generalize (lg_sl ([.ref Ad0, .int Va0]) ++ List.replicate (2 - (lg_sl ([.ref Ad0, .int Va0])).length) Slot.unset).toArray = ls at hl ⊢
  have hl : lv_has ls 2 [(0, .ref Ad0), (1, .int Va0)] := hl
  have o_Fs0 := ow_0 k_Fs0
  have o_Fs1 := ow_0 k_Fs1
  refine lv_iload_n hx hb dX11_facts_0 rfl (lv_at hl 1 rfl) ?_
  refine lv_if_lt (tgt := 26) hx hb dX11_facts_1 (by decide) (fun c101 => ?_) (fun c101 => ?_)
  · skip
    refine lv_iconst (v := (-1)) hx hb dX11_facts_26 (by decide) ?_
    have hP9 := hP.sub (ws' := [(Ad0, .inr (14, Fs0)), (Ad1, .inr (10, Fs1))]) [0, 1] rfl
    have hD9 := hD.sub (ws' := [(Ad0, .inr (14, Fs0)), (Ad1, .inr (10, Fs1))]) [0, 1] (by decide) rfl
    have hK9 := hK.sub (tys' := []) [] rfl
    exact W.iret (v := (-1)) hx hb hr (fun t ht hW => ⟨⟨(-1), (), rfl, (Or.inl ⟨c101, rfl⟩), by rw [ht]; exact hP9, va_K.moved hW.alike hK9, hD9⟩, hS.F ht⟩) hS.2.2 dX11_facts_27
  · skip
    refine lv_iload_n hx hb dX11_facts_4 rfl (lv_at hl 1 rfl) ?_
    refine lv_aload_n hx hb dX11_facts_5 rfl (lv_at hl 0 rfl) ?_
    refine va_get (D := (dC, dI)) (ci := 14) (v := .ref Ad1) (C := RX11) (T := TX11) (N := 18) hx hb hts (in_z_X11_facts_X11) hown hK hP 0 rfl rfl 11 (by decide) (hts (.fieldLink RX11 77 "HeapWorks" "ruleText" "LHeapWorks$RuleText;") (by decide +kernel)) (fun _ h9 => h9) (ow_at o_Fs0 0 rfl) dX11_facts_6 ?_
    refine va_get (D := (dC, dI)) (ci := 10) (v := .int 0) (C := RX7) (T := TX7) (N := 21) hx hb hts (in_z_X11_facts_X7) hown hK hP 1 rfl rfl 16 (by decide) (hts (.fieldLink RX11 490 "HeapWorks$RuleText" "relations" "I") (by decide +kernel)) (fun _ h9 => h9) (ow_at o_Fs1 0 rfl) dX11_facts_9 ?_
    refine lv_icmp_ge (tgt := 26) hx hb dX11_facts_12 (by decide) (fun c102 => ?_) (fun c102 => (by exfalso; have bd_Va0 := i_bd Va0; (try simp only [i_lt, i_le, i_eq, kc_0] at c101 c102); omega))
    refine lv_iconst (v := (-1)) hx hb dX11_facts_26 (by decide) ?_
    have hP9 := hP.sub (ws' := [(Ad0, .inr (14, Fs0)), (Ad1, .inr (10, Fs1))]) [0, 1] rfl
    have hD9 := hD.sub (ws' := [(Ad0, .inr (14, Fs0)), (Ad1, .inr (10, Fs1))]) [0, 1] (by decide) rfl
    have hK9 := hK.sub (tys' := []) [] rfl
    exact W.iret (v := (-1)) hx hb hr (fun t ht hW => ⟨⟨(-1), (), rfl, (Or.inr (⟨c101, c102, rfl⟩)), by rw [ht]; exact hP9, va_K.moved hW.alike hK9, hD9⟩, hS.F ht⟩) hS.2.2 dX11_facts_27

def l_z_X11_isFact : List Cond := [.classLink RX11 221 "java/util/NoSuchElementException", .initialized "java/util/NoSuchElementException", .fieldLink RX11 77 "HeapWorks" "ruleText" "LHeapWorks$RuleText;", .fieldLink RX11 490 "HeapWorks$RuleText" "relations" "I"]
def w_z_X11_isFact : List Cond := .code yX11_isFact cX11_isFact 4 (some .boolean) :: (l_z_X11_isFact ++ ((((vx_at0 RX11 223 "java/util/NoSuchElementException" ["java/lang/RuntimeException", "java/lang/Exception"]).filter goodWord) ++ (wsX110 ++ wsX70))))
theorem in_z_X11_isFact_at0_X11_223 : ∀ w ∈ ((vx_at0 RX11 223 "java/util/NoSuchElementException" ["java/lang/RuntimeException", "java/lang/Exception"]).filter goodWord), w ∈ w_z_X11_isFact := fun w h => List.mem_cons_of_mem _ (List.mem_append_right _ (List.mem_append_left _ h))
theorem in_z_X11_isFact_X11 : ∀ w ∈ wsX110, w ∈ w_z_X11_isFact := fun w h => List.mem_cons_of_mem _ (List.mem_append_right _ (List.mem_append_right _ (List.mem_append_left _ h)))
theorem in_z_X11_isFact_X7 : ∀ w ∈ wsX70, w ∈ w_z_X11_isFact := fun w h => List.mem_cons_of_mem _ (List.mem_append_right _ (List.mem_append_right _ (List.mem_append_right _ (h))))
set_option maxHeartbeats 4000000 in
set_option maxRecDepth 100000 in
theorem z_X11_isFact (l : Launch) (dC : Nat → ClassId) (dI : Nat → Nat → Nat) (sz : Nat) (Ad0 : Nat) (Fs0 : List Value) (Ad1 : Nat) (Fs1 : List Value) (Va0 : Int32) (Va1 : Int32) (Va2 : Int32) (k_Fs0 : fh Fs0 18 [(11, .ref Ad1)]) (k_Fs1 : fh Fs1 21 [(16, .int 0)]) (hst : l.stackTraces = false)  : vx_Met l yX11_isFact w_z_X11_isFact ({ frames := 7, cells := 1, slots := 6, locals := 140 }) (va_Pc [.ref Ad0, .int Va0, .int Va1, .int Va2] (fun U => U.heap.size = sz ∧ Zz (va_A [(Ad0, .inr (14, Fs0)), (Ad1, .inr (10, Fs1))] sz) U ∧ Wd dC dI [] (fun _ => True) [(Ad0, .inr (14, Fs0)), (Ad1, .inr (10, Fs1))] U)) (va_Qi (fun (r : Int32) (u : Unit) => False) (fun (u : Unit) t => Wd dC dI [] (va_A [(Ad0, .inr (14, Fs0)), (Ad1, .inr (10, Fs1))] sz) [(Ad0, .inr (14, Fs0)), (Ad1, .inr (10, Fs1))] t) (va_A [(Ad0, .inr (14, Fs0)), (Ad1, .inr (10, Fs1))] sz)) (vx_X (fun _ : Unit => True) (fun E _ _ => (E = "java/util/NoSuchElementException" ∧ Va0 < 0) ∨ (E = "java/util/NoSuchElementException" ∧ ¬ Va0 < 0 ∧ ¬ Va0 < 0)) (va_A [(Ad0, .inr (14, Fs0)), (Ad1, .inr (10, Fs1))] sz)) 1 6 (va_A [(Ad0, .inr (14, Fs0)), (Ad1, .inr (10, Fs1))] sz) := by
  refine vx_ofW (cc := cX11_isFact) (maxL := 4) (ret := (some .boolean)) (by decide) rfl ?_
  intro p e s m args below meth c s₁ B hml htab hv
  obtain ⟨rfl, hsz, hZ, hP, hK, hD0⟩ := hv
  have hx := B.exec
  have hb := B.bytes
  have hr := B.returns
  have hts := atoms_spec (ws := w_z_X11_isFact) B.pre
  have hown : s.vm.findClass RX11 = some m.cls := findClass_of_methodNamed B.named
  have hlocks := B.notSynchronized
  subst hsz
  have hD := hD0.self (sz := s.heap.size)
  generalize hAe : va_A [(Ad0, .inr (14, Fs0)), (Ad1, .inr (10, Fs1))] s.heap.size = A at hD hZ ⊢
  have hA : ∀ q : Nat, s.heap.size ≤ q → A q := fun q h => by rw [← hAe]; exact Or.inr h
  have hS : va_S A s.heap s.heap [] := va_S.rf
  have hl := lv_entry ([.ref Ad0, .int Va0, .int Va1, .int Va2]) (n := 4) (Nat.le_of_ble_eq_true rfl)
  rw [lg_entry_eq]
  generalize (lg_sl ([.ref Ad0, .int Va0, .int Va1, .int Va2]) ++ List.replicate (4 - (lg_sl ([.ref Ad0, .int Va0, .int Va1, .int Va2])).length) Slot.unset).toArray = ls at hl ⊢
  have hl : lv_has ls 4 [(0, .ref Ad0), (1, .int Va0), (2, .int Va1), (3, .int Va2)] := hl
  have o_Fs0 := ow_0 k_Fs0
  have o_Fs1 := ow_0 k_Fs1
  refine lv_iload_n hx hb dX11_isFact_0 rfl (lv_at hl 1 rfl) ?_
  refine lv_if_lt (tgt := 15) hx hb dX11_isFact_1 (by decide) (fun c101 => ?_) (fun c101 => ?_)
  · skip
    exact vx_throw0 (names := ["java/lang/RuntimeException", "java/lang/Exception"]) hx hb hst hown (by decide +kernel) (by decide +kernel) (hts (.classLink RX11 221 "java/util/NoSuchElementException") (by decide +kernel)) (hts (.initialized "java/util/NoSuchElementException") (by decide +kernel)) (vx_hat (B := xB "java/util/NoSuchElementException") (fun w h => hts w ((in_z_X11_isFact_at0_X11_223) w h)) (by decide +kernel) (Zz_xB hZ (by decide))) (by decide +kernel) hZ.1 hZ.2.1 hS (hl.1.trans hml.symm) dX11_isFact_15 dX11_isFact_18 dX11_isFact_19 dX11_isFact_22 (fun x h => (htab x h).elim) (by decide) (Nat.le_of_ble_eq_true rfl) (Nat.le_of_ble_eq_true rfl) (Nat.le_of_ble_eq_true rfl) hlocks (fun t _ h1 h2 => ⟨(), trivial, (Or.inl ⟨rfl, c101⟩), xx_F hS h1 h2⟩) hS.2.2 (by decide) (by decide)
  · skip
    refine lv_iload_n hx hb dX11_isFact_4 rfl (lv_at hl 1 rfl) ?_
    refine lv_aload_n hx hb dX11_isFact_5 rfl (lv_at hl 0 rfl) ?_
    refine va_get (D := (dC, dI)) (ci := 14) (v := .ref Ad1) (C := RX11) (T := TX11) (N := 18) hx hb hts (in_z_X11_isFact_X11) hown hK hP 0 rfl rfl 11 (by decide) (hts (.fieldLink RX11 77 "HeapWorks" "ruleText" "LHeapWorks$RuleText;") (by decide +kernel)) (fun _ h9 => h9) (ow_at o_Fs0 0 rfl) dX11_isFact_6 ?_
    refine va_get (D := (dC, dI)) (ci := 10) (v := .int 0) (C := RX7) (T := TX7) (N := 21) hx hb hts (in_z_X11_isFact_X7) hown hK hP 1 rfl rfl 16 (by decide) (hts (.fieldLink RX11 490 "HeapWorks$RuleText" "relations" "I") (by decide +kernel)) (fun _ h9 => h9) (ow_at o_Fs1 0 rfl) dX11_isFact_9 ?_
    refine lv_icmp_lt (tgt := 23) hx hb dX11_isFact_12 (by decide) (fun c102 => (by exfalso; have bd_Va0 := i_bd Va0; (try simp only [i_lt, i_le, i_eq, kc_0] at c101 c102); omega)) (fun c102 => ?_)
    exact vx_throw0 (names := ["java/lang/RuntimeException", "java/lang/Exception"]) hx hb hst hown (by decide +kernel) (by decide +kernel) (hts (.classLink RX11 221 "java/util/NoSuchElementException") (by decide +kernel)) (hts (.initialized "java/util/NoSuchElementException") (by decide +kernel)) (vx_hat (B := xB "java/util/NoSuchElementException") (fun w h => hts w ((in_z_X11_isFact_at0_X11_223) w h)) (by decide +kernel) (Zz_xB hZ (by decide))) (by decide +kernel) hZ.1 hZ.2.1 hS (hl.1.trans hml.symm) dX11_isFact_15 dX11_isFact_18 dX11_isFact_19 dX11_isFact_22 (fun x h => (htab x h).elim) (by decide) (Nat.le_of_ble_eq_true rfl) (Nat.le_of_ble_eq_true rfl) (Nat.le_of_ble_eq_true rfl) hlocks (fun t _ h1 h2 => ⟨(), trivial, (Or.inr (⟨rfl, c101, c102⟩)), xx_F hS h1 h2⟩) hS.2.2 (by decide) (by decide)

def l_z_X11_fault : List Cond := [.fieldLink RX11 98 "HeapWorks" "faultPlace" "I", .fieldLink RX11 469 "HeapWorks" "faultCode" "I"]
def w_z_X11_fault : List Cond := .code yX11_fault cX11_fault 2 (some .int) :: (l_z_X11_fault ++ (wsX110))
theorem in_z_X11_fault_X11 : ∀ w ∈ wsX110, w ∈ w_z_X11_fault := fun w h => List.mem_cons_of_mem _ (List.mem_append_right _ (h))
set_option maxHeartbeats 4000000 in
set_option maxRecDepth 100000 in
theorem z_X11_fault (l : Launch) (dC : Nat → ClassId) (dI : Nat → Nat → Nat) (sz : Nat) (Ad0 : Nat) (Fs0 : List Value) (Va0 : Int32) (k_Fs0 : fh Fs0 18 [(16, .int 0), (17, .int (-1))])  : Met l yX11_fault w_z_X11_fault ({ frames := 0, cells := 0, slots := 0, locals := 0 }) (va_Pc [.ref Ad0, .int Va0] (fun U => U.heap.size = sz ∧ Wd dC dI [] (fun _ => True) [(Ad0, .inr (14, Fs0))] U)) (va_Qi (fun (r : Int32) (u : Unit) => (¬ Va0 = 0 ∧ ¬ Va0 = 1 ∧ r = (-1)) ∨ (¬ Va0 = 0 ∧ Va0 = 1 ∧ r = (-1)) ∨ (Va0 = 0 ∧ r = 0)) (fun (u : Unit) t => Wd dC dI [] (va_A [(Ad0, .inr (14, Fs0))] sz) [(Ad0, .inr (14, Fs0))] t) (va_A [(Ad0, .inr (14, Fs0))] sz))  0 0 (va_A [(Ad0, .inr (14, Fs0))] sz) := by
  refine Met.ofW (cc := cX11_fault) (maxL := 2) (ret := (some .int)) (by decide) rfl ?_
  intro p e s m args below meth c s₁ B hml hv
  obtain ⟨rfl, hsz, hP, hK, hD0⟩ := hv
  have hx := B.exec
  have hb := B.bytes
  have hr := B.returns
  have hts := atoms_spec (ws := w_z_X11_fault) B.pre
  have hown : s.vm.findClass RX11 = some m.cls := findClass_of_methodNamed B.named
  have hlocks := B.notSynchronized
  subst hsz
  have hD := hD0.self (sz := s.heap.size)
  generalize hAe : va_A [(Ad0, .inr (14, Fs0))] s.heap.size = A at hD ⊢
  have hA : ∀ q : Nat, s.heap.size ≤ q → A q := fun q h => by rw [← hAe]; exact Or.inr h
  have hS : va_S A s.heap s.heap [] := va_S.rf
  have hl := lv_entry ([.ref Ad0, .int Va0]) (n := 2) (Nat.le_of_ble_eq_true rfl)
  rw [lg_entry_eq]
  generalize (lg_sl ([.ref Ad0, .int Va0]) ++ List.replicate (2 - (lg_sl ([.ref Ad0, .int Va0])).length) Slot.unset).toArray = ls at hl ⊢
  have hl : lv_has ls 2 [(0, .ref Ad0), (1, .int Va0)] := hl
  have o_Fs0 := ow_0 k_Fs0
  refine lv_iload_n hx hb dX11_fault_0 rfl (lv_at hl 1 rfl) ?_
  refine lv_if_ne (tgt := 9) hx hb dX11_fault_1 (by decide) (fun c101 => ?_) (fun c101 => ?_)
  · skip
    refine lv_iload_n hx hb dX11_fault_9 rfl (lv_at hl 1 rfl) ?_
    refine lv_iconst (v := 1) hx hb dX11_fault_10 (by decide) ?_
    refine lv_icmp_ne (tgt := 21) hx hb dX11_fault_11 (by decide) (fun c102 => ?_) (fun c102 => ?_)
    · skip
      refine lv_iconst (v := (-1)) hx hb dX11_fault_21 (by decide) ?_
      have hP9 := hP.sub (ws' := [(Ad0, .inr (14, Fs0))]) [0] rfl
      have hD9 := hD.sub (ws' := [(Ad0, .inr (14, Fs0))]) [0] (by decide) rfl
      have hK9 := hK.sub (tys' := []) [] rfl
      exact W.iret (v := (-1)) hx hb hr (fun t ht hW => ⟨⟨(-1), (), rfl, (Or.inl ⟨c101, c102, rfl⟩), by rw [ht]; exact hP9, va_K.moved hW.alike hK9, hD9⟩, hS.F ht⟩) hS.2.2 dX11_fault_22
    · skip
      refine lv_aload_n hx hb dX11_fault_14 rfl (lv_at hl 0 rfl) ?_
      refine va_get (D := (dC, dI)) (ci := 14) (v := .int (-1)) (C := RX11) (T := TX11) (N := 18) hx hb hts (in_z_X11_fault_X11) hown hK hP 0 rfl rfl 17 (by decide) (hts (.fieldLink RX11 98 "HeapWorks" "faultPlace" "I") (by decide +kernel)) (fun _ h9 => h9) (ow_at o_Fs0 1 rfl) dX11_fault_15 ?_
      refine lv_goto (tgt := 22) hx hb dX11_fault_18 (by decide) ?_
      have hP9 := hP.sub (ws' := [(Ad0, .inr (14, Fs0))]) [0] rfl
      have hD9 := hD.sub (ws' := [(Ad0, .inr (14, Fs0))]) [0] (by decide) rfl
      have hK9 := hK.sub (tys' := []) [] rfl
      exact W.iret (v := (-1)) hx hb hr (fun t ht hW => ⟨⟨(-1), (), rfl, (Or.inr (Or.inl ⟨c101, c102, rfl⟩)), by rw [ht]; exact hP9, va_K.moved hW.alike hK9, hD9⟩, hS.F ht⟩) hS.2.2 dX11_fault_22
  · skip
    refine lv_aload_n hx hb dX11_fault_4 rfl (lv_at hl 0 rfl) ?_
    refine va_get (D := (dC, dI)) (ci := 14) (v := .int 0) (C := RX11) (T := TX11) (N := 18) hx hb hts (in_z_X11_fault_X11) hown hK hP 0 rfl rfl 16 (by decide) (hts (.fieldLink RX11 469 "HeapWorks" "faultCode" "I") (by decide +kernel)) (fun _ h9 => h9) (ow_at o_Fs0 0 rfl) dX11_fault_5 ?_
    have hP9 := hP.sub (ws' := [(Ad0, .inr (14, Fs0))]) [0] rfl
    have hD9 := hD.sub (ws' := [(Ad0, .inr (14, Fs0))]) [0] (by decide) rfl
    have hK9 := hK.sub (tys' := []) [] rfl
    exact W.iret (v := 0) hx hb hr (fun t ht hW => ⟨⟨0, (), rfl, (Or.inr (Or.inr (⟨c101, rfl⟩))), by rw [ht]; exact hP9, va_K.moved hW.alike hK9, hD9⟩, hS.F ht⟩) hS.2.2 dX11_fault_8

def l_z_X0_put : List Cond := [.fieldLink RX0 35 "HeapWorks$Archive" "filled" "I", .fieldLink RX0 19 "HeapWorks$Archive" "buffer" "[I"]
def w_z_X0_put : List Cond := .code yX0_put cX0_put 2 none :: (l_z_X0_put ++ (wsX00))
theorem in_z_X0_put_X0 : ∀ w ∈ wsX00, w ∈ w_z_X0_put := fun w h => List.mem_cons_of_mem _ (List.mem_append_right _ (h))
set_option maxHeartbeats 4000000 in
set_option maxRecDepth 100000 in
theorem z_X0_put (l : Launch) (dC : Nat → ClassId) (dI : Nat → Nat → Nat) (sz : Nat) (Ad0 : Nat) (Fs0 : List Value) (Ad1 : Nat) (Fa0 : Nat → Int32) (Ka0 : ClassId) (k_Fs0 : fh Fs0 15 [(2, .int 0), (1, .ref Ad1)])  : Met l yX0_put w_z_X0_put ({ frames := 0, cells := 0, slots := 0, locals := 0 }) (va_Pc [.ref Ad0, .int 72] (fun U => U.heap.size = sz ∧ Wd dC dI [(Ka0, .int)] (fun _ => True) [(Ad0, .inr (3, Fs0)), (Ad1, .inl (Ka0, 4000, .inl Fa0))] U)) (va_Qv (fun (u : List Value × (Nat → Int32)) => (ow Fs0 (u.1) 15 [2] [(2, .int 1), (1, .ref Ad1)] ∧ (u.2) (0 : Int32).toNatClampNeg = 72)) (fun (u : List Value × (Nat → Int32)) t => Wd dC dI [(Ka0, .int)] (va_A [(Ad0, .inr (3, Fs0)), (Ad1, .inl (Ka0, 4000, .inl Fa0))] sz) [(Ad0, .inr (3, (u.1))), (Ad1, .inl (Ka0, 4000, .inl ((u.2))))] t) (va_A [(Ad0, .inr (3, Fs0)), (Ad1, .inl (Ka0, 4000, .inl Fa0))] sz))  0 0 (va_A [(Ad0, .inr (3, Fs0)), (Ad1, .inl (Ka0, 4000, .inl Fa0))] sz) := by
  refine Met.ofW (cc := cX0_put) (maxL := 2) (ret := none) (by decide) rfl ?_
  intro p e s m args below meth c s₁ B hml hv
  obtain ⟨rfl, hsz, hP, hK, hD0⟩ := hv
  have hx := B.exec
  have hb := B.bytes
  have hr := B.returns
  have hts := atoms_spec (ws := w_z_X0_put) B.pre
  have hown : s.vm.findClass RX0 = some m.cls := findClass_of_methodNamed B.named
  have hlocks := B.notSynchronized
  subst hsz
  have hD := hD0.self (sz := s.heap.size)
  generalize hAe : va_A [(Ad0, .inr (3, Fs0)), (Ad1, .inl (Ka0, 4000, .inl Fa0))] s.heap.size = A at hD ⊢
  have hA : ∀ q : Nat, s.heap.size ≤ q → A q := fun q h => by rw [← hAe]; exact Or.inr h
  have hS : va_S A s.heap s.heap [] := va_S.rf
  have hl := lv_entry ([.ref Ad0, .int 72]) (n := 2) (Nat.le_of_ble_eq_true rfl)
  rw [lg_entry_eq]
  generalize (lg_sl ([.ref Ad0, .int 72]) ++ List.replicate (2 - (lg_sl ([.ref Ad0, .int 72])).length) Slot.unset).toArray = ls at hl ⊢
  have hl : lv_has ls 2 [(0, .ref Ad0), (1, .int 72)] := hl
  have o_Fs0 := ow_0 k_Fs0
  refine lv_aload_n hx hb dX0_put_0 rfl (lv_at hl 0 rfl) ?_
  refine va_get (D := (dC, dI)) (ci := 3) (v := .int 0) (C := RX0) (T := TX0) (N := 15) hx hb hts (in_z_X0_put_X0) hown hK hP 0 rfl rfl 2 (by decide) (hts (.fieldLink RX0 35 "HeapWorks$Archive" "filled" "I") (by decide +kernel)) (fun _ h9 => h9) (ow_at o_Fs0 0 rfl) dX0_put_1 ?_
  refine lv_aload_n hx hb dX0_put_4 rfl (lv_at hl 0 rfl) ?_
  refine va_get (D := (dC, dI)) (ci := 3) (v := .ref Ad1) (C := RX0) (T := TX0) (N := 15) hx hb hts (in_z_X0_put_X0) hown hK hP 0 rfl rfl 1 (by decide) (hts (.fieldLink RX0 19 "HeapWorks$Archive" "buffer" "[I") (by decide +kernel)) (fun _ h9 => h9) (ow_at o_Fs0 1 rfl) dX0_put_5 ?_
  refine va_alen (v := 4000) hx hb hK hP 1 0 rfl rfl (show Int32.ofNat 4000 = 4000 from by decide) dX0_put_8 ?_
  refine lv_icmp_ge (tgt := 22) hx hb dX0_put_9 (by decide) (fun c101 => absurd c101 (by decide)) (fun c101 => ?_)
  refine lv_aload_n hx hb dX0_put_12 rfl (lv_at hl 0 rfl) ?_
  refine va_get (D := (dC, dI)) (ci := 3) (v := .ref Ad1) (C := RX0) (T := TX0) (N := 15) hx hb hts (in_z_X0_put_X0) hown hK hP 0 rfl rfl 1 (by decide) (hts (.fieldLink RX0 19 "HeapWorks$Archive" "buffer" "[I") (by decide +kernel)) (fun _ h9 => h9) (ow_at o_Fs0 1 rfl) dX0_put_13 ?_
  refine lv_aload_n hx hb dX0_put_16 rfl (lv_at hl 0 rfl) ?_
  refine va_get (D := (dC, dI)) (ci := 3) (v := .int 0) (C := RX0) (T := TX0) (N := 15) hx hb hts (in_z_X0_put_X0) hown hK hP 0 rfl rfl 2 (by decide) (hts (.fieldLink RX0 35 "HeapWorks$Archive" "filled" "I") (by decide +kernel)) (fun _ h9 => h9) (ow_at o_Fs0 0 rfl) dX0_put_17 ?_
  refine lv_iload_n hx hb dX0_put_20 rfl (lv_at hl 1 rfl) ?_
  refine va_iast hx hb hK hP hD hS 1 0 rfl rfl (show vp_in 0 4000 from by unfold vp_in; decide) dX0_put_21 (fun H locs hP hD hS => ?_)
  have hP : va_P (dC, dI) vwCl [(Ad0, .inr (3, Fs0)), (Ad1, .inl (Ka0, 4000, .inl (upd Fa0 (0 : Int32).toNatClampNeg 72)))] H := hP
  have hD : va_D A [(Ad0, .inr (3, Fs0)), (Ad1, .inl (Ka0, 4000, .inl (upd Fa0 (0 : Int32).toNatClampNeg 72)))] := hD
  have q103 : (upd Fa0 (0 : Int32).toNatClampNeg 72) (0 : Int32).toNatClampNeg = 72 := pk_us
  generalize upd Fa0 (0 : Int32).toNatClampNeg 72 = f102 at hP hD q103
  refine lv_aload_n hx hb dX0_put_22 rfl (lv_at hl 0 rfl) ?_
  refine lv_dup hx hb dX0_put_23 rfl ?_
  refine va_get (D := (dC, dI)) (ci := 3) (v := .int 0) (C := RX0) (T := TX0) (N := 15) hx hb hts (in_z_X0_put_X0) hown hK hP 0 rfl rfl 2 (by decide) (hts (.fieldLink RX0 35 "HeapWorks$Archive" "filled" "I") (by decide +kernel)) (fun _ h9 => h9) (ow_at o_Fs0 0 rfl) dX0_put_24 ?_
  refine lv_iconst (v := 1) hx hb dX0_put_27 (by decide) ?_
  refine lv_iadd hx hb dX0_put_28  ?_
  refine lv_topi (fun x104 ex104 => ?_)
  obtain rfl : x104 = 1 := ex104.trans (by decide)
  refine va_put (D := (dC, dI)) (ci := 3) (v := .int 1) (ty := .int) (C := RX0) (T := TX0) (N := 15) hx hb hts (in_z_X0_put_X0) tyX0 tyX0_ok nmX0 hown hK hP hD hS 0 rfl rfl 2 (by decide) (hts (.fieldLink RX0 35 "HeapWorks$Archive" "filled" "I") (by decide +kernel)) (fun _ h9 => h9) rfl (by decide +kernel) rfl rfl (by rw [o_Fs0.2.1]; decide) dX0_put_29 (fun H locs hP hD hS => ?_)
  have hP : va_P (dC, dI) vwCl [(Ad0, .inr (3, (Fs0.set 2 (.int 1)))), (Ad1, .inl (Ka0, 4000, .inl f102))] H := hP
  have hD : va_D A [(Ad0, .inr (3, (Fs0.set 2 (.int 1)))), (Ad1, .inl (Ka0, 4000, .inl f102))] := hD
  have o_s105 := ow_set o_Fs0 2 (.int 1) (by decide) (l' := [(2, .int 1), (1, .ref Ad1)]) (w' := [2]) rfl rfl
  generalize (Fs0.set 2 (.int 1)) = s105 at hP hD o_s105
  have hP9 := hP.sub (ws' := [(Ad0, .inr (3, s105)), (Ad1, .inl (Ka0, 4000, .inl f102))]) [0, 1] rfl
  have hD9 := hD.sub (ws' := [(Ad0, .inr (3, s105)), (Ad1, .inl (Ka0, 4000, .inl f102))]) [0, 1] (by decide) rfl
  have hK9 := hK.sub (tys' := [(Ka0, .int)]) [0] rfl
  exact W.vret hx hb hr (fun t ht hW => ⟨⟨(s105, f102), rfl, ⟨o_s105, q103⟩, by rw [ht]; exact hP9, va_K.moved hW.alike hK9, hD9⟩, hS.F ht⟩) hS.2.2 dX0_put_32

def l_z_X0_put_1 : List Cond := [.fieldLink RX0 35 "HeapWorks$Archive" "filled" "I", .fieldLink RX0 19 "HeapWorks$Archive" "buffer" "[I"]
def w_z_X0_put_1 : List Cond := .code yX0_put cX0_put 2 none :: (l_z_X0_put_1 ++ (wsX00))
theorem in_z_X0_put_1_X0 : ∀ w ∈ wsX00, w ∈ w_z_X0_put_1 := fun w h => List.mem_cons_of_mem _ (List.mem_append_right _ (h))
set_option maxHeartbeats 4000000 in
set_option maxRecDepth 100000 in
theorem z_X0_put_1 (l : Launch) (dC : Nat → ClassId) (dI : Nat → Nat → Nat) (sz : Nat) (Ad0 : Nat) (Fs0 : List Value) (Ad1 : Nat) (Fa0 : Nat → Int32) (Ka0 : ClassId) (k_Fs0 : fh Fs0 15 [(2, .int 1), (1, .ref Ad1), (1, .ref Ad1)])  : Met l yX0_put w_z_X0_put_1 ({ frames := 0, cells := 0, slots := 0, locals := 0 }) (va_Pc [.ref Ad0, .int 80] (fun U => U.heap.size = sz ∧ Wd dC dI [(Ka0, .int)] (fun _ => True) [(Ad0, .inr (3, Fs0)), (Ad1, .inl (Ka0, 4000, .inl Fa0))] U)) (va_Qv (fun (u : List Value × (Nat → Int32)) => (ow Fs0 (u.1) 15 [2] [(2, .int 2), (1, .ref Ad1), (1, .ref Ad1)] ∧ (u.2) (1 : Int32).toNatClampNeg = 80)) (fun (u : List Value × (Nat → Int32)) t => Wd dC dI [(Ka0, .int)] (va_A [(Ad0, .inr (3, Fs0)), (Ad1, .inl (Ka0, 4000, .inl Fa0))] sz) [(Ad0, .inr (3, (u.1))), (Ad1, .inl (Ka0, 4000, .inl ((u.2))))] t) (va_A [(Ad0, .inr (3, Fs0)), (Ad1, .inl (Ka0, 4000, .inl Fa0))] sz))  0 0 (va_A [(Ad0, .inr (3, Fs0)), (Ad1, .inl (Ka0, 4000, .inl Fa0))] sz) := by
  refine Met.ofW (cc := cX0_put) (maxL := 2) (ret := none) (by decide) rfl ?_
  intro p e s m args below meth c s₁ B hml hv
  obtain ⟨rfl, hsz, hP, hK, hD0⟩ := hv
  have hx := B.exec
  have hb := B.bytes
  have hr := B.returns
  have hts := atoms_spec (ws := w_z_X0_put_1) B.pre
  have hown : s.vm.findClass RX0 = some m.cls := findClass_of_methodNamed B.named
  have hlocks := B.notSynchronized
  subst hsz
  have hD := hD0.self (sz := s.heap.size)
  generalize hAe : va_A [(Ad0, .inr (3, Fs0)), (Ad1, .inl (Ka0, 4000, .inl Fa0))] s.heap.size = A at hD ⊢
  have hA : ∀ q : Nat, s.heap.size ≤ q → A q := fun q h => by rw [← hAe]; exact Or.inr h
  have hS : va_S A s.heap s.heap [] := va_S.rf
  have hl := lv_entry ([.ref Ad0, .int 80]) (n := 2) (Nat.le_of_ble_eq_true rfl)
  rw [lg_entry_eq]
  generalize (lg_sl ([.ref Ad0, .int 80]) ++ List.replicate (2 - (lg_sl ([.ref Ad0, .int 80])).length) Slot.unset).toArray = ls at hl ⊢
  have hl : lv_has ls 2 [(0, .ref Ad0), (1, .int 80)] := hl
  have o_Fs0 := ow_0 k_Fs0
  refine lv_aload_n hx hb dX0_put_0 rfl (lv_at hl 0 rfl) ?_
  refine va_get (D := (dC, dI)) (ci := 3) (v := .int 1) (C := RX0) (T := TX0) (N := 15) hx hb hts (in_z_X0_put_1_X0) hown hK hP 0 rfl rfl 2 (by decide) (hts (.fieldLink RX0 35 "HeapWorks$Archive" "filled" "I") (by decide +kernel)) (fun _ h9 => h9) (ow_at o_Fs0 0 rfl) dX0_put_1 ?_
  refine lv_aload_n hx hb dX0_put_4 rfl (lv_at hl 0 rfl) ?_
  refine va_get (D := (dC, dI)) (ci := 3) (v := .ref Ad1) (C := RX0) (T := TX0) (N := 15) hx hb hts (in_z_X0_put_1_X0) hown hK hP 0 rfl rfl 1 (by decide) (hts (.fieldLink RX0 19 "HeapWorks$Archive" "buffer" "[I") (by decide +kernel)) (fun _ h9 => h9) (ow_at o_Fs0 1 rfl) dX0_put_5 ?_
  refine va_alen (v := 4000) hx hb hK hP 1 0 rfl rfl (show Int32.ofNat 4000 = 4000 from by decide) dX0_put_8 ?_
  refine lv_icmp_ge (tgt := 22) hx hb dX0_put_9 (by decide) (fun c101 => absurd c101 (by decide)) (fun c101 => ?_)
  refine lv_aload_n hx hb dX0_put_12 rfl (lv_at hl 0 rfl) ?_
  refine va_get (D := (dC, dI)) (ci := 3) (v := .ref Ad1) (C := RX0) (T := TX0) (N := 15) hx hb hts (in_z_X0_put_1_X0) hown hK hP 0 rfl rfl 1 (by decide) (hts (.fieldLink RX0 19 "HeapWorks$Archive" "buffer" "[I") (by decide +kernel)) (fun _ h9 => h9) (ow_at o_Fs0 1 rfl) dX0_put_13 ?_
  refine lv_aload_n hx hb dX0_put_16 rfl (lv_at hl 0 rfl) ?_
  refine va_get (D := (dC, dI)) (ci := 3) (v := .int 1) (C := RX0) (T := TX0) (N := 15) hx hb hts (in_z_X0_put_1_X0) hown hK hP 0 rfl rfl 2 (by decide) (hts (.fieldLink RX0 35 "HeapWorks$Archive" "filled" "I") (by decide +kernel)) (fun _ h9 => h9) (ow_at o_Fs0 0 rfl) dX0_put_17 ?_
  refine lv_iload_n hx hb dX0_put_20 rfl (lv_at hl 1 rfl) ?_
  refine va_iast hx hb hK hP hD hS 1 0 rfl rfl (show vp_in 1 4000 from by unfold vp_in; decide) dX0_put_21 (fun H locs hP hD hS => ?_)
  have hP : va_P (dC, dI) vwCl [(Ad0, .inr (3, Fs0)), (Ad1, .inl (Ka0, 4000, .inl (upd Fa0 (1 : Int32).toNatClampNeg 80)))] H := hP
  have hD : va_D A [(Ad0, .inr (3, Fs0)), (Ad1, .inl (Ka0, 4000, .inl (upd Fa0 (1 : Int32).toNatClampNeg 80)))] := hD
  have q103 : (upd Fa0 (1 : Int32).toNatClampNeg 80) (1 : Int32).toNatClampNeg = 80 := pk_us
  generalize upd Fa0 (1 : Int32).toNatClampNeg 80 = f102 at hP hD q103
  refine lv_aload_n hx hb dX0_put_22 rfl (lv_at hl 0 rfl) ?_
  refine lv_dup hx hb dX0_put_23 rfl ?_
  refine va_get (D := (dC, dI)) (ci := 3) (v := .int 1) (C := RX0) (T := TX0) (N := 15) hx hb hts (in_z_X0_put_1_X0) hown hK hP 0 rfl rfl 2 (by decide) (hts (.fieldLink RX0 35 "HeapWorks$Archive" "filled" "I") (by decide +kernel)) (fun _ h9 => h9) (ow_at o_Fs0 0 rfl) dX0_put_24 ?_
  refine lv_iconst (v := 1) hx hb dX0_put_27 (by decide) ?_
  refine lv_iadd hx hb dX0_put_28  ?_
  refine lv_topi (fun x104 ex104 => ?_)
  obtain rfl : x104 = 2 := ex104.trans (by decide)
  refine va_put (D := (dC, dI)) (ci := 3) (v := .int 2) (ty := .int) (C := RX0) (T := TX0) (N := 15) hx hb hts (in_z_X0_put_1_X0) tyX0 tyX0_ok nmX0 hown hK hP hD hS 0 rfl rfl 2 (by decide) (hts (.fieldLink RX0 35 "HeapWorks$Archive" "filled" "I") (by decide +kernel)) (fun _ h9 => h9) rfl (by decide +kernel) rfl rfl (by rw [o_Fs0.2.1]; decide) dX0_put_29 (fun H locs hP hD hS => ?_)
  have hP : va_P (dC, dI) vwCl [(Ad0, .inr (3, (Fs0.set 2 (.int 2)))), (Ad1, .inl (Ka0, 4000, .inl f102))] H := hP
  have hD : va_D A [(Ad0, .inr (3, (Fs0.set 2 (.int 2)))), (Ad1, .inl (Ka0, 4000, .inl f102))] := hD
  have o_s105 := ow_set o_Fs0 2 (.int 2) (by decide) (l' := [(2, .int 2), (1, .ref Ad1), (1, .ref Ad1)]) (w' := [2]) rfl rfl
  generalize (Fs0.set 2 (.int 2)) = s105 at hP hD o_s105
  have hP9 := hP.sub (ws' := [(Ad0, .inr (3, s105)), (Ad1, .inl (Ka0, 4000, .inl f102))]) [0, 1] rfl
  have hD9 := hD.sub (ws' := [(Ad0, .inr (3, s105)), (Ad1, .inl (Ka0, 4000, .inl f102))]) [0, 1] (by decide) rfl
  have hK9 := hK.sub (tys' := [(Ka0, .int)]) [0] rfl
  exact W.vret hx hb hr (fun t ht hW => ⟨⟨(s105, f102), rfl, ⟨o_s105, q103⟩, by rw [ht]; exact hP9, va_K.moved hW.alike hK9, hD9⟩, hS.F ht⟩) hS.2.2 dX0_put_32

def l_z_X0_put_2 : List Cond := [.fieldLink RX0 35 "HeapWorks$Archive" "filled" "I", .fieldLink RX0 19 "HeapWorks$Archive" "buffer" "[I"]
def w_z_X0_put_2 : List Cond := .code yX0_put cX0_put 2 none :: (l_z_X0_put_2 ++ (wsX00))
theorem in_z_X0_put_2_X0 : ∀ w ∈ wsX00, w ∈ w_z_X0_put_2 := fun w h => List.mem_cons_of_mem _ (List.mem_append_right _ (h))
set_option maxHeartbeats 4000000 in
set_option maxRecDepth 100000 in
theorem z_X0_put_2 (l : Launch) (dC : Nat → ClassId) (dI : Nat → Nat → Nat) (sz : Nat) (Ad0 : Nat) (Fs0 : List Value) (Ad1 : Nat) (Fa0 : Nat → Int32) (Ka0 : ClassId) (k_Fs0 : fh Fs0 15 [(2, .int 2), (1, .ref Ad1), (1, .ref Ad1), (1, .ref Ad1), (1, .ref Ad1)])  : Met l yX0_put w_z_X0_put_2 ({ frames := 0, cells := 0, slots := 0, locals := 0 }) (va_Pc [.ref Ad0, .int 0] (fun U => U.heap.size = sz ∧ Wd dC dI [(Ka0, .int)] (fun _ => True) [(Ad0, .inr (3, Fs0)), (Ad1, .inl (Ka0, 4000, .inl Fa0))] U)) (va_Qv (fun (u : List Value × (Nat → Int32)) => (ow Fs0 (u.1) 15 [2] [(2, .int 3), (1, .ref Ad1), (1, .ref Ad1), (1, .ref Ad1), (1, .ref Ad1)] ∧ (u.2) (2 : Int32).toNatClampNeg = 0)) (fun (u : List Value × (Nat → Int32)) t => Wd dC dI [(Ka0, .int)] (va_A [(Ad0, .inr (3, Fs0)), (Ad1, .inl (Ka0, 4000, .inl Fa0))] sz) [(Ad0, .inr (3, (u.1))), (Ad1, .inl (Ka0, 4000, .inl ((u.2))))] t) (va_A [(Ad0, .inr (3, Fs0)), (Ad1, .inl (Ka0, 4000, .inl Fa0))] sz))  0 0 (va_A [(Ad0, .inr (3, Fs0)), (Ad1, .inl (Ka0, 4000, .inl Fa0))] sz) := by
  refine Met.ofW (cc := cX0_put) (maxL := 2) (ret := none) (by decide) rfl ?_
  intro p e s m args below meth c s₁ B hml hv
  obtain ⟨rfl, hsz, hP, hK, hD0⟩ := hv
  have hx := B.exec
  have hb := B.bytes
  have hr := B.returns
  have hts := atoms_spec (ws := w_z_X0_put_2) B.pre
  have hown : s.vm.findClass RX0 = some m.cls := findClass_of_methodNamed B.named
  have hlocks := B.notSynchronized
  subst hsz
  have hD := hD0.self (sz := s.heap.size)
  generalize hAe : va_A [(Ad0, .inr (3, Fs0)), (Ad1, .inl (Ka0, 4000, .inl Fa0))] s.heap.size = A at hD ⊢
  have hA : ∀ q : Nat, s.heap.size ≤ q → A q := fun q h => by rw [← hAe]; exact Or.inr h
  have hS : va_S A s.heap s.heap [] := va_S.rf
  have hl := lv_entry ([.ref Ad0, .int 0]) (n := 2) (Nat.le_of_ble_eq_true rfl)
  rw [lg_entry_eq]
  generalize (lg_sl ([.ref Ad0, .int 0]) ++ List.replicate (2 - (lg_sl ([.ref Ad0, .int 0])).length) Slot.unset).toArray = ls at hl ⊢
  have hl : lv_has ls 2 [(0, .ref Ad0), (1, .int 0)] := hl
  have o_Fs0 := ow_0 k_Fs0
  refine lv_aload_n hx hb dX0_put_0 rfl (lv_at hl 0 rfl) ?_
  refine va_get (D := (dC, dI)) (ci := 3) (v := .int 2) (C := RX0) (T := TX0) (N := 15) hx hb hts (in_z_X0_put_2_X0) hown hK hP 0 rfl rfl 2 (by decide) (hts (.fieldLink RX0 35 "HeapWorks$Archive" "filled" "I") (by decide +kernel)) (fun _ h9 => h9) (ow_at o_Fs0 0 rfl) dX0_put_1 ?_
  refine lv_aload_n hx hb dX0_put_4 rfl (lv_at hl 0 rfl) ?_
  refine va_get (D := (dC, dI)) (ci := 3) (v := .ref Ad1) (C := RX0) (T := TX0) (N := 15) hx hb hts (in_z_X0_put_2_X0) hown hK hP 0 rfl rfl 1 (by decide) (hts (.fieldLink RX0 19 "HeapWorks$Archive" "buffer" "[I") (by decide +kernel)) (fun _ h9 => h9) (ow_at o_Fs0 1 rfl) dX0_put_5 ?_
  refine va_alen (v := 4000) hx hb hK hP 1 0 rfl rfl (show Int32.ofNat 4000 = 4000 from by decide) dX0_put_8 ?_
  refine lv_icmp_ge (tgt := 22) hx hb dX0_put_9 (by decide) (fun c101 => absurd c101 (by decide)) (fun c101 => ?_)
  refine lv_aload_n hx hb dX0_put_12 rfl (lv_at hl 0 rfl) ?_
  refine va_get (D := (dC, dI)) (ci := 3) (v := .ref Ad1) (C := RX0) (T := TX0) (N := 15) hx hb hts (in_z_X0_put_2_X0) hown hK hP 0 rfl rfl 1 (by decide) (hts (.fieldLink RX0 19 "HeapWorks$Archive" "buffer" "[I") (by decide +kernel)) (fun _ h9 => h9) (ow_at o_Fs0 1 rfl) dX0_put_13 ?_
  refine lv_aload_n hx hb dX0_put_16 rfl (lv_at hl 0 rfl) ?_
  refine va_get (D := (dC, dI)) (ci := 3) (v := .int 2) (C := RX0) (T := TX0) (N := 15) hx hb hts (in_z_X0_put_2_X0) hown hK hP 0 rfl rfl 2 (by decide) (hts (.fieldLink RX0 35 "HeapWorks$Archive" "filled" "I") (by decide +kernel)) (fun _ h9 => h9) (ow_at o_Fs0 0 rfl) dX0_put_17 ?_
  refine lv_iload_n hx hb dX0_put_20 rfl (lv_at hl 1 rfl) ?_
  refine va_iast hx hb hK hP hD hS 1 0 rfl rfl (show vp_in 2 4000 from by unfold vp_in; decide) dX0_put_21 (fun H locs hP hD hS => ?_)
  have hP : va_P (dC, dI) vwCl [(Ad0, .inr (3, Fs0)), (Ad1, .inl (Ka0, 4000, .inl (upd Fa0 (2 : Int32).toNatClampNeg 0)))] H := hP
  have hD : va_D A [(Ad0, .inr (3, Fs0)), (Ad1, .inl (Ka0, 4000, .inl (upd Fa0 (2 : Int32).toNatClampNeg 0)))] := hD
  have q103 : (upd Fa0 (2 : Int32).toNatClampNeg 0) (2 : Int32).toNatClampNeg = 0 := pk_us
  generalize upd Fa0 (2 : Int32).toNatClampNeg 0 = f102 at hP hD q103
  refine lv_aload_n hx hb dX0_put_22 rfl (lv_at hl 0 rfl) ?_
  refine lv_dup hx hb dX0_put_23 rfl ?_
  refine va_get (D := (dC, dI)) (ci := 3) (v := .int 2) (C := RX0) (T := TX0) (N := 15) hx hb hts (in_z_X0_put_2_X0) hown hK hP 0 rfl rfl 2 (by decide) (hts (.fieldLink RX0 35 "HeapWorks$Archive" "filled" "I") (by decide +kernel)) (fun _ h9 => h9) (ow_at o_Fs0 0 rfl) dX0_put_24 ?_
  refine lv_iconst (v := 1) hx hb dX0_put_27 (by decide) ?_
  refine lv_iadd hx hb dX0_put_28  ?_
  refine lv_topi (fun x104 ex104 => ?_)
  obtain rfl : x104 = 3 := ex104.trans (by decide)
  refine va_put (D := (dC, dI)) (ci := 3) (v := .int 3) (ty := .int) (C := RX0) (T := TX0) (N := 15) hx hb hts (in_z_X0_put_2_X0) tyX0 tyX0_ok nmX0 hown hK hP hD hS 0 rfl rfl 2 (by decide) (hts (.fieldLink RX0 35 "HeapWorks$Archive" "filled" "I") (by decide +kernel)) (fun _ h9 => h9) rfl (by decide +kernel) rfl rfl (by rw [o_Fs0.2.1]; decide) dX0_put_29 (fun H locs hP hD hS => ?_)
  have hP : va_P (dC, dI) vwCl [(Ad0, .inr (3, (Fs0.set 2 (.int 3)))), (Ad1, .inl (Ka0, 4000, .inl f102))] H := hP
  have hD : va_D A [(Ad0, .inr (3, (Fs0.set 2 (.int 3)))), (Ad1, .inl (Ka0, 4000, .inl f102))] := hD
  have o_s105 := ow_set o_Fs0 2 (.int 3) (by decide) (l' := [(2, .int 3), (1, .ref Ad1), (1, .ref Ad1), (1, .ref Ad1), (1, .ref Ad1)]) (w' := [2]) rfl rfl
  generalize (Fs0.set 2 (.int 3)) = s105 at hP hD o_s105
  have hP9 := hP.sub (ws' := [(Ad0, .inr (3, s105)), (Ad1, .inl (Ka0, 4000, .inl f102))]) [0, 1] rfl
  have hD9 := hD.sub (ws' := [(Ad0, .inr (3, s105)), (Ad1, .inl (Ka0, 4000, .inl f102))]) [0, 1] (by decide) rfl
  have hK9 := hK.sub (tys' := [(Ka0, .int)]) [0] rfl
  exact W.vret hx hb hr (fun t ht hW => ⟨⟨(s105, f102), rfl, ⟨o_s105, q103⟩, by rw [ht]; exact hP9, va_K.moved hW.alike hK9, hD9⟩, hS.F ht⟩) hS.2.2 dX0_put_32

def l_z_X0_putNumber : List Cond := [.methodLink RX0 39 yX0_put, .instanceMethod yX0_put, .selects RX0 yX0_put yX0_put, .initialized RX0, .code yX0_put cX0_put 2 none, .fieldLink RX0 35 "HeapWorks$Archive" "filled" "I", .fieldLink RX0 19 "HeapWorks$Archive" "buffer" "[I"]
def w_z_X0_putNumber : List Cond := .code yX0_putNumber cX0_putNumber 6 none :: (l_z_X0_putNumber ++ (wsX00))
theorem in_z_X0_putNumber_X0 : ∀ w ∈ wsX00, w ∈ w_z_X0_putNumber := fun w h => List.mem_cons_of_mem _ (List.mem_append_right _ (h))
theorem g_z_X0_putNumber_z_X0_put_2_39 : GoodIn w_z_X0_putNumber (wsV RX0 39 RX0 yX0_put w_z_X0_put_2) := goodIn_app (goodIn_r (([.methodLink RX0 39 yX0_put, .instanceMethod yX0_put, .selects RX0 yX0_put yX0_put, .initialized RX0] : List Cond)) [1, 2, 3, 4] rfl (by decide +kernel)) (goodIn_ca (goodIn_r (.code yX0_put cX0_put 2 none :: l_z_X0_put_2) [5, 6, 7] rfl (by decide +kernel)) (goodIn_in (in_z_X0_putNumber_X0) gd_X0))
set_option maxHeartbeats 4000000 in
set_option maxRecDepth 100000 in
theorem z_X0_putNumber (l : Launch) (dC : Nat → ClassId) (dI : Nat → Nat → Nat) (sz : Nat) (Ad0 : Nat) (Fs0 : List Value) (Ad1 : Nat) (Fa0 : Nat → Int32) (Ka0 : ClassId) (k_Fs0 : fh Fs0 15 [(2, .int 2), (1, .ref Ad1), (1, .ref Ad1), (1, .ref Ad1), (1, .ref Ad1)])  : Met l yX0_putNumber w_z_X0_putNumber ({ frames := 1, cells := 0, slots := 0, locals := 21 }) (va_Pc [.ref Ad0, .long 0] (fun U => U.heap.size = sz ∧ Wd dC dI [(Ka0, .int)] (fun _ => True) [(Ad0, .inr (3, Fs0)), (Ad1, .inl (Ka0, 4000, .inl Fa0))] U)) (va_Qv (fun (u : List Value × (Nat → Int32)) => (ow Fs0 (u.1) 15 [2] [(2, .int 3), (1, .ref Ad1), (1, .ref Ad1), (1, .ref Ad1), (1, .ref Ad1), (1, .ref Ad1), (1, .ref Ad1), (1, .ref Ad1), (1, .ref Ad1)] ∧ (u.2) (2 : Int32).toNatClampNeg = 0)) (fun (u : List Value × (Nat → Int32)) t => Wd dC dI [(Ka0, .int)] (va_A [(Ad0, .inr (3, Fs0)), (Ad1, .inl (Ka0, 4000, .inl Fa0))] sz) [(Ad0, .inr (3, (u.1))), (Ad1, .inl (Ka0, 4000, .inl ((u.2))))] t) (va_A [(Ad0, .inr (3, Fs0)), (Ad1, .inl (Ka0, 4000, .inl Fa0))] sz))  0 0 (va_A [(Ad0, .inr (3, Fs0)), (Ad1, .inl (Ka0, 4000, .inl Fa0))] sz) := by
  refine Met.ofW (cc := cX0_putNumber) (maxL := 6) (ret := none) (by decide) rfl ?_
  intro p e s m args below meth c s₁ B hml hv
  obtain ⟨rfl, hsz, hP, hK, hD0⟩ := hv
  have hx := B.exec
  have hb := B.bytes
  have hr := B.returns
  have hts := atoms_spec (ws := w_z_X0_putNumber) B.pre
  have hown : s.vm.findClass RX0 = some m.cls := findClass_of_methodNamed B.named
  have hlocks := B.notSynchronized
  subst hsz
  have hD := hD0.self (sz := s.heap.size)
  generalize hAe : va_A [(Ad0, .inr (3, Fs0)), (Ad1, .inl (Ka0, 4000, .inl Fa0))] s.heap.size = A at hD ⊢
  have hA : ∀ q : Nat, s.heap.size ≤ q → A q := fun q h => by rw [← hAe]; exact Or.inr h
  have hS : va_S A s.heap s.heap [] := va_S.rf
  have hl := lv_entry ([.ref Ad0, .long 0]) (n := 6) (Nat.le_of_ble_eq_true rfl)
  rw [lg_entry_eq]
  generalize (lg_sl ([.ref Ad0, .long 0]) ++ List.replicate (6 - (lg_sl ([.ref Ad0, .long 0])).length) Slot.unset).toArray = ls at hl ⊢
  have hl : lv_has ls 6 [(0, .ref Ad0), (1, .long 0)] := hl
  have o_Fs0 := ow_0 k_Fs0
  refine lv_lload_n hx hb dX0_putNumber_0 rfl (lv_at hl 1 rfl) ?_
  refine lv_lstore_n (lv' := [(3, .long 0), (0, .ref Ad0), (1, .long 0)]) hx hb dX0_putNumber_1 rfl hl (by decide) rfl (fun ls hl => ?_)
  refine lv_iconst (v := 0) hx hb dX0_putNumber_2 (by decide) ?_
  refine lv_istore (lv' := [(5, .int 0), (3, .long 0), (0, .ref Ad0), (1, .long 0)]) hx hb dX0_putNumber_3 hl (by decide) rfl (fun ls hl => ?_)
  have HL1 : ∀ (n j120 : Nat) (x121 : Int32), x121 = nI j120 → 0 ≤ j120 → j120 ≤ 10 → 11 ≤ j120 + n → ∀ (H : Heap) (locs : List Loc) (ls : Array Slot), va_P (dC, dI) vwCl [(Ad0, .inr (3, Fs0)), (Ad1, .inl (Ka0, 4000, .inl Fa0))] H → va_D A [(Ad0, .inr (3, Fs0)), (Ad1, .inl (Ka0, 4000, .inl Fa0))] → va_S A s.heap H locs → lv_has ls 6 [(5, .int x121), (3, .long 0), (0, .ref Ad0), (1, .long 0)] → W p l e (headSpec w_z_X0_putNumber ({ frames := 1, cells := 0, slots := 0, locals := 21 })).room s m ([.ref Ad0, .long 0]).toArray below meth c H locs 0 0 (MQ below (va_Qv (fun (u : List Value × (Nat → Int32)) => (ow Fs0 (u.1) 15 [2] [(2, .int 3), (1, .ref Ad1), (1, .ref Ad1), (1, .ref Ad1), (1, .ref Ad1), (1, .ref Ad1), (1, .ref Ad1), (1, .ref Ad1), (1, .ref Ad1)] ∧ (u.2) (2 : Int32).toNatClampNeg = 0)) (fun (u : List Value × (Nat → Int32)) t => Wd dC dI [(Ka0, .int)] A [(Ad0, .inr (3, (u.1))), (Ad1, .inl (Ka0, 4000, .inl ((u.2))))] t) A) ([.ref Ad0, .long 0]).toArray s 0 0 A) (F0 m 5 ls []) := by
    intro n
    induction n with
    | zero =>
      intro j120 x121 e122 h124 h125 h126
      exact absurd h126 (by omega)
    | succ n ih =>
      intro j120 x121 e122 h124 h125 h126 H locs ls hP hD hS hl
      have t123 : x121.toInt = (j120 : Int) := by rw [e122]; exact nI_toInt (by omega)
      refine lv_iload hx hb dX0_putNumber_5 (lv_at hl 0 rfl) ?_
      refine lv_bipush (v := 10) hx hb dX0_putNumber_7 (by decide) ?_
      refine lv_icmp_ge (tgt := 46) hx hb dX0_putNumber_9 (by decide) (fun c127 => ?_) (fun c127 => ?_)
      · skip
        refine lv_aload_n hx hb dX0_putNumber_46 rfl (lv_at hl 2 rfl) ?_
        refine lv_lload_n hx hb dX0_putNumber_47 rfl (lv_at hl 1 rfl) ?_
        refine lv_l2i hx hb dX0_putNumber_48 rfl ?_
        refine lv_topi (fun x128 ex128 => ?_)
        obtain rfl : x128 = 0 := ex128.trans (by decide)
        have hPc := hP.sub (ws' := [(Ad0, .inr (3, Fs0)), (Ad1, .inl (Ka0, 4000, .inl Fa0))]) [0, 1] rfl
        have hDc := hD.sub (ws' := [(Ad0, .inr (3, Fs0)), (Ad1, .inl (Ka0, 4000, .inl Fa0))]) [0, 1] (by decide) rfl
        have hKc := hK.sub (tys' := [(Ka0, .int)]) [0] rfl
        have hFc := va_free (wc := [(Ad0, .inr (3, Fs0)), (Ad1, .inl (Ka0, 4000, .inl Fa0))]) hD hS hA [0, 1] rfl
        refine va_callv (va_runV (As := [.int 0]) (rest := []) ⟨hx, hb, hml, hown, hts⟩ (z_X0_put_2 l dC dI H.size Ad0 Fs0 Ad1 Fa0 Ka0 (fh_sub o_Fs0.2 [0, 1, 1, 1, 1] rfl) ) (cwV 1 hts g_z_X0_putNumber_z_X0_put_2_39 rfl rfl rfl (by decide +kernel) ⟨Nat.le_of_ble_eq_true rfl, Nat.le_of_ble_eq_true rfl⟩) ⟨fun a U g mk q => by obtain ⟨q0, q1, qP, qK, qD⟩ := q; exact ⟨q0, q1, qP, va_K.moved (u := U) (U := U.calling g mk a) (Vm.Alike.refl U.vm) qK, qD⟩, va_recv hK hP (ci := 3) (q0 := 0) rfl rfl, fun U hU hW => ⟨rfl, by rw [hU], by rw [hU]; exact hPc, va_K.moved hW.alike hKc, hDc.weaken (fun _ _ _ _ => trivial)⟩⟩ rfl rfl hl.1 rfl (lv_room (Nat.le_of_ble_eq_true rfl)) dX0_putNumber_49 ⟨Nat.le_of_ble_eq_true rfl, Nat.le_of_ble_eq_true rfl⟩) hS (fun q _ h => hFc q h) hFc (fun u t H1 locs ht hvm hw hB hz1 hk1 hS => ?_)
        obtain ⟨s129, f130⟩ := u
        obtain ⟨hP1, hK1, hD1⟩ := hB
        rw [ht] at hP1
        try dsimp only at hw
        obtain ⟨hP, hD⟩ := va_join (wr := []) (w1 := [(Ad0, .inr (3, s129)), (Ad1, .inl (Ka0, 4000, .inl f130))]) hP hD [0, 1] [] rfl rfl (by decide) (by decide) hk1 hFc hP1 hD1
        have hK := hK.sub (tys' := [(Ka0, .int)]) [0] rfl
        generalize H1 = H at hP hS ⊢
        have hP : va_P (dC, dI) vwCl [(Ad0, .inr (3, s129)), (Ad1, .inl (Ka0, 4000, .inl f130))] H := hP
        have hD : va_D A [(Ad0, .inr (3, s129)), (Ad1, .inl (Ka0, 4000, .inl f130))] := hD
        obtain ⟨o_s129, q131⟩ := hw
        have o_s129 := ow_on o_Fs0 o_s129 (l' := [(2, .int 3), (1, .ref Ad1), (1, .ref Ad1), (1, .ref Ad1), (1, .ref Ad1), (1, .ref Ad1), (1, .ref Ad1), (1, .ref Ad1), (1, .ref Ad1)]) (w' := [2]) rfl rfl
        have hP9 := hP.sub (ws' := [(Ad0, .inr (3, s129)), (Ad1, .inl (Ka0, 4000, .inl f130))]) [0, 1] rfl
        have hD9 := hD.sub (ws' := [(Ad0, .inr (3, s129)), (Ad1, .inl (Ka0, 4000, .inl f130))]) [0, 1] (by decide) rfl
        have hK9 := hK.sub (tys' := [(Ka0, .int)]) [0] rfl
        exact W.vret hx hb hr (fun t ht hW => ⟨⟨(s129, f130), rfl, ⟨o_s129, q131⟩, by rw [ht]; exact hP9, va_K.moved hW.alike hK9, hD9⟩, hS.F ht⟩) hS.2.2 dX0_putNumber_52
      · skip
        refine lv_lload_n hx hb dX0_putNumber_12 rfl (lv_at hl 1 rfl) ?_
        refine lv_bipush (v := 7) hx hb dX0_putNumber_13 (by decide) ?_
        refine lv_lushr hx hb dX0_putNumber_15 rfl ?_
        refine lv_topl (fun x132 ex132 => ?_)
        obtain rfl : x132 = 0 := ex132.trans (by decide)
        refine lv_lconst (v := 0) hx hb dX0_putNumber_16 (by decide) ?_
        refine W.lcmp hx hb dX0_putNumber_17  ?_
        refine lv_topi (fun x133 ex133 => ?_)
        obtain rfl : x133 = 0 := ex133.trans (by decide)
        refine lv_if_eq (tgt := 46) hx hb dX0_putNumber_18 (by decide) (fun c134 => ?_) (fun c134 => absurd c134 (by decide))
        refine lv_aload_n hx hb dX0_putNumber_46 rfl (lv_at hl 2 rfl) ?_
        refine lv_lload_n hx hb dX0_putNumber_47 rfl (lv_at hl 1 rfl) ?_
        refine lv_l2i hx hb dX0_putNumber_48 rfl ?_
        refine lv_topi (fun x135 ex135 => ?_)
        obtain rfl : x135 = 0 := ex135.trans (by decide)
        have hPc := hP.sub (ws' := [(Ad0, .inr (3, Fs0)), (Ad1, .inl (Ka0, 4000, .inl Fa0))]) [0, 1] rfl
        have hDc := hD.sub (ws' := [(Ad0, .inr (3, Fs0)), (Ad1, .inl (Ka0, 4000, .inl Fa0))]) [0, 1] (by decide) rfl
        have hKc := hK.sub (tys' := [(Ka0, .int)]) [0] rfl
        have hFc := va_free (wc := [(Ad0, .inr (3, Fs0)), (Ad1, .inl (Ka0, 4000, .inl Fa0))]) hD hS hA [0, 1] rfl
        refine va_callv (va_runV (As := [.int 0]) (rest := []) ⟨hx, hb, hml, hown, hts⟩ (z_X0_put_2 l dC dI H.size Ad0 Fs0 Ad1 Fa0 Ka0 (fh_sub o_Fs0.2 [0, 1, 1, 1, 1] rfl) ) (cwV 1 hts g_z_X0_putNumber_z_X0_put_2_39 rfl rfl rfl (by decide +kernel) ⟨Nat.le_of_ble_eq_true rfl, Nat.le_of_ble_eq_true rfl⟩) ⟨fun a U g mk q => by obtain ⟨q0, q1, qP, qK, qD⟩ := q; exact ⟨q0, q1, qP, va_K.moved (u := U) (U := U.calling g mk a) (Vm.Alike.refl U.vm) qK, qD⟩, va_recv hK hP (ci := 3) (q0 := 0) rfl rfl, fun U hU hW => ⟨rfl, by rw [hU], by rw [hU]; exact hPc, va_K.moved hW.alike hKc, hDc.weaken (fun _ _ _ _ => trivial)⟩⟩ rfl rfl hl.1 rfl (lv_room (Nat.le_of_ble_eq_true rfl)) dX0_putNumber_49 ⟨Nat.le_of_ble_eq_true rfl, Nat.le_of_ble_eq_true rfl⟩) hS (fun q _ h => hFc q h) hFc (fun u t H1 locs ht hvm hw hB hz1 hk1 hS => ?_)
        obtain ⟨s136, f137⟩ := u
        obtain ⟨hP1, hK1, hD1⟩ := hB
        rw [ht] at hP1
        try dsimp only at hw
        obtain ⟨hP, hD⟩ := va_join (wr := []) (w1 := [(Ad0, .inr (3, s136)), (Ad1, .inl (Ka0, 4000, .inl f137))]) hP hD [0, 1] [] rfl rfl (by decide) (by decide) hk1 hFc hP1 hD1
        have hK := hK.sub (tys' := [(Ka0, .int)]) [0] rfl
        generalize H1 = H at hP hS ⊢
        have hP : va_P (dC, dI) vwCl [(Ad0, .inr (3, s136)), (Ad1, .inl (Ka0, 4000, .inl f137))] H := hP
        have hD : va_D A [(Ad0, .inr (3, s136)), (Ad1, .inl (Ka0, 4000, .inl f137))] := hD
        obtain ⟨o_s136, q138⟩ := hw
        have o_s136 := ow_on o_Fs0 o_s136 (l' := [(2, .int 3), (1, .ref Ad1), (1, .ref Ad1), (1, .ref Ad1), (1, .ref Ad1), (1, .ref Ad1), (1, .ref Ad1), (1, .ref Ad1), (1, .ref Ad1)]) (w' := [2]) rfl rfl
        have hP9 := hP.sub (ws' := [(Ad0, .inr (3, s136)), (Ad1, .inl (Ka0, 4000, .inl f137))]) [0, 1] rfl
        have hD9 := hD.sub (ws' := [(Ad0, .inr (3, s136)), (Ad1, .inl (Ka0, 4000, .inl f137))]) [0, 1] (by decide) rfl
        have hK9 := hK.sub (tys' := [(Ka0, .int)]) [0] rfl
        exact W.vret hx hb hr (fun t ht hW => ⟨⟨(s136, f137), rfl, ⟨o_s136, q138⟩, by rw [ht]; exact hP9, va_K.moved hW.alike hK9, hD9⟩, hS.F ht⟩) hS.2.2 dX0_putNumber_52
  exact HL1 11 0 (0)  (by decide) (by omega) (by omega) (by omega)  _ _ _ hP hD hS  hl

def l_z_X0_put_3 : List Cond := [.fieldLink RX0 35 "HeapWorks$Archive" "filled" "I", .fieldLink RX0 19 "HeapWorks$Archive" "buffer" "[I"]
def w_z_X0_put_3 : List Cond := .code yX0_put cX0_put 2 none :: (l_z_X0_put_3 ++ (wsX00))
theorem in_z_X0_put_3_X0 : ∀ w ∈ wsX00, w ∈ w_z_X0_put_3 := fun w h => List.mem_cons_of_mem _ (List.mem_append_right _ (h))
set_option maxHeartbeats 4000000 in
set_option maxRecDepth 100000 in
theorem z_X0_put_3 (l : Launch) (dC : Nat → ClassId) (dI : Nat → Nat → Nat) (sz : Nat) (Ad0 : Nat) (Fs0 : List Value) (Ad1 : Nat) (Fa0 : Nat → Int32) (Ka0 : ClassId) (k_Fs0 : fh Fs0 15 [(2, .int 3), (1, .ref Ad1), (1, .ref Ad1), (1, .ref Ad1), (1, .ref Ad1), (1, .ref Ad1), (1, .ref Ad1), (1, .ref Ad1), (1, .ref Ad1), (1, .ref Ad1), (1, .ref Ad1), (1, .ref Ad1), (1, .ref Ad1)])  : Met l yX0_put w_z_X0_put_3 ({ frames := 0, cells := 0, slots := 0, locals := 0 }) (va_Pc [.ref Ad0, .int 0] (fun U => U.heap.size = sz ∧ Wd dC dI [(Ka0, .int)] (fun _ => True) [(Ad0, .inr (3, Fs0)), (Ad1, .inl (Ka0, 4000, .inl Fa0))] U)) (va_Qv (fun (u : List Value × (Nat → Int32)) => (ow Fs0 (u.1) 15 [2] [(2, .int 4), (1, .ref Ad1), (1, .ref Ad1), (1, .ref Ad1), (1, .ref Ad1), (1, .ref Ad1), (1, .ref Ad1), (1, .ref Ad1), (1, .ref Ad1), (1, .ref Ad1), (1, .ref Ad1), (1, .ref Ad1), (1, .ref Ad1)] ∧ (u.2) (3 : Int32).toNatClampNeg = 0)) (fun (u : List Value × (Nat → Int32)) t => Wd dC dI [(Ka0, .int)] (va_A [(Ad0, .inr (3, Fs0)), (Ad1, .inl (Ka0, 4000, .inl Fa0))] sz) [(Ad0, .inr (3, (u.1))), (Ad1, .inl (Ka0, 4000, .inl ((u.2))))] t) (va_A [(Ad0, .inr (3, Fs0)), (Ad1, .inl (Ka0, 4000, .inl Fa0))] sz))  0 0 (va_A [(Ad0, .inr (3, Fs0)), (Ad1, .inl (Ka0, 4000, .inl Fa0))] sz) := by
  refine Met.ofW (cc := cX0_put) (maxL := 2) (ret := none) (by decide) rfl ?_
  intro p e s m args below meth c s₁ B hml hv
  obtain ⟨rfl, hsz, hP, hK, hD0⟩ := hv
  have hx := B.exec
  have hb := B.bytes
  have hr := B.returns
  have hts := atoms_spec (ws := w_z_X0_put_3) B.pre
  have hown : s.vm.findClass RX0 = some m.cls := findClass_of_methodNamed B.named
  have hlocks := B.notSynchronized
  subst hsz
  have hD := hD0.self (sz := s.heap.size)
  generalize hAe : va_A [(Ad0, .inr (3, Fs0)), (Ad1, .inl (Ka0, 4000, .inl Fa0))] s.heap.size = A at hD ⊢
  have hA : ∀ q : Nat, s.heap.size ≤ q → A q := fun q h => by rw [← hAe]; exact Or.inr h
  have hS : va_S A s.heap s.heap [] := va_S.rf
  have hl := lv_entry ([.ref Ad0, .int 0]) (n := 2) (Nat.le_of_ble_eq_true rfl)
  rw [lg_entry_eq]
  generalize (lg_sl ([.ref Ad0, .int 0]) ++ List.replicate (2 - (lg_sl ([.ref Ad0, .int 0])).length) Slot.unset).toArray = ls at hl ⊢
  have hl : lv_has ls 2 [(0, .ref Ad0), (1, .int 0)] := hl
  have o_Fs0 := ow_0 k_Fs0
  refine lv_aload_n hx hb dX0_put_0 rfl (lv_at hl 0 rfl) ?_
  refine va_get (D := (dC, dI)) (ci := 3) (v := .int 3) (C := RX0) (T := TX0) (N := 15) hx hb hts (in_z_X0_put_3_X0) hown hK hP 0 rfl rfl 2 (by decide) (hts (.fieldLink RX0 35 "HeapWorks$Archive" "filled" "I") (by decide +kernel)) (fun _ h9 => h9) (ow_at o_Fs0 0 rfl) dX0_put_1 ?_
  refine lv_aload_n hx hb dX0_put_4 rfl (lv_at hl 0 rfl) ?_
  refine va_get (D := (dC, dI)) (ci := 3) (v := .ref Ad1) (C := RX0) (T := TX0) (N := 15) hx hb hts (in_z_X0_put_3_X0) hown hK hP 0 rfl rfl 1 (by decide) (hts (.fieldLink RX0 19 "HeapWorks$Archive" "buffer" "[I") (by decide +kernel)) (fun _ h9 => h9) (ow_at o_Fs0 1 rfl) dX0_put_5 ?_
  refine va_alen (v := 4000) hx hb hK hP 1 0 rfl rfl (show Int32.ofNat 4000 = 4000 from by decide) dX0_put_8 ?_
  refine lv_icmp_ge (tgt := 22) hx hb dX0_put_9 (by decide) (fun c101 => absurd c101 (by decide)) (fun c101 => ?_)
  refine lv_aload_n hx hb dX0_put_12 rfl (lv_at hl 0 rfl) ?_
  refine va_get (D := (dC, dI)) (ci := 3) (v := .ref Ad1) (C := RX0) (T := TX0) (N := 15) hx hb hts (in_z_X0_put_3_X0) hown hK hP 0 rfl rfl 1 (by decide) (hts (.fieldLink RX0 19 "HeapWorks$Archive" "buffer" "[I") (by decide +kernel)) (fun _ h9 => h9) (ow_at o_Fs0 1 rfl) dX0_put_13 ?_
  refine lv_aload_n hx hb dX0_put_16 rfl (lv_at hl 0 rfl) ?_
  refine va_get (D := (dC, dI)) (ci := 3) (v := .int 3) (C := RX0) (T := TX0) (N := 15) hx hb hts (in_z_X0_put_3_X0) hown hK hP 0 rfl rfl 2 (by decide) (hts (.fieldLink RX0 35 "HeapWorks$Archive" "filled" "I") (by decide +kernel)) (fun _ h9 => h9) (ow_at o_Fs0 0 rfl) dX0_put_17 ?_
  refine lv_iload_n hx hb dX0_put_20 rfl (lv_at hl 1 rfl) ?_
  refine va_iast hx hb hK hP hD hS 1 0 rfl rfl (show vp_in 3 4000 from by unfold vp_in; decide) dX0_put_21 (fun H locs hP hD hS => ?_)
  have hP : va_P (dC, dI) vwCl [(Ad0, .inr (3, Fs0)), (Ad1, .inl (Ka0, 4000, .inl (upd Fa0 (3 : Int32).toNatClampNeg 0)))] H := hP
  have hD : va_D A [(Ad0, .inr (3, Fs0)), (Ad1, .inl (Ka0, 4000, .inl (upd Fa0 (3 : Int32).toNatClampNeg 0)))] := hD
  have q103 : (upd Fa0 (3 : Int32).toNatClampNeg 0) (3 : Int32).toNatClampNeg = 0 := pk_us
  generalize upd Fa0 (3 : Int32).toNatClampNeg 0 = f102 at hP hD q103
  refine lv_aload_n hx hb dX0_put_22 rfl (lv_at hl 0 rfl) ?_
  refine lv_dup hx hb dX0_put_23 rfl ?_
  refine va_get (D := (dC, dI)) (ci := 3) (v := .int 3) (C := RX0) (T := TX0) (N := 15) hx hb hts (in_z_X0_put_3_X0) hown hK hP 0 rfl rfl 2 (by decide) (hts (.fieldLink RX0 35 "HeapWorks$Archive" "filled" "I") (by decide +kernel)) (fun _ h9 => h9) (ow_at o_Fs0 0 rfl) dX0_put_24 ?_
  refine lv_iconst (v := 1) hx hb dX0_put_27 (by decide) ?_
  refine lv_iadd hx hb dX0_put_28  ?_
  refine lv_topi (fun x104 ex104 => ?_)
  obtain rfl : x104 = 4 := ex104.trans (by decide)
  refine va_put (D := (dC, dI)) (ci := 3) (v := .int 4) (ty := .int) (C := RX0) (T := TX0) (N := 15) hx hb hts (in_z_X0_put_3_X0) tyX0 tyX0_ok nmX0 hown hK hP hD hS 0 rfl rfl 2 (by decide) (hts (.fieldLink RX0 35 "HeapWorks$Archive" "filled" "I") (by decide +kernel)) (fun _ h9 => h9) rfl (by decide +kernel) rfl rfl (by rw [o_Fs0.2.1]; decide) dX0_put_29 (fun H locs hP hD hS => ?_)
  have hP : va_P (dC, dI) vwCl [(Ad0, .inr (3, (Fs0.set 2 (.int 4)))), (Ad1, .inl (Ka0, 4000, .inl f102))] H := hP
  have hD : va_D A [(Ad0, .inr (3, (Fs0.set 2 (.int 4)))), (Ad1, .inl (Ka0, 4000, .inl f102))] := hD
  have o_s105 := ow_set o_Fs0 2 (.int 4) (by decide) (l' := [(2, .int 4), (1, .ref Ad1), (1, .ref Ad1), (1, .ref Ad1), (1, .ref Ad1), (1, .ref Ad1), (1, .ref Ad1), (1, .ref Ad1), (1, .ref Ad1), (1, .ref Ad1), (1, .ref Ad1), (1, .ref Ad1), (1, .ref Ad1)]) (w' := [2]) rfl rfl
  generalize (Fs0.set 2 (.int 4)) = s105 at hP hD o_s105
  have hP9 := hP.sub (ws' := [(Ad0, .inr (3, s105)), (Ad1, .inl (Ka0, 4000, .inl f102))]) [0, 1] rfl
  have hD9 := hD.sub (ws' := [(Ad0, .inr (3, s105)), (Ad1, .inl (Ka0, 4000, .inl f102))]) [0, 1] (by decide) rfl
  have hK9 := hK.sub (tys' := [(Ka0, .int)]) [0] rfl
  exact W.vret hx hb hr (fun t ht hW => ⟨⟨(s105, f102), rfl, ⟨o_s105, q103⟩, by rw [ht]; exact hP9, va_K.moved hW.alike hK9, hD9⟩, hS.F ht⟩) hS.2.2 dX0_put_32

def l_z_X0_putNumber_1 : List Cond := [.methodLink RX0 39 yX0_put, .instanceMethod yX0_put, .selects RX0 yX0_put yX0_put, .initialized RX0, .code yX0_put cX0_put 2 none, .fieldLink RX0 35 "HeapWorks$Archive" "filled" "I", .fieldLink RX0 19 "HeapWorks$Archive" "buffer" "[I"]
def w_z_X0_putNumber_1 : List Cond := .code yX0_putNumber cX0_putNumber 6 none :: (l_z_X0_putNumber_1 ++ (wsX00))
theorem in_z_X0_putNumber_1_X0 : ∀ w ∈ wsX00, w ∈ w_z_X0_putNumber_1 := fun w h => List.mem_cons_of_mem _ (List.mem_append_right _ (h))
theorem g_z_X0_putNumber_1_z_X0_put_3_39 : GoodIn w_z_X0_putNumber_1 (wsV RX0 39 RX0 yX0_put w_z_X0_put_3) := goodIn_app (goodIn_r (([.methodLink RX0 39 yX0_put, .instanceMethod yX0_put, .selects RX0 yX0_put yX0_put, .initialized RX0] : List Cond)) [1, 2, 3, 4] rfl (by decide +kernel)) (goodIn_ca (goodIn_r (.code yX0_put cX0_put 2 none :: l_z_X0_put_3) [5, 6, 7] rfl (by decide +kernel)) (goodIn_in (in_z_X0_putNumber_1_X0) gd_X0))
set_option maxHeartbeats 4000000 in
set_option maxRecDepth 100000 in
theorem z_X0_putNumber_1 (l : Launch) (dC : Nat → ClassId) (dI : Nat → Nat → Nat) (sz : Nat) (Ad0 : Nat) (Fs0 : List Value) (Ad1 : Nat) (Fa0 : Nat → Int32) (Ka0 : ClassId) (k_Fs0 : fh Fs0 15 [(2, .int 3), (1, .ref Ad1), (1, .ref Ad1), (1, .ref Ad1), (1, .ref Ad1), (1, .ref Ad1), (1, .ref Ad1), (1, .ref Ad1), (1, .ref Ad1), (1, .ref Ad1), (1, .ref Ad1), (1, .ref Ad1), (1, .ref Ad1)])  : Met l yX0_putNumber w_z_X0_putNumber_1 ({ frames := 1, cells := 0, slots := 0, locals := 21 }) (va_Pc [.ref Ad0, .long 0] (fun U => U.heap.size = sz ∧ Wd dC dI [(Ka0, .int)] (fun _ => True) [(Ad0, .inr (3, Fs0)), (Ad1, .inl (Ka0, 4000, .inl Fa0))] U)) (va_Qv (fun (u : List Value × (Nat → Int32)) => (ow Fs0 (u.1) 15 [2] [(2, .int 4), (1, .ref Ad1), (1, .ref Ad1), (1, .ref Ad1), (1, .ref Ad1), (1, .ref Ad1), (1, .ref Ad1), (1, .ref Ad1), (1, .ref Ad1), (1, .ref Ad1), (1, .ref Ad1), (1, .ref Ad1), (1, .ref Ad1), (1, .ref Ad1), (1, .ref Ad1), (1, .ref Ad1), (1, .ref Ad1), (1, .ref Ad1), (1, .ref Ad1), (1, .ref Ad1), (1, .ref Ad1), (1, .ref Ad1), (1, .ref Ad1), (1, .ref Ad1), (1, .ref Ad1)] ∧ (u.2) (3 : Int32).toNatClampNeg = 0)) (fun (u : List Value × (Nat → Int32)) t => Wd dC dI [(Ka0, .int)] (va_A [(Ad0, .inr (3, Fs0)), (Ad1, .inl (Ka0, 4000, .inl Fa0))] sz) [(Ad0, .inr (3, (u.1))), (Ad1, .inl (Ka0, 4000, .inl ((u.2))))] t) (va_A [(Ad0, .inr (3, Fs0)), (Ad1, .inl (Ka0, 4000, .inl Fa0))] sz))  0 0 (va_A [(Ad0, .inr (3, Fs0)), (Ad1, .inl (Ka0, 4000, .inl Fa0))] sz) := by
  refine Met.ofW (cc := cX0_putNumber) (maxL := 6) (ret := none) (by decide) rfl ?_
  intro p e s m args below meth c s₁ B hml hv
  obtain ⟨rfl, hsz, hP, hK, hD0⟩ := hv
  have hx := B.exec
  have hb := B.bytes
  have hr := B.returns
  have hts := atoms_spec (ws := w_z_X0_putNumber_1) B.pre
  have hown : s.vm.findClass RX0 = some m.cls := findClass_of_methodNamed B.named
  have hlocks := B.notSynchronized
  subst hsz
  have hD := hD0.self (sz := s.heap.size)
  generalize hAe : va_A [(Ad0, .inr (3, Fs0)), (Ad1, .inl (Ka0, 4000, .inl Fa0))] s.heap.size = A at hD ⊢
  have hA : ∀ q : Nat, s.heap.size ≤ q → A q := fun q h => by rw [← hAe]; exact Or.inr h
  have hS : va_S A s.heap s.heap [] := va_S.rf
  have hl := lv_entry ([.ref Ad0, .long 0]) (n := 6) (Nat.le_of_ble_eq_true rfl)
  rw [lg_entry_eq]
  generalize (lg_sl ([.ref Ad0, .long 0]) ++ List.replicate (6 - (lg_sl ([.ref Ad0, .long 0])).length) Slot.unset).toArray = ls at hl ⊢
  have hl : lv_has ls 6 [(0, .ref Ad0), (1, .long 0)] := hl
  have o_Fs0 := ow_0 k_Fs0
  refine lv_lload_n hx hb dX0_putNumber_0 rfl (lv_at hl 1 rfl) ?_
  refine lv_lstore_n (lv' := [(3, .long 0), (0, .ref Ad0), (1, .long 0)]) hx hb dX0_putNumber_1 rfl hl (by decide) rfl (fun ls hl => ?_)
  refine lv_iconst (v := 0) hx hb dX0_putNumber_2 (by decide) ?_
  refine lv_istore (lv' := [(5, .int 0), (3, .long 0), (0, .ref Ad0), (1, .long 0)]) hx hb dX0_putNumber_3 hl (by decide) rfl (fun ls hl => ?_)
  have HL1 : ∀ (n j120 : Nat) (x121 : Int32), x121 = nI j120 → 0 ≤ j120 → j120 ≤ 10 → 11 ≤ j120 + n → ∀ (H : Heap) (locs : List Loc) (ls : Array Slot), va_P (dC, dI) vwCl [(Ad0, .inr (3, Fs0)), (Ad1, .inl (Ka0, 4000, .inl Fa0))] H → va_D A [(Ad0, .inr (3, Fs0)), (Ad1, .inl (Ka0, 4000, .inl Fa0))] → va_S A s.heap H locs → lv_has ls 6 [(5, .int x121), (3, .long 0), (0, .ref Ad0), (1, .long 0)] → W p l e (headSpec w_z_X0_putNumber_1 ({ frames := 1, cells := 0, slots := 0, locals := 21 })).room s m ([.ref Ad0, .long 0]).toArray below meth c H locs 0 0 (MQ below (va_Qv (fun (u : List Value × (Nat → Int32)) => (ow Fs0 (u.1) 15 [2] [(2, .int 4), (1, .ref Ad1), (1, .ref Ad1), (1, .ref Ad1), (1, .ref Ad1), (1, .ref Ad1), (1, .ref Ad1), (1, .ref Ad1), (1, .ref Ad1), (1, .ref Ad1), (1, .ref Ad1), (1, .ref Ad1), (1, .ref Ad1), (1, .ref Ad1), (1, .ref Ad1), (1, .ref Ad1), (1, .ref Ad1), (1, .ref Ad1), (1, .ref Ad1), (1, .ref Ad1), (1, .ref Ad1), (1, .ref Ad1), (1, .ref Ad1), (1, .ref Ad1), (1, .ref Ad1)] ∧ (u.2) (3 : Int32).toNatClampNeg = 0)) (fun (u : List Value × (Nat → Int32)) t => Wd dC dI [(Ka0, .int)] A [(Ad0, .inr (3, (u.1))), (Ad1, .inl (Ka0, 4000, .inl ((u.2))))] t) A) ([.ref Ad0, .long 0]).toArray s 0 0 A) (F0 m 5 ls []) := by
    intro n
    induction n with
    | zero =>
      intro j120 x121 e122 h124 h125 h126
      exact absurd h126 (by omega)
    | succ n ih =>
      intro j120 x121 e122 h124 h125 h126 H locs ls hP hD hS hl
      have t123 : x121.toInt = (j120 : Int) := by rw [e122]; exact nI_toInt (by omega)
      refine lv_iload hx hb dX0_putNumber_5 (lv_at hl 0 rfl) ?_
      refine lv_bipush (v := 10) hx hb dX0_putNumber_7 (by decide) ?_
      refine lv_icmp_ge (tgt := 46) hx hb dX0_putNumber_9 (by decide) (fun c127 => ?_) (fun c127 => ?_)
      · skip
        refine lv_aload_n hx hb dX0_putNumber_46 rfl (lv_at hl 2 rfl) ?_
        refine lv_lload_n hx hb dX0_putNumber_47 rfl (lv_at hl 1 rfl) ?_
        refine lv_l2i hx hb dX0_putNumber_48 rfl ?_
        refine lv_topi (fun x128 ex128 => ?_)
        obtain rfl : x128 = 0 := ex128.trans (by decide)
        have hPc := hP.sub (ws' := [(Ad0, .inr (3, Fs0)), (Ad1, .inl (Ka0, 4000, .inl Fa0))]) [0, 1] rfl
        have hDc := hD.sub (ws' := [(Ad0, .inr (3, Fs0)), (Ad1, .inl (Ka0, 4000, .inl Fa0))]) [0, 1] (by decide) rfl
        have hKc := hK.sub (tys' := [(Ka0, .int)]) [0] rfl
        have hFc := va_free (wc := [(Ad0, .inr (3, Fs0)), (Ad1, .inl (Ka0, 4000, .inl Fa0))]) hD hS hA [0, 1] rfl
        refine va_callv (va_runV (As := [.int 0]) (rest := []) ⟨hx, hb, hml, hown, hts⟩ (z_X0_put_3 l dC dI H.size Ad0 Fs0 Ad1 Fa0 Ka0 (fh_sub o_Fs0.2 [0, 1, 1, 1, 1, 1, 1, 1, 1, 1, 1, 1, 1] rfl) ) (cwV 1 hts g_z_X0_putNumber_1_z_X0_put_3_39 rfl rfl rfl (by decide +kernel) ⟨Nat.le_of_ble_eq_true rfl, Nat.le_of_ble_eq_true rfl⟩) ⟨fun a U g mk q => by obtain ⟨q0, q1, qP, qK, qD⟩ := q; exact ⟨q0, q1, qP, va_K.moved (u := U) (U := U.calling g mk a) (Vm.Alike.refl U.vm) qK, qD⟩, va_recv hK hP (ci := 3) (q0 := 0) rfl rfl, fun U hU hW => ⟨rfl, by rw [hU], by rw [hU]; exact hPc, va_K.moved hW.alike hKc, hDc.weaken (fun _ _ _ _ => trivial)⟩⟩ rfl rfl hl.1 rfl (lv_room (Nat.le_of_ble_eq_true rfl)) dX0_putNumber_49 ⟨Nat.le_of_ble_eq_true rfl, Nat.le_of_ble_eq_true rfl⟩) hS (fun q _ h => hFc q h) hFc (fun u t H1 locs ht hvm hw hB hz1 hk1 hS => ?_)
        obtain ⟨s129, f130⟩ := u
        obtain ⟨hP1, hK1, hD1⟩ := hB
        rw [ht] at hP1
        try dsimp only at hw
        obtain ⟨hP, hD⟩ := va_join (wr := []) (w1 := [(Ad0, .inr (3, s129)), (Ad1, .inl (Ka0, 4000, .inl f130))]) hP hD [0, 1] [] rfl rfl (by decide) (by decide) hk1 hFc hP1 hD1
        have hK := hK.sub (tys' := [(Ka0, .int)]) [0] rfl
        generalize H1 = H at hP hS ⊢
        have hP : va_P (dC, dI) vwCl [(Ad0, .inr (3, s129)), (Ad1, .inl (Ka0, 4000, .inl f130))] H := hP
        have hD : va_D A [(Ad0, .inr (3, s129)), (Ad1, .inl (Ka0, 4000, .inl f130))] := hD
        obtain ⟨o_s129, q131⟩ := hw
        have o_s129 := ow_on o_Fs0 o_s129 (l' := [(2, .int 4), (1, .ref Ad1), (1, .ref Ad1), (1, .ref Ad1), (1, .ref Ad1), (1, .ref Ad1), (1, .ref Ad1), (1, .ref Ad1), (1, .ref Ad1), (1, .ref Ad1), (1, .ref Ad1), (1, .ref Ad1), (1, .ref Ad1), (1, .ref Ad1), (1, .ref Ad1), (1, .ref Ad1), (1, .ref Ad1), (1, .ref Ad1), (1, .ref Ad1), (1, .ref Ad1), (1, .ref Ad1), (1, .ref Ad1), (1, .ref Ad1), (1, .ref Ad1), (1, .ref Ad1)]) (w' := [2]) rfl rfl
        have hP9 := hP.sub (ws' := [(Ad0, .inr (3, s129)), (Ad1, .inl (Ka0, 4000, .inl f130))]) [0, 1] rfl
        have hD9 := hD.sub (ws' := [(Ad0, .inr (3, s129)), (Ad1, .inl (Ka0, 4000, .inl f130))]) [0, 1] (by decide) rfl
        have hK9 := hK.sub (tys' := [(Ka0, .int)]) [0] rfl
        exact W.vret hx hb hr (fun t ht hW => ⟨⟨(s129, f130), rfl, ⟨o_s129, q131⟩, by rw [ht]; exact hP9, va_K.moved hW.alike hK9, hD9⟩, hS.F ht⟩) hS.2.2 dX0_putNumber_52
      · skip
        refine lv_lload_n hx hb dX0_putNumber_12 rfl (lv_at hl 1 rfl) ?_
        refine lv_bipush (v := 7) hx hb dX0_putNumber_13 (by decide) ?_
        refine lv_lushr hx hb dX0_putNumber_15 rfl ?_
        refine lv_topl (fun x132 ex132 => ?_)
        obtain rfl : x132 = 0 := ex132.trans (by decide)
        refine lv_lconst (v := 0) hx hb dX0_putNumber_16 (by decide) ?_
        refine W.lcmp hx hb dX0_putNumber_17  ?_
        refine lv_topi (fun x133 ex133 => ?_)
        obtain rfl : x133 = 0 := ex133.trans (by decide)
        refine lv_if_eq (tgt := 46) hx hb dX0_putNumber_18 (by decide) (fun c134 => ?_) (fun c134 => absurd c134 (by decide))
        refine lv_aload_n hx hb dX0_putNumber_46 rfl (lv_at hl 2 rfl) ?_
        refine lv_lload_n hx hb dX0_putNumber_47 rfl (lv_at hl 1 rfl) ?_
        refine lv_l2i hx hb dX0_putNumber_48 rfl ?_
        refine lv_topi (fun x135 ex135 => ?_)
        obtain rfl : x135 = 0 := ex135.trans (by decide)
        have hPc := hP.sub (ws' := [(Ad0, .inr (3, Fs0)), (Ad1, .inl (Ka0, 4000, .inl Fa0))]) [0, 1] rfl
        have hDc := hD.sub (ws' := [(Ad0, .inr (3, Fs0)), (Ad1, .inl (Ka0, 4000, .inl Fa0))]) [0, 1] (by decide) rfl
        have hKc := hK.sub (tys' := [(Ka0, .int)]) [0] rfl
        have hFc := va_free (wc := [(Ad0, .inr (3, Fs0)), (Ad1, .inl (Ka0, 4000, .inl Fa0))]) hD hS hA [0, 1] rfl
        refine va_callv (va_runV (As := [.int 0]) (rest := []) ⟨hx, hb, hml, hown, hts⟩ (z_X0_put_3 l dC dI H.size Ad0 Fs0 Ad1 Fa0 Ka0 (fh_sub o_Fs0.2 [0, 1, 1, 1, 1, 1, 1, 1, 1, 1, 1, 1, 1] rfl) ) (cwV 1 hts g_z_X0_putNumber_1_z_X0_put_3_39 rfl rfl rfl (by decide +kernel) ⟨Nat.le_of_ble_eq_true rfl, Nat.le_of_ble_eq_true rfl⟩) ⟨fun a U g mk q => by obtain ⟨q0, q1, qP, qK, qD⟩ := q; exact ⟨q0, q1, qP, va_K.moved (u := U) (U := U.calling g mk a) (Vm.Alike.refl U.vm) qK, qD⟩, va_recv hK hP (ci := 3) (q0 := 0) rfl rfl, fun U hU hW => ⟨rfl, by rw [hU], by rw [hU]; exact hPc, va_K.moved hW.alike hKc, hDc.weaken (fun _ _ _ _ => trivial)⟩⟩ rfl rfl hl.1 rfl (lv_room (Nat.le_of_ble_eq_true rfl)) dX0_putNumber_49 ⟨Nat.le_of_ble_eq_true rfl, Nat.le_of_ble_eq_true rfl⟩) hS (fun q _ h => hFc q h) hFc (fun u t H1 locs ht hvm hw hB hz1 hk1 hS => ?_)
        obtain ⟨s136, f137⟩ := u
        obtain ⟨hP1, hK1, hD1⟩ := hB
        rw [ht] at hP1
        try dsimp only at hw
        obtain ⟨hP, hD⟩ := va_join (wr := []) (w1 := [(Ad0, .inr (3, s136)), (Ad1, .inl (Ka0, 4000, .inl f137))]) hP hD [0, 1] [] rfl rfl (by decide) (by decide) hk1 hFc hP1 hD1
        have hK := hK.sub (tys' := [(Ka0, .int)]) [0] rfl
        generalize H1 = H at hP hS ⊢
        have hP : va_P (dC, dI) vwCl [(Ad0, .inr (3, s136)), (Ad1, .inl (Ka0, 4000, .inl f137))] H := hP
        have hD : va_D A [(Ad0, .inr (3, s136)), (Ad1, .inl (Ka0, 4000, .inl f137))] := hD
        obtain ⟨o_s136, q138⟩ := hw
        have o_s136 := ow_on o_Fs0 o_s136 (l' := [(2, .int 4), (1, .ref Ad1), (1, .ref Ad1), (1, .ref Ad1), (1, .ref Ad1), (1, .ref Ad1), (1, .ref Ad1), (1, .ref Ad1), (1, .ref Ad1), (1, .ref Ad1), (1, .ref Ad1), (1, .ref Ad1), (1, .ref Ad1), (1, .ref Ad1), (1, .ref Ad1), (1, .ref Ad1), (1, .ref Ad1), (1, .ref Ad1), (1, .ref Ad1), (1, .ref Ad1), (1, .ref Ad1), (1, .ref Ad1), (1, .ref Ad1), (1, .ref Ad1), (1, .ref Ad1)]) (w' := [2]) rfl rfl
        have hP9 := hP.sub (ws' := [(Ad0, .inr (3, s136)), (Ad1, .inl (Ka0, 4000, .inl f137))]) [0, 1] rfl
        have hD9 := hD.sub (ws' := [(Ad0, .inr (3, s136)), (Ad1, .inl (Ka0, 4000, .inl f137))]) [0, 1] (by decide) rfl
        have hK9 := hK.sub (tys' := [(Ka0, .int)]) [0] rfl
        exact W.vret hx hb hr (fun t ht hW => ⟨⟨(s136, f137), rfl, ⟨o_s136, q138⟩, by rw [ht]; exact hP9, va_K.moved hW.alike hK9, hD9⟩, hS.F ht⟩) hS.2.2 dX0_putNumber_52
  exact HL1 11 0 (0)  (by decide) (by omega) (by omega) (by omega)  _ _ _ hP hD hS  hl

def l_z_X0_checkOf : List Cond := [.constant RX0 91 (16777619)]
def w_z_X0_checkOf : List Cond := .code yX0_checkOf cX0_checkOf 5 (some .int) :: (l_z_X0_checkOf)
set_option maxHeartbeats 4000000 in
set_option maxRecDepth 100000 in
theorem z_X0_checkOf (l : Launch) (dC : Nat → ClassId) (dI : Nat → Nat → Nat) (sz : Nat) (Ad0 : Nat) (Fa0 : Nat → Int32) (Ka0 : ClassId)  (hk0_Fa0 : Fa0 (3 : Int32).toNatClampNeg = 0) : Met l yX0_checkOf w_z_X0_checkOf ({ frames := 0, cells := 0, slots := 0, locals := 0 }) (va_Pc [.ref Ad0, .int 0, .int 4] (fun U => U.heap.size = sz ∧ Wd dC dI [(Ka0, .int)] (fun _ => True) [(Ad0, .inl (Ka0, 4000, .inl Fa0))] U)) (va_Qi (fun (r : Int32) (u : Unit) => True) (fun (u : Unit) t => Wd dC dI [(Ka0, .int)] (va_A [(Ad0, .inl (Ka0, 4000, .inl Fa0))] sz) [(Ad0, .inl (Ka0, 4000, .inl Fa0))] t) (va_A [(Ad0, .inl (Ka0, 4000, .inl Fa0))] sz))  0 0 (va_A [(Ad0, .inl (Ka0, 4000, .inl Fa0))] sz) := by
  refine Met.ofW (cc := cX0_checkOf) (maxL := 5) (ret := (some .int)) (by decide) rfl ?_
  intro p e s m args below meth c s₁ B hml hv
  obtain ⟨rfl, hsz, hP, hK, hD0⟩ := hv
  have hx := B.exec
  have hb := B.bytes
  have hr := B.returns
  have hts := atoms_spec (ws := w_z_X0_checkOf) B.pre
  have hown : s.vm.findClass RX0 = some m.cls := findClass_of_methodNamed B.named
  have hlocks := B.notSynchronized
  subst hsz
  have hD := hD0.self (sz := s.heap.size)
  generalize hAe : va_A [(Ad0, .inl (Ka0, 4000, .inl Fa0))] s.heap.size = A at hD ⊢
  have hA : ∀ q : Nat, s.heap.size ≤ q → A q := fun q h => by rw [← hAe]; exact Or.inr h
  have hS : va_S A s.heap s.heap [] := va_S.rf
  have hl := lv_entry ([.ref Ad0, .int 0, .int 4]) (n := 5) (Nat.le_of_ble_eq_true rfl)
  rw [lg_entry_eq]
  generalize (lg_sl ([.ref Ad0, .int 0, .int 4]) ++ List.replicate (5 - (lg_sl ([.ref Ad0, .int 0, .int 4])).length) Slot.unset).toArray = ls at hl ⊢
  have hl : lv_has ls 5 [(0, .ref Ad0), (1, .int 0), (2, .int 4)] := hl
  refine lv_iconst (v := 1) hx hb dX0_checkOf_0 (by decide) ?_
  refine lv_istore_n (lv' := [(3, .int 1), (0, .ref Ad0), (1, .int 0), (2, .int 4)]) hx hb dX0_checkOf_1 rfl hl (by decide) rfl (fun ls hl => ?_)
  refine lv_iload_n hx hb dX0_checkOf_2 rfl (lv_at hl 2 rfl) ?_
  refine lv_istore (lv' := [(4, .int 0), (3, .int 1), (0, .ref Ad0), (1, .int 0), (2, .int 4)]) hx hb dX0_checkOf_3 hl (by decide) rfl (fun ls hl => ?_)
  refine lv_iload hx hb dX0_checkOf_5 (lv_at hl 0 rfl) ?_
  refine lv_iload_n hx hb dX0_checkOf_7 rfl (lv_at hl 4 rfl) ?_
  refine lv_icmp_ge (tgt := 27) hx hb dX0_checkOf_8 (by decide) (fun c101 => absurd c101 (by decide)) (fun c101 => ?_)
  refine lv_iload_n hx hb dX0_checkOf_11 rfl (lv_at hl 1 rfl) ?_
  refine lv_ldc (v := 16777619) hx hb hown (hts (.constant RX0 91 (16777619)) (by decide +kernel)) dX0_checkOf_12 ?_
  refine lv_imul hx hb dX0_checkOf_14  ?_
  refine lv_topi (fun x102 ex102 => ?_)
  obtain rfl : x102 = 16777619 := ex102.trans (by decide)
  refine lv_aload_n hx hb dX0_checkOf_15 rfl (lv_at hl 2 rfl) ?_
  refine lv_iload hx hb dX0_checkOf_16 (lv_at hl 0 rfl) ?_
  refine va_iald hx hb hK hP 0 0 rfl rfl (show vp_in 0 4000 from by unfold vp_in; decide) dX0_checkOf_18 ?_
  refine lv_topi (fun x103 ex103 => ?_)
  refine lv_ixor hx hb dX0_checkOf_19  ?_
  refine lv_topi (fun x104 ex104 => ?_)
  refine lv_istore_n (lv' := [(3, .int x104), (4, .int 0), (0, .ref Ad0), (1, .int 0), (2, .int 4)]) hx hb dX0_checkOf_20 rfl hl (by decide) rfl (fun ls hl => ?_)
  refine lv_iinc (v := 1) (lv' := [(4, .int 1), (3, .int x104), (0, .ref Ad0), (1, .int 0), (2, .int 4)]) hx hb dX0_checkOf_21 hl (k := 1) rfl (by decide) (by decide) rfl (fun ls hl => ?_)
  refine lv_goto (tgt := 5) hx hb dX0_checkOf_24 (by decide) ?_
  refine lv_iload hx hb dX0_checkOf_5 (lv_at hl 0 rfl) ?_
  refine lv_iload_n hx hb dX0_checkOf_7 rfl (lv_at hl 4 rfl) ?_
  refine lv_icmp_ge (tgt := 27) hx hb dX0_checkOf_8 (by decide) (fun c105 => absurd c105 (by decide)) (fun c105 => ?_)
  refine lv_iload_n hx hb dX0_checkOf_11 rfl (lv_at hl 1 rfl) ?_
  refine lv_ldc (v := 16777619) hx hb hown (hts (.constant RX0 91 (16777619)) (by decide +kernel)) dX0_checkOf_12 ?_
  refine lv_imul hx hb dX0_checkOf_14  ?_
  refine lv_topi (fun x106 ex106 => ?_)
  refine lv_aload_n hx hb dX0_checkOf_15 rfl (lv_at hl 2 rfl) ?_
  refine lv_iload hx hb dX0_checkOf_16 (lv_at hl 0 rfl) ?_
  refine va_iald hx hb hK hP 0 0 rfl rfl (show vp_in 1 4000 from by unfold vp_in; decide) dX0_checkOf_18 ?_
  refine lv_topi (fun x107 ex107 => ?_)
  refine lv_ixor hx hb dX0_checkOf_19  ?_
  refine lv_topi (fun x108 ex108 => ?_)
  refine lv_istore_n (lv' := [(3, .int x108), (4, .int 1), (0, .ref Ad0), (1, .int 0), (2, .int 4)]) hx hb dX0_checkOf_20 rfl hl (by decide) rfl (fun ls hl => ?_)
  refine lv_iinc (v := 2) (lv' := [(4, .int 2), (3, .int x108), (0, .ref Ad0), (1, .int 0), (2, .int 4)]) hx hb dX0_checkOf_21 hl (k := 1) rfl (by decide) (by decide) rfl (fun ls hl => ?_)
  refine lv_goto (tgt := 5) hx hb dX0_checkOf_24 (by decide) ?_
  refine lv_iload hx hb dX0_checkOf_5 (lv_at hl 0 rfl) ?_
  refine lv_iload_n hx hb dX0_checkOf_7 rfl (lv_at hl 4 rfl) ?_
  refine lv_icmp_ge (tgt := 27) hx hb dX0_checkOf_8 (by decide) (fun c109 => absurd c109 (by decide)) (fun c109 => ?_)
  refine lv_iload_n hx hb dX0_checkOf_11 rfl (lv_at hl 1 rfl) ?_
  refine lv_ldc (v := 16777619) hx hb hown (hts (.constant RX0 91 (16777619)) (by decide +kernel)) dX0_checkOf_12 ?_
  refine lv_imul hx hb dX0_checkOf_14  ?_
  refine lv_topi (fun x110 ex110 => ?_)
  refine lv_aload_n hx hb dX0_checkOf_15 rfl (lv_at hl 2 rfl) ?_
  refine lv_iload hx hb dX0_checkOf_16 (lv_at hl 0 rfl) ?_
  refine va_iald hx hb hK hP 0 0 rfl rfl (show vp_in 2 4000 from by unfold vp_in; decide) dX0_checkOf_18 ?_
  refine lv_topi (fun x111 ex111 => ?_)
  refine lv_ixor hx hb dX0_checkOf_19  ?_
  refine lv_topi (fun x112 ex112 => ?_)
  refine lv_istore_n (lv' := [(3, .int x112), (4, .int 2), (0, .ref Ad0), (1, .int 0), (2, .int 4)]) hx hb dX0_checkOf_20 rfl hl (by decide) rfl (fun ls hl => ?_)
  refine lv_iinc (v := 3) (lv' := [(4, .int 3), (3, .int x112), (0, .ref Ad0), (1, .int 0), (2, .int 4)]) hx hb dX0_checkOf_21 hl (k := 1) rfl (by decide) (by decide) rfl (fun ls hl => ?_)
  refine lv_goto (tgt := 5) hx hb dX0_checkOf_24 (by decide) ?_
  refine lv_iload hx hb dX0_checkOf_5 (lv_at hl 0 rfl) ?_
  refine lv_iload_n hx hb dX0_checkOf_7 rfl (lv_at hl 4 rfl) ?_
  refine lv_icmp_ge (tgt := 27) hx hb dX0_checkOf_8 (by decide) (fun c113 => absurd c113 (by decide)) (fun c113 => ?_)
  refine lv_iload_n hx hb dX0_checkOf_11 rfl (lv_at hl 1 rfl) ?_
  refine lv_ldc (v := 16777619) hx hb hown (hts (.constant RX0 91 (16777619)) (by decide +kernel)) dX0_checkOf_12 ?_
  refine lv_imul hx hb dX0_checkOf_14  ?_
  refine lv_topi (fun x114 ex114 => ?_)
  refine lv_aload_n hx hb dX0_checkOf_15 rfl (lv_at hl 2 rfl) ?_
  refine lv_iload hx hb dX0_checkOf_16 (lv_at hl 0 rfl) ?_
  refine va_iald hx hb hK hP 0 0 rfl rfl (show vp_in 3 4000 from by unfold vp_in; decide) dX0_checkOf_18 ?_
  refine lv_topi (fun x115 ex115 => ?_)
  obtain rfl : 0 = x115 := (ex115.trans hk0_Fa0).symm
  refine lv_ixor hx hb dX0_checkOf_19  ?_
  refine lv_topi (fun x116 ex116 => ?_)
  refine lv_istore_n (lv' := [(3, .int x116), (4, .int 3), (0, .ref Ad0), (1, .int 0), (2, .int 4)]) hx hb dX0_checkOf_20 rfl hl (by decide) rfl (fun ls hl => ?_)
  refine lv_iinc (v := 4) (lv' := [(4, .int 4), (3, .int x116), (0, .ref Ad0), (1, .int 0), (2, .int 4)]) hx hb dX0_checkOf_21 hl (k := 1) rfl (by decide) (by decide) rfl (fun ls hl => ?_)
  refine lv_goto (tgt := 5) hx hb dX0_checkOf_24 (by decide) ?_
  refine lv_iload hx hb dX0_checkOf_5 (lv_at hl 0 rfl) ?_
  refine lv_iload_n hx hb dX0_checkOf_7 rfl (lv_at hl 4 rfl) ?_
  refine lv_icmp_ge (tgt := 27) hx hb dX0_checkOf_8 (by decide) (fun c117 => ?_) (fun c117 => absurd c117 (by decide))
  refine lv_iload_n hx hb dX0_checkOf_27 rfl (lv_at hl 1 rfl) ?_
  have hP9 := hP.sub (ws' := [(Ad0, .inl (Ka0, 4000, .inl Fa0))]) [0] rfl
  have hD9 := hD.sub (ws' := [(Ad0, .inl (Ka0, 4000, .inl Fa0))]) [0] (by decide) rfl
  have hK9 := hK.sub (tys' := [(Ka0, .int)]) [0] rfl
  exact W.iret (v := x116) hx hb hr (fun t ht hW => ⟨⟨x116, (), rfl, trivial, by rw [ht]; exact hP9, va_K.moved hW.alike hK9, hD9⟩, hS.F ht⟩) hS.2.2 dX0_checkOf_28

def l_z_X0_put_4 : List Cond := [.fieldLink RX0 35 "HeapWorks$Archive" "filled" "I", .fieldLink RX0 19 "HeapWorks$Archive" "buffer" "[I"]
def w_z_X0_put_4 : List Cond := .code yX0_put cX0_put 2 none :: (l_z_X0_put_4 ++ (wsX00))
theorem in_z_X0_put_4_X0 : ∀ w ∈ wsX00, w ∈ w_z_X0_put_4 := fun w h => List.mem_cons_of_mem _ (List.mem_append_right _ (h))
set_option maxHeartbeats 4000000 in
set_option maxRecDepth 100000 in
theorem z_X0_put_4 (l : Launch) (dC : Nat → ClassId) (dI : Nat → Nat → Nat) (sz : Nat) (Ad0 : Nat) (Fs0 : List Value) (Ad1 : Nat) (Fa0 : Nat → Int32) (Ka0 : ClassId) (Va0 : Int32) (k_Fs0 : fh Fs0 15 [(2, .int 4), (1, .ref Ad1), (1, .ref Ad1), (1, .ref Ad1), (1, .ref Ad1), (1, .ref Ad1), (1, .ref Ad1), (1, .ref Ad1), (1, .ref Ad1), (1, .ref Ad1), (1, .ref Ad1), (1, .ref Ad1), (1, .ref Ad1), (1, .ref Ad1), (1, .ref Ad1), (1, .ref Ad1), (1, .ref Ad1), (1, .ref Ad1), (1, .ref Ad1), (1, .ref Ad1), (1, .ref Ad1), (1, .ref Ad1), (1, .ref Ad1), (1, .ref Ad1), (1, .ref Ad1), (1, .ref Ad1), (1, .ref Ad1), (1, .ref Ad1), (1, .ref Ad1), (1, .ref Ad1), (1, .ref Ad1), (1, .ref Ad1), (1, .ref Ad1), (1, .ref Ad1), (1, .ref Ad1), (1, .ref Ad1), (1, .ref Ad1)])  : Met l yX0_put w_z_X0_put_4 ({ frames := 0, cells := 0, slots := 0, locals := 0 }) (va_Pc [.ref Ad0, .int Va0] (fun U => U.heap.size = sz ∧ Wd dC dI [(Ka0, .int)] (fun _ => True) [(Ad0, .inr (3, Fs0)), (Ad1, .inl (Ka0, 4000, .inl Fa0))] U)) (va_Qv (fun (u : List Value × (Nat → Int32)) => (ow Fs0 (u.1) 15 [2] [(2, .int 5), (1, .ref Ad1), (1, .ref Ad1), (1, .ref Ad1), (1, .ref Ad1), (1, .ref Ad1), (1, .ref Ad1), (1, .ref Ad1), (1, .ref Ad1), (1, .ref Ad1), (1, .ref Ad1), (1, .ref Ad1), (1, .ref Ad1), (1, .ref Ad1), (1, .ref Ad1), (1, .ref Ad1), (1, .ref Ad1), (1, .ref Ad1), (1, .ref Ad1), (1, .ref Ad1), (1, .ref Ad1), (1, .ref Ad1), (1, .ref Ad1), (1, .ref Ad1), (1, .ref Ad1), (1, .ref Ad1), (1, .ref Ad1), (1, .ref Ad1), (1, .ref Ad1), (1, .ref Ad1), (1, .ref Ad1), (1, .ref Ad1), (1, .ref Ad1), (1, .ref Ad1), (1, .ref Ad1), (1, .ref Ad1), (1, .ref Ad1)] ∧ (u.2) (4 : Int32).toNatClampNeg = Va0)) (fun (u : List Value × (Nat → Int32)) t => Wd dC dI [(Ka0, .int)] (va_A [(Ad0, .inr (3, Fs0)), (Ad1, .inl (Ka0, 4000, .inl Fa0))] sz) [(Ad0, .inr (3, (u.1))), (Ad1, .inl (Ka0, 4000, .inl ((u.2))))] t) (va_A [(Ad0, .inr (3, Fs0)), (Ad1, .inl (Ka0, 4000, .inl Fa0))] sz))  0 0 (va_A [(Ad0, .inr (3, Fs0)), (Ad1, .inl (Ka0, 4000, .inl Fa0))] sz) := by
  refine Met.ofW (cc := cX0_put) (maxL := 2) (ret := none) (by decide) rfl ?_
  intro p e s m args below meth c s₁ B hml hv
  obtain ⟨rfl, hsz, hP, hK, hD0⟩ := hv
  have hx := B.exec
  have hb := B.bytes
  have hr := B.returns
  have hts := atoms_spec (ws := w_z_X0_put_4) B.pre
  have hown : s.vm.findClass RX0 = some m.cls := findClass_of_methodNamed B.named
  have hlocks := B.notSynchronized
  subst hsz
  have hD := hD0.self (sz := s.heap.size)
  generalize hAe : va_A [(Ad0, .inr (3, Fs0)), (Ad1, .inl (Ka0, 4000, .inl Fa0))] s.heap.size = A at hD ⊢
  have hA : ∀ q : Nat, s.heap.size ≤ q → A q := fun q h => by rw [← hAe]; exact Or.inr h
  have hS : va_S A s.heap s.heap [] := va_S.rf
  have hl := lv_entry ([.ref Ad0, .int Va0]) (n := 2) (Nat.le_of_ble_eq_true rfl)
  rw [lg_entry_eq]
  generalize (lg_sl ([.ref Ad0, .int Va0]) ++ List.replicate (2 - (lg_sl ([.ref Ad0, .int Va0])).length) Slot.unset).toArray = ls at hl ⊢
  have hl : lv_has ls 2 [(0, .ref Ad0), (1, .int Va0)] := hl
  have o_Fs0 := ow_0 k_Fs0
  refine lv_aload_n hx hb dX0_put_0 rfl (lv_at hl 0 rfl) ?_
  refine va_get (D := (dC, dI)) (ci := 3) (v := .int 4) (C := RX0) (T := TX0) (N := 15) hx hb hts (in_z_X0_put_4_X0) hown hK hP 0 rfl rfl 2 (by decide) (hts (.fieldLink RX0 35 "HeapWorks$Archive" "filled" "I") (by decide +kernel)) (fun _ h9 => h9) (ow_at o_Fs0 0 rfl) dX0_put_1 ?_
  refine lv_aload_n hx hb dX0_put_4 rfl (lv_at hl 0 rfl) ?_
  refine va_get (D := (dC, dI)) (ci := 3) (v := .ref Ad1) (C := RX0) (T := TX0) (N := 15) hx hb hts (in_z_X0_put_4_X0) hown hK hP 0 rfl rfl 1 (by decide) (hts (.fieldLink RX0 19 "HeapWorks$Archive" "buffer" "[I") (by decide +kernel)) (fun _ h9 => h9) (ow_at o_Fs0 1 rfl) dX0_put_5 ?_
  refine va_alen (v := 4000) hx hb hK hP 1 0 rfl rfl (show Int32.ofNat 4000 = 4000 from by decide) dX0_put_8 ?_
  refine lv_icmp_ge (tgt := 22) hx hb dX0_put_9 (by decide) (fun c101 => absurd c101 (by decide)) (fun c101 => ?_)
  refine lv_aload_n hx hb dX0_put_12 rfl (lv_at hl 0 rfl) ?_
  refine va_get (D := (dC, dI)) (ci := 3) (v := .ref Ad1) (C := RX0) (T := TX0) (N := 15) hx hb hts (in_z_X0_put_4_X0) hown hK hP 0 rfl rfl 1 (by decide) (hts (.fieldLink RX0 19 "HeapWorks$Archive" "buffer" "[I") (by decide +kernel)) (fun _ h9 => h9) (ow_at o_Fs0 1 rfl) dX0_put_13 ?_
  refine lv_aload_n hx hb dX0_put_16 rfl (lv_at hl 0 rfl) ?_
  refine va_get (D := (dC, dI)) (ci := 3) (v := .int 4) (C := RX0) (T := TX0) (N := 15) hx hb hts (in_z_X0_put_4_X0) hown hK hP 0 rfl rfl 2 (by decide) (hts (.fieldLink RX0 35 "HeapWorks$Archive" "filled" "I") (by decide +kernel)) (fun _ h9 => h9) (ow_at o_Fs0 0 rfl) dX0_put_17 ?_
  refine lv_iload_n hx hb dX0_put_20 rfl (lv_at hl 1 rfl) ?_
  refine va_iast hx hb hK hP hD hS 1 0 rfl rfl (show vp_in 4 4000 from by unfold vp_in; decide) dX0_put_21 (fun H locs hP hD hS => ?_)
  have hP : va_P (dC, dI) vwCl [(Ad0, .inr (3, Fs0)), (Ad1, .inl (Ka0, 4000, .inl (upd Fa0 (4 : Int32).toNatClampNeg Va0)))] H := hP
  have hD : va_D A [(Ad0, .inr (3, Fs0)), (Ad1, .inl (Ka0, 4000, .inl (upd Fa0 (4 : Int32).toNatClampNeg Va0)))] := hD
  have q103 : (upd Fa0 (4 : Int32).toNatClampNeg Va0) (4 : Int32).toNatClampNeg = Va0 := pk_us
  generalize upd Fa0 (4 : Int32).toNatClampNeg Va0 = f102 at hP hD q103
  refine lv_aload_n hx hb dX0_put_22 rfl (lv_at hl 0 rfl) ?_
  refine lv_dup hx hb dX0_put_23 rfl ?_
  refine va_get (D := (dC, dI)) (ci := 3) (v := .int 4) (C := RX0) (T := TX0) (N := 15) hx hb hts (in_z_X0_put_4_X0) hown hK hP 0 rfl rfl 2 (by decide) (hts (.fieldLink RX0 35 "HeapWorks$Archive" "filled" "I") (by decide +kernel)) (fun _ h9 => h9) (ow_at o_Fs0 0 rfl) dX0_put_24 ?_
  refine lv_iconst (v := 1) hx hb dX0_put_27 (by decide) ?_
  refine lv_iadd hx hb dX0_put_28  ?_
  refine lv_topi (fun x104 ex104 => ?_)
  obtain rfl : x104 = 5 := ex104.trans (by decide)
  refine va_put (D := (dC, dI)) (ci := 3) (v := .int 5) (ty := .int) (C := RX0) (T := TX0) (N := 15) hx hb hts (in_z_X0_put_4_X0) tyX0 tyX0_ok nmX0 hown hK hP hD hS 0 rfl rfl 2 (by decide) (hts (.fieldLink RX0 35 "HeapWorks$Archive" "filled" "I") (by decide +kernel)) (fun _ h9 => h9) rfl (by decide +kernel) rfl rfl (by rw [o_Fs0.2.1]; decide) dX0_put_29 (fun H locs hP hD hS => ?_)
  have hP : va_P (dC, dI) vwCl [(Ad0, .inr (3, (Fs0.set 2 (.int 5)))), (Ad1, .inl (Ka0, 4000, .inl f102))] H := hP
  have hD : va_D A [(Ad0, .inr (3, (Fs0.set 2 (.int 5)))), (Ad1, .inl (Ka0, 4000, .inl f102))] := hD
  have o_s105 := ow_set o_Fs0 2 (.int 5) (by decide) (l' := [(2, .int 5), (1, .ref Ad1), (1, .ref Ad1), (1, .ref Ad1), (1, .ref Ad1), (1, .ref Ad1), (1, .ref Ad1), (1, .ref Ad1), (1, .ref Ad1), (1, .ref Ad1), (1, .ref Ad1), (1, .ref Ad1), (1, .ref Ad1), (1, .ref Ad1), (1, .ref Ad1), (1, .ref Ad1), (1, .ref Ad1), (1, .ref Ad1), (1, .ref Ad1), (1, .ref Ad1), (1, .ref Ad1), (1, .ref Ad1), (1, .ref Ad1), (1, .ref Ad1), (1, .ref Ad1), (1, .ref Ad1), (1, .ref Ad1), (1, .ref Ad1), (1, .ref Ad1), (1, .ref Ad1), (1, .ref Ad1), (1, .ref Ad1), (1, .ref Ad1), (1, .ref Ad1), (1, .ref Ad1), (1, .ref Ad1), (1, .ref Ad1)]) (w' := [2]) rfl rfl
  generalize (Fs0.set 2 (.int 5)) = s105 at hP hD o_s105
  have hP9 := hP.sub (ws' := [(Ad0, .inr (3, s105)), (Ad1, .inl (Ka0, 4000, .inl f102))]) [0, 1] rfl
  have hD9 := hD.sub (ws' := [(Ad0, .inr (3, s105)), (Ad1, .inl (Ka0, 4000, .inl f102))]) [0, 1] (by decide) rfl
  have hK9 := hK.sub (tys' := [(Ka0, .int)]) [0] rfl
  exact W.vret hx hb hr (fun t ht hW => ⟨⟨(s105, f102), rfl, ⟨o_s105, q103⟩, by rw [ht]; exact hP9, va_K.moved hW.alike hK9, hD9⟩, hS.F ht⟩) hS.2.2 dX0_put_32

def l_z_X0_put_5 : List Cond := [.fieldLink RX0 35 "HeapWorks$Archive" "filled" "I", .fieldLink RX0 19 "HeapWorks$Archive" "buffer" "[I"]
def w_z_X0_put_5 : List Cond := .code yX0_put cX0_put 2 none :: (l_z_X0_put_5 ++ (wsX00))
theorem in_z_X0_put_5_X0 : ∀ w ∈ wsX00, w ∈ w_z_X0_put_5 := fun w h => List.mem_cons_of_mem _ (List.mem_append_right _ (h))
set_option maxHeartbeats 4000000 in
set_option maxRecDepth 100000 in
theorem z_X0_put_5 (l : Launch) (dC : Nat → ClassId) (dI : Nat → Nat → Nat) (sz : Nat) (Ad0 : Nat) (Fs0 : List Value) (Ad1 : Nat) (Fa0 : Nat → Int32) (Ka0 : ClassId) (Va0 : Int32) (k_Fs0 : fh Fs0 15 (([(2, .int 5), (1, .ref Ad1), (1, .ref Ad1), (1, .ref Ad1), (1, .ref Ad1), (1, .ref Ad1), (1, .ref Ad1), (1, .ref Ad1), (1, .ref Ad1), (1, .ref Ad1), (1, .ref Ad1), (1, .ref Ad1), (1, .ref Ad1), (1, .ref Ad1), (1, .ref Ad1), (1, .ref Ad1)] : List (Nat × Value)) ++ (([(1, .ref Ad1), (1, .ref Ad1), (1, .ref Ad1), (1, .ref Ad1), (1, .ref Ad1), (1, .ref Ad1), (1, .ref Ad1), (1, .ref Ad1), (1, .ref Ad1), (1, .ref Ad1), (1, .ref Ad1), (1, .ref Ad1), (1, .ref Ad1), (1, .ref Ad1), (1, .ref Ad1), (1, .ref Ad1)] : List (Nat × Value)) ++ (([(1, .ref Ad1), (1, .ref Ad1), (1, .ref Ad1), (1, .ref Ad1), (1, .ref Ad1), (1, .ref Ad1), (1, .ref Ad1), (1, .ref Ad1), (1, .ref Ad1), (1, .ref Ad1), (1, .ref Ad1), (1, .ref Ad1), (1, .ref Ad1), (1, .ref Ad1), (1, .ref Ad1), (1, .ref Ad1)] : List (Nat × Value)) ++ (([(1, .ref Ad1), (1, .ref Ad1), (1, .ref Ad1), (1, .ref Ad1), (1, .ref Ad1), (1, .ref Ad1), (1, .ref Ad1), (1, .ref Ad1), (1, .ref Ad1), (1, .ref Ad1), (1, .ref Ad1), (1, .ref Ad1), (1, .ref Ad1), (1, .ref Ad1), (1, .ref Ad1), (1, .ref Ad1)] : List (Nat × Value)) ++ (([(1, .ref Ad1), (1, .ref Ad1), (1, .ref Ad1), (1, .ref Ad1), (1, .ref Ad1), (1, .ref Ad1), (1, .ref Ad1), (1, .ref Ad1), (1, .ref Ad1)] : List (Nat × Value))))))))  : Met l yX0_put w_z_X0_put_5 ({ frames := 0, cells := 0, slots := 0, locals := 0 }) (va_Pc [.ref Ad0, .int Va0] (fun U => U.heap.size = sz ∧ Wd dC dI [(Ka0, .int)] (fun _ => True) [(Ad0, .inr (3, Fs0)), (Ad1, .inl (Ka0, 4000, .inl Fa0))] U)) (va_Qv (fun (u : List Value × (Nat → Int32)) => (ow Fs0 (u.1) 15 [2] (([(2, .int 6), (1, .ref Ad1), (1, .ref Ad1), (1, .ref Ad1), (1, .ref Ad1), (1, .ref Ad1), (1, .ref Ad1), (1, .ref Ad1), (1, .ref Ad1), (1, .ref Ad1), (1, .ref Ad1), (1, .ref Ad1), (1, .ref Ad1), (1, .ref Ad1), (1, .ref Ad1), (1, .ref Ad1)] : List (Nat × Value)) ++ (([(1, .ref Ad1), (1, .ref Ad1), (1, .ref Ad1), (1, .ref Ad1), (1, .ref Ad1), (1, .ref Ad1), (1, .ref Ad1), (1, .ref Ad1), (1, .ref Ad1), (1, .ref Ad1), (1, .ref Ad1), (1, .ref Ad1), (1, .ref Ad1), (1, .ref Ad1), (1, .ref Ad1), (1, .ref Ad1)] : List (Nat × Value)) ++ (([(1, .ref Ad1), (1, .ref Ad1), (1, .ref Ad1), (1, .ref Ad1), (1, .ref Ad1), (1, .ref Ad1), (1, .ref Ad1), (1, .ref Ad1), (1, .ref Ad1), (1, .ref Ad1), (1, .ref Ad1), (1, .ref Ad1), (1, .ref Ad1), (1, .ref Ad1), (1, .ref Ad1), (1, .ref Ad1)] : List (Nat × Value)) ++ (([(1, .ref Ad1), (1, .ref Ad1), (1, .ref Ad1), (1, .ref Ad1), (1, .ref Ad1), (1, .ref Ad1), (1, .ref Ad1), (1, .ref Ad1), (1, .ref Ad1), (1, .ref Ad1), (1, .ref Ad1), (1, .ref Ad1), (1, .ref Ad1), (1, .ref Ad1), (1, .ref Ad1), (1, .ref Ad1)] : List (Nat × Value)) ++ (([(1, .ref Ad1), (1, .ref Ad1), (1, .ref Ad1), (1, .ref Ad1), (1, .ref Ad1), (1, .ref Ad1), (1, .ref Ad1), (1, .ref Ad1), (1, .ref Ad1)] : List (Nat × Value))))))) ∧ (u.2) (5 : Int32).toNatClampNeg = Va0)) (fun (u : List Value × (Nat → Int32)) t => Wd dC dI [(Ka0, .int)] (va_A [(Ad0, .inr (3, Fs0)), (Ad1, .inl (Ka0, 4000, .inl Fa0))] sz) [(Ad0, .inr (3, (u.1))), (Ad1, .inl (Ka0, 4000, .inl ((u.2))))] t) (va_A [(Ad0, .inr (3, Fs0)), (Ad1, .inl (Ka0, 4000, .inl Fa0))] sz))  0 0 (va_A [(Ad0, .inr (3, Fs0)), (Ad1, .inl (Ka0, 4000, .inl Fa0))] sz) := by
  refine Met.ofW (cc := cX0_put) (maxL := 2) (ret := none) (by decide) rfl ?_
  intro p e s m args below meth c s₁ B hml hv
  obtain ⟨rfl, hsz, hP, hK, hD0⟩ := hv
  have hx := B.exec
  have hb := B.bytes
  have hr := B.returns
  have hts := atoms_spec (ws := w_z_X0_put_5) B.pre
  have hown : s.vm.findClass RX0 = some m.cls := findClass_of_methodNamed B.named
  have hlocks := B.notSynchronized
  subst hsz
  have hD := hD0.self (sz := s.heap.size)
  generalize hAe : va_A [(Ad0, .inr (3, Fs0)), (Ad1, .inl (Ka0, 4000, .inl Fa0))] s.heap.size = A at hD ⊢
  have hA : ∀ q : Nat, s.heap.size ≤ q → A q := fun q h => by rw [← hAe]; exact Or.inr h
  have hS : va_S A s.heap s.heap [] := va_S.rf
  have hl := lv_entry ([.ref Ad0, .int Va0]) (n := 2) (Nat.le_of_ble_eq_true rfl)
  rw [lg_entry_eq]
  generalize (lg_sl ([.ref Ad0, .int Va0]) ++ List.replicate (2 - (lg_sl ([.ref Ad0, .int Va0])).length) Slot.unset).toArray = ls at hl ⊢
  have hl : lv_has ls 2 [(0, .ref Ad0), (1, .int Va0)] := hl
  have o_Fs0 := ow_0 k_Fs0
  refine lv_aload_n hx hb dX0_put_0 rfl (lv_at hl 0 rfl) ?_
  refine va_get (D := (dC, dI)) (ci := 3) (v := .int 5) (C := RX0) (T := TX0) (N := 15) hx hb hts (in_z_X0_put_5_X0) hown hK hP 0 rfl rfl 2 (by decide) (hts (.fieldLink RX0 35 "HeapWorks$Archive" "filled" "I") (by decide +kernel)) (fun _ h9 => h9) (ow_at o_Fs0 0 rfl) dX0_put_1 ?_
  refine lv_aload_n hx hb dX0_put_4 rfl (lv_at hl 0 rfl) ?_
  refine va_get (D := (dC, dI)) (ci := 3) (v := .ref Ad1) (C := RX0) (T := TX0) (N := 15) hx hb hts (in_z_X0_put_5_X0) hown hK hP 0 rfl rfl 1 (by decide) (hts (.fieldLink RX0 19 "HeapWorks$Archive" "buffer" "[I") (by decide +kernel)) (fun _ h9 => h9) (ow_at o_Fs0 1 rfl) dX0_put_5 ?_
  refine va_alen (v := 4000) hx hb hK hP 1 0 rfl rfl (show Int32.ofNat 4000 = 4000 from by decide) dX0_put_8 ?_
  refine lv_icmp_ge (tgt := 22) hx hb dX0_put_9 (by decide) (fun c101 => absurd c101 (by decide)) (fun c101 => ?_)
  refine lv_aload_n hx hb dX0_put_12 rfl (lv_at hl 0 rfl) ?_
  refine va_get (D := (dC, dI)) (ci := 3) (v := .ref Ad1) (C := RX0) (T := TX0) (N := 15) hx hb hts (in_z_X0_put_5_X0) hown hK hP 0 rfl rfl 1 (by decide) (hts (.fieldLink RX0 19 "HeapWorks$Archive" "buffer" "[I") (by decide +kernel)) (fun _ h9 => h9) (ow_at o_Fs0 1 rfl) dX0_put_13 ?_
  refine lv_aload_n hx hb dX0_put_16 rfl (lv_at hl 0 rfl) ?_
  refine va_get (D := (dC, dI)) (ci := 3) (v := .int 5) (C := RX0) (T := TX0) (N := 15) hx hb hts (in_z_X0_put_5_X0) hown hK hP 0 rfl rfl 2 (by decide) (hts (.fieldLink RX0 35 "HeapWorks$Archive" "filled" "I") (by decide +kernel)) (fun _ h9 => h9) (ow_at o_Fs0 0 rfl) dX0_put_17 ?_
  refine lv_iload_n hx hb dX0_put_20 rfl (lv_at hl 1 rfl) ?_
  refine va_iast hx hb hK hP hD hS 1 0 rfl rfl (show vp_in 5 4000 from by unfold vp_in; decide) dX0_put_21 (fun H locs hP hD hS => ?_)
  have hP : va_P (dC, dI) vwCl [(Ad0, .inr (3, Fs0)), (Ad1, .inl (Ka0, 4000, .inl (upd Fa0 (5 : Int32).toNatClampNeg Va0)))] H := hP
  have hD : va_D A [(Ad0, .inr (3, Fs0)), (Ad1, .inl (Ka0, 4000, .inl (upd Fa0 (5 : Int32).toNatClampNeg Va0)))] := hD
  have q103 : (upd Fa0 (5 : Int32).toNatClampNeg Va0) (5 : Int32).toNatClampNeg = Va0 := pk_us
  generalize upd Fa0 (5 : Int32).toNatClampNeg Va0 = f102 at hP hD q103
  refine lv_aload_n hx hb dX0_put_22 rfl (lv_at hl 0 rfl) ?_
  refine lv_dup hx hb dX0_put_23 rfl ?_
  refine va_get (D := (dC, dI)) (ci := 3) (v := .int 5) (C := RX0) (T := TX0) (N := 15) hx hb hts (in_z_X0_put_5_X0) hown hK hP 0 rfl rfl 2 (by decide) (hts (.fieldLink RX0 35 "HeapWorks$Archive" "filled" "I") (by decide +kernel)) (fun _ h9 => h9) (ow_at o_Fs0 0 rfl) dX0_put_24 ?_
  refine lv_iconst (v := 1) hx hb dX0_put_27 (by decide) ?_
  refine lv_iadd hx hb dX0_put_28  ?_
  refine lv_topi (fun x104 ex104 => ?_)
  obtain rfl : x104 = 6 := ex104.trans (by decide)
  refine va_put (D := (dC, dI)) (ci := 3) (v := .int 6) (ty := .int) (C := RX0) (T := TX0) (N := 15) hx hb hts (in_z_X0_put_5_X0) tyX0 tyX0_ok nmX0 hown hK hP hD hS 0 rfl rfl 2 (by decide) (hts (.fieldLink RX0 35 "HeapWorks$Archive" "filled" "I") (by decide +kernel)) (fun _ h9 => h9) rfl (by decide +kernel) rfl rfl (by rw [o_Fs0.2.1]; decide) dX0_put_29 (fun H locs hP hD hS => ?_)
  have hP : va_P (dC, dI) vwCl [(Ad0, .inr (3, (Fs0.set 2 (.int 6)))), (Ad1, .inl (Ka0, 4000, .inl f102))] H := hP
  have hD : va_D A [(Ad0, .inr (3, (Fs0.set 2 (.int 6)))), (Ad1, .inl (Ka0, 4000, .inl f102))] := hD
  have o_s105 := ow_set o_Fs0 2 (.int 6) (by decide) (l' := (([(2, .int 6), (1, .ref Ad1), (1, .ref Ad1), (1, .ref Ad1), (1, .ref Ad1), (1, .ref Ad1), (1, .ref Ad1), (1, .ref Ad1), (1, .ref Ad1), (1, .ref Ad1), (1, .ref Ad1), (1, .ref Ad1), (1, .ref Ad1), (1, .ref Ad1), (1, .ref Ad1), (1, .ref Ad1)] : List (Nat × Value)) ++ (([(1, .ref Ad1), (1, .ref Ad1), (1, .ref Ad1), (1, .ref Ad1), (1, .ref Ad1), (1, .ref Ad1), (1, .ref Ad1), (1, .ref Ad1), (1, .ref Ad1), (1, .ref Ad1), (1, .ref Ad1), (1, .ref Ad1), (1, .ref Ad1), (1, .ref Ad1), (1, .ref Ad1), (1, .ref Ad1)] : List (Nat × Value)) ++ (([(1, .ref Ad1), (1, .ref Ad1), (1, .ref Ad1), (1, .ref Ad1), (1, .ref Ad1), (1, .ref Ad1), (1, .ref Ad1), (1, .ref Ad1), (1, .ref Ad1), (1, .ref Ad1), (1, .ref Ad1), (1, .ref Ad1), (1, .ref Ad1), (1, .ref Ad1), (1, .ref Ad1), (1, .ref Ad1)] : List (Nat × Value)) ++ (([(1, .ref Ad1), (1, .ref Ad1), (1, .ref Ad1), (1, .ref Ad1), (1, .ref Ad1), (1, .ref Ad1), (1, .ref Ad1), (1, .ref Ad1), (1, .ref Ad1), (1, .ref Ad1), (1, .ref Ad1), (1, .ref Ad1), (1, .ref Ad1), (1, .ref Ad1), (1, .ref Ad1), (1, .ref Ad1)] : List (Nat × Value)) ++ (([(1, .ref Ad1), (1, .ref Ad1), (1, .ref Ad1), (1, .ref Ad1), (1, .ref Ad1), (1, .ref Ad1), (1, .ref Ad1), (1, .ref Ad1), (1, .ref Ad1)] : List (Nat × Value)))))))) (w' := [2]) rfl rfl
  generalize (Fs0.set 2 (.int 6)) = s105 at hP hD o_s105
  have hP9 := hP.sub (ws' := [(Ad0, .inr (3, s105)), (Ad1, .inl (Ka0, 4000, .inl f102))]) [0, 1] rfl
  have hD9 := hD.sub (ws' := [(Ad0, .inr (3, s105)), (Ad1, .inl (Ka0, 4000, .inl f102))]) [0, 1] (by decide) rfl
  have hK9 := hK.sub (tys' := [(Ka0, .int)]) [0] rfl
  exact W.vret hx hb hr (fun t ht hW => ⟨⟨(s105, f102), rfl, ⟨o_s105, q103⟩, by rw [ht]; exact hP9, va_K.moved hW.alike hK9, hD9⟩, hS.F ht⟩) hS.2.2 dX0_put_32

def l_z_X0_put_6 : List Cond := [.fieldLink RX0 35 "HeapWorks$Archive" "filled" "I", .fieldLink RX0 19 "HeapWorks$Archive" "buffer" "[I"]
def w_z_X0_put_6 : List Cond := .code yX0_put cX0_put 2 none :: (l_z_X0_put_6 ++ (wsX00))
theorem in_z_X0_put_6_X0 : ∀ w ∈ wsX00, w ∈ w_z_X0_put_6 := fun w h => List.mem_cons_of_mem _ (List.mem_append_right _ (h))
set_option maxHeartbeats 4000000 in
set_option maxRecDepth 100000 in
theorem z_X0_put_6 (l : Launch) (dC : Nat → ClassId) (dI : Nat → Nat → Nat) (sz : Nat) (Ad0 : Nat) (Fs0 : List Value) (Ad1 : Nat) (Fa0 : Nat → Int32) (Ka0 : ClassId) (Va0 : Int32) (k_Fs0 : fh Fs0 15 (([(2, .int 6), (1, .ref Ad1), (1, .ref Ad1), (1, .ref Ad1), (1, .ref Ad1), (1, .ref Ad1), (1, .ref Ad1), (1, .ref Ad1), (1, .ref Ad1), (1, .ref Ad1), (1, .ref Ad1), (1, .ref Ad1), (1, .ref Ad1), (1, .ref Ad1), (1, .ref Ad1), (1, .ref Ad1)] : List (Nat × Value)) ++ (([(1, .ref Ad1), (1, .ref Ad1), (1, .ref Ad1), (1, .ref Ad1), (1, .ref Ad1), (1, .ref Ad1), (1, .ref Ad1), (1, .ref Ad1), (1, .ref Ad1), (1, .ref Ad1), (1, .ref Ad1), (1, .ref Ad1), (1, .ref Ad1), (1, .ref Ad1), (1, .ref Ad1), (1, .ref Ad1)] : List (Nat × Value)) ++ (([(1, .ref Ad1), (1, .ref Ad1), (1, .ref Ad1), (1, .ref Ad1), (1, .ref Ad1), (1, .ref Ad1), (1, .ref Ad1), (1, .ref Ad1), (1, .ref Ad1), (1, .ref Ad1), (1, .ref Ad1), (1, .ref Ad1), (1, .ref Ad1), (1, .ref Ad1), (1, .ref Ad1), (1, .ref Ad1)] : List (Nat × Value)) ++ (([(1, .ref Ad1), (1, .ref Ad1), (1, .ref Ad1), (1, .ref Ad1), (1, .ref Ad1), (1, .ref Ad1), (1, .ref Ad1), (1, .ref Ad1), (1, .ref Ad1), (1, .ref Ad1), (1, .ref Ad1), (1, .ref Ad1), (1, .ref Ad1), (1, .ref Ad1), (1, .ref Ad1), (1, .ref Ad1)] : List (Nat × Value)) ++ (([(1, .ref Ad1), (1, .ref Ad1), (1, .ref Ad1), (1, .ref Ad1), (1, .ref Ad1), (1, .ref Ad1), (1, .ref Ad1), (1, .ref Ad1), (1, .ref Ad1), (1, .ref Ad1), (1, .ref Ad1), (1, .ref Ad1), (1, .ref Ad1), (1, .ref Ad1), (1, .ref Ad1), (1, .ref Ad1)] : List (Nat × Value)) ++ (([(1, .ref Ad1), (1, .ref Ad1), (1, .ref Ad1), (1, .ref Ad1), (1, .ref Ad1), (1, .ref Ad1), (1, .ref Ad1), (1, .ref Ad1), (1, .ref Ad1), (1, .ref Ad1), (1, .ref Ad1), (1, .ref Ad1), (1, .ref Ad1), (1, .ref Ad1), (1, .ref Ad1), (1, .ref Ad1)] : List (Nat × Value)) ++ (([(1, .ref Ad1), (1, .ref Ad1), (1, .ref Ad1), (1, .ref Ad1), (1, .ref Ad1), (1, .ref Ad1), (1, .ref Ad1), (1, .ref Ad1), (1, .ref Ad1), (1, .ref Ad1), (1, .ref Ad1), (1, .ref Ad1), (1, .ref Ad1), (1, .ref Ad1), (1, .ref Ad1), (1, .ref Ad1)] : List (Nat × Value)) ++ (([(1, .ref Ad1), (1, .ref Ad1), (1, .ref Ad1), (1, .ref Ad1), (1, .ref Ad1), (1, .ref Ad1), (1, .ref Ad1), (1, .ref Ad1), (1, .ref Ad1), (1, .ref Ad1), (1, .ref Ad1), (1, .ref Ad1), (1, .ref Ad1), (1, .ref Ad1), (1, .ref Ad1), (1, .ref Ad1)] : List (Nat × Value)) ++ (([(1, .ref Ad1), (1, .ref Ad1), (1, .ref Ad1), (1, .ref Ad1), (1, .ref Ad1), (1, .ref Ad1), (1, .ref Ad1), (1, .ref Ad1), (1, .ref Ad1), (1, .ref Ad1), (1, .ref Ad1), (1, .ref Ad1), (1, .ref Ad1), (1, .ref Ad1), (1, .ref Ad1), (1, .ref Ad1)] : List (Nat × Value)) ++ (([(1, .ref Ad1)] : List (Nat × Value)))))))))))))  : Met l yX0_put w_z_X0_put_6 ({ frames := 0, cells := 0, slots := 0, locals := 0 }) (va_Pc [.ref Ad0, .int Va0] (fun U => U.heap.size = sz ∧ Wd dC dI [(Ka0, .int)] (fun _ => True) [(Ad0, .inr (3, Fs0)), (Ad1, .inl (Ka0, 4000, .inl Fa0))] U)) (va_Qv (fun (u : List Value × (Nat → Int32)) => (ow Fs0 (u.1) 15 [2] (([(2, .int 7), (1, .ref Ad1), (1, .ref Ad1), (1, .ref Ad1), (1, .ref Ad1), (1, .ref Ad1), (1, .ref Ad1), (1, .ref Ad1), (1, .ref Ad1), (1, .ref Ad1), (1, .ref Ad1), (1, .ref Ad1), (1, .ref Ad1), (1, .ref Ad1), (1, .ref Ad1), (1, .ref Ad1)] : List (Nat × Value)) ++ (([(1, .ref Ad1), (1, .ref Ad1), (1, .ref Ad1), (1, .ref Ad1), (1, .ref Ad1), (1, .ref Ad1), (1, .ref Ad1), (1, .ref Ad1), (1, .ref Ad1), (1, .ref Ad1), (1, .ref Ad1), (1, .ref Ad1), (1, .ref Ad1), (1, .ref Ad1), (1, .ref Ad1), (1, .ref Ad1)] : List (Nat × Value)) ++ (([(1, .ref Ad1), (1, .ref Ad1), (1, .ref Ad1), (1, .ref Ad1), (1, .ref Ad1), (1, .ref Ad1), (1, .ref Ad1), (1, .ref Ad1), (1, .ref Ad1), (1, .ref Ad1), (1, .ref Ad1), (1, .ref Ad1), (1, .ref Ad1), (1, .ref Ad1), (1, .ref Ad1), (1, .ref Ad1)] : List (Nat × Value)) ++ (([(1, .ref Ad1), (1, .ref Ad1), (1, .ref Ad1), (1, .ref Ad1), (1, .ref Ad1), (1, .ref Ad1), (1, .ref Ad1), (1, .ref Ad1), (1, .ref Ad1), (1, .ref Ad1), (1, .ref Ad1), (1, .ref Ad1), (1, .ref Ad1), (1, .ref Ad1), (1, .ref Ad1), (1, .ref Ad1)] : List (Nat × Value)) ++ (([(1, .ref Ad1), (1, .ref Ad1), (1, .ref Ad1), (1, .ref Ad1), (1, .ref Ad1), (1, .ref Ad1), (1, .ref Ad1), (1, .ref Ad1), (1, .ref Ad1), (1, .ref Ad1), (1, .ref Ad1), (1, .ref Ad1), (1, .ref Ad1), (1, .ref Ad1), (1, .ref Ad1), (1, .ref Ad1)] : List (Nat × Value)) ++ (([(1, .ref Ad1), (1, .ref Ad1), (1, .ref Ad1), (1, .ref Ad1), (1, .ref Ad1), (1, .ref Ad1), (1, .ref Ad1), (1, .ref Ad1), (1, .ref Ad1), (1, .ref Ad1), (1, .ref Ad1), (1, .ref Ad1), (1, .ref Ad1), (1, .ref Ad1), (1, .ref Ad1), (1, .ref Ad1)] : List (Nat × Value)) ++ (([(1, .ref Ad1), (1, .ref Ad1), (1, .ref Ad1), (1, .ref Ad1), (1, .ref Ad1), (1, .ref Ad1), (1, .ref Ad1), (1, .ref Ad1), (1, .ref Ad1), (1, .ref Ad1), (1, .ref Ad1), (1, .ref Ad1), (1, .ref Ad1), (1, .ref Ad1), (1, .ref Ad1), (1, .ref Ad1)] : List (Nat × Value)) ++ (([(1, .ref Ad1), (1, .ref Ad1), (1, .ref Ad1), (1, .ref Ad1), (1, .ref Ad1), (1, .ref Ad1), (1, .ref Ad1), (1, .ref Ad1), (1, .ref Ad1), (1, .ref Ad1), (1, .ref Ad1), (1, .ref Ad1), (1, .ref Ad1), (1, .ref Ad1), (1, .ref Ad1), (1, .ref Ad1)] : List (Nat × Value)) ++ (([(1, .ref Ad1), (1, .ref Ad1), (1, .ref Ad1), (1, .ref Ad1), (1, .ref Ad1), (1, .ref Ad1), (1, .ref Ad1), (1, .ref Ad1), (1, .ref Ad1), (1, .ref Ad1), (1, .ref Ad1), (1, .ref Ad1), (1, .ref Ad1), (1, .ref Ad1), (1, .ref Ad1), (1, .ref Ad1)] : List (Nat × Value)) ++ (([(1, .ref Ad1)] : List (Nat × Value)))))))))))) ∧ (u.2) (6 : Int32).toNatClampNeg = Va0)) (fun (u : List Value × (Nat → Int32)) t => Wd dC dI [(Ka0, .int)] (va_A [(Ad0, .inr (3, Fs0)), (Ad1, .inl (Ka0, 4000, .inl Fa0))] sz) [(Ad0, .inr (3, (u.1))), (Ad1, .inl (Ka0, 4000, .inl ((u.2))))] t) (va_A [(Ad0, .inr (3, Fs0)), (Ad1, .inl (Ka0, 4000, .inl Fa0))] sz))  0 0 (va_A [(Ad0, .inr (3, Fs0)), (Ad1, .inl (Ka0, 4000, .inl Fa0))] sz) := by
  refine Met.ofW (cc := cX0_put) (maxL := 2) (ret := none) (by decide) rfl ?_
  intro p e s m args below meth c s₁ B hml hv
  obtain ⟨rfl, hsz, hP, hK, hD0⟩ := hv
  have hx := B.exec
  have hb := B.bytes
  have hr := B.returns
  have hts := atoms_spec (ws := w_z_X0_put_6) B.pre
  have hown : s.vm.findClass RX0 = some m.cls := findClass_of_methodNamed B.named
  have hlocks := B.notSynchronized
  subst hsz
  have hD := hD0.self (sz := s.heap.size)
  generalize hAe : va_A [(Ad0, .inr (3, Fs0)), (Ad1, .inl (Ka0, 4000, .inl Fa0))] s.heap.size = A at hD ⊢
  have hA : ∀ q : Nat, s.heap.size ≤ q → A q := fun q h => by rw [← hAe]; exact Or.inr h
  have hS : va_S A s.heap s.heap [] := va_S.rf
  have hl := lv_entry ([.ref Ad0, .int Va0]) (n := 2) (Nat.le_of_ble_eq_true rfl)
  rw [lg_entry_eq]
  generalize (lg_sl ([.ref Ad0, .int Va0]) ++ List.replicate (2 - (lg_sl ([.ref Ad0, .int Va0])).length) Slot.unset).toArray = ls at hl ⊢
  have hl : lv_has ls 2 [(0, .ref Ad0), (1, .int Va0)] := hl
  have o_Fs0 := ow_0 k_Fs0
  refine lv_aload_n hx hb dX0_put_0 rfl (lv_at hl 0 rfl) ?_
  refine va_get (D := (dC, dI)) (ci := 3) (v := .int 6) (C := RX0) (T := TX0) (N := 15) hx hb hts (in_z_X0_put_6_X0) hown hK hP 0 rfl rfl 2 (by decide) (hts (.fieldLink RX0 35 "HeapWorks$Archive" "filled" "I") (by decide +kernel)) (fun _ h9 => h9) (ow_at o_Fs0 0 rfl) dX0_put_1 ?_
  refine lv_aload_n hx hb dX0_put_4 rfl (lv_at hl 0 rfl) ?_
  refine va_get (D := (dC, dI)) (ci := 3) (v := .ref Ad1) (C := RX0) (T := TX0) (N := 15) hx hb hts (in_z_X0_put_6_X0) hown hK hP 0 rfl rfl 1 (by decide) (hts (.fieldLink RX0 19 "HeapWorks$Archive" "buffer" "[I") (by decide +kernel)) (fun _ h9 => h9) (ow_at o_Fs0 1 rfl) dX0_put_5 ?_
  refine va_alen (v := 4000) hx hb hK hP 1 0 rfl rfl (show Int32.ofNat 4000 = 4000 from by decide) dX0_put_8 ?_
  refine lv_icmp_ge (tgt := 22) hx hb dX0_put_9 (by decide) (fun c101 => absurd c101 (by decide)) (fun c101 => ?_)
  refine lv_aload_n hx hb dX0_put_12 rfl (lv_at hl 0 rfl) ?_
  refine va_get (D := (dC, dI)) (ci := 3) (v := .ref Ad1) (C := RX0) (T := TX0) (N := 15) hx hb hts (in_z_X0_put_6_X0) hown hK hP 0 rfl rfl 1 (by decide) (hts (.fieldLink RX0 19 "HeapWorks$Archive" "buffer" "[I") (by decide +kernel)) (fun _ h9 => h9) (ow_at o_Fs0 1 rfl) dX0_put_13 ?_
  refine lv_aload_n hx hb dX0_put_16 rfl (lv_at hl 0 rfl) ?_
  refine va_get (D := (dC, dI)) (ci := 3) (v := .int 6) (C := RX0) (T := TX0) (N := 15) hx hb hts (in_z_X0_put_6_X0) hown hK hP 0 rfl rfl 2 (by decide) (hts (.fieldLink RX0 35 "HeapWorks$Archive" "filled" "I") (by decide +kernel)) (fun _ h9 => h9) (ow_at o_Fs0 0 rfl) dX0_put_17 ?_
  refine lv_iload_n hx hb dX0_put_20 rfl (lv_at hl 1 rfl) ?_
  refine va_iast hx hb hK hP hD hS 1 0 rfl rfl (show vp_in 6 4000 from by unfold vp_in; decide) dX0_put_21 (fun H locs hP hD hS => ?_)
  have hP : va_P (dC, dI) vwCl [(Ad0, .inr (3, Fs0)), (Ad1, .inl (Ka0, 4000, .inl (upd Fa0 (6 : Int32).toNatClampNeg Va0)))] H := hP
  have hD : va_D A [(Ad0, .inr (3, Fs0)), (Ad1, .inl (Ka0, 4000, .inl (upd Fa0 (6 : Int32).toNatClampNeg Va0)))] := hD
  have q103 : (upd Fa0 (6 : Int32).toNatClampNeg Va0) (6 : Int32).toNatClampNeg = Va0 := pk_us
  generalize upd Fa0 (6 : Int32).toNatClampNeg Va0 = f102 at hP hD q103
  refine lv_aload_n hx hb dX0_put_22 rfl (lv_at hl 0 rfl) ?_
  refine lv_dup hx hb dX0_put_23 rfl ?_
  refine va_get (D := (dC, dI)) (ci := 3) (v := .int 6) (C := RX0) (T := TX0) (N := 15) hx hb hts (in_z_X0_put_6_X0) hown hK hP 0 rfl rfl 2 (by decide) (hts (.fieldLink RX0 35 "HeapWorks$Archive" "filled" "I") (by decide +kernel)) (fun _ h9 => h9) (ow_at o_Fs0 0 rfl) dX0_put_24 ?_
  refine lv_iconst (v := 1) hx hb dX0_put_27 (by decide) ?_
  refine lv_iadd hx hb dX0_put_28  ?_
  refine lv_topi (fun x104 ex104 => ?_)
  obtain rfl : x104 = 7 := ex104.trans (by decide)
  refine va_put (D := (dC, dI)) (ci := 3) (v := .int 7) (ty := .int) (C := RX0) (T := TX0) (N := 15) hx hb hts (in_z_X0_put_6_X0) tyX0 tyX0_ok nmX0 hown hK hP hD hS 0 rfl rfl 2 (by decide) (hts (.fieldLink RX0 35 "HeapWorks$Archive" "filled" "I") (by decide +kernel)) (fun _ h9 => h9) rfl (by decide +kernel) rfl rfl (by rw [o_Fs0.2.1]; decide) dX0_put_29 (fun H locs hP hD hS => ?_)
  have hP : va_P (dC, dI) vwCl [(Ad0, .inr (3, (Fs0.set 2 (.int 7)))), (Ad1, .inl (Ka0, 4000, .inl f102))] H := hP
  have hD : va_D A [(Ad0, .inr (3, (Fs0.set 2 (.int 7)))), (Ad1, .inl (Ka0, 4000, .inl f102))] := hD
  have o_s105 := ow_set o_Fs0 2 (.int 7) (by decide) (l' := (([(2, .int 7), (1, .ref Ad1), (1, .ref Ad1), (1, .ref Ad1), (1, .ref Ad1), (1, .ref Ad1), (1, .ref Ad1), (1, .ref Ad1), (1, .ref Ad1), (1, .ref Ad1), (1, .ref Ad1), (1, .ref Ad1), (1, .ref Ad1), (1, .ref Ad1), (1, .ref Ad1), (1, .ref Ad1)] : List (Nat × Value)) ++ (([(1, .ref Ad1), (1, .ref Ad1), (1, .ref Ad1), (1, .ref Ad1), (1, .ref Ad1), (1, .ref Ad1), (1, .ref Ad1), (1, .ref Ad1), (1, .ref Ad1), (1, .ref Ad1), (1, .ref Ad1), (1, .ref Ad1), (1, .ref Ad1), (1, .ref Ad1), (1, .ref Ad1), (1, .ref Ad1)] : List (Nat × Value)) ++ (([(1, .ref Ad1), (1, .ref Ad1), (1, .ref Ad1), (1, .ref Ad1), (1, .ref Ad1), (1, .ref Ad1), (1, .ref Ad1), (1, .ref Ad1), (1, .ref Ad1), (1, .ref Ad1), (1, .ref Ad1), (1, .ref Ad1), (1, .ref Ad1), (1, .ref Ad1), (1, .ref Ad1), (1, .ref Ad1)] : List (Nat × Value)) ++ (([(1, .ref Ad1), (1, .ref Ad1), (1, .ref Ad1), (1, .ref Ad1), (1, .ref Ad1), (1, .ref Ad1), (1, .ref Ad1), (1, .ref Ad1), (1, .ref Ad1), (1, .ref Ad1), (1, .ref Ad1), (1, .ref Ad1), (1, .ref Ad1), (1, .ref Ad1), (1, .ref Ad1), (1, .ref Ad1)] : List (Nat × Value)) ++ (([(1, .ref Ad1), (1, .ref Ad1), (1, .ref Ad1), (1, .ref Ad1), (1, .ref Ad1), (1, .ref Ad1), (1, .ref Ad1), (1, .ref Ad1), (1, .ref Ad1), (1, .ref Ad1), (1, .ref Ad1), (1, .ref Ad1), (1, .ref Ad1), (1, .ref Ad1), (1, .ref Ad1), (1, .ref Ad1)] : List (Nat × Value)) ++ (([(1, .ref Ad1), (1, .ref Ad1), (1, .ref Ad1), (1, .ref Ad1), (1, .ref Ad1), (1, .ref Ad1), (1, .ref Ad1), (1, .ref Ad1), (1, .ref Ad1), (1, .ref Ad1), (1, .ref Ad1), (1, .ref Ad1), (1, .ref Ad1), (1, .ref Ad1), (1, .ref Ad1), (1, .ref Ad1)] : List (Nat × Value)) ++ (([(1, .ref Ad1), (1, .ref Ad1), (1, .ref Ad1), (1, .ref Ad1), (1, .ref Ad1), (1, .ref Ad1), (1, .ref Ad1), (1, .ref Ad1), (1, .ref Ad1), (1, .ref Ad1), (1, .ref Ad1), (1, .ref Ad1), (1, .ref Ad1), (1, .ref Ad1), (1, .ref Ad1), (1, .ref Ad1)] : List (Nat × Value)) ++ (([(1, .ref Ad1), (1, .ref Ad1), (1, .ref Ad1), (1, .ref Ad1), (1, .ref Ad1), (1, .ref Ad1), (1, .ref Ad1), (1, .ref Ad1), (1, .ref Ad1), (1, .ref Ad1), (1, .ref Ad1), (1, .ref Ad1), (1, .ref Ad1), (1, .ref Ad1), (1, .ref Ad1), (1, .ref Ad1)] : List (Nat × Value)) ++ (([(1, .ref Ad1), (1, .ref Ad1), (1, .ref Ad1), (1, .ref Ad1), (1, .ref Ad1), (1, .ref Ad1), (1, .ref Ad1), (1, .ref Ad1), (1, .ref Ad1), (1, .ref Ad1), (1, .ref Ad1), (1, .ref Ad1), (1, .ref Ad1), (1, .ref Ad1), (1, .ref Ad1), (1, .ref Ad1)] : List (Nat × Value)) ++ (([(1, .ref Ad1)] : List (Nat × Value))))))))))))) (w' := [2]) rfl rfl
  generalize (Fs0.set 2 (.int 7)) = s105 at hP hD o_s105
  have hP9 := hP.sub (ws' := [(Ad0, .inr (3, s105)), (Ad1, .inl (Ka0, 4000, .inl f102))]) [0, 1] rfl
  have hD9 := hD.sub (ws' := [(Ad0, .inr (3, s105)), (Ad1, .inl (Ka0, 4000, .inl f102))]) [0, 1] (by decide) rfl
  have hK9 := hK.sub (tys' := [(Ka0, .int)]) [0] rfl
  exact W.vret hx hb hr (fun t ht hW => ⟨⟨(s105, f102), rfl, ⟨o_s105, q103⟩, by rw [ht]; exact hP9, va_K.moved hW.alike hK9, hD9⟩, hS.F ht⟩) hS.2.2 dX0_put_32

def l_z_X0_put_7 : List Cond := [.fieldLink RX0 35 "HeapWorks$Archive" "filled" "I", .fieldLink RX0 19 "HeapWorks$Archive" "buffer" "[I"]
def w_z_X0_put_7 : List Cond := .code yX0_put cX0_put 2 none :: (l_z_X0_put_7 ++ (wsX00))
theorem in_z_X0_put_7_X0 : ∀ w ∈ wsX00, w ∈ w_z_X0_put_7 := fun w h => List.mem_cons_of_mem _ (List.mem_append_right _ (h))
set_option maxHeartbeats 4000000 in
set_option maxRecDepth 100000 in
theorem z_X0_put_7 (l : Launch) (dC : Nat → ClassId) (dI : Nat → Nat → Nat) (sz : Nat) (Ad0 : Nat) (Fs0 : List Value) (Ad1 : Nat) (Fa0 : Nat → Int32) (Ka0 : ClassId) (Va0 : Int32) (k_Fs0 : fh Fs0 15 (([(2, .int 7), (1, .ref Ad1), (1, .ref Ad1), (1, .ref Ad1), (1, .ref Ad1), (1, .ref Ad1), (1, .ref Ad1), (1, .ref Ad1), (1, .ref Ad1), (1, .ref Ad1), (1, .ref Ad1), (1, .ref Ad1), (1, .ref Ad1), (1, .ref Ad1), (1, .ref Ad1), (1, .ref Ad1)] : List (Nat × Value)) ++ (([(1, .ref Ad1), (1, .ref Ad1), (1, .ref Ad1), (1, .ref Ad1), (1, .ref Ad1), (1, .ref Ad1), (1, .ref Ad1), (1, .ref Ad1), (1, .ref Ad1), (1, .ref Ad1), (1, .ref Ad1), (1, .ref Ad1), (1, .ref Ad1), (1, .ref Ad1), (1, .ref Ad1), (1, .ref Ad1)] : List (Nat × Value)) ++ (([(1, .ref Ad1), (1, .ref Ad1), (1, .ref Ad1), (1, .ref Ad1), (1, .ref Ad1), (1, .ref Ad1), (1, .ref Ad1), (1, .ref Ad1), (1, .ref Ad1), (1, .ref Ad1), (1, .ref Ad1), (1, .ref Ad1), (1, .ref Ad1), (1, .ref Ad1), (1, .ref Ad1), (1, .ref Ad1)] : List (Nat × Value)) ++ (([(1, .ref Ad1), (1, .ref Ad1), (1, .ref Ad1), (1, .ref Ad1), (1, .ref Ad1), (1, .ref Ad1), (1, .ref Ad1), (1, .ref Ad1), (1, .ref Ad1), (1, .ref Ad1), (1, .ref Ad1), (1, .ref Ad1), (1, .ref Ad1), (1, .ref Ad1), (1, .ref Ad1), (1, .ref Ad1)] : List (Nat × Value)) ++ (([(1, .ref Ad1), (1, .ref Ad1), (1, .ref Ad1), (1, .ref Ad1), (1, .ref Ad1), (1, .ref Ad1), (1, .ref Ad1), (1, .ref Ad1), (1, .ref Ad1), (1, .ref Ad1), (1, .ref Ad1), (1, .ref Ad1), (1, .ref Ad1), (1, .ref Ad1), (1, .ref Ad1), (1, .ref Ad1)] : List (Nat × Value)) ++ (([(1, .ref Ad1), (1, .ref Ad1), (1, .ref Ad1), (1, .ref Ad1), (1, .ref Ad1), (1, .ref Ad1), (1, .ref Ad1), (1, .ref Ad1), (1, .ref Ad1), (1, .ref Ad1), (1, .ref Ad1), (1, .ref Ad1), (1, .ref Ad1), (1, .ref Ad1), (1, .ref Ad1), (1, .ref Ad1)] : List (Nat × Value)) ++ (([(1, .ref Ad1), (1, .ref Ad1), (1, .ref Ad1), (1, .ref Ad1), (1, .ref Ad1), (1, .ref Ad1), (1, .ref Ad1), (1, .ref Ad1), (1, .ref Ad1), (1, .ref Ad1), (1, .ref Ad1), (1, .ref Ad1), (1, .ref Ad1), (1, .ref Ad1), (1, .ref Ad1), (1, .ref Ad1)] : List (Nat × Value)) ++ (([(1, .ref Ad1), (1, .ref Ad1), (1, .ref Ad1), (1, .ref Ad1), (1, .ref Ad1), (1, .ref Ad1), (1, .ref Ad1), (1, .ref Ad1), (1, .ref Ad1), (1, .ref Ad1), (1, .ref Ad1), (1, .ref Ad1), (1, .ref Ad1), (1, .ref Ad1), (1, .ref Ad1), (1, .ref Ad1)] : List (Nat × Value)) ++ (([(1, .ref Ad1), (1, .ref Ad1), (1, .ref Ad1), (1, .ref Ad1), (1, .ref Ad1), (1, .ref Ad1), (1, .ref Ad1), (1, .ref Ad1), (1, .ref Ad1), (1, .ref Ad1), (1, .ref Ad1), (1, .ref Ad1), (1, .ref Ad1), (1, .ref Ad1), (1, .ref Ad1), (1, .ref Ad1)] : List (Nat × Value)) ++ (([(1, .ref Ad1), (1, .ref Ad1), (1, .ref Ad1), (1, .ref Ad1), (1, .ref Ad1), (1, .ref Ad1), (1, .ref Ad1), (1, .ref Ad1), (1, .ref Ad1), (1, .ref Ad1), (1, .ref Ad1), (1, .ref Ad1), (1, .ref Ad1), (1, .ref Ad1), (1, .ref Ad1), (1, .ref Ad1)] : List (Nat × Value)) ++ (([(1, .ref Ad1), (1, .ref Ad1), (1, .ref Ad1), (1, .ref Ad1), (1, .ref Ad1), (1, .ref Ad1), (1, .ref Ad1), (1, .ref Ad1), (1, .ref Ad1), (1, .ref Ad1), (1, .ref Ad1), (1, .ref Ad1), (1, .ref Ad1), (1, .ref Ad1), (1, .ref Ad1), (1, .ref Ad1)] : List (Nat × Value)) ++ (([(1, .ref Ad1), (1, .ref Ad1), (1, .ref Ad1), (1, .ref Ad1), (1, .ref Ad1), (1, .ref Ad1), (1, .ref Ad1), (1, .ref Ad1), (1, .ref Ad1), (1, .ref Ad1), (1, .ref Ad1), (1, .ref Ad1), (1, .ref Ad1), (1, .ref Ad1), (1, .ref Ad1), (1, .ref Ad1)] : List (Nat × Value)) ++ (([(1, .ref Ad1), (1, .ref Ad1), (1, .ref Ad1), (1, .ref Ad1), (1, .ref Ad1), (1, .ref Ad1), (1, .ref Ad1), (1, .ref Ad1), (1, .ref Ad1), (1, .ref Ad1), (1, .ref Ad1), (1, .ref Ad1), (1, .ref Ad1), (1, .ref Ad1), (1, .ref Ad1), (1, .ref Ad1)] : List (Nat × Value)) ++ (([(1, .ref Ad1), (1, .ref Ad1), (1, .ref Ad1), (1, .ref Ad1), (1, .ref Ad1), (1, .ref Ad1), (1, .ref Ad1), (1, .ref Ad1), (1, .ref Ad1), (1, .ref Ad1), (1, .ref Ad1), (1, .ref Ad1), (1, .ref Ad1), (1, .ref Ad1), (1, .ref Ad1), (1, .ref Ad1)] : List (Nat × Value)) ++ (([(1, .ref Ad1), (1, .ref Ad1), (1, .ref Ad1), (1, .ref Ad1), (1, .ref Ad1), (1, .ref Ad1), (1, .ref Ad1), (1, .ref Ad1), (1, .ref Ad1), (1, .ref Ad1), (1, .ref Ad1), (1, .ref Ad1), (1, .ref Ad1), (1, .ref Ad1), (1, .ref Ad1), (1, .ref Ad1)] : List (Nat × Value)) ++ (([(1, .ref Ad1), (1, .ref Ad1), (1, .ref Ad1), (1, .ref Ad1), (1, .ref Ad1), (1, .ref Ad1), (1, .ref Ad1), (1, .ref Ad1), (1, .ref Ad1), (1, .ref Ad1), (1, .ref Ad1), (1, .ref Ad1), (1, .ref Ad1), (1, .ref Ad1), (1, .ref Ad1), (1, .ref Ad1)] : List (Nat × Value)) ++ (([(1, .ref Ad1), (1, .ref Ad1), (1, .ref Ad1), (1, .ref Ad1), (1, .ref Ad1), (1, .ref Ad1), (1, .ref Ad1), (1, .ref Ad1), (1, .ref Ad1), (1, .ref Ad1), (1, .ref Ad1), (1, .ref Ad1), (1, .ref Ad1), (1, .ref Ad1), (1, .ref Ad1), (1, .ref Ad1)] : List (Nat × Value)) ++ (([(1, .ref Ad1), (1, .ref Ad1), (1, .ref Ad1), (1, .ref Ad1), (1, .ref Ad1), (1, .ref Ad1), (1, .ref Ad1), (1, .ref Ad1), (1, .ref Ad1), (1, .ref Ad1), (1, .ref Ad1), (1, .ref Ad1), (1, .ref Ad1), (1, .ref Ad1), (1, .ref Ad1), (1, .ref Ad1)] : List (Nat × Value)) ++ (([(1, .ref Ad1)] : List (Nat × Value))))))))))))))))))))))  : Met l yX0_put w_z_X0_put_7 ({ frames := 0, cells := 0, slots := 0, locals := 0 }) (va_Pc [.ref Ad0, .int Va0] (fun U => U.heap.size = sz ∧ Wd dC dI [(Ka0, .int)] (fun _ => True) [(Ad0, .inr (3, Fs0)), (Ad1, .inl (Ka0, 4000, .inl Fa0))] U)) (va_Qv (fun (u : List Value × (Nat → Int32)) => (ow Fs0 (u.1) 15 [2] (([(2, .int 8), (1, .ref Ad1), (1, .ref Ad1), (1, .ref Ad1), (1, .ref Ad1), (1, .ref Ad1), (1, .ref Ad1), (1, .ref Ad1), (1, .ref Ad1), (1, .ref Ad1), (1, .ref Ad1), (1, .ref Ad1), (1, .ref Ad1), (1, .ref Ad1), (1, .ref Ad1), (1, .ref Ad1)] : List (Nat × Value)) ++ (([(1, .ref Ad1), (1, .ref Ad1), (1, .ref Ad1), (1, .ref Ad1), (1, .ref Ad1), (1, .ref Ad1), (1, .ref Ad1), (1, .ref Ad1), (1, .ref Ad1), (1, .ref Ad1), (1, .ref Ad1), (1, .ref Ad1), (1, .ref Ad1), (1, .ref Ad1), (1, .ref Ad1), (1, .ref Ad1)] : List (Nat × Value)) ++ (([(1, .ref Ad1), (1, .ref Ad1), (1, .ref Ad1), (1, .ref Ad1), (1, .ref Ad1), (1, .ref Ad1), (1, .ref Ad1), (1, .ref Ad1), (1, .ref Ad1), (1, .ref Ad1), (1, .ref Ad1), (1, .ref Ad1), (1, .ref Ad1), (1, .ref Ad1), (1, .ref Ad1), (1, .ref Ad1)] : List (Nat × Value)) ++ (([(1, .ref Ad1), (1, .ref Ad1), (1, .ref Ad1), (1, .ref Ad1), (1, .ref Ad1), (1, .ref Ad1), (1, .ref Ad1), (1, .ref Ad1), (1, .ref Ad1), (1, .ref Ad1), (1, .ref Ad1), (1, .ref Ad1), (1, .ref Ad1), (1, .ref Ad1), (1, .ref Ad1), (1, .ref Ad1)] : List (Nat × Value)) ++ (([(1, .ref Ad1), (1, .ref Ad1), (1, .ref Ad1), (1, .ref Ad1), (1, .ref Ad1), (1, .ref Ad1), (1, .ref Ad1), (1, .ref Ad1), (1, .ref Ad1), (1, .ref Ad1), (1, .ref Ad1), (1, .ref Ad1), (1, .ref Ad1), (1, .ref Ad1), (1, .ref Ad1), (1, .ref Ad1)] : List (Nat × Value)) ++ (([(1, .ref Ad1), (1, .ref Ad1), (1, .ref Ad1), (1, .ref Ad1), (1, .ref Ad1), (1, .ref Ad1), (1, .ref Ad1), (1, .ref Ad1), (1, .ref Ad1), (1, .ref Ad1), (1, .ref Ad1), (1, .ref Ad1), (1, .ref Ad1), (1, .ref Ad1), (1, .ref Ad1), (1, .ref Ad1)] : List (Nat × Value)) ++ (([(1, .ref Ad1), (1, .ref Ad1), (1, .ref Ad1), (1, .ref Ad1), (1, .ref Ad1), (1, .ref Ad1), (1, .ref Ad1), (1, .ref Ad1), (1, .ref Ad1), (1, .ref Ad1), (1, .ref Ad1), (1, .ref Ad1), (1, .ref Ad1), (1, .ref Ad1), (1, .ref Ad1), (1, .ref Ad1)] : List (Nat × Value)) ++ (([(1, .ref Ad1), (1, .ref Ad1), (1, .ref Ad1), (1, .ref Ad1), (1, .ref Ad1), (1, .ref Ad1), (1, .ref Ad1), (1, .ref Ad1), (1, .ref Ad1), (1, .ref Ad1), (1, .ref Ad1), (1, .ref Ad1), (1, .ref Ad1), (1, .ref Ad1), (1, .ref Ad1), (1, .ref Ad1)] : List (Nat × Value)) ++ (([(1, .ref Ad1), (1, .ref Ad1), (1, .ref Ad1), (1, .ref Ad1), (1, .ref Ad1), (1, .ref Ad1), (1, .ref Ad1), (1, .ref Ad1), (1, .ref Ad1), (1, .ref Ad1), (1, .ref Ad1), (1, .ref Ad1), (1, .ref Ad1), (1, .ref Ad1), (1, .ref Ad1), (1, .ref Ad1)] : List (Nat × Value)) ++ (([(1, .ref Ad1), (1, .ref Ad1), (1, .ref Ad1), (1, .ref Ad1), (1, .ref Ad1), (1, .ref Ad1), (1, .ref Ad1), (1, .ref Ad1), (1, .ref Ad1), (1, .ref Ad1), (1, .ref Ad1), (1, .ref Ad1), (1, .ref Ad1), (1, .ref Ad1), (1, .ref Ad1), (1, .ref Ad1)] : List (Nat × Value)) ++ (([(1, .ref Ad1), (1, .ref Ad1), (1, .ref Ad1), (1, .ref Ad1), (1, .ref Ad1), (1, .ref Ad1), (1, .ref Ad1), (1, .ref Ad1), (1, .ref Ad1), (1, .ref Ad1), (1, .ref Ad1), (1, .ref Ad1), (1, .ref Ad1), (1, .ref Ad1), (1, .ref Ad1), (1, .ref Ad1)] : List (Nat × Value)) ++ (([(1, .ref Ad1), (1, .ref Ad1), (1, .ref Ad1), (1, .ref Ad1), (1, .ref Ad1), (1, .ref Ad1), (1, .ref Ad1), (1, .ref Ad1), (1, .ref Ad1), (1, .ref Ad1), (1, .ref Ad1), (1, .ref Ad1), (1, .ref Ad1), (1, .ref Ad1), (1, .ref Ad1), (1, .ref Ad1)] : List (Nat × Value)) ++ (([(1, .ref Ad1), (1, .ref Ad1), (1, .ref Ad1), (1, .ref Ad1), (1, .ref Ad1), (1, .ref Ad1), (1, .ref Ad1), (1, .ref Ad1), (1, .ref Ad1), (1, .ref Ad1), (1, .ref Ad1), (1, .ref Ad1), (1, .ref Ad1), (1, .ref Ad1), (1, .ref Ad1), (1, .ref Ad1)] : List (Nat × Value)) ++ (([(1, .ref Ad1), (1, .ref Ad1), (1, .ref Ad1), (1, .ref Ad1), (1, .ref Ad1), (1, .ref Ad1), (1, .ref Ad1), (1, .ref Ad1), (1, .ref Ad1), (1, .ref Ad1), (1, .ref Ad1), (1, .ref Ad1), (1, .ref Ad1), (1, .ref Ad1), (1, .ref Ad1), (1, .ref Ad1)] : List (Nat × Value)) ++ (([(1, .ref Ad1), (1, .ref Ad1), (1, .ref Ad1), (1, .ref Ad1), (1, .ref Ad1), (1, .ref Ad1), (1, .ref Ad1), (1, .ref Ad1), (1, .ref Ad1), (1, .ref Ad1), (1, .ref Ad1), (1, .ref Ad1), (1, .ref Ad1), (1, .ref Ad1), (1, .ref Ad1), (1, .ref Ad1)] : List (Nat × Value)) ++ (([(1, .ref Ad1), (1, .ref Ad1), (1, .ref Ad1), (1, .ref Ad1), (1, .ref Ad1), (1, .ref Ad1), (1, .ref Ad1), (1, .ref Ad1), (1, .ref Ad1), (1, .ref Ad1), (1, .ref Ad1), (1, .ref Ad1), (1, .ref Ad1), (1, .ref Ad1), (1, .ref Ad1), (1, .ref Ad1)] : List (Nat × Value)) ++ (([(1, .ref Ad1), (1, .ref Ad1), (1, .ref Ad1), (1, .ref Ad1), (1, .ref Ad1), (1, .ref Ad1), (1, .ref Ad1), (1, .ref Ad1), (1, .ref Ad1), (1, .ref Ad1), (1, .ref Ad1), (1, .ref Ad1), (1, .ref Ad1), (1, .ref Ad1), (1, .ref Ad1), (1, .ref Ad1)] : List (Nat × Value)) ++ (([(1, .ref Ad1), (1, .ref Ad1), (1, .ref Ad1), (1, .ref Ad1), (1, .ref Ad1), (1, .ref Ad1), (1, .ref Ad1), (1, .ref Ad1), (1, .ref Ad1), (1, .ref Ad1), (1, .ref Ad1), (1, .ref Ad1), (1, .ref Ad1), (1, .ref Ad1), (1, .ref Ad1), (1, .ref Ad1)] : List (Nat × Value)) ++ (([(1, .ref Ad1)] : List (Nat × Value))))))))))))))))))))) ∧ (u.2) (7 : Int32).toNatClampNeg = Va0)) (fun (u : List Value × (Nat → Int32)) t => Wd dC dI [(Ka0, .int)] (va_A [(Ad0, .inr (3, Fs0)), (Ad1, .inl (Ka0, 4000, .inl Fa0))] sz) [(Ad0, .inr (3, (u.1))), (Ad1, .inl (Ka0, 4000, .inl ((u.2))))] t) (va_A [(Ad0, .inr (3, Fs0)), (Ad1, .inl (Ka0, 4000, .inl Fa0))] sz))  0 0 (va_A [(Ad0, .inr (3, Fs0)), (Ad1, .inl (Ka0, 4000, .inl Fa0))] sz) := by
  refine Met.ofW (cc := cX0_put) (maxL := 2) (ret := none) (by decide) rfl ?_
  intro p e s m args below meth c s₁ B hml hv
  obtain ⟨rfl, hsz, hP, hK, hD0⟩ := hv
  have hx := B.exec
  have hb := B.bytes
  have hr := B.returns
  have hts := atoms_spec (ws := w_z_X0_put_7) B.pre
  have hown : s.vm.findClass RX0 = some m.cls := findClass_of_methodNamed B.named
  have hlocks := B.notSynchronized
  subst hsz
  have hD := hD0.self (sz := s.heap.size)
  generalize hAe : va_A [(Ad0, .inr (3, Fs0)), (Ad1, .inl (Ka0, 4000, .inl Fa0))] s.heap.size = A at hD ⊢
  have hA : ∀ q : Nat, s.heap.size ≤ q → A q := fun q h => by rw [← hAe]; exact Or.inr h
  have hS : va_S A s.heap s.heap [] := va_S.rf
  have hl := lv_entry ([.ref Ad0, .int Va0]) (n := 2) (Nat.le_of_ble_eq_true rfl)
  rw [lg_entry_eq]
  generalize (lg_sl ([.ref Ad0, .int Va0]) ++ List.replicate (2 - (lg_sl ([.ref Ad0, .int Va0])).length) Slot.unset).toArray = ls at hl ⊢
  have hl : lv_has ls 2 [(0, .ref Ad0), (1, .int Va0)] := hl
  have o_Fs0 := ow_0 k_Fs0
  refine lv_aload_n hx hb dX0_put_0 rfl (lv_at hl 0 rfl) ?_
  refine va_get (D := (dC, dI)) (ci := 3) (v := .int 7) (C := RX0) (T := TX0) (N := 15) hx hb hts (in_z_X0_put_7_X0) hown hK hP 0 rfl rfl 2 (by decide) (hts (.fieldLink RX0 35 "HeapWorks$Archive" "filled" "I") (by decide +kernel)) (fun _ h9 => h9) (ow_at o_Fs0 0 rfl) dX0_put_1 ?_
  refine lv_aload_n hx hb dX0_put_4 rfl (lv_at hl 0 rfl) ?_
  refine va_get (D := (dC, dI)) (ci := 3) (v := .ref Ad1) (C := RX0) (T := TX0) (N := 15) hx hb hts (in_z_X0_put_7_X0) hown hK hP 0 rfl rfl 1 (by decide) (hts (.fieldLink RX0 19 "HeapWorks$Archive" "buffer" "[I") (by decide +kernel)) (fun _ h9 => h9) (ow_at o_Fs0 1 rfl) dX0_put_5 ?_
  refine va_alen (v := 4000) hx hb hK hP 1 0 rfl rfl (show Int32.ofNat 4000 = 4000 from by decide) dX0_put_8 ?_
  refine lv_icmp_ge (tgt := 22) hx hb dX0_put_9 (by decide) (fun c101 => absurd c101 (by decide)) (fun c101 => ?_)
  refine lv_aload_n hx hb dX0_put_12 rfl (lv_at hl 0 rfl) ?_
  refine va_get (D := (dC, dI)) (ci := 3) (v := .ref Ad1) (C := RX0) (T := TX0) (N := 15) hx hb hts (in_z_X0_put_7_X0) hown hK hP 0 rfl rfl 1 (by decide) (hts (.fieldLink RX0 19 "HeapWorks$Archive" "buffer" "[I") (by decide +kernel)) (fun _ h9 => h9) (ow_at o_Fs0 1 rfl) dX0_put_13 ?_
  refine lv_aload_n hx hb dX0_put_16 rfl (lv_at hl 0 rfl) ?_
  refine va_get (D := (dC, dI)) (ci := 3) (v := .int 7) (C := RX0) (T := TX0) (N := 15) hx hb hts (in_z_X0_put_7_X0) hown hK hP 0 rfl rfl 2 (by decide) (hts (.fieldLink RX0 35 "HeapWorks$Archive" "filled" "I") (by decide +kernel)) (fun _ h9 => h9) (ow_at o_Fs0 0 rfl) dX0_put_17 ?_
  refine lv_iload_n hx hb dX0_put_20 rfl (lv_at hl 1 rfl) ?_
  refine va_iast hx hb hK hP hD hS 1 0 rfl rfl (show vp_in 7 4000 from by unfold vp_in; decide) dX0_put_21 (fun H locs hP hD hS => ?_)
  have hP : va_P (dC, dI) vwCl [(Ad0, .inr (3, Fs0)), (Ad1, .inl (Ka0, 4000, .inl (upd Fa0 (7 : Int32).toNatClampNeg Va0)))] H := hP
  have hD : va_D A [(Ad0, .inr (3, Fs0)), (Ad1, .inl (Ka0, 4000, .inl (upd Fa0 (7 : Int32).toNatClampNeg Va0)))] := hD
  have q103 : (upd Fa0 (7 : Int32).toNatClampNeg Va0) (7 : Int32).toNatClampNeg = Va0 := pk_us
  generalize upd Fa0 (7 : Int32).toNatClampNeg Va0 = f102 at hP hD q103
  refine lv_aload_n hx hb dX0_put_22 rfl (lv_at hl 0 rfl) ?_
  refine lv_dup hx hb dX0_put_23 rfl ?_
  refine va_get (D := (dC, dI)) (ci := 3) (v := .int 7) (C := RX0) (T := TX0) (N := 15) hx hb hts (in_z_X0_put_7_X0) hown hK hP 0 rfl rfl 2 (by decide) (hts (.fieldLink RX0 35 "HeapWorks$Archive" "filled" "I") (by decide +kernel)) (fun _ h9 => h9) (ow_at o_Fs0 0 rfl) dX0_put_24 ?_
  refine lv_iconst (v := 1) hx hb dX0_put_27 (by decide) ?_
  refine lv_iadd hx hb dX0_put_28  ?_
  refine lv_topi (fun x104 ex104 => ?_)
  obtain rfl : x104 = 8 := ex104.trans (by decide)
  refine va_put (D := (dC, dI)) (ci := 3) (v := .int 8) (ty := .int) (C := RX0) (T := TX0) (N := 15) hx hb hts (in_z_X0_put_7_X0) tyX0 tyX0_ok nmX0 hown hK hP hD hS 0 rfl rfl 2 (by decide) (hts (.fieldLink RX0 35 "HeapWorks$Archive" "filled" "I") (by decide +kernel)) (fun _ h9 => h9) rfl (by decide +kernel) rfl rfl (by rw [o_Fs0.2.1]; decide) dX0_put_29 (fun H locs hP hD hS => ?_)
  have hP : va_P (dC, dI) vwCl [(Ad0, .inr (3, (Fs0.set 2 (.int 8)))), (Ad1, .inl (Ka0, 4000, .inl f102))] H := hP
  have hD : va_D A [(Ad0, .inr (3, (Fs0.set 2 (.int 8)))), (Ad1, .inl (Ka0, 4000, .inl f102))] := hD
  have o_s105 := ow_set o_Fs0 2 (.int 8) (by decide) (l' := (([(2, .int 8), (1, .ref Ad1), (1, .ref Ad1), (1, .ref Ad1), (1, .ref Ad1), (1, .ref Ad1), (1, .ref Ad1), (1, .ref Ad1), (1, .ref Ad1), (1, .ref Ad1), (1, .ref Ad1), (1, .ref Ad1), (1, .ref Ad1), (1, .ref Ad1), (1, .ref Ad1), (1, .ref Ad1)] : List (Nat × Value)) ++ (([(1, .ref Ad1), (1, .ref Ad1), (1, .ref Ad1), (1, .ref Ad1), (1, .ref Ad1), (1, .ref Ad1), (1, .ref Ad1), (1, .ref Ad1), (1, .ref Ad1), (1, .ref Ad1), (1, .ref Ad1), (1, .ref Ad1), (1, .ref Ad1), (1, .ref Ad1), (1, .ref Ad1), (1, .ref Ad1)] : List (Nat × Value)) ++ (([(1, .ref Ad1), (1, .ref Ad1), (1, .ref Ad1), (1, .ref Ad1), (1, .ref Ad1), (1, .ref Ad1), (1, .ref Ad1), (1, .ref Ad1), (1, .ref Ad1), (1, .ref Ad1), (1, .ref Ad1), (1, .ref Ad1), (1, .ref Ad1), (1, .ref Ad1), (1, .ref Ad1), (1, .ref Ad1)] : List (Nat × Value)) ++ (([(1, .ref Ad1), (1, .ref Ad1), (1, .ref Ad1), (1, .ref Ad1), (1, .ref Ad1), (1, .ref Ad1), (1, .ref Ad1), (1, .ref Ad1), (1, .ref Ad1), (1, .ref Ad1), (1, .ref Ad1), (1, .ref Ad1), (1, .ref Ad1), (1, .ref Ad1), (1, .ref Ad1), (1, .ref Ad1)] : List (Nat × Value)) ++ (([(1, .ref Ad1), (1, .ref Ad1), (1, .ref Ad1), (1, .ref Ad1), (1, .ref Ad1), (1, .ref Ad1), (1, .ref Ad1), (1, .ref Ad1), (1, .ref Ad1), (1, .ref Ad1), (1, .ref Ad1), (1, .ref Ad1), (1, .ref Ad1), (1, .ref Ad1), (1, .ref Ad1), (1, .ref Ad1)] : List (Nat × Value)) ++ (([(1, .ref Ad1), (1, .ref Ad1), (1, .ref Ad1), (1, .ref Ad1), (1, .ref Ad1), (1, .ref Ad1), (1, .ref Ad1), (1, .ref Ad1), (1, .ref Ad1), (1, .ref Ad1), (1, .ref Ad1), (1, .ref Ad1), (1, .ref Ad1), (1, .ref Ad1), (1, .ref Ad1), (1, .ref Ad1)] : List (Nat × Value)) ++ (([(1, .ref Ad1), (1, .ref Ad1), (1, .ref Ad1), (1, .ref Ad1), (1, .ref Ad1), (1, .ref Ad1), (1, .ref Ad1), (1, .ref Ad1), (1, .ref Ad1), (1, .ref Ad1), (1, .ref Ad1), (1, .ref Ad1), (1, .ref Ad1), (1, .ref Ad1), (1, .ref Ad1), (1, .ref Ad1)] : List (Nat × Value)) ++ (([(1, .ref Ad1), (1, .ref Ad1), (1, .ref Ad1), (1, .ref Ad1), (1, .ref Ad1), (1, .ref Ad1), (1, .ref Ad1), (1, .ref Ad1), (1, .ref Ad1), (1, .ref Ad1), (1, .ref Ad1), (1, .ref Ad1), (1, .ref Ad1), (1, .ref Ad1), (1, .ref Ad1), (1, .ref Ad1)] : List (Nat × Value)) ++ (([(1, .ref Ad1), (1, .ref Ad1), (1, .ref Ad1), (1, .ref Ad1), (1, .ref Ad1), (1, .ref Ad1), (1, .ref Ad1), (1, .ref Ad1), (1, .ref Ad1), (1, .ref Ad1), (1, .ref Ad1), (1, .ref Ad1), (1, .ref Ad1), (1, .ref Ad1), (1, .ref Ad1), (1, .ref Ad1)] : List (Nat × Value)) ++ (([(1, .ref Ad1), (1, .ref Ad1), (1, .ref Ad1), (1, .ref Ad1), (1, .ref Ad1), (1, .ref Ad1), (1, .ref Ad1), (1, .ref Ad1), (1, .ref Ad1), (1, .ref Ad1), (1, .ref Ad1), (1, .ref Ad1), (1, .ref Ad1), (1, .ref Ad1), (1, .ref Ad1), (1, .ref Ad1)] : List (Nat × Value)) ++ (([(1, .ref Ad1), (1, .ref Ad1), (1, .ref Ad1), (1, .ref Ad1), (1, .ref Ad1), (1, .ref Ad1), (1, .ref Ad1), (1, .ref Ad1), (1, .ref Ad1), (1, .ref Ad1), (1, .ref Ad1), (1, .ref Ad1), (1, .ref Ad1), (1, .ref Ad1), (1, .ref Ad1), (1, .ref Ad1)] : List (Nat × Value)) ++ (([(1, .ref Ad1), (1, .ref Ad1), (1, .ref Ad1), (1, .ref Ad1), (1, .ref Ad1), (1, .ref Ad1), (1, .ref Ad1), (1, .ref Ad1), (1, .ref Ad1), (1, .ref Ad1), (1, .ref Ad1), (1, .ref Ad1), (1, .ref Ad1), (1, .ref Ad1), (1, .ref Ad1), (1, .ref Ad1)] : List (Nat × Value)) ++ (([(1, .ref Ad1), (1, .ref Ad1), (1, .ref Ad1), (1, .ref Ad1), (1, .ref Ad1), (1, .ref Ad1), (1, .ref Ad1), (1, .ref Ad1), (1, .ref Ad1), (1, .ref Ad1), (1, .ref Ad1), (1, .ref Ad1), (1, .ref Ad1), (1, .ref Ad1), (1, .ref Ad1), (1, .ref Ad1)] : List (Nat × Value)) ++ (([(1, .ref Ad1), (1, .ref Ad1), (1, .ref Ad1), (1, .ref Ad1), (1, .ref Ad1), (1, .ref Ad1), (1, .ref Ad1), (1, .ref Ad1), (1, .ref Ad1), (1, .ref Ad1), (1, .ref Ad1), (1, .ref Ad1), (1, .ref Ad1), (1, .ref Ad1), (1, .ref Ad1), (1, .ref Ad1)] : List (Nat × Value)) ++ (([(1, .ref Ad1), (1, .ref Ad1), (1, .ref Ad1), (1, .ref Ad1), (1, .ref Ad1), (1, .ref Ad1), (1, .ref Ad1), (1, .ref Ad1), (1, .ref Ad1), (1, .ref Ad1), (1, .ref Ad1), (1, .ref Ad1), (1, .ref Ad1), (1, .ref Ad1), (1, .ref Ad1), (1, .ref Ad1)] : List (Nat × Value)) ++ (([(1, .ref Ad1), (1, .ref Ad1), (1, .ref Ad1), (1, .ref Ad1), (1, .ref Ad1), (1, .ref Ad1), (1, .ref Ad1), (1, .ref Ad1), (1, .ref Ad1), (1, .ref Ad1), (1, .ref Ad1), (1, .ref Ad1), (1, .ref Ad1), (1, .ref Ad1), (1, .ref Ad1), (1, .ref Ad1)] : List (Nat × Value)) ++ (([(1, .ref Ad1), (1, .ref Ad1), (1, .ref Ad1), (1, .ref Ad1), (1, .ref Ad1), (1, .ref Ad1), (1, .ref Ad1), (1, .ref Ad1), (1, .ref Ad1), (1, .ref Ad1), (1, .ref Ad1), (1, .ref Ad1), (1, .ref Ad1), (1, .ref Ad1), (1, .ref Ad1), (1, .ref Ad1)] : List (Nat × Value)) ++ (([(1, .ref Ad1), (1, .ref Ad1), (1, .ref Ad1), (1, .ref Ad1), (1, .ref Ad1), (1, .ref Ad1), (1, .ref Ad1), (1, .ref Ad1), (1, .ref Ad1), (1, .ref Ad1), (1, .ref Ad1), (1, .ref Ad1), (1, .ref Ad1), (1, .ref Ad1), (1, .ref Ad1), (1, .ref Ad1)] : List (Nat × Value)) ++ (([(1, .ref Ad1)] : List (Nat × Value)))))))))))))))))))))) (w' := [2]) rfl rfl
  generalize (Fs0.set 2 (.int 8)) = s105 at hP hD o_s105
  have hP9 := hP.sub (ws' := [(Ad0, .inr (3, s105)), (Ad1, .inl (Ka0, 4000, .inl f102))]) [0, 1] rfl
  have hD9 := hD.sub (ws' := [(Ad0, .inr (3, s105)), (Ad1, .inl (Ka0, 4000, .inl f102))]) [0, 1] (by decide) rfl
  have hK9 := hK.sub (tys' := [(Ka0, .int)]) [0] rfl
  exact W.vret hx hb hr (fun t ht hW => ⟨⟨(s105, f102), rfl, ⟨o_s105, q103⟩, by rw [ht]; exact hP9, va_K.moved hW.alike hK9, hD9⟩, hS.F ht⟩) hS.2.2 dX0_put_32

