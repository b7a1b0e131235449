def l_z_X6_readPromise : List Cond := [.methodLink RX6 38 yX6_start, .instanceMethod yX6_start, .selects RX6 yX6_start yX6_start, .initialized RX6, .methodLink RX6 41 yX6_readE, .instanceMethod yX6_readE, .selects RX6 yX6_readE yX6_readE, .code yX6_start cX6_start 1 none, .fieldLink RX6 72 "HeapWorks$Program" "steps" "I", .fieldLink RX6 75 "HeapWorks$Program" "fault" "I", .fieldLink RX6 78 "HeapWorks$Program" "place" "I", .fieldLink RX6 81 "HeapWorks$Program" "usesHolders" "Z", .fieldLink RX6 84 "HeapWorks$Program" "usesKept" "Z", .fieldLink RX6 87 "HeapWorks$Program" "nodes" "I", .fieldLink RX6 90 "HeapWorks$Program" "nest" "I", .fieldLink RX6 93 "HeapWorks$Program" "folds" "I", .fieldLink RX6 62 "HeapWorks$Program" "itKnown" "Z", .fieldLink RX6 96 "HeapWorks$Program" "scopes" "I", .fieldLink RX6 99 "HeapWorks$Program" "waits" "I", .fieldLink RX6 9 "HeapWorks$Program" "tape" "LHeapWorks$Tape;", .methodLink RX6 102 yX9_startWords, .instanceMethod yX9_startWords, .selects RX9 yX9_startWords yX9_startWords, .initialized RX9, .code yX9_startWords cX9_startWords 2 none, .fieldLink RX9 69 "HeapWorks$Tape" "at" "I", .methodLink RX9 72 yX9_scanWord, .instanceMethod yX9_scanWord, .selects RX9 yX9_scanWord yX9_scanWord, .fieldLink RX9 18 "HeapWorks$Tape" "words" "[I", .fieldLink RX9 75 "HeapWorks$Tape" "word" "I", .fieldLink RX9 21 "HeapWorks$Tape" "places" "[I", .fieldLink RX9 78 "HeapWorks$Tape" "place" "I", .fieldLink RX9 24 "HeapWorks$Tape" "codes" "[J", .fieldLink RX9 81 "HeapWorks$Tape" "code" "J", .fieldLink RX9 85 "HeapWorks$Tape" "next" "I", .methodLink RX9 88 yX9_nextWord, .instanceMethod yX9_nextWord, .selects RX9 yX9_nextWord yX9_nextWord, .code yX9_scanWord cX9_scanWord 1 none, .fieldLink RX9 49 "HeapWorks$Tape" "size" "I", .code yX9_nextWord cX9_nextWord 1 none, .code yX6_readE cX6_readE 3 (some .boolean), .methodLink RX6 128 yX6_readAnds, .instanceMethod yX6_readAnds, .selects RX6 yX6_readAnds yX6_readAnds, .code yX6_readAnds cX6_readAnds 3 (some .boolean), .methodLink RX6 131 yX6_readNots, .instanceMethod yX6_readNots, .selects RX6 yX6_readNots yX6_readNots, .code yX6_readNots cX6_readNots 3 (some .boolean), .fieldLink RX6 45 "HeapWorks$Tape" "word" "I", .methodLink RX6 134 yX6_readComparison, .instanceMethod yX6_readComparison, .selects RX6 yX6_readComparison yX6_readComparison, .code yX6_readComparison cX6_readComparison 2 (some .boolean), .methodLink RX6 137 yX6_readSums, .instanceMethod yX6_readSums, .selects RX6 yX6_readSums yX6_readSums, .code yX6_readSums cX6_readSums 3 (some .boolean), .methodLink RX6 144 yX6_readProducts, .instanceMethod yX6_readProducts, .selects RX6 yX6_readProducts yX6_readProducts, .code yX6_readProducts cX6_readProducts 3 (some .boolean), .methodLink RX6 147 yX6_readSigned, .instanceMethod yX6_readSigned, .selects RX6 yX6_readSigned yX6_readSigned, .code yX6_readSigned cX6_readSigned 3 (some .boolean), .methodLink RX6 125 yX6_readP, .instanceMethod yX6_readP, .selects RX6 yX6_readP yX6_readP, .code yX6_readP cX6_readP 3 (some .boolean), .methodLink RX6 150 yX6_readAtom, .instanceMethod yX6_readAtom, .selects RX6 yX6_readAtom yX6_readAtom, .code yX6_readAtom cX6_readAtom 1 (some .boolean), .methodLink RX6 51 yX6_refuse, .instanceMethod yX6_refuse, .selects RX6 yX6_refuse yX6_refuse, .code yX6_refuse cX6_refuse 1 (some .boolean), .methodLink RX6 112 yX6_fail, .instanceMethod yX6_fail, .selects RX6 yX6_fail yX6_fail, .code yX6_fail cX6_fail 2 (some .boolean), .fieldLink RX6 111 "HeapWorks$Tape" "place" "I"]
def w_z_X6_readPromise : List Cond := .code yX6_readPromise cX6_readPromise 1 (some .boolean) :: (l_z_X6_readPromise ++ ((wsX60 ++ wsX90)))
theorem in_z_X6_readPromise_X6 : ∀ w ∈ wsX60, w ∈ w_z_X6_readPromise := fun w h => List.mem_cons_of_mem _ (List.mem_append_right _ (List.mem_append_left _ h))
theorem in_z_X6_readPromise_X9 : ∀ w ∈ wsX90, w ∈ w_z_X6_readPromise := fun w h => List.mem_cons_of_mem _ (List.mem_append_right _ (List.mem_append_right _ (h)))
theorem g_z_X6_readPromise_z_X6_start_38 : GoodIn w_z_X6_readPromise (wsV RX6 38 RX6 yX6_start w_z_X6_start) := goodIn_app (goodIn_sub (by decide +kernel) (by decide +kernel)) (goodIn_ca (goodIn_sub (by decide +kernel) (by decide +kernel)) (goodIn_app (goodIn_in in_z_X6_readPromise_X6 gd_X6) (goodIn_in in_z_X6_readPromise_X9 gd_X9)))
theorem g_z_X6_readPromise_z_X6_readE_41 : GoodIn w_z_X6_readPromise (wsV RX6 41 RX6 yX6_readE w_z_X6_readE) := goodIn_app (goodIn_sub (by decide +kernel) (by decide +kernel)) (goodIn_ca (goodIn_sub (by decide +kernel) (by decide +kernel)) (goodIn_app (goodIn_in in_z_X6_readPromise_X6 gd_X6) (goodIn_in in_z_X6_readPromise_X9 gd_X9)))
set_option maxHeartbeats 4000000 in
set_option maxRecDepth 100000 in
theorem z_X6_readPromise (l : Launch) (dC : Nat → ClassId) (dI : Nat → Nat → Nat) (sz : Nat) (Ad0 : Nat) (Fs0 : List Value) (Ad1 : Nat) (Fa0 : Nat → Int32) (Ka0 : ClassId) (Ad2 : Nat) (Fa1 : Nat → Int32) (Ka1 : ClassId) (Ad3 : Nat) (Fa2 : Nat → Int64) (Ka2 : ClassId) (Ad4 : Nat) (Fs1 : List Value) (k_Fs0 : fh Fs0 12 [(1, .int 0), (5, .ref Ad1), (6, .ref Ad2), (7, .ref Ad3)]) (k_Fs1 : fh Fs1 19 [(0, .ref Ad0)])  : Met l yX6_readPromise w_z_X6_readPromise ({ frames := 11, cells := 0, slots := 0, locals := 236 }) (va_Pc [.ref Ad4] (fun U => U.heap.size = sz ∧ Wd dC dI [(Ka0, .int), (Ka1, .int), (Ka2, .long)] (fun _ => True) [(Ad0, .inr (12, Fs0)), (Ad1, .inl (Ka0, 4001, .inl Fa0)), (Ad2, .inl (Ka1, 4001, .inl Fa1)), (Ad3, .inl (Ka2, 4001, .inr (.inl Fa2))), (Ad4, .inr (9, Fs1))] U)) (va_Qi (fun (r : Int32) (u : List Value × (Nat → Int32) × (Nat → Int32) × (Nat → Int64) × List Value) => (r = 0 ∧ ow Fs0 (u.1) 12 [11, 10, 9, 8, 4] [(11, .long 0), (10, .int 0), (9, .int 0), (8, .int 0), (5, .ref Ad1), (6, .ref Ad2), (7, .ref Ad3), (8, .int 0), (4, .int 0), (1, .int 0), (4, .int 0), (1, .int 0), (5, .ref Ad1), (6, .ref Ad2), (7, .ref Ad3), (1, .int 0), (5, .ref Ad1), (6, .ref Ad2), (7, .ref Ad3), (1, .int 0), (5, .ref Ad1), (6, .ref Ad2), (7, .ref Ad3)] ∧ ow Fs1 (u.2.2.2.2) 19 [7, 6, 18, 16, 13, 12, 11, 10, 9, 8, 5] [(7, .int 0), (6, .int 1), (0, .ref Ad0), (0, .ref Ad0), (0, .ref Ad0), (0, .ref Ad0), (0, .ref Ad0), (0, .ref Ad0), (18, .int 0), (0, .ref Ad0), (0, .ref Ad0), (18, .int 0), (0, .ref Ad0), (0, .ref Ad0), (18, .int 0), (0, .ref Ad0), (0, .ref Ad0), (18, .int 0), (0, .ref Ad0), (0, .ref Ad0), (18, .int 0), (0, .ref Ad0), (0, .ref Ad0), (18, .int 0), (0, .ref Ad0), (0, .ref Ad0), (18, .int 0), (0, .ref Ad0), (0, .ref Ad0), (18, .int 0), (0, .ref Ad0), (0, .ref Ad0), (18, .int 0), (16, .int 0), (13, .int 0), (12, .int 0), (11, .int 0), (10, .int 0), (9, .int 0), (8, .int 0), (5, .int 0), (0, .ref Ad0), (0, .ref Ad0)] ∧ (u.2.1) (0 : Int32).toNatClampNeg = 0 ∧ (u.2.2.1) (0 : Int32).toNatClampNeg = 0 ∧ (u.2.2.2.1) (0 : Int32).toNatClampNeg = 0) ∨ (r = 0 ∧ ow Fs0 (u.1) 12 [11, 10, 9, 8, 4] [(11, .long 0), (10, .int 0), (9, .int 0), (8, .int 0), (5, .ref Ad1), (6, .ref Ad2), (7, .ref Ad3), (8, .int 0), (4, .int 0), (1, .int 0), (4, .int 0), (1, .int 0), (5, .ref Ad1), (6, .ref Ad2), (7, .ref Ad3), (1, .int 0), (5, .ref Ad1), (6, .ref Ad2), (7, .ref Ad3), (1, .int 0), (5, .ref Ad1), (6, .ref Ad2), (7, .ref Ad3)] ∧ ow Fs1 (u.2.2.2.2) 19 [7, 6, 18, 16, 13, 12, 11, 10, 9, 8, 5] [(7, .int 0), (6, .int 1), (0, .ref Ad0), (0, .ref Ad0), (0, .ref Ad0), (0, .ref Ad0), (0, .ref Ad0), (0, .ref Ad0), (18, .int 0), (0, .ref Ad0), (0, .ref Ad0), (18, .int 0), (0, .ref Ad0), (0, .ref Ad0), (18, .int 0), (0, .ref Ad0), (0, .ref Ad0), (18, .int 0), (0, .ref Ad0), (0, .ref Ad0), (18, .int 0), (0, .ref Ad0), (0, .ref Ad0), (18, .int 0), (0, .ref Ad0), (0, .ref Ad0), (18, .int 0), (0, .ref Ad0), (0, .ref Ad0), (18, .int 0), (0, .ref Ad0), (0, .ref Ad0), (18, .int 0), (16, .int 0), (13, .int 0), (12, .int 0), (11, .int 0), (10, .int 0), (9, .int 0), (8, .int 0), (5, .int 0), (0, .ref Ad0), (0, .ref Ad0)] ∧ (u.2.1) (0 : Int32).toNatClampNeg = 0 ∧ (u.2.2.1) (0 : Int32).toNatClampNeg = 0 ∧ (u.2.2.2.1) (0 : Int32).toNatClampNeg = 0)) (fun (u : List Value × (Nat → Int32) × (Nat → Int32) × (Nat → Int64) × List Value) t => Wd dC dI [(Ka0, .int), (Ka1, .int), (Ka2, .long)] (va_A [(Ad0, .inr (12, Fs0)), (Ad1, .inl (Ka0, 4001, .inl Fa0)), (Ad2, .inl (Ka1, 4001, .inl Fa1)), (Ad3, .inl (Ka2, 4001, .inr (.inl Fa2))), (Ad4, .inr (9, Fs1))] sz) [(Ad0, .inr (12, (u.1))), (Ad1, .inl (Ka0, 4001, .inl ((u.2.1)))), (Ad2, .inl (Ka1, 4001, .inl ((u.2.2.1)))), (Ad3, .inl (Ka2, 4001, .inr (.inl ((u.2.2.2.1))))), (Ad4, .inr (9, (u.2.2.2.2)))] t) (va_A [(Ad0, .inr (12, Fs0)), (Ad1, .inl (Ka0, 4001, .inl Fa0)), (Ad2, .inl (Ka1, 4001, .inl Fa1)), (Ad3, .inl (Ka2, 4001, .inr (.inl Fa2))), (Ad4, .inr (9, Fs1))] sz))  0 0 (va_A [(Ad0, .inr (12, Fs0)), (Ad1, .inl (Ka0, 4001, .inl Fa0)), (Ad2, .inl (Ka1, 4001, .inl Fa1)), (Ad3, .inl (Ka2, 4001, .inr (.inl Fa2))), (Ad4, .inr (9, Fs1))] sz) := by
  refine Met.ofW (cc := cX6_readPromise) (maxL := 1) (ret := (some .boolean)) (by decide) rfl ?_
  intro p e s m args below meth c s₁ B hml hv
  obtain ⟨rfl, hsz, hP, hK, hD0⟩ := hv
  have hx := B.exec
  have hb := B.bytes
  have hr := B.returns
  have hts := atoms_spec (ws := w_z_X6_readPromise) B.pre
  have hown : s.vm.findClass RX6 = some m.cls := findClass_of_methodNamed B.named
  have hlocks := B.notSynchronized
  subst hsz
  have hD := hD0.self (sz := s.heap.size)
  generalize hAe : va_A [(Ad0, .inr (12, Fs0)), (Ad1, .inl (Ka0, 4001, .inl Fa0)), (Ad2, .inl (Ka1, 4001, .inl Fa1)), (Ad3, .inl (Ka2, 4001, .inr (.inl Fa2))), (Ad4, .inr (9, Fs1))] s.heap.size = A at hD ⊢
  have hA : ∀ q : Nat, s.heap.size ≤ q → A q := fun q h => by rw [← hAe]; exact Or.inr h
  have hS : va_S A s.heap s.heap [] := va_S.rf
  have hl := lv_entry ([.ref Ad4]) (n := 1) (Nat.le_of_ble_eq_true rfl)
  rw [lg_entry_eq]
  generalize (lg_sl ([.ref Ad4]) ++ List.replicate (1 - (lg_sl ([.ref Ad4])).length) Slot.unset).toArray = ls at hl ⊢
  have hl : lv_has ls 1 [(0, .ref Ad4)] := hl
  have o_Fs0 := ow_0 k_Fs0
  have o_Fs1 := ow_0 k_Fs1
  refine lv_aload_n hx hb dX6_readPromise_0 rfl (lv_at hl 0 rfl) ?_
  have hPc := hP.sub (ws' := [(Ad0, .inr (12, Fs0)), (Ad1, .inl (Ka0, 4001, .inl Fa0)), (Ad2, .inl (Ka1, 4001, .inl Fa1)), (Ad3, .inl (Ka2, 4001, .inr (.inl Fa2))), (Ad4, .inr (9, Fs1))]) [0, 1, 2, 3, 4] rfl
  have hDc := hD.sub (ws' := [(Ad0, .inr (12, Fs0)), (Ad1, .inl (Ka0, 4001, .inl Fa0)), (Ad2, .inl (Ka1, 4001, .inl Fa1)), (Ad3, .inl (Ka2, 4001, .inr (.inl Fa2))), (Ad4, .inr (9, Fs1))]) [0, 1, 2, 3, 4] (by decide) rfl
  have hKc := hK.sub (tys' := [(Ka0, .int), (Ka1, .int), (Ka2, .long)]) [0, 1, 2] rfl
  have hFc := va_free (wc := [(Ad0, .inr (12, Fs0)), (Ad1, .inl (Ka0, 4001, .inl Fa0)), (Ad2, .inl (Ka1, 4001, .inl Fa1)), (Ad3, .inl (Ka2, 4001, .inr (.inl Fa2))), (Ad4, .inr (9, Fs1))]) hD hS hA [0, 1, 2, 3, 4] rfl
  refine va_callv (va_runV (As := []) (rest := []) ⟨hx, hb, hml, hown, hts⟩ (z_X6_start l dC dI s.heap.size Ad0 Fs0 Ad1 Fa0 Ka0 Ad2 Fa1 Ka1 Ad3 Fa2 Ka2 Ad4 Fs1 (fh_sub o_Fs0.2 [0, 1, 2, 3] rfl) (fh_sub o_Fs1.2 [0] rfl) ) (cwV 0 hts g_z_X6_readPromise_z_X6_start_38 rfl rfl rfl (by decide +kernel) ⟨Nat.le_of_ble_eq_true rfl, Nat.le_of_ble_eq_true rfl⟩) ⟨fun a U g mk q => by obtain ⟨q0, q1, qP, qK, qD⟩ := q; exact ⟨q0, q1, qP, va_K.moved (u := U) (U := U.calling g mk a) (Vm.Alike.refl U.vm) qK, qD⟩, va_recv hK hP (ci := 9) (q0 := 4) rfl rfl, fun U hU hW => ⟨rfl, by rw [hU], by rw [hU]; exact hPc, va_K.moved hW.alike hKc, hDc.weaken (fun _ _ _ _ => trivial)⟩⟩ rfl rfl hl.1 rfl (lv_room (Nat.le_of_ble_eq_true rfl)) dX6_readPromise_1 ⟨Nat.le_of_ble_eq_true rfl, Nat.le_of_ble_eq_true rfl⟩) hS (fun q _ h => hFc q h) hFc (fun u t H1 locs ht hvm hw hB hz1 hk1 hS => ?_)
  obtain ⟨s4081, f4082, f4083, f4084, s4085⟩ := u
  obtain ⟨hP1, hK1, hD1⟩ := hB
  rw [ht] at hP1
  try dsimp only at hw
  obtain ⟨hP, hD⟩ := va_join (wr := []) (w1 := [(Ad0, .inr (12, s4081)), (Ad1, .inl (Ka0, 4001, .inl f4082)), (Ad2, .inl (Ka1, 4001, .inl f4083)), (Ad3, .inl (Ka2, 4001, .inr (.inl f4084))), (Ad4, .inr (9, s4085))]) hP hD [0, 1, 2, 3, 4] [] rfl rfl (by decide) (by decide) hk1 hFc hP1 hD1
  have hK := hK.sub (tys' := [(Ka0, .int), (Ka1, .int), (Ka2, .long)]) [0, 1, 2] rfl
  generalize H1 = H at hP hS ⊢
  have hP : va_P (dC, dI) vwCl [(Ad0, .inr (12, s4081)), (Ad1, .inl (Ka0, 4001, .inl f4082)), (Ad2, .inl (Ka1, 4001, .inl f4083)), (Ad3, .inl (Ka2, 4001, .inr (.inl f4084))), (Ad4, .inr (9, s4085))] H := hP
  have hD : va_D A [(Ad0, .inr (12, s4081)), (Ad1, .inl (Ka0, 4001, .inl f4082)), (Ad2, .inl (Ka1, 4001, .inl f4083)), (Ad3, .inl (Ka2, 4001, .inr (.inl f4084))), (Ad4, .inr (9, s4085))] := hD
  obtain ⟨o_s4081, o_s4085, q4086, q4087, q4088⟩ := hw
  have o_s4081 := ow_on o_Fs0 o_s4081 (l' := [(11, .long 0), (10, .int 0), (9, .int 0), (8, .int 0), (5, .ref Ad1), (6, .ref Ad2), (7, .ref Ad3), (8, .int 0), (4, .int 0), (1, .int 0), (4, .int 0), (1, .int 0), (5, .ref Ad1), (6, .ref Ad2), (7, .ref Ad3), (1, .int 0), (5, .ref Ad1), (6, .ref Ad2), (7, .ref Ad3), (1, .int 0), (5, .ref Ad1), (6, .ref Ad2), (7, .ref Ad3)]) (w' := [11, 10, 9, 8, 4]) rfl rfl
  have o_s4085 := ow_on o_Fs1 o_s4085 (l' := [(18, .int 0), (16, .int 0), (13, .int 0), (12, .int 0), (11, .int 0), (10, .int 0), (9, .int 0), (8, .int 0), (7, .int (-1)), (6, .int 0), (5, .int 0), (0, .ref Ad0), (0, .ref Ad0)]) (w' := [18, 16, 13, 12, 11, 10, 9, 8, 7, 6, 5]) rfl rfl
  refine lv_aload_n hx hb dX6_readPromise_4 rfl (lv_at hl 0 rfl) ?_
  have hPc := hP.sub (ws' := [(Ad0, .inr (12, s4081)), (Ad4, .inr (9, s4085))]) [0, 4] rfl
  have hDc := hD.sub (ws' := [(Ad0, .inr (12, s4081)), (Ad4, .inr (9, s4085))]) [0, 4] (by decide) rfl
  have hKc := hK.sub (tys' := []) [] rfl
  have hFc := va_free (wc := [(Ad0, .inr (12, s4081)), (Ad4, .inr (9, s4085))]) hD hS hA [0, 4] rfl
  refine va_calli (va_runV (As := []) (rest := []) ⟨hx, hb, hml, hown, hts⟩ (z_X6_readE l dC dI H.size Ad0 s4081 Ad4 s4085 (fh_sub o_s4081.2 [1, 2] rfl) (fh_sub o_s4085.2 [0, 11, 11] rfl) ) (cwV 0 hts g_z_X6_readPromise_z_X6_readE_41 rfl rfl rfl (by decide +kernel) ⟨Nat.le_of_ble_eq_true rfl, Nat.le_of_ble_eq_true rfl⟩) ⟨fun a U g mk q => by obtain ⟨q0, q1, qP, qK, qD⟩ := q; exact ⟨q0, q1, qP, va_K.moved (u := U) (U := U.calling g mk a) (Vm.Alike.refl U.vm) qK, qD⟩, va_recv hK hP (ci := 9) (q0 := 4) rfl rfl, fun U hU hW => ⟨rfl, by rw [hU], by rw [hU]; exact hPc, va_K.moved hW.alike hKc, hDc.weaken (fun _ _ _ _ => trivial)⟩⟩ rfl rfl hl.1 rfl (lv_room (Nat.le_of_ble_eq_true rfl)) dX6_readPromise_5 ⟨Nat.le_of_ble_eq_true rfl, Nat.le_of_ble_eq_true rfl⟩) hS (fun q _ h => hFc q h) hFc (fun r4207 u t H1 locs ht hvm hw hB hz1 hk1 hS => ?_)
  obtain ⟨s4208, rfl⟩ : ∃ z, z = u := ⟨_, rfl⟩
  obtain ⟨hP1, hK1, hD1⟩ := hB
  rw [ht] at hP1
  try dsimp only at hw
  obtain ⟨hP, hD⟩ := va_join (wr := [(Ad1, .inl (Ka0, 4001, .inl f4082)), (Ad2, .inl (Ka1, 4001, .inl f4083)), (Ad3, .inl (Ka2, 4001, .inr (.inl f4084)))]) (w1 := [(Ad0, .inr (12, s4081)), (Ad4, .inr (9, s4208))]) hP hD [0, 4] [1, 2, 3] rfl rfl (by decide) (by decide) hk1 hFc hP1 hD1
  have hK := hK.sub (tys' := [(Ka0, .int), (Ka1, .int), (Ka2, .long)]) [0, 1, 2] rfl
  generalize H1 = H at hP hS ⊢
  have hP : va_P (dC, dI) vwCl [(Ad1, .inl (Ka0, 4001, .inl f4082)), (Ad2, .inl (Ka1, 4001, .inl f4083)), (Ad3, .inl (Ka2, 4001, .inr (.inl f4084))), (Ad0, .inr (12, s4081)), (Ad4, .inr (9, s4208))] H := hP
  have hD : va_D A [(Ad1, .inl (Ka0, 4001, .inl f4082)), (Ad2, .inl (Ka1, 4001, .inl f4083)), (Ad3, .inl (Ka2, 4001, .inr (.inl f4084))), (Ad0, .inr (12, s4081)), (Ad4, .inr (9, s4208))] := hD
  rcases hw with ⟨er4209, o_s4208⟩ | ⟨er4210, o_s4208⟩
  · skip
    subst er4209
    have o_s4208 := ow_on o_s4085 o_s4208 (l' := [(7, .int 0), (6, .int 1), (0, .ref Ad0), (0, .ref Ad0), (0, .ref Ad0), (0, .ref Ad0), (0, .ref Ad0), (0, .ref Ad0), (18, .int 0), (0, .ref Ad0), (0, .ref Ad0), (18, .int 0), (0, .ref Ad0), (0, .ref Ad0), (18, .int 0), (0, .ref Ad0), (0, .ref Ad0), (18, .int 0), (0, .ref Ad0), (0, .ref Ad0), (18, .int 0), (0, .ref Ad0), (0, .ref Ad0), (18, .int 0), (0, .ref Ad0), (0, .ref Ad0), (18, .int 0), (0, .ref Ad0), (0, .ref Ad0), (18, .int 0), (0, .ref Ad0), (0, .ref Ad0), (18, .int 0), (16, .int 0), (13, .int 0), (12, .int 0), (11, .int 0), (10, .int 0), (9, .int 0), (8, .int 0), (5, .int 0), (0, .ref Ad0), (0, .ref Ad0)]) (w' := [7, 6, 18, 16, 13, 12, 11, 10, 9, 8, 5]) rfl rfl
    refine lv_if_eq (tgt := 32) hx hb dX6_readPromise_8 (by decide) (fun c4211 => ?_) (fun c4211 => absurd c4211 (by decide))
    refine lv_iconst (v := 0) hx hb dX6_readPromise_32 (by decide) ?_
    have hP9 := hP.sub (ws' := [(Ad0, .inr (12, s4081)), (Ad1, .inl (Ka0, 4001, .inl f4082)), (Ad2, .inl (Ka1, 4001, .inl f4083)), (Ad3, .inl (Ka2, 4001, .inr (.inl f4084))), (Ad4, .inr (9, s4208))]) [3, 0, 1, 2, 4] rfl
    have hD9 := hD.sub (ws' := [(Ad0, .inr (12, s4081)), (Ad1, .inl (Ka0, 4001, .inl f4082)), (Ad2, .inl (Ka1, 4001, .inl f4083)), (Ad3, .inl (Ka2, 4001, .inr (.inl f4084))), (Ad4, .inr (9, s4208))]) [3, 0, 1, 2, 4] (by decide) rfl
    have hK9 := hK.sub (tys' := [(Ka0, .int), (Ka1, .int), (Ka2, .long)]) [0, 1, 2] rfl
    exact W.zret (v := 0) hx hb hr rfl (fun t ht hW => ⟨⟨0, (s4081, f4082, f4083, f4084, s4208), rfl, (Or.inl ⟨rfl, o_s4081, o_s4208, q4086, q4087, q4088⟩), by rw [ht]; exact hP9, va_K.moved hW.alike hK9, hD9⟩, hS.F ht⟩) hS.2.2 dX6_readPromise_33
  · skip
    subst er4210
    have o_s4208 := ow_on o_s4085 o_s4208 (l' := [(7, .int 0), (6, .int 1), (0, .ref Ad0), (0, .ref Ad0), (0, .ref Ad0), (0, .ref Ad0), (0, .ref Ad0), (0, .ref Ad0), (18, .int 0), (0, .ref Ad0), (0, .ref Ad0), (18, .int 0), (0, .ref Ad0), (0, .ref Ad0), (18, .int 0), (0, .ref Ad0), (0, .ref Ad0), (18, .int 0), (0, .ref Ad0), (0, .ref Ad0), (18, .int 0), (0, .ref Ad0), (0, .ref Ad0), (18, .int 0), (0, .ref Ad0), (0, .ref Ad0), (18, .int 0), (0, .ref Ad0), (0, .ref Ad0), (18, .int 0), (0, .ref Ad0), (0, .ref Ad0), (18, .int 0), (16, .int 0), (13, .int 0), (12, .int 0), (11, .int 0), (10, .int 0), (9, .int 0), (8, .int 0), (5, .int 0), (0, .ref Ad0), (0, .ref Ad0)]) (w' := [7, 6, 18, 16, 13, 12, 11, 10, 9, 8, 5]) rfl rfl
    refine lv_if_eq (tgt := 32) hx hb dX6_readPromise_8 (by decide) (fun c4212 => ?_) (fun c4212 => absurd c4212 (by decide))
    refine lv_iconst (v := 0) hx hb dX6_readPromise_32 (by decide) ?_
    have hP9 := hP.sub (ws' := [(Ad0, .inr (12, s4081)), (Ad1, .inl (Ka0, 4001, .inl f4082)), (Ad2, .inl (Ka1, 4001, .inl f4083)), (Ad3, .inl (Ka2, 4001, .inr (.inl f4084))), (Ad4, .inr (9, s4208))]) [3, 0, 1, 2, 4] rfl
    have hD9 := hD.sub (ws' := [(Ad0, .inr (12, s4081)), (Ad1, .inl (Ka0, 4001, .inl f4082)), (Ad2, .inl (Ka1, 4001, .inl f4083)), (Ad3, .inl (Ka2, 4001, .inr (.inl f4084))), (Ad4, .inr (9, s4208))]) [3, 0, 1, 2, 4] (by decide) rfl
    have hK9 := hK.sub (tys' := [(Ka0, .int), (Ka1, .int), (Ka2, .long)]) [0, 1, 2] rfl
    exact W.zret (v := 0) hx hb hr rfl (fun t ht hW => ⟨⟨0, (s4081, f4082, f4083, f4084, s4208), rfl, (Or.inr (⟨rfl, o_s4081, o_s4208, q4086, q4087, q4088⟩)), by rw [ht]; exact hP9, va_K.moved hW.alike hK9, hD9⟩, hS.F ht⟩) hS.2.2 dX6_readPromise_33

def l_z_X11_tellFault : List Cond := [.fieldLink RX11 469 "HeapWorks" "faultCode" "I", .fieldLink RX11 98 "HeapWorks" "faultPlace" "I"]
def w_z_X11_tellFault : List Cond := .code yX11_tellFault cX11_tellFault 3 none :: (l_z_X11_tellFault ++ (wsX110))
theorem in_z_X11_tellFault_X11 : ∀ w ∈ wsX110, w ∈ w_z_X11_tellFault := fun w h => List.mem_cons_of_mem _ (List.mem_append_right _ (h))
set_option maxHeartbeats 4000000 in
set_option maxRecDepth 100000 in
theorem z_X11_tellFault (l : Launch) (dC : Nat → ClassId) (dI : Nat → Nat → Nat) (sz : Nat) (Ad0 : Nat) (Fs0 : List Value) (k_Fs0 : fh Fs0 18 [])  : Met l yX11_tellFault w_z_X11_tellFault ({ frames := 0, cells := 0, slots := 0, locals := 0 }) (va_Pc [.ref Ad0, .int 1, .int 0] (fun U => U.heap.size = sz ∧ Wd dC dI [] (fun _ => True) [(Ad0, .inr (14, Fs0))] U)) (va_Qv (fun (u : List Value) => ow Fs0 (u) 18 [17, 16] [(17, .int 0), (16, .int 1)]) (fun (u : List Value) t => Wd dC dI [] (va_A [(Ad0, .inr (14, Fs0))] sz) [(Ad0, .inr (14, (u)))] t) (va_A [(Ad0, .inr (14, Fs0))] sz))  0 0 (va_A [(Ad0, .inr (14, Fs0))] sz) := by
  refine Met.ofW (cc := cX11_tellFault) (maxL := 3) (ret := none) (by decide) rfl ?_
  intro p e s m args below meth c s₁ B hml hv
  obtain ⟨rfl, hsz, hP, hK, hD0⟩ := hv
  have hx := B.exec
  have hb := B.bytes
  have hr := B.returns
  have hts := atoms_spec (ws := w_z_X11_tellFault) B.pre
  have hown : s.vm.findClass RX11 = some m.cls := findClass_of_methodNamed B.named
  have hlocks := B.notSynchronized
  subst hsz
  have hD := hD0.self (sz := s.heap.size)
  generalize hAe : va_A [(Ad0, .inr (14, Fs0))] s.heap.size = A at hD ⊢
  have hA : ∀ q : Nat, s.heap.size ≤ q → A q := fun q h => by rw [← hAe]; exact Or.inr h
  have hS : va_S A s.heap s.heap [] := va_S.rf
  have hl := lv_entry ([.ref Ad0, .int 1, .int 0]) (n := 3) (Nat.le_of_ble_eq_true rfl)
  rw [lg_entry_eq]
  generalize (lg_sl ([.ref Ad0, .int 1, .int 0]) ++ List.replicate (3 - (lg_sl ([.ref Ad0, .int 1, .int 0])).length) Slot.unset).toArray = ls at hl ⊢
  have hl : lv_has ls 3 [(0, .ref Ad0), (1, .int 1), (2, .int 0)] := hl
  have o_Fs0 := ow_0 k_Fs0
  refine lv_aload_n hx hb dX11_tellFault_0 rfl (lv_at hl 0 rfl) ?_
  refine lv_iload_n hx hb dX11_tellFault_1 rfl (lv_at hl 1 rfl) ?_
  refine va_put (D := (dC, dI)) (ci := 14) (v := .int 1) (ty := .int) (C := RX11) (T := TX11) (N := 18) hx hb hts (in_z_X11_tellFault_X11) tyX11 tyX11_ok nmX11 hown hK hP hD hS 0 rfl rfl 16 (by decide) (hts (.fieldLink RX11 469 "HeapWorks" "faultCode" "I") (by decide +kernel)) (fun _ h9 => h9) rfl (by decide +kernel) rfl rfl (by rw [o_Fs0.2.1]; decide) dX11_tellFault_2 (fun H locs hP hD hS => ?_)
  have hP : va_P (dC, dI) vwCl [(Ad0, .inr (14, (Fs0.set 16 (.int 1))))] H := hP
  have hD : va_D A [(Ad0, .inr (14, (Fs0.set 16 (.int 1))))] := hD
  have o_s4230 := ow_set o_Fs0 16 (.int 1) (by decide) (l' := [(16, .int 1)]) (w' := [16]) rfl rfl
  generalize (Fs0.set 16 (.int 1)) = s4230 at hP hD o_s4230
  refine lv_aload_n hx hb dX11_tellFault_5 rfl (lv_at hl 0 rfl) ?_
  refine lv_iload_n hx hb dX11_tellFault_6 rfl (lv_at hl 1 rfl) ?_
  refine lv_if_ne (tgt := 14) hx hb dX11_tellFault_7 (by decide) (fun c4231 => ?_) (fun c4231 => absurd c4231 (by decide))
  refine lv_iload_n hx hb dX11_tellFault_14 rfl (lv_at hl 2 rfl) ?_
  refine va_put (D := (dC, dI)) (ci := 14) (v := .int 0) (ty := .int) (C := RX11) (T := TX11) (N := 18) hx hb hts (in_z_X11_tellFault_X11) tyX11 tyX11_ok nmX11 hown hK hP hD hS 0 rfl rfl 17 (by decide) (hts (.fieldLink RX11 98 "HeapWorks" "faultPlace" "I") (by decide +kernel)) (fun _ h9 => h9) rfl (by decide +kernel) rfl rfl (by rw [o_s4230.2.1]; decide) dX11_tellFault_15 (fun H locs hP hD hS => ?_)
  have hP : va_P (dC, dI) vwCl [(Ad0, .inr (14, (s4230.set 17 (.int 0))))] H := hP
  have hD : va_D A [(Ad0, .inr (14, (s4230.set 17 (.int 0))))] := hD
  have o_s4232 := ow_set o_s4230 17 (.int 0) (by decide) (l' := [(17, .int 0), (16, .int 1)]) (w' := [17, 16]) rfl rfl
  generalize (s4230.set 17 (.int 0)) = s4232 at hP hD o_s4232
  have hP9 := hP.sub (ws' := [(Ad0, .inr (14, s4232))]) [0] rfl
  have hD9 := hD.sub (ws' := [(Ad0, .inr (14, s4232))]) [0] (by decide) rfl
  have hK9 := hK.sub (tys' := []) [] rfl
  exact W.vret hx hb hr (fun t ht hW => ⟨⟨s4232, rfl, o_s4232, by rw [ht]; exact hP9, va_K.moved hW.alike hK9, hD9⟩, hS.F ht⟩) hS.2.2 dX11_tellFault_18

def l_x_promise : List Cond := [.fieldLink RX11 326 "HeapWorks" "promiseCount" "I", .fieldLink RX11 66 "HeapWorks" "promised" "[LHeapWorks$Program;", .methodLink RX11 329 yX6_readPromise, .instanceMethod yX6_readPromise, .selects RX6 yX6_readPromise yX6_readPromise, .initialized RX6, .fieldLink RX11 333 "HeapWorks$Program" "fault" "I", .fieldLink RX11 336 "HeapWorks$Program" "place" "I", .methodLink RX11 339 yX11_tellFault, .instanceMethod yX11_tellFault, .selects RX11 yX11_tellFault yX11_tellFault, .initialized RX11, .classLink RX11 127 "java/lang/IllegalArgumentException", .initialized "java/lang/IllegalArgumentException", .code yX6_readPromise cX6_readPromise 1 (some .boolean), .methodLink RX6 38 yX6_start, .instanceMethod yX6_start, .selects RX6 yX6_start yX6_start, .methodLink RX6 41 yX6_readE, .instanceMethod yX6_readE, .selects RX6 yX6_readE yX6_readE, .code yX6_start cX6_start 1 none, .fieldLink RX6 72 "HeapWorks$Program" "steps" "I", .fieldLink RX6 75 "HeapWorks$Program" "fault" "I", .fieldLink RX6 78 "HeapWorks$Program" "place" "I", .fieldLink RX6 81 "HeapWorks$Program" "usesHolders" "Z", .fieldLink RX6 84 "HeapWorks$Program" "usesKept" "Z", .fieldLink RX6 87 "HeapWorks$Program" "nodes" "I", .fieldLink RX6 90 "HeapWorks$Program" "nest" "I", .fieldLink RX6 93 "HeapWorks$Program" "folds" "I", .fieldLink RX6 62 "HeapWorks$Program" "itKnown" "Z", .fieldLink RX6 96 "HeapWorks$Program" "scopes" "I", .fieldLink RX6 99 "HeapWorks$Program" "waits" "I", .fieldLink RX6 9 "HeapWorks$Program" "tape" "LHeapWorks$Tape;", .methodLink RX6 102 yX9_startWords, .instanceMethod yX9_startWords, .selects RX9 yX9_startWords yX9_startWords, .initialized RX9, .code yX9_startWords cX9_startWords 2 none, .fieldLink RX9 69 "HeapWorks$Tape" "at" "I", .methodLink RX9 72 yX9_scanWord, .instanceMethod yX9_scanWord, .selects RX9 yX9_scanWord yX9_scanWord, .fieldLink RX9 18 "HeapWorks$Tape" "words" "[I", .fieldLink RX9 75 "HeapWorks$Tape" "word" "I", .fieldLink RX9 21 "HeapWorks$Tape" "places" "[I", .fieldLink RX9 78 "HeapWorks$Tape" "place" "I", .fieldLink RX9 24 "HeapWorks$Tape" "codes" "[J", .fieldLink RX9 81 "HeapWorks$Tape" "code" "J", .fieldLink RX9 85 "HeapWorks$Tape" "next" "I", .methodLink RX9 88 yX9_nextWord, .instanceMethod yX9_nextWord, .selects RX9 yX9_nextWord yX9_nextWord, .code yX9_scanWord cX9_scanWord 1 none, .fieldLink RX9 49 "HeapWorks$Tape" "size" "I", .code yX9_nextWord cX9_nextWord 1 none, .code yX6_readE cX6_readE 3 (some .boolean), .methodLink RX6 128 yX6_readAnds, .instanceMethod yX6_readAnds, .selects RX6 yX6_readAnds yX6_readAnds, .code yX6_readAnds cX6_readAnds 3 (some .boolean), .methodLink RX6 131 yX6_readNots, .instanceMethod yX6_readNots, .selects RX6 yX6_readNots yX6_readNots, .code yX6_readNots cX6_readNots 3 (some .boolean), .fieldLink RX6 45 "HeapWorks$Tape" "word" "I", .methodLink RX6 134 yX6_readComparison, .instanceMethod yX6_readComparison, .selects RX6 yX6_readComparison yX6_readComparison, .code yX6_readComparison cX6_readComparison 2 (some .boolean), .methodLink RX6 137 yX6_readSums, .instanceMethod yX6_readSums, .selects RX6 yX6_readSums yX6_readSums, .code yX6_readSums cX6_readSums 3 (some .boolean), .methodLink RX6 144 yX6_readProducts, .instanceMethod yX6_readProducts, .selects RX6 yX6_readProducts yX6_readProducts, .code yX6_readProducts cX6_readProducts 3 (some .boolean), .methodLink RX6 147 yX6_readSigned, .instanceMethod yX6_readSigned, .selects RX6 yX6_readSigned yX6_readSigned, .code yX6_readSigned cX6_readSigned 3 (some .boolean), .methodLink RX6 125 yX6_readP, .instanceMethod yX6_readP, .selects RX6 yX6_readP yX6_readP, .code yX6_readP cX6_readP 3 (some .boolean), .methodLink RX6 150 yX6_readAtom, .instanceMethod yX6_readAtom, .selects RX6 yX6_readAtom yX6_readAtom, .code yX6_readAtom cX6_readAtom 1 (some .boolean), .methodLink RX6 51 yX6_refuse, .instanceMethod yX6_refuse, .selects RX6 yX6_refuse yX6_refuse, .code yX6_refuse cX6_refuse 1 (some .boolean), .methodLink RX6 112 yX6_fail, .instanceMethod yX6_fail, .selects RX6 yX6_fail yX6_fail, .code yX6_fail cX6_fail 2 (some .boolean), .fieldLink RX6 111 "HeapWorks$Tape" "place" "I", .code yX11_tellFault cX11_tellFault 3 none, .fieldLink RX11 469 "HeapWorks" "faultCode" "I", .fieldLink RX11 98 "HeapWorks" "faultPlace" "I"]
def w_x_promise : List Cond := .code yX11_promise cX11_promise 3 (some .int) :: (l_x_promise ++ ((wsX110 ++ (wsX60 ++ (((vx_at0 RX11 129 "java/lang/IllegalArgumentException" ["java/lang/RuntimeException", "java/lang/Exception"]).filter goodWord) ++ wsX90)))))
theorem in_x_promise_X11 : ∀ w ∈ wsX110, w ∈ w_x_promise := fun w h => List.mem_cons_of_mem _ (List.mem_append_right _ (List.mem_append_left _ h))
theorem in_x_promise_X6 : ∀ w ∈ wsX60, w ∈ w_x_promise := fun w h => List.mem_cons_of_mem _ (List.mem_append_right _ (List.mem_append_right _ (List.mem_append_left _ h)))
theorem in_x_promise_at0_X11_129 : ∀ w ∈ ((vx_at0 RX11 129 "java/lang/IllegalArgumentException" ["java/lang/RuntimeException", "java/lang/Exception"]).filter goodWord), w ∈ w_x_promise := fun w h => List.mem_cons_of_mem _ (List.mem_append_right _ (List.mem_append_right _ (List.mem_append_right _ (List.mem_append_left _ h))))
theorem in_x_promise_X9 : ∀ w ∈ wsX90, w ∈ w_x_promise := fun w h => List.mem_cons_of_mem _ (List.mem_append_right _ (List.mem_append_right _ (List.mem_append_right _ (List.mem_append_right _ (h)))))
theorem g_x_promise_z_X6_readPromise_329 : GoodIn w_x_promise (wsV RX11 329 RX6 yX6_readPromise w_z_X6_readPromise) := goodIn_app (goodIn_sub (by decide +kernel) (by decide +kernel)) (goodIn_ca (goodIn_sub (by decide +kernel) (by decide +kernel)) (goodIn_app (goodIn_in in_x_promise_X6 gd_X6) (goodIn_in in_x_promise_X9 gd_X9)))
theorem g_x_promise_z_X11_tellFault_339 : GoodIn w_x_promise (wsV RX11 339 RX11 yX11_tellFault w_z_X11_tellFault) := goodIn_app (goodIn_sub (by decide +kernel) (by decide +kernel)) (goodIn_ca (goodIn_sub (by decide +kernel) (by decide +kernel)) (goodIn_in in_x_promise_X11 gd_X11))
set_option maxHeartbeats 4000000 in
set_option maxRecDepth 100000 in
theorem x_promise (l : Launch) (dC : Nat → ClassId) (dI : Nat → Nat → Nat) (sz : Nat) (aX : Nat) (fsX : List Value) (aT : Nat) (fsT : List Value) (qw : Nat) (fw : Nat → Int32) (kw : ClassId) (qp : Nat) (fp : Nat → Int32) (kp : ClassId) (qc : Nat) (fc : Nat → Int64) (kcc : ClassId) (qG : Nat) (gG : Nat → Option Nat) (kG : ClassId) (aG : Nat) (fsG : List Value) (k_fsX : fh fsX 18 [(8, .ref qG), (10, .int 0)]) (k_fsT : fh fsT 12 [(1, .int 0), (5, .ref qw), (6, .ref qp), (7, .ref qc)]) (k_fsG : fh fsG 19 [(0, .ref aT)]) (hst : l.stackTraces = false) (hg2 : gG (0 : Int32).toNatClampNeg = some aG) : vx_Met l yX11_promise w_x_promise ({ frames := 12, cells := 1, slots := 6, locals := 256 }) (va_Pc [.ref aX] (fun U => U.heap.size = sz ∧ Zz (va_A [(aX, .inr (14, fsX)), (aT, .inr (12, fsT)), (qw, .inl (kw, 4001, .inl fw)), (qp, .inl (kp, 4001, .inl fp)), (qc, .inl (kcc, 4001, .inr (.inl fc))), (qG, .inl (kG, 3, .inr (.inr (.inr (.inr gG))))), (aG, .inr (9, fsG))] sz) U ∧ Wd dC dI [(kw, .int), (kp, .int), (kcc, .long), (kG, .object "HeapWorks$Program")] (fun _ => True) [(aX, .inr (14, fsX)), (aT, .inr (12, fsT)), (qw, .inl (kw, 4001, .inl fw)), (qp, .inl (kp, 4001, .inl fp)), (qc, .inl (kcc, 4001, .inr (.inl fc))), (qG, .inl (kG, 3, .inr (.inr (.inr (.inr gG))))), (aG, .inr (9, fsG))] U)) (va_Qi (fun (r : Int32) (u : Unit) => False) (fun (u : Unit) t => Wd dC dI [(kw, .int), (kp, .int), (kcc, .long), (kG, .object "HeapWorks$Program")] (va_A [(aX, .inr (14, fsX)), (aT, .inr (12, fsT)), (qw, .inl (kw, 4001, .inl fw)), (qp, .inl (kp, 4001, .inl fp)), (qc, .inl (kcc, 4001, .inr (.inl fc))), (qG, .inl (kG, 3, .inr (.inr (.inr (.inr gG))))), (aG, .inr (9, fsG))] sz) [(aX, .inr (14, fsX)), (aT, .inr (12, fsT)), (qw, .inl (kw, 4001, .inl fw)), (qp, .inl (kp, 4001, .inl fp)), (qc, .inl (kcc, 4001, .inr (.inl fc))), (qG, .inl (kG, 3, .inr (.inr (.inr (.inr gG))))), (aG, .inr (9, fsG))] t) (va_A [(aX, .inr (14, fsX)), (aT, .inr (12, fsT)), (qw, .inl (kw, 4001, .inl fw)), (qp, .inl (kp, 4001, .inl fp)), (qc, .inl (kcc, 4001, .inr (.inl fc))), (qG, .inl (kG, 3, .inr (.inr (.inr (.inr gG))))), (aG, .inr (9, fsG))] sz)) (vx_X (fun _ : Unit => True) (fun E _ _ => E = "java/lang/IllegalArgumentException" ∨ E = "java/lang/IllegalArgumentException") (va_A [(aX, .inr (14, fsX)), (aT, .inr (12, fsT)), (qw, .inl (kw, 4001, .inl fw)), (qp, .inl (kp, 4001, .inl fp)), (qc, .inl (kcc, 4001, .inr (.inl fc))), (qG, .inl (kG, 3, .inr (.inr (.inr (.inr gG))))), (aG, .inr (9, fsG))] sz)) 1 6 (va_A [(aX, .inr (14, fsX)), (aT, .inr (12, fsT)), (qw, .inl (kw, 4001, .inl fw)), (qp, .inl (kp, 4001, .inl fp)), (qc, .inl (kcc, 4001, .inr (.inl fc))), (qG, .inl (kG, 3, .inr (.inr (.inr (.inr gG))))), (aG, .inr (9, fsG))] sz) := by
  refine vx_ofW (cc := cX11_promise) (maxL := 3) (ret := (some .int)) (by decide) rfl ?_
  intro p e s m args below meth c s₁ B hml htab hv
  obtain ⟨rfl, hsz, hZ, hP, hK, hD0⟩ := hv
  have hx := B.exec
  have hb := B.bytes
  have hr := B.returns
  have hts := atoms_spec (ws := w_x_promise) B.pre
  have hown : s.vm.findClass RX11 = some m.cls := findClass_of_methodNamed B.named
  have hlocks := B.notSynchronized
  subst hsz
  have hD := hD0.self (sz := s.heap.size)
  generalize hAe : va_A [(aX, .inr (14, fsX)), (aT, .inr (12, fsT)), (qw, .inl (kw, 4001, .inl fw)), (qp, .inl (kp, 4001, .inl fp)), (qc, .inl (kcc, 4001, .inr (.inl fc))), (qG, .inl (kG, 3, .inr (.inr (.inr (.inr gG))))), (aG, .inr (9, fsG))] s.heap.size = A at hD hZ ⊢
  have hA : ∀ q : Nat, s.heap.size ≤ q → A q := fun q h => by rw [← hAe]; exact Or.inr h
  have hS : va_S A s.heap s.heap [] := va_S.rf
  have hl := lv_entry ([.ref aX]) (n := 3) (Nat.le_of_ble_eq_true rfl)
  rw [lg_entry_eq]
  generalize (lg_sl ([.ref aX]) ++ List.replicate (3 - (lg_sl ([.ref aX])).length) Slot.unset).toArray = ls at hl ⊢
  have hl : lv_has ls 3 [(0, .ref aX)] := hl
  have o_fsX := ow_0 k_fsX
  have o_fsT := ow_0 k_fsT
  have o_fsG := ow_0 k_fsG
  refine lv_aload_n hx hb dX11_promise_0 rfl (lv_at hl 0 rfl) ?_
  refine va_get (D := (dC, dI)) (ci := 14) (v := .int 0) (C := RX11) (T := TX11) (N := 18) hx hb hts (in_x_promise_X11) hown hK hP 0 rfl rfl 10 (by decide) (hts (.fieldLink RX11 326 "HeapWorks" "promiseCount" "I") (by decide +kernel)) (fun _ h9 => h9) (ow_at o_fsX 1 rfl) dX11_promise_1 ?_
  refine lv_iconst (v := 3) hx hb dX11_promise_4 (by decide) ?_
  refine lv_icmp_ne (tgt := 16) hx hb dX11_promise_5 (by decide) (fun c4240 => ?_) (fun c4240 => absurd c4240 (by decide))
  refine lv_aload_n hx hb dX11_promise_16 rfl (lv_at hl 0 rfl) ?_
  refine va_get (D := (dC, dI)) (ci := 14) (v := .ref qG) (C := RX11) (T := TX11) (N := 18) hx hb hts (in_x_promise_X11) hown hK hP 0 rfl rfl 8 (by decide) (hts (.fieldLink RX11 66 "HeapWorks" "promised" "[LHeapWorks$Program;") (by decide +kernel)) (fun _ h9 => h9) (ow_at o_fsX 0 rfl) dX11_promise_17 ?_
  refine lv_aload_n hx hb dX11_promise_20 rfl (lv_at hl 0 rfl) ?_
  refine va_get (D := (dC, dI)) (ci := 14) (v := .int 0) (C := RX11) (T := TX11) (N := 18) hx hb hts (in_x_promise_X11) hown hK hP 0 rfl rfl 10 (by decide) (hts (.fieldLink RX11 326 "HeapWorks" "promiseCount" "I") (by decide +kernel)) (fun _ h9 => h9) (ow_at o_fsX 1 rfl) dX11_promise_21 ?_
  refine va_aldq hx hb hK hP 5 3 rfl rfl (show vp_in 0 3 from by unfold vp_in; decide) dX11_promise_24 ?_
  refine W.eq (g2 := F0 m 25 ls (.ref aG :: [])) (by rw [hg2]; rfl) ?_
  refine lv_astore_n (lv' := [(1, .ref aG), (0, .ref aX)]) hx hb dX11_promise_25 rfl hl (by decide) rfl (fun ls hl => ?_)
  refine lv_aload_n hx hb dX11_promise_26 rfl (lv_at hl 0 rfl) ?_
  have hPc := hP.sub (ws' := [(aT, .inr (12, fsT)), (qw, .inl (kw, 4001, .inl fw)), (qp, .inl (kp, 4001, .inl fp)), (qc, .inl (kcc, 4001, .inr (.inl fc))), (aG, .inr (9, fsG))]) [1, 2, 3, 4, 6] rfl
  have hDc := hD.sub (ws' := [(aT, .inr (12, fsT)), (qw, .inl (kw, 4001, .inl fw)), (qp, .inl (kp, 4001, .inl fp)), (qc, .inl (kcc, 4001, .inr (.inl fc))), (aG, .inr (9, fsG))]) [1, 2, 3, 4, 6] (by decide) rfl
  have hKc := hK.sub (tys' := [(kw, .int), (kp, .int), (kcc, .long)]) [0, 1, 2] rfl
  have hFc := va_free (wc := [(aT, .inr (12, fsT)), (qw, .inl (kw, 4001, .inl fw)), (qp, .inl (kp, 4001, .inl fp)), (qc, .inl (kcc, 4001, .inr (.inl fc))), (aG, .inr (9, fsG))]) hD hS hA [1, 2, 3, 4, 6] rfl
  refine va_calli (va_runV (As := []) (rest := []) ⟨hx, hb, hml, hown, hts⟩ (z_X6_readPromise l dC dI s.heap.size aT fsT qw fw kw qp fp kp qc fc kcc aG fsG (fh_sub o_fsT.2 [0, 1, 2, 3] rfl) (fh_sub o_fsG.2 [0] rfl) ) (cwV 0 hts g_x_promise_z_X6_readPromise_329 rfl rfl rfl (by decide +kernel) ⟨Nat.le_of_ble_eq_true rfl, Nat.le_of_ble_eq_true rfl⟩) ⟨fun a U g mk q => by obtain ⟨q0, q1, qP, qK, qD⟩ := q; exact ⟨q0, q1, qP, va_K.moved (u := U) (U := U.calling g mk a) (Vm.Alike.refl U.vm) qK, qD⟩, va_recv hK hP (ci := 9) (q0 := 6) rfl rfl, fun U hU hW => ⟨rfl, by rw [hU], by rw [hU]; exact hPc, va_K.moved hW.alike hKc, hDc.weaken (fun _ _ _ _ => trivial)⟩⟩ rfl rfl hl.1 rfl (lv_room (Nat.le_of_ble_eq_true rfl)) dX11_promise_27 ⟨Nat.le_of_ble_eq_true rfl, Nat.le_of_ble_eq_true rfl⟩) hS (fun q _ h => hFc q h) hFc (fun r4414 u t H1 locs ht hvm hw hB hz1 hk1 hS => ?_)
  obtain ⟨s4415, f4416, f4417, f4418, s4419⟩ := u
  obtain ⟨hP1, hK1, hD1⟩ := hB
  rw [ht] at hP1
  try dsimp only at hw
  obtain ⟨hP, hD⟩ := va_join (wr := [(aX, .inr (14, fsX)), (qG, .inl (kG, 3, .inr (.inr (.inr (.inr gG)))))]) (w1 := [(aT, .inr (12, s4415)), (qw, .inl (kw, 4001, .inl f4416)), (qp, .inl (kp, 4001, .inl f4417)), (qc, .inl (kcc, 4001, .inr (.inl f4418))), (aG, .inr (9, s4419))]) hP hD [1, 2, 3, 4, 6] [0, 5] rfl rfl (by decide) (by decide) hk1 hFc hP1 hD1
  have hK := hK.sub (tys' := [(kG, .object "HeapWorks$Program"), (kw, .int), (kp, .int), (kcc, .long)]) [3, 0, 1, 2] rfl
  generalize H1 = H at hP hS ⊢
  have hP : va_P (dC, dI) vwCl [(aX, .inr (14, fsX)), (qG, .inl (kG, 3, .inr (.inr (.inr (.inr gG))))), (aT, .inr (12, s4415)), (qw, .inl (kw, 4001, .inl f4416)), (qp, .inl (kp, 4001, .inl f4417)), (qc, .inl (kcc, 4001, .inr (.inl f4418))), (aG, .inr (9, s4419))] H := hP
  have hD : va_D A [(aX, .inr (14, fsX)), (qG, .inl (kG, 3, .inr (.inr (.inr (.inr gG))))), (aT, .inr (12, s4415)), (qw, .inl (kw, 4001, .inl f4416)), (qp, .inl (kp, 4001, .inl f4417)), (qc, .inl (kcc, 4001, .inr (.inl f4418))), (aG, .inr (9, s4419))] := hD
  rcases hw with ⟨er4420, o_s4415, o_s4419, q4421, q4422, q4423⟩ | ⟨er4424, o_s4415, o_s4419, q4425, q4426, q4427⟩
  · skip
    subst er4420
    have o_s4415 := ow_on o_fsT o_s4415 (l' := [(11, .long 0), (10, .int 0), (9, .int 0), (8, .int 0), (5, .ref qw), (6, .ref qp), (7, .ref qc), (8, .int 0), (4, .int 0), (1, .int 0), (4, .int 0), (1, .int 0), (5, .ref qw), (6, .ref qp), (7, .ref qc), (1, .int 0), (5, .ref qw), (6, .ref qp), (7, .ref qc), (1, .int 0), (5, .ref qw), (6, .ref qp), (7, .ref qc), (1, .int 0), (5, .ref qw), (6, .ref qp), (7, .ref qc)]) (w' := [11, 10, 9, 8, 4]) rfl rfl
    have o_s4419 := ow_on o_fsG o_s4419 (l' := [(7, .int 0), (6, .int 1), (0, .ref aT), (0, .ref aT), (0, .ref aT), (0, .ref aT), (0, .ref aT), (0, .ref aT), (18, .int 0), (0, .ref aT), (0, .ref aT), (18, .int 0), (0, .ref aT), (0, .ref aT), (18, .int 0), (0, .ref aT), (0, .ref aT), (18, .int 0), (0, .ref aT), (0, .ref aT), (18, .int 0), (0, .ref aT), (0, .ref aT), (18, .int 0), (0, .ref aT), (0, .ref aT), (18, .int 0), (0, .ref aT), (0, .ref aT), (18, .int 0), (0, .ref aT), (0, .ref aT), (18, .int 0), (16, .int 0), (13, .int 0), (12, .int 0), (11, .int 0), (10, .int 0), (9, .int 0), (8, .int 0), (5, .int 0), (0, .ref aT), (0, .ref aT), (0, .ref aT)]) (w' := [7, 6, 18, 16, 13, 12, 11, 10, 9, 8, 5]) rfl rfl
    refine lv_istore_n (lv' := [(2, .int 0), (1, .ref aG), (0, .ref aX)]) hx hb dX11_promise_30 rfl hl (by decide) rfl (fun ls hl => ?_)
    refine lv_aload_n hx hb dX11_promise_31 rfl (lv_at hl 2 rfl) ?_
    refine lv_aload_n hx hb dX11_promise_32 rfl (lv_at hl 1 rfl) ?_
    refine va_get (D := (dC, dI)) (ci := 9) (v := .int 1) (C := RX6) (T := TX6) (N := 19) hx hb hts (in_x_promise_X6) hown hK hP 6 rfl rfl 6 (by decide) (hts (.fieldLink RX11 333 "HeapWorks$Program" "fault" "I") (by decide +kernel)) (fun _ h9 => h9) (ow_at o_s4419 1 rfl) dX11_promise_33 ?_
    refine lv_aload_n hx hb dX11_promise_36 rfl (lv_at hl 1 rfl) ?_
    refine va_get (D := (dC, dI)) (ci := 9) (v := .int 0) (C := RX6) (T := TX6) (N := 19) hx hb hts (in_x_promise_X6) hown hK hP 6 rfl rfl 7 (by decide) (hts (.fieldLink RX11 336 "HeapWorks$Program" "place" "I") (by decide +kernel)) (fun _ h9 => h9) (ow_at o_s4419 0 rfl) dX11_promise_37 ?_
    have hPc := hP.sub (ws' := [(aX, .inr (14, fsX))]) [0] rfl
    have hDc := hD.sub (ws' := [(aX, .inr (14, fsX))]) [0] (by decide) rfl
    have hKc := hK.sub (tys' := []) [] rfl
    have hFc := va_free (wc := [(aX, .inr (14, fsX))]) hD hS hA [0] rfl
    refine va_callv (va_runV (As := [.int 1, .int 0]) (rest := []) ⟨hx, hb, hml, hown, hts⟩ (z_X11_tellFault l dC dI H.size aX fsX (fh_sub o_fsX.2 [] rfl) ) (cwV 2 hts g_x_promise_z_X11_tellFault_339 rfl rfl rfl (by decide +kernel) ⟨Nat.le_of_ble_eq_true rfl, Nat.le_of_ble_eq_true rfl⟩) ⟨fun a U g mk q => by obtain ⟨q0, q1, qP, qK, qD⟩ := q; exact ⟨q0, q1, qP, va_K.moved (u := U) (U := U.calling g mk a) (Vm.Alike.refl U.vm) qK, qD⟩, va_recv hK hP (ci := 14) (q0 := 0) rfl rfl, fun U hU hW => ⟨rfl, by rw [hU], by rw [hU]; exact hPc, va_K.moved hW.alike hKc, hDc.weaken (fun _ _ _ _ => trivial)⟩⟩ rfl rfl hl.1 rfl (lv_room (Nat.le_of_ble_eq_true rfl)) dX11_promise_40 ⟨Nat.le_of_ble_eq_true rfl, Nat.le_of_ble_eq_true rfl⟩) hS (fun q _ h => hFc q h) hFc (fun u t H1 locs ht hvm hw hB hz1 hk1 hS => ?_)
    obtain ⟨s4431, rfl⟩ : ∃ z, z = u := ⟨_, rfl⟩
    obtain ⟨hP1, hK1, hD1⟩ := hB
    rw [ht] at hP1
    try dsimp only at hw
    obtain ⟨hP, hD⟩ := va_join (wr := [(qG, .inl (kG, 3, .inr (.inr (.inr (.inr gG))))), (aT, .inr (12, s4415)), (qw, .inl (kw, 4001, .inl f4416)), (qp, .inl (kp, 4001, .inl f4417)), (qc, .inl (kcc, 4001, .inr (.inl f4418))), (aG, .inr (9, s4419))]) (w1 := [(aX, .inr (14, s4431))]) hP hD [0] [1, 2, 3, 4, 5, 6] rfl rfl (by decide) (by decide) hk1 hFc hP1 hD1
    have hK := hK.sub (tys' := [(kG, .object "HeapWorks$Program"), (kw, .int), (kp, .int), (kcc, .long)]) [0, 1, 2, 3] rfl
    generalize H1 = H at hP hS ⊢
    have hP : va_P (dC, dI) vwCl [(qG, .inl (kG, 3, .inr (.inr (.inr (.inr gG))))), (aT, .inr (12, s4415)), (qw, .inl (kw, 4001, .inl f4416)), (qp, .inl (kp, 4001, .inl f4417)), (qc, .inl (kcc, 4001, .inr (.inl f4418))), (aG, .inr (9, s4419)), (aX, .inr (14, s4431))] H := hP
    have hD : va_D A [(qG, .inl (kG, 3, .inr (.inr (.inr (.inr gG))))), (aT, .inr (12, s4415)), (qw, .inl (kw, 4001, .inl f4416)), (qp, .inl (kp, 4001, .inl f4417)), (qc, .inl (kcc, 4001, .inr (.inl f4418))), (aG, .inr (9, s4419)), (aX, .inr (14, s4431))] := hD
    have o_s4431 := hw
    have o_s4431 := ow_on o_fsX o_s4431 (l' := [(17, .int 0), (16, .int 1), (8, .ref qG), (10, .int 0)]) (w' := [17, 16]) rfl rfl
    refine lv_iload_n hx hb dX11_promise_43 rfl (lv_at hl 0 rfl) ?_
    refine lv_if_ne (tgt := 55) hx hb dX11_promise_44 (by decide) (fun c4432 => absurd c4432 (by decide)) (fun c4432 => ?_)
    exact vx_throw0 (names := ["java/lang/RuntimeException", "java/lang/Exception"]) hx hb hst hown (by decide +kernel) (by decide +kernel) (hts (.classLink RX11 127 "java/lang/IllegalArgumentException") (by decide +kernel)) (hts (.initialized "java/lang/IllegalArgumentException") (by decide +kernel)) (vx_hat (B := xB "java/lang/IllegalArgumentException") (fun w h => hts w (in_x_promise_at0_X11_129 w h)) (by decide +kernel) (Zz_xB hZ (by decide))) (by decide +kernel) hZ.1 hZ.2.1 hS (hl.1.trans hml.symm) dX11_promise_47 dX11_promise_50 dX11_promise_51 dX11_promise_54 (fun x h => (htab x h).elim) (by decide) (Nat.le_of_ble_eq_true rfl) (Nat.le_of_ble_eq_true rfl) (Nat.le_of_ble_eq_true rfl) hlocks (fun t _ h1 h2 => ⟨(), trivial, (Or.inl rfl), xx_F hS h1 h2⟩) hS.2.2 (by decide) (by decide)
  · skip
    subst er4424
    have o_s4415 := ow_on o_fsT o_s4415 (l' := [(11, .long 0), (10, .int 0), (9, .int 0), (8, .int 0), (5, .ref qw), (6, .ref qp), (7, .ref qc), (8, .int 0), (4, .int 0), (1, .int 0), (4, .int 0), (1, .int 0), (5, .ref qw), (6, .ref qp), (7, .ref qc), (1, .int 0), (5, .ref qw), (6, .ref qp), (7, .ref qc), (1, .int 0), (5, .ref qw), (6, .ref qp), (7, .ref qc), (1, .int 0), (5, .ref qw), (6, .ref qp), (7, .ref qc)]) (w' := [11, 10, 9, 8, 4]) rfl rfl
    have o_s4419 := ow_on o_fsG o_s4419 (l' := [(7, .int 0), (6, .int 1), (0, .ref aT), (0, .ref aT), (0, .ref aT), (0, .ref aT), (0, .ref aT), (0, .ref aT), (18, .int 0), (0, .ref aT), (0, .ref aT), (18, .int 0), (0, .ref aT), (0, .ref aT), (18, .int 0), (0, .ref aT), (0, .ref aT), (18, .int 0), (0, .ref aT), (0, .ref aT), (18, .int 0), (0, .ref aT), (0, .ref aT), (18, .int 0), (0, .ref aT), (0, .ref aT), (18, .int 0), (0, .ref aT), (0, .ref aT), (18, .int 0), (0, .ref aT), (0, .ref aT), (18, .int 0), (16, .int 0), (13, .int 0), (12, .int 0), (11, .int 0), (10, .int 0), (9, .int 0), (8, .int 0), (5, .int 0), (0, .ref aT), (0, .ref aT), (0, .ref aT)]) (w' := [7, 6, 18, 16, 13, 12, 11, 10, 9, 8, 5]) rfl rfl
    refine lv_istore_n (lv' := [(2, .int 0), (1, .ref aG), (0, .ref aX)]) hx hb dX11_promise_30 rfl hl (by decide) rfl (fun ls hl => ?_)
    refine lv_aload_n hx hb dX11_promise_31 rfl (lv_at hl 2 rfl) ?_
    refine lv_aload_n hx hb dX11_promise_32 rfl (lv_at hl 1 rfl) ?_
    refine va_get (D := (dC, dI)) (ci := 9) (v := .int 1) (C := RX6) (T := TX6) (N := 19) hx hb hts (in_x_promise_X6) hown hK hP 6 rfl rfl 6 (by decide) (hts (.fieldLink RX11 333 "HeapWorks$Program" "fault" "I") (by decide +kernel)) (fun _ h9 => h9) (ow_at o_s4419 1 rfl) dX11_promise_33 ?_
    refine lv_aload_n hx hb dX11_promise_36 rfl (lv_at hl 1 rfl) ?_
    refine va_get (D := (dC, dI)) (ci := 9) (v := .int 0) (C := RX6) (T := TX6) (N := 19) hx hb hts (in_x_promise_X6) hown hK hP 6 rfl rfl 7 (by decide) (hts (.fieldLink RX11 336 "HeapWorks$Program" "place" "I") (by decide +kernel)) (fun _ h9 => h9) (ow_at o_s4419 0 rfl) dX11_promise_37 ?_
    have hPc := hP.sub (ws' := [(aX, .inr (14, fsX))]) [0] rfl
    have hDc := hD.sub (ws' := [(aX, .inr (14, fsX))]) [0] (by decide) rfl
    have hKc := hK.sub (tys' := []) [] rfl
    have hFc := va_free (wc := [(aX, .inr (14, fsX))]) hD hS hA [0] rfl
    refine va_callv (va_runV (As := [.int 1, .int 0]) (rest := []) ⟨hx, hb, hml, hown, hts⟩ (z_X11_tellFault l dC dI H.size aX fsX (fh_sub o_fsX.2 [] rfl) ) (cwV 2 hts g_x_promise_z_X11_tellFault_339 rfl rfl rfl (by decide +kernel) ⟨Nat.le_of_ble_eq_true rfl, Nat.le_of_ble_eq_true rfl⟩) ⟨fun a U g mk q => by obtain ⟨q0, q1, qP, qK, qD⟩ := q; exact ⟨q0, q1, qP, va_K.moved (u := U) (U := U.calling g mk a) (Vm.Alike.refl U.vm) qK, qD⟩, va_recv hK hP (ci := 14) (q0 := 0) rfl rfl, fun U hU hW => ⟨rfl, by rw [hU], by rw [hU]; exact hPc, va_K.moved hW.alike hKc, hDc.weaken (fun _ _ _ _ => trivial)⟩⟩ rfl rfl hl.1 rfl (lv_room (Nat.le_of_ble_eq_true rfl)) dX11_promise_40 ⟨Nat.le_of_ble_eq_true rfl, Nat.le_of_ble_eq_true rfl⟩) hS (fun q _ h => hFc q h) hFc (fun u t H1 locs ht hvm hw hB hz1 hk1 hS => ?_)
    obtain ⟨s4436, rfl⟩ : ∃ z, z = u := ⟨_, rfl⟩
    obtain ⟨hP1, hK1, hD1⟩ := hB
    rw [ht] at hP1
    try dsimp only at hw
    obtain ⟨hP, hD⟩ := va_join (wr := [(qG, .inl (kG, 3, .inr (.inr (.inr (.inr gG))))), (aT, .inr (12, s4415)), (qw, .inl (kw, 4001, .inl f4416)), (qp, .inl (kp, 4001, .inl f4417)), (qc, .inl (kcc, 4001, .inr (.inl f4418))), (aG, .inr (9, s4419))]) (w1 := [(aX, .inr (14, s4436))]) hP hD [0] [1, 2, 3, 4, 5, 6] rfl rfl (by decide) (by decide) hk1 hFc hP1 hD1
    have hK := hK.sub (tys' := [(kG, .object "HeapWorks$Program"), (kw, .int), (kp, .int), (kcc, .long)]) [0, 1, 2, 3] rfl
    generalize H1 = H at hP hS ⊢
    have hP : va_P (dC, dI) vwCl [(qG, .inl (kG, 3, .inr (.inr (.inr (.inr gG))))), (aT, .inr (12, s4415)), (qw, .inl (kw, 4001, .inl f4416)), (qp, .inl (kp, 4001, .inl f4417)), (qc, .inl (kcc, 4001, .inr (.inl f4418))), (aG, .inr (9, s4419)), (aX, .inr (14, s4436))] H := hP
    have hD : va_D A [(qG, .inl (kG, 3, .inr (.inr (.inr (.inr gG))))), (aT, .inr (12, s4415)), (qw, .inl (kw, 4001, .inl f4416)), (qp, .inl (kp, 4001, .inl f4417)), (qc, .inl (kcc, 4001, .inr (.inl f4418))), (aG, .inr (9, s4419)), (aX, .inr (14, s4436))] := hD
    have o_s4436 := hw
    have o_s4436 := ow_on o_fsX o_s4436 (l' := [(17, .int 0), (16, .int 1), (8, .ref qG), (10, .int 0)]) (w' := [17, 16]) rfl rfl
    refine lv_iload_n hx hb dX11_promise_43 rfl (lv_at hl 0 rfl) ?_
    refine lv_if_ne (tgt := 55) hx hb dX11_promise_44 (by decide) (fun c4437 => absurd c4437 (by decide)) (fun c4437 => ?_)
    exact vx_throw0 (names := ["java/lang/RuntimeException", "java/lang/Exception"]) hx hb hst hown (by decide +kernel) (by decide +kernel) (hts (.classLink RX11 127 "java/lang/IllegalArgumentException") (by decide +kernel)) (hts (.initialized "java/lang/IllegalArgumentException") (by decide +kernel)) (vx_hat (B := xB "java/lang/IllegalArgumentException") (fun w h => hts w (in_x_promise_at0_X11_129 w h)) (by decide +kernel) (Zz_xB hZ (by decide))) (by decide +kernel) hZ.1 hZ.2.1 hS (hl.1.trans hml.symm) dX11_promise_47 dX11_promise_50 dX11_promise_51 dX11_promise_54 (fun x h => (htab x h).elim) (by decide) (Nat.le_of_ble_eq_true rfl) (Nat.le_of_ble_eq_true rfl) (Nat.le_of_ble_eq_true rfl) hlocks (fun t _ h1 h2 => ⟨(), trivial, (Or.inr (rfl)), xx_F hS h1 h2⟩) hS.2.2 (by decide) (by decide)

def l_x_broken : List Cond := [.classLink RX11 221 "java/util/NoSuchElementException", .initialized "java/util/NoSuchElementException", .fieldLink RX11 326 "HeapWorks" "promiseCount" "I"]
def w_x_broken : List Cond := .code yX11_broken cX11_broken 2 (some .int) :: (l_x_broken ++ ((((vx_at0 RX11 223 "java/util/NoSuchElementException" ["java/lang/RuntimeException", "java/lang/Exception"]).filter goodWord) ++ wsX110)))
theorem in_x_broken_at0_X11_223 : ∀ w ∈ ((vx_at0 RX11 223 "java/util/NoSuchElementException" ["java/lang/RuntimeException", "java/lang/Exception"]).filter goodWord), w ∈ w_x_broken := fun w h => List.mem_cons_of_mem _ (List.mem_append_right _ (List.mem_append_left _ h))
theorem in_x_broken_X11 : ∀ w ∈ wsX110, w ∈ w_x_broken := fun w h => List.mem_cons_of_mem _ (List.mem_append_right _ (List.mem_append_right _ (h)))
set_option maxHeartbeats 4000000 in
set_option maxRecDepth 100000 in
theorem x_broken (l : Launch) (dC : Nat → ClassId) (dI : Nat → Nat → Nat) (sz : Nat) (aX : Nat) (fsX : List Value) (p0 : Int32) (k_fsX : fh fsX 18 [(10, .int 0)]) (hst : l.stackTraces = false)  : vx_Met l yX11_broken w_x_broken ({ frames := 7, cells := 1, slots := 6, locals := 140 }) (va_Pc [.ref aX, .int p0] (fun U => U.heap.size = sz ∧ Zz (va_A [(aX, .inr (14, fsX))] sz) U ∧ Wd dC dI [] (fun _ => True) [(aX, .inr (14, fsX))] U)) (va_Qi (fun (r : Int32) (u : Unit) => False) (fun (u : Unit) t => Wd dC dI [] (va_A [(aX, .inr (14, fsX))] sz) [(aX, .inr (14, fsX))] t) (va_A [(aX, .inr (14, fsX))] sz)) (vx_X (fun _ : Unit => True) (fun E _ _ => (E = "java/util/NoSuchElementException" ∧ p0 < 0) ∨ (E = "java/util/NoSuchElementException" ∧ ¬ p0 < 0 ∧ ¬ p0 < 0)) (va_A [(aX, .inr (14, fsX))] sz)) 1 6 (va_A [(aX, .inr (14, fsX))] sz) := by
  refine vx_ofW (cc := cX11_broken) (maxL := 2) (ret := (some .int)) (by decide) rfl ?_
  intro p e s m args below meth c s₁ B hml htab hv
  obtain ⟨rfl, hsz, hZ, hP, hK, hD0⟩ := hv
  have hx := B.exec
  have hb := B.bytes
  have hr := B.returns
  have hts := atoms_spec (ws := w_x_broken) B.pre
  have hown : s.vm.findClass RX11 = some m.cls := findClass_of_methodNamed B.named
  have hlocks := B.notSynchronized
  subst hsz
  have hD := hD0.self (sz := s.heap.size)
  generalize hAe : va_A [(aX, .inr (14, fsX))] s.heap.size = A at hD hZ ⊢
  have hA : ∀ q : Nat, s.heap.size ≤ q → A q := fun q h => by rw [← hAe]; exact Or.inr h
  have hS : va_S A s.heap s.heap [] := va_S.rf
  have hl := lv_entry ([.ref aX, .int p0]) (n := 2) (Nat.le_of_ble_eq_true rfl)
  rw [lg_entry_eq]
  generalize (lg_sl ([.ref aX, .int p0]) ++ List.replicate (2 - (lg_sl ([.ref aX, .int p0])).length) Slot.unset).toArray = ls at hl ⊢
  have hl : lv_has ls 2 [(0, .ref aX), (1, .int p0)] := hl
  have o_fsX := ow_0 k_fsX
  refine lv_iload_n hx hb dX11_broken_0 rfl (lv_at hl 1 rfl) ?_
  refine lv_if_lt (tgt := 12) hx hb dX11_broken_1 (by decide) (fun c4440 => ?_) (fun c4440 => ?_)
  · skip
    exact vx_throw0 (names := ["java/lang/RuntimeException", "java/lang/Exception"]) hx hb hst hown (by decide +kernel) (by decide +kernel) (hts (.classLink RX11 221 "java/util/NoSuchElementException") (by decide +kernel)) (hts (.initialized "java/util/NoSuchElementException") (by decide +kernel)) (vx_hat (B := xB "java/util/NoSuchElementException") (fun w h => hts w (in_x_broken_at0_X11_223 w h)) (by decide +kernel) (Zz_xB hZ (by decide))) (by decide +kernel) hZ.1 hZ.2.1 hS (hl.1.trans hml.symm) dX11_broken_12 dX11_broken_15 dX11_broken_16 dX11_broken_19 (fun x h => (htab x h).elim) (by decide) (Nat.le_of_ble_eq_true rfl) (Nat.le_of_ble_eq_true rfl) (Nat.le_of_ble_eq_true rfl) hlocks (fun t _ h1 h2 => ⟨(), trivial, (Or.inl ⟨rfl, c4440⟩), xx_F hS h1 h2⟩) hS.2.2 (by decide) (by decide)
  · skip
    refine lv_iload_n hx hb dX11_broken_4 rfl (lv_at hl 1 rfl) ?_
    refine lv_aload_n hx hb dX11_broken_5 rfl (lv_at hl 0 rfl) ?_
    refine va_get (D := (dC, dI)) (ci := 14) (v := .int 0) (C := RX11) (T := TX11) (N := 18) hx hb hts (in_x_broken_X11) hown hK hP 0 rfl rfl 10 (by decide) (hts (.fieldLink RX11 326 "HeapWorks" "promiseCount" "I") (by decide +kernel)) (fun _ h9 => h9) (ow_at o_fsX 0 rfl) dX11_broken_6 ?_
    refine lv_icmp_lt (tgt := 20) hx hb dX11_broken_9 (by decide) (fun c4441 => (by exfalso; have bd_p0 := i_bd p0; (try simp only [i_lt, i_le, i_eq, kc_0] at c4440 c4441); omega)) (fun c4441 => ?_)
    exact vx_throw0 (names := ["java/lang/RuntimeException", "java/lang/Exception"]) hx hb hst hown (by decide +kernel) (by decide +kernel) (hts (.classLink RX11 221 "java/util/NoSuchElementException") (by decide +kernel)) (hts (.initialized "java/util/NoSuchElementException") (by decide +kernel)) (vx_hat (B := xB "java/util/NoSuchElementException") (fun w h => hts w (in_x_broken_at0_X11_223 w h)) (by decide +kernel) (Zz_xB hZ (by decide))) (by decide +kernel) hZ.1 hZ.2.1 hS (hl.1.trans hml.symm) dX11_broken_12 dX11_broken_15 dX11_broken_16 dX11_broken_19 (fun x h => (htab x h).elim) (by decide) (Nat.le_of_ble_eq_true rfl) (Nat.le_of_ble_eq_true rfl) (Nat.le_of_ble_eq_true rfl) hlocks (fun t _ h1 h2 => ⟨(), trivial, (Or.inr (⟨rfl, c4440, c4441⟩)), xx_F hS h1 h2⟩) hS.2.2 (by decide) (by decide)

def l_z_X11_isPicture : List Cond := []
def w_z_X11_isPicture : List Cond := .code yX11_isPicture cX11_isPicture 1 (some .boolean) :: (l_z_X11_isPicture)
set_option maxHeartbeats 4000000 in
set_option maxRecDepth 100000 in
theorem z_X11_isPicture (l : Launch) (dC : Nat → ClassId) (dI : Nat → Nat → Nat) (sz : Nat) (Va0 : Int32)   : Met l yX11_isPicture w_z_X11_isPicture ({ frames := 0, cells := 0, slots := 0, locals := 0 }) (va_Pc [.int Va0] (fun U => U.heap.size = sz ∧ Wd dC dI [] (fun _ => True) [] U)) (va_Qi (fun (r : Int32) (u : Unit) => (Va0 < 0 ∧ r = 0) ∨ (¬ Va0 < 0 ∧ 4 ≤ Va0 ∧ r = 0) ∨ (¬ Va0 < 0 ∧ ¬ 4 ≤ Va0 ∧ r = 1)) (fun (u : Unit) t => Wd dC dI [] (va_A [] sz) [] t) (va_A [] sz))  0 0 (va_A [] sz) := by
  refine Met.ofW (cc := cX11_isPicture) (maxL := 1) (ret := (some .boolean)) (by decide) rfl ?_
  intro p e s m args below meth c s₁ B hml hv
  obtain ⟨rfl, hsz, hP, hK, hD0⟩ := hv
  have hx := B.exec
  have hb := B.bytes
  have hr := B.returns
  have hts := atoms_spec (ws := w_z_X11_isPicture) B.pre
  have hown : s.vm.findClass RX11 = some m.cls := findClass_of_methodNamed B.named
  have hlocks := B.notSynchronized
  subst hsz
  have hD := hD0.self (sz := s.heap.size)
  generalize hAe : va_A [] s.heap.size = A at hD ⊢
  have hA : ∀ q : Nat, s.heap.size ≤ q → A q := fun q h => by rw [← hAe]; exact Or.inr h
  have hS : va_S A s.heap s.heap [] := va_S.rf
  have hl := lv_entry ([.int Va0]) (n := 1) (Nat.le_of_ble_eq_true rfl)
  rw [lg_entry_eq]
  generalize (lg_sl ([.int Va0]) ++ List.replicate (1 - (lg_sl ([.int Va0])).length) Slot.unset).toArray = ls at hl ⊢
  have hl : lv_has ls 1 [(0, .int Va0)] := hl
  refine lv_iload_n hx hb dX11_isPicture_0 rfl (lv_at hl 0 rfl) ?_
  refine lv_if_lt (tgt := 13) hx hb dX11_isPicture_1 (by decide) (fun c4444 => ?_) (fun c4444 => ?_)
  · skip
    refine lv_iconst (v := 0) hx hb dX11_isPicture_13 (by decide) ?_
    have hP9 := hP.sub (ws' := []) [] rfl
    have hD9 := hD.sub (ws' := []) [] (by decide) rfl
    have hK9 := hK.sub (tys' := []) [] rfl
    exact W.zret (v := 0) hx hb hr rfl (fun t ht hW => ⟨⟨0, (), rfl, (Or.inl ⟨c4444, rfl⟩), by rw [ht]; exact hP9, va_K.moved hW.alike hK9, hD9⟩, hS.F ht⟩) hS.2.2 dX11_isPicture_14
  · skip
    refine lv_iload_n hx hb dX11_isPicture_4 rfl (lv_at hl 0 rfl) ?_
    refine lv_iconst (v := 4) hx hb dX11_isPicture_5 (by decide) ?_
    refine lv_icmp_ge (tgt := 13) hx hb dX11_isPicture_6 (by decide) (fun c4445 => ?_) (fun c4445 => ?_)
    · skip
      refine lv_iconst (v := 0) hx hb dX11_isPicture_13 (by decide) ?_
      have hP9 := hP.sub (ws' := []) [] rfl
      have hD9 := hD.sub (ws' := []) [] (by decide) rfl
      have hK9 := hK.sub (tys' := []) [] rfl
      exact W.zret (v := 0) hx hb hr rfl (fun t ht hW => ⟨⟨0, (), rfl, (Or.inr (Or.inl ⟨c4444, c4445, rfl⟩)), by rw [ht]; exact hP9, va_K.moved hW.alike hK9, hD9⟩, hS.F ht⟩) hS.2.2 dX11_isPicture_14
    · skip
      refine lv_iconst (v := 1) hx hb dX11_isPicture_9 (by decide) ?_
      refine lv_goto (tgt := 14) hx hb dX11_isPicture_10 (by decide) ?_
      have hP9 := hP.sub (ws' := []) [] rfl
      have hD9 := hD.sub (ws' := []) [] (by decide) rfl
      have hK9 := hK.sub (tys' := []) [] rfl
      exact W.zret (v := 1) hx hb hr rfl (fun t ht hW => ⟨⟨1, (), rfl, (Or.inr (Or.inr (⟨c4444, c4445, rfl⟩))), by rw [ht]; exact hP9, va_K.moved hW.alike hK9, hD9⟩, hS.F ht⟩) hS.2.2 dX11_isPicture_14

def l_z_X11_needPicture : List Cond := [.methodLink RX11 411 yX11_isPicture, .static yX11_isPicture, .initialized RX11, .classLink RX11 120 "java/lang/IndexOutOfBoundsException", .initialized "java/lang/IndexOutOfBoundsException", .code yX11_isPicture cX11_isPicture 1 (some .boolean)]
def w_z_X11_needPicture : List Cond := .code yX11_needPicture cX11_needPicture 1 none :: (l_z_X11_needPicture ++ (((vx_at0 RX11 122 "java/lang/IndexOutOfBoundsException" ["java/lang/RuntimeException", "java/lang/Exception"]).filter goodWord)))
theorem in_z_X11_needPicture_at0_X11_122 : ∀ w ∈ ((vx_at0 RX11 122 "java/lang/IndexOutOfBoundsException" ["java/lang/RuntimeException", "java/lang/Exception"]).filter goodWord), w ∈ w_z_X11_needPicture := fun w h => List.mem_cons_of_mem _ (List.mem_append_right _ (h))
theorem g_z_X11_needPicture_z_X11_isPicture_411 : GoodIn w_z_X11_needPicture (wsS RX11 411 yX11_isPicture w_z_X11_isPicture) := goodIn_app (goodIn_sub (by decide +kernel) (by decide +kernel)) (goodIn_sub (by decide +kernel) (by decide +kernel))
set_option maxHeartbeats 4000000 in
set_option maxRecDepth 100000 in
theorem z_X11_needPicture (l : Launch) (dC : Nat → ClassId) (dI : Nat → Nat → Nat) (sz : Nat) (Va0 : Int32)  (hst : l.stackTraces = false)  : vx_Met l yX11_needPicture w_z_X11_needPicture ({ frames := 7, cells := 1, slots := 6, locals := 140 }) (va_Pc [.int Va0] (fun U => U.heap.size = sz ∧ Zz (va_A [] sz) U ∧ Wd dC dI [] (fun _ => True) [] U)) (va_Qv (fun (u : Unit) => (¬ Va0 < 0 ∧ ¬ 4 ≤ Va0)) (fun (u : Unit) t => Wd dC dI [] (va_A [] sz) [] t) (va_A [] sz)) (vx_X (fun _ : Unit => True) (fun E _ _ => (E = "java/lang/IndexOutOfBoundsException" ∧ Va0 < 0) ∨ (E = "java/lang/IndexOutOfBoundsException" ∧ ¬ Va0 < 0 ∧ 4 ≤ Va0)) (va_A [] sz)) 1 6 (va_A [] sz) := by
  refine vx_ofW (cc := cX11_needPicture) (maxL := 1) (ret := none) (by decide) rfl ?_
  intro p e s m args below meth c s₁ B hml htab hv
  obtain ⟨rfl, hsz, hZ, hP, hK, hD0⟩ := hv
  have hx := B.exec
  have hb := B.bytes
  have hr := B.returns
  have hts := atoms_spec (ws := w_z_X11_needPicture) B.pre
  have hown : s.vm.findClass RX11 = some m.cls := findClass_of_methodNamed B.named
  have hlocks := B.notSynchronized
  subst hsz
  have hD := hD0.self (sz := s.heap.size)
  generalize hAe : va_A [] s.heap.size = A at hD hZ ⊢
  have hA : ∀ q : Nat, s.heap.size ≤ q → A q := fun q h => by rw [← hAe]; exact Or.inr h
  have hS : va_S A s.heap s.heap [] := va_S.rf
  have hl := lv_entry ([.int Va0]) (n := 1) (Nat.le_of_ble_eq_true rfl)
  rw [lg_entry_eq]
  generalize (lg_sl ([.int Va0]) ++ List.replicate (1 - (lg_sl ([.int Va0])).length) Slot.unset).toArray = ls at hl ⊢
  have hl : lv_has ls 1 [(0, .int Va0)] := hl
  refine lv_iload_n hx hb dX11_needPicture_0 rfl (lv_at hl 0 rfl) ?_
  have hPc := hP.sub (ws' := []) [] rfl
  have hDc := hD.sub (ws' := []) [] (by decide) rfl
  have hKc := hK.sub (tys' := []) [] rfl
  have hFc := va_free (wc := []) hD hS hA [] rfl
  refine va_calli (va_runS (As := [.int Va0]) (rest := []) ⟨hx, hb, hml, hown, hts⟩ (z_X11_isPicture l dC dI s.heap.size Va0  ) (cwS 1 hts g_z_X11_needPicture_z_X11_isPicture_411 rfl rfl rfl (by decide +kernel) ⟨Nat.le_of_ble_eq_true rfl, Nat.le_of_ble_eq_true rfl⟩) ⟨fun a U g mk q => by obtain ⟨q0, q1, qP, qK, qD⟩ := q; exact ⟨q0, q1, qP, va_K.moved (u := U) (U := U.calling g mk a) (Vm.Alike.refl U.vm) qK, qD⟩, fun U hU hW => ⟨rfl, by rw [hU], by rw [hU]; exact hPc, va_K.moved hW.alike hKc, hDc.weaken (fun _ _ _ _ => trivial)⟩⟩ rfl rfl hl.1 rfl (lv_room (Nat.le_of_ble_eq_true rfl)) dX11_needPicture_1 ⟨Nat.le_of_ble_eq_true rfl, Nat.le_of_ble_eq_true rfl⟩) hS (fun q _ h => hFc q h) hFc (fun r4460 u t H1 locs ht hvm hw hB hz1 hk1 hS => ?_)
  obtain ⟨hP1, hK1, hD1⟩ := hB
  rw [ht] at hP1
  try dsimp only at hw
  obtain ⟨hP, hD⟩ := va_join (wr := []) (w1 := []) hP hD [] [] rfl rfl (by decide) (by decide) hk1 hFc hP1 hD1
  have hK := hK.sub (tys' := []) [] rfl
  generalize H1 = H at hP hS ⊢
  have hP : va_P (dC, dI) vwCl [] H := hP
  have hD : va_D A [] := hD
  rcases hw with ⟨c4461, er4462⟩ | ⟨c4463, c4464, er4465⟩ | ⟨c4466, c4467, er4468⟩
  · skip
    subst er4462
    refine lv_if_ne (tgt := 15) hx hb dX11_needPicture_4 (by decide) (fun c4469 => absurd c4469 (by decide)) (fun c4469 => ?_)
    exact vx_throw0 (names := ["java/lang/RuntimeException", "java/lang/Exception"]) hx hb hst hown (by decide +kernel) (by decide +kernel) (hts (.classLink RX11 120 "java/lang/IndexOutOfBoundsException") (by decide +kernel)) (hts (.initialized "java/lang/IndexOutOfBoundsException") (by decide +kernel)) (vx_hat (B := xB "java/lang/IndexOutOfBoundsException") (fun w h => hts w (in_z_X11_needPicture_at0_X11_122 w h)) (by decide +kernel) (Zz_xB hZ (by decide))) (by decide +kernel) hZ.1 hZ.2.1 hS (hl.1.trans hml.symm) dX11_needPicture_7 dX11_needPicture_10 dX11_needPicture_11 dX11_needPicture_14 (fun x h => (htab x h).elim) (by decide) (Nat.le_of_ble_eq_true rfl) (Nat.le_of_ble_eq_true rfl) (Nat.le_of_ble_eq_true rfl) hlocks (fun t _ h1 h2 => ⟨(), trivial, (Or.inl ⟨rfl, c4461⟩), xx_F hS h1 h2⟩) hS.2.2 (by decide) (by decide)
  · skip
    subst er4465
    refine lv_if_ne (tgt := 15) hx hb dX11_needPicture_4 (by decide) (fun c4470 => absurd c4470 (by decide)) (fun c4470 => ?_)
    exact vx_throw0 (names := ["java/lang/RuntimeException", "java/lang/Exception"]) hx hb hst hown (by decide +kernel) (by decide +kernel) (hts (.classLink RX11 120 "java/lang/IndexOutOfBoundsException") (by decide +kernel)) (hts (.initialized "java/lang/IndexOutOfBoundsException") (by decide +kernel)) (vx_hat (B := xB "java/lang/IndexOutOfBoundsException") (fun w h => hts w (in_z_X11_needPicture_at0_X11_122 w h)) (by decide +kernel) (Zz_xB hZ (by decide))) (by decide +kernel) hZ.1 hZ.2.1 hS (hl.1.trans hml.symm) dX11_needPicture_7 dX11_needPicture_10 dX11_needPicture_11 dX11_needPicture_14 (fun x h => (htab x h).elim) (by decide) (Nat.le_of_ble_eq_true rfl) (Nat.le_of_ble_eq_true rfl) (Nat.le_of_ble_eq_true rfl) hlocks (fun t _ h1 h2 => ⟨(), trivial, (Or.inr (⟨rfl, c4463, c4464⟩)), xx_F hS h1 h2⟩) hS.2.2 (by decide) (by decide)
  · skip
    subst er4468
    refine lv_if_ne (tgt := 15) hx hb dX11_needPicture_4 (by decide) (fun c4471 => ?_) (fun c4471 => absurd c4471 (by decide))
    have hP9 := hP.sub (ws' := []) [] rfl
    have hD9 := hD.sub (ws' := []) [] (by decide) rfl
    have hK9 := hK.sub (tys' := []) [] rfl
    refine vx_ret ?_
    refine W.widen (k := 1) (n := 6) (by decide) (by decide) ?_
    exact W.vret hx hb hr (fun t ht hW => ⟨⟨(), rfl, ⟨c4466, c4467⟩, by rw [ht]; exact hP9, va_K.moved hW.alike hK9, hD9⟩, hS.F ht⟩) hS.2.2 dX11_needPicture_15

def l_z_X5_forget : List Cond := [.fieldLink RX5 82 "HeapWorks$Picture" "things" "I", .fieldLink RX5 86 "HeapWorks$Picture" "roots" "I", .fieldLink RX5 89 "HeapWorks$Picture" "lostCount" "I", .fieldLink RX5 78 "HeapWorks$Picture" "shape" "LHeapWorks$Shape;", .fieldLink RX5 92 "HeapWorks$Shape" "known" "I"]
def w_z_X5_forget : List Cond := .code yX5_forget cX5_forget 2 none :: (l_z_X5_forget ++ ((wsX50 ++ wsX80)))
theorem in_z_X5_forget_X5 : ∀ w ∈ wsX50, w ∈ w_z_X5_forget := fun w h => List.mem_cons_of_mem _ (List.mem_append_right _ (List.mem_append_left _ h))
theorem in_z_X5_forget_X8 : ∀ w ∈ wsX80, w ∈ w_z_X5_forget := fun w h => List.mem_cons_of_mem _ (List.mem_append_right _ (List.mem_append_right _ (h)))
set_option maxHeartbeats 4000000 in
set_option maxRecDepth 100000 in
theorem z_X5_forget (l : Launch) (dC : Nat → ClassId) (dI : Nat → Nat → Nat) (sz : Nat) (Ad0 : Nat) (Fs0 : List Value) (Ad1 : Nat) (Fs1 : List Value) (k_Fs0 : fh Fs0 21 [(0, .int 0), (20, .ref Ad1)]) (k_Fs1 : fh Fs1 18 [])  : Met l yX5_forget w_z_X5_forget ({ frames := 0, cells := 0, slots := 0, locals := 0 }) (va_Pc [.ref Ad0] (fun U => U.heap.size = sz ∧ Wd dC dI [] (fun _ => True) [(Ad0, .inr (8, Fs0)), (Ad1, .inr (11, Fs1))] U)) (va_Qv (fun (u : List Value × List Value) => (ow Fs0 (u.1) 21 [16, 11, 0] [(16, .int 0), (11, .int 0), (0, .int 0), (20, .ref Ad1)] ∧ ow Fs1 (u.2) 18 [1] [(1, .int 0)])) (fun (u : List Value × List Value) t => Wd dC dI [] (va_A [(Ad0, .inr (8, Fs0)), (Ad1, .inr (11, Fs1))] sz) [(Ad0, .inr (8, (u.1))), (Ad1, .inr (11, (u.2)))] t) (va_A [(Ad0, .inr (8, Fs0)), (Ad1, .inr (11, Fs1))] sz))  0 0 (va_A [(Ad0, .inr (8, Fs0)), (Ad1, .inr (11, Fs1))] sz) := by
  refine Met.ofW (cc := cX5_forget) (maxL := 2) (ret := none) (by decide) rfl ?_
  intro p e s m args below meth c s₁ B hml hv
  obtain ⟨rfl, hsz, hP, hK, hD0⟩ := hv
  have hx := B.exec
  have hb := B.bytes
  have hr := B.returns
  have hts := atoms_spec (ws := w_z_X5_forget) B.pre
  have hown : s.vm.findClass RX5 = some m.cls := findClass_of_methodNamed B.named
  have hlocks := B.notSynchronized
  subst hsz
  have hD := hD0.self (sz := s.heap.size)
  generalize hAe : va_A [(Ad0, .inr (8, Fs0)), (Ad1, .inr (11, Fs1))] s.heap.size = A at hD ⊢
  have hA : ∀ q : Nat, s.heap.size ≤ q → A q := fun q h => by rw [← hAe]; exact Or.inr h
  have hS : va_S A s.heap s.heap [] := va_S.rf
  have hl := lv_entry ([.ref Ad0]) (n := 2) (Nat.le_of_ble_eq_true rfl)
  rw [lg_entry_eq]
  generalize (lg_sl ([.ref Ad0]) ++ List.replicate (2 - (lg_sl ([.ref Ad0])).length) Slot.unset).toArray = ls at hl ⊢
  have hl : lv_has ls 2 [(0, .ref Ad0)] := hl
  have o_Fs0 := ow_0 k_Fs0
  have o_Fs1 := ow_0 k_Fs1
  refine lv_iconst (v := 0) hx hb dX5_forget_0 (by decide) ?_
  refine lv_istore_n (lv' := [(1, .int 0), (0, .ref Ad0)]) hx hb dX5_forget_1 rfl hl (by decide) rfl (fun ls hl => ?_)
  refine lv_iload_n hx hb dX5_forget_2 rfl (lv_at hl 0 rfl) ?_
  refine lv_aload_n hx hb dX5_forget_3 rfl (lv_at hl 1 rfl) ?_
  refine va_get (D := (dC, dI)) (ci := 8) (v := .int 0) (C := RX5) (T := TX5) (N := 21) hx hb hts (in_z_X5_forget_X5) hown hK hP 0 rfl rfl 0 (by decide) (hts (.fieldLink RX5 82 "HeapWorks$Picture" "things" "I") (by decide +kernel)) (fun _ h9 => h9) (ow_at o_Fs0 0 rfl) dX5_forget_4 ?_
  refine lv_icmp_ge (tgt := 35) hx hb dX5_forget_7 (by decide) (fun c4482 => ?_) (fun c4482 => absurd c4482 (by decide))
  refine lv_aload_n hx hb dX5_forget_35 rfl (lv_at hl 1 rfl) ?_
  refine lv_iconst (v := 0) hx hb dX5_forget_36 (by decide) ?_
  refine va_put (D := (dC, dI)) (ci := 8) (v := .int 0) (ty := .int) (C := RX5) (T := TX5) (N := 21) hx hb hts (in_z_X5_forget_X5) tyX5 tyX5_ok nmX5 hown hK hP hD hS 0 rfl rfl 0 (by decide) (hts (.fieldLink RX5 82 "HeapWorks$Picture" "things" "I") (by decide +kernel)) (fun _ h9 => h9) rfl (by decide +kernel) rfl rfl (by rw [o_Fs0.2.1]; decide) dX5_forget_37 (fun H locs hP hD hS => ?_)
  have hP : va_P (dC, dI) vwCl [(Ad0, .inr (8, (Fs0.set 0 (.int 0)))), (Ad1, .inr (11, Fs1))] H := hP
  have hD : va_D A [(Ad0, .inr (8, (Fs0.set 0 (.int 0)))), (Ad1, .inr (11, Fs1))] := hD
  have o_s4483 := ow_set o_Fs0 0 (.int 0) (by decide) (l' := [(0, .int 0), (20, .ref Ad1)]) (w' := [0]) rfl rfl
  generalize (Fs0.set 0 (.int 0)) = s4483 at hP hD o_s4483
  refine lv_aload_n hx hb dX5_forget_40 rfl (lv_at hl 1 rfl) ?_
  refine lv_iconst (v := 0) hx hb dX5_forget_41 (by decide) ?_
  refine va_put (D := (dC, dI)) (ci := 8) (v := .int 0) (ty := .int) (C := RX5) (T := TX5) (N := 21) hx hb hts (in_z_X5_forget_X5) tyX5 tyX5_ok nmX5 hown hK hP hD hS 0 rfl rfl 11 (by decide) (hts (.fieldLink RX5 86 "HeapWorks$Picture" "roots" "I") (by decide +kernel)) (fun _ h9 => h9) rfl (by decide +kernel) rfl rfl (by rw [o_s4483.2.1]; decide) dX5_forget_42 (fun H locs hP hD hS => ?_)
  have hP : va_P (dC, dI) vwCl [(Ad0, .inr (8, (s4483.set 11 (.int 0)))), (Ad1, .inr (11, Fs1))] H := hP
  have hD : va_D A [(Ad0, .inr (8, (s4483.set 11 (.int 0)))), (Ad1, .inr (11, Fs1))] := hD
  have o_s4484 := ow_set o_s4483 11 (.int 0) (by decide) (l' := [(11, .int 0), (0, .int 0), (20, .ref Ad1)]) (w' := [11, 0]) rfl rfl
  generalize (s4483.set 11 (.int 0)) = s4484 at hP hD o_s4484
  refine lv_aload_n hx hb dX5_forget_45 rfl (lv_at hl 1 rfl) ?_
  refine lv_iconst (v := 0) hx hb dX5_forget_46 (by decide) ?_
  refine va_put (D := (dC, dI)) (ci := 8) (v := .int 0) (ty := .int) (C := RX5) (T := TX5) (N := 21) hx hb hts (in_z_X5_forget_X5) tyX5 tyX5_ok nmX5 hown hK hP hD hS 0 rfl rfl 16 (by decide) (hts (.fieldLink RX5 89 "HeapWorks$Picture" "lostCount" "I") (by decide +kernel)) (fun _ h9 => h9) rfl (by decide +kernel) rfl rfl (by rw [o_s4484.2.1]; decide) dX5_forget_47 (fun H locs hP hD hS => ?_)
  have hP : va_P (dC, dI) vwCl [(Ad0, .inr (8, (s4484.set 16 (.int 0)))), (Ad1, .inr (11, Fs1))] H := hP
  have hD : va_D A [(Ad0, .inr (8, (s4484.set 16 (.int 0)))), (Ad1, .inr (11, Fs1))] := hD
  have o_s4485 := ow_set o_s4484 16 (.int 0) (by decide) (l' := [(16, .int 0), (11, .int 0), (0, .int 0), (20, .ref Ad1)]) (w' := [16, 11, 0]) rfl rfl
  generalize (s4484.set 16 (.int 0)) = s4485 at hP hD o_s4485
  refine lv_aload_n hx hb dX5_forget_50 rfl (lv_at hl 1 rfl) ?_
  refine va_get (D := (dC, dI)) (ci := 8) (v := .ref Ad1) (C := RX5) (T := TX5) (N := 21) hx hb hts (in_z_X5_forget_X5) hown hK hP 0 rfl rfl 20 (by decide) (hts (.fieldLink RX5 78 "HeapWorks$Picture" "shape" "LHeapWorks$Shape;") (by decide +kernel)) (fun _ h9 => h9) (ow_at o_s4485 3 rfl) dX5_forget_51 ?_
  refine lv_iconst (v := 0) hx hb dX5_forget_54 (by decide) ?_
  refine va_put (D := (dC, dI)) (ci := 11) (v := .int 0) (ty := .int) (C := RX8) (T := TX8) (N := 18) hx hb hts (in_z_X5_forget_X8) tyX8 tyX8_ok nmX8 hown hK hP hD hS 1 rfl rfl 1 (by decide) (hts (.fieldLink RX5 92 "HeapWorks$Shape" "known" "I") (by decide +kernel)) (fun _ h9 => h9) rfl (by decide +kernel) rfl rfl (by rw [o_Fs1.2.1]; decide) dX5_forget_55 (fun H locs hP hD hS => ?_)
  have hP : va_P (dC, dI) vwCl [(Ad0, .inr (8, s4485)), (Ad1, .inr (11, (Fs1.set 1 (.int 0))))] H := hP
  have hD : va_D A [(Ad0, .inr (8, s4485)), (Ad1, .inr (11, (Fs1.set 1 (.int 0))))] := hD
  have o_s4486 := ow_set o_Fs1 1 (.int 0) (by decide) (l' := [(1, .int 0)]) (w' := [1]) rfl rfl
  generalize (Fs1.set 1 (.int 0)) = s4486 at hP hD o_s4486
  have hP9 := hP.sub (ws' := [(Ad0, .inr (8, s4485)), (Ad1, .inr (11, s4486))]) [0, 1] rfl
  have hD9 := hD.sub (ws' := [(Ad0, .inr (8, s4485)), (Ad1, .inr (11, s4486))]) [0, 1] (by decide) rfl
  have hK9 := hK.sub (tys' := []) [] rfl
  exact W.vret hx hb hr (fun t ht hW => ⟨⟨(s4485, s4486), rfl, ⟨o_s4485, o_s4486⟩, by rw [ht]; exact hP9, va_K.moved hW.alike hK9, hD9⟩, hS.F ht⟩) hS.2.2 dX5_forget_58

def l_z_X5_takeFrom : List Cond := [.methodLink RX5 95 yX5_forget, .instanceMethod yX5_forget, .selects RX5 yX5_forget yX5_forget, .initialized RX5, .fieldLink RX5 98 "HeapWorks$Heap" "rootCount" "I", .fieldLink RX5 107 "HeapWorks$Heap" "types" "LHeapWorks$Types;", .methodLink RX5 111 yX10_ownFields, .instanceMethod yX10_ownFields, .selects RX10 yX10_ownFields yX10_ownFields, .initialized RX10, .fieldLink RX5 82 "HeapWorks$Picture" "things" "I", .code yX5_forget cX5_forget 2 none, .fieldLink RX5 86 "HeapWorks$Picture" "roots" "I", .fieldLink RX5 89 "HeapWorks$Picture" "lostCount" "I", .fieldLink RX5 78 "HeapWorks$Picture" "shape" "LHeapWorks$Shape;", .fieldLink RX5 92 "HeapWorks$Shape" "known" "I", .code yX10_ownFields cX10_ownFields 1 (some .int), .fieldLink RX10 65 "HeapWorks$Types" "count" "I"]
def w_z_X5_takeFrom : List Cond := .code yX5_takeFrom cX5_takeFrom 4 none :: (l_z_X5_takeFrom ++ ((wsX20 ++ (wsX50 ++ (wsX80 ++ wsX100)))))
theorem in_z_X5_takeFrom_X2 : ∀ w ∈ wsX20, w ∈ w_z_X5_takeFrom := fun w h => List.mem_cons_of_mem _ (List.mem_append_right _ (List.mem_append_left _ h))
theorem in_z_X5_takeFrom_X5 : ∀ w ∈ wsX50, w ∈ w_z_X5_takeFrom := fun w h => List.mem_cons_of_mem _ (List.mem_append_right _ (List.mem_append_right _ (List.mem_append_left _ h)))
theorem in_z_X5_takeFrom_X8 : ∀ w ∈ wsX80, w ∈ w_z_X5_takeFrom := fun w h => List.mem_cons_of_mem _ (List.mem_append_right _ (List.mem_append_right _ (List.mem_append_right _ (List.mem_append_left _ h))))
theorem in_z_X5_takeFrom_X10 : ∀ w ∈ wsX100, w ∈ w_z_X5_takeFrom := fun w h => List.mem_cons_of_mem _ (List.mem_append_right _ (List.mem_append_right _ (List.mem_append_right _ (List.mem_append_right _ (h)))))
theorem g_z_X5_takeFrom_z_X5_forget_95 : GoodIn w_z_X5_takeFrom (wsV RX5 95 RX5 yX5_forget w_z_X5_forget) := goodIn_app (goodIn_sub (by decide +kernel) (by decide +kernel)) (goodIn_ca (goodIn_sub (by decide +kernel) (by decide +kernel)) (goodIn_app (goodIn_in in_z_X5_takeFrom_X5 gd_X5) (goodIn_in in_z_X5_takeFrom_X8 gd_X8)))
theorem g_z_X5_takeFrom_z_X10_ownFields_111 : GoodIn w_z_X5_takeFrom (wsV RX5 111 RX10 yX10_ownFields w_z_X10_ownFields) := goodIn_app (goodIn_sub (by decide +kernel) (by decide +kernel)) (goodIn_ca (goodIn_sub (by decide +kernel) (by decide +kernel)) (goodIn_in in_z_X5_takeFrom_X10 gd_X10))
set_option maxHeartbeats 4000000 in
set_option maxRecDepth 100000 in
theorem z_X5_takeFrom (l : Launch) (dC : Nat → ClassId) (dI : Nat → Nat → Nat) (sz : Nat) (Ad0 : Nat) (Fs0 : List Value) (Ad1 : Nat) (Fs1 : List Value) (Ad2 : Nat) (Fs2 : List Value) (Ad3 : Nat) (Fs3 : List Value) (k_Fs0 : fh Fs0 18 [(0, .int 0)]) (k_Fs1 : fh Fs1 14 [(0, .ref Ad0), (11, .int 0)]) (k_Fs2 : fh Fs2 21 [(0, .int 0), (20, .ref Ad3)]) (k_Fs3 : fh Fs3 18 [])  : Met l yX5_takeFrom w_z_X5_takeFrom ({ frames := 1, cells := 0, slots := 0, locals := 21 }) (va_Pc [.ref Ad2, .ref Ad1] (fun U => U.heap.size = sz ∧ Wd dC dI [] (fun _ => True) [(Ad0, .inr (13, Fs0)), (Ad1, .inr (5, Fs1)), (Ad2, .inr (8, Fs2)), (Ad3, .inr (11, Fs3))] U)) (va_Qv (fun (u : List Value × List Value) => (ow Fs2 (u.1) 21 [16, 11, 0] [(16, .int 0), (11, .int 0), (0, .int 0), (20, .ref Ad3), (20, .ref Ad3)] ∧ ow Fs3 (u.2) 18 [1] [(1, .int 0)])) (fun (u : List Value × List Value) t => Wd dC dI [] (va_A [(Ad0, .inr (13, Fs0)), (Ad1, .inr (5, Fs1)), (Ad2, .inr (8, Fs2)), (Ad3, .inr (11, Fs3))] sz) [(Ad0, .inr (13, Fs0)), (Ad1, .inr (5, Fs1)), (Ad2, .inr (8, (u.1))), (Ad3, .inr (11, (u.2)))] t) (va_A [(Ad0, .inr (13, Fs0)), (Ad1, .inr (5, Fs1)), (Ad2, .inr (8, Fs2)), (Ad3, .inr (11, Fs3))] sz))  0 0 (va_A [(Ad0, .inr (13, Fs0)), (Ad1, .inr (5, Fs1)), (Ad2, .inr (8, Fs2)), (Ad3, .inr (11, Fs3))] sz) := by
  refine Met.ofW (cc := cX5_takeFrom) (maxL := 4) (ret := none) (by decide) rfl ?_
  intro p e s m args below meth c s₁ B hml hv
  obtain ⟨rfl, hsz, hP, hK, hD0⟩ := hv
  have hx := B.exec
  have hb := B.bytes
  have hr := B.returns
  have hts := atoms_spec (ws := w_z_X5_takeFrom) B.pre
  have hown : s.vm.findClass RX5 = some m.cls := findClass_of_methodNamed B.named
  have hlocks := B.notSynchronized
  subst hsz
  have hD := hD0.self (sz := s.heap.size)
  generalize hAe : va_A [(Ad0, .inr (13, Fs0)), (Ad1, .inr (5, Fs1)), (Ad2, .inr (8, Fs2)), (Ad3, .inr (11, Fs3))] s.heap.size = A at hD ⊢
  have hA : ∀ q : Nat, s.heap.size ≤ q → A q := fun q h => by rw [← hAe]; exact Or.inr h
  have hS : va_S A s.heap s.heap [] := va_S.rf
  have hl := lv_entry ([.ref Ad2, .ref Ad1]) (n := 4) (Nat.le_of_ble_eq_true rfl)
  rw [lg_entry_eq]
  generalize (lg_sl ([.ref Ad2, .ref Ad1]) ++ List.replicate (4 - (lg_sl ([.ref Ad2, .ref Ad1])).length) Slot.unset).toArray = ls at hl ⊢
  have hl : lv_has ls 4 [(0, .ref Ad2), (1, .ref Ad1)] := hl
  have o_Fs0 := ow_0 k_Fs0
  have o_Fs1 := ow_0 k_Fs1
  have o_Fs2 := ow_0 k_Fs2
  have o_Fs3 := ow_0 k_Fs3
  refine lv_aload_n hx hb dX5_takeFrom_0 rfl (lv_at hl 0 rfl) ?_
  have hPc := hP.sub (ws' := [(Ad2, .inr (8, Fs2)), (Ad3, .inr (11, Fs3))]) [2, 3] rfl
  have hDc := hD.sub (ws' := [(Ad2, .inr (8, Fs2)), (Ad3, .inr (11, Fs3))]) [2, 3] (by decide) rfl
  have hKc := hK.sub (tys' := []) [] rfl
  have hFc := va_free (wc := [(Ad2, .inr (8, Fs2)), (Ad3, .inr (11, Fs3))]) hD hS hA [2, 3] rfl
  refine va_callv (va_runV (As := []) (rest := []) ⟨hx, hb, hml, hown, hts⟩ (z_X5_forget l dC dI s.heap.size Ad2 Fs2 Ad3 Fs3 (fh_sub o_Fs2.2 [0, 1] rfl) (fh_sub o_Fs3.2 [] rfl) ) (cwV 0 hts g_z_X5_takeFrom_z_X5_forget_95 rfl rfl rfl (by decide +kernel) ⟨Nat.le_of_ble_eq_true rfl, Nat.le_of_ble_eq_true rfl⟩) ⟨fun a U g mk q => by obtain ⟨q0, q1, qP, qK, qD⟩ := q; exact ⟨q0, q1, qP, va_K.moved (u := U) (U := U.calling g mk a) (Vm.Alike.refl U.vm) qK, qD⟩, va_recv hK hP (ci := 8) (q0 := 2) rfl rfl, fun U hU hW => ⟨rfl, by rw [hU], by rw [hU]; exact hPc, va_K.moved hW.alike hKc, hDc.weaken (fun _ _ _ _ => trivial)⟩⟩ rfl rfl hl.1 rfl (lv_room (Nat.le_of_ble_eq_true rfl)) dX5_takeFrom_1 ⟨Nat.le_of_ble_eq_true rfl, Nat.le_of_ble_eq_true rfl⟩) hS (fun q _ h => hFc q h) hFc (fun u t H1 locs ht hvm hw hB hz1 hk1 hS => ?_)
  obtain ⟨s4500, s4501⟩ := u
  obtain ⟨hP1, hK1, hD1⟩ := hB
  rw [ht] at hP1
  try dsimp only at hw
  obtain ⟨hP, hD⟩ := va_join (wr := [(Ad0, .inr (13, Fs0)), (Ad1, .inr (5, Fs1))]) (w1 := [(Ad2, .inr (8, s4500)), (Ad3, .inr (11, s4501))]) hP hD [2, 3] [0, 1] rfl rfl (by decide) (by decide) hk1 hFc hP1 hD1
  have hK := hK.sub (tys' := []) [] rfl
  generalize H1 = H at hP hS ⊢
  have hP : va_P (dC, dI) vwCl [(Ad0, .inr (13, Fs0)), (Ad1, .inr (5, Fs1)), (Ad2, .inr (8, s4500)), (Ad3, .inr (11, s4501))] H := hP
  have hD : va_D A [(Ad0, .inr (13, Fs0)), (Ad1, .inr (5, Fs1)), (Ad2, .inr (8, s4500)), (Ad3, .inr (11, s4501))] := hD
  obtain ⟨o_s4500, o_s4501⟩ := hw
  have o_s4500 := ow_on o_Fs2 o_s4500 (l' := [(16, .int 0), (11, .int 0), (0, .int 0), (20, .ref Ad3), (20, .ref Ad3)]) (w' := [16, 11, 0]) rfl rfl
  have o_s4501 := ow_on o_Fs3 o_s4501 (l' := [(1, .int 0)]) (w' := [1]) rfl rfl
  refine lv_iconst (v := 0) hx hb dX5_takeFrom_4 (by decide) ?_
  refine lv_istore_n (lv' := [(2, .int 0), (0, .ref Ad2), (1, .ref Ad1)]) hx hb dX5_takeFrom_5 rfl hl (by decide) rfl (fun ls hl => ?_)
  refine lv_iload_n hx hb dX5_takeFrom_6 rfl (lv_at hl 0 rfl) ?_
  refine lv_aload_n hx hb dX5_takeFrom_7 rfl (lv_at hl 2 rfl) ?_
  refine va_get (D := (dC, dI)) (ci := 5) (v := .int 0) (C := RX2) (T := TX2) (N := 14) hx hb hts (in_z_X5_takeFrom_X2) hown hK hP 1 rfl rfl 11 (by decide) (hts (.fieldLink RX5 98 "HeapWorks$Heap" "rootCount" "I") (by decide +kernel)) (fun _ h9 => h9) (ow_at o_Fs1 1 rfl) dX5_takeFrom_8 ?_
  refine lv_icmp_ge (tgt := 33) hx hb dX5_takeFrom_11 (by decide) (fun c4502 => ?_) (fun c4502 => absurd c4502 (by decide))
  refine lv_aload_n hx hb dX5_takeFrom_33 rfl (lv_at hl 2 rfl) ?_
  refine va_get (D := (dC, dI)) (ci := 5) (v := .int 0) (C := RX2) (T := TX2) (N := 14) hx hb hts (in_z_X5_takeFrom_X2) hown hK hP 1 rfl rfl 11 (by decide) (hts (.fieldLink RX5 98 "HeapWorks$Heap" "rootCount" "I") (by decide +kernel)) (fun _ h9 => h9) (ow_at o_Fs1 1 rfl) dX5_takeFrom_34 ?_
  refine lv_istore_n (lv' := [(2, .int 0), (0, .ref Ad2), (1, .ref Ad1)]) hx hb dX5_takeFrom_37 rfl hl (by decide) rfl (fun ls hl => ?_)
  refine lv_iconst (v := 0) hx hb dX5_takeFrom_38 (by decide) ?_
  refine lv_istore_n (lv' := [(3, .int 0), (2, .int 0), (0, .ref Ad2), (1, .ref Ad1)]) hx hb dX5_takeFrom_39 rfl hl (by decide) rfl (fun ls hl => ?_)
  refine lv_iload_n hx hb dX5_takeFrom_40 rfl (lv_at hl 0 rfl) ?_
  refine lv_aload_n hx hb dX5_takeFrom_41 rfl (lv_at hl 3 rfl) ?_
  refine va_get (D := (dC, dI)) (ci := 5) (v := .ref Ad0) (C := RX2) (T := TX2) (N := 14) hx hb hts (in_z_X5_takeFrom_X2) hown hK hP 1 rfl rfl 0 (by decide) (hts (.fieldLink RX5 107 "HeapWorks$Heap" "types" "LHeapWorks$Types;") (by decide +kernel)) (fun _ h9 => h9) (ow_at o_Fs1 0 rfl) dX5_takeFrom_42 ?_
  have hPc := hP.sub (ws' := [(Ad0, .inr (13, Fs0))]) [0] rfl
  have hDc := hD.sub (ws' := [(Ad0, .inr (13, Fs0))]) [0] (by decide) rfl
  have hKc := hK.sub (tys' := []) [] rfl
  have hFc := va_free (wc := [(Ad0, .inr (13, Fs0))]) hD hS hA [0] rfl
  refine va_calli (va_runV (As := []) (rest := [.int 0]) ⟨hx, hb, hml, hown, hts⟩ (z_X10_ownFields l dC dI H.size Ad0 Fs0 (fh_sub o_Fs0.2 [0] rfl) ) (cwV 0 hts g_z_X5_takeFrom_z_X10_ownFields_111 rfl rfl rfl (by decide +kernel) ⟨Nat.le_of_ble_eq_true rfl, Nat.le_of_ble_eq_true rfl⟩) ⟨fun a U g mk q => by obtain ⟨q0, q1, qP, qK, qD⟩ := q; exact ⟨q0, q1, qP, va_K.moved (u := U) (U := U.calling g mk a) (Vm.Alike.refl U.vm) qK, qD⟩, va_recv hK hP (ci := 13) (q0 := 0) rfl rfl, fun U hU hW => ⟨rfl, by rw [hU], by rw [hU]; exact hPc, va_K.moved hW.alike hKc, hDc.weaken (fun _ _ _ _ => trivial)⟩⟩ rfl rfl hl.1 rfl (lv_room (Nat.le_of_ble_eq_true rfl)) dX5_takeFrom_45 ⟨Nat.le_of_ble_eq_true rfl, Nat.le_of_ble_eq_true rfl⟩) hS (fun q _ h => hFc q h) hFc (fun r4504 u t H1 locs ht hvm hw hB hz1 hk1 hS => ?_)
  obtain ⟨hP1, hK1, hD1⟩ := hB
  rw [ht] at hP1
  try dsimp only at hw
  obtain ⟨hP, hD⟩ := va_join (wr := [(Ad1, .inr (5, Fs1)), (Ad2, .inr (8, s4500)), (Ad3, .inr (11, s4501))]) (w1 := [(Ad0, .inr (13, Fs0))]) hP hD [0] [1, 2, 3] rfl rfl (by decide) (by decide) hk1 hFc hP1 hD1
  have hK := hK.sub (tys' := []) [] rfl
  generalize H1 = H at hP hS ⊢
  have hP : va_P (dC, dI) vwCl [(Ad1, .inr (5, Fs1)), (Ad2, .inr (8, s4500)), (Ad3, .inr (11, s4501)), (Ad0, .inr (13, Fs0))] H := hP
  have hD : va_D A [(Ad1, .inr (5, Fs1)), (Ad2, .inr (8, s4500)), (Ad3, .inr (11, s4501)), (Ad0, .inr (13, Fs0))] := hD
  have er4505 := hw
  subst er4505
  refine lv_icmp_ge (tgt := 83) hx hb dX5_takeFrom_48 (by decide) (fun c4506 => ?_) (fun c4506 => absurd c4506 (by decide))
  refine lv_iconst (v := 0) hx hb dX5_takeFrom_83 (by decide) ?_
  refine lv_istore_n (lv' := [(3, .int 0), (2, .int 0), (0, .ref Ad2), (1, .ref Ad1)]) hx hb dX5_takeFrom_84 rfl hl (by decide) rfl (fun ls hl => ?_)
  refine lv_iload_n hx hb dX5_takeFrom_85 rfl (lv_at hl 0 rfl) ?_
  refine lv_aload_n hx hb dX5_takeFrom_86 rfl (lv_at hl 2 rfl) ?_
  refine va_get (D := (dC, dI)) (ci := 8) (v := .int 0) (C := RX5) (T := TX5) (N := 21) hx hb hts (in_z_X5_takeFrom_X5) hown hK hP 1 rfl rfl 0 (by decide) (hts (.fieldLink RX5 82 "HeapWorks$Picture" "things" "I") (by decide +kernel)) (fun _ h9 => h9) (ow_at o_s4500 2 rfl) dX5_takeFrom_87 ?_
  refine lv_icmp_ge (tgt := 105) hx hb dX5_takeFrom_90 (by decide) (fun c4507 => ?_) (fun c4507 => absurd c4507 (by decide))
  have hP9 := hP.sub (ws' := [(Ad0, .inr (13, Fs0)), (Ad1, .inr (5, Fs1)), (Ad2, .inr (8, s4500)), (Ad3, .inr (11, s4501))]) [3, 0, 1, 2] rfl
  have hD9 := hD.sub (ws' := [(Ad0, .inr (13, Fs0)), (Ad1, .inr (5, Fs1)), (Ad2, .inr (8, s4500)), (Ad3, .inr (11, s4501))]) [3, 0, 1, 2] (by decide) rfl
  have hK9 := hK.sub (tys' := []) [] rfl
  exact W.vret hx hb hr (fun t ht hW => ⟨⟨(s4500, s4501), rfl, ⟨o_s4500, o_s4501⟩, by rw [ht]; exact hP9, va_K.moved hW.alike hK9, hD9⟩, hS.F ht⟩) hS.2.2 dX5_takeFrom_105

def l_x_take : List Cond := [.methodLink RX11 353 yX11_needPicture, .static yX11_needPicture, .initialized RX11, .fieldLink RX11 41 "HeapWorks" "pictures" "[LHeapWorks$Picture;", .fieldLink RX11 28 "HeapWorks" "heap" "LHeapWorks$Heap;", .methodLink RX11 342 yX5_takeFrom, .instanceMethod yX5_takeFrom, .selects RX5 yX5_takeFrom yX5_takeFrom, .initialized RX5, .fieldLink RX11 356 "HeapWorks$Picture" "things" "I", .code yX11_needPicture cX11_needPicture 1 none, .methodLink RX11 411 yX11_isPicture, .static yX11_isPicture, .classLink RX11 120 "java/lang/IndexOutOfBoundsException", .initialized "java/lang/IndexOutOfBoundsException", .code yX11_isPicture cX11_isPicture 1 (some .boolean), .code yX5_takeFrom cX5_takeFrom 4 none, .methodLink RX5 95 yX5_forget, .instanceMethod yX5_forget, .selects RX5 yX5_forget yX5_forget, .fieldLink RX5 98 "HeapWorks$Heap" "rootCount" "I", .fieldLink RX5 107 "HeapWorks$Heap" "types" "LHeapWorks$Types;", .methodLink RX5 111 yX10_ownFields, .instanceMethod yX10_ownFields, .selects RX10 yX10_ownFields yX10_ownFields, .initialized RX10, .fieldLink RX5 82 "HeapWorks$Picture" "things" "I", .code yX5_forget cX5_forget 2 none, .fieldLink RX5 86 "HeapWorks$Picture" "roots" "I", .fieldLink RX5 89 "HeapWorks$Picture" "lostCount" "I", .fieldLink RX5 78 "HeapWorks$Picture" "shape" "LHeapWorks$Shape;", .fieldLink RX5 92 "HeapWorks$Shape" "known" "I", .code yX10_ownFields cX10_ownFields 1 (some .int), .fieldLink RX10 65 "HeapWorks$Types" "count" "I"]
def w_x_take : List Cond := .code yX11_take cX11_take 2 (some .int) :: (l_x_take ++ ((wsX110 ++ (wsX50 ++ (((vx_at0 RX11 122 "java/lang/IndexOutOfBoundsException" ["java/lang/RuntimeException", "java/lang/Exception"]).filter goodWord) ++ (wsX20 ++ (wsX80 ++ wsX100)))))))
theorem in_x_take_X11 : ∀ w ∈ wsX110, w ∈ w_x_take := fun w h => List.mem_cons_of_mem _ (List.mem_append_right _ (List.mem_append_left _ h))
theorem in_x_take_X5 : ∀ w ∈ wsX50, w ∈ w_x_take := fun w h => List.mem_cons_of_mem _ (List.mem_append_right _ (List.mem_append_right _ (List.mem_append_left _ h)))
theorem in_x_take_at0_X11_122 : ∀ w ∈ ((vx_at0 RX11 122 "java/lang/IndexOutOfBoundsException" ["java/lang/RuntimeException", "java/lang/Exception"]).filter goodWord), w ∈ w_x_take := fun w h => List.mem_cons_of_mem _ (List.mem_append_right _ (List.mem_append_right _ (List.mem_append_right _ (List.mem_append_left _ h))))
theorem in_x_take_X2 : ∀ w ∈ wsX20, w ∈ w_x_take := fun w h => List.mem_cons_of_mem _ (List.mem_append_right _ (List.mem_append_right _ (List.mem_append_right _ (List.mem_append_right _ (List.mem_append_left _ h)))))
theorem in_x_take_X8 : ∀ w ∈ wsX80, w ∈ w_x_take := fun w h => List.mem_cons_of_mem _ (List.mem_append_right _ (List.mem_append_right _ (List.mem_append_right _ (List.mem_append_right _ (List.mem_append_right _ (List.mem_append_left _ h))))))
theorem in_x_take_X10 : ∀ w ∈ wsX100, w ∈ w_x_take := fun w h => List.mem_cons_of_mem _ (List.mem_append_right _ (List.mem_append_right _ (List.mem_append_right _ (List.mem_append_right _ (List.mem_append_right _ (List.mem_append_right _ (h)))))))
theorem g_x_take_z_X11_needPicture_353 : GoodIn w_x_take (wsS RX11 353 yX11_needPicture w_z_X11_needPicture) := goodIn_app (goodIn_sub (by decide +kernel) (by decide +kernel)) (goodIn_ca (goodIn_sub (by decide +kernel) (by decide +kernel)) (goodIn_in in_x_take_at0_X11_122 gd_at0_X11_122))
theorem g_x_take_z_X5_takeFrom_342 : GoodIn w_x_take (wsV RX11 342 RX5 yX5_takeFrom w_z_X5_takeFrom) := goodIn_app (goodIn_sub (by decide +kernel) (by decide +kernel)) (goodIn_ca (goodIn_sub (by decide +kernel) (by decide +kernel)) (goodIn_app (goodIn_in in_x_take_X2 gd_X2) (goodIn_app (goodIn_in in_x_take_X5 gd_X5) (goodIn_app (goodIn_in in_x_take_X8 gd_X8) (goodIn_in in_x_take_X10 gd_X10)))))
set_option maxHeartbeats 4000000 in
set_option maxRecDepth 100000 in
theorem x_take (l : Launch) (dC : Nat → ClassId) (dI : Nat → Nat → Nat) (sz : Nat) (aX : Nat) (fsX : List Value) (aY : Nat) (fsY : List Value) (aH : Nat) (fsHe : List Value) (qP : Nat) (gP : Nat → Option Nat) (kP : ClassId) (ap : Nat) (fsp : List Value) (aSh : Nat) (fss : List Value) (p0 : Int32) (k_fsX : fh fsX 18 [(2, .ref aH), (4, .ref qP)]) (k_fsY : fh fsY 18 [(0, .int 0)]) (k_fsHe : fh fsHe 14 [(0, .ref aY), (11, .int 0)]) (k_fsp : fh fsp 21 [(0, .int 0), (20, .ref aSh)]) (k_fss : fh fss 18 []) (hst : l.stackTraces = false) (hg : gP p0.toNatClampNeg = some ap) : vx_Met l yX11_take w_x_take ({ frames := 8, cells := 1, slots := 6, locals := 160 }) (va_Pc [.ref aX, .int p0] (fun U => U.heap.size = sz ∧ Zz (va_A [(aX, .inr (14, fsX)), (aY, .inr (13, fsY)), (aH, .inr (5, fsHe)), (qP, .inl (kP, 4, .inr (.inr (.inr (.inr gP))))), (ap, .inr (8, fsp)), (aSh, .inr (11, fss))] sz) U ∧ Wd dC dI [(kP, .object "HeapWorks$Picture")] (fun _ => True) [(aX, .inr (14, fsX)), (aY, .inr (13, fsY)), (aH, .inr (5, fsHe)), (qP, .inl (kP, 4, .inr (.inr (.inr (.inr gP))))), (ap, .inr (8, fsp)), (aSh, .inr (11, fss))] U)) (va_Qi (fun (r : Int32) (u : List Value × List Value) => (¬ p0 < 0 ∧ ¬ 4 ≤ p0 ∧ r = 0 ∧ ow fsp (u.1) 21 [16, 11, 0] [(16, .int 0), (11, .int 0), (0, .int 0), (20, .ref aSh), (20, .ref aSh), (20, .ref aSh)] ∧ ow fss (u.2) 18 [1] [(1, .int 0)])) (fun (u : List Value × List Value) t => Wd dC dI [(kP, .object "HeapWorks$Picture")] (va_A [(aX, .inr (14, fsX)), (aY, .inr (13, fsY)), (aH, .inr (5, fsHe)), (qP, .inl (kP, 4, .inr (.inr (.inr (.inr gP))))), (ap, .inr (8, fsp)), (aSh, .inr (11, fss))] sz) [(aX, .inr (14, fsX)), (aY, .inr (13, fsY)), (aH, .inr (5, fsHe)), (qP, .inl (kP, 4, .inr (.inr (.inr (.inr gP))))), (ap, .inr (8, (u.1))), (aSh, .inr (11, (u.2)))] t) (va_A [(aX, .inr (14, fsX)), (aY, .inr (13, fsY)), (aH, .inr (5, fsHe)), (qP, .inl (kP, 4, .inr (.inr (.inr (.inr gP))))), (ap, .inr (8, fsp)), (aSh, .inr (11, fss))] sz)) (vx_X (fun _ : Unit => True) (fun E _ _ => (E = "java/lang/IndexOutOfBoundsException" ∧ p0 < 0) ∨ (E = "java/lang/IndexOutOfBoundsException" ∧ ¬ p0 < 0 ∧ 4 ≤ p0)) (va_A [(aX, .inr (14, fsX)), (aY, .inr (13, fsY)), (aH, .inr (5, fsHe)), (qP, .inl (kP, 4, .inr (.inr (.inr (.inr gP))))), (ap, .inr (8, fsp)), (aSh, .inr (11, fss))] sz)) 1 6 (va_A [(aX, .inr (14, fsX)), (aY, .inr (13, fsY)), (aH, .inr (5, fsHe)), (qP, .inl (kP, 4, .inr (.inr (.inr (.inr gP))))), (ap, .inr (8, fsp)), (aSh, .inr (11, fss))] sz) := by
  refine vx_ofW (cc := cX11_take) (maxL := 2) (ret := (some .int)) (by decide) rfl ?_
  intro p e s m args below meth c s₁ B hml htab hv
  obtain ⟨rfl, hsz, hZ, hP, hK, hD0⟩ := hv
  have hx := B.exec
  have hb := B.bytes
  have hr := B.returns
  have hts := atoms_spec (ws := w_x_take) B.pre
  have hown : s.vm.findClass RX11 = some m.cls := findClass_of_methodNamed B.named
  have hlocks := B.notSynchronized
  subst hsz
  have hD := hD0.self (sz := s.heap.size)
  generalize hAe : va_A [(aX, .inr (14, fsX)), (aY, .inr (13, fsY)), (aH, .inr (5, fsHe)), (qP, .inl (kP, 4, .inr (.inr (.inr (.inr gP))))), (ap, .inr (8, fsp)), (aSh, .inr (11, fss))] s.heap.size = A at hD hZ ⊢
  have hA : ∀ q : Nat, s.heap.size ≤ q → A q := fun q h => by rw [← hAe]; exact Or.inr h
  have hS : va_S A s.heap s.heap [] := va_S.rf
  have hl := lv_entry ([.ref aX, .int p0]) (n := 2) (Nat.le_of_ble_eq_true rfl)
  rw [lg_entry_eq]
  generalize (lg_sl ([.ref aX, .int p0]) ++ List.replicate (2 - (lg_sl ([.ref aX, .int p0])).length) Slot.unset).toArray = ls at hl ⊢
  have hl : lv_has ls 2 [(0, .ref aX), (1, .int p0)] := hl
  have o_fsX := ow_0 k_fsX
  have o_fsY := ow_0 k_fsY
  have o_fsHe := ow_0 k_fsHe
  have o_fsp := ow_0 k_fsp
  have o_fss := ow_0 k_fss
  refine lv_iload_n hx hb dX11_take_0 rfl (lv_at hl 1 rfl) ?_
  have hPc := hP.sub (ws' := []) [] rfl
  have hDc := hD.sub (ws' := []) [] (by decide) rfl
  have hKc := hK.sub (tys' := []) [] rfl
  have hFc := va_free (wc := []) hD hS hA [] rfl
  refine vx_callv (vx_runS (As := [.int p0]) (rest := []) ⟨hx, hb, hml, hown, hts⟩ (z_X11_needPicture l dC dI s.heap.size p0  hst ) (cwS 1 hts g_x_take_z_X11_needPicture_353 rfl rfl rfl (by decide +kernel) ⟨Nat.le_of_ble_eq_true rfl, Nat.le_of_ble_eq_true rfl⟩) ⟨fun a U g mk q => by obtain ⟨q0, q1, qZ, qP, qK, qD⟩ := q; exact ⟨q0, q1, Zz_call qZ, qP, va_K.moved (u := U) (U := U.calling g mk a) (Vm.Alike.refl U.vm) qK, qD⟩, fun U hU hW => ⟨rfl, by rw [hU], Zz_go hZ hS hFc hU hW, by rw [hU]; exact hPc, va_K.moved hW.alike hKc, hDc.weaken (fun _ _ _ _ => trivial)⟩⟩ rfl rfl hl.1 rfl (lv_room (Nat.le_of_ble_eq_true rfl)) dX11_take_1 ⟨Nat.le_of_ble_eq_true rfl, Nat.le_of_ble_eq_true rfl⟩) hS (fun q _ h => hFc q h) hFc (fun q _ h => hFc q h) (fun E ce q9 u t H1 locs ht hvm hpx hBX hz1 hk1 hS hce hcv hcl => ?_) (fun u t H1 locs ht hvm hw hB hz1 hk1 hS => ?_)
  · rcases hBX with ⟨rfl, c4524⟩ | ⟨rfl, c4525, c4526⟩
    · exact vx_out (fun x h => (htab x h).elim) hlocks hce hcv hcl (fun t9 ht9 _ => ⟨(), trivial, (Or.inl ⟨rfl, c4524⟩), hS.F ht9⟩) hS.2.2 (by decide) (by decide)
    · exact vx_out (fun x h => (htab x h).elim) hlocks hce hcv hcl (fun t9 ht9 _ => ⟨(), trivial, (Or.inr (⟨rfl, c4525, c4526⟩)), hS.F ht9⟩) hS.2.2 (by decide) (by decide)
  · skip
    obtain ⟨hP1, hK1, hD1⟩ := hB
    rw [ht] at hP1
    try dsimp only at hw
    obtain ⟨hP, hD⟩ := va_join (wr := [(aX, .inr (14, fsX)), (aY, .inr (13, fsY)), (aH, .inr (5, fsHe)), (qP, .inl (kP, 4, .inr (.inr (.inr (.inr gP))))), (ap, .inr (8, fsp)), (aSh, .inr (11, fss))]) (w1 := []) hP hD [] [0, 1, 2, 3, 4, 5] rfl rfl (by decide) (by decide) hk1 hFc hP1 hD1
    have hK := hK.sub (tys' := [(kP, .object "HeapWorks$Picture")]) [0] rfl
    generalize H1 = H at hP hS ⊢
    refine W.widen (k := 1) (n := 6) (by omega) (by omega) ?_
    have hP : va_P (dC, dI) vwCl [(aX, .inr (14, fsX)), (aY, .inr (13, fsY)), (aH, .inr (5, fsHe)), (qP, .inl (kP, 4, .inr (.inr (.inr (.inr gP))))), (ap, .inr (8, fsp)), (aSh, .inr (11, fss))] H := hP
    have hD : va_D A [(aX, .inr (14, fsX)), (aY, .inr (13, fsY)), (aH, .inr (5, fsHe)), (qP, .inl (kP, 4, .inr (.inr (.inr (.inr gP))))), (ap, .inr (8, fsp)), (aSh, .inr (11, fss))] := hD
    obtain ⟨c4527, c4528⟩ := hw
    refine lv_aload_n hx hb dX11_take_4 rfl (lv_at hl 0 rfl) ?_
    refine va_get (D := (dC, dI)) (ci := 14) (v := .ref qP) (C := RX11) (T := TX11) (N := 18) hx hb hts (in_x_take_X11) hown hK hP 0 rfl rfl 4 (by decide) (hts (.fieldLink RX11 41 "HeapWorks" "pictures" "[LHeapWorks$Picture;") (by decide +kernel)) (fun _ h9 => h9) (ow_at o_fsX 1 rfl) dX11_take_5 ?_
    refine lv_iload_n hx hb dX11_take_8 rfl (lv_at hl 1 rfl) ?_
    refine va_aldq hx hb hK hP 3 0 rfl rfl (by rw [vp_in_iff]; (try simp only [i_lt, i_le, i_eq, kc_0, kc_4] at c4527 c4528); omega) dX11_take_9 ?_
    refine W.eq (g2 := F0 m 10 ls (.ref ap :: [])) (by rw [hg]; rfl) ?_
    refine lv_aload_n hx hb dX11_take_10 rfl (lv_at hl 0 rfl) ?_
    refine va_get (D := (dC, dI)) (ci := 14) (v := .ref aH) (C := RX11) (T := TX11) (N := 18) hx hb hts (in_x_take_X11) hown hK hP 0 rfl rfl 2 (by decide) (hts (.fieldLink RX11 28 "HeapWorks" "heap" "LHeapWorks$Heap;") (by decide +kernel)) (fun _ h9 => h9) (ow_at o_fsX 0 rfl) dX11_take_11 ?_
    have hPc := hP.sub (ws' := [(aY, .inr (13, fsY)), (aH, .inr (5, fsHe)), (ap, .inr (8, fsp)), (aSh, .inr (11, fss))]) [1, 2, 4, 5] rfl
    have hDc := hD.sub (ws' := [(aY, .inr (13, fsY)), (aH, .inr (5, fsHe)), (ap, .inr (8, fsp)), (aSh, .inr (11, fss))]) [1, 2, 4, 5] (by decide) rfl
    have hKc := hK.sub (tys' := []) [] rfl
    have hFc := va_free (wc := [(aY, .inr (13, fsY)), (aH, .inr (5, fsHe)), (ap, .inr (8, fsp)), (aSh, .inr (11, fss))]) hD hS hA [1, 2, 4, 5] rfl
    refine va_callv (va_runV (As := [.ref aH]) (rest := []) ⟨hx, hb, hml, hown, hts⟩ (z_X5_takeFrom l dC dI H.size aY fsY aH fsHe ap fsp aSh fss (fh_sub o_fsY.2 [0] rfl) (fh_sub o_fsHe.2 [0, 1] rfl) (fh_sub o_fsp.2 [0, 1] rfl) (fh_sub o_fss.2 [] rfl) ) (cwV 1 hts g_x_take_z_X5_takeFrom_342 rfl rfl rfl (by decide +kernel) ⟨Nat.le_of_ble_eq_true rfl, Nat.le_of_ble_eq_true rfl⟩) ⟨fun a U g mk q => by obtain ⟨q0, q1, qP, qK, qD⟩ := q; exact ⟨q0, q1, qP, va_K.moved (u := U) (U := U.calling g mk a) (Vm.Alike.refl U.vm) qK, qD⟩, va_recv hK hP (ci := 8) (q0 := 4) rfl rfl, fun U hU hW => ⟨rfl, by rw [hU], by rw [hU]; exact hPc, va_K.moved hW.alike hKc, hDc.weaken (fun _ _ _ _ => trivial)⟩⟩ rfl rfl hl.1 rfl (lv_room (Nat.le_of_ble_eq_true rfl)) dX11_take_14 ⟨Nat.le_of_ble_eq_true rfl, Nat.le_of_ble_eq_true rfl⟩) hS (fun q _ h => hFc q h) hFc (fun u t H1 locs ht hvm hw hB hz1 hk1 hS => ?_)
    obtain ⟨s4542, s4543⟩ := u
    obtain ⟨hP1, hK1, hD1⟩ := hB
    rw [ht] at hP1
    try dsimp only at hw
    obtain ⟨hP, hD⟩ := va_join (wr := [(aX, .inr (14, fsX)), (qP, .inl (kP, 4, .inr (.inr (.inr (.inr gP)))))]) (w1 := [(aY, .inr (13, fsY)), (aH, .inr (5, fsHe)), (ap, .inr (8, s4542)), (aSh, .inr (11, s4543))]) hP hD [1, 2, 4, 5] [0, 3] rfl rfl (by decide) (by decide) hk1 hFc hP1 hD1
    have hK := hK.sub (tys' := [(kP, .object "HeapWorks$Picture")]) [0] rfl
    generalize H1 = H at hP hS ⊢
    have hP : va_P (dC, dI) vwCl [(aX, .inr (14, fsX)), (qP, .inl (kP, 4, .inr (.inr (.inr (.inr gP))))), (aY, .inr (13, fsY)), (aH, .inr (5, fsHe)), (ap, .inr (8, s4542)), (aSh, .inr (11, s4543))] H := hP
    have hD : va_D A [(aX, .inr (14, fsX)), (qP, .inl (kP, 4, .inr (.inr (.inr (.inr gP))))), (aY, .inr (13, fsY)), (aH, .inr (5, fsHe)), (ap, .inr (8, s4542)), (aSh, .inr (11, s4543))] := hD
    obtain ⟨o_s4542, o_s4543⟩ := hw
    have o_s4542 := ow_on o_fsp o_s4542 (l' := [(16, .int 0), (11, .int 0), (0, .int 0), (20, .ref aSh), (20, .ref aSh), (20, .ref aSh)]) (w' := [16, 11, 0]) rfl rfl
    have o_s4543 := ow_on o_fss o_s4543 (l' := [(1, .int 0)]) (w' := [1]) rfl rfl
    refine lv_aload_n hx hb dX11_take_17 rfl (lv_at hl 0 rfl) ?_
    refine va_get (D := (dC, dI)) (ci := 14) (v := .ref qP) (C := RX11) (T := TX11) (N := 18) hx hb hts (in_x_take_X11) hown hK hP 0 rfl rfl 4 (by decide) (hts (.fieldLink RX11 41 "HeapWorks" "pictures" "[LHeapWorks$Picture;") (by decide +kernel)) (fun _ h9 => h9) (ow_at o_fsX 1 rfl) dX11_take_18 ?_
    refine lv_iload_n hx hb dX11_take_21 rfl (lv_at hl 1 rfl) ?_
    refine va_aldq hx hb hK hP 1 0 rfl rfl (by rw [vp_in_iff]; (try simp only [i_lt, i_le, i_eq, kc_0, kc_4] at c4527 c4528); omega) dX11_take_22 ?_
    refine W.eq (g2 := F0 m 23 ls (.ref ap :: [])) (by rw [hg]; rfl) ?_
    refine va_get (D := (dC, dI)) (ci := 8) (v := .int 0) (C := RX5) (T := TX5) (N := 21) hx hb hts (in_x_take_X5) hown hK hP 4 rfl rfl 0 (by decide) (hts (.fieldLink RX11 356 "HeapWorks$Picture" "things" "I") (by decide +kernel)) (fun _ h9 => h9) (ow_at o_s4542 2 rfl) dX11_take_23 ?_
    have hP9 := hP.sub (ws' := [(aX, .inr (14, fsX)), (aY, .inr (13, fsY)), (aH, .inr (5, fsHe)), (qP, .inl (kP, 4, .inr (.inr (.inr (.inr gP))))), (ap, .inr (8, s4542)), (aSh, .inr (11, s4543))]) [0, 2, 3, 1, 4, 5] rfl
    have hD9 := hD.sub (ws' := [(aX, .inr (14, fsX)), (aY, .inr (13, fsY)), (aH, .inr (5, fsHe)), (qP, .inl (kP, 4, .inr (.inr (.inr (.inr gP))))), (ap, .inr (8, s4542)), (aSh, .inr (11, s4543))]) [0, 2, 3, 1, 4, 5] (by decide) rfl
    have hK9 := hK.sub (tys' := [(kP, .object "HeapWorks$Picture")]) [0] rfl
    refine vx_ret ?_
    refine W.widen (k := 1) (n := 6) (by decide) (by decide) ?_
    exact W.iret (v := 0) hx hb hr (fun t ht hW => ⟨⟨0, (s4542, s4543), rfl, ⟨c4527, c4528, rfl, o_s4542, o_s4543⟩, by rw [ht]; exact hP9, va_K.moved hW.alike hK9, hD9⟩, hS.F ht⟩) hS.2.2 dX11_take_26

def l_z_X11_isThing : List Cond := [.methodLink RX11 411 yX11_isPicture, .static yX11_isPicture, .initialized RX11, .fieldLink RX11 41 "HeapWorks" "pictures" "[LHeapWorks$Picture;", .fieldLink RX11 356 "HeapWorks$Picture" "things" "I", .code yX11_isPicture cX11_isPicture 1 (some .boolean)]
def w_z_X11_isThing : List Cond := .code yX11_isThing cX11_isThing 3 (some .boolean) :: (l_z_X11_isThing ++ ((wsX110 ++ wsX50)))
theorem in_z_X11_isThing_X11 : ∀ w ∈ wsX110, w ∈ w_z_X11_isThing := fun w h => List.mem_cons_of_mem _ (List.mem_append_right _ (List.mem_append_left _ h))
theorem in_z_X11_isThing_X5 : ∀ w ∈ wsX50, w ∈ w_z_X11_isThing := fun w h => List.mem_cons_of_mem _ (List.mem_append_right _ (List.mem_append_right _ (h)))
theorem g_z_X11_isThing_z_X11_isPicture_411 : GoodIn w_z_X11_isThing (wsS RX11 411 yX11_isPicture w_z_X11_isPicture) := goodIn_app (goodIn_sub (by decide +kernel) (by decide +kernel)) (goodIn_sub (by decide +kernel) (by decide +kernel))
set_option maxHeartbeats 4000000 in
set_option maxRecDepth 100000 in
theorem z_X11_isThing (l : Launch) (dC : Nat → ClassId) (dI : Nat → Nat → Nat) (sz : Nat) (Ad0 : Nat) (Fs0 : List Value) (Ad1 : Nat) (Fa0 : Nat → Option Nat) (Ka0 : ClassId) (Ad2 : Nat) (Fs1 : List Value) (Va0 : Int32) (Va1 : Int32) (k_Fs0 : fh Fs0 18 [(4, .ref Ad1)]) (k_Fs1 : fh Fs1 21 [(0, .int 0)]) (hg0 : Fa0 Va0.toNatClampNeg = some Ad2) : Met l yX11_isThing w_z_X11_isThing ({ frames := 1, cells := 0, slots := 0, locals := 20 }) (va_Pc [.ref Ad0, .int Va0, .int Va1] (fun U => U.heap.size = sz ∧ Wd dC dI [(Ka0, .object "HeapWorks$Picture")] (fun _ => True) [(Ad0, .inr (14, Fs0)), (Ad1, .inl (Ka0, 4, .inr (.inr (.inr (.inr Fa0))))), (Ad2, .inr (8, Fs1))] U)) (va_Qi (fun (r : Int32) (u : Unit) => (Va0 < 0 ∧ r = 0) ∨ (¬ Va0 < 0 ∧ 4 ≤ Va0 ∧ r = 0) ∨ (¬ Va0 < 0 ∧ ¬ 4 ≤ Va0 ∧ Va1 < 0 ∧ r = 0) ∨ (¬ Va0 < 0 ∧ ¬ 4 ≤ Va0 ∧ ¬ Va1 < 0 ∧ 0 ≤ Va1 ∧ r = 0)) (fun (u : Unit) t => Wd dC dI [(Ka0, .object "HeapWorks$Picture")] (va_A [(Ad0, .inr (14, Fs0)), (Ad1, .inl (Ka0, 4, .inr (.inr (.inr (.inr Fa0))))), (Ad2, .inr (8, Fs1))] sz) [(Ad0, .inr (14, Fs0)), (Ad1, .inl (Ka0, 4, .inr (.inr (.inr (.inr Fa0))))), (Ad2, .inr (8, Fs1))] t) (va_A [(Ad0, .inr (14, Fs0)), (Ad1, .inl (Ka0, 4, .inr (.inr (.inr (.inr Fa0))))), (Ad2, .inr (8, Fs1))] sz))  0 0 (va_A [(Ad0, .inr (14, Fs0)), (Ad1, .inl (Ka0, 4, .inr (.inr (.inr (.inr Fa0))))), (Ad2, .inr (8, Fs1))] sz) := by
  refine Met.ofW (cc := cX11_isThing) (maxL := 3) (ret := (some .boolean)) (by decide) rfl ?_
  intro p e s m args below meth c s₁ B hml hv
  obtain ⟨rfl, hsz, hP, hK, hD0⟩ := hv
  have hx := B.exec
  have hb := B.bytes
  have hr := B.returns
  have hts := atoms_spec (ws := w_z_X11_isThing) B.pre
  have hown : s.vm.findClass RX11 = some m.cls := findClass_of_methodNamed B.named
  have hlocks := B.notSynchronized
  subst hsz
  have hD := hD0.self (sz := s.heap.size)
  generalize hAe : va_A [(Ad0, .inr (14, Fs0)), (Ad1, .inl (Ka0, 4, .inr (.inr (.inr (.inr Fa0))))), (Ad2, .inr (8, Fs1))] s.heap.size = A at hD ⊢
  have hA : ∀ q : Nat, s.heap.size ≤ q → A q := fun q h => by rw [← hAe]; exact Or.inr h
  have hS : va_S A s.heap s.heap [] := va_S.rf
  have hl := lv_entry ([.ref Ad0, .int Va0, .int Va1]) (n := 3) (Nat.le_of_ble_eq_true rfl)
  rw [lg_entry_eq]
  generalize (lg_sl ([.ref Ad0, .int Va0, .int Va1]) ++ List.replicate (3 - (lg_sl ([.ref Ad0, .int Va0, .int Va1])).length) Slot.unset).toArray = ls at hl ⊢
  have hl : lv_has ls 3 [(0, .ref Ad0), (1, .int Va0), (2, .int Va1)] := hl
  have o_Fs0 := ow_0 k_Fs0
  have o_Fs1 := ow_0 k_Fs1
  refine lv_iload_n hx hb dX11_isThing_0 rfl (lv_at hl 1 rfl) ?_
  have hPc := hP.sub (ws' := []) [] rfl
  have hDc := hD.sub (ws' := []) [] (by decide) rfl
  have hKc := hK.sub (tys' := []) [] rfl
  have hFc := va_free (wc := []) hD hS hA [] rfl
  refine va_calli (va_runS (As := [.int Va0]) (rest := []) ⟨hx, hb, hml, hown, hts⟩ (z_X11_isPicture l dC dI s.heap.size Va0  ) (cwS 1 hts g_z_X11_isThing_z_X11_isPicture_411 rfl rfl rfl (by decide +kernel) ⟨Nat.le_of_ble_eq_true rfl, Nat.le_of_ble_eq_true rfl⟩) ⟨fun a U g mk q => by obtain ⟨q0, q1, qP, qK, qD⟩ := q; exact ⟨q0, q1, qP, va_K.moved (u := U) (U := U.calling g mk a) (Vm.Alike.refl U.vm) qK, qD⟩, fun U hU hW => ⟨rfl, by rw [hU], by rw [hU]; exact hPc, va_K.moved hW.alike hKc, hDc.weaken (fun _ _ _ _ => trivial)⟩⟩ rfl rfl hl.1 rfl (lv_room (Nat.le_of_ble_eq_true rfl)) dX11_isThing_1 ⟨Nat.le_of_ble_eq_true rfl, Nat.le_of_ble_eq_true rfl⟩) hS (fun q _ h => hFc q h) hFc (fun r4562 u t H1 locs ht hvm hw hB hz1 hk1 hS => ?_)
  obtain ⟨hP1, hK1, hD1⟩ := hB
  rw [ht] at hP1
  try dsimp only at hw
  obtain ⟨hP, hD⟩ := va_join (wr := [(Ad0, .inr (14, Fs0)), (Ad1, .inl (Ka0, 4, .inr (.inr (.inr (.inr Fa0))))), (Ad2, .inr (8, Fs1))]) (w1 := []) hP hD [] [0, 1, 2] rfl rfl (by decide) (by decide) hk1 hFc hP1 hD1
  have hK := hK.sub (tys' := [(Ka0, .object "HeapWorks$Picture")]) [0] rfl
  generalize H1 = H at hP hS ⊢
  have hP : va_P (dC, dI) vwCl [(Ad0, .inr (14, Fs0)), (Ad1, .inl (Ka0, 4, .inr (.inr (.inr (.inr Fa0))))), (Ad2, .inr (8, Fs1))] H := hP
  have hD : va_D A [(Ad0, .inr (14, Fs0)), (Ad1, .inl (Ka0, 4, .inr (.inr (.inr (.inr Fa0))))), (Ad2, .inr (8, Fs1))] := hD
  rcases hw with ⟨c4563, er4564⟩ | ⟨c4565, c4566, er4567⟩ | ⟨c4568, c4569, er4570⟩
  · skip
    subst er4564
    refine lv_if_eq (tgt := 28) hx hb dX11_isThing_4 (by decide) (fun c4571 => ?_) (fun c4571 => absurd c4571 (by decide))
    refine lv_iconst (v := 0) hx hb dX11_isThing_28 (by decide) ?_
    have hP9 := hP.sub (ws' := [(Ad0, .inr (14, Fs0)), (Ad1, .inl (Ka0, 4, .inr (.inr (.inr (.inr Fa0))))), (Ad2, .inr (8, Fs1))]) [0, 1, 2] rfl
    have hD9 := hD.sub (ws' := [(Ad0, .inr (14, Fs0)), (Ad1, .inl (Ka0, 4, .inr (.inr (.inr (.inr Fa0))))), (Ad2, .inr (8, Fs1))]) [0, 1, 2] (by decide) rfl
    have hK9 := hK.sub (tys' := [(Ka0, .object "HeapWorks$Picture")]) [0] rfl
    exact W.zret (v := 0) hx hb hr rfl (fun t ht hW => ⟨⟨0, (), rfl, (Or.inl ⟨c4563, rfl⟩), by rw [ht]; exact hP9, va_K.moved hW.alike hK9, hD9⟩, hS.F ht⟩) hS.2.2 dX11_isThing_29
  · skip
    subst er4567
    refine lv_if_eq (tgt := 28) hx hb dX11_isThing_4 (by decide) (fun c4572 => ?_) (fun c4572 => absurd c4572 (by decide))
    refine lv_iconst (v := 0) hx hb dX11_isThing_28 (by decide) ?_
    have hP9 := hP.sub (ws' := [(Ad0, .inr (14, Fs0)), (Ad1, .inl (Ka0, 4, .inr (.inr (.inr (.inr Fa0))))), (Ad2, .inr (8, Fs1))]) [0, 1, 2] rfl
    have hD9 := hD.sub (ws' := [(Ad0, .inr (14, Fs0)), (Ad1, .inl (Ka0, 4, .inr (.inr (.inr (.inr Fa0))))), (Ad2, .inr (8, Fs1))]) [0, 1, 2] (by decide) rfl
    have hK9 := hK.sub (tys' := [(Ka0, .object "HeapWorks$Picture")]) [0] rfl
    exact W.zret (v := 0) hx hb hr rfl (fun t ht hW => ⟨⟨0, (), rfl, (Or.inr (Or.inl ⟨c4565, c4566, rfl⟩)), by rw [ht]; exact hP9, va_K.moved hW.alike hK9, hD9⟩, hS.F ht⟩) hS.2.2 dX11_isThing_29
  · skip
    subst er4570
    refine lv_if_eq (tgt := 28) hx hb dX11_isThing_4 (by decide) (fun c4573 => absurd c4573 (by decide)) (fun c4573 => ?_)
    refine lv_iload_n hx hb dX11_isThing_7 rfl (lv_at hl 2 rfl) ?_
    refine lv_if_lt (tgt := 28) hx hb dX11_isThing_8 (by decide) (fun c4574 => ?_) (fun c4574 => ?_)
    · skip
      refine lv_iconst (v := 0) hx hb dX11_isThing_28 (by decide) ?_
      have hP9 := hP.sub (ws' := [(Ad0, .inr (14, Fs0)), (Ad1, .inl (Ka0, 4, .inr (.inr (.inr (.inr Fa0))))), (Ad2, .inr (8, Fs1))]) [0, 1, 2] rfl
      have hD9 := hD.sub (ws' := [(Ad0, .inr (14, Fs0)), (Ad1, .inl (Ka0, 4, .inr (.inr (.inr (.inr Fa0))))), (Ad2, .inr (8, Fs1))]) [0, 1, 2] (by decide) rfl
      have hK9 := hK.sub (tys' := [(Ka0, .object "HeapWorks$Picture")]) [0] rfl
      exact W.zret (v := 0) hx hb hr rfl (fun t ht hW => ⟨⟨0, (), rfl, (Or.inr (Or.inr (Or.inl ⟨c4568, c4569, c4574, rfl⟩))), by rw [ht]; exact hP9, va_K.moved hW.alike hK9, hD9⟩, hS.F ht⟩) hS.2.2 dX11_isThing_29
    · skip
      refine lv_iload_n hx hb dX11_isThing_11 rfl (lv_at hl 2 rfl) ?_
      refine lv_aload_n hx hb dX11_isThing_12 rfl (lv_at hl 0 rfl) ?_
      refine va_get (D := (dC, dI)) (ci := 14) (v := .ref Ad1) (C := RX11) (T := TX11) (N := 18) hx hb hts (in_z_X11_isThing_X11) hown hK hP 0 rfl rfl 4 (by decide) (hts (.fieldLink RX11 41 "HeapWorks" "pictures" "[LHeapWorks$Picture;") (by decide +kernel)) (fun _ h9 => h9) (ow_at o_Fs0 0 rfl) dX11_isThing_13 ?_
      refine lv_iload_n hx hb dX11_isThing_16 rfl (lv_at hl 1 rfl) ?_
      refine va_aldq hx hb hK hP 1 0 rfl rfl (by rw [vp_in_iff]; (try simp only [i_lt, i_le, i_eq, kc_0, kc_4] at c4568 c4569); omega) dX11_isThing_17 ?_
      refine W.eq (g2 := F0 m 18 ls (.ref Ad2 :: [.int Va1])) (by rw [hg0]; rfl) ?_
      refine va_get (D := (dC, dI)) (ci := 8) (v := .int 0) (C := RX5) (T := TX5) (N := 21) hx hb hts (in_z_X11_isThing_X5) hown hK hP 2 rfl rfl 0 (by decide) (hts (.fieldLink RX11 356 "HeapWorks$Picture" "things" "I") (by decide +kernel)) (fun _ h9 => h9) (ow_at o_Fs1 0 rfl) dX11_isThing_18 ?_
      refine lv_icmp_ge (tgt := 28) hx hb dX11_isThing_21 (by decide) (fun c4575 => ?_) (fun c4575 => (by exfalso; have bd_Va1 := i_bd Va1; (try simp only [i_lt, i_le, i_eq, kc_0] at c4574 c4575); omega))
      refine lv_iconst (v := 0) hx hb dX11_isThing_28 (by decide) ?_
      have hP9 := hP.sub (ws' := [(Ad0, .inr (14, Fs0)), (Ad1, .inl (Ka0, 4, .inr (.inr (.inr (.inr Fa0))))), (Ad2, .inr (8, Fs1))]) [0, 1, 2] rfl
      have hD9 := hD.sub (ws' := [(Ad0, .inr (14, Fs0)), (Ad1, .inl (Ka0, 4, .inr (.inr (.inr (.inr Fa0))))), (Ad2, .inr (8, Fs1))]) [0, 1, 2] (by decide) rfl
      have hK9 := hK.sub (tys' := [(Ka0, .object "HeapWorks$Picture")]) [0] rfl
      exact W.zret (v := 0) hx hb hr rfl (fun t ht hW => ⟨⟨0, (), rfl, (Or.inr (Or.inr (Or.inr (⟨c4568, c4569, c4574, c4575, rfl⟩)))), by rw [ht]; exact hP9, va_K.moved hW.alike hK9, hD9⟩, hS.F ht⟩) hS.2.2 dX11_isThing_29

def l_x_thing : List Cond := [.methodLink RX11 359 yX11_isThing, .instanceMethod yX11_isThing, .selects RX11 yX11_isThing yX11_isThing, .initialized RX11, .code yX11_isThing cX11_isThing 3 (some .boolean), .methodLink RX11 411 yX11_isPicture, .static yX11_isPicture, .fieldLink RX11 41 "HeapWorks" "pictures" "[LHeapWorks$Picture;", .fieldLink RX11 356 "HeapWorks$Picture" "things" "I", .code yX11_isPicture cX11_isPicture 1 (some .boolean)]
def w_x_thing : List Cond := .code yX11_thing cX11_thing 5 (some .int) :: (l_x_thing ++ ((wsX110 ++ wsX50)))
theorem in_x_thing_X11 : ∀ w ∈ wsX110, w ∈ w_x_thing := fun w h => List.mem_cons_of_mem _ (List.mem_append_right _ (List.mem_append_left _ h))
theorem in_x_thing_X5 : ∀ w ∈ wsX50, w ∈ w_x_thing := fun w h => List.mem_cons_of_mem _ (List.mem_append_right _ (List.mem_append_right _ (h)))
theorem g_x_thing_z_X11_isThing_359 : GoodIn w_x_thing (wsV RX11 359 RX11 yX11_isThing w_z_X11_isThing) := goodIn_app (goodIn_sub (by decide +kernel) (by decide +kernel)) (goodIn_ca (goodIn_sub (by decide +kernel) (by decide +kernel)) (goodIn_app (goodIn_in in_x_thing_X11 gd_X11) (goodIn_in in_x_thing_X5 gd_X5)))
set_option maxHeartbeats 4000000 in
set_option maxRecDepth 100000 in
theorem x_thing (l : Launch) (dC : Nat → ClassId) (dI : Nat → Nat → Nat) (sz : Nat) (aX : Nat) (fsX : List Value) (qP : Nat) (gP : Nat → Option Nat) (kP : ClassId) (ap : Nat) (fsp : List Value) (p0 : Int32) (p1 : Int32) (p2 : Int32) (k_fsX : fh fsX 18 [(4, .ref qP)]) (k_fsp : fh fsp 21 [(0, .int 0)]) (hg : gP p0.toNatClampNeg = some ap) : Met l yX11_thing w_x_thing ({ frames := 2, cells := 0, slots := 0, locals := 42 }) (va_Pc [.ref aX, .int p0, .int p1, .int p2] (fun U => U.heap.size = sz ∧ Wd dC dI [(kP, .object "HeapWorks$Picture")] (fun _ => True) [(aX, .inr (14, fsX)), (qP, .inl (kP, 4, .inr (.inr (.inr (.inr gP))))), (ap, .inr (8, fsp))] U)) (va_Qi (fun (r : Int32) (u : Unit) => (p0 < 0 ∧ r = (-1)) ∨ (¬ p0 < 0 ∧ 4 ≤ p0 ∧ r = (-1)) ∨ (¬ p0 < 0 ∧ ¬ 4 ≤ p0 ∧ p1 < 0 ∧ r = (-1)) ∨ (¬ p0 < 0 ∧ ¬ 4 ≤ p0 ∧ ¬ p1 < 0 ∧ 0 ≤ p1 ∧ r = (-1))) (fun (u : Unit) t => Wd dC dI [(kP, .object "HeapWorks$Picture")] (va_A [(aX, .inr (14, fsX)), (qP, .inl (kP, 4, .inr (.inr (.inr (.inr gP))))), (ap, .inr (8, fsp))] sz) [(aX, .inr (14, fsX)), (qP, .inl (kP, 4, .inr (.inr (.inr (.inr gP))))), (ap, .inr (8, fsp))] t) (va_A [(aX, .inr (14, fsX)), (qP, .inl (kP, 4, .inr (.inr (.inr (.inr gP))))), (ap, .inr (8, fsp))] sz))  0 0 (va_A [(aX, .inr (14, fsX)), (qP, .inl (kP, 4, .inr (.inr (.inr (.inr gP))))), (ap, .inr (8, fsp))] sz) := by
  refine Met.ofW (cc := cX11_thing) (maxL := 5) (ret := (some .int)) (by decide) rfl ?_
  intro p e s m args below meth c s₁ B hml hv
  obtain ⟨rfl, hsz, hP, hK, hD0⟩ := hv
  have hx := B.exec
  have hb := B.bytes
  have hr := B.returns
  have hts := atoms_spec (ws := w_x_thing) B.pre
  have hown : s.vm.findClass RX11 = some m.cls := findClass_of_methodNamed B.named
  have hlocks := B.notSynchronized
  subst hsz
  have hD := hD0.self (sz := s.heap.size)
  generalize hAe : va_A [(aX, .inr (14, fsX)), (qP, .inl (kP, 4, .inr (.inr (.inr (.inr gP))))), (ap, .inr (8, fsp))] s.heap.size = A at hD ⊢
  have hA : ∀ q : Nat, s.heap.size ≤ q → A q := fun q h => by rw [← hAe]; exact Or.inr h
  have hS : va_S A s.heap s.heap [] := va_S.rf
  have hl := lv_entry ([.ref aX, .int p0, .int p1, .int p2]) (n := 5) (Nat.le_of_ble_eq_true rfl)
  rw [lg_entry_eq]
  generalize (lg_sl ([.ref aX, .int p0, .int p1, .int p2]) ++ List.replicate (5 - (lg_sl ([.ref aX, .int p0, .int p1, .int p2])).length) Slot.unset).toArray = ls at hl ⊢
  have hl : lv_has ls 5 [(0, .ref aX), (1, .int p0), (2, .int p1), (3, .int p2)] := hl
  have o_fsX := ow_0 k_fsX
  have o_fsp := ow_0 k_fsp
  refine lv_aload_n hx hb dX11_thing_0 rfl (lv_at hl 0 rfl) ?_
  refine lv_iload_n hx hb dX11_thing_1 rfl (lv_at hl 1 rfl) ?_
  refine lv_iload_n hx hb dX11_thing_2 rfl (lv_at hl 2 rfl) ?_
  have hPc := hP.sub (ws' := [(aX, .inr (14, fsX)), (qP, .inl (kP, 4, .inr (.inr (.inr (.inr gP))))), (ap, .inr (8, fsp))]) [0, 1, 2] rfl
  have hDc := hD.sub (ws' := [(aX, .inr (14, fsX)), (qP, .inl (kP, 4, .inr (.inr (.inr (.inr gP))))), (ap, .inr (8, fsp))]) [0, 1, 2] (by decide) rfl
  have hKc := hK.sub (tys' := [(kP, .object "HeapWorks$Picture")]) [0] rfl
  have hFc := va_free (wc := [(aX, .inr (14, fsX)), (qP, .inl (kP, 4, .inr (.inr (.inr (.inr gP))))), (ap, .inr (8, fsp))]) hD hS hA [0, 1, 2] rfl
  refine va_calli (va_runV (As := [.int p0, .int p1]) (rest := []) ⟨hx, hb, hml, hown, hts⟩ (z_X11_isThing l dC dI s.heap.size aX fsX qP gP kP ap fsp p0 p1 (fh_sub o_fsX.2 [0] rfl) (fh_sub o_fsp.2 [0] rfl) hg) (cwV 2 hts g_x_thing_z_X11_isThing_359 rfl rfl rfl (by decide +kernel) ⟨Nat.le_of_ble_eq_true rfl, Nat.le_of_ble_eq_true rfl⟩) ⟨fun a U g mk q => by obtain ⟨q0, q1, qP, qK, qD⟩ := q; exact ⟨q0, q1, qP, va_K.moved (u := U) (U := U.calling g mk a) (Vm.Alike.refl U.vm) qK, qD⟩, va_recv hK hP (ci := 14) (q0 := 0) rfl rfl, fun U hU hW => ⟨rfl, by rw [hU], by rw [hU]; exact hPc, va_K.moved hW.alike hKc, hDc.weaken (fun _ _ _ _ => trivial)⟩⟩ rfl rfl hl.1 rfl (lv_room (Nat.le_of_ble_eq_true rfl)) dX11_thing_3 ⟨Nat.le_of_ble_eq_true rfl, Nat.le_of_ble_eq_true rfl⟩) hS (fun q _ h => hFc q h) hFc (fun r4611 u t H1 locs ht hvm hw hB hz1 hk1 hS => ?_)
  obtain ⟨hP1, hK1, hD1⟩ := hB
  rw [ht] at hP1
  try dsimp only at hw
  obtain ⟨hP, hD⟩ := va_join (wr := []) (w1 := [(aX, .inr (14, fsX)), (qP, .inl (kP, 4, .inr (.inr (.inr (.inr gP))))), (ap, .inr (8, fsp))]) hP hD [0, 1, 2] [] rfl rfl (by decide) (by decide) hk1 hFc hP1 hD1
  have hK := hK.sub (tys' := [(kP, .object "HeapWorks$Picture")]) [0] rfl
  generalize H1 = H at hP hS ⊢
  have hP : va_P (dC, dI) vwCl [(aX, .inr (14, fsX)), (qP, .inl (kP, 4, .inr (.inr (.inr (.inr gP))))), (ap, .inr (8, fsp))] H := hP
  have hD : va_D A [(aX, .inr (14, fsX)), (qP, .inl (kP, 4, .inr (.inr (.inr (.inr gP))))), (ap, .inr (8, fsp))] := hD
  rcases hw with ⟨c4612, er4613⟩ | ⟨c4614, c4615, er4616⟩ | ⟨c4617, c4618, c4619, er4620⟩ | ⟨c4621, c4622, c4623, c4624, er4625⟩
  · skip
    subst er4613
    refine lv_if_ne (tgt := 11) hx hb dX11_thing_6 (by decide) (fun c4626 => absurd c4626 (by decide)) (fun c4626 => ?_)
    refine lv_iconst (v := (-1)) hx hb dX11_thing_9 (by decide) ?_
    have hP9 := hP.sub (ws' := [(aX, .inr (14, fsX)), (qP, .inl (kP, 4, .inr (.inr (.inr (.inr gP))))), (ap, .inr (8, fsp))]) [0, 1, 2] rfl
    have hD9 := hD.sub (ws' := [(aX, .inr (14, fsX)), (qP, .inl (kP, 4, .inr (.inr (.inr (.inr gP))))), (ap, .inr (8, fsp))]) [0, 1, 2] (by decide) rfl
    have hK9 := hK.sub (tys' := [(kP, .object "HeapWorks$Picture")]) [0] rfl
    exact W.iret (v := (-1)) hx hb hr (fun t ht hW => ⟨⟨(-1), (), rfl, (Or.inl ⟨c4612, rfl⟩), by rw [ht]; exact hP9, va_K.moved hW.alike hK9, hD9⟩, hS.F ht⟩) hS.2.2 dX11_thing_10
  · skip
    subst er4616
    refine lv_if_ne (tgt := 11) hx hb dX11_thing_6 (by decide) (fun c4627 => absurd c4627 (by decide)) (fun c4627 => ?_)
    refine lv_iconst (v := (-1)) hx hb dX11_thing_9 (by decide) ?_
    have hP9 := hP.sub (ws' := [(aX, .inr (14, fsX)), (qP, .inl (kP, 4, .inr (.inr (.inr (.inr gP))))), (ap, .inr (8, fsp))]) [0, 1, 2] rfl
    have hD9 := hD.sub (ws' := [(aX, .inr (14, fsX)), (qP, .inl (kP, 4, .inr (.inr (.inr (.inr gP))))), (ap, .inr (8, fsp))]) [0, 1, 2] (by decide) rfl
    have hK9 := hK.sub (tys' := [(kP, .object "HeapWorks$Picture")]) [0] rfl
    exact W.iret (v := (-1)) hx hb hr (fun t ht hW => ⟨⟨(-1), (), rfl, (Or.inr (Or.inl ⟨c4614, c4615, rfl⟩)), by rw [ht]; exact hP9, va_K.moved hW.alike hK9, hD9⟩, hS.F ht⟩) hS.2.2 dX11_thing_10
  · skip
    subst er4620
    refine lv_if_ne (tgt := 11) hx hb dX11_thing_6 (by decide) (fun c4628 => absurd c4628 (by decide)) (fun c4628 => ?_)
    refine lv_iconst (v := (-1)) hx hb dX11_thing_9 (by decide) ?_
    have hP9 := hP.sub (ws' := [(aX, .inr (14, fsX)), (qP, .inl (kP, 4, .inr (.inr (.inr (.inr gP))))), (ap, .inr (8, fsp))]) [0, 1, 2] rfl
    have hD9 := hD.sub (ws' := [(aX, .inr (14, fsX)), (qP, .inl (kP, 4, .inr (.inr (.inr (.inr gP))))), (ap, .inr (8, fsp))]) [0, 1, 2] (by decide) rfl
    have hK9 := hK.sub (tys' := [(kP, .object "HeapWorks$Picture")]) [0] rfl
    exact W.iret (v := (-1)) hx hb hr (fun t ht hW => ⟨⟨(-1), (), rfl, (Or.inr (Or.inr (Or.inl ⟨c4617, c4618, c4619, rfl⟩))), by rw [ht]; exact hP9, va_K.moved hW.alike hK9, hD9⟩, hS.F ht⟩) hS.2.2 dX11_thing_10
  · skip
    subst er4625
    refine lv_if_ne (tgt := 11) hx hb dX11_thing_6 (by decide) (fun c4629 => absurd c4629 (by decide)) (fun c4629 => ?_)
    refine lv_iconst (v := (-1)) hx hb dX11_thing_9 (by decide) ?_
    have hP9 := hP.sub (ws' := [(aX, .inr (14, fsX)), (qP, .inl (kP, 4, .inr (.inr (.inr (.inr gP))))), (ap, .inr (8, fsp))]) [0, 1, 2] rfl
    have hD9 := hD.sub (ws' := [(aX, .inr (14, fsX)), (qP, .inl (kP, 4, .inr (.inr (.inr (.inr gP))))), (ap, .inr (8, fsp))]) [0, 1, 2] (by decide) rfl
    have hK9 := hK.sub (tys' := [(kP, .object "HeapWorks$Picture")]) [0] rfl
    exact W.iret (v := (-1)) hx hb hr (fun t ht hW => ⟨⟨(-1), (), rfl, (Or.inr (Or.inr (Or.inr (⟨c4621, c4622, c4623, c4624, rfl⟩)))), by rw [ht]; exact hP9, va_K.moved hW.alike hK9, hD9⟩, hS.F ht⟩) hS.2.2 dX11_thing_10

def l_x_slot : List Cond := [.methodLink RX11 359 yX11_isThing, .instanceMethod yX11_isThing, .selects RX11 yX11_isThing yX11_isThing, .initialized RX11, .classLink RX11 221 "java/util/NoSuchElementException", .initialized "java/util/NoSuchElementException", .code yX11_isThing cX11_isThing 3 (some .boolean), .methodLink RX11 411 yX11_isPicture, .static yX11_isPicture, .fieldLink RX11 41 "HeapWorks" "pictures" "[LHeapWorks$Picture;", .fieldLink RX11 356 "HeapWorks$Picture" "things" "I", .code yX11_isPicture cX11_isPicture 1 (some .boolean)]
def w_x_slot : List Cond := .code yX11_slot cX11_slot 4 (some .long) :: (l_x_slot ++ ((((vx_at0 RX11 223 "java/util/NoSuchElementException" ["java/lang/RuntimeException", "java/lang/Exception"]).filter goodWord) ++ (wsX110 ++ wsX50))))
theorem in_x_slot_at0_X11_223 : ∀ w ∈ ((vx_at0 RX11 223 "java/util/NoSuchElementException" ["java/lang/RuntimeException", "java/lang/Exception"]).filter goodWord), w ∈ w_x_slot := fun w h => List.mem_cons_of_mem _ (List.mem_append_right _ (List.mem_append_left _ h))
theorem in_x_slot_X11 : ∀ w ∈ wsX110, w ∈ w_x_slot := fun w h => List.mem_cons_of_mem _ (List.mem_append_right _ (List.mem_append_right _ (List.mem_append_left _ h)))
theorem in_x_slot_X5 : ∀ w ∈ wsX50, w ∈ w_x_slot := fun w h => List.mem_cons_of_mem _ (List.mem_append_right _ (List.mem_append_right _ (List.mem_append_right _ (h))))
theorem g_x_slot_z_X11_isThing_359 : GoodIn w_x_slot (wsV RX11 359 RX11 yX11_isThing w_z_X11_isThing) := goodIn_app (goodIn_sub (by decide +kernel) (by decide +kernel)) (goodIn_ca (goodIn_sub (by decide +kernel) (by decide +kernel)) (goodIn_app (goodIn_in in_x_slot_X11 gd_X11) (goodIn_in in_x_slot_X5 gd_X5)))
set_option maxHeartbeats 4000000 in
set_option maxRecDepth 100000 in
theorem x_slot (l : Launch) (dC : Nat → ClassId) (dI : Nat → Nat → Nat) (sz : Nat) (aX : Nat) (fsX : List Value) (qP : Nat) (gP : Nat → Option Nat) (kP : ClassId) (ap : Nat) (fsp : List Value) (p0 : Int32) (p1 : Int32) (p2 : Int32) (k_fsX : fh fsX 18 [(4, .ref qP)]) (k_fsp : fh fsp 21 [(0, .int 0)]) (hst : l.stackTraces = false) (hg : gP p0.toNatClampNeg = some ap) : vx_Met l yX11_slot w_x_slot ({ frames := 7, cells := 1, slots := 6, locals := 140 }) (va_Pc [.ref aX, .int p0, .int p1, .int p2] (fun U => U.heap.size = sz ∧ Zz (va_A [(aX, .inr (14, fsX)), (qP, .inl (kP, 4, .inr (.inr (.inr (.inr gP))))), (ap, .inr (8, fsp))] sz) U ∧ Wd dC dI [(kP, .object "HeapWorks$Picture")] (fun _ => True) [(aX, .inr (14, fsX)), (qP, .inl (kP, 4, .inr (.inr (.inr (.inr gP))))), (ap, .inr (8, fsp))] U)) (va_Ql (fun (r : Int64) (u : Unit) => False) (fun (u : Unit) t => Wd dC dI [(kP, .object "HeapWorks$Picture")] (va_A [(aX, .inr (14, fsX)), (qP, .inl (kP, 4, .inr (.inr (.inr (.inr gP))))), (ap, .inr (8, fsp))] sz) [(aX, .inr (14, fsX)), (qP, .inl (kP, 4, .inr (.inr (.inr (.inr gP))))), (ap, .inr (8, fsp))] t) (va_A [(aX, .inr (14, fsX)), (qP, .inl (kP, 4, .inr (.inr (.inr (.inr gP))))), (ap, .inr (8, fsp))] sz)) (vx_X (fun _ : Unit => True) (fun E _ _ => (E = "java/util/NoSuchElementException" ∧ p0 < 0) ∨ (E = "java/util/NoSuchElementException" ∧ ¬ p0 < 0 ∧ 4 ≤ p0) ∨ (E = "java/util/NoSuchElementException" ∧ ¬ p0 < 0 ∧ ¬ 4 ≤ p0 ∧ p1 < 0) ∨ (E = "java/util/NoSuchElementException" ∧ ¬ p0 < 0 ∧ ¬ 4 ≤ p0 ∧ ¬ p1 < 0 ∧ 0 ≤ p1)) (va_A [(aX, .inr (14, fsX)), (qP, .inl (kP, 4, .inr (.inr (.inr (.inr gP))))), (ap, .inr (8, fsp))] sz)) 1 6 (va_A [(aX, .inr (14, fsX)), (qP, .inl (kP, 4, .inr (.inr (.inr (.inr gP))))), (ap, .inr (8, fsp))] sz) := by
  refine vx_ofW (cc := cX11_slot) (maxL := 4) (ret := (some .long)) (by decide) rfl ?_
  intro p e s m args below meth c s₁ B hml htab hv
  obtain ⟨rfl, hsz, hZ, hP, hK, hD0⟩ := hv
  have hx := B.exec
  have hb := B.bytes
  have hr := B.returns
  have hts := atoms_spec (ws := w_x_slot) B.pre
  have hown : s.vm.findClass RX11 = some m.cls := findClass_of_methodNamed B.named
  have hlocks := B.notSynchronized
  subst hsz
  have hD := hD0.self (sz := s.heap.size)
  generalize hAe : va_A [(aX, .inr (14, fsX)), (qP, .inl (kP, 4, .inr (.inr (.inr (.inr gP))))), (ap, .inr (8, fsp))] s.heap.size = A at hD hZ ⊢
  have hA : ∀ q : Nat, s.heap.size ≤ q → A q := fun q h => by rw [← hAe]; exact Or.inr h
  have hS : va_S A s.heap s.heap [] := va_S.rf
  have hl := lv_entry ([.ref aX, .int p0, .int p1, .int p2]) (n := 4) (Nat.le_of_ble_eq_true rfl)
  rw [lg_entry_eq]
  generalize (lg_sl ([.ref aX, .int p0, .int p1, .int p2]) ++ List.replicate (4 - (lg_sl ([.ref aX, .int p0, .int p1, .int p2])).length) Slot.unset).toArray = ls at hl ⊢
  have hl : lv_has ls 4 [(0, .ref aX), (1, .int p0), (2, .int p1), (3, .int p2)] := hl
  have o_fsX := ow_0 k_fsX
  have o_fsp := ow_0 k_fsp
  refine lv_aload_n hx hb dX11_slot_0 rfl (lv_at hl 0 rfl) ?_
  refine lv_iload_n hx hb dX11_slot_1 rfl (lv_at hl 1 rfl) ?_
  refine lv_iload_n hx hb dX11_slot_2 rfl (lv_at hl 2 rfl) ?_
  have hPc := hP.sub (ws' := [(aX, .inr (14, fsX)), (qP, .inl (kP, 4, .inr (.inr (.inr (.inr gP))))), (ap, .inr (8, fsp))]) [0, 1, 2] rfl
  have hDc := hD.sub (ws' := [(aX, .inr (14, fsX)), (qP, .inl (kP, 4, .inr (.inr (.inr (.inr gP))))), (ap, .inr (8, fsp))]) [0, 1, 2] (by decide) rfl
  have hKc := hK.sub (tys' := [(kP, .object "HeapWorks$Picture")]) [0] rfl
  have hFc := va_free (wc := [(aX, .inr (14, fsX)), (qP, .inl (kP, 4, .inr (.inr (.inr (.inr gP))))), (ap, .inr (8, fsp))]) hD hS hA [0, 1, 2] rfl
  refine va_calli (va_runV (As := [.int p0, .int p1]) (rest := []) ⟨hx, hb, hml, hown, hts⟩ (z_X11_isThing l dC dI s.heap.size aX fsX qP gP kP ap fsp p0 p1 (fh_sub o_fsX.2 [0] rfl) (fh_sub o_fsp.2 [0] rfl) hg) (cwV 2 hts g_x_slot_z_X11_isThing_359 rfl rfl rfl (by decide +kernel) ⟨Nat.le_of_ble_eq_true rfl, Nat.le_of_ble_eq_true rfl⟩) ⟨fun a U g mk q => by obtain ⟨q0, q1, qP, qK, qD⟩ := q; exact ⟨q0, q1, qP, va_K.moved (u := U) (U := U.calling g mk a) (Vm.Alike.refl U.vm) qK, qD⟩, va_recv hK hP (ci := 14) (q0 := 0) rfl rfl, fun U hU hW => ⟨rfl, by rw [hU], by rw [hU]; exact hPc, va_K.moved hW.alike hKc, hDc.weaken (fun _ _ _ _ => trivial)⟩⟩ rfl rfl hl.1 rfl (lv_room (Nat.le_of_ble_eq_true rfl)) dX11_slot_3 ⟨Nat.le_of_ble_eq_true rfl, Nat.le_of_ble_eq_true rfl⟩) hS (fun q _ h => hFc q h) hFc (fun r4681 u t H1 locs ht hvm hw hB hz1 hk1 hS => ?_)
  obtain ⟨hP1, hK1, hD1⟩ := hB
  rw [ht] at hP1
  try dsimp only at hw
  obtain ⟨hP, hD⟩ := va_join (wr := []) (w1 := [(aX, .inr (14, fsX)), (qP, .inl (kP, 4, .inr (.inr (.inr (.inr gP))))), (ap, .inr (8, fsp))]) hP hD [0, 1, 2] [] rfl rfl (by decide) (by decide) hk1 hFc hP1 hD1
  have hK := hK.sub (tys' := [(kP, .object "HeapWorks$Picture")]) [0] rfl
  generalize H1 = H at hP hS ⊢
  have hP : va_P (dC, dI) vwCl [(aX, .inr (14, fsX)), (qP, .inl (kP, 4, .inr (.inr (.inr (.inr gP))))), (ap, .inr (8, fsp))] H := hP
  have hD : va_D A [(aX, .inr (14, fsX)), (qP, .inl (kP, 4, .inr (.inr (.inr (.inr gP))))), (ap, .inr (8, fsp))] := hD
  rcases hw with ⟨c4682, er4683⟩ | ⟨c4684, c4685, er4686⟩ | ⟨c4687, c4688, c4689, er4690⟩ | ⟨c4691, c4692, c4693, c4694, er4695⟩
  · skip
    subst er4683
    refine lv_if_eq (tgt := 42) hx hb dX11_slot_6 (by decide) (fun c4696 => ?_) (fun c4696 => absurd c4696 (by decide))
    exact vx_throw0 (names := ["java/lang/RuntimeException", "java/lang/Exception"]) hx hb hst hown (by decide +kernel) (by decide +kernel) (hts (.classLink RX11 221 "java/util/NoSuchElementException") (by decide +kernel)) (hts (.initialized "java/util/NoSuchElementException") (by decide +kernel)) (vx_hat (B := xB "java/util/NoSuchElementException") (fun w h => hts w (in_x_slot_at0_X11_223 w h)) (by decide +kernel) (Zz_xB hZ (by decide))) (by decide +kernel) hZ.1 hZ.2.1 hS (hl.1.trans hml.symm) dX11_slot_42 dX11_slot_45 dX11_slot_46 dX11_slot_49 (fun x h => (htab x h).elim) (by decide) (Nat.le_of_ble_eq_true rfl) (Nat.le_of_ble_eq_true rfl) (Nat.le_of_ble_eq_true rfl) hlocks (fun t _ h1 h2 => ⟨(), trivial, (Or.inl ⟨rfl, c4682⟩), xx_F hS h1 h2⟩) hS.2.2 (by decide) (by decide)
  · skip
    subst er4686
    refine lv_if_eq (tgt := 42) hx hb dX11_slot_6 (by decide) (fun c4697 => ?_) (fun c4697 => absurd c4697 (by decide))
    exact vx_throw0 (names := ["java/lang/RuntimeException", "java/lang/Exception"]) hx hb hst hown (by decide +kernel) (by decide +kernel) (hts (.classLink RX11 221 "java/util/NoSuchElementException") (by decide +kernel)) (hts (.initialized "java/util/NoSuchElementException") (by decide +kernel)) (vx_hat (B := xB "java/util/NoSuchElementException") (fun w h => hts w (in_x_slot_at0_X11_223 w h)) (by decide +kernel) (Zz_xB hZ (by decide))) (by decide +kernel) hZ.1 hZ.2.1 hS (hl.1.trans hml.symm) dX11_slot_42 dX11_slot_45 dX11_slot_46 dX11_slot_49 (fun x h => (htab x h).elim) (by decide) (Nat.le_of_ble_eq_true rfl) (Nat.le_of_ble_eq_true rfl) (Nat.le_of_ble_eq_true rfl) hlocks (fun t _ h1 h2 => ⟨(), trivial, (Or.inr (Or.inl ⟨rfl, c4684, c4685⟩)), xx_F hS h1 h2⟩) hS.2.2 (by decide) (by decide)
  · skip
    subst er4690
    refine lv_if_eq (tgt := 42) hx hb dX11_slot_6 (by decide) (fun c4698 => ?_) (fun c4698 => absurd c4698 (by decide))
    exact vx_throw0 (names := ["java/lang/RuntimeException", "java/lang/Exception"]) hx hb hst hown (by decide +kernel) (by decide +kernel) (hts (.classLink RX11 221 "java/util/NoSuchElementException") (by decide +kernel)) (hts (.initialized "java/util/NoSuchElementException") (by decide +kernel)) (vx_hat (B := xB "java/util/NoSuchElementException") (fun w h => hts w (in_x_slot_at0_X11_223 w h)) (by decide +kernel) (Zz_xB hZ (by decide))) (by decide +kernel) hZ.1 hZ.2.1 hS (hl.1.trans hml.symm) dX11_slot_42 dX11_slot_45 dX11_slot_46 dX11_slot_49 (fun x h => (htab x h).elim) (by decide) (Nat.le_of_ble_eq_true rfl) (Nat.le_of_ble_eq_true rfl) (Nat.le_of_ble_eq_true rfl) hlocks (fun t _ h1 h2 => ⟨(), trivial, (Or.inr (Or.inr (Or.inl ⟨rfl, c4687, c4688, c4689⟩))), xx_F hS h1 h2⟩) hS.2.2 (by decide) (by decide)
  · skip
    subst er4695
    refine lv_if_eq (tgt := 42) hx hb dX11_slot_6 (by decide) (fun c4699 => ?_) (fun c4699 => absurd c4699 (by decide))
    exact vx_throw0 (names := ["java/lang/RuntimeException", "java/lang/Exception"]) hx hb hst hown (by decide +kernel) (by decide +kernel) (hts (.classLink RX11 221 "java/util/NoSuchElementException") (by decide +kernel)) (hts (.initialized "java/util/NoSuchElementException") (by decide +kernel)) (vx_hat (B := xB "java/util/NoSuchElementException") (fun w h => hts w (in_x_slot_at0_X11_223 w h)) (by decide +kernel) (Zz_xB hZ (by decide))) (by decide +kernel) hZ.1 hZ.2.1 hS (hl.1.trans hml.symm) dX11_slot_42 dX11_slot_45 dX11_slot_46 dX11_slot_49 (fun x h => (htab x h).elim) (by decide) (Nat.le_of_ble_eq_true rfl) (Nat.le_of_ble_eq_true rfl) (Nat.le_of_ble_eq_true rfl) hlocks (fun t _ h1 h2 => ⟨(), trivial, (Or.inr (Or.inr (Or.inr (⟨rfl, c4691, c4692, c4693, c4694⟩)))), xx_F hS h1 h2⟩) hS.2.2 (by decide) (by decide)

def l_x_holder : List Cond := [.methodLink RX11 359 yX11_isThing, .instanceMethod yX11_isThing, .selects RX11 yX11_isThing yX11_isThing, .initialized RX11, .classLink RX11 221 "java/util/NoSuchElementException", .initialized "java/util/NoSuchElementException", .code yX11_isThing cX11_isThing 3 (some .boolean), .methodLink RX11 411 yX11_isPicture, .static yX11_isPicture, .fieldLink RX11 41 "HeapWorks" "pictures" "[LHeapWorks$Picture;", .fieldLink RX11 356 "HeapWorks$Picture" "things" "I", .code yX11_isPicture cX11_isPicture 1 (some .boolean)]
def w_x_holder : List Cond := .code yX11_holder cX11_holder 7 (some .int) :: (l_x_holder ++ ((((vx_at0 RX11 223 "java/util/NoSuchElementException" ["java/lang/RuntimeException", "java/lang/Exception"]).filter goodWord) ++ (wsX110 ++ wsX50))))
theorem in_x_holder_at0_X11_223 : ∀ w ∈ ((vx_at0 RX11 223 "java/util/NoSuchElementException" ["java/lang/RuntimeException", "java/lang/Exception"]).filter goodWord), w ∈ w_x_holder := fun w h => List.mem_cons_of_mem _ (List.mem_append_right _ (List.mem_append_left _ h))
theorem in_x_holder_X11 : ∀ w ∈ wsX110, w ∈ w_x_holder := fun w h => List.mem_cons_of_mem _ (List.mem_append_right _ (List.mem_append_right _ (List.mem_append_left _ h)))
theorem in_x_holder_X5 : ∀ w ∈ wsX50, w ∈ w_x_holder := fun w h => List.mem_cons_of_mem _ (List.mem_append_right _ (List.mem_append_right _ (List.mem_append_right _ (h))))
theorem g_x_holder_z_X11_isThing_359 : GoodIn w_x_holder (wsV RX11 359 RX11 yX11_isThing w_z_X11_isThing) := goodIn_app (goodIn_sub (by decide +kernel) (by decide +kernel)) (goodIn_ca (goodIn_sub (by decide +kernel) (by decide +kernel)) (goodIn_app (goodIn_in in_x_holder_X11 gd_X11) (goodIn_in in_x_holder_X5 gd_X5)))
set_option maxHeartbeats 4000000 in
set_option maxRecDepth 100000 in
theorem x_holder (l : Launch) (dC : Nat → ClassId) (dI : Nat → Nat → Nat) (sz : Nat) (aX : Nat) (fsX : List Value) (qP : Nat) (gP : Nat → Option Nat) (kP : ClassId) (ap : Nat) (fsp : List Value) (p0 : Int32) (p1 : Int32) (p2 : Int32) (p3 : Int32) (k_fsX : fh fsX 18 [(4, .ref qP)]) (k_fsp : fh fsp 21 [(0, .int 0)]) (hst : l.stackTraces = false) (hg : gP p0.toNatClampNeg = some ap) : vx_Met l yX11_holder w_x_holder ({ frames := 7, cells := 1, slots := 6, locals := 140 }) (va_Pc [.ref aX, .int p0, .int p1, .int p2, .int p3] (fun U => U.heap.size = sz ∧ Zz (va_A [(aX, .inr (14, fsX)), (qP, .inl (kP, 4, .inr (.inr (.inr (.inr gP))))), (ap, .inr (8, fsp))] sz) U ∧ Wd dC dI [(kP, .object "HeapWorks$Picture")] (fun _ => True) [(aX, .inr (14, fsX)), (qP, .inl (kP, 4, .inr (.inr (.inr (.inr gP))))), (ap, .inr (8, fsp))] U)) (va_Qi (fun (r : Int32) (u : Unit) => False) (fun (u : Unit) t => Wd dC dI [(kP, .object "HeapWorks$Picture")] (va_A [(aX, .inr (14, fsX)), (qP, .inl (kP, 4, .inr (.inr (.inr (.inr gP))))), (ap, .inr (8, fsp))] sz) [(aX, .inr (14, fsX)), (qP, .inl (kP, 4, .inr (.inr (.inr (.inr gP))))), (ap, .inr (8, fsp))] t) (va_A [(aX, .inr (14, fsX)), (qP, .inl (kP, 4, .inr (.inr (.inr (.inr gP))))), (ap, .inr (8, fsp))] sz)) (vx_X (fun _ : Unit => True) (fun E _ _ => (E = "java/util/NoSuchElementException" ∧ p0 < 0) ∨ (E = "java/util/NoSuchElementException" ∧ ¬ p0 < 0 ∧ 4 ≤ p0) ∨ (E = "java/util/NoSuchElementException" ∧ ¬ p0 < 0 ∧ ¬ 4 ≤ p0 ∧ p1 < 0) ∨ (E = "java/util/NoSuchElementException" ∧ ¬ p0 < 0 ∧ ¬ 4 ≤ p0 ∧ ¬ p1 < 0 ∧ 0 ≤ p1)) (va_A [(aX, .inr (14, fsX)), (qP, .inl (kP, 4, .inr (.inr (.inr (.inr gP))))), (ap, .inr (8, fsp))] sz)) 1 6 (va_A [(aX, .inr (14, fsX)), (qP, .inl (kP, 4, .inr (.inr (.inr (.inr gP))))), (ap, .inr (8, fsp))] sz) := by
  refine vx_ofW (cc := cX11_holder) (maxL := 7) (ret := (some .int)) (by decide) rfl ?_
  intro p e s m args below meth c s₁ B hml htab hv
  obtain ⟨rfl, hsz, hZ, hP, hK, hD0⟩ := hv
  have hx := B.exec
  have hb := B.bytes
  have hr := B.returns
  have hts := atoms_spec (ws := w_x_holder) B.pre
  have hown : s.vm.findClass RX11 = some m.cls := findClass_of_methodNamed B.named
  have hlocks := B.notSynchronized
  subst hsz
  have hD := hD0.self (sz := s.heap.size)
  generalize hAe : va_A [(aX, .inr (14, fsX)), (qP, .inl (kP, 4, .inr (.inr (.inr (.inr gP))))), (ap, .inr (8, fsp))] s.heap.size = A at hD hZ ⊢
  have hA : ∀ q : Nat, s.heap.size ≤ q → A q := fun q h => by rw [← hAe]; exact Or.inr h
  have hS : va_S A s.heap s.heap [] := va_S.rf
  have hl := lv_entry ([.ref aX, .int p0, .int p1, .int p2, .int p3]) (n := 7) (Nat.le_of_ble_eq_true rfl)
  rw [lg_entry_eq]
  generalize (lg_sl ([.ref aX, .int p0, .int p1, .int p2, .int p3]) ++ List.replicate (7 - (lg_sl ([.ref aX, .int p0, .int p1, .int p2, .int p3])).length) Slot.unset).toArray = ls at hl ⊢
  have hl : lv_has ls 7 [(0, .ref aX), (1, .int p0), (2, .int p1), (3, .int p2), (4, .int p3)] := hl
  have o_fsX := ow_0 k_fsX
  have o_fsp := ow_0 k_fsp
  refine lv_aload_n hx hb dX11_holder_0 rfl (lv_at hl 0 rfl) ?_
  refine lv_iload_n hx hb dX11_holder_1 rfl (lv_at hl 1 rfl) ?_
  refine lv_iload_n hx hb dX11_holder_2 rfl (lv_at hl 2 rfl) ?_
  have hPc := hP.sub (ws' := [(aX, .inr (14, fsX)), (qP, .inl (kP, 4, .inr (.inr (.inr (.inr gP))))), (ap, .inr (8, fsp))]) [0, 1, 2] rfl
  have hDc := hD.sub (ws' := [(aX, .inr (14, fsX)), (qP, .inl (kP, 4, .inr (.inr (.inr (.inr gP))))), (ap, .inr (8, fsp))]) [0, 1, 2] (by decide) rfl
  have hKc := hK.sub (tys' := [(kP, .object "HeapWorks$Picture")]) [0] rfl
  have hFc := va_free (wc := [(aX, .inr (14, fsX)), (qP, .inl (kP, 4, .inr (.inr (.inr (.inr gP))))), (ap, .inr (8, fsp))]) hD hS hA [0, 1, 2] rfl
  refine va_calli (va_runV (As := [.int p0, .int p1]) (rest := []) ⟨hx, hb, hml, hown, hts⟩ (z_X11_isThing l dC dI s.heap.size aX fsX qP gP kP ap fsp p0 p1 (fh_sub o_fsX.2 [0] rfl) (fh_sub o_fsp.2 [0] rfl) hg) (cwV 2 hts g_x_holder_z_X11_isThing_359 rfl rfl rfl (by decide +kernel) ⟨Nat.le_of_ble_eq_true rfl, Nat.le_of_ble_eq_true rfl⟩) ⟨fun a U g mk q => by obtain ⟨q0, q1, qP, qK, qD⟩ := q; exact ⟨q0, q1, qP, va_K.moved (u := U) (U := U.calling g mk a) (Vm.Alike.refl U.vm) qK, qD⟩, va_recv hK hP (ci := 14) (q0 := 0) rfl rfl, fun U hU hW => ⟨rfl, by rw [hU], by rw [hU]; exact hPc, va_K.moved hW.alike hKc, hDc.weaken (fun _ _ _ _ => trivial)⟩⟩ rfl rfl hl.1 rfl (lv_room (Nat.le_of_ble_eq_true rfl)) dX11_holder_3 ⟨Nat.le_of_ble_eq_true rfl, Nat.le_of_ble_eq_true rfl⟩) hS (fun q _ h => hFc q h) hFc (fun r4751 u t H1 locs ht hvm hw hB hz1 hk1 hS => ?_)
  obtain ⟨hP1, hK1, hD1⟩ := hB
  rw [ht] at hP1
  try dsimp only at hw
  obtain ⟨hP, hD⟩ := va_join (wr := []) (w1 := [(aX, .inr (14, fsX)), (qP, .inl (kP, 4, .inr (.inr (.inr (.inr gP))))), (ap, .inr (8, fsp))]) hP hD [0, 1, 2] [] rfl rfl (by decide) (by decide) hk1 hFc hP1 hD1
  have hK := hK.sub (tys' := [(kP, .object "HeapWorks$Picture")]) [0] rfl
  generalize H1 = H at hP hS ⊢
  have hP : va_P (dC, dI) vwCl [(aX, .inr (14, fsX)), (qP, .inl (kP, 4, .inr (.inr (.inr (.inr gP))))), (ap, .inr (8, fsp))] H := hP
  have hD : va_D A [(aX, .inr (14, fsX)), (qP, .inl (kP, 4, .inr (.inr (.inr (.inr gP))))), (ap, .inr (8, fsp))] := hD
  rcases hw with ⟨c4752, er4753⟩ | ⟨c4754, c4755, er4756⟩ | ⟨c4757, c4758, c4759, er4760⟩ | ⟨c4761, c4762, c4763, c4764, er4765⟩
  · skip
    subst er4753
    refine lv_if_eq (tgt := 38) hx hb dX11_holder_6 (by decide) (fun c4766 => ?_) (fun c4766 => absurd c4766 (by decide))
    exact vx_throw0 (names := ["java/lang/RuntimeException", "java/lang/Exception"]) hx hb hst hown (by decide +kernel) (by decide +kernel) (hts (.classLink RX11 221 "java/util/NoSuchElementException") (by decide +kernel)) (hts (.initialized "java/util/NoSuchElementException") (by decide +kernel)) (vx_hat (B := xB "java/util/NoSuchElementException") (fun w h => hts w (in_x_holder_at0_X11_223 w h)) (by decide +kernel) (Zz_xB hZ (by decide))) (by decide +kernel) hZ.1 hZ.2.1 hS (hl.1.trans hml.symm) dX11_holder_38 dX11_holder_41 dX11_holder_42 dX11_holder_45 (fun x h => (htab x h).elim) (by decide) (Nat.le_of_ble_eq_true rfl) (Nat.le_of_ble_eq_true rfl) (Nat.le_of_ble_eq_true rfl) hlocks (fun t _ h1 h2 => ⟨(), trivial, (Or.inl ⟨rfl, c4752⟩), xx_F hS h1 h2⟩) hS.2.2 (by decide) (by decide)
  · skip
    subst er4756
    refine lv_if_eq (tgt := 38) hx hb dX11_holder_6 (by decide) (fun c4767 => ?_) (fun c4767 => absurd c4767 (by decide))
    exact vx_throw0 (names := ["java/lang/RuntimeException", "java/lang/Exception"]) hx hb hst hown (by decide +kernel) (by decide +kernel) (hts (.classLink RX11 221 "java/util/NoSuchElementException") (by decide +kernel)) (hts (.initialized "java/util/NoSuchElementException") (by decide +kernel)) (vx_hat (B := xB "java/util/NoSuchElementException") (fun w h => hts w (in_x_holder_at0_X11_223 w h)) (by decide +kernel) (Zz_xB hZ (by decide))) (by decide +kernel) hZ.1 hZ.2.1 hS (hl.1.trans hml.symm) dX11_holder_38 dX11_holder_41 dX11_holder_42 dX11_holder_45 (fun x h => (htab x h).elim) (by decide) (Nat.le_of_ble_eq_true rfl) (Nat.le_of_ble_eq_true rfl) (Nat.le_of_ble_eq_true rfl) hlocks (fun t _ h1 h2 => ⟨(), trivial, (Or.inr (Or.inl ⟨rfl, c4754, c4755⟩)), xx_F hS h1 h2⟩) hS.2.2 (by decide) (by decide)
  · skip
    subst er4760
    refine lv_if_eq (tgt := 38) hx hb dX11_holder_6 (by decide) (fun c4768 => ?_) (fun c4768 => absurd c4768 (by decide))
    exact vx_throw0 (names := ["java/lang/RuntimeException", "java/lang/Exception"]) hx hb hst hown (by decide +kernel) (by decide +kernel) (hts (.classLink RX11 221 "java/util/NoSuchElementException") (by decide +kernel)) (hts (.initialized "java/util/NoSuchElementException") (by decide +kernel)) (vx_hat (B := xB "java/util/NoSuchElementException") (fun w h => hts w (in_x_holder_at0_X11_223 w h)) (by decide +kernel) (Zz_xB hZ (by decide))) (by decide +kernel) hZ.1 hZ.2.1 hS (hl.1.trans hml.symm) dX11_holder_38 dX11_holder_41 dX11_holder_42 dX11_holder_45 (fun x h => (htab x h).elim) (by decide) (Nat.le_of_ble_eq_true rfl) (Nat.le_of_ble_eq_true rfl) (Nat.le_of_ble_eq_true rfl) hlocks (fun t _ h1 h2 => ⟨(), trivial, (Or.inr (Or.inr (Or.inl ⟨rfl, c4757, c4758, c4759⟩))), xx_F hS h1 h2⟩) hS.2.2 (by decide) (by decide)
  · skip
    subst er4765
    refine lv_if_eq (tgt := 38) hx hb dX11_holder_6 (by decide) (fun c4769 => ?_) (fun c4769 => absurd c4769 (by decide))
    exact vx_throw0 (names := ["java/lang/RuntimeException", "java/lang/Exception"]) hx hb hst hown (by decide +kernel) (by decide +kernel) (hts (.classLink RX11 221 "java/util/NoSuchElementException") (by decide +kernel)) (hts (.initialized "java/util/NoSuchElementException") (by decide +kernel)) (vx_hat (B := xB "java/util/NoSuchElementException") (fun w h => hts w (in_x_holder_at0_X11_223 w h)) (by decide +kernel) (Zz_xB hZ (by decide))) (by decide +kernel) hZ.1 hZ.2.1 hS (hl.1.trans hml.symm) dX11_holder_38 dX11_holder_41 dX11_holder_42 dX11_holder_45 (fun x h => (htab x h).elim) (by decide) (Nat.le_of_ble_eq_true rfl) (Nat.le_of_ble_eq_true rfl) (Nat.le_of_ble_eq_true rfl) hlocks (fun t _ h1 h2 => ⟨(), trivial, (Or.inr (Or.inr (Or.inr (⟨rfl, c4761, c4762, c4763, c4764⟩)))), xx_F hS h1 h2⟩) hS.2.2 (by decide) (by decide)

def l_z_J7_fill_fda19_1 : List Cond := [.methodLink RJ7 13 yJ7_rangeCheck_23922, .static yJ7_rangeCheck_23922, .initialized RJ7, .code yJ7_rangeCheck_23922 cJ7_rangeCheck_23922 3 none]
def w_z_J7_fill_fda19_1 : List Cond := .code yJ7_fill_fda19 cJ7_fill_fda19 5 none :: (l_z_J7_fill_fda19_1)
theorem g_z_J7_fill_fda19_1_z_J7_rangeCheck_23922_13 : GoodIn w_z_J7_fill_fda19_1 (wsS RJ7 13 yJ7_rangeCheck_23922 w_z_J7_rangeCheck_23922) := goodIn_app (goodIn_sub (by decide +kernel) (by decide +kernel)) (goodIn_sub (by decide +kernel) (by decide +kernel))
set_option maxHeartbeats 4000000 in
set_option maxRecDepth 100000 in
theorem z_J7_fill_fda19_1 (l : Launch) (dC : Nat → ClassId) (dI : Nat → Nat → Nat) (sz : Nat) (Ad0 : Nat) (Fa0 : Nat → Int32) (Ka0 : ClassId)   : Met l yJ7_fill_fda19 w_z_J7_fill_fda19_1 ({ frames := 1, cells := 0, slots := 0, locals := 22 }) (va_Pc [.ref Ad0, .int 0, .int 0, .int 0] (fun U => U.heap.size = sz ∧ Wd dC dI [(Ka0, .int)] (fun _ => True) [(Ad0, .inl (Ka0, 400, .inl Fa0))] U)) (va_Qv (fun (u : Unit) => True) (fun (u : Unit) t => Wd dC dI [(Ka0, .int)] (va_A [(Ad0, .inl (Ka0, 400, .inl Fa0))] sz) [(Ad0, .inl (Ka0, 400, .inl Fa0))] t) (va_A [(Ad0, .inl (Ka0, 400, .inl Fa0))] sz))  0 0 (va_A [(Ad0, .inl (Ka0, 400, .inl Fa0))] sz) := by
  refine Met.ofW (cc := cJ7_fill_fda19) (maxL := 5) (ret := none) (by decide) rfl ?_
  intro p e s m args below meth c s₁ B hml hv
  obtain ⟨rfl, hsz, hP, hK, hD0⟩ := hv
  have hx := B.exec
  have hb := B.bytes
  have hr := B.returns
  have hts := atoms_spec (ws := w_z_J7_fill_fda19_1) B.pre
  have hown : s.vm.findClass RJ7 = some m.cls := findClass_of_methodNamed B.named
  have hlocks := B.notSynchronized
  subst hsz
  have hD := hD0.self (sz := s.heap.size)
  generalize hAe : va_A [(Ad0, .inl (Ka0, 400, .inl Fa0))] s.heap.size = A at hD ⊢
  have hA : ∀ q : Nat, s.heap.size ≤ q → A q := fun q h => by rw [← hAe]; exact Or.inr h
  have hS : va_S A s.heap s.heap [] := va_S.rf
  have hl := lv_entry ([.ref Ad0, .int 0, .int 0, .int 0]) (n := 5) (Nat.le_of_ble_eq_true rfl)
  rw [lg_entry_eq]
  generalize (lg_sl ([.ref Ad0, .int 0, .int 0, .int 0]) ++ List.replicate (5 - (lg_sl ([.ref Ad0, .int 0, .int 0, .int 0])).length) Slot.unset).toArray = ls at hl ⊢
  have hl : lv_has ls 5 [(0, .ref Ad0), (1, .int 0), (2, .int 0), (3, .int 0)] := hl
  refine lv_aload_n hx hb dJ7_fill_fda19_0 rfl (lv_at hl 0 rfl) ?_
  refine va_alen (v := 400) hx hb hK hP 0 0 rfl rfl (show Int32.ofNat 400 = 400 from by decide) dJ7_fill_fda19_1 ?_
  refine lv_iload_n hx hb dJ7_fill_fda19_2 rfl (lv_at hl 1 rfl) ?_
  refine lv_iload_n hx hb dJ7_fill_fda19_3 rfl (lv_at hl 2 rfl) ?_
  have hPc := hP.sub (ws' := []) [] rfl
  have hDc := hD.sub (ws' := []) [] (by decide) rfl
  have hKc := hK.sub (tys' := []) [] rfl
  have hFc := va_free (wc := []) hD hS hA [] rfl
  refine va_callv (va_runS (As := [.int 400, .int 0, .int 0]) (rest := []) ⟨hx, hb, hml, hown, hts⟩ (z_J7_rangeCheck_23922 l dC dI s.heap.size   ) (cwS 3 hts g_z_J7_fill_fda19_1_z_J7_rangeCheck_23922_13 rfl rfl rfl (by decide +kernel) ⟨Nat.le_of_ble_eq_true rfl, Nat.le_of_ble_eq_true rfl⟩) ⟨fun a U g mk q => by obtain ⟨q0, q1, qP, qK, qD⟩ := q; exact ⟨q0, q1, qP, va_K.moved (u := U) (U := U.calling g mk a) (Vm.Alike.refl U.vm) qK, qD⟩, fun U hU hW => ⟨rfl, by rw [hU], by rw [hU]; exact hPc, va_K.moved hW.alike hKc, hDc.weaken (fun _ _ _ _ => trivial)⟩⟩ rfl rfl hl.1 rfl (lv_room (Nat.le_of_ble_eq_true rfl)) dJ7_fill_fda19_4 ⟨Nat.le_of_ble_eq_true rfl, Nat.le_of_ble_eq_true rfl⟩) hS (fun q _ h => hFc q h) hFc (fun u t H1 locs ht hvm hw hB hz1 hk1 hS => ?_)
  obtain ⟨hP1, hK1, hD1⟩ := hB
  rw [ht] at hP1
  try dsimp only at hw
  obtain ⟨hP, hD⟩ := va_join (wr := [(Ad0, .inl (Ka0, 400, .inl Fa0))]) (w1 := []) hP hD [] [0] rfl rfl (by decide) (by decide) hk1 hFc hP1 hD1
  have hK := hK.sub (tys' := [(Ka0, .int)]) [0] rfl
  generalize H1 = H at hP hS ⊢
  have hP : va_P (dC, dI) vwCl [(Ad0, .inl (Ka0, 400, .inl Fa0))] H := hP
  have hD : va_D A [(Ad0, .inl (Ka0, 400, .inl Fa0))] := hD
  refine lv_iload_n hx hb dJ7_fill_fda19_7 rfl (lv_at hl 1 rfl) ?_
  refine lv_istore (lv' := [(4, .int 0), (0, .ref Ad0), (1, .int 0), (2, .int 0), (3, .int 0)]) hx hb dJ7_fill_fda19_8 hl (by decide) rfl (fun ls hl => ?_)
  refine lv_iload hx hb dJ7_fill_fda19_10 (lv_at hl 0 rfl) ?_
  refine lv_iload_n hx hb dJ7_fill_fda19_12 rfl (lv_at hl 3 rfl) ?_
  refine lv_icmp_ge (tgt := 27) hx hb dJ7_fill_fda19_13 (by decide) (fun c4799 => ?_) (fun c4799 => absurd c4799 (by decide))
  have hP9 := hP.sub (ws' := [(Ad0, .inl (Ka0, 400, .inl Fa0))]) [0] rfl
  have hD9 := hD.sub (ws' := [(Ad0, .inl (Ka0, 400, .inl Fa0))]) [0] (by decide) rfl
  have hK9 := hK.sub (tys' := [(Ka0, .int)]) [0] rfl
  exact W.vret hx hb hr (fun t ht hW => ⟨⟨(), rfl, trivial, by rw [ht]; exact hP9, va_K.moved hW.alike hK9, hD9⟩, hS.F ht⟩) hS.2.2 dJ7_fill_fda19_27

def l_z_J7_fill_fda19_2 : List Cond := [.methodLink RJ7 13 yJ7_rangeCheck_23922, .static yJ7_rangeCheck_23922, .initialized RJ7, .code yJ7_rangeCheck_23922 cJ7_rangeCheck_23922 3 none]
def w_z_J7_fill_fda19_2 : List Cond := .code yJ7_fill_fda19 cJ7_fill_fda19 5 none :: (l_z_J7_fill_fda19_2)
theorem g_z_J7_fill_fda19_2_z_J7_rangeCheck_23922_13 : GoodIn w_z_J7_fill_fda19_2 (wsS RJ7 13 yJ7_rangeCheck_23922 w_z_J7_rangeCheck_23922) := goodIn_app (goodIn_sub (by decide +kernel) (by decide +kernel)) (goodIn_sub (by decide +kernel) (by decide +kernel))
set_option maxHeartbeats 4000000 in
set_option maxRecDepth 100000 in
theorem z_J7_fill_fda19_2 (l : Launch) (dC : Nat → ClassId) (dI : Nat → Nat → Nat) (sz : Nat) (Ad0 : Nat) (Fa0 : Nat → Int32) (Ka0 : ClassId)   : Met l yJ7_fill_fda19 w_z_J7_fill_fda19_2 ({ frames := 1, cells := 0, slots := 0, locals := 22 }) (va_Pc [.ref Ad0, .int 0, .int 0, .int (-2)] (fun U => U.heap.size = sz ∧ Wd dC dI [(Ka0, .int)] (fun _ => True) [(Ad0, .inl (Ka0, 400, .inl Fa0))] U)) (va_Qv (fun (u : Unit) => True) (fun (u : Unit) t => Wd dC dI [(Ka0, .int)] (va_A [(Ad0, .inl (Ka0, 400, .inl Fa0))] sz) [(Ad0, .inl (Ka0, 400, .inl Fa0))] t) (va_A [(Ad0, .inl (Ka0, 400, .inl Fa0))] sz))  0 0 (va_A [(Ad0, .inl (Ka0, 400, .inl Fa0))] sz) := by
  refine Met.ofW (cc := cJ7_fill_fda19) (maxL := 5) (ret := none) (by decide) rfl ?_
  intro p e s m args below meth c s₁ B hml hv
  obtain ⟨rfl, hsz, hP, hK, hD0⟩ := hv
  have hx := B.exec
  have hb := B.bytes
  have hr := B.returns
  have hts := atoms_spec (ws := w_z_J7_fill_fda19_2) B.pre
  have hown : s.vm.findClass RJ7 = some m.cls := findClass_of_methodNamed B.named
  have hlocks := B.notSynchronized
  subst hsz
  have hD := hD0.self (sz := s.heap.size)
  generalize hAe : va_A [(Ad0, .inl (Ka0, 400, .inl Fa0))] s.heap.size = A at hD ⊢
  have hA : ∀ q : Nat, s.heap.size ≤ q → A q := fun q h => by rw [← hAe]; exact Or.inr h
  have hS : va_S A s.heap s.heap [] := va_S.rf
  have hl := lv_entry ([.ref Ad0, .int 0, .int 0, .int (-2)]) (n := 5) (Nat.le_of_ble_eq_true rfl)
  rw [lg_entry_eq]
  generalize (lg_sl ([.ref Ad0, .int 0, .int 0, .int (-2)]) ++ List.replicate (5 - (lg_sl ([.ref Ad0, .int 0, .int 0, .int (-2)])).length) Slot.unset).toArray = ls at hl ⊢
  have hl : lv_has ls 5 [(0, .ref Ad0), (1, .int 0), (2, .int 0), (3, .int (-2))] := hl
  refine lv_aload_n hx hb dJ7_fill_fda19_0 rfl (lv_at hl 0 rfl) ?_
  refine va_alen (v := 400) hx hb hK hP 0 0 rfl rfl (show Int32.ofNat 400 = 400 from by decide) dJ7_fill_fda19_1 ?_
  refine lv_iload_n hx hb dJ7_fill_fda19_2 rfl (lv_at hl 1 rfl) ?_
  refine lv_iload_n hx hb dJ7_fill_fda19_3 rfl (lv_at hl 2 rfl) ?_
  have hPc := hP.sub (ws' := []) [] rfl
  have hDc := hD.sub (ws' := []) [] (by decide) rfl
  have hKc := hK.sub (tys' := []) [] rfl
  have hFc := va_free (wc := []) hD hS hA [] rfl
  refine va_callv (va_runS (As := [.int 400, .int 0, .int 0]) (rest := []) ⟨hx, hb, hml, hown, hts⟩ (z_J7_rangeCheck_23922 l dC dI s.heap.size   ) (cwS 3 hts g_z_J7_fill_fda19_2_z_J7_rangeCheck_23922_13 rfl rfl rfl (by decide +kernel) ⟨Nat.le_of_ble_eq_true rfl, Nat.le_of_ble_eq_true rfl⟩) ⟨fun a U g mk q => by obtain ⟨q0, q1, qP, qK, qD⟩ := q; exact ⟨q0, q1, qP, va_K.moved (u := U) (U := U.calling g mk a) (Vm.Alike.refl U.vm) qK, qD⟩, fun U hU hW => ⟨rfl, by rw [hU], by rw [hU]; exact hPc, va_K.moved hW.alike hKc, hDc.weaken (fun _ _ _ _ => trivial)⟩⟩ rfl rfl hl.1 rfl (lv_room (Nat.le_of_ble_eq_true rfl)) dJ7_fill_fda19_4 ⟨Nat.le_of_ble_eq_true rfl, Nat.le_of_ble_eq_true rfl⟩) hS (fun q _ h => hFc q h) hFc (fun u t H1 locs ht hvm hw hB hz1 hk1 hS => ?_)
  obtain ⟨hP1, hK1, hD1⟩ := hB
  rw [ht] at hP1
  try dsimp only at hw
  obtain ⟨hP, hD⟩ := va_join (wr := [(Ad0, .inl (Ka0, 400, .inl Fa0))]) (w1 := []) hP hD [] [0] rfl rfl (by decide) (by decide) hk1 hFc hP1 hD1
  have hK := hK.sub (tys' := [(Ka0, .int)]) [0] rfl
  generalize H1 = H at hP hS ⊢
  have hP : va_P (dC, dI) vwCl [(Ad0, .inl (Ka0, 400, .inl Fa0))] H := hP
  have hD : va_D A [(Ad0, .inl (Ka0, 400, .inl Fa0))] := hD
  refine lv_iload_n hx hb dJ7_fill_fda19_7 rfl (lv_at hl 1 rfl) ?_
  refine lv_istore (lv' := [(4, .int 0), (0, .ref Ad0), (1, .int 0), (2, .int 0), (3, .int (-2))]) hx hb dJ7_fill_fda19_8 hl (by decide) rfl (fun ls hl => ?_)
  refine lv_iload hx hb dJ7_fill_fda19_10 (lv_at hl 0 rfl) ?_
  refine lv_iload_n hx hb dJ7_fill_fda19_12 rfl (lv_at hl 3 rfl) ?_
  refine lv_icmp_ge (tgt := 27) hx hb dJ7_fill_fda19_13 (by decide) (fun c4807 => ?_) (fun c4807 => absurd c4807 (by decide))
  have hP9 := hP.sub (ws' := [(Ad0, .inl (Ka0, 400, .inl Fa0))]) [0] rfl
  have hD9 := hD.sub (ws' := [(Ad0, .inl (Ka0, 400, .inl Fa0))]) [0] (by decide) rfl
  have hK9 := hK.sub (tys' := [(Ka0, .int)]) [0] rfl
  exact W.vret hx hb hr (fun t ht hW => ⟨⟨(), rfl, trivial, by rw [ht]; exact hP9, va_K.moved hW.alike hK9, hD9⟩, hS.F ht⟩) hS.2.2 dJ7_fill_fda19_27

def l_z_X8_numberRings : List Cond := [.fieldLink RX8 45 "HeapWorks$Shape" "low" "[I", .fieldLink RX8 64 "HeapWorks$Picture" "things" "I", .methodLink RX8 67 yJ7_fill_fda19, .static yJ7_fill_fda19, .initialized RJ7, .fieldLink RX8 51 "HeapWorks$Shape" "path" "[I", .fieldLink RX8 142 "HeapWorks$Shape" "rings" "I", .code yJ7_fill_fda19 cJ7_fill_fda19 5 none, .methodLink RJ7 13 yJ7_rangeCheck_23922, .static yJ7_rangeCheck_23922, .code yJ7_rangeCheck_23922 cJ7_rangeCheck_23922 3 none]
def w_z_X8_numberRings : List Cond := .code yX8_numberRings cX8_numberRings 4 none :: (l_z_X8_numberRings ++ ((wsX80 ++ wsX50)))
theorem in_z_X8_numberRings_X8 : ∀ w ∈ wsX80, w ∈ w_z_X8_numberRings := fun w h => List.mem_cons_of_mem _ (List.mem_append_right _ (List.mem_append_left _ h))
theorem in_z_X8_numberRings_X5 : ∀ w ∈ wsX50, w ∈ w_z_X8_numberRings := fun w h => List.mem_cons_of_mem _ (List.mem_append_right _ (List.mem_append_right _ (h)))
theorem g_z_X8_numberRings_z_J7_fill_fda19_1_67 : GoodIn w_z_X8_numberRings (va_wsS RX8 67 yJ7_fill_fda19 w_z_J7_fill_fda19_1) := goodIn_app (goodIn_sub (by decide +kernel) (by decide +kernel)) (goodIn_sub (by decide +kernel) (by decide +kernel))
theorem g_z_X8_numberRings_z_J7_fill_fda19_2_67 : GoodIn w_z_X8_numberRings (va_wsS RX8 67 yJ7_fill_fda19 w_z_J7_fill_fda19_2) := goodIn_app (goodIn_sub (by decide +kernel) (by decide +kernel)) (goodIn_sub (by decide +kernel) (by decide +kernel))
set_option maxHeartbeats 4000000 in
set_option maxRecDepth 100000 in
theorem z_X8_numberRings (l : Launch) (dC : Nat → ClassId) (dI : Nat → Nat → Nat) (sz : Nat) (Ad0 : Nat) (Fs0 : List Value) (Ad1 : Nat) (Fs1 : List Value) (Ad2 : Nat) (Fa0 : Nat → Int32) (Ka0 : ClassId) (Ad3 : Nat) (Fa1 : Nat → Int32) (Ka1 : ClassId) (k_Fs0 : fh Fs0 21 [(0, .int 0)]) (k_Fs1 : fh Fs1 18 [(13, .ref Ad2), (15, .ref Ad3)])  : Met l yX8_numberRings w_z_X8_numberRings ({ frames := 2, cells := 0, slots := 0, locals := 46 }) (va_Pc [.ref Ad1, .ref Ad0] (fun U => U.heap.size = sz ∧ Wd dC dI [(Ka0, .int), (Ka1, .int)] (fun _ => True) [(Ad0, .inr (8, Fs0)), (Ad1, .inr (11, Fs1)), (Ad2, .inl (Ka0, 400, .inl Fa0)), (Ad3, .inl (Ka1, 400, .inl Fa1))] U)) (va_Qv (fun (u : List Value) => ow Fs1 (u) 18 [9] [(9, .int 0), (13, .ref Ad2), (15, .ref Ad3)]) (fun (u : List Value) t => Wd dC dI [(Ka0, .int), (Ka1, .int)] (va_A [(Ad0, .inr (8, Fs0)), (Ad1, .inr (11, Fs1)), (Ad2, .inl (Ka0, 400, .inl Fa0)), (Ad3, .inl (Ka1, 400, .inl Fa1))] sz) [(Ad0, .inr (8, Fs0)), (Ad1, .inr (11, (u))), (Ad2, .inl (Ka0, 400, .inl Fa0)), (Ad3, .inl (Ka1, 400, .inl Fa1))] t) (va_A [(Ad0, .inr (8, Fs0)), (Ad1, .inr (11, Fs1)), (Ad2, .inl (Ka0, 400, .inl Fa0)), (Ad3, .inl (Ka1, 400, .inl Fa1))] sz))  0 0 (va_A [(Ad0, .inr (8, Fs0)), (Ad1, .inr (11, Fs1)), (Ad2, .inl (Ka0, 400, .inl Fa0)), (Ad3, .inl (Ka1, 400, .inl Fa1))] sz) := by
  refine Met.ofW (cc := cX8_numberRings) (maxL := 4) (ret := none) (by decide) rfl ?_
  intro p e s m args below meth c s₁ B hml hv
  obtain ⟨rfl, hsz, hP, hK, hD0⟩ := hv
  have hx := B.exec
  have hb := B.bytes
  have hr := B.returns
  have hts := atoms_spec (ws := w_z_X8_numberRings) B.pre
  have hown : s.vm.findClass RX8 = some m.cls := findClass_of_methodNamed B.named
  have hlocks := B.notSynchronized
  subst hsz
  have hD := hD0.self (sz := s.heap.size)
  generalize hAe : va_A [(Ad0, .inr (8, Fs0)), (Ad1, .inr (11, Fs1)), (Ad2, .inl (Ka0, 400, .inl Fa0)), (Ad3, .inl (Ka1, 400, .inl Fa1))] s.heap.size = A at hD ⊢
  have hA : ∀ q : Nat, s.heap.size ≤ q → A q := fun q h => by rw [← hAe]; exact Or.inr h
  have hS : va_S A s.heap s.heap [] := va_S.rf
  have hl := lv_entry ([.ref Ad1, .ref Ad0]) (n := 4) (Nat.le_of_ble_eq_true rfl)
  rw [lg_entry_eq]
  generalize (lg_sl ([.ref Ad1, .ref Ad0]) ++ List.replicate (4 - (lg_sl ([.ref Ad1, .ref Ad0])).length) Slot.unset).toArray = ls at hl ⊢
  have hl : lv_has ls 4 [(0, .ref Ad1), (1, .ref Ad0)] := hl
  have o_Fs0 := ow_0 k_Fs0
  have o_Fs1 := ow_0 k_Fs1
  refine lv_aload_n hx hb dX8_numberRings_0 rfl (lv_at hl 0 rfl) ?_
  refine va_get (D := (dC, dI)) (ci := 11) (v := .ref Ad2) (C := RX8) (T := TX8) (N := 18) hx hb hts (in_z_X8_numberRings_X8) hown hK hP 1 rfl rfl 13 (by decide) (hts (.fieldLink RX8 45 "HeapWorks$Shape" "low" "[I") (by decide +kernel)) (fun _ h9 => h9) (ow_at o_Fs1 0 rfl) dX8_numberRings_1 ?_
  refine lv_iconst (v := 0) hx hb dX8_numberRings_4 (by decide) ?_
  refine lv_aload_n hx hb dX8_numberRings_5 rfl (lv_at hl 1 rfl) ?_
  refine va_get (D := (dC, dI)) (ci := 8) (v := .int 0) (C := RX5) (T := TX5) (N := 21) hx hb hts (in_z_X8_numberRings_X5) hown hK hP 0 rfl rfl 0 (by decide) (hts (.fieldLink RX8 64 "HeapWorks$Picture" "things" "I") (by decide +kernel)) (fun _ h9 => h9) (ow_at o_Fs0 0 rfl) dX8_numberRings_6 ?_
  refine lv_iconst (v := 0) hx hb dX8_numberRings_9 (by decide) ?_
  have hPc := hP.sub (ws' := [(Ad2, .inl (Ka0, 400, .inl Fa0))]) [2] rfl
  have hDc := hD.sub (ws' := [(Ad2, .inl (Ka0, 400, .inl Fa0))]) [2] (by decide) rfl
  have hKc := hK.sub (tys' := [(Ka0, .int)]) [0] rfl
  have hFc := va_free (wc := [(Ad2, .inl (Ka0, 400, .inl Fa0))]) hD hS hA [2] rfl
  refine va_callv (va_runS (As := [.ref Ad2, .int 0, .int 0, .int 0]) (rest := []) ⟨hx, hb, hml, hown, hts⟩ (z_J7_fill_fda19_1 l dC dI s.heap.size Ad2 Fa0 Ka0  ) (va_cwS 4 hts g_z_X8_numberRings_z_J7_fill_fda19_1_67 rfl rfl rfl (by decide +kernel) ⟨Nat.le_of_ble_eq_true rfl, Nat.le_of_ble_eq_true rfl⟩) ⟨fun a U g mk q => by obtain ⟨q0, q1, qP, qK, qD⟩ := q; exact ⟨q0, q1, qP, va_K.moved (u := U) (U := U.calling g mk a) (Vm.Alike.refl U.vm) qK, qD⟩, fun U hU hW => ⟨rfl, by rw [hU], by rw [hU]; exact hPc, va_K.moved hW.alike hKc, hDc.weaken (fun _ _ _ _ => trivial)⟩⟩ rfl rfl hl.1 rfl (lv_room (Nat.le_of_ble_eq_true rfl)) dX8_numberRings_10 ⟨Nat.le_of_ble_eq_true rfl, Nat.le_of_ble_eq_true rfl⟩) hS (fun q _ h => hFc q h) hFc (fun u t H1 locs ht hvm hw hB hz1 hk1 hS => ?_)
  obtain ⟨hP1, hK1, hD1⟩ := hB
  rw [ht] at hP1
  try dsimp only at hw
  obtain ⟨hP, hD⟩ := va_join (wr := [(Ad0, .inr (8, Fs0)), (Ad1, .inr (11, Fs1)), (Ad3, .inl (Ka1, 400, .inl Fa1))]) (w1 := [(Ad2, .inl (Ka0, 400, .inl Fa0))]) hP hD [2] [0, 1, 3] rfl rfl (by decide) (by decide) hk1 hFc hP1 hD1
  have hK := hK.sub (tys' := [(Ka1, .int), (Ka0, .int)]) [1, 0] rfl
  generalize H1 = H at hP hS ⊢
  have hP : va_P (dC, dI) vwCl [(Ad0, .inr (8, Fs0)), (Ad1, .inr (11, Fs1)), (Ad3, .inl (Ka1, 400, .inl Fa1)), (Ad2, .inl (Ka0, 400, .inl Fa0))] H := hP
  have hD : va_D A [(Ad0, .inr (8, Fs0)), (Ad1, .inr (11, Fs1)), (Ad3, .inl (Ka1, 400, .inl Fa1)), (Ad2, .inl (Ka0, 400, .inl Fa0))] := hD
  refine lv_aload_n hx hb dX8_numberRings_13 rfl (lv_at hl 0 rfl) ?_
  refine va_get (D := (dC, dI)) (ci := 11) (v := .ref Ad3) (C := RX8) (T := TX8) (N := 18) hx hb hts (in_z_X8_numberRings_X8) hown hK hP 1 rfl rfl 15 (by decide) (hts (.fieldLink RX8 51 "HeapWorks$Shape" "path" "[I") (by decide +kernel)) (fun _ h9 => h9) (ow_at o_Fs1 1 rfl) dX8_numberRings_14 ?_
  refine lv_iconst (v := 0) hx hb dX8_numberRings_17 (by decide) ?_
  refine lv_aload_n hx hb dX8_numberRings_18 rfl (lv_at hl 1 rfl) ?_
  refine va_get (D := (dC, dI)) (ci := 8) (v := .int 0) (C := RX5) (T := TX5) (N := 21) hx hb hts (in_z_X8_numberRings_X5) hown hK hP 0 rfl rfl 0 (by decide) (hts (.fieldLink RX8 64 "HeapWorks$Picture" "things" "I") (by decide +kernel)) (fun _ h9 => h9) (ow_at o_Fs0 0 rfl) dX8_numberRings_19 ?_
  refine lv_bipush (v := (-2)) hx hb dX8_numberRings_22 (by decide) ?_
  have hPc := hP.sub (ws' := [(Ad3, .inl (Ka1, 400, .inl Fa1))]) [2] rfl
  have hDc := hD.sub (ws' := [(Ad3, .inl (Ka1, 400, .inl Fa1))]) [2] (by decide) rfl
  have hKc := hK.sub (tys' := [(Ka1, .int)]) [0] rfl
  have hFc := va_free (wc := [(Ad3, .inl (Ka1, 400, .inl Fa1))]) hD hS hA [2] rfl
  refine va_callv (va_runS (As := [.ref Ad3, .int 0, .int 0, .int (-2)]) (rest := []) ⟨hx, hb, hml, hown, hts⟩ (z_J7_fill_fda19_2 l dC dI H.size Ad3 Fa1 Ka1  ) (va_cwS 4 hts g_z_X8_numberRings_z_J7_fill_fda19_2_67 rfl rfl rfl (by decide +kernel) ⟨Nat.le_of_ble_eq_true rfl, Nat.le_of_ble_eq_true rfl⟩) ⟨fun a U g mk q => by obtain ⟨q0, q1, qP, qK, qD⟩ := q; exact ⟨q0, q1, qP, va_K.moved (u := U) (U := U.calling g mk a) (Vm.Alike.refl U.vm) qK, qD⟩, fun U hU hW => ⟨rfl, by rw [hU], by rw [hU]; exact hPc, va_K.moved hW.alike hKc, hDc.weaken (fun _ _ _ _ => trivial)⟩⟩ rfl rfl hl.1 rfl (lv_room (Nat.le_of_ble_eq_true rfl)) dX8_numberRings_24 ⟨Nat.le_of_ble_eq_true rfl, Nat.le_of_ble_eq_true rfl⟩) hS (fun q _ h => hFc q h) hFc (fun u t H1 locs ht hvm hw hB hz1 hk1 hS => ?_)
  obtain ⟨hP1, hK1, hD1⟩ := hB
  rw [ht] at hP1
  try dsimp only at hw
  obtain ⟨hP, hD⟩ := va_join (wr := [(Ad0, .inr (8, Fs0)), (Ad1, .inr (11, Fs1)), (Ad2, .inl (Ka0, 400, .inl Fa0))]) (w1 := [(Ad3, .inl (Ka1, 400, .inl Fa1))]) hP hD [2] [0, 1, 3] rfl rfl (by decide) (by decide) hk1 hFc hP1 hD1
  have hK := hK.sub (tys' := [(Ka0, .int), (Ka1, .int)]) [1, 0] rfl
  generalize H1 = H at hP hS ⊢
  have hP : va_P (dC, dI) vwCl [(Ad0, .inr (8, Fs0)), (Ad1, .inr (11, Fs1)), (Ad2, .inl (Ka0, 400, .inl Fa0)), (Ad3, .inl (Ka1, 400, .inl Fa1))] H := hP
  have hD : va_D A [(Ad0, .inr (8, Fs0)), (Ad1, .inr (11, Fs1)), (Ad2, .inl (Ka0, 400, .inl Fa0)), (Ad3, .inl (Ka1, 400, .inl Fa1))] := hD
  refine lv_iconst (v := 0) hx hb dX8_numberRings_27 (by decide) ?_
  refine lv_istore_n (lv' := [(2, .int 0), (0, .ref Ad1), (1, .ref Ad0)]) hx hb dX8_numberRings_28 rfl hl (by decide) rfl (fun ls hl => ?_)
  refine lv_iload_n hx hb dX8_numberRings_29 rfl (lv_at hl 0 rfl) ?_
  refine lv_aload_n hx hb dX8_numberRings_30 rfl (lv_at hl 2 rfl) ?_
  refine va_get (D := (dC, dI)) (ci := 8) (v := .int 0) (C := RX5) (T := TX5) (N := 21) hx hb hts (in_z_X8_numberRings_X5) hown hK hP 0 rfl rfl 0 (by decide) (hts (.fieldLink RX8 64 "HeapWorks$Picture" "things" "I") (by decide +kernel)) (fun _ h9 => h9) (ow_at o_Fs0 0 rfl) dX8_numberRings_31 ?_
  refine lv_icmp_ge (tgt := 58) hx hb dX8_numberRings_34 (by decide) (fun c4819 => ?_) (fun c4819 => absurd c4819 (by decide))
  refine lv_aload_n hx hb dX8_numberRings_58 rfl (lv_at hl 1 rfl) ?_
  refine lv_iconst (v := 0) hx hb dX8_numberRings_59 (by decide) ?_
  refine va_put (D := (dC, dI)) (ci := 11) (v := .int 0) (ty := .int) (C := RX8) (T := TX8) (N := 18) hx hb hts (in_z_X8_numberRings_X8) tyX8 tyX8_ok nmX8 hown hK hP hD hS 1 rfl rfl 9 (by decide) (hts (.fieldLink RX8 142 "HeapWorks$Shape" "rings" "I") (by decide +kernel)) (fun _ h9 => h9) rfl (by decide +kernel) rfl rfl (by rw [o_Fs1.2.1]; decide) dX8_numberRings_60 (fun H locs hP hD hS => ?_)
  have hP : va_P (dC, dI) vwCl [(Ad0, .inr (8, Fs0)), (Ad1, .inr (11, (Fs1.set 9 (.int 0)))), (Ad2, .inl (Ka0, 400, .inl Fa0)), (Ad3, .inl (Ka1, 400, .inl Fa1))] H := hP
  have hD : va_D A [(Ad0, .inr (8, Fs0)), (Ad1, .inr (11, (Fs1.set 9 (.int 0)))), (Ad2, .inl (Ka0, 400, .inl Fa0)), (Ad3, .inl (Ka1, 400, .inl Fa1))] := hD
  have o_s4820 := ow_set o_Fs1 9 (.int 0) (by decide) (l' := [(9, .int 0), (13, .ref Ad2), (15, .ref Ad3)]) (w' := [9]) rfl rfl
  generalize (Fs1.set 9 (.int 0)) = s4820 at hP hD o_s4820
  refine lv_iconst (v := 0) hx hb dX8_numberRings_63 (by decide) ?_
  refine lv_istore_n (lv' := [(2, .int 0), (0, .ref Ad1), (1, .ref Ad0)]) hx hb dX8_numberRings_64 rfl hl (by decide) rfl (fun ls hl => ?_)
  refine lv_iload_n hx hb dX8_numberRings_65 rfl (lv_at hl 0 rfl) ?_
  refine lv_aload_n hx hb dX8_numberRings_66 rfl (lv_at hl 2 rfl) ?_
  refine va_get (D := (dC, dI)) (ci := 8) (v := .int 0) (C := RX5) (T := TX5) (N := 21) hx hb hts (in_z_X8_numberRings_X5) hown hK hP 0 rfl rfl 0 (by decide) (hts (.fieldLink RX8 64 "HeapWorks$Picture" "things" "I") (by decide +kernel)) (fun _ h9 => h9) (ow_at o_Fs0 0 rfl) dX8_numberRings_67 ?_
  refine lv_icmp_ge (tgt := 154) hx hb dX8_numberRings_70 (by decide) (fun c4821 => ?_) (fun c4821 => absurd c4821 (by decide))
  have hP9 := hP.sub (ws' := [(Ad0, .inr (8, Fs0)), (Ad1, .inr (11, s4820)), (Ad2, .inl (Ka0, 400, .inl Fa0)), (Ad3, .inl (Ka1, 400, .inl Fa1))]) [0, 1, 2, 3] rfl
  have hD9 := hD.sub (ws' := [(Ad0, .inr (8, Fs0)), (Ad1, .inr (11, s4820)), (Ad2, .inl (Ka0, 400, .inl Fa0)), (Ad3, .inl (Ka1, 400, .inl Fa1))]) [0, 1, 2, 3] (by decide) rfl
  have hK9 := hK.sub (tys' := [(Ka0, .int), (Ka1, .int)]) [0, 1] rfl
  exact W.vret hx hb hr (fun t ht hW => ⟨⟨s4820, rfl, o_s4820, by rw [ht]; exact hP9, va_K.moved hW.alike hK9, hD9⟩, hS.F ht⟩) hS.2.2 dX8_numberRings_154

def l_z_X8_needRings : List Cond := [.fieldLink RX8 60 "HeapWorks$Shape" "known" "I", .fieldLink RX8 64 "HeapWorks$Picture" "things" "I", .methodLink RX8 123 yX8_numberRings, .instanceMethod yX8_numberRings, .selects RX8 yX8_numberRings yX8_numberRings, .initialized RX8, .code yX8_numberRings cX8_numberRings 4 none, .fieldLink RX8 45 "HeapWorks$Shape" "low" "[I", .methodLink RX8 67 yJ7_fill_fda19, .static yJ7_fill_fda19, .initialized RJ7, .fieldLink RX8 51 "HeapWorks$Shape" "path" "[I", .fieldLink RX8 142 "HeapWorks$Shape" "rings" "I", .code yJ7_fill_fda19 cJ7_fill_fda19 5 none, .methodLink RJ7 13 yJ7_rangeCheck_23922, .static yJ7_rangeCheck_23922, .code yJ7_rangeCheck_23922 cJ7_rangeCheck_23922 3 none]
def w_z_X8_needRings : List Cond := .code yX8_needRings cX8_needRings 4 none :: (l_z_X8_needRings ++ ((wsX80 ++ wsX50)))
theorem in_z_X8_needRings_X8 : ∀ w ∈ wsX80, w ∈ w_z_X8_needRings := fun w h => List.mem_cons_of_mem _ (List.mem_append_right _ (List.mem_append_left _ h))
theorem in_z_X8_needRings_X5 : ∀ w ∈ wsX50, w ∈ w_z_X8_needRings := fun w h => List.mem_cons_of_mem _ (List.mem_append_right _ (List.mem_append_right _ (h)))
theorem g_z_X8_needRings_z_X8_numberRings_123 : GoodIn w_z_X8_needRings (wsV RX8 123 RX8 yX8_numberRings w_z_X8_numberRings) := goodIn_app (goodIn_sub (by decide +kernel) (by decide +kernel)) (goodIn_ca (goodIn_sub (by decide +kernel) (by decide +kernel)) (goodIn_app (goodIn_in in_z_X8_needRings_X8 gd_X8) (goodIn_in in_z_X8_needRings_X5 gd_X5)))
set_option maxHeartbeats 4000000 in
set_option maxRecDepth 100000 in
theorem z_X8_needRings (l : Launch) (dC : Nat → ClassId) (dI : Nat → Nat → Nat) (sz : Nat) (Ad0 : Nat) (Fs0 : List Value) (Ad1 : Nat) (Fs1 : List Value) (Ad2 : Nat) (Fa0 : Nat → Int32) (Ka0 : ClassId) (Ad3 : Nat) (Fa1 : Nat → Int32) (Ka1 : ClassId) (k_Fs0 : fh Fs0 21 [(0, .int 0)]) (k_Fs1 : fh Fs1 18 [(1, .int 0), (13, .ref Ad2), (15, .ref Ad3)])  : Met l yX8_needRings w_z_X8_needRings ({ frames := 3, cells := 0, slots := 0, locals := 69 }) (va_Pc [.ref Ad1, .ref Ad0] (fun U => U.heap.size = sz ∧ Wd dC dI [(Ka0, .int), (Ka1, .int)] (fun _ => True) [(Ad0, .inr (8, Fs0)), (Ad1, .inr (11, Fs1)), (Ad2, .inl (Ka0, 400, .inl Fa0)), (Ad3, .inl (Ka1, 400, .inl Fa1))] U)) (va_Qv (fun (u : List Value) => ow Fs1 (u) 18 [9, 1] [(9, .int 0), (13, .ref Ad2), (15, .ref Ad3), (1, .int 4), (13, .ref Ad2), (15, .ref Ad3)]) (fun (u : List Value) t => Wd dC dI [(Ka0, .int), (Ka1, .int)] (va_A [(Ad0, .inr (8, Fs0)), (Ad1, .inr (11, Fs1)), (Ad2, .inl (Ka0, 400, .inl Fa0)), (Ad3, .inl (Ka1, 400, .inl Fa1))] sz) [(Ad0, .inr (8, Fs0)), (Ad1, .inr (11, (u))), (Ad2, .inl (Ka0, 400, .inl Fa0)), (Ad3, .inl (Ka1, 400, .inl Fa1))] t) (va_A [(Ad0, .inr (8, Fs0)), (Ad1, .inr (11, Fs1)), (Ad2, .inl (Ka0, 400, .inl Fa0)), (Ad3, .inl (Ka1, 400, .inl Fa1))] sz))  0 0 (va_A [(Ad0, .inr (8, Fs0)), (Ad1, .inr (11, Fs1)), (Ad2, .inl (Ka0, 400, .inl Fa0)), (Ad3, .inl (Ka1, 400, .inl Fa1))] sz) := by
  refine Met.ofW (cc := cX8_needRings) (maxL := 4) (ret := none) (by decide) rfl ?_
  intro p e s m args below meth c s₁ B hml hv
  obtain ⟨rfl, hsz, hP, hK, hD0⟩ := hv
  have hx := B.exec
  have hb := B.bytes
  have hr := B.returns
  have hts := atoms_spec (ws := w_z_X8_needRings) B.pre
  have hown : s.vm.findClass RX8 = some m.cls := findClass_of_methodNamed B.named
  have hlocks := B.notSynchronized
  subst hsz
  have hD := hD0.self (sz := s.heap.size)
  generalize hAe : va_A [(Ad0, .inr (8, Fs0)), (Ad1, .inr (11, Fs1)), (Ad2, .inl (Ka0, 400, .inl Fa0)), (Ad3, .inl (Ka1, 400, .inl Fa1))] s.heap.size = A at hD ⊢
  have hA : ∀ q : Nat, s.heap.size ≤ q → A q := fun q h => by rw [← hAe]; exact Or.inr h
  have hS : va_S A s.heap s.heap [] := va_S.rf
  have hl := lv_entry ([.ref Ad1, .ref Ad0]) (n := 4) (Nat.le_of_ble_eq_true rfl)
  rw [lg_entry_eq]
  generalize (lg_sl ([.ref Ad1, .ref Ad0]) ++ List.replicate (4 - (lg_sl ([.ref Ad1, .ref Ad0])).length) Slot.unset).toArray = ls at hl ⊢
  have hl : lv_has ls 4 [(0, .ref Ad1), (1, .ref Ad0)] := hl
  have o_Fs0 := ow_0 k_Fs0
  have o_Fs1 := ow_0 k_Fs1
  refine lv_aload_n hx hb dX8_needRings_0 rfl (lv_at hl 0 rfl) ?_
  refine va_get (D := (dC, dI)) (ci := 11) (v := .int 0) (C := RX8) (T := TX8) (N := 18) hx hb hts (in_z_X8_needRings_X8) hown hK hP 1 rfl rfl 1 (by decide) (hts (.fieldLink RX8 60 "HeapWorks$Shape" "known" "I") (by decide +kernel)) (fun _ h9 => h9) (ow_at o_Fs1 0 rfl) dX8_needRings_1 ?_
  refine lv_iconst (v := 4) hx hb dX8_needRings_4 (by decide) ?_
  refine lv_iand hx hb dX8_needRings_5  ?_
  refine lv_topi (fun x4823 ex4823 => ?_)
  obtain rfl : x4823 = 0 := ex4823.trans (by decide)
  refine lv_if_eq (tgt := 10) hx hb dX8_needRings_6 (by decide) (fun c4824 => ?_) (fun c4824 => absurd c4824 (by decide))
  refine lv_aload_n hx hb dX8_needRings_10 rfl (lv_at hl 0 rfl) ?_
  refine lv_dup hx hb dX8_needRings_11 rfl ?_
  refine va_get (D := (dC, dI)) (ci := 11) (v := .int 0) (C := RX8) (T := TX8) (N := 18) hx hb hts (in_z_X8_needRings_X8) hown hK hP 1 rfl rfl 1 (by decide) (hts (.fieldLink RX8 60 "HeapWorks$Shape" "known" "I") (by decide +kernel)) (fun _ h9 => h9) (ow_at o_Fs1 0 rfl) dX8_needRings_12 ?_
  refine lv_iconst (v := 4) hx hb dX8_needRings_15 (by decide) ?_
  refine lv_ior hx hb dX8_needRings_16  ?_
  refine lv_topi (fun x4825 ex4825 => ?_)
  obtain rfl : x4825 = 4 := ex4825.trans (by decide)
  refine va_put (D := (dC, dI)) (ci := 11) (v := .int 4) (ty := .int) (C := RX8) (T := TX8) (N := 18) hx hb hts (in_z_X8_needRings_X8) tyX8 tyX8_ok nmX8 hown hK hP hD hS 1 rfl rfl 1 (by decide) (hts (.fieldLink RX8 60 "HeapWorks$Shape" "known" "I") (by decide +kernel)) (fun _ h9 => h9) rfl (by decide +kernel) rfl rfl (by rw [o_Fs1.2.1]; decide) dX8_needRings_17 (fun H locs hP hD hS => ?_)
  have hP : va_P (dC, dI) vwCl [(Ad0, .inr (8, Fs0)), (Ad1, .inr (11, (Fs1.set 1 (.int 4)))), (Ad2, .inl (Ka0, 400, .inl Fa0)), (Ad3, .inl (Ka1, 400, .inl Fa1))] H := hP
  have hD : va_D A [(Ad0, .inr (8, Fs0)), (Ad1, .inr (11, (Fs1.set 1 (.int 4)))), (Ad2, .inl (Ka0, 400, .inl Fa0)), (Ad3, .inl (Ka1, 400, .inl Fa1))] := hD
  have o_s4826 := ow_set o_Fs1 1 (.int 4) (by decide) (l' := [(1, .int 4), (13, .ref Ad2), (15, .ref Ad3)]) (w' := [1]) rfl rfl
  generalize (Fs1.set 1 (.int 4)) = s4826 at hP hD o_s4826
  refine lv_iconst (v := 0) hx hb dX8_needRings_20 (by decide) ?_
  refine lv_istore_n (lv' := [(2, .int 0), (0, .ref Ad1), (1, .ref Ad0)]) hx hb dX8_needRings_21 rfl hl (by decide) rfl (fun ls hl => ?_)
  refine lv_iload_n hx hb dX8_needRings_22 rfl (lv_at hl 0 rfl) ?_
  refine lv_aload_n hx hb dX8_needRings_23 rfl (lv_at hl 2 rfl) ?_
  refine va_get (D := (dC, dI)) (ci := 8) (v := .int 0) (C := RX5) (T := TX5) (N := 21) hx hb hts (in_z_X8_needRings_X5) hown hK hP 0 rfl rfl 0 (by decide) (hts (.fieldLink RX8 64 "HeapWorks$Picture" "things" "I") (by decide +kernel)) (fun _ h9 => h9) (ow_at o_Fs0 0 rfl) dX8_needRings_24 ?_
  refine lv_icmp_ge (tgt := 62) hx hb dX8_needRings_27 (by decide) (fun c4827 => ?_) (fun c4827 => absurd c4827 (by decide))
  refine lv_iconst (v := 0) hx hb dX8_needRings_62 (by decide) ?_
  refine lv_istore_n (lv' := [(2, .int 0), (0, .ref Ad1), (1, .ref Ad0)]) hx hb dX8_needRings_63 rfl hl (by decide) rfl (fun ls hl => ?_)
  refine lv_iconst (v := 0) hx hb dX8_needRings_64 (by decide) ?_
  refine lv_istore_n (lv' := [(3, .int 0), (2, .int 0), (0, .ref Ad1), (1, .ref Ad0)]) hx hb dX8_needRings_65 rfl hl (by decide) rfl (fun ls hl => ?_)
  refine lv_iload_n hx hb dX8_needRings_66 rfl (lv_at hl 0 rfl) ?_
  refine lv_aload_n hx hb dX8_needRings_67 rfl (lv_at hl 3 rfl) ?_
  refine va_get (D := (dC, dI)) (ci := 8) (v := .int 0) (C := RX5) (T := TX5) (N := 21) hx hb hts (in_z_X8_needRings_X5) hown hK hP 0 rfl rfl 0 (by decide) (hts (.fieldLink RX8 64 "HeapWorks$Picture" "things" "I") (by decide +kernel)) (fun _ h9 => h9) (ow_at o_Fs0 0 rfl) dX8_needRings_68 ?_
  refine lv_icmp_ge (tgt := 98) hx hb dX8_needRings_71 (by decide) (fun c4828 => ?_) (fun c4828 => absurd c4828 (by decide))
  refine lv_aload_n hx hb dX8_needRings_98 rfl (lv_at hl 2 rfl) ?_
  refine lv_aload_n hx hb dX8_needRings_99 rfl (lv_at hl 3 rfl) ?_
  have hPc := hP.sub (ws' := [(Ad0, .inr (8, Fs0)), (Ad1, .inr (11, s4826)), (Ad2, .inl (Ka0, 400, .inl Fa0)), (Ad3, .inl (Ka1, 400, .inl Fa1))]) [0, 1, 2, 3] rfl
  have hDc := hD.sub (ws' := [(Ad0, .inr (8, Fs0)), (Ad1, .inr (11, s4826)), (Ad2, .inl (Ka0, 400, .inl Fa0)), (Ad3, .inl (Ka1, 400, .inl Fa1))]) [0, 1, 2, 3] (by decide) rfl
  have hKc := hK.sub (tys' := [(Ka0, .int), (Ka1, .int)]) [0, 1] rfl
  have hFc := va_free (wc := [(Ad0, .inr (8, Fs0)), (Ad1, .inr (11, s4826)), (Ad2, .inl (Ka0, 400, .inl Fa0)), (Ad3, .inl (Ka1, 400, .inl Fa1))]) hD hS hA [0, 1, 2, 3] rfl
  refine va_callv (va_runV (As := [.ref Ad0]) (rest := []) ⟨hx, hb, hml, hown, hts⟩ (z_X8_numberRings l dC dI H.size Ad0 Fs0 Ad1 s4826 Ad2 Fa0 Ka0 Ad3 Fa1 Ka1 (fh_sub o_Fs0.2 [0] rfl) (fh_sub o_s4826.2 [1, 2] rfl) ) (cwV 1 hts g_z_X8_needRings_z_X8_numberRings_123 rfl rfl rfl (by decide +kernel) ⟨Nat.le_of_ble_eq_true rfl, Nat.le_of_ble_eq_true rfl⟩) ⟨fun a U g mk q => by obtain ⟨q0, q1, qP, qK, qD⟩ := q; exact ⟨q0, q1, qP, va_K.moved (u := U) (U := U.calling g mk a) (Vm.Alike.refl U.vm) qK, qD⟩, va_recv hK hP (ci := 11) (q0 := 1) rfl rfl, fun U hU hW => ⟨rfl, by rw [hU], by rw [hU]; exact hPc, va_K.moved hW.alike hKc, hDc.weaken (fun _ _ _ _ => trivial)⟩⟩ rfl rfl hl.1 rfl (lv_room (Nat.le_of_ble_eq_true rfl)) dX8_needRings_100 ⟨Nat.le_of_ble_eq_true rfl, Nat.le_of_ble_eq_true rfl⟩) hS (fun q _ h => hFc q h) hFc (fun u t H1 locs ht hvm hw hB hz1 hk1 hS => ?_)
  obtain ⟨s4840, rfl⟩ : ∃ z, z = u := ⟨_, rfl⟩
  obtain ⟨hP1, hK1, hD1⟩ := hB
  rw [ht] at hP1
  try dsimp only at hw
  obtain ⟨hP, hD⟩ := va_join (wr := []) (w1 := [(Ad0, .inr (8, Fs0)), (Ad1, .inr (11, s4840)), (Ad2, .inl (Ka0, 400, .inl Fa0)), (Ad3, .inl (Ka1, 400, .inl Fa1))]) hP hD [0, 1, 2, 3] [] rfl rfl (by decide) (by decide) hk1 hFc hP1 hD1
  have hK := hK.sub (tys' := [(Ka0, .int), (Ka1, .int)]) [0, 1] rfl
  generalize H1 = H at hP hS ⊢
  have hP : va_P (dC, dI) vwCl [(Ad0, .inr (8, Fs0)), (Ad1, .inr (11, s4840)), (Ad2, .inl (Ka0, 400, .inl Fa0)), (Ad3, .inl (Ka1, 400, .inl Fa1))] H := hP
  have hD : va_D A [(Ad0, .inr (8, Fs0)), (Ad1, .inr (11, s4840)), (Ad2, .inl (Ka0, 400, .inl Fa0)), (Ad3, .inl (Ka1, 400, .inl Fa1))] := hD
  have o_s4840 := hw
  have o_s4840 := ow_on o_s4826 o_s4840 (l' := [(9, .int 0), (13, .ref Ad2), (15, .ref Ad3), (1, .int 4), (13, .ref Ad2), (15, .ref Ad3)]) (w' := [9, 1]) rfl rfl
  have hP9 := hP.sub (ws' := [(Ad0, .inr (8, Fs0)), (Ad1, .inr (11, s4840)), (Ad2, .inl (Ka0, 400, .inl Fa0)), (Ad3, .inl (Ka1, 400, .inl Fa1))]) [0, 1, 2, 3] rfl
  have hD9 := hD.sub (ws' := [(Ad0, .inr (8, Fs0)), (Ad1, .inr (11, s4840)), (Ad2, .inl (Ka0, 400, .inl Fa0)), (Ad3, .inl (Ka1, 400, .inl Fa1))]) [0, 1, 2, 3] (by decide) rfl
  have hK9 := hK.sub (tys' := [(Ka0, .int), (Ka1, .int)]) [0, 1] rfl
  exact W.vret hx hb hr (fun t ht hW => ⟨⟨s4840, rfl, o_s4840, by rw [ht]; exact hP9, va_K.moved hW.alike hK9, hD9⟩, hS.F ht⟩) hS.2.2 dX8_needRings_103

def l_z_X5_ringCount : List Cond := [.fieldLink RX5 78 "HeapWorks$Picture" "shape" "LHeapWorks$Shape;", .methodLink RX5 176 yX8_needRings, .instanceMethod yX8_needRings, .selects RX8 yX8_needRings yX8_needRings, .initialized RX8, .fieldLink RX5 182 "HeapWorks$Shape" "rings" "I", .code yX8_needRings cX8_needRings 4 none, .fieldLink RX8 60 "HeapWorks$Shape" "known" "I", .fieldLink RX8 64 "HeapWorks$Picture" "things" "I", .methodLink RX8 123 yX8_numberRings, .instanceMethod yX8_numberRings, .selects RX8 yX8_numberRings yX8_numberRings, .code yX8_numberRings cX8_numberRings 4 none, .fieldLink RX8 45 "HeapWorks$Shape" "low" "[I", .methodLink RX8 67 yJ7_fill_fda19, .static yJ7_fill_fda19, .initialized RJ7, .fieldLink RX8 51 "HeapWorks$Shape" "path" "[I", .fieldLink RX8 142 "HeapWorks$Shape" "rings" "I", .code yJ7_fill_fda19 cJ7_fill_fda19 5 none, .methodLink RJ7 13 yJ7_rangeCheck_23922, .static yJ7_rangeCheck_23922, .code yJ7_rangeCheck_23922 cJ7_rangeCheck_23922 3 none]
def w_z_X5_ringCount : List Cond := .code yX5_ringCount cX5_ringCount 1 (some .int) :: (l_z_X5_ringCount ++ ((wsX50 ++ wsX80)))
theorem in_z_X5_ringCount_X5 : ∀ w ∈ wsX50, w ∈ w_z_X5_ringCount := fun w h => List.mem_cons_of_mem _ (List.mem_append_right _ (List.mem_append_left _ h))
theorem in_z_X5_ringCount_X8 : ∀ w ∈ wsX80, w ∈ w_z_X5_ringCount := fun w h => List.mem_cons_of_mem _ (List.mem_append_right _ (List.mem_append_right _ (h)))
theorem g_z_X5_ringCount_z_X8_needRings_176 : GoodIn w_z_X5_ringCount (wsV RX5 176 RX8 yX8_needRings w_z_X8_needRings) := goodIn_app (goodIn_sub (by decide +kernel) (by decide +kernel)) (goodIn_ca (goodIn_sub (by decide +kernel) (by decide +kernel)) (goodIn_app (goodIn_in in_z_X5_ringCount_X8 gd_X8) (goodIn_in in_z_X5_ringCount_X5 gd_X5)))
set_option maxHeartbeats 4000000 in
set_option maxRecDepth 100000 in
theorem z_X5_ringCount (l : Launch) (dC : Nat → ClassId) (dI : Nat → Nat → Nat) (sz : Nat) (Ad0 : Nat) (Fs0 : List Value) (Ad1 : Nat) (Fs1 : List Value) (Ad2 : Nat) (Fa0 : Nat → Int32) (Ka0 : ClassId) (Ad3 : Nat) (Fa1 : Nat → Int32) (Ka1 : ClassId) (k_Fs0 : fh Fs0 21 [(0, .int 0), (20, .ref Ad1)]) (k_Fs1 : fh Fs1 18 [(1, .int 0), (13, .ref Ad2), (15, .ref Ad3), (9, .int 0)])  : Met l yX5_ringCount w_z_X5_ringCount ({ frames := 4, cells := 0, slots := 0, locals := 92 }) (va_Pc [.ref Ad0] (fun U => U.heap.size = sz ∧ Wd dC dI [(Ka0, .int), (Ka1, .int)] (fun _ => True) [(Ad0, .inr (8, Fs0)), (Ad1, .inr (11, Fs1)), (Ad2, .inl (Ka0, 400, .inl Fa0)), (Ad3, .inl (Ka1, 400, .inl Fa1))] U)) (va_Qi (fun (r : Int32) (u : List Value) => (r = 0 ∧ ow Fs1 (u) 18 [9, 1] [(9, .int 0), (13, .ref Ad2), (15, .ref Ad3), (1, .int 4), (13, .ref Ad2), (15, .ref Ad3), (13, .ref Ad2), (15, .ref Ad3)])) (fun (u : List Value) t => Wd dC dI [(Ka0, .int), (Ka1, .int)] (va_A [(Ad0, .inr (8, Fs0)), (Ad1, .inr (11, Fs1)), (Ad2, .inl (Ka0, 400, .inl Fa0)), (Ad3, .inl (Ka1, 400, .inl Fa1))] sz) [(Ad0, .inr (8, Fs0)), (Ad1, .inr (11, (u))), (Ad2, .inl (Ka0, 400, .inl Fa0)), (Ad3, .inl (Ka1, 400, .inl Fa1))] t) (va_A [(Ad0, .inr (8, Fs0)), (Ad1, .inr (11, Fs1)), (Ad2, .inl (Ka0, 400, .inl Fa0)), (Ad3, .inl (Ka1, 400, .inl Fa1))] sz))  0 0 (va_A [(Ad0, .inr (8, Fs0)), (Ad1, .inr (11, Fs1)), (Ad2, .inl (Ka0, 400, .inl Fa0)), (Ad3, .inl (Ka1, 400, .inl Fa1))] sz) := by
  refine Met.ofW (cc := cX5_ringCount) (maxL := 1) (ret := (some .int)) (by decide) rfl ?_
  intro p e s m args below meth c s₁ B hml hv
  obtain ⟨rfl, hsz, hP, hK, hD0⟩ := hv
  have hx := B.exec
  have hb := B.bytes
  have hr := B.returns
  have hts := atoms_spec (ws := w_z_X5_ringCount) B.pre
  have hown : s.vm.findClass RX5 = some m.cls := findClass_of_methodNamed B.named
  have hlocks := B.notSynchronized
  subst hsz
  have hD := hD0.self (sz := s.heap.size)
  generalize hAe : va_A [(Ad0, .inr (8, Fs0)), (Ad1, .inr (11, Fs1)), (Ad2, .inl (Ka0, 400, .inl Fa0)), (Ad3, .inl (Ka1, 400, .inl Fa1))] s.heap.size = A at hD ⊢
  have hA : ∀ q : Nat, s.heap.size ≤ q → A q := fun q h => by rw [← hAe]; exact Or.inr h
  have hS : va_S A s.heap s.heap [] := va_S.rf
  have hl := lv_entry ([.ref Ad0]) (n := 1) (Nat.le_of_ble_eq_true rfl)
  rw [lg_entry_eq]
  generalize (lg_sl ([.ref Ad0]) ++ List.replicate (1 - (lg_sl ([.ref Ad0])).length) Slot.unset).toArray = ls at hl ⊢
  have hl : lv_has ls 1 [(0, .ref Ad0)] := hl
  have o_Fs0 := ow_0 k_Fs0
  have o_Fs1 := ow_0 k_Fs1
  refine lv_aload_n hx hb dX5_ringCount_0 rfl (lv_at hl 0 rfl) ?_
  refine va_get (D := (dC, dI)) (ci := 8) (v := .ref Ad1) (C := RX5) (T := TX5) (N := 21) hx hb hts (in_z_X5_ringCount_X5) hown hK hP 0 rfl rfl 20 (by decide) (hts (.fieldLink RX5 78 "HeapWorks$Picture" "shape" "LHeapWorks$Shape;") (by decide +kernel)) (fun _ h9 => h9) (ow_at o_Fs0 1 rfl) dX5_ringCount_1 ?_
  refine lv_aload_n hx hb dX5_ringCount_4 rfl (lv_at hl 0 rfl) ?_
  have hPc := hP.sub (ws' := [(Ad0, .inr (8, Fs0)), (Ad1, .inr (11, Fs1)), (Ad2, .inl (Ka0, 400, .inl Fa0)), (Ad3, .inl (Ka1, 400, .inl Fa1))]) [0, 1, 2, 3] rfl
  have hDc := hD.sub (ws' := [(Ad0, .inr (8, Fs0)), (Ad1, .inr (11, Fs1)), (Ad2, .inl (Ka0, 400, .inl Fa0)), (Ad3, .inl (Ka1, 400, .inl Fa1))]) [0, 1, 2, 3] (by decide) rfl
  have hKc := hK.sub (tys' := [(Ka0, .int), (Ka1, .int)]) [0, 1] rfl
  have hFc := va_free (wc := [(Ad0, .inr (8, Fs0)), (Ad1, .inr (11, Fs1)), (Ad2, .inl (Ka0, 400, .inl Fa0)), (Ad3, .inl (Ka1, 400, .inl Fa1))]) hD hS hA [0, 1, 2, 3] rfl
  refine va_callv (va_runV (As := [.ref Ad0]) (rest := []) ⟨hx, hb, hml, hown, hts⟩ (z_X8_needRings l dC dI s.heap.size Ad0 Fs0 Ad1 Fs1 Ad2 Fa0 Ka0 Ad3 Fa1 Ka1 (fh_sub o_Fs0.2 [0] rfl) (fh_sub o_Fs1.2 [0, 1, 2] rfl) ) (cwV 1 hts g_z_X5_ringCount_z_X8_needRings_176 rfl rfl rfl (by decide +kernel) ⟨Nat.le_of_ble_eq_true rfl, Nat.le_of_ble_eq_true rfl⟩) ⟨fun a U g mk q => by obtain ⟨q0, q1, qP, qK, qD⟩ := q; exact ⟨q0, q1, qP, va_K.moved (u := U) (U := U.calling g mk a) (Vm.Alike.refl U.vm) qK, qD⟩, va_recv hK hP (ci := 11) (q0 := 1) rfl rfl, fun U hU hW => ⟨rfl, by rw [hU], by rw [hU]; exact hPc, va_K.moved hW.alike hKc, hDc.weaken (fun _ _ _ _ => trivial)⟩⟩ rfl rfl hl.1 rfl (lv_room (Nat.le_of_ble_eq_true rfl)) dX5_ringCount_5 ⟨Nat.le_of_ble_eq_true rfl, Nat.le_of_ble_eq_true rfl⟩) hS (fun q _ h => hFc q h) hFc (fun u t H1 locs ht hvm hw hB hz1 hk1 hS => ?_)
  obtain ⟨s4860, rfl⟩ : ∃ z, z = u := ⟨_, rfl⟩
  obtain ⟨hP1, hK1, hD1⟩ := hB
  rw [ht] at hP1
  try dsimp only at hw
  obtain ⟨hP, hD⟩ := va_join (wr := []) (w1 := [(Ad0, .inr (8, Fs0)), (Ad1, .inr (11, s4860)), (Ad2, .inl (Ka0, 400, .inl Fa0)), (Ad3, .inl (Ka1, 400, .inl Fa1))]) hP hD [0, 1, 2, 3] [] rfl rfl (by decide) (by decide) hk1 hFc hP1 hD1
  have hK := hK.sub (tys' := [(Ka0, .int), (Ka1, .int)]) [0, 1] rfl
  generalize H1 = H at hP hS ⊢
  have hP : va_P (dC, dI) vwCl [(Ad0, .inr (8, Fs0)), (Ad1, .inr (11, s4860)), (Ad2, .inl (Ka0, 400, .inl Fa0)), (Ad3, .inl (Ka1, 400, .inl Fa1))] H := hP
  have hD : va_D A [(Ad0, .inr (8, Fs0)), (Ad1, .inr (11, s4860)), (Ad2, .inl (Ka0, 400, .inl Fa0)), (Ad3, .inl (Ka1, 400, .inl Fa1))] := hD
  have o_s4860 := hw
  have o_s4860 := ow_on o_Fs1 o_s4860 (l' := [(9, .int 0), (13, .ref Ad2), (15, .ref Ad3), (1, .int 4), (13, .ref Ad2), (15, .ref Ad3), (13, .ref Ad2), (15, .ref Ad3)]) (w' := [9, 1]) rfl rfl
  refine lv_aload_n hx hb dX5_ringCount_8 rfl (lv_at hl 0 rfl) ?_
  refine va_get (D := (dC, dI)) (ci := 8) (v := .ref Ad1) (C := RX5) (T := TX5) (N := 21) hx hb hts (in_z_X5_ringCount_X5) hown hK hP 0 rfl rfl 20 (by decide) (hts (.fieldLink RX5 78 "HeapWorks$Picture" "shape" "LHeapWorks$Shape;") (by decide +kernel)) (fun _ h9 => h9) (ow_at o_Fs0 1 rfl) dX5_ringCount_9 ?_
  refine va_get (D := (dC, dI)) (ci := 11) (v := .int 0) (C := RX8) (T := TX8) (N := 18) hx hb hts (in_z_X5_ringCount_X8) hown hK hP 1 rfl rfl 9 (by decide) (hts (.fieldLink RX5 182 "HeapWorks$Shape" "rings" "I") (by decide +kernel)) (fun _ h9 => h9) (ow_at o_s4860 0 rfl) dX5_ringCount_12 ?_
  have hP9 := hP.sub (ws' := [(Ad0, .inr (8, Fs0)), (Ad1, .inr (11, s4860)), (Ad2, .inl (Ka0, 400, .inl Fa0)), (Ad3, .inl (Ka1, 400, .inl Fa1))]) [0, 1, 2, 3] rfl
  have hD9 := hD.sub (ws' := [(Ad0, .inr (8, Fs0)), (Ad1, .inr (11, s4860)), (Ad2, .inl (Ka0, 400, .inl Fa0)), (Ad3, .inl (Ka1, 400, .inl Fa1))]) [0, 1, 2, 3] (by decide) rfl
  have hK9 := hK.sub (tys' := [(Ka0, .int), (Ka1, .int)]) [0, 1] rfl
  exact W.iret (v := 0) hx hb hr (fun t ht hW => ⟨⟨0, s4860, rfl, ⟨rfl, o_s4860⟩, by rw [ht]; exact hP9, va_K.moved hW.alike hK9, hD9⟩, hS.F ht⟩) hS.2.2 dX5_ringCount_15

def l_z_J7_fill_53178_1 : List Cond := []
def w_z_J7_fill_53178_1 : List Cond := .code yJ7_fill_53178 cJ7_fill_53178 4 none :: (l_z_J7_fill_53178_1)
set_option maxHeartbeats 4000000 in
set_option maxRecDepth 100000 in
theorem z_J7_fill_53178_1 (l : Launch) (dC : Nat → ClassId) (dI : Nat → Nat → Nat) (sz : Nat) (Ad0 : Nat) (Fa0 : Nat → Int32) (Ka0 : ClassId)   : Met l yJ7_fill_53178 w_z_J7_fill_53178_1 ({ frames := 0, cells := 0, slots := 0, locals := 0 }) (va_Pc [.ref Ad0, .int (-1)] (fun U => U.heap.size = sz ∧ Wd dC dI [(Ka0, .int)] (fun _ => True) [(Ad0, .inl (Ka0, 512, .inl Fa0))] U)) (va_Qv (fun (u : (Nat → Int32)) => True) (fun (u : (Nat → Int32)) t => Wd dC dI [(Ka0, .int)] (va_A [(Ad0, .inl (Ka0, 512, .inl Fa0))] sz) [(Ad0, .inl (Ka0, 512, .inl ((u))))] t) (va_A [(Ad0, .inl (Ka0, 512, .inl Fa0))] sz))  0 0 (va_A [(Ad0, .inl (Ka0, 512, .inl Fa0))] sz) := by
  refine Met.ofW (cc := cJ7_fill_53178) (maxL := 4) (ret := none) (by decide) rfl ?_
  intro p e s m args below meth c s₁ B hml hv
  obtain ⟨rfl, hsz, hP, hK, hD0⟩ := hv
  have hx := B.exec
  have hb := B.bytes
  have hr := B.returns
  have hts := atoms_spec (ws := w_z_J7_fill_53178_1) B.pre
  have hown : s.vm.findClass RJ7 = some m.cls := findClass_of_methodNamed B.named
  have hlocks := B.notSynchronized
  subst hsz
  have hD := hD0.self (sz := s.heap.size)
  generalize hAe : va_A [(Ad0, .inl (Ka0, 512, .inl Fa0))] s.heap.size = A at hD ⊢
  have hA : ∀ q : Nat, s.heap.size ≤ q → A q := fun q h => by rw [← hAe]; exact Or.inr h
  have hS : va_S A s.heap s.heap [] := va_S.rf
  have hl := lv_entry ([.ref Ad0, .int (-1)]) (n := 4) (Nat.le_of_ble_eq_true rfl)
  rw [lg_entry_eq]
  generalize (lg_sl ([.ref Ad0, .int (-1)]) ++ List.replicate (4 - (lg_sl ([.ref Ad0, .int (-1)])).length) Slot.unset).toArray = ls at hl ⊢
  have hl : lv_has ls 4 [(0, .ref Ad0), (1, .int (-1))] := hl
  refine lv_iconst (v := 0) hx hb dJ7_fill_53178_0 (by decide) ?_
  refine lv_istore_n (lv' := [(2, .int 0), (0, .ref Ad0), (1, .int (-1))]) hx hb dJ7_fill_53178_1 rfl hl (by decide) rfl (fun ls hl => ?_)
  refine lv_aload_n hx hb dJ7_fill_53178_2 rfl (lv_at hl 1 rfl) ?_
  refine va_alen (v := 512) hx hb hK hP 0 0 rfl rfl (show Int32.ofNat 512 = 512 from by decide) dJ7_fill_53178_3 ?_
  refine lv_istore_n (lv' := [(3, .int 512), (2, .int 0), (0, .ref Ad0), (1, .int (-1))]) hx hb dJ7_fill_53178_4 rfl hl (by decide) rfl (fun ls hl => ?_)
  have HL1 : ∀ (n j4927 : Nat) (x4928 : Int32) (f4929 : Nat → Int32), x4928 = nI j4927 → 0 ≤ j4927 → j4927 ≤ 512 → 513 ≤ j4927 + n → ∀ (H : Heap) (locs : List Loc) (ls : Array Slot), va_P (dC, dI) vwCl [(Ad0, .inl (Ka0, 512, .inl f4929))] H → va_D A [(Ad0, .inl (Ka0, 512, .inl f4929))] → va_S A s.heap H locs → lv_has ls 4 [(3, .int 512), (2, .int x4928), (0, .ref Ad0), (1, .int (-1))] → W p l e (headSpec w_z_J7_fill_53178_1 ({ frames := 0, cells := 0, slots := 0, locals := 0 })).room s m ([.ref Ad0, .int (-1)]).toArray below meth c H locs 0 0 (MQ below (va_Qv (fun (u : (Nat → Int32)) => True) (fun (u : (Nat → Int32)) t => Wd dC dI [(Ka0, .int)] A [(Ad0, .inl (Ka0, 512, .inl ((u))))] t) A) ([.ref Ad0, .int (-1)]).toArray s 0 0 A) (F0 m 5 ls []) := by
    intro n
    induction n with
    | zero =>
      intro j4927 x4928 f4929 e4930 h4932 h4933 h4934
      exact absurd h4934 (by omega)
    | succ n ih =>
      intro j4927 x4928 f4929 e4930 h4932 h4933 h4934 H locs ls hP hD hS hl
      have t4931 : x4928.toInt = (j4927 : Int) := by rw [e4930]; exact nI_toInt (by omega)
      refine lv_iload_n hx hb dJ7_fill_53178_5 rfl (lv_at hl 1 rfl) ?_
      refine lv_iload_n hx hb dJ7_fill_53178_6 rfl (lv_at hl 0 rfl) ?_
      refine lv_icmp_ge (tgt := 20) hx hb dJ7_fill_53178_7 (by decide) (fun c4935 => ?_) (fun c4935 => ?_)
      · skip
        have hP9 := hP.sub (ws' := [(Ad0, .inl (Ka0, 512, .inl f4929))]) [0] rfl
        have hD9 := hD.sub (ws' := [(Ad0, .inl (Ka0, 512, .inl f4929))]) [0] (by decide) rfl
        have hK9 := hK.sub (tys' := [(Ka0, .int)]) [0] rfl
        exact W.vret hx hb hr (fun t ht hW => ⟨⟨f4929, rfl, trivial, by rw [ht]; exact hP9, va_K.moved hW.alike hK9, hD9⟩, hS.F ht⟩) hS.2.2 dJ7_fill_53178_20
      · skip
        refine lv_aload_n hx hb dJ7_fill_53178_10 rfl (lv_at hl 2 rfl) ?_
        refine lv_iload_n hx hb dJ7_fill_53178_11 rfl (lv_at hl 1 rfl) ?_
        refine lv_iload_n hx hb dJ7_fill_53178_12 rfl (lv_at hl 3 rfl) ?_
        refine va_iast hx hb hK hP hD hS 0 0 rfl rfl (by rw [vp_in_iff]; (try simp only [i_lt, i_le, i_eq, kc_512] at t4931 h4933 h4932 c4935); omega) dJ7_fill_53178_13 (fun H locs hP hD hS => ?_)
        have hP : va_P (dC, dI) vwCl [(Ad0, .inl (Ka0, 512, .inl (upd f4929 (x4928 : Int32).toNatClampNeg (-1))))] H := hP
        have hD : va_D A [(Ad0, .inl (Ka0, 512, .inl (upd f4929 (x4928 : Int32).toNatClampNeg (-1))))] := hD
        have q4937 : (upd f4929 (x4928 : Int32).toNatClampNeg (-1)) (x4928 : Int32).toNatClampNeg = (-1) := pk_us
        generalize upd f4929 (x4928 : Int32).toNatClampNeg (-1) = f4936 at hP hD q4937
        obtain ⟨x4938, ex4938⟩ : ∃ y : Int32, y = x4928 + 1 := ⟨_, rfl⟩
        refine lv_iinc (v := x4938) (lv' := [(2, .int x4938), (3, .int 512), (0, .ref Ad0), (1, .int (-1))]) hx hb dJ7_fill_53178_14 hl (k := 1) rfl (by rw [ex4938]; rfl) (by decide) rfl (fun ls hl => ?_)
        refine lv_goto (tgt := 5) hx hb dJ7_fill_53178_17 (by decide) ?_
        exact ih (j4927 + 1) x4938 f4936 (by rw [ex4938, e4930]; exact nI_1 _) (by omega) (by (try simp only [i_lt, i_le, i_eq, kc_512] at t4931 h4933 h4932 c4935); omega) (by omega) _ _ _ (hP.sub [0] rfl) (hD.sub [0] (by decide) rfl) hS  (lv_sub hl [1, 0, 2, 3] rfl)
  exact HL1 513 0 (0) Fa0 (by decide) (by omega) (by omega) (by omega) _ _ _ hP hD hS  hl

def l_z_X8_needTwins : List Cond := [.fieldLink RX8 60 "HeapWorks$Shape" "known" "I", .fieldLink RX8 57 "HeapWorks$Shape" "bucket" "[I", .methodLink RX8 149 yJ7_fill_53178, .static yJ7_fill_53178, .initialized RJ7, .fieldLink RX8 64 "HeapWorks$Picture" "things" "I", .fieldLink RX8 159 "HeapWorks$Shape" "twins" "I", .code yJ7_fill_53178 cJ7_fill_53178 4 none]
def w_z_X8_needTwins : List Cond := .code yX8_needTwins cX8_needTwins 6 none :: (l_z_X8_needTwins ++ ((wsX80 ++ wsX50)))
theorem in_z_X8_needTwins_X8 : ∀ w ∈ wsX80, w ∈ w_z_X8_needTwins := fun w h => List.mem_cons_of_mem _ (List.mem_append_right _ (List.mem_append_left _ h))
theorem in_z_X8_needTwins_X5 : ∀ w ∈ wsX50, w ∈ w_z_X8_needTwins := fun w h => List.mem_cons_of_mem _ (List.mem_append_right _ (List.mem_append_right _ (h)))
theorem g_z_X8_needTwins_z_J7_fill_53178_1_149 : GoodIn w_z_X8_needTwins (va_wsS RX8 149 yJ7_fill_53178 w_z_J7_fill_53178_1) := goodIn_app (goodIn_sub (by decide +kernel) (by decide +kernel)) (goodIn_sub (by decide +kernel) (by decide +kernel))
set_option maxHeartbeats 4000000 in
set_option maxRecDepth 100000 in
theorem z_X8_needTwins (l : Launch) (dC : Nat → ClassId) (dI : Nat → Nat → Nat) (sz : Nat) (Ad0 : Nat) (Fs0 : List Value) (Ad1 : Nat) (Fs1 : List Value) (Ad2 : Nat) (Fa0 : Nat → Int32) (Ka0 : ClassId) (k_Fs0 : fh Fs0 21 [(0, .int 0)]) (k_Fs1 : fh Fs1 18 [(1, .int 0), (17, .ref Ad2)])  : Met l yX8_needTwins w_z_X8_needTwins ({ frames := 1, cells := 0, slots := 0, locals := 23 }) (va_Pc [.ref Ad1, .ref Ad0] (fun U => U.heap.size = sz ∧ Wd dC dI [(Ka0, .int)] (fun _ => True) [(Ad0, .inr (8, Fs0)), (Ad1, .inr (11, Fs1)), (Ad2, .inl (Ka0, 512, .inl Fa0))] U)) (va_Qv (fun (u : List Value × (Nat → Int32)) => ow Fs1 (u.1) 18 [11, 1] [(11, .int 0), (1, .int 8), (17, .ref Ad2)]) (fun (u : List Value × (Nat → Int32)) t => Wd dC dI [(Ka0, .int)] (va_A [(Ad0, .inr (8, Fs0)), (Ad1, .inr (11, Fs1)), (Ad2, .inl (Ka0, 512, .inl Fa0))] sz) [(Ad0, .inr (8, Fs0)), (Ad1, .inr (11, (u.1))), (Ad2, .inl (Ka0, 512, .inl ((u.2))))] t) (va_A [(Ad0, .inr (8, Fs0)), (Ad1, .inr (11, Fs1)), (Ad2, .inl (Ka0, 512, .inl Fa0))] sz))  0 0 (va_A [(Ad0, .inr (8, Fs0)), (Ad1, .inr (11, Fs1)), (Ad2, .inl (Ka0, 512, .inl Fa0))] sz) := by
  refine Met.ofW (cc := cX8_needTwins) (maxL := 6) (ret := none) (by decide) rfl ?_
  intro p e s m args below meth c s₁ B hml hv
  obtain ⟨rfl, hsz, hP, hK, hD0⟩ := hv
  have hx := B.exec
  have hb := B.bytes
  have hr := B.returns
  have hts := atoms_spec (ws := w_z_X8_needTwins) B.pre
  have hown : s.vm.findClass RX8 = some m.cls := findClass_of_methodNamed B.named
  have hlocks := B.notSynchronized
  subst hsz
  have hD := hD0.self (sz := s.heap.size)
  generalize hAe : va_A [(Ad0, .inr (8, Fs0)), (Ad1, .inr (11, Fs1)), (Ad2, .inl (Ka0, 512, .inl Fa0))] s.heap.size = A at hD ⊢
  have hA : ∀ q : Nat, s.heap.size ≤ q → A q := fun q h => by rw [← hAe]; exact Or.inr h
  have hS : va_S A s.heap s.heap [] := va_S.rf
  have hl := lv_entry ([.ref Ad1, .ref Ad0]) (n := 6) (Nat.le_of_ble_eq_true rfl)
  rw [lg_entry_eq]
  generalize (lg_sl ([.ref Ad1, .ref Ad0]) ++ List.replicate (6 - (lg_sl ([.ref Ad1, .ref Ad0])).length) Slot.unset).toArray = ls at hl ⊢
  have hl : lv_has ls 6 [(0, .ref Ad1), (1, .ref Ad0)] := hl
  have o_Fs0 := ow_0 k_Fs0
  have o_Fs1 := ow_0 k_Fs1
  refine lv_aload_n hx hb dX8_needTwins_0 rfl (lv_at hl 0 rfl) ?_
  refine va_get (D := (dC, dI)) (ci := 11) (v := .int 0) (C := RX8) (T := TX8) (N := 18) hx hb hts (in_z_X8_needTwins_X8) hown hK hP 1 rfl rfl 1 (by decide) (hts (.fieldLink RX8 60 "HeapWorks$Shape" "known" "I") (by decide +kernel)) (fun _ h9 => h9) (ow_at o_Fs1 0 rfl) dX8_needTwins_1 ?_
  refine lv_bipush (v := 8) hx hb dX8_needTwins_4 (by decide) ?_
  refine lv_iand hx hb dX8_needTwins_6  ?_
  refine lv_topi (fun x4943 ex4943 => ?_)
  obtain rfl : x4943 = 0 := ex4943.trans (by decide)
  refine lv_if_eq (tgt := 11) hx hb dX8_needTwins_7 (by decide) (fun c4944 => ?_) (fun c4944 => absurd c4944 (by decide))
  refine lv_aload_n hx hb dX8_needTwins_11 rfl (lv_at hl 0 rfl) ?_
  refine lv_dup hx hb dX8_needTwins_12 rfl ?_
  refine va_get (D := (dC, dI)) (ci := 11) (v := .int 0) (C := RX8) (T := TX8) (N := 18) hx hb hts (in_z_X8_needTwins_X8) hown hK hP 1 rfl rfl 1 (by decide) (hts (.fieldLink RX8 60 "HeapWorks$Shape" "known" "I") (by decide +kernel)) (fun _ h9 => h9) (ow_at o_Fs1 0 rfl) dX8_needTwins_13 ?_
  refine lv_bipush (v := 8) hx hb dX8_needTwins_16 (by decide) ?_
  refine lv_ior hx hb dX8_needTwins_18  ?_
  refine lv_topi (fun x4945 ex4945 => ?_)
  obtain rfl : x4945 = 8 := ex4945.trans (by decide)
  refine va_put (D := (dC, dI)) (ci := 11) (v := .int 8) (ty := .int) (C := RX8) (T := TX8) (N := 18) hx hb hts (in_z_X8_needTwins_X8) tyX8 tyX8_ok nmX8 hown hK hP hD hS 1 rfl rfl 1 (by decide) (hts (.fieldLink RX8 60 "HeapWorks$Shape" "known" "I") (by decide +kernel)) (fun _ h9 => h9) rfl (by decide +kernel) rfl rfl (by rw [o_Fs1.2.1]; decide) dX8_needTwins_19 (fun H locs hP hD hS => ?_)
  have hP : va_P (dC, dI) vwCl [(Ad0, .inr (8, Fs0)), (Ad1, .inr (11, (Fs1.set 1 (.int 8)))), (Ad2, .inl (Ka0, 512, .inl Fa0))] H := hP
  have hD : va_D A [(Ad0, .inr (8, Fs0)), (Ad1, .inr (11, (Fs1.set 1 (.int 8)))), (Ad2, .inl (Ka0, 512, .inl Fa0))] := hD
  have o_s4946 := ow_set o_Fs1 1 (.int 8) (by decide) (l' := [(1, .int 8), (17, .ref Ad2)]) (w' := [1]) rfl rfl
  generalize (Fs1.set 1 (.int 8)) = s4946 at hP hD o_s4946
  refine lv_aload_n hx hb dX8_needTwins_22 rfl (lv_at hl 0 rfl) ?_
  refine va_get (D := (dC, dI)) (ci := 11) (v := .ref Ad2) (C := RX8) (T := TX8) (N := 18) hx hb hts (in_z_X8_needTwins_X8) hown hK hP 1 rfl rfl 17 (by decide) (hts (.fieldLink RX8 57 "HeapWorks$Shape" "bucket" "[I") (by decide +kernel)) (fun _ h9 => h9) (ow_at o_s4946 1 rfl) dX8_needTwins_23 ?_
  refine lv_iconst (v := (-1)) hx hb dX8_needTwins_26 (by decide) ?_
  have hPc := hP.sub (ws' := [(Ad2, .inl (Ka0, 512, .inl Fa0))]) [2] rfl
  have hDc := hD.sub (ws' := [(Ad2, .inl (Ka0, 512, .inl Fa0))]) [2] (by decide) rfl
  have hKc := hK.sub (tys' := [(Ka0, .int)]) [0] rfl
  have hFc := va_free (wc := [(Ad2, .inl (Ka0, 512, .inl Fa0))]) hD hS hA [2] rfl
  refine va_callv (va_runS (As := [.ref Ad2, .int (-1)]) (rest := []) ⟨hx, hb, hml, hown, hts⟩ (z_J7_fill_53178_1 l dC dI H.size Ad2 Fa0 Ka0  ) (va_cwS 2 hts g_z_X8_needTwins_z_J7_fill_53178_1_149 rfl rfl rfl (by decide +kernel) ⟨Nat.le_of_ble_eq_true rfl, Nat.le_of_ble_eq_true rfl⟩) ⟨fun a U g mk q => by obtain ⟨q0, q1, qP, qK, qD⟩ := q; exact ⟨q0, q1, qP, va_K.moved (u := U) (U := U.calling g mk a) (Vm.Alike.refl U.vm) qK, qD⟩, fun U hU hW => ⟨rfl, by rw [hU], by rw [hU]; exact hPc, va_K.moved hW.alike hKc, hDc.weaken (fun _ _ _ _ => trivial)⟩⟩ rfl rfl hl.1 rfl (lv_room (Nat.le_of_ble_eq_true rfl)) dX8_needTwins_27 ⟨Nat.le_of_ble_eq_true rfl, Nat.le_of_ble_eq_true rfl⟩) hS (fun q _ h => hFc q h) hFc (fun u t H1 locs ht hvm hw hB hz1 hk1 hS => ?_)
  obtain ⟨f4982, rfl⟩ : ∃ z, z = u := ⟨_, rfl⟩
  obtain ⟨hP1, hK1, hD1⟩ := hB
  rw [ht] at hP1
  try dsimp only at hw
  obtain ⟨hP, hD⟩ := va_join (wr := [(Ad0, .inr (8, Fs0)), (Ad1, .inr (11, s4946))]) (w1 := [(Ad2, .inl (Ka0, 512, .inl f4982))]) hP hD [2] [0, 1] rfl rfl (by decide) (by decide) hk1 hFc hP1 hD1
  have hK := hK.sub (tys' := [(Ka0, .int)]) [0] rfl
  generalize H1 = H at hP hS ⊢
  have hP : va_P (dC, dI) vwCl [(Ad0, .inr (8, Fs0)), (Ad1, .inr (11, s4946)), (Ad2, .inl (Ka0, 512, .inl f4982))] H := hP
  have hD : va_D A [(Ad0, .inr (8, Fs0)), (Ad1, .inr (11, s4946)), (Ad2, .inl (Ka0, 512, .inl f4982))] := hD
  refine lv_iconst (v := 0) hx hb dX8_needTwins_30 (by decide) ?_
  refine lv_istore_n (lv' := [(2, .int 0), (0, .ref Ad1), (1, .ref Ad0)]) hx hb dX8_needTwins_31 rfl hl (by decide) rfl (fun ls hl => ?_)
  refine lv_iload_n hx hb dX8_needTwins_32 rfl (lv_at hl 0 rfl) ?_
  refine lv_aload_n hx hb dX8_needTwins_33 rfl (lv_at hl 2 rfl) ?_
  refine va_get (D := (dC, dI)) (ci := 8) (v := .int 0) (C := RX5) (T := TX5) (N := 21) hx hb hts (in_z_X8_needTwins_X5) hown hK hP 0 rfl rfl 0 (by decide) (hts (.fieldLink RX8 64 "HeapWorks$Picture" "things" "I") (by decide +kernel)) (fun _ h9 => h9) (ow_at o_Fs0 0 rfl) dX8_needTwins_34 ?_
  refine lv_icmp_ge (tgt := 157) hx hb dX8_needTwins_37 (by decide) (fun c4983 => ?_) (fun c4983 => absurd c4983 (by decide))
  refine lv_aload_n hx hb dX8_needTwins_157 rfl (lv_at hl 1 rfl) ?_
  refine lv_iconst (v := 0) hx hb dX8_needTwins_158 (by decide) ?_
  refine va_put (D := (dC, dI)) (ci := 11) (v := .int 0) (ty := .int) (C := RX8) (T := TX8) (N := 18) hx hb hts (in_z_X8_needTwins_X8) tyX8 tyX8_ok nmX8 hown hK hP hD hS 1 rfl rfl 11 (by decide) (hts (.fieldLink RX8 159 "HeapWorks$Shape" "twins" "I") (by decide +kernel)) (fun _ h9 => h9) rfl (by decide +kernel) rfl rfl (by rw [o_s4946.2.1]; decide) dX8_needTwins_159 (fun H locs hP hD hS => ?_)
  have hP : va_P (dC, dI) vwCl [(Ad0, .inr (8, Fs0)), (Ad1, .inr (11, (s4946.set 11 (.int 0)))), (Ad2, .inl (Ka0, 512, .inl f4982))] H := hP
  have hD : va_D A [(Ad0, .inr (8, Fs0)), (Ad1, .inr (11, (s4946.set 11 (.int 0)))), (Ad2, .inl (Ka0, 512, .inl f4982))] := hD
  have o_s4984 := ow_set o_s4946 11 (.int 0) (by decide) (l' := [(11, .int 0), (1, .int 8), (17, .ref Ad2)]) (w' := [11, 1]) rfl rfl
  generalize (s4946.set 11 (.int 0)) = s4984 at hP hD o_s4984
  refine lv_iconst (v := 0) hx hb dX8_needTwins_162 (by decide) ?_
  refine lv_istore_n (lv' := [(2, .int 0), (0, .ref Ad1), (1, .ref Ad0)]) hx hb dX8_needTwins_163 rfl hl (by decide) rfl (fun ls hl => ?_)
  refine lv_iload_n hx hb dX8_needTwins_164 rfl (lv_at hl 0 rfl) ?_
  refine lv_aload_n hx hb dX8_needTwins_165 rfl (lv_at hl 2 rfl) ?_
  refine va_get (D := (dC, dI)) (ci := 8) (v := .int 0) (C := RX5) (T := TX5) (N := 21) hx hb hts (in_z_X8_needTwins_X5) hown hK hP 0 rfl rfl 0 (by decide) (hts (.fieldLink RX8 64 "HeapWorks$Picture" "things" "I") (by decide +kernel)) (fun _ h9 => h9) (ow_at o_Fs0 0 rfl) dX8_needTwins_166 ?_
  refine lv_icmp_ge (tgt := 250) hx hb dX8_needTwins_169 (by decide) (fun c4985 => ?_) (fun c4985 => absurd c4985 (by decide))
  have hP9 := hP.sub (ws' := [(Ad0, .inr (8, Fs0)), (Ad1, .inr (11, s4984)), (Ad2, .inl (Ka0, 512, .inl f4982))]) [0, 1, 2] rfl
  have hD9 := hD.sub (ws' := [(Ad0, .inr (8, Fs0)), (Ad1, .inr (11, s4984)), (Ad2, .inl (Ka0, 512, .inl f4982))]) [0, 1, 2] (by decide) rfl
  have hK9 := hK.sub (tys' := [(Ka0, .int)]) [0] rfl
  exact W.vret hx hb hr (fun t ht hW => ⟨⟨(s4984, f4982), rfl, o_s4984, by rw [ht]; exact hP9, va_K.moved hW.alike hK9, hD9⟩, hS.F ht⟩) hS.2.2 dX8_needTwins_250

def l_z_X5_twinCount : List Cond := [.fieldLink RX5 78 "HeapWorks$Picture" "shape" "LHeapWorks$Shape;", .methodLink RX5 189 yX8_needTwins, .instanceMethod yX8_needTwins, .selects RX8 yX8_needTwins yX8_needTwins, .initialized RX8, .fieldLink RX5 195 "HeapWorks$Shape" "twins" "I", .code yX8_needTwins cX8_needTwins 6 none, .fieldLink RX8 60 "HeapWorks$Shape" "known" "I", .fieldLink RX8 57 "HeapWorks$Shape" "bucket" "[I", .methodLink RX8 149 yJ7_fill_53178, .static yJ7_fill_53178, .initialized RJ7, .fieldLink RX8 64 "HeapWorks$Picture" "things" "I", .fieldLink RX8 159 "HeapWorks$Shape" "twins" "I", .code yJ7_fill_53178 cJ7_fill_53178 4 none]
def w_z_X5_twinCount : List Cond := .code yX5_twinCount cX5_twinCount 1 (some .int) :: (l_z_X5_twinCount ++ ((wsX50 ++ wsX80)))
theorem in_z_X5_twinCount_X5 : ∀ w ∈ wsX50, w ∈ w_z_X5_twinCount := fun w h => List.mem_cons_of_mem _ (List.mem_append_right _ (List.mem_append_left _ h))
theorem in_z_X5_twinCount_X8 : ∀ w ∈ wsX80, w ∈ w_z_X5_twinCount := fun w h => List.mem_cons_of_mem _ (List.mem_append_right _ (List.mem_append_right _ (h)))
theorem g_z_X5_twinCount_z_X8_needTwins_189 : GoodIn w_z_X5_twinCount (wsV RX5 189 RX8 yX8_needTwins w_z_X8_needTwins) := goodIn_app (goodIn_sub (by decide +kernel) (by decide +kernel)) (goodIn_ca (goodIn_sub (by decide +kernel) (by decide +kernel)) (goodIn_app (goodIn_in in_z_X5_twinCount_X8 gd_X8) (goodIn_in in_z_X5_twinCount_X5 gd_X5)))
set_option maxHeartbeats 4000000 in
set_option maxRecDepth 100000 in
theorem z_X5_twinCount (l : Launch) (dC : Nat → ClassId) (dI : Nat → Nat → Nat) (sz : Nat) (Ad0 : Nat) (Fs0 : List Value) (Ad1 : Nat) (Fs1 : List Value) (Ad2 : Nat) (Fa0 : Nat → Int32) (Ka0 : ClassId) (k_Fs0 : fh Fs0 21 [(0, .int 0), (20, .ref Ad1)]) (k_Fs1 : fh Fs1 18 [(1, .int 0), (17, .ref Ad2), (11, .int 0)])  : Met l yX5_twinCount w_z_X5_twinCount ({ frames := 2, cells := 0, slots := 0, locals := 48 }) (va_Pc [.ref Ad0] (fun U => U.heap.size = sz ∧ Wd dC dI [(Ka0, .int)] (fun _ => True) [(Ad0, .inr (8, Fs0)), (Ad1, .inr (11, Fs1)), (Ad2, .inl (Ka0, 512, .inl Fa0))] U)) (va_Qi (fun (r : Int32) (u : List Value × (Nat → Int32)) => (r = 0 ∧ ow Fs1 (u.1) 18 [11, 1] [(11, .int 0), (1, .int 8), (17, .ref Ad2), (17, .ref Ad2)])) (fun (u : List Value × (Nat → Int32)) t => Wd dC dI [(Ka0, .int)] (va_A [(Ad0, .inr (8, Fs0)), (Ad1, .inr (11, Fs1)), (Ad2, .inl (Ka0, 512, .inl Fa0))] sz) [(Ad0, .inr (8, Fs0)), (Ad1, .inr (11, (u.1))), (Ad2, .inl (Ka0, 512, .inl ((u.2))))] t) (va_A [(Ad0, .inr (8, Fs0)), (Ad1, .inr (11, Fs1)), (Ad2, .inl (Ka0, 512, .inl Fa0))] sz))  0 0 (va_A [(Ad0, .inr (8, Fs0)), (Ad1, .inr (11, Fs1)), (Ad2, .inl (Ka0, 512, .inl Fa0))] sz) := by
  refine Met.ofW (cc := cX5_twinCount) (maxL := 1) (ret := (some .int)) (by decide) rfl ?_
  intro p e s m args below meth c s₁ B hml hv
  obtain ⟨rfl, hsz, hP, hK, hD0⟩ := hv
  have hx := B.exec
  have hb := B.bytes
  have hr := B.returns
  have hts := atoms_spec (ws := w_z_X5_twinCount) B.pre
  have hown : s.vm.findClass RX5 = some m.cls := findClass_of_methodNamed B.named
  have hlocks := B.notSynchronized
  subst hsz
  have hD := hD0.self (sz := s.heap.size)
  generalize hAe : va_A [(Ad0, .inr (8, Fs0)), (Ad1, .inr (11, Fs1)), (Ad2, .inl (Ka0, 512, .inl Fa0))] s.heap.size = A at hD ⊢
  have hA : ∀ q : Nat, s.heap.size ≤ q → A q := fun q h => by rw [← hAe]; exact Or.inr h
  have hS : va_S A s.heap s.heap [] := va_S.rf
  have hl := lv_entry ([.ref Ad0]) (n := 1) (Nat.le_of_ble_eq_true rfl)
  rw [lg_entry_eq]
  generalize (lg_sl ([.ref Ad0]) ++ List.replicate (1 - (lg_sl ([.ref Ad0])).length) Slot.unset).toArray = ls at hl ⊢
  have hl : lv_has ls 1 [(0, .ref Ad0)] := hl
  have o_Fs0 := ow_0 k_Fs0
  have o_Fs1 := ow_0 k_Fs1
  refine lv_aload_n hx hb dX5_twinCount_0 rfl (lv_at hl 0 rfl) ?_
  refine va_get (D := (dC, dI)) (ci := 8) (v := .ref Ad1) (C := RX5) (T := TX5) (N := 21) hx hb hts (in_z_X5_twinCount_X5) hown hK hP 0 rfl rfl 20 (by decide) (hts (.fieldLink RX5 78 "HeapWorks$Picture" "shape" "LHeapWorks$Shape;") (by decide +kernel)) (fun _ h9 => h9) (ow_at o_Fs0 1 rfl) dX5_twinCount_1 ?_
  refine lv_aload_n hx hb dX5_twinCount_4 rfl (lv_at hl 0 rfl) ?_
  have hPc := hP.sub (ws' := [(Ad0, .inr (8, Fs0)), (Ad1, .inr (11, Fs1)), (Ad2, .inl (Ka0, 512, .inl Fa0))]) [0, 1, 2] rfl
  have hDc := hD.sub (ws' := [(Ad0, .inr (8, Fs0)), (Ad1, .inr (11, Fs1)), (Ad2, .inl (Ka0, 512, .inl Fa0))]) [0, 1, 2] (by decide) rfl
  have hKc := hK.sub (tys' := [(Ka0, .int)]) [0] rfl
  have hFc := va_free (wc := [(Ad0, .inr (8, Fs0)), (Ad1, .inr (11, Fs1)), (Ad2, .inl (Ka0, 512, .inl Fa0))]) hD hS hA [0, 1, 2] rfl
  refine va_callv (va_runV (As := [.ref Ad0]) (rest := []) ⟨hx, hb, hml, hown, hts⟩ (z_X8_needTwins l dC dI s.heap.size Ad0 Fs0 Ad1 Fs1 Ad2 Fa0 Ka0 (fh_sub o_Fs0.2 [0] rfl) (fh_sub o_Fs1.2 [0, 1] rfl) ) (cwV 1 hts g_z_X5_twinCount_z_X8_needTwins_189 rfl rfl rfl (by decide +kernel) ⟨Nat.le_of_ble_eq_true rfl, Nat.le_of_ble_eq_true rfl⟩) ⟨fun a U g mk q => by obtain ⟨q0, q1, qP, qK, qD⟩ := q; exact ⟨q0, q1, qP, va_K.moved (u := U) (U := U.calling g mk a) (Vm.Alike.refl U.vm) qK, qD⟩, va_recv hK hP (ci := 11) (q0 := 1) rfl rfl, fun U hU hW => ⟨rfl, by rw [hU], by rw [hU]; exact hPc, va_K.moved hW.alike hKc, hDc.weaken (fun _ _ _ _ => trivial)⟩⟩ rfl rfl hl.1 rfl (lv_room (Nat.le_of_ble_eq_true rfl)) dX5_twinCount_5 ⟨Nat.le_of_ble_eq_true rfl, Nat.le_of_ble_eq_true rfl⟩) hS (fun q _ h => hFc q h) hFc (fun u t H1 locs ht hvm hw hB hz1 hk1 hS => ?_)
  obtain ⟨s5031, f5032⟩ := u
  obtain ⟨hP1, hK1, hD1⟩ := hB
  rw [ht] at hP1
  try dsimp only at hw
  obtain ⟨hP, hD⟩ := va_join (wr := []) (w1 := [(Ad0, .inr (8, Fs0)), (Ad1, .inr (11, s5031)), (Ad2, .inl (Ka0, 512, .inl f5032))]) hP hD [0, 1, 2] [] rfl rfl (by decide) (by decide) hk1 hFc hP1 hD1
  have hK := hK.sub (tys' := [(Ka0, .int)]) [0] rfl
  generalize H1 = H at hP hS ⊢
  have hP : va_P (dC, dI) vwCl [(Ad0, .inr (8, Fs0)), (Ad1, .inr (11, s5031)), (Ad2, .inl (Ka0, 512, .inl f5032))] H := hP
  have hD : va_D A [(Ad0, .inr (8, Fs0)), (Ad1, .inr (11, s5031)), (Ad2, .inl (Ka0, 512, .inl f5032))] := hD
  have o_s5031 := hw
  have o_s5031 := ow_on o_Fs1 o_s5031 (l' := [(11, .int 0), (1, .int 8), (17, .ref Ad2), (17, .ref Ad2)]) (w' := [11, 1]) rfl rfl
  refine lv_aload_n hx hb dX5_twinCount_8 rfl (lv_at hl 0 rfl) ?_
  refine va_get (D := (dC, dI)) (ci := 8) (v := .ref Ad1) (C := RX5) (T := TX5) (N := 21) hx hb hts (in_z_X5_twinCount_X5) hown hK hP 0 rfl rfl 20 (by decide) (hts (.fieldLink RX5 78 "HeapWorks$Picture" "shape" "LHeapWorks$Shape;") (by decide +kernel)) (fun _ h9 => h9) (ow_at o_Fs0 1 rfl) dX5_twinCount_9 ?_
  refine va_get (D := (dC, dI)) (ci := 11) (v := .int 0) (C := RX8) (T := TX8) (N := 18) hx hb hts (in_z_X5_twinCount_X8) hown hK hP 1 rfl rfl 11 (by decide) (hts (.fieldLink RX5 195 "HeapWorks$Shape" "twins" "I") (by decide +kernel)) (fun _ h9 => h9) (ow_at o_s5031 0 rfl) dX5_twinCount_12 ?_
  have hP9 := hP.sub (ws' := [(Ad0, .inr (8, Fs0)), (Ad1, .inr (11, s5031)), (Ad2, .inl (Ka0, 512, .inl f5032))]) [0, 1, 2] rfl
  have hD9 := hD.sub (ws' := [(Ad0, .inr (8, Fs0)), (Ad1, .inr (11, s5031)), (Ad2, .inl (Ka0, 512, .inl f5032))]) [0, 1, 2] (by decide) rfl
  have hK9 := hK.sub (tys' := [(Ka0, .int)]) [0] rfl
  exact W.iret (v := 0) hx hb hr (fun t ht hW => ⟨⟨0, (s5031, f5032), rfl, ⟨rfl, o_s5031⟩, by rw [ht]; exact hP9, va_K.moved hW.alike hK9, hD9⟩, hS.F ht⟩) hS.2.2 dX5_twinCount_15

def l_z_X5_allSizes : List Cond := [.fieldLink RX5 82 "HeapWorks$Picture" "things" "I"]
def w_z_X5_allSizes : List Cond := .code yX5_allSizes cX5_allSizes 4 (some .int) :: (l_z_X5_allSizes ++ (wsX50))
theorem in_z_X5_allSizes_X5 : ∀ w ∈ wsX50, w ∈ w_z_X5_allSizes := fun w h => List.mem_cons_of_mem _ (List.mem_append_right _ (h))
set_option maxHeartbeats 4000000 in
set_option maxRecDepth 100000 in
theorem z_X5_allSizes (l : Launch) (dC : Nat → ClassId) (dI : Nat → Nat → Nat) (sz : Nat) (Ad0 : Nat) (Fs0 : List Value) (Br0 : Nat) (k_Fs0 : fh Fs0 21 [(0, .int 0)])  : Met l yX5_allSizes w_z_X5_allSizes ({ frames := 0, cells := 0, slots := 0, locals := 0 }) (va_Pc [.ref Ad0, .ref Br0] (fun U => U.heap.size = sz ∧ Wd dC dI [] (fun _ => True) [(Ad0, .inr (8, Fs0))] U)) (va_Qi (fun (r : Int32) (u : Unit) => r = 0) (fun (u : Unit) t => Wd dC dI [] (va_A [(Ad0, .inr (8, Fs0))] sz) [(Ad0, .inr (8, Fs0))] t) (va_A [(Ad0, .inr (8, Fs0))] sz))  0 0 (va_A [(Ad0, .inr (8, Fs0))] sz) := by
  refine Met.ofW (cc := cX5_allSizes) (maxL := 4) (ret := (some .int)) (by decide) rfl ?_
  intro p e s m args below meth c s₁ B hml hv
  obtain ⟨rfl, hsz, hP, hK, hD0⟩ := hv
  have hx := B.exec
  have hb := B.bytes
  have hr := B.returns
  have hts := atoms_spec (ws := w_z_X5_allSizes) B.pre
  have hown : s.vm.findClass RX5 = some m.cls := findClass_of_methodNamed B.named
  have hlocks := B.notSynchronized
  subst hsz
  have hD := hD0.self (sz := s.heap.size)
  generalize hAe : va_A [(Ad0, .inr (8, Fs0))] s.heap.size = A at hD ⊢
  have hA : ∀ q : Nat, s.heap.size ≤ q → A q := fun q h => by rw [← hAe]; exact Or.inr h
  have hS : va_S A s.heap s.heap [] := va_S.rf
  have hl := lv_entry ([.ref Ad0, .ref Br0]) (n := 4) (Nat.le_of_ble_eq_true rfl)
  rw [lg_entry_eq]
  generalize (lg_sl ([.ref Ad0, .ref Br0]) ++ List.replicate (4 - (lg_sl ([.ref Ad0, .ref Br0])).length) Slot.unset).toArray = ls at hl ⊢
  have hl : lv_has ls 4 [(0, .ref Ad0), (1, .ref Br0)] := hl
  have o_Fs0 := ow_0 k_Fs0
  refine lv_iconst (v := 0) hx hb dX5_allSizes_0 (by decide) ?_
  refine lv_istore_n (lv' := [(2, .int 0), (0, .ref Ad0), (1, .ref Br0)]) hx hb dX5_allSizes_1 rfl hl (by decide) rfl (fun ls hl => ?_)
  refine lv_iconst (v := 0) hx hb dX5_allSizes_2 (by decide) ?_
  refine lv_istore_n (lv' := [(3, .int 0), (2, .int 0), (0, .ref Ad0), (1, .ref Br0)]) hx hb dX5_allSizes_3 rfl hl (by decide) rfl (fun ls hl => ?_)
  refine lv_iload_n hx hb dX5_allSizes_4 rfl (lv_at hl 0 rfl) ?_
  refine lv_aload_n hx hb dX5_allSizes_5 rfl (lv_at hl 2 rfl) ?_
  refine va_get (D := (dC, dI)) (ci := 8) (v := .int 0) (C := RX5) (T := TX5) (N := 21) hx hb hts (in_z_X5_allSizes_X5) hown hK hP 0 rfl rfl 0 (by decide) (hts (.fieldLink RX5 82 "HeapWorks$Picture" "things" "I") (by decide +kernel)) (fun _ h9 => h9) (ow_at o_Fs0 0 rfl) dX5_allSizes_6 ?_
  refine lv_icmp_ge (tgt := 37) hx hb dX5_allSizes_9 (by decide) (fun c5039 => ?_) (fun c5039 => absurd c5039 (by decide))
  refine lv_iload_n hx hb dX5_allSizes_37 rfl (lv_at hl 1 rfl) ?_
  have hP9 := hP.sub (ws' := [(Ad0, .inr (8, Fs0))]) [0] rfl
  have hD9 := hD.sub (ws' := [(Ad0, .inr (8, Fs0))]) [0] (by decide) rfl
  have hK9 := hK.sub (tys' := []) [] rfl
  exact W.iret (v := 0) hx hb hr (fun t ht hW => ⟨⟨0, (), rfl, rfl, by rw [ht]; exact hP9, va_K.moved hW.alike hK9, hD9⟩, hS.F ht⟩) hS.2.2 dX5_allSizes_38
