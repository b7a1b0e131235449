def l_z_X11_promise : List Cond := [.fieldLink RX11 326 "HeapWorks" "promiseCount" "I", .fieldLink RX11 66 "HeapWorks" "promised" "[LHeapWorks$Program;", .methodLink RX11 329 yX6_readPromise, .instanceMethod yX6_readPromise, .selects RX6 yX6_readPromise yX6_readPromise, .initialized RX6, .fieldLink RX11 333 "HeapWorks$Program" "fault" "I", .fieldLink RX11 336 "HeapWorks$Program" "place" "I", .methodLink RX11 339 yX11_tellFault, .instanceMethod yX11_tellFault, .selects RX11 yX11_tellFault yX11_tellFault, .initialized RX11, .classLink RX11 127 "java/lang/IllegalArgumentException", .initialized "java/lang/IllegalArgumentException", .code yX6_readPromise cX6_readPromise 1 (some .boolean), .methodLink RX6 38 yX6_start, .instanceMethod yX6_start, .selects RX6 yX6_start yX6_start, .methodLink RX6 41 yX6_readE, .instanceMethod yX6_readE, .selects RX6 yX6_readE yX6_readE, .code yX6_start cX6_start 1 none, .fieldLink RX6 72 "HeapWorks$Program" "steps" "I", .fieldLink RX6 75 "HeapWorks$Program" "fault" "I", .fieldLink RX6 78 "HeapWorks$Program" "place" "I", .fieldLink RX6 81 "HeapWorks$Program" "usesHolders" "Z", .fieldLink RX6 84 "HeapWorks$Program" "usesKept" "Z", .fieldLink RX6 87 "HeapWorks$Program" "nodes" "I", .fieldLink RX6 90 "HeapWorks$Program" "nest" "I", .fieldLink RX6 93 "HeapWorks$Program" "folds" "I", .fieldLink RX6 62 "HeapWorks$Program" "itKnown" "Z", .fieldLink RX6 96 "HeapWorks$Program" "scopes" "I", .fieldLink RX6 99 "HeapWorks$Program" "waits" "I", .fieldLink RX6 9 "HeapWorks$Program" "tape" "LHeapWorks$Tape;", .methodLink RX6 102 yX9_startWords, .instanceMethod yX9_startWords, .selects RX9 yX9_startWords yX9_startWords, .initialized RX9, .code yX9_startWords cX9_startWords 2 none, .fieldLink RX9 69 "HeapWorks$Tape" "at" "I", .methodLink RX9 72 yX9_scanWord, .instanceMethod yX9_scanWord, .selects RX9 yX9_scanWord yX9_scanWord, .fieldLink RX9 18 "HeapWorks$Tape" "words" "[I", .fieldLink RX9 75 "HeapWorks$Tape" "word" "I", .fieldLink RX9 21 "HeapWorks$Tape" "places" "[I", .fieldLink RX9 78 "HeapWorks$Tape" "place" "I", .fieldLink RX9 24 "HeapWorks$Tape" "codes" "[J", .fieldLink RX9 81 "HeapWorks$Tape" "code" "J", .fieldLink RX9 85 "HeapWorks$Tape" "next" "I", .methodLink RX9 88 yX9_nextWord, .instanceMethod yX9_nextWord, .selects RX9 yX9_nextWord yX9_nextWord, .code yX9_scanWord cX9_scanWord 1 none, .fieldLink RX9 49 "HeapWorks$Tape" "size" "I", .code yX9_nextWord cX9_nextWord 1 none, .code yX6_readE cX6_readE 3 (some .boolean), .methodLink RX6 128 yX6_readAnds, .instanceMethod yX6_readAnds, .selects RX6 yX6_readAnds yX6_readAnds, .code yX6_readAnds cX6_readAnds 3 (some .boolean), .methodLink RX6 131 yX6_readNots, .instanceMethod yX6_readNots, .selects RX6 yX6_readNots yX6_readNots, .code yX6_readNots cX6_readNots 3 (some .boolean), .fieldLink RX6 45 "HeapWorks$Tape" "word" "I", .methodLink RX6 134 yX6_readComparison, .instanceMethod yX6_readComparison, .selects RX6 yX6_readComparison yX6_readComparison, .code yX6_readComparison cX6_readComparison 2 (some .boolean), .methodLink RX6 137 yX6_readSums, .instanceMethod yX6_readSums, .selects RX6 yX6_readSums yX6_readSums, .code yX6_readSums cX6_readSums 3 (some .boolean), .methodLink RX6 144 yX6_readProducts, .instanceMethod yX6_readProducts, .selects RX6 yX6_readProducts yX6_readProducts, .code yX6_readProducts cX6_readProducts 3 (some .boolean), .methodLink RX6 147 yX6_readSigned, .instanceMethod yX6_readSigned, .selects RX6 yX6_readSigned yX6_readSigned, .code yX6_readSigned cX6_readSigned 3 (some .boolean), .methodLink RX6 125 yX6_readP, .instanceMethod yX6_readP, .selects RX6 yX6_readP yX6_readP, .code yX6_readP cX6_readP 3 (some .boolean), .methodLink RX6 150 yX6_readAtom, .instanceMethod yX6_readAtom, .selects RX6 yX6_readAtom yX6_readAtom, .code yX6_readAtom cX6_readAtom 1 (some .boolean), .methodLink RX6 51 yX6_refuse, .instanceMethod yX6_refuse, .selects RX6 yX6_refuse yX6_refuse, .code yX6_refuse cX6_refuse 1 (some .boolean), .methodLink RX6 112 yX6_fail, .instanceMethod yX6_fail, .selects RX6 yX6_fail yX6_fail, .code yX6_fail cX6_fail 2 (some .boolean), .fieldLink RX6 111 "HeapWorks$Tape" "place" "I", .code yX11_tellFault cX11_tellFault 3 none, .fieldLink RX11 469 "HeapWorks" "faultCode" "I", .fieldLink RX11 98 "HeapWorks" "faultPlace" "I"]
def w_z_X11_promise : List Cond := .code yX11_promise cX11_promise 3 (some .int) :: (l_z_X11_promise ++ ((wsX110 ++ (wsX60 ++ (((vx_at0 RX11 129 "java/lang/IllegalArgumentException" ["java/lang/RuntimeException", "java/lang/Exception"]).filter goodWord) ++ wsX90)))))
theorem in_z_X11_promise_X11 : ∀ w ∈ wsX110, w ∈ w_z_X11_promise := fun w h => List.mem_cons_of_mem _ (List.mem_append_right _ (List.mem_append_left _ h))
theorem in_z_X11_promise_X6 : ∀ w ∈ wsX60, w ∈ w_z_X11_promise := fun w h => List.mem_cons_of_mem _ (List.mem_append_right _ (List.mem_append_right _ (List.mem_append_left _ h)))
theorem in_z_X11_promise_at0_X11_129 : ∀ w ∈ ((vx_at0 RX11 129 "java/lang/IllegalArgumentException" ["java/lang/RuntimeException", "java/lang/Exception"]).filter goodWord), w ∈ w_z_X11_promise := fun w h => List.mem_cons_of_mem _ (List.mem_append_right _ (List.mem_append_right _ (List.mem_append_right _ (List.mem_append_left _ h))))
theorem in_z_X11_promise_X9 : ∀ w ∈ wsX90, w ∈ w_z_X11_promise := fun w h => List.mem_cons_of_mem _ (List.mem_append_right _ (List.mem_append_right _ (List.mem_append_right _ (List.mem_append_right _ (h)))))
theorem g_z_X11_promise_z_X6_readPromise_329 : GoodIn w_z_X11_promise (wsV RX11 329 RX6 yX6_readPromise w_z_X6_readPromise) := goodIn_app (goodIn_r (([.methodLink RX11 329 yX6_readPromise, .instanceMethod yX6_readPromise, .selects RX6 yX6_readPromise yX6_readPromise, .initialized RX6] : List Cond)) [3, 4, 5, 6] rfl (by decide +kernel)) (goodIn_ca (goodIn_r (.code yX6_readPromise cX6_readPromise 1 (some .boolean) :: l_z_X6_readPromise) [15, 16, 17, 18, 6, 19, 20, 21, 22, 23, 24, 25, 26, 27, 28, 29, 30, 31, 32, 33, 34, 35, 36, 37, 38, 39, 40, 41, 42, 43, 44, 45, 46, 47, 48, 49, 50, 51, 52, 53, 54, 55, 56, 57, 58, 59, 60, 61, 62, 63, 64, 65, 66, 67, 68, 69, 70, 71, 72, 73, 74, 75, 76, 77, 78, 79, 80, 81, 82, 83, 84, 85, 86, 87, 88, 89, 90, 91, 92, 93, 94, 95, 96, 97, 98, 99] rfl (by decide +kernel)) (goodIn_app (goodIn_in (in_z_X11_promise_X6) gd_X6) (goodIn_in (in_z_X11_promise_X9) gd_X9)))
theorem g_z_X11_promise_z_X11_tellFault_339 : GoodIn w_z_X11_promise (wsV RX11 339 RX11 yX11_tellFault w_z_X11_tellFault) := goodIn_app (goodIn_r (([.methodLink RX11 339 yX11_tellFault, .instanceMethod yX11_tellFault, .selects RX11 yX11_tellFault yX11_tellFault, .initialized RX11] : List Cond)) [9, 10, 11, 12] rfl (by decide +kernel)) (goodIn_ca (goodIn_r (.code yX11_tellFault cX11_tellFault 3 none :: l_z_X11_tellFault) [100, 101, 102] rfl (by decide +kernel)) (goodIn_in (in_z_X11_promise_X11) gd_X11))
set_option maxHeartbeats 4000000 in
set_option maxRecDepth 100000 in
theorem z_X11_promise (l : Launch) (dC : Nat → ClassId) (dI : Nat → Nat → Nat) (sz : Nat) (Ad0 : Nat) (Fs0 : List Value) (Ad1 : Nat) (Fs1 : List Value) (Ad2 : Nat) (Fa0 : Nat → Int32) (Ka0 : ClassId) (Ad3 : Nat) (Fa1 : Nat → Int32) (Ka1 : ClassId) (Ad4 : Nat) (Fa2 : Nat → Int64) (Ka2 : ClassId) (Ad5 : Nat) (Fa3 : Nat → Option Nat) (Ka3 : ClassId) (Ad6 : Nat) (Fs2 : List Value) (k_Fs0 : fh Fs0 18 [(8, .ref Ad5), (10, .int 0)]) (k_Fs1 : fh Fs1 12 [(1, .int 0), (5, .ref Ad2), (6, .ref Ad3), (7, .ref Ad4)]) (k_Fs2 : fh Fs2 19 [(0, .ref Ad1)]) (hst : l.stackTraces = false) (hg0 : Fa3 (0 : Int32).toNatClampNeg = some Ad6) : vx_Met l yX11_promise w_z_X11_promise ({ frames := 12, cells := 1, slots := 6, locals := 256 }) (va_Pc [.ref Ad0] (fun U => U.heap.size = sz ∧ Zz (va_A [(Ad0, .inr (14, Fs0)), (Ad1, .inr (12, Fs1)), (Ad2, .inl (Ka0, 4001, .inl Fa0)), (Ad3, .inl (Ka1, 4001, .inl Fa1)), (Ad4, .inl (Ka2, 4001, .inr (.inl Fa2))), (Ad5, .inl (Ka3, 3, .inr (.inr (.inr (.inr Fa3))))), (Ad6, .inr (9, Fs2))] sz) U ∧ Wd dC dI [(Ka0, .int), (Ka1, .int), (Ka2, .long), (Ka3, .object "HeapWorks$Program")] (fun _ => True) [(Ad0, .inr (14, Fs0)), (Ad1, .inr (12, Fs1)), (Ad2, .inl (Ka0, 4001, .inl Fa0)), (Ad3, .inl (Ka1, 4001, .inl Fa1)), (Ad4, .inl (Ka2, 4001, .inr (.inl Fa2))), (Ad5, .inl (Ka3, 3, .inr (.inr (.inr (.inr Fa3))))), (Ad6, .inr (9, Fs2))] U)) (va_Qi (fun (r : Int32) (u : Unit) => False) (fun (u : Unit) t => Wd dC dI [(Ka0, .int), (Ka1, .int), (Ka2, .long), (Ka3, .object "HeapWorks$Program")] (va_A [(Ad0, .inr (14, Fs0)), (Ad1, .inr (12, Fs1)), (Ad2, .inl (Ka0, 4001, .inl Fa0)), (Ad3, .inl (Ka1, 4001, .inl Fa1)), (Ad4, .inl (Ka2, 4001, .inr (.inl Fa2))), (Ad5, .inl (Ka3, 3, .inr (.inr (.inr (.inr Fa3))))), (Ad6, .inr (9, Fs2))] sz) [(Ad0, .inr (14, Fs0)), (Ad1, .inr (12, Fs1)), (Ad2, .inl (Ka0, 4001, .inl Fa0)), (Ad3, .inl (Ka1, 4001, .inl Fa1)), (Ad4, .inl (Ka2, 4001, .inr (.inl Fa2))), (Ad5, .inl (Ka3, 3, .inr (.inr (.inr (.inr Fa3))))), (Ad6, .inr (9, Fs2))] t) (va_A [(Ad0, .inr (14, Fs0)), (Ad1, .inr (12, Fs1)), (Ad2, .inl (Ka0, 4001, .inl Fa0)), (Ad3, .inl (Ka1, 4001, .inl Fa1)), (Ad4, .inl (Ka2, 4001, .inr (.inl Fa2))), (Ad5, .inl (Ka3, 3, .inr (.inr (.inr (.inr Fa3))))), (Ad6, .inr (9, Fs2))] sz)) (vx_X (fun _ : Unit => True) (fun E _ _ => E = "java/lang/IllegalArgumentException") (va_A [(Ad0, .inr (14, Fs0)), (Ad1, .inr (12, Fs1)), (Ad2, .inl (Ka0, 4001, .inl Fa0)), (Ad3, .inl (Ka1, 4001, .inl Fa1)), (Ad4, .inl (Ka2, 4001, .inr (.inl Fa2))), (Ad5, .inl (Ka3, 3, .inr (.inr (.inr (.inr Fa3))))), (Ad6, .inr (9, Fs2))] sz)) 1 6 (va_A [(Ad0, .inr (14, Fs0)), (Ad1, .inr (12, Fs1)), (Ad2, .inl (Ka0, 4001, .inl Fa0)), (Ad3, .inl (Ka1, 4001, .inl Fa1)), (Ad4, .inl (Ka2, 4001, .inr (.inl Fa2))), (Ad5, .inl (Ka3, 3, .inr (.inr (.inr (.inr Fa3))))), (Ad6, .inr (9, Fs2))] sz) := by
  refine vx_ofW (cc := cX11_promise) (maxL := 3) (ret := (some .int)) (by decide) rfl ?_
  intro p e s m args below meth c s₁ B hml htab hv
  obtain ⟨rfl, hsz, hZ, hP, hK, hD0⟩ := hv
  have hx := B.exec
  have hb := B.bytes
  have hr := B.returns
  have hts := atoms_spec (ws := w_z_X11_promise) B.pre
  have hown : s.vm.findClass RX11 = some m.cls := findClass_of_methodNamed B.named
  have hlocks := B.notSynchronized
  subst hsz
  have hD := hD0.self (sz := s.heap.size)
  generalize hAe : va_A [(Ad0, .inr (14, Fs0)), (Ad1, .inr (12, Fs1)), (Ad2, .inl (Ka0, 4001, .inl Fa0)), (Ad3, .inl (Ka1, 4001, .inl Fa1)), (Ad4, .inl (Ka2, 4001, .inr (.inl Fa2))), (Ad5, .inl (Ka3, 3, .inr (.inr (.inr (.inr Fa3))))), (Ad6, .inr (9, Fs2))] s.heap.size = A at hD hZ ⊢
  have hA : ∀ q : Nat, s.heap.size ≤ q → A q := fun q h => by rw [← hAe]; exact Or.inr h
  have hS : va_S A s.heap s.heap [] := va_S.rf
  have hl := lv_entry ([.ref Ad0]) (n := 3) (Nat.le_of_ble_eq_true rfl)
  rw [lg_entry_eq]
  generalize (lg_sl ([.ref Ad0]) ++ List.replicate (3 - (lg_sl ([.ref Ad0])).length) Slot.unset).toArray = ls at hl ⊢
  have hl : lv_has ls 3 [(0, .ref Ad0)] := hl
  have o_Fs0 := ow_0 k_Fs0
  have o_Fs1 := ow_0 k_Fs1
  have o_Fs2 := ow_0 k_Fs2
  refine lv_aload_n hx hb dX11_promise_0 rfl (lv_at hl 0 rfl) ?_
  refine va_get (D := (dC, dI)) (ci := 14) (v := .int 0) (C := RX11) (T := TX11) (N := 18) hx hb hts (in_z_X11_promise_X11) hown hK hP 0 rfl rfl 10 (by decide) (hts (.fieldLink RX11 326 "HeapWorks" "promiseCount" "I") (by decide +kernel)) (fun _ h9 => h9) (ow_at o_Fs0 1 rfl) dX11_promise_1 ?_
  refine lv_iconst (v := 3) hx hb dX11_promise_4 (by decide) ?_
  refine lv_icmp_ne (tgt := 16) hx hb dX11_promise_5 (by decide) (fun c101 => ?_) (fun c101 => absurd c101 (by decide))
  refine lv_aload_n hx hb dX11_promise_16 rfl (lv_at hl 0 rfl) ?_
  refine va_get (D := (dC, dI)) (ci := 14) (v := .ref Ad5) (C := RX11) (T := TX11) (N := 18) hx hb hts (in_z_X11_promise_X11) hown hK hP 0 rfl rfl 8 (by decide) (hts (.fieldLink RX11 66 "HeapWorks" "promised" "[LHeapWorks$Program;") (by decide +kernel)) (fun _ h9 => h9) (ow_at o_Fs0 0 rfl) dX11_promise_17 ?_
  refine lv_aload_n hx hb dX11_promise_20 rfl (lv_at hl 0 rfl) ?_
  refine va_get (D := (dC, dI)) (ci := 14) (v := .int 0) (C := RX11) (T := TX11) (N := 18) hx hb hts (in_z_X11_promise_X11) hown hK hP 0 rfl rfl 10 (by decide) (hts (.fieldLink RX11 326 "HeapWorks" "promiseCount" "I") (by decide +kernel)) (fun _ h9 => h9) (ow_at o_Fs0 1 rfl) dX11_promise_21 ?_
  refine va_aldq hx hb hK hP 5 3 rfl rfl (show vp_in 0 3 from by unfold vp_in; decide) dX11_promise_24 ?_
  refine W.eq (g2 := F0 m 25 ls (.ref Ad6 :: [])) (by rw [hg0]; rfl) ?_
  refine lv_astore_n (lv' := [(1, .ref Ad6), (0, .ref Ad0)]) hx hb dX11_promise_25 rfl hl (by decide) rfl (fun ls hl => ?_)
  refine lv_aload_n hx hb dX11_promise_26 rfl (lv_at hl 0 rfl) ?_
  have hPc := hP.sub (ws' := [(Ad1, .inr (12, Fs1)), (Ad2, .inl (Ka0, 4001, .inl Fa0)), (Ad3, .inl (Ka1, 4001, .inl Fa1)), (Ad4, .inl (Ka2, 4001, .inr (.inl Fa2))), (Ad6, .inr (9, Fs2))]) [1, 2, 3, 4, 6] rfl
  have hDc := hD.sub (ws' := [(Ad1, .inr (12, Fs1)), (Ad2, .inl (Ka0, 4001, .inl Fa0)), (Ad3, .inl (Ka1, 4001, .inl Fa1)), (Ad4, .inl (Ka2, 4001, .inr (.inl Fa2))), (Ad6, .inr (9, Fs2))]) [1, 2, 3, 4, 6] (by decide) rfl
  have hKc := hK.sub (tys' := [(Ka0, .int), (Ka1, .int), (Ka2, .long)]) [0, 1, 2] rfl
  have hFc := va_free (wc := [(Ad1, .inr (12, Fs1)), (Ad2, .inl (Ka0, 4001, .inl Fa0)), (Ad3, .inl (Ka1, 4001, .inl Fa1)), (Ad4, .inl (Ka2, 4001, .inr (.inl Fa2))), (Ad6, .inr (9, Fs2))]) hD hS hA [1, 2, 3, 4, 6] rfl
  refine va_calli (va_runV (As := []) (rest := []) ⟨hx, hb, hml, hown, hts⟩ (z_X6_readPromise l dC dI s.heap.size Ad1 Fs1 Ad2 Fa0 Ka0 Ad3 Fa1 Ka1 Ad4 Fa2 Ka2 Ad6 Fs2 (fh_sub o_Fs1.2 [0, 1, 2, 3] rfl) (fh_sub o_Fs2.2 [0] rfl) ) (cwV 0 hts g_z_X11_promise_z_X6_readPromise_329 rfl rfl rfl (by decide +kernel) ⟨Nat.le_of_ble_eq_true rfl, Nat.le_of_ble_eq_true rfl⟩) ⟨fun a U g mk q => by obtain ⟨q0, q1, qP, qK, qD⟩ := q; exact ⟨q0, q1, qP, va_K.moved (u := U) (U := U.calling g mk a) (Vm.Alike.refl U.vm) qK, qD⟩, va_recv hK hP (ci := 9) (q0 := 6) rfl rfl, fun U hU hW => ⟨rfl, by rw [hU], by rw [hU]; exact hPc, va_K.moved hW.alike hKc, hDc.weaken (fun _ _ _ _ => trivial)⟩⟩ rfl rfl hl.1 rfl (lv_room (Nat.le_of_ble_eq_true rfl)) dX11_promise_27 ⟨Nat.le_of_ble_eq_true rfl, Nat.le_of_ble_eq_true rfl⟩) hS (fun q _ h => hFc q h) hFc (fun r102 u t H1 locs ht hvm hw hB hz1 hk1 hS => ?_)
  obtain ⟨s103, f104, f105, f106, s107⟩ := u
  obtain ⟨hP1, hK1, hD1⟩ := hB
  rw [ht] at hP1
  try dsimp only at hw
  obtain ⟨hP, hD⟩ := va_join (wr := [(Ad0, .inr (14, Fs0)), (Ad5, .inl (Ka3, 3, .inr (.inr (.inr (.inr Fa3)))))]) (w1 := [(Ad1, .inr (12, s103)), (Ad2, .inl (Ka0, 4001, .inl f104)), (Ad3, .inl (Ka1, 4001, .inl f105)), (Ad4, .inl (Ka2, 4001, .inr (.inl f106))), (Ad6, .inr (9, s107))]) hP hD [1, 2, 3, 4, 6] [0, 5] rfl rfl (by decide) (by decide) hk1 hFc hP1 hD1
  have hK := hK.sub (tys' := [(Ka3, .object "HeapWorks$Program"), (Ka0, .int), (Ka1, .int), (Ka2, .long)]) [3, 0, 1, 2] rfl
  generalize H1 = H at hP hS ⊢
  have hP : va_P (dC, dI) vwCl [(Ad0, .inr (14, Fs0)), (Ad5, .inl (Ka3, 3, .inr (.inr (.inr (.inr Fa3))))), (Ad1, .inr (12, s103)), (Ad2, .inl (Ka0, 4001, .inl f104)), (Ad3, .inl (Ka1, 4001, .inl f105)), (Ad4, .inl (Ka2, 4001, .inr (.inl f106))), (Ad6, .inr (9, s107))] H := hP
  have hD : va_D A [(Ad0, .inr (14, Fs0)), (Ad5, .inl (Ka3, 3, .inr (.inr (.inr (.inr Fa3))))), (Ad1, .inr (12, s103)), (Ad2, .inl (Ka0, 4001, .inl f104)), (Ad3, .inl (Ka1, 4001, .inl f105)), (Ad4, .inl (Ka2, 4001, .inr (.inl f106))), (Ad6, .inr (9, s107))] := hD
  obtain ⟨er108, o_s103, o_s107, q109, q110, q111⟩ := hw
  subst er108
  have o_s103 := ow_on o_Fs1 o_s103 (l' := [(11, .long 0), (10, .int 0), (9, .int 0), (8, .int 0), (5, .ref Ad2), (6, .ref Ad3), (7, .ref Ad4), (8, .int 0), (4, .int 0), (1, .int 0), (4, .int 0), (1, .int 0), (5, .ref Ad2), (6, .ref Ad3), (7, .ref Ad4), (1, .int 0), (5, .ref Ad2), (6, .ref Ad3), (7, .ref Ad4), (1, .int 0), (5, .ref Ad2), (6, .ref Ad3), (7, .ref Ad4), (1, .int 0), (5, .ref Ad2), (6, .ref Ad3), (7, .ref Ad4)]) (w' := [11, 10, 9, 8, 4]) rfl rfl
  have o_s107 := ow_on o_Fs2 o_s107 (l' := [(7, .int 0), (6, .int 1), (0, .ref Ad1), (0, .ref Ad1), (0, .ref Ad1), (0, .ref Ad1), (0, .ref Ad1), (0, .ref Ad1), (18, .int 0), (0, .ref Ad1), (0, .ref Ad1), (18, .int 0), (0, .ref Ad1), (0, .ref Ad1), (18, .int 0), (0, .ref Ad1), (0, .ref Ad1), (18, .int 0), (0, .ref Ad1), (0, .ref Ad1), (18, .int 0), (0, .ref Ad1), (0, .ref Ad1), (18, .int 0), (0, .ref Ad1), (0, .ref Ad1), (18, .int 0), (0, .ref Ad1), (0, .ref Ad1), (18, .int 0), (0, .ref Ad1), (0, .ref Ad1), (18, .int 0), (16, .int 0), (13, .int 0), (12, .int 0), (11, .int 0), (10, .int 0), (9, .int 0), (8, .int 0), (5, .int 0), (0, .ref Ad1), (0, .ref Ad1), (0, .ref Ad1)]) (w' := [7, 6, 18, 16, 13, 12, 11, 10, 9, 8, 5]) rfl rfl
  refine lv_istore_n (lv' := [(2, .int 0), (1, .ref Ad6), (0, .ref Ad0)]) hx hb dX11_promise_30 rfl hl (by decide) rfl (fun ls hl => ?_)
  refine lv_aload_n hx hb dX11_promise_31 rfl (lv_at hl 2 rfl) ?_
  refine lv_aload_n hx hb dX11_promise_32 rfl (lv_at hl 1 rfl) ?_
  refine va_get (D := (dC, dI)) (ci := 9) (v := .int 1) (C := RX6) (T := TX6) (N := 19) hx hb hts (in_z_X11_promise_X6) hown hK hP 6 rfl rfl 6 (by decide) (hts (.fieldLink RX11 333 "HeapWorks$Program" "fault" "I") (by decide +kernel)) (fun _ h9 => h9) (ow_at o_s107 1 rfl) dX11_promise_33 ?_
  refine lv_aload_n hx hb dX11_promise_36 rfl (lv_at hl 1 rfl) ?_
  refine va_get (D := (dC, dI)) (ci := 9) (v := .int 0) (C := RX6) (T := TX6) (N := 19) hx hb hts (in_z_X11_promise_X6) hown hK hP 6 rfl rfl 7 (by decide) (hts (.fieldLink RX11 336 "HeapWorks$Program" "place" "I") (by decide +kernel)) (fun _ h9 => h9) (ow_at o_s107 0 rfl) dX11_promise_37 ?_
  have hPc := hP.sub (ws' := [(Ad0, .inr (14, Fs0))]) [0] rfl
  have hDc := hD.sub (ws' := [(Ad0, .inr (14, Fs0))]) [0] (by decide) rfl
  have hKc := hK.sub (tys' := []) [] rfl
  have hFc := va_free (wc := [(Ad0, .inr (14, Fs0))]) hD hS hA [0] rfl
  refine va_callv (va_runV (As := [.int 1, .int 0]) (rest := []) ⟨hx, hb, hml, hown, hts⟩ (z_X11_tellFault l dC dI H.size Ad0 Fs0 (fh_sub o_Fs0.2 [] rfl) ) (cwV 2 hts g_z_X11_promise_z_X11_tellFault_339 rfl rfl rfl (by decide +kernel) ⟨Nat.le_of_ble_eq_true rfl, Nat.le_of_ble_eq_true rfl⟩) ⟨fun a U g mk q => by obtain ⟨q0, q1, qP, qK, qD⟩ := q; exact ⟨q0, q1, qP, va_K.moved (u := U) (U := U.calling g mk a) (Vm.Alike.refl U.vm) qK, qD⟩, va_recv hK hP (ci := 14) (q0 := 0) rfl rfl, fun U hU hW => ⟨rfl, by rw [hU], by rw [hU]; exact hPc, va_K.moved hW.alike hKc, hDc.weaken (fun _ _ _ _ => trivial)⟩⟩ rfl rfl hl.1 rfl (lv_room (Nat.le_of_ble_eq_true rfl)) dX11_promise_40 ⟨Nat.le_of_ble_eq_true rfl, Nat.le_of_ble_eq_true rfl⟩) hS (fun q _ h => hFc q h) hFc (fun u t H1 locs ht hvm hw hB hz1 hk1 hS => ?_)
  obtain ⟨s112, rfl⟩ : ∃ z, z = u := ⟨_, rfl⟩
  obtain ⟨hP1, hK1, hD1⟩ := hB
  rw [ht] at hP1
  try dsimp only at hw
  obtain ⟨hP, hD⟩ := va_join (wr := [(Ad5, .inl (Ka3, 3, .inr (.inr (.inr (.inr Fa3))))), (Ad1, .inr (12, s103)), (Ad2, .inl (Ka0, 4001, .inl f104)), (Ad3, .inl (Ka1, 4001, .inl f105)), (Ad4, .inl (Ka2, 4001, .inr (.inl f106))), (Ad6, .inr (9, s107))]) (w1 := [(Ad0, .inr (14, s112))]) hP hD [0] [1, 2, 3, 4, 5, 6] rfl rfl (by decide) (by decide) hk1 hFc hP1 hD1
  have hK := hK.sub (tys' := [(Ka3, .object "HeapWorks$Program"), (Ka0, .int), (Ka1, .int), (Ka2, .long)]) [0, 1, 2, 3] rfl
  generalize H1 = H at hP hS ⊢
  have hP : va_P (dC, dI) vwCl [(Ad5, .inl (Ka3, 3, .inr (.inr (.inr (.inr Fa3))))), (Ad1, .inr (12, s103)), (Ad2, .inl (Ka0, 4001, .inl f104)), (Ad3, .inl (Ka1, 4001, .inl f105)), (Ad4, .inl (Ka2, 4001, .inr (.inl f106))), (Ad6, .inr (9, s107)), (Ad0, .inr (14, s112))] H := hP
  have hD : va_D A [(Ad5, .inl (Ka3, 3, .inr (.inr (.inr (.inr Fa3))))), (Ad1, .inr (12, s103)), (Ad2, .inl (Ka0, 4001, .inl f104)), (Ad3, .inl (Ka1, 4001, .inl f105)), (Ad4, .inl (Ka2, 4001, .inr (.inl f106))), (Ad6, .inr (9, s107)), (Ad0, .inr (14, s112))] := hD
  have o_s112 := hw
  have o_s112 := ow_on o_Fs0 o_s112 (l' := [(17, .int 0), (16, .int 1), (8, .ref Ad5), (10, .int 0)]) (w' := [17, 16]) rfl rfl
  refine lv_iload_n hx hb dX11_promise_43 rfl (lv_at hl 0 rfl) ?_
  refine lv_if_ne (tgt := 55) hx hb dX11_promise_44 (by decide) (fun c113 => absurd c113 (by decide)) (fun c113 => ?_)
  exact vx_throw0 (names := ["java/lang/RuntimeException", "java/lang/Exception"]) hx hb hst hown (by decide +kernel) (by decide +kernel) (hts (.classLink RX11 127 "java/lang/IllegalArgumentException") (by decide +kernel)) (hts (.initialized "java/lang/IllegalArgumentException") (by decide +kernel)) (vx_hat (B := xB "java/lang/IllegalArgumentException") (fun w h => hts w ((in_z_X11_promise_at0_X11_129) w h)) (by decide +kernel) (Zz_xB hZ (by decide))) (by decide +kernel) hZ.1 hZ.2.1 hS (hl.1.trans hml.symm) dX11_promise_47 dX11_promise_50 dX11_promise_51 dX11_promise_54 (fun x h => (htab x h).elim) (by decide) (Nat.le_of_ble_eq_true rfl) (Nat.le_of_ble_eq_true rfl) (Nat.le_of_ble_eq_true rfl) hlocks (fun t _ h1 h2 => ⟨(), trivial, rfl, xx_F hS h1 h2⟩) hS.2.2 (by decide) (by decide)

def l_z_X11_broken : List Cond := [.classLink RX11 221 "java/util/NoSuchElementException", .initialized "java/util/NoSuchElementException", .fieldLink RX11 326 "HeapWorks" "promiseCount" "I"]
def w_z_X11_broken : List Cond := .code yX11_broken cX11_broken 2 (some .int) :: (l_z_X11_broken ++ ((((vx_at0 RX11 223 "java/util/NoSuchElementException" ["java/lang/RuntimeException", "java/lang/Exception"]).filter goodWord) ++ wsX110)))
theorem in_z_X11_broken_at0_X11_223 : ∀ w ∈ ((vx_at0 RX11 223 "java/util/NoSuchElementException" ["java/lang/RuntimeException", "java/lang/Exception"]).filter goodWord), w ∈ w_z_X11_broken := fun w h => List.mem_cons_of_mem _ (List.mem_append_right _ (List.mem_append_left _ h))
theorem in_z_X11_broken_X11 : ∀ w ∈ wsX110, w ∈ w_z_X11_broken := fun w h => List.mem_cons_of_mem _ (List.mem_append_right _ (List.mem_append_right _ (h)))
set_option maxHeartbeats 4000000 in
set_option maxRecDepth 100000 in
theorem z_X11_broken (l : Launch) (dC : Nat → ClassId) (dI : Nat → Nat → Nat) (sz : Nat) (Ad0 : Nat) (Fs0 : List Value) (Va0 : Int32) (k_Fs0 : fh Fs0 18 [(10, .int 0)]) (hst : l.stackTraces = false)  : vx_Met l yX11_broken w_z_X11_broken ({ frames := 7, cells := 1, slots := 6, locals := 140 }) (va_Pc [.ref Ad0, .int Va0] (fun U => U.heap.size = sz ∧ Zz (va_A [(Ad0, .inr (14, Fs0))] sz) U ∧ Wd dC dI [] (fun _ => True) [(Ad0, .inr (14, Fs0))] U)) (va_Qi (fun (r : Int32) (u : Unit) => False) (fun (u : Unit) t => Wd dC dI [] (va_A [(Ad0, .inr (14, Fs0))] sz) [(Ad0, .inr (14, Fs0))] t) (va_A [(Ad0, .inr (14, Fs0))] sz)) (vx_X (fun _ : Unit => True) (fun E _ _ => (E = "java/util/NoSuchElementException" ∧ Va0 < 0) ∨ (E = "java/util/NoSuchElementException" ∧ ¬ Va0 < 0 ∧ ¬ Va0 < 0)) (va_A [(Ad0, .inr (14, Fs0))] sz)) 1 6 (va_A [(Ad0, .inr (14, Fs0))] sz) := by
  refine vx_ofW (cc := cX11_broken) (maxL := 2) (ret := (some .int)) (by decide) rfl ?_
  intro p e s m args below meth c s₁ B hml htab hv
  obtain ⟨rfl, hsz, hZ, hP, hK, hD0⟩ := hv
  have hx := B.exec
  have hb := B.bytes
  have hr := B.returns
  have hts := atoms_spec (ws := w_z_X11_broken) B.pre
  have hown : s.vm.findClass RX11 = some m.cls := findClass_of_methodNamed B.named
  have hlocks := B.notSynchronized
  subst hsz
  have hD := hD0.self (sz := s.heap.size)
  generalize hAe : va_A [(Ad0, .inr (14, Fs0))] s.heap.size = A at hD hZ ⊢
  have hA : ∀ q : Nat, s.heap.size ≤ q → A q := fun q h => by rw [← hAe]; exact Or.inr h
  have hS : va_S A s.heap s.heap [] := va_S.rf
  have hl := lv_entry ([.ref Ad0, .int Va0]) (n := 2) (Nat.le_of_ble_eq_true rfl)
  rw [lg_entry_eq]
  generalize (lg_sl ([.ref Ad0, .int Va0]) ++ List.replicate (2 - (lg_sl ([.ref Ad0, .int Va0])).length) Slot.unset).toArray = ls at hl ⊢
  have hl : lv_has ls 2 [(0, .ref Ad0), (1, .int Va0)] := hl
  have o_Fs0 := ow_0 k_Fs0
  refine lv_iload_n hx hb dX11_broken_0 rfl (lv_at hl 1 rfl) ?_
  refine lv_if_lt (tgt := 12) hx hb dX11_broken_1 (by decide) (fun c101 => ?_) (fun c101 => ?_)
  · skip
    exact vx_throw0 (names := ["java/lang/RuntimeException", "java/lang/Exception"]) hx hb hst hown (by decide +kernel) (by decide +kernel) (hts (.classLink RX11 221 "java/util/NoSuchElementException") (by decide +kernel)) (hts (.initialized "java/util/NoSuchElementException") (by decide +kernel)) (vx_hat (B := xB "java/util/NoSuchElementException") (fun w h => hts w ((in_z_X11_broken_at0_X11_223) w h)) (by decide +kernel) (Zz_xB hZ (by decide))) (by decide +kernel) hZ.1 hZ.2.1 hS (hl.1.trans hml.symm) dX11_broken_12 dX11_broken_15 dX11_broken_16 dX11_broken_19 (fun x h => (htab x h).elim) (by decide) (Nat.le_of_ble_eq_true rfl) (Nat.le_of_ble_eq_true rfl) (Nat.le_of_ble_eq_true rfl) hlocks (fun t _ h1 h2 => ⟨(), trivial, (Or.inl ⟨rfl, c101⟩), xx_F hS h1 h2⟩) hS.2.2 (by decide) (by decide)
  · skip
    refine lv_iload_n hx hb dX11_broken_4 rfl (lv_at hl 1 rfl) ?_
    refine lv_aload_n hx hb dX11_broken_5 rfl (lv_at hl 0 rfl) ?_
    refine va_get (D := (dC, dI)) (ci := 14) (v := .int 0) (C := RX11) (T := TX11) (N := 18) hx hb hts (in_z_X11_broken_X11) hown hK hP 0 rfl rfl 10 (by decide) (hts (.fieldLink RX11 326 "HeapWorks" "promiseCount" "I") (by decide +kernel)) (fun _ h9 => h9) (ow_at o_Fs0 0 rfl) dX11_broken_6 ?_
    refine lv_icmp_lt (tgt := 20) hx hb dX11_broken_9 (by decide) (fun c102 => (by exfalso; have bd_Va0 := i_bd Va0; (try simp only [i_lt, i_le, i_eq, kc_0] at c101 c102); omega)) (fun c102 => ?_)
    exact vx_throw0 (names := ["java/lang/RuntimeException", "java/lang/Exception"]) hx hb hst hown (by decide +kernel) (by decide +kernel) (hts (.classLink RX11 221 "java/util/NoSuchElementException") (by decide +kernel)) (hts (.initialized "java/util/NoSuchElementException") (by decide +kernel)) (vx_hat (B := xB "java/util/NoSuchElementException") (fun w h => hts w ((in_z_X11_broken_at0_X11_223) w h)) (by decide +kernel) (Zz_xB hZ (by decide))) (by decide +kernel) hZ.1 hZ.2.1 hS (hl.1.trans hml.symm) dX11_broken_12 dX11_broken_15 dX11_broken_16 dX11_broken_19 (fun x h => (htab x h).elim) (by decide) (Nat.le_of_ble_eq_true rfl) (Nat.le_of_ble_eq_true rfl) (Nat.le_of_ble_eq_true rfl) hlocks (fun t _ h1 h2 => ⟨(), trivial, (Or.inr (⟨rfl, c101, c102⟩)), xx_F hS h1 h2⟩) hS.2.2 (by decide) (by decide)

def l_z_X11_isPicture : List Cond := []
def w_z_X11_isPicture : List Cond := .code yX11_isPicture cX11_isPicture 1 (some .boolean) :: (l_z_X11_isPicture)
set_option maxHeartbeats 4000000 in
set_option maxRecDepth 100000 in
theorem z_X11_isPicture (l : Launch) (dC : Nat → ClassId) (dI : Nat → Nat → Nat) (sz : Nat) (Va0 : Int32)   : Met l yX11_isPicture w_z_X11_isPicture ({ frames := 0, cells := 0, slots := 0, locals := 0 }) (va_Pc [.int Va0] (fun U => U.heap.size = sz ∧ Wd dC dI [] (fun _ => True) [] U)) (va_Qi (fun (r : Int32) (u : Unit) => (Va0 < 0 ∧ r = 0) ∨ (¬ Va0 < 0 ∧ 4 ≤ Va0 ∧ r = 0) ∨ (¬ Va0 < 0 ∧ ¬ 4 ≤ Va0 ∧ r = 1)) (fun (u : Unit) t => Wd dC dI [] (va_A [] sz) [] t) (va_A [] sz))  0 0 (va_A [] sz) := by
  refine Met.ofW (cc := cX11_isPicture) (maxL := 1) (ret := (some .boolean)) (by decide) rfl ?_
  intro p e s m args below meth c s₁ B hml hv
  obtain ⟨rfl, hsz, hP, hK, hD0⟩ := hv
  have hx := B.exec
  have hb := B.bytes
  have hr := B.returns
  have hts := atoms_spec (ws := w_z_X11_isPicture) B.pre
  have hown : s.vm.findClass RX11 = some m.cls := findClass_of_methodNamed B.named
  have hlocks := B.notSynchronized
  subst hsz
  have hD := hD0.self (sz := s.heap.size)
  generalize hAe : va_A [] s.heap.size = A at hD ⊢
  have hA : ∀ q : Nat, s.heap.size ≤ q → A q := fun q h => by rw [← hAe]; exact Or.inr h
  have hS : va_S A s.heap s.heap [] := va_S.rf
  have hl := lv_entry ([.int Va0]) (n := 1) (Nat.le_of_ble_eq_true rfl)
  rw [lg_entry_eq]
  generalize (lg_sl ([.int Va0]) ++ List.replicate (1 - (lg_sl ([.int Va0])).length) Slot.unset).toArray = ls at hl ⊢
  have hl : lv_has ls 1 [(0, .int Va0)] := hl
  refine lv_iload_n hx hb dX11_isPicture_0 rfl (lv_at hl 0 rfl) ?_
  refine lv_if_lt (tgt := 13) hx hb dX11_isPicture_1 (by decide) (fun c101 => ?_) (fun c101 => ?_)
  · skip
    refine lv_iconst (v := 0) hx hb dX11_isPicture_13 (by decide) ?_
    have hP9 := hP.sub (ws' := []) [] rfl
    have hD9 := hD.sub (ws' := []) [] (by decide) rfl
    have hK9 := hK.sub (tys' := []) [] rfl
    exact W.zret (v := 0) hx hb hr rfl (fun t ht hW => ⟨⟨0, (), rfl, (Or.inl ⟨c101, rfl⟩), by rw [ht]; exact hP9, va_K.moved hW.alike hK9, hD9⟩, hS.F ht⟩) hS.2.2 dX11_isPicture_14
  · skip
    refine lv_iload_n hx hb dX11_isPicture_4 rfl (lv_at hl 0 rfl) ?_
    refine lv_iconst (v := 4) hx hb dX11_isPicture_5 (by decide) ?_
    refine lv_icmp_ge (tgt := 13) hx hb dX11_isPicture_6 (by decide) (fun c102 => ?_) (fun c102 => ?_)
    · skip
      refine lv_iconst (v := 0) hx hb dX11_isPicture_13 (by decide) ?_
      have hP9 := hP.sub (ws' := []) [] rfl
      have hD9 := hD.sub (ws' := []) [] (by decide) rfl
      have hK9 := hK.sub (tys' := []) [] rfl
      exact W.zret (v := 0) hx hb hr rfl (fun t ht hW => ⟨⟨0, (), rfl, (Or.inr (Or.inl ⟨c101, c102, rfl⟩)), by rw [ht]; exact hP9, va_K.moved hW.alike hK9, hD9⟩, hS.F ht⟩) hS.2.2 dX11_isPicture_14
    · skip
      refine lv_iconst (v := 1) hx hb dX11_isPicture_9 (by decide) ?_
      refine lv_goto (tgt := 14) hx hb dX11_isPicture_10 (by decide) ?_
      have hP9 := hP.sub (ws' := []) [] rfl
      have hD9 := hD.sub (ws' := []) [] (by decide) rfl
      have hK9 := hK.sub (tys' := []) [] rfl
      exact W.zret (v := 1) hx hb hr rfl (fun t ht hW => ⟨⟨1, (), rfl, (Or.inr (Or.inr (⟨c101, c102, rfl⟩))), by rw [ht]; exact hP9, va_K.moved hW.alike hK9, hD9⟩, hS.F ht⟩) hS.2.2 dX11_isPicture_14

def l_z_X11_needPicture : List Cond := [.methodLink RX11 411 yX11_isPicture, .static yX11_isPicture, .initialized RX11, .classLink RX11 120 "java/lang/IndexOutOfBoundsException", .initialized "java/lang/IndexOutOfBoundsException", .code yX11_isPicture cX11_isPicture 1 (some .boolean)]
def w_z_X11_needPicture : List Cond := .code yX11_needPicture cX11_needPicture 1 none :: (l_z_X11_needPicture ++ (((vx_at0 RX11 122 "java/lang/IndexOutOfBoundsException" ["java/lang/RuntimeException", "java/lang/Exception"]).filter goodWord)))
theorem in_z_X11_needPicture_at0_X11_122 : ∀ w ∈ ((vx_at0 RX11 122 "java/lang/IndexOutOfBoundsException" ["java/lang/RuntimeException", "java/lang/Exception"]).filter goodWord), w ∈ w_z_X11_needPicture := fun w h => List.mem_cons_of_mem _ (List.mem_append_right _ (h))
theorem g_z_X11_needPicture_z_X11_isPicture_411 : GoodIn w_z_X11_needPicture (wsS RX11 411 yX11_isPicture w_z_X11_isPicture) := goodIn_app (goodIn_r (([.methodLink RX11 411 yX11_isPicture, .static yX11_isPicture, .initialized RX11] : List Cond)) [1, 2, 3] rfl (by decide +kernel)) (goodIn_r (.code yX11_isPicture cX11_isPicture 1 (some .boolean) :: l_z_X11_isPicture) [6] rfl (by decide +kernel))
set_option maxHeartbeats 4000000 in
set_option maxRecDepth 100000 in
theorem z_X11_needPicture (l : Launch) (dC : Nat → ClassId) (dI : Nat → Nat → Nat) (sz : Nat) (Va0 : Int32)  (hst : l.stackTraces = false)  : vx_Met l yX11_needPicture w_z_X11_needPicture ({ frames := 7, cells := 1, slots := 6, locals := 140 }) (va_Pc [.int Va0] (fun U => U.heap.size = sz ∧ Zz (va_A [] sz) U ∧ Wd dC dI [] (fun _ => True) [] U)) (va_Qv (fun (u : Unit) => (¬ Va0 < 0 ∧ ¬ 4 ≤ Va0)) (fun (u : Unit) t => Wd dC dI [] (va_A [] sz) [] t) (va_A [] sz)) (vx_X (fun _ : Unit => True) (fun E _ _ => (E = "java/lang/IndexOutOfBoundsException" ∧ Va0 < 0) ∨ (E = "java/lang/IndexOutOfBoundsException" ∧ ¬ Va0 < 0 ∧ 4 ≤ Va0)) (va_A [] sz)) 1 6 (va_A [] sz) := by
  refine vx_ofW (cc := cX11_needPicture) (maxL := 1) (ret := none) (by decide) rfl ?_
  intro p e s m args below meth c s₁ B hml htab hv
  obtain ⟨rfl, hsz, hZ, hP, hK, hD0⟩ := hv
  have hx := B.exec
  have hb := B.bytes
  have hr := B.returns
  have hts := atoms_spec (ws := w_z_X11_needPicture) B.pre
  have hown : s.vm.findClass RX11 = some m.cls := findClass_of_methodNamed B.named
  have hlocks := B.notSynchronized
  subst hsz
  have hD := hD0.self (sz := s.heap.size)
  generalize hAe : va_A [] s.heap.size = A at hD hZ ⊢
  have hA : ∀ q : Nat, s.heap.size ≤ q → A q := fun q h => by rw [← hAe]; exact Or.inr h
  have hS : va_S A s.heap s.heap [] := va_S.rf
  have hl := lv_entry ([.int Va0]) (n := 1) (Nat.le_of_ble_eq_true rfl)
  rw [lg_entry_eq]
  generalize (lg_sl ([.int Va0]) ++ List.replicate (1 - (lg_sl ([.int Va0])).length) Slot.unset).toArray = ls at hl ⊢
  have hl : lv_has ls 1 [(0, .int Va0)] := hl
  refine lv_iload_n hx hb dX11_needPicture_0 rfl (lv_at hl 0 rfl) ?_
  have hPc := hP.sub (ws' := []) [] rfl
  have hDc := hD.sub (ws' := []) [] (by decide) rfl
  have hKc := hK.sub (tys' := []) [] rfl
  have hFc := va_free (wc := []) hD hS hA [] rfl
  refine va_calli (va_runS (As := [.int Va0]) (rest := []) ⟨hx, hb, hml, hown, hts⟩ (z_X11_isPicture l dC dI s.heap.size Va0  ) (cwS 1 hts g_z_X11_needPicture_z_X11_isPicture_411 rfl rfl rfl (by decide +kernel) ⟨Nat.le_of_ble_eq_true rfl, Nat.le_of_ble_eq_true rfl⟩) ⟨fun a U g mk q => by obtain ⟨q0, q1, qP, qK, qD⟩ := q; exact ⟨q0, q1, qP, va_K.moved (u := U) (U := U.calling g mk a) (Vm.Alike.refl U.vm) qK, qD⟩, fun U hU hW => ⟨rfl, by rw [hU], by rw [hU]; exact hPc, va_K.moved hW.alike hKc, hDc.weaken (fun _ _ _ _ => trivial)⟩⟩ rfl rfl hl.1 rfl (lv_room (Nat.le_of_ble_eq_true rfl)) dX11_needPicture_1 ⟨Nat.le_of_ble_eq_true rfl, Nat.le_of_ble_eq_true rfl⟩) hS (fun q _ h => hFc q h) hFc (fun r101 u t H1 locs ht hvm hw hB hz1 hk1 hS => ?_)
  obtain ⟨hP1, hK1, hD1⟩ := hB
  rw [ht] at hP1
  try dsimp only at hw
  obtain ⟨hP, hD⟩ := va_join (wr := []) (w1 := []) hP hD [] [] rfl rfl (by decide) (by decide) hk1 hFc hP1 hD1
  have hK := hK.sub (tys' := []) [] rfl
  generalize H1 = H at hP hS ⊢
  have hP : va_P (dC, dI) vwCl [] H := hP
  have hD : va_D A [] := hD
  rcases hw with ⟨c102, er103⟩ | ⟨c104, c105, er106⟩ | ⟨c107, c108, er109⟩
  · skip
    subst er103
    refine lv_if_ne (tgt := 15) hx hb dX11_needPicture_4 (by decide) (fun c110 => absurd c110 (by decide)) (fun c110 => ?_)
    exact vx_throw0 (names := ["java/lang/RuntimeException", "java/lang/Exception"]) hx hb hst hown (by decide +kernel) (by decide +kernel) (hts (.classLink RX11 120 "java/lang/IndexOutOfBoundsException") (by decide +kernel)) (hts (.initialized "java/lang/IndexOutOfBoundsException") (by decide +kernel)) (vx_hat (B := xB "java/lang/IndexOutOfBoundsException") (fun w h => hts w ((in_z_X11_needPicture_at0_X11_122) w h)) (by decide +kernel) (Zz_xB hZ (by decide))) (by decide +kernel) hZ.1 hZ.2.1 hS (hl.1.trans hml.symm) dX11_needPicture_7 dX11_needPicture_10 dX11_needPicture_11 dX11_needPicture_14 (fun x h => (htab x h).elim) (by decide) (Nat.le_of_ble_eq_true rfl) (Nat.le_of_ble_eq_true rfl) (Nat.le_of_ble_eq_true rfl) hlocks (fun t _ h1 h2 => ⟨(), trivial, (Or.inl ⟨rfl, c102⟩), xx_F hS h1 h2⟩) hS.2.2 (by decide) (by decide)
  · skip
    subst er106
    refine lv_if_ne (tgt := 15) hx hb dX11_needPicture_4 (by decide) (fun c111 => absurd c111 (by decide)) (fun c111 => ?_)
    exact vx_throw0 (names := ["java/lang/RuntimeException", "java/lang/Exception"]) hx hb hst hown (by decide +kernel) (by decide +kernel) (hts (.classLink RX11 120 "java/lang/IndexOutOfBoundsException") (by decide +kernel)) (hts (.initialized "java/lang/IndexOutOfBoundsException") (by decide +kernel)) (vx_hat (B := xB "java/lang/IndexOutOfBoundsException") (fun w h => hts w ((in_z_X11_needPicture_at0_X11_122) w h)) (by decide +kernel) (Zz_xB hZ (by decide))) (by decide +kernel) hZ.1 hZ.2.1 hS (hl.1.trans hml.symm) dX11_needPicture_7 dX11_needPicture_10 dX11_needPicture_11 dX11_needPicture_14 (fun x h => (htab x h).elim) (by decide) (Nat.le_of_ble_eq_true rfl) (Nat.le_of_ble_eq_true rfl) (Nat.le_of_ble_eq_true rfl) hlocks (fun t _ h1 h2 => ⟨(), trivial, (Or.inr (⟨rfl, c104, c105⟩)), xx_F hS h1 h2⟩) hS.2.2 (by decide) (by decide)
  · skip
    subst er109
    refine lv_if_ne (tgt := 15) hx hb dX11_needPicture_4 (by decide) (fun c112 => ?_) (fun c112 => absurd c112 (by decide))
    have hP9 := hP.sub (ws' := []) [] rfl
    have hD9 := hD.sub (ws' := []) [] (by decide) rfl
    have hK9 := hK.sub (tys' := []) [] rfl
    refine vx_ret ?_
    refine W.widen (k := 1) (n := 6) (by decide) (by decide) ?_
    exact W.vret hx hb hr (fun t ht hW => ⟨⟨(), rfl, ⟨c107, c108⟩, by rw [ht]; exact hP9, va_K.moved hW.alike hK9, hD9⟩, hS.F ht⟩) hS.2.2 dX11_needPicture_15

def l_z_X5_forget : List Cond := [.fieldLink RX5 82 "HeapWorks$Picture" "things" "I", .fieldLink RX5 86 "HeapWorks$Picture" "roots" "I", .fieldLink RX5 89 "HeapWorks$Picture" "lostCount" "I", .fieldLink RX5 78 "HeapWorks$Picture" "shape" "LHeapWorks$Shape;", .fieldLink RX5 92 "HeapWorks$Shape" "known" "I"]
def w_z_X5_forget : List Cond := .code yX5_forget cX5_forget 2 none :: (l_z_X5_forget ++ ((wsX50 ++ wsX80)))
theorem in_z_X5_forget_X5 : ∀ w ∈ wsX50, w ∈ w_z_X5_forget := fun w h => List.mem_cons_of_mem _ (List.mem_append_right _ (List.mem_append_left _ h))
theorem in_z_X5_forget_X8 : ∀ w ∈ wsX80, w ∈ w_z_X5_forget := fun w h => List.mem_cons_of_mem _ (List.mem_append_right _ (List.mem_append_right _ (h)))
set_option maxHeartbeats 4000000 in
set_option maxRecDepth 100000 in
theorem z_X5_forget (l : Launch) (dC : Nat → ClassId) (dI : Nat → Nat → Nat) (sz : Nat) (Ad0 : Nat) (Fs0 : List Value) (Ad1 : Nat) (Fs1 : List Value) (k_Fs0 : fh Fs0 21 [(0, .int 0), (20, .ref Ad1)]) (k_Fs1 : fh Fs1 18 [])  : Met l yX5_forget w_z_X5_forget ({ frames := 0, cells := 0, slots := 0, locals := 0 }) (va_Pc [.ref Ad0] (fun U => U.heap.size = sz ∧ Wd dC dI [] (fun _ => True) [(Ad0, .inr (8, Fs0)), (Ad1, .inr (11, Fs1))] U)) (va_Qv (fun (u : List Value × List Value) => (ow Fs0 (u.1) 21 [16, 11, 0] [(16, .int 0), (11, .int 0), (0, .int 0), (20, .ref Ad1)] ∧ ow Fs1 (u.2) 18 [1] [(1, .int 0)])) (fun (u : List Value × List Value) t => Wd dC dI [] (va_A [(Ad0, .inr (8, Fs0)), (Ad1, .inr (11, Fs1))] sz) [(Ad0, .inr (8, (u.1))), (Ad1, .inr (11, (u.2)))] t) (va_A [(Ad0, .inr (8, Fs0)), (Ad1, .inr (11, Fs1))] sz))  0 0 (va_A [(Ad0, .inr (8, Fs0)), (Ad1, .inr (11, Fs1))] sz) := by
  refine Met.ofW (cc := cX5_forget) (maxL := 2) (ret := none) (by decide) rfl ?_
  intro p e s m args below meth c s₁ B hml hv
  obtain ⟨rfl, hsz, hP, hK, hD0⟩ := hv
  have hx := B.exec
  have hb := B.bytes
  have hr := B.returns
  have hts := atoms_spec (ws := w_z_X5_forget) B.pre
  have hown : s.vm.findClass RX5 = some m.cls := findClass_of_methodNamed B.named
  have hlocks := B.notSynchronized
  subst hsz
  have hD := hD0.self (sz := s.heap.size)
  generalize hAe : va_A [(Ad0, .inr (8, Fs0)), (Ad1, .inr (11, Fs1))] s.heap.size = A at hD ⊢
  have hA : ∀ q : Nat, s.heap.size ≤ q → A q := fun q h => by rw [← hAe]; exact Or.inr h
  have hS : va_S A s.heap s.heap [] := va_S.rf
  have hl := lv_entry ([.ref Ad0]) (n := 2) (Nat.le_of_ble_eq_true rfl)
  rw [lg_entry_eq]
  generalize (lg_sl ([.ref Ad0]) ++ List.replicate (2 - (lg_sl ([.ref Ad0])).length) Slot.unset).toArray = ls at hl ⊢
  have hl : lv_has ls 2 [(0, .ref Ad0)] := hl
  have o_Fs0 := ow_0 k_Fs0
  have o_Fs1 := ow_0 k_Fs1
  refine lv_iconst (v := 0) hx hb dX5_forget_0 (by decide) ?_
  refine lv_istore_n (lv' := [(1, .int 0), (0, .ref Ad0)]) hx hb dX5_forget_1 rfl hl (by decide) rfl (fun ls hl => ?_)
  refine lv_iload_n hx hb dX5_forget_2 rfl (lv_at hl 0 rfl) ?_
  refine lv_aload_n hx hb dX5_forget_3 rfl (lv_at hl 1 rfl) ?_
  refine va_get (D := (dC, dI)) (ci := 8) (v := .int 0) (C := RX5) (T := TX5) (N := 21) hx hb hts (in_z_X5_forget_X5) hown hK hP 0 rfl rfl 0 (by decide) (hts (.fieldLink RX5 82 "HeapWorks$Picture" "things" "I") (by decide +kernel)) (fun _ h9 => h9) (ow_at o_Fs0 0 rfl) dX5_forget_4 ?_
  refine lv_icmp_ge (tgt := 35) hx hb dX5_forget_7 (by decide) (fun c101 => ?_) (fun c101 => absurd c101 (by decide))
  refine lv_aload_n hx hb dX5_forget_35 rfl (lv_at hl 1 rfl) ?_
  refine lv_iconst (v := 0) hx hb dX5_forget_36 (by decide) ?_
  refine va_put (D := (dC, dI)) (ci := 8) (v := .int 0) (ty := .int) (C := RX5) (T := TX5) (N := 21) hx hb hts (in_z_X5_forget_X5) tyX5 tyX5_ok nmX5 hown hK hP hD hS 0 rfl rfl 0 (by decide) (hts (.fieldLink RX5 82 "HeapWorks$Picture" "things" "I") (by decide +kernel)) (fun _ h9 => h9) rfl (by decide +kernel) rfl rfl (by rw [o_Fs0.2.1]; decide) dX5_forget_37 (fun H locs hP hD hS => ?_)
  have hP : va_P (dC, dI) vwCl [(Ad0, .inr (8, (Fs0.set 0 (.int 0)))), (Ad1, .inr (11, Fs1))] H := hP
  have hD : va_D A [(Ad0, .inr (8, (Fs0.set 0 (.int 0)))), (Ad1, .inr (11, Fs1))] := hD
  have o_s102 := ow_set o_Fs0 0 (.int 0) (by decide) (l' := [(0, .int 0), (20, .ref Ad1)]) (w' := [0]) rfl rfl
  generalize (Fs0.set 0 (.int 0)) = s102 at hP hD o_s102
  refine lv_aload_n hx hb dX5_forget_40 rfl (lv_at hl 1 rfl) ?_
  refine lv_iconst (v := 0) hx hb dX5_forget_41 (by decide) ?_
  refine va_put (D := (dC, dI)) (ci := 8) (v := .int 0) (ty := .int) (C := RX5) (T := TX5) (N := 21) hx hb hts (in_z_X5_forget_X5) tyX5 tyX5_ok nmX5 hown hK hP hD hS 0 rfl rfl 11 (by decide) (hts (.fieldLink RX5 86 "HeapWorks$Picture" "roots" "I") (by decide +kernel)) (fun _ h9 => h9) rfl (by decide +kernel) rfl rfl (by rw [o_s102.2.1]; decide) dX5_forget_42 (fun H locs hP hD hS => ?_)
  have hP : va_P (dC, dI) vwCl [(Ad0, .inr (8, (s102.set 11 (.int 0)))), (Ad1, .inr (11, Fs1))] H := hP
  have hD : va_D A [(Ad0, .inr (8, (s102.set 11 (.int 0)))), (Ad1, .inr (11, Fs1))] := hD
  have o_s103 := ow_set o_s102 11 (.int 0) (by decide) (l' := [(11, .int 0), (0, .int 0), (20, .ref Ad1)]) (w' := [11, 0]) rfl rfl
  generalize (s102.set 11 (.int 0)) = s103 at hP hD o_s103
  refine lv_aload_n hx hb dX5_forget_45 rfl (lv_at hl 1 rfl) ?_
  refine lv_iconst (v := 0) hx hb dX5_forget_46 (by decide) ?_
  refine va_put (D := (dC, dI)) (ci := 8) (v := .int 0) (ty := .int) (C := RX5) (T := TX5) (N := 21) hx hb hts (in_z_X5_forget_X5) tyX5 tyX5_ok nmX5 hown hK hP hD hS 0 rfl rfl 16 (by decide) (hts (.fieldLink RX5 89 "HeapWorks$Picture" "lostCount" "I") (by decide +kernel)) (fun _ h9 => h9) rfl (by decide +kernel) rfl rfl (by rw [o_s103.2.1]; decide) dX5_forget_47 (fun H locs hP hD hS => ?_)
  have hP : va_P (dC, dI) vwCl [(Ad0, .inr (8, (s103.set 16 (.int 0)))), (Ad1, .inr (11, Fs1))] H := hP
  have hD : va_D A [(Ad0, .inr (8, (s103.set 16 (.int 0)))), (Ad1, .inr (11, Fs1))] := hD
  have o_s104 := ow_set o_s103 16 (.int 0) (by decide) (l' := [(16, .int 0), (11, .int 0), (0, .int 0), (20, .ref Ad1)]) (w' := [16, 11, 0]) rfl rfl
  generalize (s103.set 16 (.int 0)) = s104 at hP hD o_s104
  refine lv_aload_n hx hb dX5_forget_50 rfl (lv_at hl 1 rfl) ?_
  refine va_get (D := (dC, dI)) (ci := 8) (v := .ref Ad1) (C := RX5) (T := TX5) (N := 21) hx hb hts (in_z_X5_forget_X5) hown hK hP 0 rfl rfl 20 (by decide) (hts (.fieldLink RX5 78 "HeapWorks$Picture" "shape" "LHeapWorks$Shape;") (by decide +kernel)) (fun _ h9 => h9) (ow_at o_s104 3 rfl) dX5_forget_51 ?_
  refine lv_iconst (v := 0) hx hb dX5_forget_54 (by decide) ?_
  refine va_put (D := (dC, dI)) (ci := 11) (v := .int 0) (ty := .int) (C := RX8) (T := TX8) (N := 18) hx hb hts (in_z_X5_forget_X8) tyX8 tyX8_ok nmX8 hown hK hP hD hS 1 rfl rfl 1 (by decide) (hts (.fieldLink RX5 92 "HeapWorks$Shape" "known" "I") (by decide +kernel)) (fun _ h9 => h9) rfl (by decide +kernel) rfl rfl (by rw [o_Fs1.2.1]; decide) dX5_forget_55 (fun H locs hP hD hS => ?_)
  have hP : va_P (dC, dI) vwCl [(Ad0, .inr (8, s104)), (Ad1, .inr (11, (Fs1.set 1 (.int 0))))] H := hP
  have hD : va_D A [(Ad0, .inr (8, s104)), (Ad1, .inr (11, (Fs1.set 1 (.int 0))))] := hD
  have o_s105 := ow_set o_Fs1 1 (.int 0) (by decide) (l' := [(1, .int 0)]) (w' := [1]) rfl rfl
  generalize (Fs1.set 1 (.int 0)) = s105 at hP hD o_s105
  have hP9 := hP.sub (ws' := [(Ad0, .inr (8, s104)), (Ad1, .inr (11, s105))]) [0, 1] rfl
  have hD9 := hD.sub (ws' := [(Ad0, .inr (8, s104)), (Ad1, .inr (11, s105))]) [0, 1] (by decide) rfl
  have hK9 := hK.sub (tys' := []) [] rfl
  exact W.vret hx hb hr (fun t ht hW => ⟨⟨(s104, s105), rfl, ⟨o_s104, o_s105⟩, by rw [ht]; exact hP9, va_K.moved hW.alike hK9, hD9⟩, hS.F ht⟩) hS.2.2 dX5_forget_58

def l_z_X5_takeFrom : List Cond := [.methodLink RX5 95 yX5_forget, .instanceMethod yX5_forget, .selects RX5 yX5_forget yX5_forget, .initialized RX5, .fieldLink RX5 98 "HeapWorks$Heap" "rootCount" "I", .fieldLink RX5 107 "HeapWorks$Heap" "types" "LHeapWorks$Types;", .methodLink RX5 111 yX10_ownFields, .instanceMethod yX10_ownFields, .selects RX10 yX10_ownFields yX10_ownFields, .initialized RX10, .fieldLink RX5 82 "HeapWorks$Picture" "things" "I", .code yX5_forget cX5_forget 2 none, .fieldLink RX5 86 "HeapWorks$Picture" "roots" "I", .fieldLink RX5 89 "HeapWorks$Picture" "lostCount" "I", .fieldLink RX5 78 "HeapWorks$Picture" "shape" "LHeapWorks$Shape;", .fieldLink RX5 92 "HeapWorks$Shape" "known" "I", .code yX10_ownFields cX10_ownFields 1 (some .int), .fieldLink RX10 65 "HeapWorks$Types" "count" "I"]
def w_z_X5_takeFrom : List Cond := .code yX5_takeFrom cX5_takeFrom 4 none :: (l_z_X5_takeFrom ++ ((wsX20 ++ (wsX50 ++ (wsX80 ++ wsX100)))))
theorem in_z_X5_takeFrom_X2 : ∀ w ∈ wsX20, w ∈ w_z_X5_takeFrom := fun w h => List.mem_cons_of_mem _ (List.mem_append_right _ (List.mem_append_left _ h))
theorem in_z_X5_takeFrom_X5 : ∀ w ∈ wsX50, w ∈ w_z_X5_takeFrom := fun w h => List.mem_cons_of_mem _ (List.mem_append_right _ (List.mem_append_right _ (List.mem_append_left _ h)))
theorem in_z_X5_takeFrom_X8 : ∀ w ∈ wsX80, w ∈ w_z_X5_takeFrom := fun w h => List.mem_cons_of_mem _ (List.mem_append_right _ (List.mem_append_right _ (List.mem_append_right _ (List.mem_append_left _ h))))
theorem in_z_X5_takeFrom_X10 : ∀ w ∈ wsX100, w ∈ w_z_X5_takeFrom := fun w h => List.mem_cons_of_mem _ (List.mem_append_right _ (List.mem_append_right _ (List.mem_append_right _ (List.mem_append_right _ (h)))))
theorem g_z_X5_takeFrom_z_X5_forget_95 : GoodIn w_z_X5_takeFrom (wsV RX5 95 RX5 yX5_forget w_z_X5_forget) := goodIn_app (goodIn_r (([.methodLink RX5 95 yX5_forget, .instanceMethod yX5_forget, .selects RX5 yX5_forget yX5_forget, .initialized RX5] : List Cond)) [1, 2, 3, 4] rfl (by decide +kernel)) (goodIn_ca (goodIn_r (.code yX5_forget cX5_forget 2 none :: l_z_X5_forget) [12, 11, 13, 14, 15, 16] rfl (by decide +kernel)) (goodIn_app (goodIn_in (in_z_X5_takeFrom_X5) gd_X5) (goodIn_in (in_z_X5_takeFrom_X8) gd_X8)))
theorem g_z_X5_takeFrom_z_X10_ownFields_111 : GoodIn w_z_X5_takeFrom (wsV RX5 111 RX10 yX10_ownFields w_z_X10_ownFields) := goodIn_app (goodIn_r (([.methodLink RX5 111 yX10_ownFields, .instanceMethod yX10_ownFields, .selects RX10 yX10_ownFields yX10_ownFields, .initialized RX10] : List Cond)) [7, 8, 9, 10] rfl (by decide +kernel)) (goodIn_ca (goodIn_r (.code yX10_ownFields cX10_ownFields 1 (some .int) :: l_z_X10_ownFields) [17, 18] rfl (by decide +kernel)) (goodIn_in (in_z_X5_takeFrom_X10) gd_X10))
set_option maxHeartbeats 4000000 in
set_option maxRecDepth 100000 in
theorem z_X5_takeFrom (l : Launch) (dC : Nat → ClassId) (dI : Nat → Nat → Nat) (sz : Nat) (Ad0 : Nat) (Fs0 : List Value) (Ad1 : Nat) (Fs1 : List Value) (Ad2 : Nat) (Fs2 : List Value) (Ad3 : Nat) (Fs3 : List Value) (k_Fs0 : fh Fs0 18 [(0, .int 0)]) (k_Fs1 : fh Fs1 14 [(0, .ref Ad0), (11, .int 0)]) (k_Fs2 : fh Fs2 21 [(0, .int 0), (20, .ref Ad3)]) (k_Fs3 : fh Fs3 18 [])  : Met l yX5_takeFrom w_z_X5_takeFrom ({ frames := 1, cells := 0, slots := 0, locals := 21 }) (va_Pc [.ref Ad2, .ref Ad1] (fun U => U.heap.size = sz ∧ Wd dC dI [] (fun _ => True) [(Ad0, .inr (13, Fs0)), (Ad1, .inr (5, Fs1)), (Ad2, .inr (8, Fs2)), (Ad3, .inr (11, Fs3))] U)) (va_Qv (fun (u : List Value × List Value) => (ow Fs2 (u.1) 21 [16, 11, 0] [(16, .int 0), (11, .int 0), (0, .int 0), (20, .ref Ad3), (20, .ref Ad3)] ∧ ow Fs3 (u.2) 18 [1] [(1, .int 0)])) (fun (u : List Value × List Value) t => Wd dC dI [] (va_A [(Ad0, .inr (13, Fs0)), (Ad1, .inr (5, Fs1)), (Ad2, .inr (8, Fs2)), (Ad3, .inr (11, Fs3))] sz) [(Ad0, .inr (13, Fs0)), (Ad1, .inr (5, Fs1)), (Ad2, .inr (8, (u.1))), (Ad3, .inr (11, (u.2)))] t) (va_A [(Ad0, .inr (13, Fs0)), (Ad1, .inr (5, Fs1)), (Ad2, .inr (8, Fs2)), (Ad3, .inr (11, Fs3))] sz))  0 0 (va_A [(Ad0, .inr (13, Fs0)), (Ad1, .inr (5, Fs1)), (Ad2, .inr (8, Fs2)), (Ad3, .inr (11, Fs3))] sz) := by
  refine Met.ofW (cc := cX5_takeFrom) (maxL := 4) (ret := none) (by decide) rfl ?_
  intro p e s m args below meth c s₁ B hml hv
  obtain ⟨rfl, hsz, hP, hK, hD0⟩ := hv
  have hx := B.exec
  have hb := B.bytes
  have hr := B.returns
  have hts := atoms_spec (ws := w_z_X5_takeFrom) B.pre
  have hown : s.vm.findClass RX5 = some m.cls := findClass_of_methodNamed B.named
  have hlocks := B.notSynchronized
  subst hsz
  have hD := hD0.self (sz := s.heap.size)
  generalize hAe : va_A [(Ad0, .inr (13, Fs0)), (Ad1, .inr (5, Fs1)), (Ad2, .inr (8, Fs2)), (Ad3, .inr (11, Fs3))] s.heap.size = A at hD ⊢
  have hA : ∀ q : Nat, s.heap.size ≤ q → A q := fun q h => by rw [← hAe]; exact Or.inr h
  have hS : va_S A s.heap s.heap [] := va_S.rf
  have hl := lv_entry ([.ref Ad2, .ref Ad1]) (n := 4) (Nat.le_of_ble_eq_true rfl)
  rw [lg_entry_eq]
  generalize (lg_sl ([.ref Ad2, .ref Ad1]) ++ List.replicate (4 - (lg_sl ([.ref Ad2, .ref Ad1])).length) Slot.unset).toArray = ls at hl ⊢
  have hl : lv_has ls 4 [(0, .ref Ad2), (1, .ref Ad1)] := hl
  have o_Fs0 := ow_0 k_Fs0
  have o_Fs1 := ow_0 k_Fs1
  have o_Fs2 := ow_0 k_Fs2
  have o_Fs3 := ow_0 k_Fs3
  refine lv_aload_n hx hb dX5_takeFrom_0 rfl (lv_at hl 0 rfl) ?_
  have hPc := hP.sub (ws' := [(Ad2, .inr (8, Fs2)), (Ad3, .inr (11, Fs3))]) [2, 3] rfl
  have hDc := hD.sub (ws' := [(Ad2, .inr (8, Fs2)), (Ad3, .inr (11, Fs3))]) [2, 3] (by decide) rfl
  have hKc := hK.sub (tys' := []) [] rfl
  have hFc := va_free (wc := [(Ad2, .inr (8, Fs2)), (Ad3, .inr (11, Fs3))]) hD hS hA [2, 3] rfl
  refine va_callv (va_runV (As := []) (rest := []) ⟨hx, hb, hml, hown, hts⟩ (z_X5_forget l dC dI s.heap.size Ad2 Fs2 Ad3 Fs3 (fh_sub o_Fs2.2 [0, 1] rfl) (fh_sub o_Fs3.2 [] rfl) ) (cwV 0 hts g_z_X5_takeFrom_z_X5_forget_95 rfl rfl rfl (by decide +kernel) ⟨Nat.le_of_ble_eq_true rfl, Nat.le_of_ble_eq_true rfl⟩) ⟨fun a U g mk q => by obtain ⟨q0, q1, qP, qK, qD⟩ := q; exact ⟨q0, q1, qP, va_K.moved (u := U) (U := U.calling g mk a) (Vm.Alike.refl U.vm) qK, qD⟩, va_recv hK hP (ci := 8) (q0 := 2) rfl rfl, fun U hU hW => ⟨rfl, by rw [hU], by rw [hU]; exact hPc, va_K.moved hW.alike hKc, hDc.weaken (fun _ _ _ _ => trivial)⟩⟩ rfl rfl hl.1 rfl (lv_room (Nat.le_of_ble_eq_true rfl)) dX5_takeFrom_1 ⟨Nat.le_of_ble_eq_true rfl, Nat.le_of_ble_eq_true rfl⟩) hS (fun q _ h => hFc q h) hFc (fun u t H1 locs ht hvm hw hB hz1 hk1 hS => ?_)
  obtain ⟨s101, s102⟩ := u
  obtain ⟨hP1, hK1, hD1⟩ := hB
  rw [ht] at hP1
  try dsimp only at hw
  obtain ⟨hP, hD⟩ := va_join (wr := [(Ad0, .inr (13, Fs0)), (Ad1, .inr (5, Fs1))]) (w1 := [(Ad2, .inr (8, s101)), (Ad3, .inr (11, s102))]) hP hD [2, 3] [0, 1] rfl rfl (by decide) (by decide) hk1 hFc hP1 hD1
  have hK := hK.sub (tys' := []) [] rfl
  generalize H1 = H at hP hS ⊢
  have hP : va_P (dC, dI) vwCl [(Ad0, .inr (13, Fs0)), (Ad1, .inr (5, Fs1)), (Ad2, .inr (8, s101)), (Ad3, .inr (11, s102))] H := hP
  have hD : va_D A [(Ad0, .inr (13, Fs0)), (Ad1, .inr (5, Fs1)), (Ad2, .inr (8, s101)), (Ad3, .inr (11, s102))] := hD
  obtain ⟨o_s101, o_s102⟩ := hw
  have o_s101 := ow_on o_Fs2 o_s101 (l' := [(16, .int 0), (11, .int 0), (0, .int 0), (20, .ref Ad3), (20, .ref Ad3)]) (w' := [16, 11, 0]) rfl rfl
  have o_s102 := ow_on o_Fs3 o_s102 (l' := [(1, .int 0)]) (w' := [1]) rfl rfl
  refine lv_iconst (v := 0) hx hb dX5_takeFrom_4 (by decide) ?_
  refine lv_istore_n (lv' := [(2, .int 0), (0, .ref Ad2), (1, .ref Ad1)]) hx hb dX5_takeFrom_5 rfl hl (by decide) rfl (fun ls hl => ?_)
  refine lv_iload_n hx hb dX5_takeFrom_6 rfl (lv_at hl 0 rfl) ?_
  refine lv_aload_n hx hb dX5_takeFrom_7 rfl (lv_at hl 2 rfl) ?_
  refine va_get (D := (dC, dI)) (ci := 5) (v := .int 0) (C := RX2) (T := TX2) (N := 14) hx hb hts (in_z_X5_takeFrom_X2) hown hK hP 1 rfl rfl 11 (by decide) (hts (.fieldLink RX5 98 "HeapWorks$Heap" "rootCount" "I") (by decide +kernel)) (fun _ h9 => h9) (ow_at o_Fs1 1 rfl) dX5_takeFrom_8 ?_
  refine lv_icmp_ge (tgt := 33) hx hb dX5_takeFrom_11 (by decide) (fun c103 => ?_) (fun c103 => absurd c103 (by decide))
  refine lv_aload_n hx hb dX5_takeFrom_33 rfl (lv_at hl 2 rfl) ?_
  refine va_get (D := (dC, dI)) (ci := 5) (v := .int 0) (C := RX2) (T := TX2) (N := 14) hx hb hts (in_z_X5_takeFrom_X2) hown hK hP 1 rfl rfl 11 (by decide) (hts (.fieldLink RX5 98 "HeapWorks$Heap" "rootCount" "I") (by decide +kernel)) (fun _ h9 => h9) (ow_at o_Fs1 1 rfl) dX5_takeFrom_34 ?_
  refine lv_istore_n (lv' := [(2, .int 0), (0, .ref Ad2), (1, .ref Ad1)]) hx hb dX5_takeFrom_37 rfl hl (by decide) rfl (fun ls hl => ?_)
  refine lv_iconst (v := 0) hx hb dX5_takeFrom_38 (by decide) ?_
  refine lv_istore_n (lv' := [(3, .int 0), (2, .int 0), (0, .ref Ad2), (1, .ref Ad1)]) hx hb dX5_takeFrom_39 rfl hl (by decide) rfl (fun ls hl => ?_)
  refine lv_iload_n hx hb dX5_takeFrom_40 rfl (lv_at hl 0 rfl) ?_
  refine lv_aload_n hx hb dX5_takeFrom_41 rfl (lv_at hl 3 rfl) ?_
  refine va_get (D := (dC, dI)) (ci := 5) (v := .ref Ad0) (C := RX2) (T := TX2) (N := 14) hx hb hts (in_z_X5_takeFrom_X2) hown hK hP 1 rfl rfl 0 (by decide) (hts (.fieldLink RX5 107 "HeapWorks$Heap" "types" "LHeapWorks$Types;") (by decide +kernel)) (fun _ h9 => h9) (ow_at o_Fs1 0 rfl) dX5_takeFrom_42 ?_
  have hPc := hP.sub (ws' := [(Ad0, .inr (13, Fs0))]) [0] rfl
  have hDc := hD.sub (ws' := [(Ad0, .inr (13, Fs0))]) [0] (by decide) rfl
  have hKc := hK.sub (tys' := []) [] rfl
  have hFc := va_free (wc := [(Ad0, .inr (13, Fs0))]) hD hS hA [0] rfl
  refine va_calli (va_runV (As := []) (rest := [.int 0]) ⟨hx, hb, hml, hown, hts⟩ (z_X10_ownFields l dC dI H.size Ad0 Fs0 (fh_sub o_Fs0.2 [0] rfl) ) (cwV 0 hts g_z_X5_takeFrom_z_X10_ownFields_111 rfl rfl rfl (by decide +kernel) ⟨Nat.le_of_ble_eq_true rfl, Nat.le_of_ble_eq_true rfl⟩) ⟨fun a U g mk q => by obtain ⟨q0, q1, qP, qK, qD⟩ := q; exact ⟨q0, q1, qP, va_K.moved (u := U) (U := U.calling g mk a) (Vm.Alike.refl U.vm) qK, qD⟩, va_recv hK hP (ci := 13) (q0 := 0) rfl rfl, fun U hU hW => ⟨rfl, by rw [hU], by rw [hU]; exact hPc, va_K.moved hW.alike hKc, hDc.weaken (fun _ _ _ _ => trivial)⟩⟩ rfl rfl hl.1 rfl (lv_room (Nat.le_of_ble_eq_true rfl)) dX5_takeFrom_45 ⟨Nat.le_of_ble_eq_true rfl, Nat.le_of_ble_eq_true rfl⟩) hS (fun q _ h => hFc q h) hFc (fun r104 u t H1 locs ht hvm hw hB hz1 hk1 hS => ?_)
  obtain ⟨hP1, hK1, hD1⟩ := hB
  rw [ht] at hP1
  try dsimp only at hw
  obtain ⟨hP, hD⟩ := va_join (wr := [(Ad1, .inr (5, Fs1)), (Ad2, .inr (8, s101)), (Ad3, .inr (11, s102))]) (w1 := [(Ad0, .inr (13, Fs0))]) hP hD [0] [1, 2, 3] rfl rfl (by decide) (by decide) hk1 hFc hP1 hD1
  have hK := hK.sub (tys' := []) [] rfl
  generalize H1 = H at hP hS ⊢
  have hP : va_P (dC, dI) vwCl [(Ad1, .inr (5, Fs1)), (Ad2, .inr (8, s101)), (Ad3, .inr (11, s102)), (Ad0, .inr (13, Fs0))] H := hP
  have hD : va_D A [(Ad1, .inr (5, Fs1)), (Ad2, .inr (8, s101)), (Ad3, .inr (11, s102)), (Ad0, .inr (13, Fs0))] := hD
  have er105 := hw
  subst er105
  refine lv_icmp_ge (tgt := 83) hx hb dX5_takeFrom_48 (by decide) (fun c106 => ?_) (fun c106 => absurd c106 (by decide))
  refine lv_iconst (v := 0) hx hb dX5_takeFrom_83 (by decide) ?_
  refine lv_istore_n (lv' := [(3, .int 0), (2, .int 0), (0, .ref Ad2), (1, .ref Ad1)]) hx hb dX5_takeFrom_84 rfl hl (by decide) rfl (fun ls hl => ?_)
  refine lv_iload_n hx hb dX5_takeFrom_85 rfl (lv_at hl 0 rfl) ?_
  refine lv_aload_n hx hb dX5_takeFrom_86 rfl (lv_at hl 2 rfl) ?_
  refine va_get (D := (dC, dI)) (ci := 8) (v := .int 0) (C := RX5) (T := TX5) (N := 21) hx hb hts (in_z_X5_takeFrom_X5) hown hK hP 1 rfl rfl 0 (by decide) (hts (.fieldLink RX5 82 "HeapWorks$Picture" "things" "I") (by decide +kernel)) (fun _ h9 => h9) (ow_at o_s101 2 rfl) dX5_takeFrom_87 ?_
  refine lv_icmp_ge (tgt := 105) hx hb dX5_takeFrom_90 (by decide) (fun c107 => ?_) (fun c107 => absurd c107 (by decide))
  have hP9 := hP.sub (ws' := [(Ad0, .inr (13, Fs0)), (Ad1, .inr (5, Fs1)), (Ad2, .inr (8, s101)), (Ad3, .inr (11, s102))]) [3, 0, 1, 2] rfl
  have hD9 := hD.sub (ws' := [(Ad0, .inr (13, Fs0)), (Ad1, .inr (5, Fs1)), (Ad2, .inr (8, s101)), (Ad3, .inr (11, s102))]) [3, 0, 1, 2] (by decide) rfl
  have hK9 := hK.sub (tys' := []) [] rfl
  exact W.vret hx hb hr (fun t ht hW => ⟨⟨(s101, s102), rfl, ⟨o_s101, o_s102⟩, by rw [ht]; exact hP9, va_K.moved hW.alike hK9, hD9⟩, hS.F ht⟩) hS.2.2 dX5_takeFrom_105

def l_z_X11_take : List Cond := [.methodLink RX11 353 yX11_needPicture, .static yX11_needPicture, .initialized RX11, .fieldLink RX11 41 "HeapWorks" "pictures" "[LHeapWorks$Picture;", .fieldLink RX11 28 "HeapWorks" "heap" "LHeapWorks$Heap;", .methodLink RX11 342 yX5_takeFrom, .instanceMethod yX5_takeFrom, .selects RX5 yX5_takeFrom yX5_takeFrom, .initialized RX5, .fieldLink RX11 356 "HeapWorks$Picture" "things" "I", .code yX11_needPicture cX11_needPicture 1 none, .methodLink RX11 411 yX11_isPicture, .static yX11_isPicture, .classLink RX11 120 "java/lang/IndexOutOfBoundsException", .initialized "java/lang/IndexOutOfBoundsException", .code yX11_isPicture cX11_isPicture 1 (some .boolean), .code yX5_takeFrom cX5_takeFrom 4 none, .methodLink RX5 95 yX5_forget, .instanceMethod yX5_forget, .selects RX5 yX5_forget yX5_forget, .fieldLink RX5 98 "HeapWorks$Heap" "rootCount" "I", .fieldLink RX5 107 "HeapWorks$Heap" "types" "LHeapWorks$Types;", .methodLink RX5 111 yX10_ownFields, .instanceMethod yX10_ownFields, .selects RX10 yX10_ownFields yX10_ownFields, .initialized RX10, .fieldLink RX5 82 "HeapWorks$Picture" "things" "I", .code yX5_forget cX5_forget 2 none, .fieldLink RX5 86 "HeapWorks$Picture" "roots" "I", .fieldLink RX5 89 "HeapWorks$Picture" "lostCount" "I", .fieldLink RX5 78 "HeapWorks$Picture" "shape" "LHeapWorks$Shape;", .fieldLink RX5 92 "HeapWorks$Shape" "known" "I", .code yX10_ownFields cX10_ownFields 1 (some .int), .fieldLink RX10 65 "HeapWorks$Types" "count" "I"]
def w_z_X11_take : List Cond := .code yX11_take cX11_take 2 (some .int) :: (l_z_X11_take ++ ((wsX110 ++ (wsX50 ++ (((vx_at0 RX11 122 "java/lang/IndexOutOfBoundsException" ["java/lang/RuntimeException", "java/lang/Exception"]).filter goodWord) ++ (wsX20 ++ (wsX80 ++ wsX100)))))))
theorem in_z_X11_take_X11 : ∀ w ∈ wsX110, w ∈ w_z_X11_take := fun w h => List.mem_cons_of_mem _ (List.mem_append_right _ (List.mem_append_left _ h))
theorem in_z_X11_take_X5 : ∀ w ∈ wsX50, w ∈ w_z_X11_take := fun w h => List.mem_cons_of_mem _ (List.mem_append_right _ (List.mem_append_right _ (List.mem_append_left _ h)))
theorem in_z_X11_take_at0_X11_122 : ∀ w ∈ ((vx_at0 RX11 122 "java/lang/IndexOutOfBoundsException" ["java/lang/RuntimeException", "java/lang/Exception"]).filter goodWord), w ∈ w_z_X11_take := fun w h => List.mem_cons_of_mem _ (List.mem_append_right _ (List.mem_append_right _ (List.mem_append_right _ (List.mem_append_left _ h))))
theorem in_z_X11_take_X2 : ∀ w ∈ wsX20, w ∈ w_z_X11_take := fun w h => List.mem_cons_of_mem _ (List.mem_append_right _ (List.mem_append_right _ (List.mem_append_right _ (List.mem_append_right _ (List.mem_append_left _ h)))))
theorem in_z_X11_take_X8 : ∀ w ∈ wsX80, w ∈ w_z_X11_take := fun w h => List.mem_cons_of_mem _ (List.mem_append_right _ (List.mem_append_right _ (List.mem_append_right _ (List.mem_append_right _ (List.mem_append_right _ (List.mem_append_left _ h))))))
theorem in_z_X11_take_X10 : ∀ w ∈ wsX100, w ∈ w_z_X11_take := fun w h => List.mem_cons_of_mem _ (List.mem_append_right _ (List.mem_append_right _ (List.mem_append_right _ (List.mem_append_right _ (List.mem_append_right _ (List.mem_append_right _ (h)))))))
theorem g_z_X11_take_z_X11_needPicture_353 : GoodIn w_z_X11_take (wsS RX11 353 yX11_needPicture w_z_X11_needPicture) := goodIn_app (goodIn_r (([.methodLink RX11 353 yX11_needPicture, .static yX11_needPicture, .initialized RX11] : List Cond)) [1, 2, 3] rfl (by decide +kernel)) (goodIn_ca (goodIn_r (.code yX11_needPicture cX11_needPicture 1 none :: l_z_X11_needPicture) [11, 12, 13, 3, 14, 15, 16] rfl (by decide +kernel)) (goodIn_in (in_z_X11_take_at0_X11_122) gd_at0_X11_122))
theorem g_z_X11_take_z_X5_takeFrom_342 : GoodIn w_z_X11_take (wsV RX11 342 RX5 yX5_takeFrom w_z_X5_takeFrom) := goodIn_app (goodIn_r (([.methodLink RX11 342 yX5_takeFrom, .instanceMethod yX5_takeFrom, .selects RX5 yX5_takeFrom yX5_takeFrom, .initialized RX5] : List Cond)) [6, 7, 8, 9] rfl (by decide +kernel)) (goodIn_ca (goodIn_r (.code yX5_takeFrom cX5_takeFrom 4 none :: l_z_X5_takeFrom) [17, 18, 19, 20, 9, 21, 22, 23, 24, 25, 26, 27, 28, 29, 30, 31, 32, 33, 34] rfl (by decide +kernel)) (goodIn_app (goodIn_in (in_z_X11_take_X2) gd_X2) (goodIn_app (goodIn_in (in_z_X11_take_X5) gd_X5) (goodIn_app (goodIn_in (in_z_X11_take_X8) gd_X8) (goodIn_in (in_z_X11_take_X10) gd_X10)))))
set_option maxHeartbeats 4000000 in
set_option maxRecDepth 100000 in
theorem z_X11_take (l : Launch) (dC : Nat → ClassId) (dI : Nat → Nat → Nat) (sz : Nat) (Ad0 : Nat) (Fs0 : List Value) (Ad1 : Nat) (Fs1 : List Value) (Ad2 : Nat) (Fs2 : List Value) (Ad3 : Nat) (Fa0 : Nat → Option Nat) (Ka0 : ClassId) (Ad4 : Nat) (Fs3 : List Value) (Ad5 : Nat) (Fs4 : List Value) (Va0 : Int32) (k_Fs0 : fh Fs0 18 [(2, .ref Ad2), (4, .ref Ad3)]) (k_Fs1 : fh Fs1 18 [(0, .int 0)]) (k_Fs2 : fh Fs2 14 [(0, .ref Ad1), (11, .int 0)]) (k_Fs3 : fh Fs3 21 [(0, .int 0), (20, .ref Ad5)]) (k_Fs4 : fh Fs4 18 []) (hst : l.stackTraces = false) (hg0 : Fa0 Va0.toNatClampNeg = some Ad4) : vx_Met l yX11_take w_z_X11_take ({ frames := 8, cells := 1, slots := 6, locals := 160 }) (va_Pc [.ref Ad0, .int Va0] (fun U => U.heap.size = sz ∧ Zz (va_A [(Ad0, .inr (14, Fs0)), (Ad1, .inr (13, Fs1)), (Ad2, .inr (5, Fs2)), (Ad3, .inl (Ka0, 4, .inr (.inr (.inr (.inr Fa0))))), (Ad4, .inr (8, Fs3)), (Ad5, .inr (11, Fs4))] sz) U ∧ Wd dC dI [(Ka0, .object "HeapWorks$Picture")] (fun _ => True) [(Ad0, .inr (14, Fs0)), (Ad1, .inr (13, Fs1)), (Ad2, .inr (5, Fs2)), (Ad3, .inl (Ka0, 4, .inr (.inr (.inr (.inr Fa0))))), (Ad4, .inr (8, Fs3)), (Ad5, .inr (11, Fs4))] U)) (va_Qi (fun (r : Int32) (u : List Value × List Value) => (¬ Va0 < 0 ∧ ¬ 4 ≤ Va0 ∧ r = 0 ∧ ow Fs3 (u.1) 21 [16, 11, 0] [(16, .int 0), (11, .int 0), (0, .int 0), (20, .ref Ad5), (20, .ref Ad5), (20, .ref Ad5)] ∧ ow Fs4 (u.2) 18 [1] [(1, .int 0)])) (fun (u : List Value × List Value) t => Wd dC dI [(Ka0, .object "HeapWorks$Picture")] (va_A [(Ad0, .inr (14, Fs0)), (Ad1, .inr (13, Fs1)), (Ad2, .inr (5, Fs2)), (Ad3, .inl (Ka0, 4, .inr (.inr (.inr (.inr Fa0))))), (Ad4, .inr (8, Fs3)), (Ad5, .inr (11, Fs4))] sz) [(Ad0, .inr (14, Fs0)), (Ad1, .inr (13, Fs1)), (Ad2, .inr (5, Fs2)), (Ad3, .inl (Ka0, 4, .inr (.inr (.inr (.inr Fa0))))), (Ad4, .inr (8, (u.1))), (Ad5, .inr (11, (u.2)))] t) (va_A [(Ad0, .inr (14, Fs0)), (Ad1, .inr (13, Fs1)), (Ad2, .inr (5, Fs2)), (Ad3, .inl (Ka0, 4, .inr (.inr (.inr (.inr Fa0))))), (Ad4, .inr (8, Fs3)), (Ad5, .inr (11, Fs4))] sz)) (vx_X (fun _ : Unit => True) (fun E _ _ => (E = "java/lang/IndexOutOfBoundsException" ∧ Va0 < 0) ∨ (E = "java/lang/IndexOutOfBoundsException" ∧ ¬ Va0 < 0 ∧ 4 ≤ Va0)) (va_A [(Ad0, .inr (14, Fs0)), (Ad1, .inr (13, Fs1)), (Ad2, .inr (5, Fs2)), (Ad3, .inl (Ka0, 4, .inr (.inr (.inr (.inr Fa0))))), (Ad4, .inr (8, Fs3)), (Ad5, .inr (11, Fs4))] sz)) 1 6 (va_A [(Ad0, .inr (14, Fs0)), (Ad1, .inr (13, Fs1)), (Ad2, .inr (5, Fs2)), (Ad3, .inl (Ka0, 4, .inr (.inr (.inr (.inr Fa0))))), (Ad4, .inr (8, Fs3)), (Ad5, .inr (11, Fs4))] sz) := by
  refine vx_ofW (cc := cX11_take) (maxL := 2) (ret := (some .int)) (by decide) rfl ?_
  intro p e s m args below meth c s₁ B hml htab hv
  obtain ⟨rfl, hsz, hZ, hP, hK, hD0⟩ := hv
  have hx := B.exec
  have hb := B.bytes
  have hr := B.returns
  have hts := atoms_spec (ws := w_z_X11_take) B.pre
  have hown : s.vm.findClass RX11 = some m.cls := findClass_of_methodNamed B.named
  have hlocks := B.notSynchronized
  subst hsz
  have hD := hD0.self (sz := s.heap.size)
  generalize hAe : va_A [(Ad0, .inr (14, Fs0)), (Ad1, .inr (13, Fs1)), (Ad2, .inr (5, Fs2)), (Ad3, .inl (Ka0, 4, .inr (.inr (.inr (.inr Fa0))))), (Ad4, .inr (8, Fs3)), (Ad5, .inr (11, Fs4))] s.heap.size = A at hD hZ ⊢
  have hA : ∀ q : Nat, s.heap.size ≤ q → A q := fun q h => by rw [← hAe]; exact Or.inr h
  have hS : va_S A s.heap s.heap [] := va_S.rf
  have hl := lv_entry ([.ref Ad0, .int Va0]) (n := 2) (Nat.le_of_ble_eq_true rfl)
  rw [lg_entry_eq]
  generalize (lg_sl ([.ref Ad0, .int Va0]) ++ List.replicate (2 - (lg_sl ([.ref Ad0, .int Va0])).length) Slot.unset).toArray = ls at hl ⊢
  have hl : lv_has ls 2 [(0, .ref Ad0), (1, .int Va0)] := hl
  have o_Fs0 := ow_0 k_Fs0
  have o_Fs1 := ow_0 k_Fs1
  have o_Fs2 := ow_0 k_Fs2
  have o_Fs3 := ow_0 k_Fs3
  have o_Fs4 := ow_0 k_Fs4
  refine lv_iload_n hx hb dX11_take_0 rfl (lv_at hl 1 rfl) ?_
  have hPc := hP.sub (ws' := []) [] rfl
  have hDc := hD.sub (ws' := []) [] (by decide) rfl
  have hKc := hK.sub (tys' := []) [] rfl
  have hFc := va_free (wc := []) hD hS hA [] rfl
  refine vx_callv (vx_runS (As := [.int Va0]) (rest := []) ⟨hx, hb, hml, hown, hts⟩ (z_X11_needPicture l dC dI s.heap.size Va0  hst ) (cwS 1 hts g_z_X11_take_z_X11_needPicture_353 rfl rfl rfl (by decide +kernel) ⟨Nat.le_of_ble_eq_true rfl, Nat.le_of_ble_eq_true rfl⟩) ⟨fun a U g mk q => by obtain ⟨q0, q1, qZ, qP, qK, qD⟩ := q; exact ⟨q0, q1, Zz_call qZ, qP, va_K.moved (u := U) (U := U.calling g mk a) (Vm.Alike.refl U.vm) qK, qD⟩, fun U hU hW => ⟨rfl, by rw [hU], Zz_go hZ hS hFc hU hW, by rw [hU]; exact hPc, va_K.moved hW.alike hKc, hDc.weaken (fun _ _ _ _ => trivial)⟩⟩ rfl rfl hl.1 rfl (lv_room (Nat.le_of_ble_eq_true rfl)) dX11_take_1 ⟨Nat.le_of_ble_eq_true rfl, Nat.le_of_ble_eq_true rfl⟩) hS (fun q _ h => hFc q h) hFc (fun q _ h => hFc q h) (fun E ce q9 u t H1 locs ht hvm hpx hBX hz1 hk1 hS hce hcv hcl => ?_) (fun u t H1 locs ht hvm hw hB hz1 hk1 hS => ?_)
  · rcases hBX with ⟨rfl, c101⟩ | ⟨rfl, c102, c103⟩
    · exact vx_out (fun x h => (htab x h).elim) hlocks hce hcv hcl (fun t9 ht9 _ => ⟨(), trivial, (Or.inl ⟨rfl, c101⟩), hS.F ht9⟩) hS.2.2 (by decide) (by decide)
    · exact vx_out (fun x h => (htab x h).elim) hlocks hce hcv hcl (fun t9 ht9 _ => ⟨(), trivial, (Or.inr (⟨rfl, c102, c103⟩)), hS.F ht9⟩) hS.2.2 (by decide) (by decide)
  · skip
    obtain ⟨hP1, hK1, hD1⟩ := hB
    rw [ht] at hP1
    try dsimp only at hw
    obtain ⟨hP, hD⟩ := va_join (wr := [(Ad0, .inr (14, Fs0)), (Ad1, .inr (13, Fs1)), (Ad2, .inr (5, Fs2)), (Ad3, .inl (Ka0, 4, .inr (.inr (.inr (.inr Fa0))))), (Ad4, .inr (8, Fs3)), (Ad5, .inr (11, Fs4))]) (w1 := []) hP hD [] [0, 1, 2, 3, 4, 5] rfl rfl (by decide) (by decide) hk1 hFc hP1 hD1
    have hK := hK.sub (tys' := [(Ka0, .object "HeapWorks$Picture")]) [0] rfl
    generalize H1 = H at hP hS ⊢
    refine W.widen (k := 1) (n := 6) (by omega) (by omega) ?_
    have hP : va_P (dC, dI) vwCl [(Ad0, .inr (14, Fs0)), (Ad1, .inr (13, Fs1)), (Ad2, .inr (5, Fs2)), (Ad3, .inl (Ka0, 4, .inr (.inr (.inr (.inr Fa0))))), (Ad4, .inr (8, Fs3)), (Ad5, .inr (11, Fs4))] H := hP
    have hD : va_D A [(Ad0, .inr (14, Fs0)), (Ad1, .inr (13, Fs1)), (Ad2, .inr (5, Fs2)), (Ad3, .inl (Ka0, 4, .inr (.inr (.inr (.inr Fa0))))), (Ad4, .inr (8, Fs3)), (Ad5, .inr (11, Fs4))] := hD
    obtain ⟨c104, c105⟩ := hw
    refine lv_aload_n hx hb dX11_take_4 rfl (lv_at hl 0 rfl) ?_
    refine va_get (D := (dC, dI)) (ci := 14) (v := .ref Ad3) (C := RX11) (T := TX11) (N := 18) hx hb hts (in_z_X11_take_X11) hown hK hP 0 rfl rfl 4 (by decide) (hts (.fieldLink RX11 41 "HeapWorks" "pictures" "[LHeapWorks$Picture;") (by decide +kernel)) (fun _ h9 => h9) (ow_at o_Fs0 1 rfl) dX11_take_5 ?_
    refine lv_iload_n hx hb dX11_take_8 rfl (lv_at hl 1 rfl) ?_
    refine va_aldq hx hb hK hP 3 0 rfl rfl (by rw [vp_in_iff]; (try simp only [i_lt, i_le, i_eq, kc_0, kc_4] at c104 c105); omega) dX11_take_9 ?_
    refine W.eq (g2 := F0 m 10 ls (.ref Ad4 :: [])) (by rw [hg0]; rfl) ?_
    refine lv_aload_n hx hb dX11_take_10 rfl (lv_at hl 0 rfl) ?_
    refine va_get (D := (dC, dI)) (ci := 14) (v := .ref Ad2) (C := RX11) (T := TX11) (N := 18) hx hb hts (in_z_X11_take_X11) hown hK hP 0 rfl rfl 2 (by decide) (hts (.fieldLink RX11 28 "HeapWorks" "heap" "LHeapWorks$Heap;") (by decide +kernel)) (fun _ h9 => h9) (ow_at o_Fs0 0 rfl) dX11_take_11 ?_
    have hPc := hP.sub (ws' := [(Ad1, .inr (13, Fs1)), (Ad2, .inr (5, Fs2)), (Ad4, .inr (8, Fs3)), (Ad5, .inr (11, Fs4))]) [1, 2, 4, 5] rfl
    have hDc := hD.sub (ws' := [(Ad1, .inr (13, Fs1)), (Ad2, .inr (5, Fs2)), (Ad4, .inr (8, Fs3)), (Ad5, .inr (11, Fs4))]) [1, 2, 4, 5] (by decide) rfl
    have hKc := hK.sub (tys' := []) [] rfl
    have hFc := va_free (wc := [(Ad1, .inr (13, Fs1)), (Ad2, .inr (5, Fs2)), (Ad4, .inr (8, Fs3)), (Ad5, .inr (11, Fs4))]) hD hS hA [1, 2, 4, 5] rfl
    refine va_callv (va_runV (As := [.ref Ad2]) (rest := []) ⟨hx, hb, hml, hown, hts⟩ (z_X5_takeFrom l dC dI H.size Ad1 Fs1 Ad2 Fs2 Ad4 Fs3 Ad5 Fs4 (fh_sub o_Fs1.2 [0] rfl) (fh_sub o_Fs2.2 [0, 1] rfl) (fh_sub o_Fs3.2 [0, 1] rfl) (fh_sub o_Fs4.2 [] rfl) ) (cwV 1 hts g_z_X11_take_z_X5_takeFrom_342 rfl rfl rfl (by decide +kernel) ⟨Nat.le_of_ble_eq_true rfl, Nat.le_of_ble_eq_true rfl⟩) ⟨fun a U g mk q => by obtain ⟨q0, q1, qP, qK, qD⟩ := q; exact ⟨q0, q1, qP, va_K.moved (u := U) (U := U.calling g mk a) (Vm.Alike.refl U.vm) qK, qD⟩, va_recv hK hP (ci := 8) (q0 := 4) rfl rfl, fun U hU hW => ⟨rfl, by rw [hU], by rw [hU]; exact hPc, va_K.moved hW.alike hKc, hDc.weaken (fun _ _ _ _ => trivial)⟩⟩ rfl rfl hl.1 rfl (lv_room (Nat.le_of_ble_eq_true rfl)) dX11_take_14 ⟨Nat.le_of_ble_eq_true rfl, Nat.le_of_ble_eq_true rfl⟩) hS (fun q _ h => hFc q h) hFc (fun u t H1 locs ht hvm hw hB hz1 hk1 hS => ?_)
    obtain ⟨s106, s107⟩ := u
    obtain ⟨hP1, hK1, hD1⟩ := hB
    rw [ht] at hP1
    try dsimp only at hw
    obtain ⟨hP, hD⟩ := va_join (wr := [(Ad0, .inr (14, Fs0)), (Ad3, .inl (Ka0, 4, .inr (.inr (.inr (.inr Fa0)))))]) (w1 := [(Ad1, .inr (13, Fs1)), (Ad2, .inr (5, Fs2)), (Ad4, .inr (8, s106)), (Ad5, .inr (11, s107))]) hP hD [1, 2, 4, 5] [0, 3] rfl rfl (by decide) (by decide) hk1 hFc hP1 hD1
    have hK := hK.sub (tys' := [(Ka0, .object "HeapWorks$Picture")]) [0] rfl
    generalize H1 = H at hP hS ⊢
    have hP : va_P (dC, dI) vwCl [(Ad0, .inr (14, Fs0)), (Ad3, .inl (Ka0, 4, .inr (.inr (.inr (.inr Fa0))))), (Ad1, .inr (13, Fs1)), (Ad2, .inr (5, Fs2)), (Ad4, .inr (8, s106)), (Ad5, .inr (11, s107))] H := hP
    have hD : va_D A [(Ad0, .inr (14, Fs0)), (Ad3, .inl (Ka0, 4, .inr (.inr (.inr (.inr Fa0))))), (Ad1, .inr (13, Fs1)), (Ad2, .inr (5, Fs2)), (Ad4, .inr (8, s106)), (Ad5, .inr (11, s107))] := hD
    obtain ⟨o_s106, o_s107⟩ := hw
    have o_s106 := ow_on o_Fs3 o_s106 (l' := [(16, .int 0), (11, .int 0), (0, .int 0), (20, .ref Ad5), (20, .ref Ad5), (20, .ref Ad5)]) (w' := [16, 11, 0]) rfl rfl
    have o_s107 := ow_on o_Fs4 o_s107 (l' := [(1, .int 0)]) (w' := [1]) rfl rfl
    refine lv_aload_n hx hb dX11_take_17 rfl (lv_at hl 0 rfl) ?_
    refine va_get (D := (dC, dI)) (ci := 14) (v := .ref Ad3) (C := RX11) (T := TX11) (N := 18) hx hb hts (in_z_X11_take_X11) hown hK hP 0 rfl rfl 4 (by decide) (hts (.fieldLink RX11 41 "HeapWorks" "pictures" "[LHeapWorks$Picture;") (by decide +kernel)) (fun _ h9 => h9) (ow_at o_Fs0 1 rfl) dX11_take_18 ?_
    refine lv_iload_n hx hb dX11_take_21 rfl (lv_at hl 1 rfl) ?_
    refine va_aldq hx hb hK hP 1 0 rfl rfl (by rw [vp_in_iff]; (try simp only [i_lt, i_le, i_eq, kc_0, kc_4] at c104 c105); omega) dX11_take_22 ?_
    refine W.eq (g2 := F0 m 23 ls (.ref Ad4 :: [])) (by rw [hg0]; rfl) ?_
    refine va_get (D := (dC, dI)) (ci := 8) (v := .int 0) (C := RX5) (T := TX5) (N := 21) hx hb hts (in_z_X11_take_X5) hown hK hP 4 rfl rfl 0 (by decide) (hts (.fieldLink RX11 356 "HeapWorks$Picture" "things" "I") (by decide +kernel)) (fun _ h9 => h9) (ow_at o_s106 2 rfl) dX11_take_23 ?_
    have hP9 := hP.sub (ws' := [(Ad0, .inr (14, Fs0)), (Ad1, .inr (13, Fs1)), (Ad2, .inr (5, Fs2)), (Ad3, .inl (Ka0, 4, .inr (.inr (.inr (.inr Fa0))))), (Ad4, .inr (8, s106)), (Ad5, .inr (11, s107))]) [0, 2, 3, 1, 4, 5] rfl
    have hD9 := hD.sub (ws' := [(Ad0, .inr (14, Fs0)), (Ad1, .inr (13, Fs1)), (Ad2, .inr (5, Fs2)), (Ad3, .inl (Ka0, 4, .inr (.inr (.inr (.inr Fa0))))), (Ad4, .inr (8, s106)), (Ad5, .inr (11, s107))]) [0, 2, 3, 1, 4, 5] (by decide) rfl
    have hK9 := hK.sub (tys' := [(Ka0, .object "HeapWorks$Picture")]) [0] rfl
    refine vx_ret ?_
    refine W.widen (k := 1) (n := 6) (by decide) (by decide) ?_
    exact W.iret (v := 0) hx hb hr (fun t ht hW => ⟨⟨0, (s106, s107), rfl, ⟨c104, c105, rfl, o_s106, o_s107⟩, by rw [ht]; exact hP9, va_K.moved hW.alike hK9, hD9⟩, hS.F ht⟩) hS.2.2 dX11_take_26

def l_z_X11_isThing : List Cond := [.methodLink RX11 411 yX11_isPicture, .static yX11_isPicture, .initialized RX11, .fieldLink RX11 41 "HeapWorks" "pictures" "[LHeapWorks$Picture;", .fieldLink RX11 356 "HeapWorks$Picture" "things" "I", .code yX11_isPicture cX11_isPicture 1 (some .boolean)]
def w_z_X11_isThing : List Cond := .code yX11_isThing cX11_isThing 3 (some .boolean) :: (l_z_X11_isThing ++ ((wsX110 ++ wsX50)))
theorem in_z_X11_isThing_X11 : ∀ w ∈ wsX110, w ∈ w_z_X11_isThing := fun w h => List.mem_cons_of_mem _ (List.mem_append_right _ (List.mem_append_left _ h))
theorem in_z_X11_isThing_X5 : ∀ w ∈ wsX50, w ∈ w_z_X11_isThing := fun w h => List.mem_cons_of_mem _ (List.mem_append_right _ (List.mem_append_right _ (h)))
theorem g_z_X11_isThing_z_X11_isPicture_411 : GoodIn w_z_X11_isThing (wsS RX11 411 yX11_isPicture w_z_X11_isPicture) := goodIn_app (goodIn_r (([.methodLink RX11 411 yX11_isPicture, .static yX11_isPicture, .initialized RX11] : List Cond)) [1, 2, 3] rfl (by decide +kernel)) (goodIn_r (.code yX11_isPicture cX11_isPicture 1 (some .boolean) :: l_z_X11_isPicture) [6] rfl (by decide +kernel))
set_option maxHeartbeats 4000000 in
set_option maxRecDepth 100000 in
theorem z_X11_isThing (l : Launch) (dC : Nat → ClassId) (dI : Nat → Nat → Nat) (sz : Nat) (Ad0 : Nat) (Fs0 : List Value) (Ad1 : Nat) (Fa0 : Nat → Option Nat) (Ka0 : ClassId) (Ad2 : Nat) (Fs1 : List Value) (Va0 : Int32) (Va1 : Int32) (k_Fs0 : fh Fs0 18 [(4, .ref Ad1)]) (k_Fs1 : fh Fs1 21 [(0, .int 0)]) (hg0 : Fa0 Va0.toNatClampNeg = some Ad2) : Met l yX11_isThing w_z_X11_isThing ({ frames := 1, cells := 0, slots := 0, locals := 20 }) (va_Pc [.ref Ad0, .int Va0, .int Va1] (fun U => U.heap.size = sz ∧ Wd dC dI [(Ka0, .object "HeapWorks$Picture")] (fun _ => True) [(Ad0, .inr (14, Fs0)), (Ad1, .inl (Ka0, 4, .inr (.inr (.inr (.inr Fa0))))), (Ad2, .inr (8, Fs1))] U)) (va_Qi (fun (r : Int32) (u : Unit) => (Va0 < 0 ∧ r = 0) ∨ (¬ Va0 < 0 ∧ 4 ≤ Va0 ∧ r = 0) ∨ (¬ Va0 < 0 ∧ ¬ 4 ≤ Va0 ∧ Va1 < 0 ∧ r = 0) ∨ (¬ Va0 < 0 ∧ ¬ 4 ≤ Va0 ∧ ¬ Va1 < 0 ∧ 0 ≤ Va1 ∧ r = 0)) (fun (u : Unit) t => Wd dC dI [(Ka0, .object "HeapWorks$Picture")] (va_A [(Ad0, .inr (14, Fs0)), (Ad1, .inl (Ka0, 4, .inr (.inr (.inr (.inr Fa0))))), (Ad2, .inr (8, Fs1))] sz) [(Ad0, .inr (14, Fs0)), (Ad1, .inl (Ka0, 4, .inr (.inr (.inr (.inr Fa0))))), (Ad2, .inr (8, Fs1))] t) (va_A [(Ad0, .inr (14, Fs0)), (Ad1, .inl (Ka0, 4, .inr (.inr (.inr (.inr Fa0))))), (Ad2, .inr (8, Fs1))] sz))  0 0 (va_A [(Ad0, .inr (14, Fs0)), (Ad1, .inl (Ka0, 4, .inr (.inr (.inr (.inr Fa0))))), (Ad2, .inr (8, Fs1))] sz) := by
  refine Met.ofW (cc := cX11_isThing) (maxL := 3) (ret := (some .boolean)) (by decide) rfl ?_
  intro p e s m args below meth c s₁ B hml hv
  obtain ⟨rfl, hsz, hP, hK, hD0⟩ := hv
  have hx := B.exec
  have hb := B.bytes
  have hr := B.returns
  have hts := atoms_spec (ws := w_z_X11_isThing) B.pre
  have hown : s.vm.findClass RX11 = some m.cls := findClass_of_methodNamed B.named
  have hlocks := B.notSynchronized
  subst hsz
  have hD := hD0.self (sz := s.heap.size)
  generalize hAe : va_A [(Ad0, .inr (14, Fs0)), (Ad1, .inl (Ka0, 4, .inr (.inr (.inr (.inr Fa0))))), (Ad2, .inr (8, Fs1))] s.heap.size = A at hD ⊢
  have hA : ∀ q : Nat, s.heap.size ≤ q → A q := fun q h => by rw [← hAe]; exact Or.inr h
  have hS : va_S A s.heap s.heap [] := va_S.rf
  have hl := lv_entry ([.ref Ad0, .int Va0, .int Va1]) (n := 3) (Nat.le_of_ble_eq_true rfl)
  rw [lg_entry_eq]
  generalize (lg_sl ([.ref Ad0, .int Va0, .int Va1]) ++ List.replicate (3 - (lg_sl ([.ref Ad0, .int Va0, .int Va1])).length) Slot.unset).toArray = ls at hl ⊢
  have hl : lv_has ls 3 [(0, .ref Ad0), (1, .int Va0), (2, .int Va1)] := hl
  have o_Fs0 := ow_0 k_Fs0
  have o_Fs1 := ow_0 k_Fs1
  refine lv_iload_n hx hb dX11_isThing_0 rfl (lv_at hl 1 rfl) ?_
  have hPc := hP.sub (ws' := []) [] rfl
  have hDc := hD.sub (ws' := []) [] (by decide) rfl
  have hKc := hK.sub (tys' := []) [] rfl
  have hFc := va_free (wc := []) hD hS hA [] rfl
  refine va_calli (va_runS (As := [.int Va0]) (rest := []) ⟨hx, hb, hml, hown, hts⟩ (z_X11_isPicture l dC dI s.heap.size Va0  ) (cwS 1 hts g_z_X11_isThing_z_X11_isPicture_411 rfl rfl rfl (by decide +kernel) ⟨Nat.le_of_ble_eq_true rfl, Nat.le_of_ble_eq_true rfl⟩) ⟨fun a U g mk q => by obtain ⟨q0, q1, qP, qK, qD⟩ := q; exact ⟨q0, q1, qP, va_K.moved (u := U) (U := U.calling g mk a) (Vm.Alike.refl U.vm) qK, qD⟩, fun U hU hW => ⟨rfl, by rw [hU], by rw [hU]; exact hPc, va_K.moved hW.alike hKc, hDc.weaken (fun _ _ _ _ => trivial)⟩⟩ rfl rfl hl.1 rfl (lv_room (Nat.le_of_ble_eq_true rfl)) dX11_isThing_1 ⟨Nat.le_of_ble_eq_true rfl, Nat.le_of_ble_eq_true rfl⟩) hS (fun q _ h => hFc q h) hFc (fun r101 u t H1 locs ht hvm hw hB hz1 hk1 hS => ?_)
  obtain ⟨hP1, hK1, hD1⟩ := hB
  rw [ht] at hP1
  try dsimp only at hw
  obtain ⟨hP, hD⟩ := va_join (wr := [(Ad0, .inr (14, Fs0)), (Ad1, .inl (Ka0, 4, .inr (.inr (.inr (.inr Fa0))))), (Ad2, .inr (8, Fs1))]) (w1 := []) hP hD [] [0, 1, 2] rfl rfl (by decide) (by decide) hk1 hFc hP1 hD1
  have hK := hK.sub (tys' := [(Ka0, .object "HeapWorks$Picture")]) [0] rfl
  generalize H1 = H at hP hS ⊢
  have hP : va_P (dC, dI) vwCl [(Ad0, .inr (14, Fs0)), (Ad1, .inl (Ka0, 4, .inr (.inr (.inr (.inr Fa0))))), (Ad2, .inr (8, Fs1))] H := hP
  have hD : va_D A [(Ad0, .inr (14, Fs0)), (Ad1, .inl (Ka0, 4, .inr (.inr (.inr (.inr Fa0))))), (Ad2, .inr (8, Fs1))] := hD
  rcases hw with ⟨c102, er103⟩ | ⟨c104, c105, er106⟩ | ⟨c107, c108, er109⟩
  · skip
    subst er103
    refine lv_if_eq (tgt := 28) hx hb dX11_isThing_4 (by decide) (fun c110 => ?_) (fun c110 => absurd c110 (by decide))
    refine lv_iconst (v := 0) hx hb dX11_isThing_28 (by decide) ?_
    have hP9 := hP.sub (ws' := [(Ad0, .inr (14, Fs0)), (Ad1, .inl (Ka0, 4, .inr (.inr (.inr (.inr Fa0))))), (Ad2, .inr (8, Fs1))]) [0, 1, 2] rfl
    have hD9 := hD.sub (ws' := [(Ad0, .inr (14, Fs0)), (Ad1, .inl (Ka0, 4, .inr (.inr (.inr (.inr Fa0))))), (Ad2, .inr (8, Fs1))]) [0, 1, 2] (by decide) rfl
    have hK9 := hK.sub (tys' := [(Ka0, .object "HeapWorks$Picture")]) [0] rfl
    exact W.zret (v := 0) hx hb hr rfl (fun t ht hW => ⟨⟨0, (), rfl, (Or.inl ⟨c102, rfl⟩), by rw [ht]; exact hP9, va_K.moved hW.alike hK9, hD9⟩, hS.F ht⟩) hS.2.2 dX11_isThing_29
  · skip
    subst er106
    refine lv_if_eq (tgt := 28) hx hb dX11_isThing_4 (by decide) (fun c111 => ?_) (fun c111 => absurd c111 (by decide))
    refine lv_iconst (v := 0) hx hb dX11_isThing_28 (by decide) ?_
    have hP9 := hP.sub (ws' := [(Ad0, .inr (14, Fs0)), (Ad1, .inl (Ka0, 4, .inr (.inr (.inr (.inr Fa0))))), (Ad2, .inr (8, Fs1))]) [0, 1, 2] rfl
    have hD9 := hD.sub (ws' := [(Ad0, .inr (14, Fs0)), (Ad1, .inl (Ka0, 4, .inr (.inr (.inr (.inr Fa0))))), (Ad2, .inr (8, Fs1))]) [0, 1, 2] (by decide) rfl
    have hK9 := hK.sub (tys' := [(Ka0, .object "HeapWorks$Picture")]) [0] rfl
    exact W.zret (v := 0) hx hb hr rfl (fun t ht hW => ⟨⟨0, (), rfl, (Or.inr (Or.inl ⟨c104, c105, rfl⟩)), by rw [ht]; exact hP9, va_K.moved hW.alike hK9, hD9⟩, hS.F ht⟩) hS.2.2 dX11_isThing_29
  · skip
    subst er109
    refine lv_if_eq (tgt := 28) hx hb dX11_isThing_4 (by decide) (fun c112 => absurd c112 (by decide)) (fun c112 => ?_)
    refine lv_iload_n hx hb dX11_isThing_7 rfl (lv_at hl 2 rfl) ?_
    refine lv_if_lt (tgt := 28) hx hb dX11_isThing_8 (by decide) (fun c113 => ?_) (fun c113 => ?_)
    · skip
      refine lv_iconst (v := 0) hx hb dX11_isThing_28 (by decide) ?_
      have hP9 := hP.sub (ws' := [(Ad0, .inr (14, Fs0)), (Ad1, .inl (Ka0, 4, .inr (.inr (.inr (.inr Fa0))))), (Ad2, .inr (8, Fs1))]) [0, 1, 2] rfl
      have hD9 := hD.sub (ws' := [(Ad0, .inr (14, Fs0)), (Ad1, .inl (Ka0, 4, .inr (.inr (.inr (.inr Fa0))))), (Ad2, .inr (8, Fs1))]) [0, 1, 2] (by decide) rfl
      have hK9 := hK.sub (tys' := [(Ka0, .object "HeapWorks$Picture")]) [0] rfl
      exact W.zret (v := 0) hx hb hr rfl (fun t ht hW => ⟨⟨0, (), rfl, (Or.inr (Or.inr (Or.inl ⟨c107, c108, c113, rfl⟩))), by rw [ht]; exact hP9, va_K.moved hW.alike hK9, hD9⟩, hS.F ht⟩) hS.2.2 dX11_isThing_29
    · skip
      refine lv_iload_n hx hb dX11_isThing_11 rfl (lv_at hl 2 rfl) ?_
      refine lv_aload_n hx hb dX11_isThing_12 rfl (lv_at hl 0 rfl) ?_
      refine va_get (D := (dC, dI)) (ci := 14) (v := .ref Ad1) (C := RX11) (T := TX11) (N := 18) hx hb hts (in_z_X11_isThing_X11) hown hK hP 0 rfl rfl 4 (by decide) (hts (.fieldLink RX11 41 "HeapWorks" "pictures" "[LHeapWorks$Picture;") (by decide +kernel)) (fun _ h9 => h9) (ow_at o_Fs0 0 rfl) dX11_isThing_13 ?_
      refine lv_iload_n hx hb dX11_isThing_16 rfl (lv_at hl 1 rfl) ?_
      refine va_aldq hx hb hK hP 1 0 rfl rfl (by rw [vp_in_iff]; (try simp only [i_lt, i_le, i_eq, kc_0, kc_4] at c107 c108); omega) dX11_isThing_17 ?_
      refine W.eq (g2 := F0 m 18 ls (.ref Ad2 :: [.int Va1])) (by rw [hg0]; rfl) ?_
      refine va_get (D := (dC, dI)) (ci := 8) (v := .int 0) (C := RX5) (T := TX5) (N := 21) hx hb hts (in_z_X11_isThing_X5) hown hK hP 2 rfl rfl 0 (by decide) (hts (.fieldLink RX11 356 "HeapWorks$Picture" "things" "I") (by decide +kernel)) (fun _ h9 => h9) (ow_at o_Fs1 0 rfl) dX11_isThing_18 ?_
      refine lv_icmp_ge (tgt := 28) hx hb dX11_isThing_21 (by decide) (fun c114 => ?_) (fun c114 => (by exfalso; have bd_Va1 := i_bd Va1; (try simp only [i_lt, i_le, i_eq, kc_0] at c113 c114); omega))
      refine lv_iconst (v := 0) hx hb dX11_isThing_28 (by decide) ?_
      have hP9 := hP.sub (ws' := [(Ad0, .inr (14, Fs0)), (Ad1, .inl (Ka0, 4, .inr (.inr (.inr (.inr Fa0))))), (Ad2, .inr (8, Fs1))]) [0, 1, 2] rfl
      have hD9 := hD.sub (ws' := [(Ad0, .inr (14, Fs0)), (Ad1, .inl (Ka0, 4, .inr (.inr (.inr (.inr Fa0))))), (Ad2, .inr (8, Fs1))]) [0, 1, 2] (by decide) rfl
      have hK9 := hK.sub (tys' := [(Ka0, .object "HeapWorks$Picture")]) [0] rfl
      exact W.zret (v := 0) hx hb hr rfl (fun t ht hW => ⟨⟨0, (), rfl, (Or.inr (Or.inr (Or.inr (⟨c107, c108, c113, c114, rfl⟩)))), by rw [ht]; exact hP9, va_K.moved hW.alike hK9, hD9⟩, hS.F ht⟩) hS.2.2 dX11_isThing_29

def l_z_X11_thing : List Cond := [.methodLink RX11 359 yX11_isThing, .instanceMethod yX11_isThing, .selects RX11 yX11_isThing yX11_isThing, .initialized RX11, .code yX11_isThing cX11_isThing 3 (some .boolean), .methodLink RX11 411 yX11_isPicture, .static yX11_isPicture, .fieldLink RX11 41 "HeapWorks" "pictures" "[LHeapWorks$Picture;", .fieldLink RX11 356 "HeapWorks$Picture" "things" "I", .code yX11_isPicture cX11_isPicture 1 (some .boolean)]
def w_z_X11_thing : List Cond := .code yX11_thing cX11_thing 5 (some .int) :: (l_z_X11_thing ++ ((wsX110 ++ wsX50)))
theorem in_z_X11_thing_X11 : ∀ w ∈ wsX110, w ∈ w_z_X11_thing := fun w h => List.mem_cons_of_mem _ (List.mem_append_right _ (List.mem_append_left _ h))
theorem in_z_X11_thing_X5 : ∀ w ∈ wsX50, w ∈ w_z_X11_thing := fun w h => List.mem_cons_of_mem _ (List.mem_append_right _ (List.mem_append_right _ (h)))
theorem g_z_X11_thing_z_X11_isThing_359 : GoodIn w_z_X11_thing (wsV RX11 359 RX11 yX11_isThing w_z_X11_isThing) := goodIn_app (goodIn_r (([.methodLink RX11 359 yX11_isThing, .instanceMethod yX11_isThing, .selects RX11 yX11_isThing yX11_isThing, .initialized RX11] : List Cond)) [1, 2, 3, 4] rfl (by decide +kernel)) (goodIn_ca (goodIn_r (.code yX11_isThing cX11_isThing 3 (some .boolean) :: l_z_X11_isThing) [5, 6, 7, 4, 8, 9, 10] rfl (by decide +kernel)) (goodIn_app (goodIn_in (in_z_X11_thing_X11) gd_X11) (goodIn_in (in_z_X11_thing_X5) gd_X5)))
set_option maxHeartbeats 4000000 in
set_option maxRecDepth 100000 in
theorem z_X11_thing (l : Launch) (dC : Nat → ClassId) (dI : Nat → Nat → Nat) (sz : Nat) (Ad0 : Nat) (Fs0 : List Value) (Ad1 : Nat) (Fa0 : Nat → Option Nat) (Ka0 : ClassId) (Ad2 : Nat) (Fs1 : List Value) (Va0 : Int32) (Va1 : Int32) (Va2 : Int32) (k_Fs0 : fh Fs0 18 [(4, .ref Ad1)]) (k_Fs1 : fh Fs1 21 [(0, .int 0)]) (hg0 : Fa0 Va0.toNatClampNeg = some Ad2) : Met l yX11_thing w_z_X11_thing ({ frames := 2, cells := 0, slots := 0, locals := 42 }) (va_Pc [.ref Ad0, .int Va0, .int Va1, .int Va2] (fun U => U.heap.size = sz ∧ Wd dC dI [(Ka0, .object "HeapWorks$Picture")] (fun _ => True) [(Ad0, .inr (14, Fs0)), (Ad1, .inl (Ka0, 4, .inr (.inr (.inr (.inr Fa0))))), (Ad2, .inr (8, Fs1))] U)) (va_Qi (fun (r : Int32) (u : Unit) => (Va0 < 0 ∧ r = (-1)) ∨ (¬ Va0 < 0 ∧ 4 ≤ Va0 ∧ r = (-1)) ∨ (¬ Va0 < 0 ∧ ¬ 4 ≤ Va0 ∧ Va1 < 0 ∧ r = (-1)) ∨ (¬ Va0 < 0 ∧ ¬ 4 ≤ Va0 ∧ ¬ Va1 < 0 ∧ 0 ≤ Va1 ∧ r = (-1))) (fun (u : Unit) t => Wd dC dI [(Ka0, .object "HeapWorks$Picture")] (va_A [(Ad0, .inr (14, Fs0)), (Ad1, .inl (Ka0, 4, .inr (.inr (.inr (.inr Fa0))))), (Ad2, .inr (8, Fs1))] sz) [(Ad0, .inr (14, Fs0)), (Ad1, .inl (Ka0, 4, .inr (.inr (.inr (.inr Fa0))))), (Ad2, .inr (8, Fs1))] t) (va_A [(Ad0, .inr (14, Fs0)), (Ad1, .inl (Ka0, 4, .inr (.inr (.inr (.inr Fa0))))), (Ad2, .inr (8, Fs1))] sz))  0 0 (va_A [(Ad0, .inr (14, Fs0)), (Ad1, .inl (Ka0, 4, .inr (.inr (.inr (.inr Fa0))))), (Ad2, .inr (8, Fs1))] sz) := by
  refine Met.ofW (cc := cX11_thing) (maxL := 5) (ret := (some .int)) (by decide) rfl ?_
  intro p e s m args below meth c s₁ B hml hv
  obtain ⟨rfl, hsz, hP, hK, hD0⟩ := hv
  have hx := B.exec
  have hb := B.bytes
  have hr := B.returns
  have hts := atoms_spec (ws := w_z_X11_thing) B.pre
  have hown : s.vm.findClass RX11 = some m.cls := findClass_of_methodNamed B.named
  have hlocks := B.notSynchronized
  subst hsz
  have hD := hD0.self (sz := s.heap.size)
  generalize hAe : va_A [(Ad0, .inr (14, Fs0)), (Ad1, .inl (Ka0, 4, .inr (.inr (.inr (.inr Fa0))))), (Ad2, .inr (8, Fs1))] s.heap.size = A at hD ⊢
  have hA : ∀ q : Nat, s.heap.size ≤ q → A q := fun q h => by rw [← hAe]; exact Or.inr h
  have hS : va_S A s.heap s.heap [] := va_S.rf
  have hl := lv_entry ([.ref Ad0, .int Va0, .int Va1, .int Va2]) (n := 5) (Nat.le_of_ble_eq_true rfl)
  rw [lg_entry_eq]
  generalize (lg_sl ([.ref Ad0, .int Va0, .int Va1, .int Va2]) ++ List.replicate (5 - (lg_sl ([.ref Ad0, .int Va0, .int Va1, .int Va2])).length) Slot.unset).toArray = ls at hl ⊢
  have hl : lv_has ls 5 [(0, .ref Ad0), (1, .int Va0), (2, .int Va1), (3, .int Va2)] := hl
  have o_Fs0 := ow_0 k_Fs0
  have o_Fs1 := ow_0 k_Fs1
  refine lv_aload_n hx hb dX11_thing_0 rfl (lv_at hl 0 rfl) ?_
  refine lv_iload_n hx hb dX11_thing_1 rfl (lv_at hl 1 rfl) ?_
  refine lv_iload_n hx hb dX11_thing_2 rfl (lv_at hl 2 rfl) ?_
  have hPc := hP.sub (ws' := [(Ad0, .inr (14, Fs0)), (Ad1, .inl (Ka0, 4, .inr (.inr (.inr (.inr Fa0))))), (Ad2, .inr (8, Fs1))]) [0, 1, 2] rfl
  have hDc := hD.sub (ws' := [(Ad0, .inr (14, Fs0)), (Ad1, .inl (Ka0, 4, .inr (.inr (.inr (.inr Fa0))))), (Ad2, .inr (8, Fs1))]) [0, 1, 2] (by decide) rfl
  have hKc := hK.sub (tys' := [(Ka0, .object "HeapWorks$Picture")]) [0] rfl
  have hFc := va_free (wc := [(Ad0, .inr (14, Fs0)), (Ad1, .inl (Ka0, 4, .inr (.inr (.inr (.inr Fa0))))), (Ad2, .inr (8, Fs1))]) hD hS hA [0, 1, 2] rfl
  refine va_calli (va_runV (As := [.int Va0, .int Va1]) (rest := []) ⟨hx, hb, hml, hown, hts⟩ (z_X11_isThing l dC dI s.heap.size Ad0 Fs0 Ad1 Fa0 Ka0 Ad2 Fs1 Va0 Va1 (fh_sub o_Fs0.2 [0] rfl) (fh_sub o_Fs1.2 [0] rfl) hg0) (cwV 2 hts g_z_X11_thing_z_X11_isThing_359 rfl rfl rfl (by decide +kernel) ⟨Nat.le_of_ble_eq_true rfl, Nat.le_of_ble_eq_true rfl⟩) ⟨fun a U g mk q => by obtain ⟨q0, q1, qP, qK, qD⟩ := q; exact ⟨q0, q1, qP, va_K.moved (u := U) (U := U.calling g mk a) (Vm.Alike.refl U.vm) qK, qD⟩, va_recv hK hP (ci := 14) (q0 := 0) rfl rfl, fun U hU hW => ⟨rfl, by rw [hU], by rw [hU]; exact hPc, va_K.moved hW.alike hKc, hDc.weaken (fun _ _ _ _ => trivial)⟩⟩ rfl rfl hl.1 rfl (lv_room (Nat.le_of_ble_eq_true rfl)) dX11_thing_3 ⟨Nat.le_of_ble_eq_true rfl, Nat.le_of_ble_eq_true rfl⟩) hS (fun q _ h => hFc q h) hFc (fun r101 u t H1 locs ht hvm hw hB hz1 hk1 hS => ?_)
  obtain ⟨hP1, hK1, hD1⟩ := hB
  rw [ht] at hP1
  try dsimp only at hw
  obtain ⟨hP, hD⟩ := va_join (wr := []) (w1 := [(Ad0, .inr (14, Fs0)), (Ad1, .inl (Ka0, 4, .inr (.inr (.inr (.inr Fa0))))), (Ad2, .inr (8, Fs1))]) hP hD [0, 1, 2] [] rfl rfl (by decide) (by decide) hk1 hFc hP1 hD1
  have hK := hK.sub (tys' := [(Ka0, .object "HeapWorks$Picture")]) [0] rfl
  generalize H1 = H at hP hS ⊢
  have hP : va_P (dC, dI) vwCl [(Ad0, .inr (14, Fs0)), (Ad1, .inl (Ka0, 4, .inr (.inr (.inr (.inr Fa0))))), (Ad2, .inr (8, Fs1))] H := hP
  have hD : va_D A [(Ad0, .inr (14, Fs0)), (Ad1, .inl (Ka0, 4, .inr (.inr (.inr (.inr Fa0))))), (Ad2, .inr (8, Fs1))] := hD
  rcases hw with ⟨c102, er103⟩ | ⟨c104, c105, er106⟩ | ⟨c107, c108, c109, er110⟩ | ⟨c111, c112, c113, c114, er115⟩
  · skip
    subst er103
    refine lv_if_ne (tgt := 11) hx hb dX11_thing_6 (by decide) (fun c116 => absurd c116 (by decide)) (fun c116 => ?_)
    refine lv_iconst (v := (-1)) hx hb dX11_thing_9 (by decide) ?_
    have hP9 := hP.sub (ws' := [(Ad0, .inr (14, Fs0)), (Ad1, .inl (Ka0, 4, .inr (.inr (.inr (.inr Fa0))))), (Ad2, .inr (8, Fs1))]) [0, 1, 2] rfl
    have hD9 := hD.sub (ws' := [(Ad0, .inr (14, Fs0)), (Ad1, .inl (Ka0, 4, .inr (.inr (.inr (.inr Fa0))))), (Ad2, .inr (8, Fs1))]) [0, 1, 2] (by decide) rfl
    have hK9 := hK.sub (tys' := [(Ka0, .object "HeapWorks$Picture")]) [0] rfl
    exact W.iret (v := (-1)) hx hb hr (fun t ht hW => ⟨⟨(-1), (), rfl, (Or.inl ⟨c102, rfl⟩), by rw [ht]; exact hP9, va_K.moved hW.alike hK9, hD9⟩, hS.F ht⟩) hS.2.2 dX11_thing_10
  · skip
    subst er106
    refine lv_if_ne (tgt := 11) hx hb dX11_thing_6 (by decide) (fun c117 => absurd c117 (by decide)) (fun c117 => ?_)
    refine lv_iconst (v := (-1)) hx hb dX11_thing_9 (by decide) ?_
    have hP9 := hP.sub (ws' := [(Ad0, .inr (14, Fs0)), (Ad1, .inl (Ka0, 4, .inr (.inr (.inr (.inr Fa0))))), (Ad2, .inr (8, Fs1))]) [0, 1, 2] rfl
    have hD9 := hD.sub (ws' := [(Ad0, .inr (14, Fs0)), (Ad1, .inl (Ka0, 4, .inr (.inr (.inr (.inr Fa0))))), (Ad2, .inr (8, Fs1))]) [0, 1, 2] (by decide) rfl
    have hK9 := hK.sub (tys' := [(Ka0, .object "HeapWorks$Picture")]) [0] rfl
    exact W.iret (v := (-1)) hx hb hr (fun t ht hW => ⟨⟨(-1), (), rfl, (Or.inr (Or.inl ⟨c104, c105, rfl⟩)), by rw [ht]; exact hP9, va_K.moved hW.alike hK9, hD9⟩, hS.F ht⟩) hS.2.2 dX11_thing_10
  · skip
    subst er110
    refine lv_if_ne (tgt := 11) hx hb dX11_thing_6 (by decide) (fun c118 => absurd c118 (by decide)) (fun c118 => ?_)
    refine lv_iconst (v := (-1)) hx hb dX11_thing_9 (by decide) ?_
    have hP9 := hP.sub (ws' := [(Ad0, .inr (14, Fs0)), (Ad1, .inl (Ka0, 4, .inr (.inr (.inr (.inr Fa0))))), (Ad2, .inr (8, Fs1))]) [0, 1, 2] rfl
    have hD9 := hD.sub (ws' := [(Ad0, .inr (14, Fs0)), (Ad1, .inl (Ka0, 4, .inr (.inr (.inr (.inr Fa0))))), (Ad2, .inr (8, Fs1))]) [0, 1, 2] (by decide) rfl
    have hK9 := hK.sub (tys' := [(Ka0, .object "HeapWorks$Picture")]) [0] rfl
    exact W.iret (v := (-1)) hx hb hr (fun t ht hW => ⟨⟨(-1), (), rfl, (Or.inr (Or.inr (Or.inl ⟨c107, c108, c109, rfl⟩))), by rw [ht]; exact hP9, va_K.moved hW.alike hK9, hD9⟩, hS.F ht⟩) hS.2.2 dX11_thing_10
  · skip
    subst er115
    refine lv_if_ne (tgt := 11) hx hb dX11_thing_6 (by decide) (fun c119 => absurd c119 (by decide)) (fun c119 => ?_)
    refine lv_iconst (v := (-1)) hx hb dX11_thing_9 (by decide) ?_
    have hP9 := hP.sub (ws' := [(Ad0, .inr (14, Fs0)), (Ad1, .inl (Ka0, 4, .inr (.inr (.inr (.inr Fa0))))), (Ad2, .inr (8, Fs1))]) [0, 1, 2] rfl
    have hD9 := hD.sub (ws' := [(Ad0, .inr (14, Fs0)), (Ad1, .inl (Ka0, 4, .inr (.inr (.inr (.inr Fa0))))), (Ad2, .inr (8, Fs1))]) [0, 1, 2] (by decide) rfl
    have hK9 := hK.sub (tys' := [(Ka0, .object "HeapWorks$Picture")]) [0] rfl
    exact W.iret (v := (-1)) hx hb hr (fun t ht hW => ⟨⟨(-1), (), rfl, (Or.inr (Or.inr (Or.inr (⟨c111, c112, c113, c114, rfl⟩)))), by rw [ht]; exact hP9, va_K.moved hW.alike hK9, hD9⟩, hS.F ht⟩) hS.2.2 dX11_thing_10

def l_z_X11_slot : List Cond := [.methodLink RX11 359 yX11_isThing, .instanceMethod yX11_isThing, .selects RX11 yX11_isThing yX11_isThing, .initialized RX11, .classLink RX11 221 "java/util/NoSuchElementException", .initialized "java/util/NoSuchElementException", .code yX11_isThing cX11_isThing 3 (some .boolean), .methodLink RX11 411 yX11_isPicture, .static yX11_isPicture, .fieldLink RX11 41 "HeapWorks" "pictures" "[LHeapWorks$Picture;", .fieldLink RX11 356 "HeapWorks$Picture" "things" "I", .code yX11_isPicture cX11_isPicture 1 (some .boolean)]
def w_z_X11_slot : List Cond := .code yX11_slot cX11_slot 4 (some .long) :: (l_z_X11_slot ++ ((((vx_at0 RX11 223 "java/util/NoSuchElementException" ["java/lang/RuntimeException", "java/lang/Exception"]).filter goodWord) ++ (wsX110 ++ wsX50))))
theorem in_z_X11_slot_at0_X11_223 : ∀ w ∈ ((vx_at0 RX11 223 "java/util/NoSuchElementException" ["java/lang/RuntimeException", "java/lang/Exception"]).filter goodWord), w ∈ w_z_X11_slot := fun w h => List.mem_cons_of_mem _ (List.mem_append_right _ (List.mem_append_left _ h))
theorem in_z_X11_slot_X11 : ∀ w ∈ wsX110, w ∈ w_z_X11_slot := fun w h => List.mem_cons_of_mem _ (List.mem_append_right _ (List.mem_append_right _ (List.mem_append_left _ h)))
theorem in_z_X11_slot_X5 : ∀ w ∈ wsX50, w ∈ w_z_X11_slot := fun w h => List.mem_cons_of_mem _ (List.mem_append_right _ (List.mem_append_right _ (List.mem_append_right _ (h))))
theorem g_z_X11_slot_z_X11_isThing_359 : GoodIn w_z_X11_slot (wsV RX11 359 RX11 yX11_isThing w_z_X11_isThing) := goodIn_app (goodIn_r (([.methodLink RX11 359 yX11_isThing, .instanceMethod yX11_isThing, .selects RX11 yX11_isThing yX11_isThing, .initialized RX11] : List Cond)) [1, 2, 3, 4] rfl (by decide +kernel)) (goodIn_ca (goodIn_r (.code yX11_isThing cX11_isThing 3 (some .boolean) :: l_z_X11_isThing) [7, 8, 9, 4, 10, 11, 12] rfl (by decide +kernel)) (goodIn_app (goodIn_in (in_z_X11_slot_X11) gd_X11) (goodIn_in (in_z_X11_slot_X5) gd_X5)))
set_option maxHeartbeats 4000000 in
set_option maxRecDepth 100000 in
theorem z_X11_slot (l : Launch) (dC : Nat → ClassId) (dI : Nat → Nat → Nat) (sz : Nat) (Ad0 : Nat) (Fs0 : List Value) (Ad1 : Nat) (Fa0 : Nat → Option Nat) (Ka0 : ClassId) (Ad2 : Nat) (Fs1 : List Value) (Va0 : Int32) (Va1 : Int32) (Va2 : Int32) (k_Fs0 : fh Fs0 18 [(4, .ref Ad1)]) (k_Fs1 : fh Fs1 21 [(0, .int 0)]) (hst : l.stackTraces = false) (hg0 : Fa0 Va0.toNatClampNeg = some Ad2) : vx_Met l yX11_slot w_z_X11_slot ({ frames := 7, cells := 1, slots := 6, locals := 140 }) (va_Pc [.ref Ad0, .int Va0, .int Va1, .int Va2] (fun U => U.heap.size = sz ∧ Zz (va_A [(Ad0, .inr (14, Fs0)), (Ad1, .inl (Ka0, 4, .inr (.inr (.inr (.inr Fa0))))), (Ad2, .inr (8, Fs1))] sz) U ∧ Wd dC dI [(Ka0, .object "HeapWorks$Picture")] (fun _ => True) [(Ad0, .inr (14, Fs0)), (Ad1, .inl (Ka0, 4, .inr (.inr (.inr (.inr Fa0))))), (Ad2, .inr (8, Fs1))] U)) (va_Ql (fun (r : Int64) (u : Unit) => False) (fun (u : Unit) t => Wd dC dI [(Ka0, .object "HeapWorks$Picture")] (va_A [(Ad0, .inr (14, Fs0)), (Ad1, .inl (Ka0, 4, .inr (.inr (.inr (.inr Fa0))))), (Ad2, .inr (8, Fs1))] sz) [(Ad0, .inr (14, Fs0)), (Ad1, .inl (Ka0, 4, .inr (.inr (.inr (.inr Fa0))))), (Ad2, .inr (8, Fs1))] t) (va_A [(Ad0, .inr (14, Fs0)), (Ad1, .inl (Ka0, 4, .inr (.inr (.inr (.inr Fa0))))), (Ad2, .inr (8, Fs1))] sz)) (vx_X (fun _ : Unit => True) (fun E _ _ => (E = "java/util/NoSuchElementException" ∧ Va0 < 0) ∨ (E = "java/util/NoSuchElementException" ∧ ¬ Va0 < 0 ∧ 4 ≤ Va0) ∨ (E = "java/util/NoSuchElementException" ∧ ¬ Va0 < 0 ∧ ¬ 4 ≤ Va0 ∧ Va1 < 0) ∨ (E = "java/util/NoSuchElementException" ∧ ¬ Va0 < 0 ∧ ¬ 4 ≤ Va0 ∧ ¬ Va1 < 0 ∧ 0 ≤ Va1)) (va_A [(Ad0, .inr (14, Fs0)), (Ad1, .inl (Ka0, 4, .inr (.inr (.inr (.inr Fa0))))), (Ad2, .inr (8, Fs1))] sz)) 1 6 (va_A [(Ad0, .inr (14, Fs0)), (Ad1, .inl (Ka0, 4, .inr (.inr (.inr (.inr Fa0))))), (Ad2, .inr (8, Fs1))] sz) := by
  refine vx_ofW (cc := cX11_slot) (maxL := 4) (ret := (some .long)) (by decide) rfl ?_
  intro p e s m args below meth c s₁ B hml htab hv
  obtain ⟨rfl, hsz, hZ, hP, hK, hD0⟩ := hv
  have hx := B.exec
  have hb := B.bytes
  have hr := B.returns
  have hts := atoms_spec (ws := w_z_X11_slot) B.pre
  have hown : s.vm.findClass RX11 = some m.cls := findClass_of_methodNamed B.named
  have hlocks := B.notSynchronized
  subst hsz
  have hD := hD0.self (sz := s.heap.size)
  generalize hAe : va_A [(Ad0, .inr (14, Fs0)), (Ad1, .inl (Ka0, 4, .inr (.inr (.inr (.inr Fa0))))), (Ad2, .inr (8, Fs1))] s.heap.size = A at hD hZ ⊢
  have hA : ∀ q : Nat, s.heap.size ≤ q → A q := fun q h => by rw [← hAe]; exact Or.inr h
  have hS : va_S A s.heap s.heap [] := va_S.rf
  have hl := lv_entry ([.ref Ad0, .int Va0, .int Va1, .int Va2]) (n := 4) (Nat.le_of_ble_eq_true rfl)
  rw [lg_entry_eq]
  generalize (lg_sl ([.ref Ad0, .int Va0, .int Va1, .int Va2]) ++ List.replicate (4 - (lg_sl ([.ref Ad0, .int Va0, .int Va1, .int Va2])).length) Slot.unset).toArray = ls at hl ⊢
  have hl : lv_has ls 4 [(0, .ref Ad0), (1, .int Va0), (2, .int Va1), (3, .int Va2)] := hl
  have o_Fs0 := ow_0 k_Fs0
  have o_Fs1 := ow_0 k_Fs1
  refine lv_aload_n hx hb dX11_slot_0 rfl (lv_at hl 0 rfl) ?_
  refine lv_iload_n hx hb dX11_slot_1 rfl (lv_at hl 1 rfl) ?_
  refine lv_iload_n hx hb dX11_slot_2 rfl (lv_at hl 2 rfl) ?_
  have hPc := hP.sub (ws' := [(Ad0, .inr (14, Fs0)), (Ad1, .inl (Ka0, 4, .inr (.inr (.inr (.inr Fa0))))), (Ad2, .inr (8, Fs1))]) [0, 1, 2] rfl
  have hDc := hD.sub (ws' := [(Ad0, .inr (14, Fs0)), (Ad1, .inl (Ka0, 4, .inr (.inr (.inr (.inr Fa0))))), (Ad2, .inr (8, Fs1))]) [0, 1, 2] (by decide) rfl
  have hKc := hK.sub (tys' := [(Ka0, .object "HeapWorks$Picture")]) [0] rfl
  have hFc := va_free (wc := [(Ad0, .inr (14, Fs0)), (Ad1, .inl (Ka0, 4, .inr (.inr (.inr (.inr Fa0))))), (Ad2, .inr (8, Fs1))]) hD hS hA [0, 1, 2] rfl
  refine va_calli (va_runV (As := [.int Va0, .int Va1]) (rest := []) ⟨hx, hb, hml, hown, hts⟩ (z_X11_isThing l dC dI s.heap.size Ad0 Fs0 Ad1 Fa0 Ka0 Ad2 Fs1 Va0 Va1 (fh_sub o_Fs0.2 [0] rfl) (fh_sub o_Fs1.2 [0] rfl) hg0) (cwV 2 hts g_z_X11_slot_z_X11_isThing_359 rfl rfl rfl (by decide +kernel) ⟨Nat.le_of_ble_eq_true rfl, Nat.le_of_ble_eq_true rfl⟩) ⟨fun a U g mk q => by obtain ⟨q0, q1, qP, qK, qD⟩ := q; exact ⟨q0, q1, qP, va_K.moved (u := U) (U := U.calling g mk a) (Vm.Alike.refl U.vm) qK, qD⟩, va_recv hK hP (ci := 14) (q0 := 0) rfl rfl, fun U hU hW => ⟨rfl, by rw [hU], by rw [hU]; exact hPc, va_K.moved hW.alike hKc, hDc.weaken (fun _ _ _ _ => trivial)⟩⟩ rfl rfl hl.1 rfl (lv_room (Nat.le_of_ble_eq_true rfl)) dX11_slot_3 ⟨Nat.le_of_ble_eq_true rfl, Nat.le_of_ble_eq_true rfl⟩) hS (fun q _ h => hFc q h) hFc (fun r101 u t H1 locs ht hvm hw hB hz1 hk1 hS => ?_)
  obtain ⟨hP1, hK1, hD1⟩ := hB
  rw [ht] at hP1
  try dsimp only at hw
  obtain ⟨hP, hD⟩ := va_join (wr := []) (w1 := [(Ad0, .inr (14, Fs0)), (Ad1, .inl (Ka0, 4, .inr (.inr (.inr (.inr Fa0))))), (Ad2, .inr (8, Fs1))]) hP hD [0, 1, 2] [] rfl rfl (by decide) (by decide) hk1 hFc hP1 hD1
  have hK := hK.sub (tys' := [(Ka0, .object "HeapWorks$Picture")]) [0] rfl
  generalize H1 = H at hP hS ⊢
  have hP : va_P (dC, dI) vwCl [(Ad0, .inr (14, Fs0)), (Ad1, .inl (Ka0, 4, .inr (.inr (.inr (.inr Fa0))))), (Ad2, .inr (8, Fs1))] H := hP
  have hD : va_D A [(Ad0, .inr (14, Fs0)), (Ad1, .inl (Ka0, 4, .inr (.inr (.inr (.inr Fa0))))), (Ad2, .inr (8, Fs1))] := hD
  rcases hw with ⟨c102, er103⟩ | ⟨c104, c105, er106⟩ | ⟨c107, c108, c109, er110⟩ | ⟨c111, c112, c113, c114, er115⟩
  · skip
    subst er103
    refine lv_if_eq (tgt := 42) hx hb dX11_slot_6 (by decide) (fun c116 => ?_) (fun c116 => absurd c116 (by decide))
    exact vx_throw0 (names := ["java/lang/RuntimeException", "java/lang/Exception"]) hx hb hst hown (by decide +kernel) (by decide +kernel) (hts (.classLink RX11 221 "java/util/NoSuchElementException") (by decide +kernel)) (hts (.initialized "java/util/NoSuchElementException") (by decide +kernel)) (vx_hat (B := xB "java/util/NoSuchElementException") (fun w h => hts w ((in_z_X11_slot_at0_X11_223) w h)) (by decide +kernel) (Zz_xB hZ (by decide))) (by decide +kernel) hZ.1 hZ.2.1 hS (hl.1.trans hml.symm) dX11_slot_42 dX11_slot_45 dX11_slot_46 dX11_slot_49 (fun x h => (htab x h).elim) (by decide) (Nat.le_of_ble_eq_true rfl) (Nat.le_of_ble_eq_true rfl) (Nat.le_of_ble_eq_true rfl) hlocks (fun t _ h1 h2 => ⟨(), trivial, (Or.inl ⟨rfl, c102⟩), xx_F hS h1 h2⟩) hS.2.2 (by decide) (by decide)
  · skip
    subst er106
    refine lv_if_eq (tgt := 42) hx hb dX11_slot_6 (by decide) (fun c117 => ?_) (fun c117 => absurd c117 (by decide))
    exact vx_throw0 (names := ["java/lang/RuntimeException", "java/lang/Exception"]) hx hb hst hown (by decide +kernel) (by decide +kernel) (hts (.classLink RX11 221 "java/util/NoSuchElementException") (by decide +kernel)) (hts (.initialized "java/util/NoSuchElementException") (by decide +kernel)) (vx_hat (B := xB "java/util/NoSuchElementException") (fun w h => hts w ((in_z_X11_slot_at0_X11_223) w h)) (by decide +kernel) (Zz_xB hZ (by decide))) (by decide +kernel) hZ.1 hZ.2.1 hS (hl.1.trans hml.symm) dX11_slot_42 dX11_slot_45 dX11_slot_46 dX11_slot_49 (fun x h => (htab x h).elim) (by decide) (Nat.le_of_ble_eq_true rfl) (Nat.le_of_ble_eq_true rfl) (Nat.le_of_ble_eq_true rfl) hlocks (fun t _ h1 h2 => ⟨(), trivial, (Or.inr (Or.inl ⟨rfl, c104, c105⟩)), xx_F hS h1 h2⟩) hS.2.2 (by decide) (by decide)
  · skip
    subst er110
    refine lv_if_eq (tgt := 42) hx hb dX11_slot_6 (by decide) (fun c118 => ?_) (fun c118 => absurd c118 (by decide))
    exact vx_throw0 (names := ["java/lang/RuntimeException", "java/lang/Exception"]) hx hb hst hown (by decide +kernel) (by decide +kernel) (hts (.classLink RX11 221 "java/util/NoSuchElementException") (by decide +kernel)) (hts (.initialized "java/util/NoSuchElementException") (by decide +kernel)) (vx_hat (B := xB "java/util/NoSuchElementException") (fun w h => hts w ((in_z_X11_slot_at0_X11_223) w h)) (by decide +kernel) (Zz_xB hZ (by decide))) (by decide +kernel) hZ.1 hZ.2.1 hS (hl.1.trans hml.symm) dX11_slot_42 dX11_slot_45 dX11_slot_46 dX11_slot_49 (fun x h => (htab x h).elim) (by decide) (Nat.le_of_ble_eq_true rfl) (Nat.le_of_ble_eq_true rfl) (Nat.le_of_ble_eq_true rfl) hlocks (fun t _ h1 h2 => ⟨(), trivial, (Or.inr (Or.inr (Or.inl ⟨rfl, c107, c108, c109⟩))), xx_F hS h1 h2⟩) hS.2.2 (by decide) (by decide)
  · skip
    subst er115
    refine lv_if_eq (tgt := 42) hx hb dX11_slot_6 (by decide) (fun c119 => ?_) (fun c119 => absurd c119 (by decide))
    exact vx_throw0 (names := ["java/lang/RuntimeException", "java/lang/Exception"]) hx hb hst hown (by decide +kernel) (by decide +kernel) (hts (.classLink RX11 221 "java/util/NoSuchElementException") (by decide +kernel)) (hts (.initialized "java/util/NoSuchElementException") (by decide +kernel)) (vx_hat (B := xB "java/util/NoSuchElementException") (fun w h => hts w ((in_z_X11_slot_at0_X11_223) w h)) (by decide +kernel) (Zz_xB hZ (by decide))) (by decide +kernel) hZ.1 hZ.2.1 hS (hl.1.trans hml.symm) dX11_slot_42 dX11_slot_45 dX11_slot_46 dX11_slot_49 (fun x h => (htab x h).elim) (by decide) (Nat.le_of_ble_eq_true rfl) (Nat.le_of_ble_eq_true rfl) (Nat.le_of_ble_eq_true rfl) hlocks (fun t _ h1 h2 => ⟨(), trivial, (Or.inr (Or.inr (Or.inr (⟨rfl, c111, c112, c113, c114⟩)))), xx_F hS h1 h2⟩) hS.2.2 (by decide) (by decide)

def l_z_X11_holder : List Cond := [.methodLink RX11 359 yX11_isThing, .instanceMethod yX11_isThing, .selects RX11 yX11_isThing yX11_isThing, .initialized RX11, .classLink RX11 221 "java/util/NoSuchElementException", .initialized "java/util/NoSuchElementException", .code yX11_isThing cX11_isThing 3 (some .boolean), .methodLink RX11 411 yX11_isPicture, .static yX11_isPicture, .fieldLink RX11 41 "HeapWorks" "pictures" "[LHeapWorks$Picture;", .fieldLink RX11 356 "HeapWorks$Picture" "things" "I", .code yX11_isPicture cX11_isPicture 1 (some .boolean)]
def w_z_X11_holder : List Cond := .code yX11_holder cX11_holder 7 (some .int) :: (l_z_X11_holder ++ ((((vx_at0 RX11 223 "java/util/NoSuchElementException" ["java/lang/RuntimeException", "java/lang/Exception"]).filter goodWord) ++ (wsX110 ++ wsX50))))
theorem in_z_X11_holder_at0_X11_223 : ∀ w ∈ ((vx_at0 RX11 223 "java/util/NoSuchElementException" ["java/lang/RuntimeException", "java/lang/Exception"]).filter goodWord), w ∈ w_z_X11_holder := fun w h => List.mem_cons_of_mem _ (List.mem_append_right _ (List.mem_append_left _ h))
theorem in_z_X11_holder_X11 : ∀ w ∈ wsX110, w ∈ w_z_X11_holder := fun w h => List.mem_cons_of_mem _ (List.mem_append_right _ (List.mem_append_right _ (List.mem_append_left _ h)))
theorem in_z_X11_holder_X5 : ∀ w ∈ wsX50, w ∈ w_z_X11_holder := fun w h => List.mem_cons_of_mem _ (List.mem_append_right _ (List.mem_append_right _ (List.mem_append_right _ (h))))
theorem g_z_X11_holder_z_X11_isThing_359 : GoodIn w_z_X11_holder (wsV RX11 359 RX11 yX11_isThing w_z_X11_isThing) := goodIn_app (goodIn_r (([.methodLink RX11 359 yX11_isThing, .instanceMethod yX11_isThing, .selects RX11 yX11_isThing yX11_isThing, .initialized RX11] : List Cond)) [1, 2, 3, 4] rfl (by decide +kernel)) (goodIn_ca (goodIn_r (.code yX11_isThing cX11_isThing 3 (some .boolean) :: l_z_X11_isThing) [7, 8, 9, 4, 10, 11, 12] rfl (by decide +kernel)) (goodIn_app (goodIn_in (in_z_X11_holder_X11) gd_X11) (goodIn_in (in_z_X11_holder_X5) gd_X5)))
set_option maxHeartbeats 4000000 in
set_option maxRecDepth 100000 in
theorem z_X11_holder (l : Launch) (dC : Nat → ClassId) (dI : Nat → Nat → Nat) (sz : Nat) (Ad0 : Nat) (Fs0 : List Value) (Ad1 : Nat) (Fa0 : Nat → Option Nat) (Ka0 : ClassId) (Ad2 : Nat) (Fs1 : List Value) (Va0 : Int32) (Va1 : Int32) (Va2 : Int32) (Va3 : Int32) (k_Fs0 : fh Fs0 18 [(4, .ref Ad1)]) (k_Fs1 : fh Fs1 21 [(0, .int 0)]) (hst : l.stackTraces = false) (hg0 : Fa0 Va0.toNatClampNeg = some Ad2) : vx_Met l yX11_holder w_z_X11_holder ({ frames := 7, cells := 1, slots := 6, locals := 140 }) (va_Pc [.ref Ad0, .int Va0, .int Va1, .int Va2, .int Va3] (fun U => U.heap.size = sz ∧ Zz (va_A [(Ad0, .inr (14, Fs0)), (Ad1, .inl (Ka0, 4, .inr (.inr (.inr (.inr Fa0))))), (Ad2, .inr (8, Fs1))] sz) U ∧ Wd dC dI [(Ka0, .object "HeapWorks$Picture")] (fun _ => True) [(Ad0, .inr (14, Fs0)), (Ad1, .inl (Ka0, 4, .inr (.inr (.inr (.inr Fa0))))), (Ad2, .inr (8, Fs1))] U)) (va_Qi (fun (r : Int32) (u : Unit) => False) (fun (u : Unit) t => Wd dC dI [(Ka0, .object "HeapWorks$Picture")] (va_A [(Ad0, .inr (14, Fs0)), (Ad1, .inl (Ka0, 4, .inr (.inr (.inr (.inr Fa0))))), (Ad2, .inr (8, Fs1))] sz) [(Ad0, .inr (14, Fs0)), (Ad1, .inl (Ka0, 4, .inr (.inr (.inr (.inr Fa0))))), (Ad2, .inr (8, Fs1))] t) (va_A [(Ad0, .inr (14, Fs0)), (Ad1, .inl (Ka0, 4, .inr (.inr (.inr (.inr Fa0))))), (Ad2, .inr (8, Fs1))] sz)) (vx_X (fun _ : Unit => True) (fun E _ _ => (E = "java/util/NoSuchElementException" ∧ Va0 < 0) ∨ (E = "java/util/NoSuchElementException" ∧ ¬ Va0 < 0 ∧ 4 ≤ Va0) ∨ (E = "java/util/NoSuchElementException" ∧ ¬ Va0 < 0 ∧ ¬ 4 ≤ Va0 ∧ Va1 < 0) ∨ (E = "java/util/NoSuchElementException" ∧ ¬ Va0 < 0 ∧ ¬ 4 ≤ Va0 ∧ ¬ Va1 < 0 ∧ 0 ≤ Va1)) (va_A [(Ad0, .inr (14, Fs0)), (Ad1, .inl (Ka0, 4, .inr (.inr (.inr (.inr Fa0))))), (Ad2, .inr (8, Fs1))] sz)) 1 6 (va_A [(Ad0, .inr (14, Fs0)), (Ad1, .inl (Ka0, 4, .inr (.inr (.inr (.inr Fa0))))), (Ad2, .inr (8, Fs1))] sz) := by
  refine vx_ofW (cc := cX11_holder) (maxL := 7) (ret := (some .int)) (by decide) rfl ?_
  intro p e s m args below meth c s₁ B hml htab hv
  obtain ⟨rfl, hsz, hZ, hP, hK, hD0⟩ := hv
  have hx := B.exec
  have hb := B.bytes
  have hr := B.returns
  have hts := atoms_spec (ws := w_z_X11_holder) B.pre
  have hown : s.vm.findClass RX11 = some m.cls := findClass_of_methodNamed B.named
  have hlocks := B.notSynchronized
  subst hsz
  have hD := hD0.self (sz := s.heap.size)
  generalize hAe : va_A [(Ad0, .inr (14, Fs0)), (Ad1, .inl (Ka0, 4, .inr (.inr (.inr (.inr Fa0))))), (Ad2, .inr (8, Fs1))] s.heap.size = A at hD hZ ⊢
  have hA : ∀ q : Nat, s.heap.size ≤ q → A q := fun q h => by rw [← hAe]; exact Or.inr h
  have hS : va_S A s.heap s.heap [] := va_S.rf
  have hl := lv_entry ([.ref Ad0, .int Va0, .int Va1, .int Va2, .int Va3]) (n := 7) (Nat.le_of_ble_eq_true rfl)
  rw [lg_entry_eq]
  generalize (lg_sl ([.ref Ad0, .int Va0, .int Va1, .int Va2, .int Va3]) ++ List.replicate (7 - (lg_sl ([.ref Ad0, .int Va0, .int Va1, .int Va2, .int Va3])).length) Slot.unset).toArray = ls at hl ⊢
  have hl : lv_has ls 7 [(0, .ref Ad0), (1, .int Va0), (2, .int Va1), (3, .int Va2), (4, .int Va3)] := hl
  have o_Fs0 := ow_0 k_Fs0
  have o_Fs1 := ow_0 k_Fs1
  refine lv_aload_n hx hb dX11_holder_0 rfl (lv_at hl 0 rfl) ?_
  refine lv_iload_n hx hb dX11_holder_1 rfl (lv_at hl 1 rfl) ?_
  refine lv_iload_n hx hb dX11_holder_2 rfl (lv_at hl 2 rfl) ?_
  have hPc := hP.sub (ws' := [(Ad0, .inr (14, Fs0)), (Ad1, .inl (Ka0, 4, .inr (.inr (.inr (.inr Fa0))))), (Ad2, .inr (8, Fs1))]) [0, 1, 2] rfl
  have hDc := hD.sub (ws' := [(Ad0, .inr (14, Fs0)), (Ad1, .inl (Ka0, 4, .inr (.inr (.inr (.inr Fa0))))), (Ad2, .inr (8, Fs1))]) [0, 1, 2] (by decide) rfl
  have hKc := hK.sub (tys' := [(Ka0, .object "HeapWorks$Picture")]) [0] rfl
  have hFc := va_free (wc := [(Ad0, .inr (14, Fs0)), (Ad1, .inl (Ka0, 4, .inr (.inr (.inr (.inr Fa0))))), (Ad2, .inr (8, Fs1))]) hD hS hA [0, 1, 2] rfl
  refine va_calli (va_runV (As := [.int Va0, .int Va1]) (rest := []) ⟨hx, hb, hml, hown, hts⟩ (z_X11_isThing l dC dI s.heap.size Ad0 Fs0 Ad1 Fa0 Ka0 Ad2 Fs1 Va0 Va1 (fh_sub o_Fs0.2 [0] rfl) (fh_sub o_Fs1.2 [0] rfl) hg0) (cwV 2 hts g_z_X11_holder_z_X11_isThing_359 rfl rfl rfl (by decide +kernel) ⟨Nat.le_of_ble_eq_true rfl, Nat.le_of_ble_eq_true rfl⟩) ⟨fun a U g mk q => by obtain ⟨q0, q1, qP, qK, qD⟩ := q; exact ⟨q0, q1, qP, va_K.moved (u := U) (U := U.calling g mk a) (Vm.Alike.refl U.vm) qK, qD⟩, va_recv hK hP (ci := 14) (q0 := 0) rfl rfl, fun U hU hW => ⟨rfl, by rw [hU], by rw [hU]; exact hPc, va_K.moved hW.alike hKc, hDc.weaken (fun _ _ _ _ => trivial)⟩⟩ rfl rfl hl.1 rfl (lv_room (Nat.le_of_ble_eq_true rfl)) dX11_holder_3 ⟨Nat.le_of_ble_eq_true rfl, Nat.le_of_ble_eq_true rfl⟩) hS (fun q _ h => hFc q h) hFc (fun r101 u t H1 locs ht hvm hw hB hz1 hk1 hS => ?_)
  obtain ⟨hP1, hK1, hD1⟩ := hB
  rw [ht] at hP1
  try dsimp only at hw
  obtain ⟨hP, hD⟩ := va_join (wr := []) (w1 := [(Ad0, .inr (14, Fs0)), (Ad1, .inl (Ka0, 4, .inr (.inr (.inr (.inr Fa0))))), (Ad2, .inr (8, Fs1))]) hP hD [0, 1, 2] [] rfl rfl (by decide) (by decide) hk1 hFc hP1 hD1
  have hK := hK.sub (tys' := [(Ka0, .object "HeapWorks$Picture")]) [0] rfl
  generalize H1 = H at hP hS ⊢
  have hP : va_P (dC, dI) vwCl [(Ad0, .inr (14, Fs0)), (Ad1, .inl (Ka0, 4, .inr (.inr (.inr (.inr Fa0))))), (Ad2, .inr (8, Fs1))] H := hP
  have hD : va_D A [(Ad0, .inr (14, Fs0)), (Ad1, .inl (Ka0, 4, .inr (.inr (.inr (.inr Fa0))))), (Ad2, .inr (8, Fs1))] := hD
  rcases hw with ⟨c102, er103⟩ | ⟨c104, c105, er106⟩ | ⟨c107, c108, c109, er110⟩ | ⟨c111, c112, c113, c114, er115⟩
  · skip
    subst er103
    refine lv_if_eq (tgt := 38) hx hb dX11_holder_6 (by decide) (fun c116 => ?_) (fun c116 => absurd c116 (by decide))
    exact vx_throw0 (names := ["java/lang/RuntimeException", "java/lang/Exception"]) hx hb hst hown (by decide +kernel) (by decide +kernel) (hts (.classLink RX11 221 "java/util/NoSuchElementException") (by decide +kernel)) (hts (.initialized "java/util/NoSuchElementException") (by decide +kernel)) (vx_hat (B := xB "java/util/NoSuchElementException") (fun w h => hts w ((in_z_X11_holder_at0_X11_223) w h)) (by decide +kernel) (Zz_xB hZ (by decide))) (by decide +kernel) hZ.1 hZ.2.1 hS (hl.1.trans hml.symm) dX11_holder_38 dX11_holder_41 dX11_holder_42 dX11_holder_45 (fun x h => (htab x h).elim) (by decide) (Nat.le_of_ble_eq_true rfl) (Nat.le_of_ble_eq_true rfl) (Nat.le_of_ble_eq_true rfl) hlocks (fun t _ h1 h2 => ⟨(), trivial, (Or.inl ⟨rfl, c102⟩), xx_F hS h1 h2⟩) hS.2.2 (by decide) (by decide)
  · skip
    subst er106
    refine lv_if_eq (tgt := 38) hx hb dX11_holder_6 (by decide) (fun c117 => ?_) (fun c117 => absurd c117 (by decide))
    exact vx_throw0 (names := ["java/lang/RuntimeException", "java/lang/Exception"]) hx hb hst hown (by decide +kernel) (by decide +kernel) (hts (.classLink RX11 221 "java/util/NoSuchElementException") (by decide +kernel)) (hts (.initialized "java/util/NoSuchElementException") (by decide +kernel)) (vx_hat (B := xB "java/util/NoSuchElementException") (fun w h => hts w ((in_z_X11_holder_at0_X11_223) w h)) (by decide +kernel) (Zz_xB hZ (by decide))) (by decide +kernel) hZ.1 hZ.2.1 hS (hl.1.trans hml.symm) dX11_holder_38 dX11_holder_41 dX11_holder_42 dX11_holder_45 (fun x h => (htab x h).elim) (by decide) (Nat.le_of_ble_eq_true rfl) (Nat.le_of_ble_eq_true rfl) (Nat.le_of_ble_eq_true rfl) hlocks (fun t _ h1 h2 => ⟨(), trivial, (Or.inr (Or.inl ⟨rfl, c104, c105⟩)), xx_F hS h1 h2⟩) hS.2.2 (by decide) (by decide)
  · skip
    subst er110
    refine lv_if_eq (tgt := 38) hx hb dX11_holder_6 (by decide) (fun c118 => ?_) (fun c118 => absurd c118 (by decide))
    exact vx_throw0 (names := ["java/lang/RuntimeException", "java/lang/Exception"]) hx hb hst hown (by decide +kernel) (by decide +kernel) (hts (.classLink RX11 221 "java/util/NoSuchElementException") (by decide +kernel)) (hts (.initialized "java/util/NoSuchElementException") (by decide +kernel)) (vx_hat (B := xB "java/util/NoSuchElementException") (fun w h => hts w ((in_z_X11_holder_at0_X11_223) w h)) (by decide +kernel) (Zz_xB hZ (by decide))) (by decide +kernel) hZ.1 hZ.2.1 hS (hl.1.trans hml.symm) dX11_holder_38 dX11_holder_41 dX11_holder_42 dX11_holder_45 (fun x h => (htab x h).elim) (by decide) (Nat.le_of_ble_eq_true rfl) (Nat.le_of_ble_eq_true rfl) (Nat.le_of_ble_eq_true rfl) hlocks (fun t _ h1 h2 => ⟨(), trivial, (Or.inr (Or.inr (Or.inl ⟨rfl, c107, c108, c109⟩))), xx_F hS h1 h2⟩) hS.2.2 (by decide) (by decide)
  · skip
    subst er115
    refine lv_if_eq (tgt := 38) hx hb dX11_holder_6 (by decide) (fun c119 => ?_) (fun c119 => absurd c119 (by decide))
    exact vx_throw0 (names := ["java/lang/RuntimeException", "java/lang/Exception"]) hx hb hst hown (by decide +kernel) (by decide +kernel) (hts (.classLink RX11 221 "java/util/NoSuchElementException") (by decide +kernel)) (hts (.initialized "java/util/NoSuchElementException") (by decide +kernel)) (vx_hat (B := xB "java/util/NoSuchElementException") (fun w h => hts w ((in_z_X11_holder_at0_X11_223) w h)) (by decide +kernel) (Zz_xB hZ (by decide))) (by decide +kernel) hZ.1 hZ.2.1 hS (hl.1.trans hml.symm) dX11_holder_38 dX11_holder_41 dX11_holder_42 dX11_holder_45 (fun x h => (htab x h).elim) (by decide) (Nat.le_of_ble_eq_true rfl) (Nat.le_of_ble_eq_true rfl) (Nat.le_of_ble_eq_true rfl) hlocks (fun t _ h1 h2 => ⟨(), trivial, (Or.inr (Or.inr (Or.inr (⟨rfl, c111, c112, c113, c114⟩)))), xx_F hS h1 h2⟩) hS.2.2 (by decide) (by decide)

def l_z_X8_numberRings : List Cond := [.fieldLink RX8 45 "HeapWorks$Shape" "low" "[I", .fieldLink RX8 64 "HeapWorks$Picture" "things" "I", .methodLink RX8 67 yJ7_fill_fda19, .static yJ7_fill_fda19, .initialized RJ7, .fieldLink RX8 51 "HeapWorks$Shape" "path" "[I", .fieldLink RX8 142 "HeapWorks$Shape" "rings" "I", .code yJ7_fill_fda19 cJ7_fill_fda19 5 none, .methodLink RJ7 13 yJ7_rangeCheck_23922, .static yJ7_rangeCheck_23922, .code yJ7_rangeCheck_23922 cJ7_rangeCheck_23922 3 none]
def w_z_X8_numberRings : List Cond := .code yX8_numberRings cX8_numberRings 4 none :: (l_z_X8_numberRings ++ ((wsX80 ++ wsX50)))
theorem in_z_X8_numberRings_X8 : ∀ w ∈ wsX80, w ∈ w_z_X8_numberRings := fun w h => List.mem_cons_of_mem _ (List.mem_append_right _ (List.mem_append_left _ h))
theorem in_z_X8_numberRings_X5 : ∀ w ∈ wsX50, w ∈ w_z_X8_numberRings := fun w h => List.mem_cons_of_mem _ (List.mem_append_right _ (List.mem_append_right _ (h)))
theorem g_z_X8_numberRings_z_J7_fill_fda19_1_67 : GoodIn w_z_X8_numberRings (va_wsS RX8 67 yJ7_fill_fda19 w_z_J7_fill_fda19_1) := goodIn_app (goodIn_r (([.methodLink RX8 67 yJ7_fill_fda19, .static yJ7_fill_fda19, .initialized RJ7] : List Cond)) [3, 4, 5] rfl (by decide +kernel)) (goodIn_r (.code yJ7_fill_fda19 cJ7_fill_fda19 5 none :: l_z_J7_fill_fda19_1) [8, 9, 10, 5, 11] rfl (by decide +kernel))
theorem g_z_X8_numberRings_z_J7_fill_fda19_2_67 : GoodIn w_z_X8_numberRings (va_wsS RX8 67 yJ7_fill_fda19 w_z_J7_fill_fda19_2) := goodIn_app (goodIn_r (([.methodLink RX8 67 yJ7_fill_fda19, .static yJ7_fill_fda19, .initialized RJ7] : List Cond)) [3, 4, 5] rfl (by decide +kernel)) (goodIn_r (.code yJ7_fill_fda19 cJ7_fill_fda19 5 none :: l_z_J7_fill_fda19_2) [8, 9, 10, 5, 11] rfl (by decide +kernel))
set_option maxHeartbeats 4000000 in
set_option maxRecDepth 100000 in
theorem z_X8_numberRings (l : Launch) (dC : Nat → ClassId) (dI : Nat → Nat → Nat) (sz : Nat) (Ad0 : Nat) (Fs0 : List Value) (Ad1 : Nat) (Fs1 : List Value) (Ad2 : Nat) (Fa0 : Nat → Int32) (Ka0 : ClassId) (Ad3 : Nat) (Fa1 : Nat → Int32) (Ka1 : ClassId) (k_Fs0 : fh Fs0 21 [(0, .int 0)]) (k_Fs1 : fh Fs1 18 [(13, .ref Ad2), (15, .ref Ad3)])  : Met l yX8_numberRings w_z_X8_numberRings ({ frames := 2, cells := 0, slots := 0, locals := 46 }) (va_Pc [.ref Ad1, .ref Ad0] (fun U => U.heap.size = sz ∧ Wd dC dI [(Ka0, .int), (Ka1, .int)] (fun _ => True) [(Ad0, .inr (8, Fs0)), (Ad1, .inr (11, Fs1)), (Ad2, .inl (Ka0, 400, .inl Fa0)), (Ad3, .inl (Ka1, 400, .inl Fa1))] U)) (va_Qv (fun (u : List Value) => ow Fs1 (u) 18 [9] [(9, .int 0), (13, .ref Ad2), (15, .ref Ad3)]) (fun (u : List Value) t => Wd dC dI [(Ka0, .int), (Ka1, .int)] (va_A [(Ad0, .inr (8, Fs0)), (Ad1, .inr (11, Fs1)), (Ad2, .inl (Ka0, 400, .inl Fa0)), (Ad3, .inl (Ka1, 400, .inl Fa1))] sz) [(Ad0, .inr (8, Fs0)), (Ad1, .inr (11, (u))), (Ad2, .inl (Ka0, 400, .inl Fa0)), (Ad3, .inl (Ka1, 400, .inl Fa1))] t) (va_A [(Ad0, .inr (8, Fs0)), (Ad1, .inr (11, Fs1)), (Ad2, .inl (Ka0, 400, .inl Fa0)), (Ad3, .inl (Ka1, 400, .inl Fa1))] sz))  0 0 (va_A [(Ad0, .inr (8, Fs0)), (Ad1, .inr (11, Fs1)), (Ad2, .inl (Ka0, 400, .inl Fa0)), (Ad3, .inl (Ka1, 400, .inl Fa1))] sz) := by
  refine Met.ofW (cc := cX8_numberRings) (maxL := 4) (ret := none) (by decide) rfl ?_
  intro p e s m args below meth c s₁ B hml hv
  obtain ⟨rfl, hsz, hP, hK, hD0⟩ := hv
  have hx := B.exec
  have hb := B.bytes
  have hr := B.returns
  have hts := atoms_spec (ws := w_z_X8_numberRings) B.pre
  have hown : s.vm.findClass RX8 = some m.cls := findClass_of_methodNamed B.named
  have hlocks := B.notSynchronized
  subst hsz
  have hD := hD0.self (sz := s.heap.size)
  generalize hAe : va_A [(Ad0, .inr (8, Fs0)), (Ad1, .inr (11, Fs1)), (Ad2, .inl (Ka0, 400, .inl Fa0)), (Ad3, .inl (Ka1, 400, .inl Fa1))] s.heap.size = A at hD ⊢
  have hA : ∀ q : Nat, s.heap.size ≤ q → A q := fun q h => by rw [← hAe]; exact Or.inr h
  have hS : va_S A s.heap s.heap [] := va_S.rf
  have hl := lv_entry ([.ref Ad1, .ref Ad0]) (n := 4) (Nat.le_of_ble_eq_true rfl)
  rw [lg_entry_eq]
  generalize (lg_sl ([.ref Ad1, .ref Ad0]) ++ List.replicate (4 - (lg_sl ([.ref Ad1, .ref Ad0])).length) Slot.unset).toArray = ls at hl ⊢
  have hl : lv_has ls 4 [(0, .ref Ad1), (1, .ref Ad0)] := hl
  have o_Fs0 := ow_0 k_Fs0
  have o_Fs1 := ow_0 k_Fs1
  refine lv_aload_n hx hb dX8_numberRings_0 rfl (lv_at hl 0 rfl) ?_
  refine va_get (D := (dC, dI)) (ci := 11) (v := .ref Ad2) (C := RX8) (T := TX8) (N := 18) hx hb hts (in_z_X8_numberRings_X8) hown hK hP 1 rfl rfl 13 (by decide) (hts (.fieldLink RX8 45 "HeapWorks$Shape" "low" "[I") (by decide +kernel)) (fun _ h9 => h9) (ow_at o_Fs1 0 rfl) dX8_numberRings_1 ?_
  refine lv_iconst (v := 0) hx hb dX8_numberRings_4 (by decide) ?_
  refine lv_aload_n hx hb dX8_numberRings_5 rfl (lv_at hl 1 rfl) ?_
  refine va_get (D := (dC, dI)) (ci := 8) (v := .int 0) (C := RX5) (T := TX5) (N := 21) hx hb hts (in_z_X8_numberRings_X5) hown hK hP 0 rfl rfl 0 (by decide) (hts (.fieldLink RX8 64 "HeapWorks$Picture" "things" "I") (by decide +kernel)) (fun _ h9 => h9) (ow_at o_Fs0 0 rfl) dX8_numberRings_6 ?_
  refine lv_iconst (v := 0) hx hb dX8_numberRings_9 (by decide) ?_
  have hPc := hP.sub (ws' := [(Ad2, .inl (Ka0, 400, .inl Fa0))]) [2] rfl
  have hDc := hD.sub (ws' := [(Ad2, .inl (Ka0, 400, .inl Fa0))]) [2] (by decide) rfl
  have hKc := hK.sub (tys' := [(Ka0, .int)]) [0] rfl
  have hFc := va_free (wc := [(Ad2, .inl (Ka0, 400, .inl Fa0))]) hD hS hA [2] rfl
  refine va_callv (va_runS (As := [.ref Ad2, .int 0, .int 0, .int 0]) (rest := []) ⟨hx, hb, hml, hown, hts⟩ (z_J7_fill_fda19_1 l dC dI s.heap.size Ad2 Fa0 Ka0  ) (va_cwS 4 hts g_z_X8_numberRings_z_J7_fill_fda19_1_67 rfl rfl rfl (by decide +kernel) ⟨Nat.le_of_ble_eq_true rfl, Nat.le_of_ble_eq_true rfl⟩) ⟨fun a U g mk q => by obtain ⟨q0, q1, qP, qK, qD⟩ := q; exact ⟨q0, q1, qP, va_K.moved (u := U) (U := U.calling g mk a) (Vm.Alike.refl U.vm) qK, qD⟩, fun U hU hW => ⟨rfl, by rw [hU], by rw [hU]; exact hPc, va_K.moved hW.alike hKc, hDc.weaken (fun _ _ _ _ => trivial)⟩⟩ rfl rfl hl.1 rfl (lv_room (Nat.le_of_ble_eq_true rfl)) dX8_numberRings_10 ⟨Nat.le_of_ble_eq_true rfl, Nat.le_of_ble_eq_true rfl⟩) hS (fun q _ h => hFc q h) hFc (fun u t H1 locs ht hvm hw hB hz1 hk1 hS => ?_)
  obtain ⟨hP1, hK1, hD1⟩ := hB
  rw [ht] at hP1
  try dsimp only at hw
  obtain ⟨hP, hD⟩ := va_join (wr := [(Ad0, .inr (8, Fs0)), (Ad1, .inr (11, Fs1)), (Ad3, .inl (Ka1, 400, .inl Fa1))]) (w1 := [(Ad2, .inl (Ka0, 400, .inl Fa0))]) hP hD [2] [0, 1, 3] rfl rfl (by decide) (by decide) hk1 hFc hP1 hD1
  have hK := hK.sub (tys' := [(Ka1, .int), (Ka0, .int)]) [1, 0] rfl
  generalize H1 = H at hP hS ⊢
  have hP : va_P (dC, dI) vwCl [(Ad0, .inr (8, Fs0)), (Ad1, .inr (11, Fs1)), (Ad3, .inl (Ka1, 400, .inl Fa1)), (Ad2, .inl (Ka0, 400, .inl Fa0))] H := hP
  have hD : va_D A [(Ad0, .inr (8, Fs0)), (Ad1, .inr (11, Fs1)), (Ad3, .inl (Ka1, 400, .inl Fa1)), (Ad2, .inl (Ka0, 400, .inl Fa0))] := hD
  refine lv_aload_n hx hb dX8_numberRings_13 rfl (lv_at hl 0 rfl) ?_
  refine va_get (D := (dC, dI)) (ci := 11) (v := .ref Ad3) (C := RX8) (T := TX8) (N := 18) hx hb hts (in_z_X8_numberRings_X8) hown hK hP 1 rfl rfl 15 (by decide) (hts (.fieldLink RX8 51 "HeapWorks$Shape" "path" "[I") (by decide +kernel)) (fun _ h9 => h9) (ow_at o_Fs1 1 rfl) dX8_numberRings_14 ?_
  refine lv_iconst (v := 0) hx hb dX8_numberRings_17 (by decide) ?_
  refine lv_aload_n hx hb dX8_numberRings_18 rfl (lv_at hl 1 rfl) ?_
  refine va_get (D := (dC, dI)) (ci := 8) (v := .int 0) (C := RX5) (T := TX5) (N := 21) hx hb hts (in_z_X8_numberRings_X5) hown hK hP 0 rfl rfl 0 (by decide) (hts (.fieldLink RX8 64 "HeapWorks$Picture" "things" "I") (by decide +kernel)) (fun _ h9 => h9) (ow_at o_Fs0 0 rfl) dX8_numberRings_19 ?_
  refine lv_bipush (v := (-2)) hx hb dX8_numberRings_22 (by decide) ?_
  have hPc := hP.sub (ws' := [(Ad3, .inl (Ka1, 400, .inl Fa1))]) [2] rfl
  have hDc := hD.sub (ws' := [(Ad3, .inl (Ka1, 400, .inl Fa1))]) [2] (by decide) rfl
  have hKc := hK.sub (tys' := [(Ka1, .int)]) [0] rfl
  have hFc := va_free (wc := [(Ad3, .inl (Ka1, 400, .inl Fa1))]) hD hS hA [2] rfl
  refine va_callv (va_runS (As := [.ref Ad3, .int 0, .int 0, .int (-2)]) (rest := []) ⟨hx, hb, hml, hown, hts⟩ (z_J7_fill_fda19_2 l dC dI H.size Ad3 Fa1 Ka1  ) (va_cwS 4 hts g_z_X8_numberRings_z_J7_fill_fda19_2_67 rfl rfl rfl (by decide +kernel) ⟨Nat.le_of_ble_eq_true rfl, Nat.le_of_ble_eq_true rfl⟩) ⟨fun a U g mk q => by obtain ⟨q0, q1, qP, qK, qD⟩ := q; exact ⟨q0, q1, qP, va_K.moved (u := U) (U := U.calling g mk a) (Vm.Alike.refl U.vm) qK, qD⟩, fun U hU hW => ⟨rfl, by rw [hU], by rw [hU]; exact hPc, va_K.moved hW.alike hKc, hDc.weaken (fun _ _ _ _ => trivial)⟩⟩ rfl rfl hl.1 rfl (lv_room (Nat.le_of_ble_eq_true rfl)) dX8_numberRings_24 ⟨Nat.le_of_ble_eq_true rfl, Nat.le_of_ble_eq_true rfl⟩) hS (fun q _ h => hFc q h) hFc (fun u t H1 locs ht hvm hw hB hz1 hk1 hS => ?_)
  obtain ⟨hP1, hK1, hD1⟩ := hB
  rw [ht] at hP1
  try dsimp only at hw
  obtain ⟨hP, hD⟩ := va_join (wr := [(Ad0, .inr (8, Fs0)), (Ad1, .inr (11, Fs1)), (Ad2, .inl (Ka0, 400, .inl Fa0))]) (w1 := [(Ad3, .inl (Ka1, 400, .inl Fa1))]) hP hD [2] [0, 1, 3] rfl rfl (by decide) (by decide) hk1 hFc hP1 hD1
  have hK := hK.sub (tys' := [(Ka0, .int), (Ka1, .int)]) [1, 0] rfl
  generalize H1 = H at hP hS ⊢
  have hP : va_P (dC, dI) vwCl [(Ad0, .inr (8, Fs0)), (Ad1, .inr (11, Fs1)), (Ad2, .inl (Ka0, 400, .inl Fa0)), (Ad3, .inl (Ka1, 400, .inl Fa1))] H := hP
  have hD : va_D A [(Ad0, .inr (8, Fs0)), (Ad1, .inr (11, Fs1)), (Ad2, .inl (Ka0, 400, .inl Fa0)), (Ad3, .inl (Ka1, 400, .inl Fa1))] := hD
  refine lv_iconst (v := 0) hx hb dX8_numberRings_27 (by decide) ?_
  refine lv_istore_n (lv' := [(2, .int 0), (0, .ref Ad1), (1, .ref Ad0)]) hx hb dX8_numberRings_28 rfl hl (by decide) rfl (fun ls hl => ?_)
  refine lv_iload_n hx hb dX8_numberRings_29 rfl (lv_at hl 0 rfl) ?_
  refine lv_aload_n hx hb dX8_numberRings_30 rfl (lv_at hl 2 rfl) ?_
  refine va_get (D := (dC, dI)) (ci := 8) (v := .int 0) (C := RX5) (T := TX5) (N := 21) hx hb hts (in_z_X8_numberRings_X5) hown hK hP 0 rfl rfl 0 (by decide) (hts (.fieldLink RX8 64 "HeapWorks$Picture" "things" "I") (by decide +kernel)) (fun _ h9 => h9) (ow_at o_Fs0 0 rfl) dX8_numberRings_31 ?_
  refine lv_icmp_ge (tgt := 58) hx hb dX8_numberRings_34 (by decide) (fun c101 => ?_) (fun c101 => absurd c101 (by decide))
  refine lv_aload_n hx hb dX8_numberRings_58 rfl (lv_at hl 1 rfl) ?_
  refine lv_iconst (v := 0) hx hb dX8_numberRings_59 (by decide) ?_
  refine va_put (D := (dC, dI)) (ci := 11) (v := .int 0) (ty := .int) (C := RX8) (T := TX8) (N := 18) hx hb hts (in_z_X8_numberRings_X8) tyX8 tyX8_ok nmX8 hown hK hP hD hS 1 rfl rfl 9 (by decide) (hts (.fieldLink RX8 142 "HeapWorks$Shape" "rings" "I") (by decide +kernel)) (fun _ h9 => h9) rfl (by decide +kernel) rfl rfl (by rw [o_Fs1.2.1]; decide) dX8_numberRings_60 (fun H locs hP hD hS => ?_)
  have hP : va_P (dC, dI) vwCl [(Ad0, .inr (8, Fs0)), (Ad1, .inr (11, (Fs1.set 9 (.int 0)))), (Ad2, .inl (Ka0, 400, .inl Fa0)), (Ad3, .inl (Ka1, 400, .inl Fa1))] H := hP
  have hD : va_D A [(Ad0, .inr (8, Fs0)), (Ad1, .inr (11, (Fs1.set 9 (.int 0)))), (Ad2, .inl (Ka0, 400, .inl Fa0)), (Ad3, .inl (Ka1, 400, .inl Fa1))] := hD
  have o_s102 := ow_set o_Fs1 9 (.int 0) (by decide) (l' := [(9, .int 0), (13, .ref Ad2), (15, .ref Ad3)]) (w' := [9]) rfl rfl
  generalize (Fs1.set 9 (.int 0)) = s102 at hP hD o_s102
  refine lv_iconst (v := 0) hx hb dX8_numberRings_63 (by decide) ?_
  refine lv_istore_n (lv' := [(2, .int 0), (0, .ref Ad1), (1, .ref Ad0)]) hx hb dX8_numberRings_64 rfl hl (by decide) rfl (fun ls hl => ?_)
  refine lv_iload_n hx hb dX8_numberRings_65 rfl (lv_at hl 0 rfl) ?_
  refine lv_aload_n hx hb dX8_numberRings_66 rfl (lv_at hl 2 rfl) ?_
  refine va_get (D := (dC, dI)) (ci := 8) (v := .int 0) (C := RX5) (T := TX5) (N := 21) hx hb hts (in_z_X8_numberRings_X5) hown hK hP 0 rfl rfl 0 (by decide) (hts (.fieldLink RX8 64 "HeapWorks$Picture" "things" "I") (by decide +kernel)) (fun _ h9 => h9) (ow_at o_Fs0 0 rfl) dX8_numberRings_67 ?_
  refine lv_icmp_ge (tgt := 154) hx hb dX8_numberRings_70 (by decide) (fun c103 => ?_) (fun c103 => absurd c103 (by decide))
  have hP9 := hP.sub (ws' := [(Ad0, .inr (8, Fs0)), (Ad1, .inr (11, s102)), (Ad2, .inl (Ka0, 400, .inl Fa0)), (Ad3, .inl (Ka1, 400, .inl Fa1))]) [0, 1, 2, 3] rfl
  have hD9 := hD.sub (ws' := [(Ad0, .inr (8, Fs0)), (Ad1, .inr (11, s102)), (Ad2, .inl (Ka0, 400, .inl Fa0)), (Ad3, .inl (Ka1, 400, .inl Fa1))]) [0, 1, 2, 3] (by decide) rfl
  have hK9 := hK.sub (tys' := [(Ka0, .int), (Ka1, .int)]) [0, 1] rfl
  exact W.vret hx hb hr (fun t ht hW => ⟨⟨s102, rfl, o_s102, by rw [ht]; exact hP9, va_K.moved hW.alike hK9, hD9⟩, hS.F ht⟩) hS.2.2 dX8_numberRings_154

def l_z_X8_needRings : List Cond := [.fieldLink RX8 60 "HeapWorks$Shape" "known" "I", .fieldLink RX8 64 "HeapWorks$Picture" "things" "I", .methodLink RX8 123 yX8_numberRings, .instanceMethod yX8_numberRings, .selects RX8 yX8_numberRings yX8_numberRings, .initialized RX8, .code yX8_numberRings cX8_numberRings 4 none, .fieldLink RX8 45 "HeapWorks$Shape" "low" "[I", .methodLink RX8 67 yJ7_fill_fda19, .static yJ7_fill_fda19, .initialized RJ7, .fieldLink RX8 51 "HeapWorks$Shape" "path" "[I", .fieldLink RX8 142 "HeapWorks$Shape" "rings" "I", .code yJ7_fill_fda19 cJ7_fill_fda19 5 none, .methodLink RJ7 13 yJ7_rangeCheck_23922, .static yJ7_rangeCheck_23922, .code yJ7_rangeCheck_23922 cJ7_rangeCheck_23922 3 none]
def w_z_X8_needRings : List Cond := .code yX8_needRings cX8_needRings 4 none :: (l_z_X8_needRings ++ ((wsX80 ++ wsX50)))
theorem in_z_X8_needRings_X8 : ∀ w ∈ wsX80, w ∈ w_z_X8_needRings := fun w h => List.mem_cons_of_mem _ (List.mem_append_right _ (List.mem_append_left _ h))
theorem in_z_X8_needRings_X5 : ∀ w ∈ wsX50, w ∈ w_z_X8_needRings := fun w h => List.mem_cons_of_mem _ (List.mem_append_right _ (List.mem_append_right _ (h)))
theorem g_z_X8_needRings_z_X8_numberRings_123 : GoodIn w_z_X8_needRings (wsV RX8 123 RX8 yX8_numberRings w_z_X8_numberRings) := goodIn_app (goodIn_r (([.methodLink RX8 123 yX8_numberRings, .instanceMethod yX8_numberRings, .selects RX8 yX8_numberRings yX8_numberRings, .initialized RX8] : List Cond)) [3, 4, 5, 6] rfl (by decide +kernel)) (goodIn_ca (goodIn_r (.code yX8_numberRings cX8_numberRings 4 none :: l_z_X8_numberRings) [7, 8, 2, 9, 10, 11, 12, 13, 14, 15, 16, 17] rfl (by decide +kernel)) (goodIn_app (goodIn_in (in_z_X8_needRings_X8) gd_X8) (goodIn_in (in_z_X8_needRings_X5) gd_X5)))
set_option maxHeartbeats 4000000 in
set_option maxRecDepth 100000 in
theorem z_X8_needRings (l : Launch) (dC : Nat → ClassId) (dI : Nat → Nat → Nat) (sz : Nat) (Ad0 : Nat) (Fs0 : List Value) (Ad1 : Nat) (Fs1 : List Value) (Ad2 : Nat) (Fa0 : Nat → Int32) (Ka0 : ClassId) (Ad3 : Nat) (Fa1 : Nat → Int32) (Ka1 : ClassId) (k_Fs0 : fh Fs0 21 [(0, .int 0)]) (k_Fs1 : fh Fs1 18 [(1, .int 0), (13, .ref Ad2), (15, .ref Ad3)])  : Met l yX8_needRings w_z_X8_needRings ({ frames := 3, cells := 0, slots := 0, locals := 69 }) (va_Pc [.ref Ad1, .ref Ad0] (fun U => U.heap.size = sz ∧ Wd dC dI [(Ka0, .int), (Ka1, .int)] (fun _ => True) [(Ad0, .inr (8, Fs0)), (Ad1, .inr (11, Fs1)), (Ad2, .inl (Ka0, 400, .inl Fa0)), (Ad3, .inl (Ka1, 400, .inl Fa1))] U)) (va_Qv (fun (u : List Value) => ow Fs1 (u) 18 [9, 1] [(9, .int 0), (13, .ref Ad2), (15, .ref Ad3), (1, .int 4), (13, .ref Ad2), (15, .ref Ad3)]) (fun (u : List Value) t => Wd dC dI [(Ka0, .int), (Ka1, .int)] (va_A [(Ad0, .inr (8, Fs0)), (Ad1, .inr (11, Fs1)), (Ad2, .inl (Ka0, 400, .inl Fa0)), (Ad3, .inl (Ka1, 400, .inl Fa1))] sz) [(Ad0, .inr (8, Fs0)), (Ad1, .inr (11, (u))), (Ad2, .inl (Ka0, 400, .inl Fa0)), (Ad3, .inl (Ka1, 400, .inl Fa1))] t) (va_A [(Ad0, .inr (8, Fs0)), (Ad1, .inr (11, Fs1)), (Ad2, .inl (Ka0, 400, .inl Fa0)), (Ad3, .inl (Ka1, 400, .inl Fa1))] sz))  0 0 (va_A [(Ad0, .inr (8, Fs0)), (Ad1, .inr (11, Fs1)), (Ad2, .inl (Ka0, 400, .inl Fa0)), (Ad3, .inl (Ka1, 400, .inl Fa1))] sz) := by
  refine Met.ofW (cc := cX8_needRings) (maxL := 4) (ret := none) (by decide) rfl ?_
  intro p e s m args below meth c s₁ B hml hv
  obtain ⟨rfl, hsz, hP, hK, hD0⟩ := hv
  have hx := B.exec
  have hb := B.bytes
  have hr := B.returns
  have hts := atoms_spec (ws := w_z_X8_needRings) B.pre
  have hown : s.vm.findClass RX8 = some m.cls := findClass_of_methodNamed B.named
  have hlocks := B.notSynchronized
  subst hsz
  have hD := hD0.self (sz := s.heap.size)
  generalize hAe : va_A [(Ad0, .inr (8, Fs0)), (Ad1, .inr (11, Fs1)), (Ad2, .inl (Ka0, 400, .inl Fa0)), (Ad3, .inl (Ka1, 400, .inl Fa1))] s.heap.size = A at hD ⊢
  have hA : ∀ q : Nat, s.heap.size ≤ q → A q := fun q h => by rw [← hAe]; exact Or.inr h
  have hS : va_S A s.heap s.heap [] := va_S.rf
  have hl := lv_entry ([.ref Ad1, .ref Ad0]) (n := 4) (Nat.le_of_ble_eq_true rfl)
  rw [lg_entry_eq]
  generalize (lg_sl ([.ref Ad1, .ref Ad0]) ++ List.replicate (4 - (lg_sl ([.ref Ad1, .ref Ad0])).length) Slot.unset).toArray = ls at hl ⊢
  have hl : lv_has ls 4 [(0, .ref Ad1), (1, .ref Ad0)] := hl
  have o_Fs0 := ow_0 k_Fs0
  have o_Fs1 := ow_0 k_Fs1
  refine lv_aload_n hx hb dX8_needRings_0 rfl (lv_at hl 0 rfl) ?_
  refine va_get (D := (dC, dI)) (ci := 11) (v := .int 0) (C := RX8) (T := TX8) (N := 18) hx hb hts (in_z_X8_needRings_X8) hown hK hP 1 rfl rfl 1 (by decide) (hts (.fieldLink RX8 60 "HeapWorks$Shape" "known" "I") (by decide +kernel)) (fun _ h9 => h9) (ow_at o_Fs1 0 rfl) dX8_needRings_1 ?_
  refine lv_iconst (v := 4) hx hb dX8_needRings_4 (by decide) ?_
  refine lv_iand hx hb dX8_needRings_5  ?_
  refine lv_topi (fun x101 ex101 => ?_)
  obtain rfl : x101 = 0 := ex101.trans (by decide)
  refine lv_if_eq (tgt := 10) hx hb dX8_needRings_6 (by decide) (fun c102 => ?_) (fun c102 => absurd c102 (by decide))
  refine lv_aload_n hx hb dX8_needRings_10 rfl (lv_at hl 0 rfl) ?_
  refine lv_dup hx hb dX8_needRings_11 rfl ?_
  refine va_get (D := (dC, dI)) (ci := 11) (v := .int 0) (C := RX8) (T := TX8) (N := 18) hx hb hts (in_z_X8_needRings_X8) hown hK hP 1 rfl rfl 1 (by decide) (hts (.fieldLink RX8 60 "HeapWorks$Shape" "known" "I") (by decide +kernel)) (fun _ h9 => h9) (ow_at o_Fs1 0 rfl) dX8_needRings_12 ?_
  refine lv_iconst (v := 4) hx hb dX8_needRings_15 (by decide) ?_
  refine lv_ior hx hb dX8_needRings_16  ?_
  refine lv_topi (fun x103 ex103 => ?_)
  obtain rfl : x103 = 4 := ex103.trans (by decide)
  refine va_put (D := (dC, dI)) (ci := 11) (v := .int 4) (ty := .int) (C := RX8) (T := TX8) (N := 18) hx hb hts (in_z_X8_needRings_X8) tyX8 tyX8_ok nmX8 hown hK hP hD hS 1 rfl rfl 1 (by decide) (hts (.fieldLink RX8 60 "HeapWorks$Shape" "known" "I") (by decide +kernel)) (fun _ h9 => h9) rfl (by decide +kernel) rfl rfl (by rw [o_Fs1.2.1]; decide) dX8_needRings_17 (fun H locs hP hD hS => ?_)
  have hP : va_P (dC, dI) vwCl [(Ad0, .inr (8, Fs0)), (Ad1, .inr (11, (Fs1.set 1 (.int 4)))), (Ad2, .inl (Ka0, 400, .inl Fa0)), (Ad3, .inl (Ka1, 400, .inl Fa1))] H := hP
  have hD : va_D A [(Ad0, .inr (8, Fs0)), (Ad1, .inr (11, (Fs1.set 1 (.int 4)))), (Ad2, .inl (Ka0, 400, .inl Fa0)), (Ad3, .inl (Ka1, 400, .inl Fa1))] := hD
  have o_s104 := ow_set o_Fs1 1 (.int 4) (by decide) (l' := [(1, .int 4), (13, .ref Ad2), (15, .ref Ad3)]) (w' := [1]) rfl rfl
  generalize (Fs1.set 1 (.int 4)) = s104 at hP hD o_s104
  refine lv_iconst (v := 0) hx hb dX8_needRings_20 (by decide) ?_
  refine lv_istore_n (lv' := [(2, .int 0), (0, .ref Ad1), (1, .ref Ad0)]) hx hb dX8_needRings_21 rfl hl (by decide) rfl (fun ls hl => ?_)
  refine lv_iload_n hx hb dX8_needRings_22 rfl (lv_at hl 0 rfl) ?_
  refine lv_aload_n hx hb dX8_needRings_23 rfl (lv_at hl 2 rfl) ?_
  refine va_get (D := (dC, dI)) (ci := 8) (v := .int 0) (C := RX5) (T := TX5) (N := 21) hx hb hts (in_z_X8_needRings_X5) hown hK hP 0 rfl rfl 0 (by decide) (hts (.fieldLink RX8 64 "HeapWorks$Picture" "things" "I") (by decide +kernel)) (fun _ h9 => h9) (ow_at o_Fs0 0 rfl) dX8_needRings_24 ?_
  refine lv_icmp_ge (tgt := 62) hx hb dX8_needRings_27 (by decide) (fun c105 => ?_) (fun c105 => absurd c105 (by decide))
  refine lv_iconst (v := 0) hx hb dX8_needRings_62 (by decide) ?_
  refine lv_istore_n (lv' := [(2, .int 0), (0, .ref Ad1), (1, .ref Ad0)]) hx hb dX8_needRings_63 rfl hl (by decide) rfl (fun ls hl => ?_)
  refine lv_iconst (v := 0) hx hb dX8_needRings_64 (by decide) ?_
  refine lv_istore_n (lv' := [(3, .int 0), (2, .int 0), (0, .ref Ad1), (1, .ref Ad0)]) hx hb dX8_needRings_65 rfl hl (by decide) rfl (fun ls hl => ?_)
  refine lv_iload_n hx hb dX8_needRings_66 rfl (lv_at hl 0 rfl) ?_
  refine lv_aload_n hx hb dX8_needRings_67 rfl (lv_at hl 3 rfl) ?_
  refine va_get (D := (dC, dI)) (ci := 8) (v := .int 0) (C := RX5) (T := TX5) (N := 21) hx hb hts (in_z_X8_needRings_X5) hown hK hP 0 rfl rfl 0 (by decide) (hts (.fieldLink RX8 64 "HeapWorks$Picture" "things" "I") (by decide +kernel)) (fun _ h9 => h9) (ow_at o_Fs0 0 rfl) dX8_needRings_68 ?_
  refine lv_icmp_ge (tgt := 98) hx hb dX8_needRings_71 (by decide) (fun c106 => ?_) (fun c106 => absurd c106 (by decide))
  refine lv_aload_n hx hb dX8_needRings_98 rfl (lv_at hl 2 rfl) ?_
  refine lv_aload_n hx hb dX8_needRings_99 rfl (lv_at hl 3 rfl) ?_
  have hPc := hP.sub (ws' := [(Ad0, .inr (8, Fs0)), (Ad1, .inr (11, s104)), (Ad2, .inl (Ka0, 400, .inl Fa0)), (Ad3, .inl (Ka1, 400, .inl Fa1))]) [0, 1, 2, 3] rfl
  have hDc := hD.sub (ws' := [(Ad0, .inr (8, Fs0)), (Ad1, .inr (11, s104)), (Ad2, .inl (Ka0, 400, .inl Fa0)), (Ad3, .inl (Ka1, 400, .inl Fa1))]) [0, 1, 2, 3] (by decide) rfl
  have hKc := hK.sub (tys' := [(Ka0, .int), (Ka1, .int)]) [0, 1] rfl
  have hFc := va_free (wc := [(Ad0, .inr (8, Fs0)), (Ad1, .inr (11, s104)), (Ad2, .inl (Ka0, 400, .inl Fa0)), (Ad3, .inl (Ka1, 400, .inl Fa1))]) hD hS hA [0, 1, 2, 3] rfl
  refine va_callv (va_runV (As := [.ref Ad0]) (rest := []) ⟨hx, hb, hml, hown, hts⟩ (z_X8_numberRings l dC dI H.size Ad0 Fs0 Ad1 s104 Ad2 Fa0 Ka0 Ad3 Fa1 Ka1 (fh_sub o_Fs0.2 [0] rfl) (fh_sub o_s104.2 [1, 2] rfl) ) (cwV 1 hts g_z_X8_needRings_z_X8_numberRings_123 rfl rfl rfl (by decide +kernel) ⟨Nat.le_of_ble_eq_true rfl, Nat.le_of_ble_eq_true rfl⟩) ⟨fun a U g mk q => by obtain ⟨q0, q1, qP, qK, qD⟩ := q; exact ⟨q0, q1, qP, va_K.moved (u := U) (U := U.calling g mk a) (Vm.Alike.refl U.vm) qK, qD⟩, va_recv hK hP (ci := 11) (q0 := 1) rfl rfl, fun U hU hW => ⟨rfl, by rw [hU], by rw [hU]; exact hPc, va_K.moved hW.alike hKc, hDc.weaken (fun _ _ _ _ => trivial)⟩⟩ rfl rfl hl.1 rfl (lv_room (Nat.le_of_ble_eq_true rfl)) dX8_needRings_100 ⟨Nat.le_of_ble_eq_true rfl, Nat.le_of_ble_eq_true rfl⟩) hS (fun q _ h => hFc q h) hFc (fun u t H1 locs ht hvm hw hB hz1 hk1 hS => ?_)
  obtain ⟨s107, rfl⟩ : ∃ z, z = u := ⟨_, rfl⟩
  obtain ⟨hP1, hK1, hD1⟩ := hB
  rw [ht] at hP1
  try dsimp only at hw
  obtain ⟨hP, hD⟩ := va_join (wr := []) (w1 := [(Ad0, .inr (8, Fs0)), (Ad1, .inr (11, s107)), (Ad2, .inl (Ka0, 400, .inl Fa0)), (Ad3, .inl (Ka1, 400, .inl Fa1))]) hP hD [0, 1, 2, 3] [] rfl rfl (by decide) (by decide) hk1 hFc hP1 hD1
  have hK := hK.sub (tys' := [(Ka0, .int), (Ka1, .int)]) [0, 1] rfl
  generalize H1 = H at hP hS ⊢
  have hP : va_P (dC, dI) vwCl [(Ad0, .inr (8, Fs0)), (Ad1, .inr (11, s107)), (Ad2, .inl (Ka0, 400, .inl Fa0)), (Ad3, .inl (Ka1, 400, .inl Fa1))] H := hP
  have hD : va_D A [(Ad0, .inr (8, Fs0)), (Ad1, .inr (11, s107)), (Ad2, .inl (Ka0, 400, .inl Fa0)), (Ad3, .inl (Ka1, 400, .inl Fa1))] := hD
  have o_s107 := hw
  have o_s107 := ow_on o_s104 o_s107 (l' := [(9, .int 0), (13, .ref Ad2), (15, .ref Ad3), (1, .int 4), (13, .ref Ad2), (15, .ref Ad3)]) (w' := [9, 1]) rfl rfl
  have hP9 := hP.sub (ws' := [(Ad0, .inr (8, Fs0)), (Ad1, .inr (11, s107)), (Ad2, .inl (Ka0, 400, .inl Fa0)), (Ad3, .inl (Ka1, 400, .inl Fa1))]) [0, 1, 2, 3] rfl
  have hD9 := hD.sub (ws' := [(Ad0, .inr (8, Fs0)), (Ad1, .inr (11, s107)), (Ad2, .inl (Ka0, 400, .inl Fa0)), (Ad3, .inl (Ka1, 400, .inl Fa1))]) [0, 1, 2, 3] (by decide) rfl
  have hK9 := hK.sub (tys' := [(Ka0, .int), (Ka1, .int)]) [0, 1] rfl
  exact W.vret hx hb hr (fun t ht hW => ⟨⟨s107, rfl, o_s107, by rw [ht]; exact hP9, va_K.moved hW.alike hK9, hD9⟩, hS.F ht⟩) hS.2.2 dX8_needRings_103

def l_z_X5_ringCount : List Cond := [.fieldLink RX5 78 "HeapWorks$Picture" "shape" "LHeapWorks$Shape;", .methodLink RX5 176 yX8_needRings, .instanceMethod yX8_needRings, .selects RX8 yX8_needRings yX8_needRings, .initialized RX8, .fieldLink RX5 182 "HeapWorks$Shape" "rings" "I", .code yX8_needRings cX8_needRings 4 none, .fieldLink RX8 60 "HeapWorks$Shape" "known" "I", .fieldLink RX8 64 "HeapWorks$Picture" "things" "I", .methodLink RX8 123 yX8_numberRings, .instanceMethod yX8_numberRings, .selects RX8 yX8_numberRings yX8_numberRings, .code yX8_numberRings cX8_numberRings 4 none, .fieldLink RX8 45 "HeapWorks$Shape" "low" "[I", .methodLink RX8 67 yJ7_fill_fda19, .static yJ7_fill_fda19, .initialized RJ7, .fieldLink RX8 51 "HeapWorks$Shape" "path" "[I", .fieldLink RX8 142 "HeapWorks$Shape" "rings" "I", .code yJ7_fill_fda19 cJ7_fill_fda19 5 none, .methodLink RJ7 13 yJ7_rangeCheck_23922, .static yJ7_rangeCheck_23922, .code yJ7_rangeCheck_23922 cJ7_rangeCheck_23922 3 none]
def w_z_X5_ringCount : List Cond := .code yX5_ringCount cX5_ringCount 1 (some .int) :: (l_z_X5_ringCount ++ ((wsX50 ++ wsX80)))
theorem in_z_X5_ringCount_X5 : ∀ w ∈ wsX50, w ∈ w_z_X5_ringCount := fun w h => List.mem_cons_of_mem _ (List.mem_append_right _ (List.mem_append_left _ h))
theorem in_z_X5_ringCount_X8 : ∀ w ∈ wsX80, w ∈ w_z_X5_ringCount := fun w h => List.mem_cons_of_mem _ (List.mem_append_right _ (List.mem_append_right _ (h)))
theorem g_z_X5_ringCount_z_X8_needRings_176 : GoodIn w_z_X5_ringCount (wsV RX5 176 RX8 yX8_needRings w_z_X8_needRings) := goodIn_app (goodIn_r (([.methodLink RX5 176 yX8_needRings, .instanceMethod yX8_needRings, .selects RX8 yX8_needRings yX8_needRings, .initialized RX8] : List Cond)) [2, 3, 4, 5] rfl (by decide +kernel)) (goodIn_ca (goodIn_r (.code yX8_needRings cX8_needRings 4 none :: l_z_X8_needRings) [7, 8, 9, 10, 11, 12, 5, 13, 14, 15, 16, 17, 18, 19, 20, 21, 22, 23] rfl (by decide +kernel)) (goodIn_app (goodIn_in (in_z_X5_ringCount_X8) gd_X8) (goodIn_in (in_z_X5_ringCount_X5) gd_X5)))
set_option maxHeartbeats 4000000 in
set_option maxRecDepth 100000 in
theorem z_X5_ringCount (l : Launch) (dC : Nat → ClassId) (dI : Nat → Nat → Nat) (sz : Nat) (Ad0 : Nat) (Fs0 : List Value) (Ad1 : Nat) (Fs1 : List Value) (Ad2 : Nat) (Fa0 : Nat → Int32) (Ka0 : ClassId) (Ad3 : Nat) (Fa1 : Nat → Int32) (Ka1 : ClassId) (k_Fs0 : fh Fs0 21 [(0, .int 0), (20, .ref Ad1)]) (k_Fs1 : fh Fs1 18 [(1, .int 0), (13, .ref Ad2), (15, .ref Ad3), (9, .int 0)])  : Met l yX5_ringCount w_z_X5_ringCount ({ frames := 4, cells := 0, slots := 0, locals := 92 }) (va_Pc [.ref Ad0] (fun U => U.heap.size = sz ∧ Wd dC dI [(Ka0, .int), (Ka1, .int)] (fun _ => True) [(Ad0, .inr (8, Fs0)), (Ad1, .inr (11, Fs1)), (Ad2, .inl (Ka0, 400, .inl Fa0)), (Ad3, .inl (Ka1, 400, .inl Fa1))] U)) (va_Qi (fun (r : Int32) (u : List Value) => (r = 0 ∧ ow Fs1 (u) 18 [9, 1] [(9, .int 0), (13, .ref Ad2), (15, .ref Ad3), (1, .int 4), (13, .ref Ad2), (15, .ref Ad3), (13, .ref Ad2), (15, .ref Ad3)])) (fun (u : List Value) t => Wd dC dI [(Ka0, .int), (Ka1, .int)] (va_A [(Ad0, .inr (8, Fs0)), (Ad1, .inr (11, Fs1)), (Ad2, .inl (Ka0, 400, .inl Fa0)), (Ad3, .inl (Ka1, 400, .inl Fa1))] sz) [(Ad0, .inr (8, Fs0)), (Ad1, .inr (11, (u))), (Ad2, .inl (Ka0, 400, .inl Fa0)), (Ad3, .inl (Ka1, 400, .inl Fa1))] t) (va_A [(Ad0, .inr (8, Fs0)), (Ad1, .inr (11, Fs1)), (Ad2, .inl (Ka0, 400, .inl Fa0)), (Ad3, .inl (Ka1, 400, .inl Fa1))] sz))  0 0 (va_A [(Ad0, .inr (8, Fs0)), (Ad1, .inr (11, Fs1)), (Ad2, .inl (Ka0, 400, .inl Fa0)), (Ad3, .inl (Ka1, 400, .inl Fa1))] sz) := by
  refine Met.ofW (cc := cX5_ringCount) (maxL := 1) (ret := (some .int)) (by decide) rfl ?_
  intro p e s m args below meth c s₁ B hml hv
  obtain ⟨rfl, hsz, hP, hK, hD0⟩ := hv
  have hx := B.exec
  have hb := B.bytes
  have hr := B.returns
  have hts := atoms_spec (ws := w_z_X5_ringCount) B.pre
  have hown : s.vm.findClass RX5 = some m.cls := findClass_of_methodNamed B.named
  have hlocks := B.notSynchronized
  subst hsz
  have hD := hD0.self (sz := s.heap.size)
  generalize hAe : va_A [(Ad0, .inr (8, Fs0)), (Ad1, .inr (11, Fs1)), (Ad2, .inl (Ka0, 400, .inl Fa0)), (Ad3, .inl (Ka1, 400, .inl Fa1))] s.heap.size = A at hD ⊢
  have hA : ∀ q : Nat, s.heap.size ≤ q → A q := fun q h => by rw [← hAe]; exact Or.inr h
  have hS : va_S A s.heap s.heap [] := va_S.rf
  have hl := lv_entry ([.ref Ad0]) (n := 1) (Nat.le_of_ble_eq_true rfl)
  rw [lg_entry_eq]
  generalize (lg_sl ([.ref Ad0]) ++ List.replicate (1 - (lg_sl ([.ref Ad0])).length) Slot.unset).toArray = ls at hl ⊢
  have hl : lv_has ls 1 [(0, .ref Ad0)] := hl
  have o_Fs0 := ow_0 k_Fs0
  have o_Fs1 := ow_0 k_Fs1
  refine lv_aload_n hx hb dX5_ringCount_0 rfl (lv_at hl 0 rfl) ?_
  refine va_get (D := (dC, dI)) (ci := 8) (v := .ref Ad1) (C := RX5) (T := TX5) (N := 21) hx hb hts (in_z_X5_ringCount_X5) hown hK hP 0 rfl rfl 20 (by decide) (hts (.fieldLink RX5 78 "HeapWorks$Picture" "shape" "LHeapWorks$Shape;") (by decide +kernel)) (fun _ h9 => h9) (ow_at o_Fs0 1 rfl) dX5_ringCount_1 ?_
  refine lv_aload_n hx hb dX5_ringCount_4 rfl (lv_at hl 0 rfl) ?_
  have hPc := hP.sub (ws' := [(Ad0, .inr (8, Fs0)), (Ad1, .inr (11, Fs1)), (Ad2, .inl (Ka0, 400, .inl Fa0)), (Ad3, .inl (Ka1, 400, .inl Fa1))]) [0, 1, 2, 3] rfl
  have hDc := hD.sub (ws' := [(Ad0, .inr (8, Fs0)), (Ad1, .inr (11, Fs1)), (Ad2, .inl (Ka0, 400, .inl Fa0)), (Ad3, .inl (Ka1, 400, .inl Fa1))]) [0, 1, 2, 3] (by decide) rfl
  have hKc := hK.sub (tys' := [(Ka0, .int), (Ka1, .int)]) [0, 1] rfl
  have hFc := va_free (wc := [(Ad0, .inr (8, Fs0)), (Ad1, .inr (11, Fs1)), (Ad2, .inl (Ka0, 400, .inl Fa0)), (Ad3, .inl (Ka1, 400, .inl Fa1))]) hD hS hA [0, 1, 2, 3] rfl
  refine va_callv (va_runV (As := [.ref Ad0]) (rest := []) ⟨hx, hb, hml, hown, hts⟩ (z_X8_needRings l dC dI s.heap.size Ad0 Fs0 Ad1 Fs1 Ad2 Fa0 Ka0 Ad3 Fa1 Ka1 (fh_sub o_Fs0.2 [0] rfl) (fh_sub o_Fs1.2 [0, 1, 2] rfl) ) (cwV 1 hts g_z_X5_ringCount_z_X8_needRings_176 rfl rfl rfl (by decide +kernel) ⟨Nat.le_of_ble_eq_true rfl, Nat.le_of_ble_eq_true rfl⟩) ⟨fun a U g mk q => by obtain ⟨q0, q1, qP, qK, qD⟩ := q; exact ⟨q0, q1, qP, va_K.moved (u := U) (U := U.calling g mk a) (Vm.Alike.refl U.vm) qK, qD⟩, va_recv hK hP (ci := 11) (q0 := 1) rfl rfl, fun U hU hW => ⟨rfl, by rw [hU], by rw [hU]; exact hPc, va_K.moved hW.alike hKc, hDc.weaken (fun _ _ _ _ => trivial)⟩⟩ rfl rfl hl.1 rfl (lv_room (Nat.le_of_ble_eq_true rfl)) dX5_ringCount_5 ⟨Nat.le_of_ble_eq_true rfl, Nat.le_of_ble_eq_true rfl⟩) hS (fun q _ h => hFc q h) hFc (fun u t H1 locs ht hvm hw hB hz1 hk1 hS => ?_)
  obtain ⟨s101, rfl⟩ : ∃ z, z = u := ⟨_, rfl⟩
  obtain ⟨hP1, hK1, hD1⟩ := hB
  rw [ht] at hP1
  try dsimp only at hw
  obtain ⟨hP, hD⟩ := va_join (wr := []) (w1 := [(Ad0, .inr (8, Fs0)), (Ad1, .inr (11, s101)), (Ad2, .inl (Ka0, 400, .inl Fa0)), (Ad3, .inl (Ka1, 400, .inl Fa1))]) hP hD [0, 1, 2, 3] [] rfl rfl (by decide) (by decide) hk1 hFc hP1 hD1
  have hK := hK.sub (tys' := [(Ka0, .int), (Ka1, .int)]) [0, 1] rfl
  generalize H1 = H at hP hS ⊢
  have hP : va_P (dC, dI) vwCl [(Ad0, .inr (8, Fs0)), (Ad1, .inr (11, s101)), (Ad2, .inl (Ka0, 400, .inl Fa0)), (Ad3, .inl (Ka1, 400, .inl Fa1))] H := hP
  have hD : va_D A [(Ad0, .inr (8, Fs0)), (Ad1, .inr (11, s101)), (Ad2, .inl (Ka0, 400, .inl Fa0)), (Ad3, .inl (Ka1, 400, .inl Fa1))] := hD
  have o_s101 := hw
  have o_s101 := ow_on o_Fs1 o_s101 (l' := [(9, .int 0), (13, .ref Ad2), (15, .ref Ad3), (1, .int 4), (13, .ref Ad2), (15, .ref Ad3), (13, .ref Ad2), (15, .ref Ad3)]) (w' := [9, 1]) rfl rfl
  refine lv_aload_n hx hb dX5_ringCount_8 rfl (lv_at hl 0 rfl) ?_
  refine va_get (D := (dC, dI)) (ci := 8) (v := .ref Ad1) (C := RX5) (T := TX5) (N := 21) hx hb hts (in_z_X5_ringCount_X5) hown hK hP 0 rfl rfl 20 (by decide) (hts (.fieldLink RX5 78 "HeapWorks$Picture" "shape" "LHeapWorks$Shape;") (by decide +kernel)) (fun _ h9 => h9) (ow_at o_Fs0 1 rfl) dX5_ringCount_9 ?_
  refine va_get (D := (dC, dI)) (ci := 11) (v := .int 0) (C := RX8) (T := TX8) (N := 18) hx hb hts (in_z_X5_ringCount_X8) hown hK hP 1 rfl rfl 9 (by decide) (hts (.fieldLink RX5 182 "HeapWorks$Shape" "rings" "I") (by decide +kernel)) (fun _ h9 => h9) (ow_at o_s101 0 rfl) dX5_ringCount_12 ?_
  have hP9 := hP.sub (ws' := [(Ad0, .inr (8, Fs0)), (Ad1, .inr (11, s101)), (Ad2, .inl (Ka0, 400, .inl Fa0)), (Ad3, .inl (Ka1, 400, .inl Fa1))]) [0, 1, 2, 3] rfl
  have hD9 := hD.sub (ws' := [(Ad0, .inr (8, Fs0)), (Ad1, .inr (11, s101)), (Ad2, .inl (Ka0, 400, .inl Fa0)), (Ad3, .inl (Ka1, 400, .inl Fa1))]) [0, 1, 2, 3] (by decide) rfl
  have hK9 := hK.sub (tys' := [(Ka0, .int), (Ka1, .int)]) [0, 1] rfl
  exact W.iret (v := 0) hx hb hr (fun t ht hW => ⟨⟨0, s101, rfl, ⟨rfl, o_s101⟩, by rw [ht]; exact hP9, va_K.moved hW.alike hK9, hD9⟩, hS.F ht⟩) hS.2.2 dX5_ringCount_15

def l_z_X8_needTwins : List Cond := [.fieldLink RX8 60 "HeapWorks$Shape" "known" "I", .fieldLink RX8 57 "HeapWorks$Shape" "bucket" "[I", .methodLink RX8 149 yJ7_fill_53178, .static yJ7_fill_53178, .initialized RJ7, .fieldLink RX8 64 "HeapWorks$Picture" "things" "I", .fieldLink RX8 159 "HeapWorks$Shape" "twins" "I", .code yJ7_fill_53178 cJ7_fill_53178 4 none]
def w_z_X8_needTwins : List Cond := .code yX8_needTwins cX8_needTwins 6 none :: (l_z_X8_needTwins ++ ((wsX80 ++ wsX50)))
theorem in_z_X8_needTwins_X8 : ∀ w ∈ wsX80, w ∈ w_z_X8_needTwins := fun w h => List.mem_cons_of_mem _ (List.mem_append_right _ (List.mem_append_left _ h))
theorem in_z_X8_needTwins_X5 : ∀ w ∈ wsX50, w ∈ w_z_X8_needTwins := fun w h => List.mem_cons_of_mem _ (List.mem_append_right _ (List.mem_append_right _ (h)))
theorem g_z_X8_needTwins_z_J7_fill_53178_1_149 : GoodIn w_z_X8_needTwins (va_wsS RX8 149 yJ7_fill_53178 w_z_J7_fill_53178_1) := goodIn_app (goodIn_r (([.methodLink RX8 149 yJ7_fill_53178, .static yJ7_fill_53178, .initialized RJ7] : List Cond)) [3, 4, 5] rfl (by decide +kernel)) (goodIn_r (.code yJ7_fill_53178 cJ7_fill_53178 4 none :: l_z_J7_fill_53178_1) [8] rfl (by decide +kernel))
set_option maxHeartbeats 4000000 in
set_option maxRecDepth 100000 in
theorem z_X8_needTwins (l : Launch) (dC : Nat → ClassId) (dI : Nat → Nat → Nat) (sz : Nat) (Ad0 : Nat) (Fs0 : List Value) (Ad1 : Nat) (Fs1 : List Value) (Ad2 : Nat) (Fa0 : Nat → Int32) (Ka0 : ClassId) (k_Fs0 : fh Fs0 21 [(0, .int 0)]) (k_Fs1 : fh Fs1 18 [(1, .int 0), (17, .ref Ad2)])  : Met l yX8_needTwins w_z_X8_needTwins ({ frames := 1, cells := 0, slots := 0, locals := 23 }) (va_Pc [.ref Ad1, .ref Ad0] (fun U => U.heap.size = sz ∧ Wd dC dI [(Ka0, .int)] (fun _ => True) [(Ad0, .inr (8, Fs0)), (Ad1, .inr (11, Fs1)), (Ad2, .inl (Ka0, 512, .inl Fa0))] U)) (va_Qv (fun (u : List Value × (Nat → Int32)) => ow Fs1 (u.1) 18 [11, 1] [(11, .int 0), (1, .int 8), (17, .ref Ad2)]) (fun (u : List Value × (Nat → Int32)) t => Wd dC dI [(Ka0, .int)] (va_A [(Ad0, .inr (8, Fs0)), (Ad1, .inr (11, Fs1)), (Ad2, .inl (Ka0, 512, .inl Fa0))] sz) [(Ad0, .inr (8, Fs0)), (Ad1, .inr (11, (u.1))), (Ad2, .inl (Ka0, 512, .inl ((u.2))))] t) (va_A [(Ad0, .inr (8, Fs0)), (Ad1, .inr (11, Fs1)), (Ad2, .inl (Ka0, 512, .inl Fa0))] sz))  0 0 (va_A [(Ad0, .inr (8, Fs0)), (Ad1, .inr (11, Fs1)), (Ad2, .inl (Ka0, 512, .inl Fa0))] sz) := by
  refine Met.ofW (cc := cX8_needTwins) (maxL := 6) (ret := none) (by decide) rfl ?_
  intro p e s m args below meth c s₁ B hml hv
  obtain ⟨rfl, hsz, hP, hK, hD0⟩ := hv
  have hx := B.exec
  have hb := B.bytes
  have hr := B.returns
  have hts := atoms_spec (ws := w_z_X8_needTwins) B.pre
  have hown : s.vm.findClass RX8 = some m.cls := findClass_of_methodNamed B.named
  have hlocks := B.notSynchronized
  subst hsz
  have hD := hD0.self (sz := s.heap.size)
  generalize hAe : va_A [(Ad0, .inr (8, Fs0)), (Ad1, .inr (11, Fs1)), (Ad2, .inl (Ka0, 512, .inl Fa0))] s.heap.size = A at hD ⊢
  have hA : ∀ q : Nat, s.heap.size ≤ q → A q := fun q h => by rw [← hAe]; exact Or.inr h
  have hS : va_S A s.heap s.heap [] := va_S.rf
  have hl := lv_entry ([.ref Ad1, .ref Ad0]) (n := 6) (Nat.le_of_ble_eq_true rfl)
  rw [lg_entry_eq]
  generalize (lg_sl ([.ref Ad1, .ref Ad0]) ++ List.replicate (6 - (lg_sl ([.ref Ad1, .ref Ad0])).length) Slot.unset).toArray = ls at hl ⊢
  have hl : lv_has ls 6 [(0, .ref Ad1), (1, .ref Ad0)] := hl
  have o_Fs0 := ow_0 k_Fs0
  have o_Fs1 := ow_0 k_Fs1
  refine lv_aload_n hx hb dX8_needTwins_0 rfl (lv_at hl 0 rfl) ?_
  refine va_get (D := (dC, dI)) (ci := 11) (v := .int 0) (C := RX8) (T := TX8) (N := 18) hx hb hts (in_z_X8_needTwins_X8) hown hK hP 1 rfl rfl 1 (by decide) (hts (.fieldLink RX8 60 "HeapWorks$Shape" "known" "I") (by decide +kernel)) (fun _ h9 => h9) (ow_at o_Fs1 0 rfl) dX8_needTwins_1 ?_
  refine lv_bipush (v := 8) hx hb dX8_needTwins_4 (by decide) ?_
  refine lv_iand hx hb dX8_needTwins_6  ?_
  refine lv_topi (fun x101 ex101 => ?_)
  obtain rfl : x101 = 0 := ex101.trans (by decide)
  refine lv_if_eq (tgt := 11) hx hb dX8_needTwins_7 (by decide) (fun c102 => ?_) (fun c102 => absurd c102 (by decide))
  refine lv_aload_n hx hb dX8_needTwins_11 rfl (lv_at hl 0 rfl) ?_
  refine lv_dup hx hb dX8_needTwins_12 rfl ?_
  refine va_get (D := (dC, dI)) (ci := 11) (v := .int 0) (C := RX8) (T := TX8) (N := 18) hx hb hts (in_z_X8_needTwins_X8) hown hK hP 1 rfl rfl 1 (by decide) (hts (.fieldLink RX8 60 "HeapWorks$Shape" "known" "I") (by decide +kernel)) (fun _ h9 => h9) (ow_at o_Fs1 0 rfl) dX8_needTwins_13 ?_
  refine lv_bipush (v := 8) hx hb dX8_needTwins_16 (by decide) ?_
  refine lv_ior hx hb dX8_needTwins_18  ?_
  refine lv_topi (fun x103 ex103 => ?_)
  obtain rfl : x103 = 8 := ex103.trans (by decide)
  refine va_put (D := (dC, dI)) (ci := 11) (v := .int 8) (ty := .int) (C := RX8) (T := TX8) (N := 18) hx hb hts (in_z_X8_needTwins_X8) tyX8 tyX8_ok nmX8 hown hK hP hD hS 1 rfl rfl 1 (by decide) (hts (.fieldLink RX8 60 "HeapWorks$Shape" "known" "I") (by decide +kernel)) (fun _ h9 => h9) rfl (by decide +kernel) rfl rfl (by rw [o_Fs1.2.1]; decide) dX8_needTwins_19 (fun H locs hP hD hS => ?_)
  have hP : va_P (dC, dI) vwCl [(Ad0, .inr (8, Fs0)), (Ad1, .inr (11, (Fs1.set 1 (.int 8)))), (Ad2, .inl (Ka0, 512, .inl Fa0))] H := hP
  have hD : va_D A [(Ad0, .inr (8, Fs0)), (Ad1, .inr (11, (Fs1.set 1 (.int 8)))), (Ad2, .inl (Ka0, 512, .inl Fa0))] := hD
  have o_s104 := ow_set o_Fs1 1 (.int 8) (by decide) (l' := [(1, .int 8), (17, .ref Ad2)]) (w' := [1]) rfl rfl
  generalize (Fs1.set 1 (.int 8)) = s104 at hP hD o_s104
  refine lv_aload_n hx hb dX8_needTwins_22 rfl (lv_at hl 0 rfl) ?_
  refine va_get (D := (dC, dI)) (ci := 11) (v := .ref Ad2) (C := RX8) (T := TX8) (N := 18) hx hb hts (in_z_X8_needTwins_X8) hown hK hP 1 rfl rfl 17 (by decide) (hts (.fieldLink RX8 57 "HeapWorks$Shape" "bucket" "[I") (by decide +kernel)) (fun _ h9 => h9) (ow_at o_s104 1 rfl) dX8_needTwins_23 ?_
  refine lv_iconst (v := (-1)) hx hb dX8_needTwins_26 (by decide) ?_
  have hPc := hP.sub (ws' := [(Ad2, .inl (Ka0, 512, .inl Fa0))]) [2] rfl
  have hDc := hD.sub (ws' := [(Ad2, .inl (Ka0, 512, .inl Fa0))]) [2] (by decide) rfl
  have hKc := hK.sub (tys' := [(Ka0, .int)]) [0] rfl
  have hFc := va_free (wc := [(Ad2, .inl (Ka0, 512, .inl Fa0))]) hD hS hA [2] rfl
  refine va_callv (va_runS (As := [.ref Ad2, .int (-1)]) (rest := []) ⟨hx, hb, hml, hown, hts⟩ (z_J7_fill_53178_1 l dC dI H.size Ad2 Fa0 Ka0  ) (va_cwS 2 hts g_z_X8_needTwins_z_J7_fill_53178_1_149 rfl rfl rfl (by decide +kernel) ⟨Nat.le_of_ble_eq_true rfl, Nat.le_of_ble_eq_true rfl⟩) ⟨fun a U g mk q => by obtain ⟨q0, q1, qP, qK, qD⟩ := q; exact ⟨q0, q1, qP, va_K.moved (u := U) (U := U.calling g mk a) (Vm.Alike.refl U.vm) qK, qD⟩, fun U hU hW => ⟨rfl, by rw [hU], by rw [hU]; exact hPc, va_K.moved hW.alike hKc, hDc.weaken (fun _ _ _ _ => trivial)⟩⟩ rfl rfl hl.1 rfl (lv_room (Nat.le_of_ble_eq_true rfl)) dX8_needTwins_27 ⟨Nat.le_of_ble_eq_true rfl, Nat.le_of_ble_eq_true rfl⟩) hS (fun q _ h => hFc q h) hFc (fun u t H1 locs ht hvm hw hB hz1 hk1 hS => ?_)
  obtain ⟨f105, rfl⟩ : ∃ z, z = u := ⟨_, rfl⟩
  obtain ⟨hP1, hK1, hD1⟩ := hB
  rw [ht] at hP1
  try dsimp only at hw
  obtain ⟨hP, hD⟩ := va_join (wr := [(Ad0, .inr (8, Fs0)), (Ad1, .inr (11, s104))]) (w1 := [(Ad2, .inl (Ka0, 512, .inl f105))]) hP hD [2] [0, 1] rfl rfl (by decide) (by decide) hk1 hFc hP1 hD1
  have hK := hK.sub (tys' := [(Ka0, .int)]) [0] rfl
  generalize H1 = H at hP hS ⊢
  have hP : va_P (dC, dI) vwCl [(Ad0, .inr (8, Fs0)), (Ad1, .inr (11, s104)), (Ad2, .inl (Ka0, 512, .inl f105))] H := hP
  have hD : va_D A [(Ad0, .inr (8, Fs0)), (Ad1, .inr (11, s104)), (Ad2, .inl (Ka0, 512, .inl f105))] := hD
  refine lv_iconst (v := 0) hx hb dX8_needTwins_30 (by decide) ?_
  refine lv_istore_n (lv' := [(2, .int 0), (0, .ref Ad1), (1, .ref Ad0)]) hx hb dX8_needTwins_31 rfl hl (by decide) rfl (fun ls hl => ?_)
  refine lv_iload_n hx hb dX8_needTwins_32 rfl (lv_at hl 0 rfl) ?_
  refine lv_aload_n hx hb dX8_needTwins_33 rfl (lv_at hl 2 rfl) ?_
  refine va_get (D := (dC, dI)) (ci := 8) (v := .int 0) (C := RX5) (T := TX5) (N := 21) hx hb hts (in_z_X8_needTwins_X5) hown hK hP 0 rfl rfl 0 (by decide) (hts (.fieldLink RX8 64 "HeapWorks$Picture" "things" "I") (by decide +kernel)) (fun _ h9 => h9) (ow_at o_Fs0 0 rfl) dX8_needTwins_34 ?_
  refine lv_icmp_ge (tgt := 157) hx hb dX8_needTwins_37 (by decide) (fun c106 => ?_) (fun c106 => absurd c106 (by decide))
  refine lv_aload_n hx hb dX8_needTwins_157 rfl (lv_at hl 1 rfl) ?_
  refine lv_iconst (v := 0) hx hb dX8_needTwins_158 (by decide) ?_
  refine va_put (D := (dC, dI)) (ci := 11) (v := .int 0) (ty := .int) (C := RX8) (T := TX8) (N := 18) hx hb hts (in_z_X8_needTwins_X8) tyX8 tyX8_ok nmX8 hown hK hP hD hS 1 rfl rfl 11 (by decide) (hts (.fieldLink RX8 159 "HeapWorks$Shape" "twins" "I") (by decide +kernel)) (fun _ h9 => h9) rfl (by decide +kernel) rfl rfl (by rw [o_s104.2.1]; decide) dX8_needTwins_159 (fun H locs hP hD hS => ?_)
  have hP : va_P (dC, dI) vwCl [(Ad0, .inr (8, Fs0)), (Ad1, .inr (11, (s104.set 11 (.int 0)))), (Ad2, .inl (Ka0, 512, .inl f105))] H := hP
  have hD : va_D A [(Ad0, .inr (8, Fs0)), (Ad1, .inr (11, (s104.set 11 (.int 0)))), (Ad2, .inl (Ka0, 512, .inl f105))] := hD
  have o_s107 := ow_set o_s104 11 (.int 0) (by decide) (l' := [(11, .int 0), (1, .int 8), (17, .ref Ad2)]) (w' := [11, 1]) rfl rfl
  generalize (s104.set 11 (.int 0)) = s107 at hP hD o_s107
  refine lv_iconst (v := 0) hx hb dX8_needTwins_162 (by decide) ?_
  refine lv_istore_n (lv' := [(2, .int 0), (0, .ref Ad1), (1, .ref Ad0)]) hx hb dX8_needTwins_163 rfl hl (by decide) rfl (fun ls hl => ?_)
  refine lv_iload_n hx hb dX8_needTwins_164 rfl (lv_at hl 0 rfl) ?_
  refine lv_aload_n hx hb dX8_needTwins_165 rfl (lv_at hl 2 rfl) ?_
  refine va_get (D := (dC, dI)) (ci := 8) (v := .int 0) (C := RX5) (T := TX5) (N := 21) hx hb hts (in_z_X8_needTwins_X5) hown hK hP 0 rfl rfl 0 (by decide) (hts (.fieldLink RX8 64 "HeapWorks$Picture" "things" "I") (by decide +kernel)) (fun _ h9 => h9) (ow_at o_Fs0 0 rfl) dX8_needTwins_166 ?_
  refine lv_icmp_ge (tgt := 250) hx hb dX8_needTwins_169 (by decide) (fun c108 => ?_) (fun c108 => absurd c108 (by decide))
  have hP9 := hP.sub (ws' := [(Ad0, .inr (8, Fs0)), (Ad1, .inr (11, s107)), (Ad2, .inl (Ka0, 512, .inl f105))]) [0, 1, 2] rfl
  have hD9 := hD.sub (ws' := [(Ad0, .inr (8, Fs0)), (Ad1, .inr (11, s107)), (Ad2, .inl (Ka0, 512, .inl f105))]) [0, 1, 2] (by decide) rfl
  have hK9 := hK.sub (tys' := [(Ka0, .int)]) [0] rfl
  exact W.vret hx hb hr (fun t ht hW => ⟨⟨(s107, f105), rfl, o_s107, by rw [ht]; exact hP9, va_K.moved hW.alike hK9, hD9⟩, hS.F ht⟩) hS.2.2 dX8_needTwins_250

def l_z_X5_twinCount : List Cond := [.fieldLink RX5 78 "HeapWorks$Picture" "shape" "LHeapWorks$Shape;", .methodLink RX5 189 yX8_needTwins, .instanceMethod yX8_needTwins, .selects RX8 yX8_needTwins yX8_needTwins, .initialized RX8, .fieldLink RX5 195 "HeapWorks$Shape" "twins" "I", .code yX8_needTwins cX8_needTwins 6 none, .fieldLink RX8 60 "HeapWorks$Shape" "known" "I", .fieldLink RX8 57 "HeapWorks$Shape" "bucket" "[I", .methodLink RX8 149 yJ7_fill_53178, .static yJ7_fill_53178, .initialized RJ7, .fieldLink RX8 64 "HeapWorks$Picture" "things" "I", .fieldLink RX8 159 "HeapWorks$Shape" "twins" "I", .code yJ7_fill_53178 cJ7_fill_53178 4 none]
def w_z_X5_twinCount : List Cond := .code yX5_twinCount cX5_twinCount 1 (some .int) :: (l_z_X5_twinCount ++ ((wsX50 ++ wsX80)))
theorem in_z_X5_twinCount_X5 : ∀ w ∈ wsX50, w ∈ w_z_X5_twinCount := fun w h => List.mem_cons_of_mem _ (List.mem_append_right _ (List.mem_append_left _ h))
theorem in_z_X5_twinCount_X8 : ∀ w ∈ wsX80, w ∈ w_z_X5_twinCount := fun w h => List.mem_cons_of_mem _ (List.mem_append_right _ (List.mem_append_right _ (h)))
theorem g_z_X5_twinCount_z_X8_needTwins_189 : GoodIn w_z_X5_twinCount (wsV RX5 189 RX8 yX8_needTwins w_z_X8_needTwins) := goodIn_app (goodIn_r (([.methodLink RX5 189 yX8_needTwins, .instanceMethod yX8_needTwins, .selects RX8 yX8_needTwins yX8_needTwins, .initialized RX8] : List Cond)) [2, 3, 4, 5] rfl (by decide +kernel)) (goodIn_ca (goodIn_r (.code yX8_needTwins cX8_needTwins 6 none :: l_z_X8_needTwins) [7, 8, 9, 10, 11, 12, 13, 14, 15] rfl (by decide +kernel)) (goodIn_app (goodIn_in (in_z_X5_twinCount_X8) gd_X8) (goodIn_in (in_z_X5_twinCount_X5) gd_X5)))
set_option maxHeartbeats 4000000 in
set_option maxRecDepth 100000 in
theorem z_X5_twinCount (l : Launch) (dC : Nat → ClassId) (dI : Nat → Nat → Nat) (sz : Nat) (Ad0 : Nat) (Fs0 : List Value) (Ad1 : Nat) (Fs1 : List Value) (Ad2 : Nat) (Fa0 : Nat → Int32) (Ka0 : ClassId) (k_Fs0 : fh Fs0 21 [(0, .int 0), (20, .ref Ad1)]) (k_Fs1 : fh Fs1 18 [(1, .int 0), (17, .ref Ad2), (11, .int 0)])  : Met l yX5_twinCount w_z_X5_twinCount ({ frames := 2, cells := 0, slots := 0, locals := 48 }) (va_Pc [.ref Ad0] (fun U => U.heap.size = sz ∧ Wd dC dI [(Ka0, .int)] (fun _ => True) [(Ad0, .inr (8, Fs0)), (Ad1, .inr (11, Fs1)), (Ad2, .inl (Ka0, 512, .inl Fa0))] U)) (va_Qi (fun (r : Int32) (u : List Value × (Nat → Int32)) => (r = 0 ∧ ow Fs1 (u.1) 18 [11, 1] [(11, .int 0), (1, .int 8), (17, .ref Ad2), (17, .ref Ad2)])) (fun (u : List Value × (Nat → Int32)) t => Wd dC dI [(Ka0, .int)] (va_A [(Ad0, .inr (8, Fs0)), (Ad1, .inr (11, Fs1)), (Ad2, .inl (Ka0, 512, .inl Fa0))] sz) [(Ad0, .inr (8, Fs0)), (Ad1, .inr (11, (u.1))), (Ad2, .inl (Ka0, 512, .inl ((u.2))))] t) (va_A [(Ad0, .inr (8, Fs0)), (Ad1, .inr (11, Fs1)), (Ad2, .inl (Ka0, 512, .inl Fa0))] sz))  0 0 (va_A [(Ad0, .inr (8, Fs0)), (Ad1, .inr (11, Fs1)), (Ad2, .inl (Ka0, 512, .inl Fa0))] sz) := by
  refine Met.ofW (cc := cX5_twinCount) (maxL := 1) (ret := (some .int)) (by decide) rfl ?_
  intro p e s m args below meth c s₁ B hml hv
  obtain ⟨rfl, hsz, hP, hK, hD0⟩ := hv
  have hx := B.exec
  have hb := B.bytes
  have hr := B.returns
  have hts := atoms_spec (ws := w_z_X5_twinCount) B.pre
  have hown : s.vm.findClass RX5 = some m.cls := findClass_of_methodNamed B.named
  have hlocks := B.notSynchronized
  subst hsz
  have hD := hD0.self (sz := s.heap.size)
  generalize hAe : va_A [(Ad0, .inr (8, Fs0)), (Ad1, .inr (11, Fs1)), (Ad2, .inl (Ka0, 512, .inl Fa0))] s.heap.size = A at hD ⊢
  have hA : ∀ q : Nat, s.heap.size ≤ q → A q := fun q h => by rw [← hAe]; exact Or.inr h
  have hS : va_S A s.heap s.heap [] := va_S.rf
  have hl := lv_entry ([.ref Ad0]) (n := 1) (Nat.le_of_ble_eq_true rfl)
  rw [lg_entry_eq]
  generalize (lg_sl ([.ref Ad0]) ++ List.replicate (1 - (lg_sl ([.ref Ad0])).length) Slot.unset).toArray = ls at hl ⊢
  have hl : lv_has ls 1 [(0, .ref Ad0)] := hl
  have o_Fs0 := ow_0 k_Fs0
  have o_Fs1 := ow_0 k_Fs1
  refine lv_aload_n hx hb dX5_twinCount_0 rfl (lv_at hl 0 rfl) ?_
  refine va_get (D := (dC, dI)) (ci := 8) (v := .ref Ad1) (C := RX5) (T := TX5) (N := 21) hx hb hts (in_z_X5_twinCount_X5) hown hK hP 0 rfl rfl 20 (by decide) (hts (.fieldLink RX5 78 "HeapWorks$Picture" "shape" "LHeapWorks$Shape;") (by decide +kernel)) (fun _ h9 => h9) (ow_at o_Fs0 1 rfl) dX5_twinCount_1 ?_
  refine lv_aload_n hx hb dX5_twinCount_4 rfl (lv_at hl 0 rfl) ?_
  have hPc := hP.sub (ws' := [(Ad0, .inr (8, Fs0)), (Ad1, .inr (11, Fs1)), (Ad2, .inl (Ka0, 512, .inl Fa0))]) [0, 1, 2] rfl
  have hDc := hD.sub (ws' := [(Ad0, .inr (8, Fs0)), (Ad1, .inr (11, Fs1)), (Ad2, .inl (Ka0, 512, .inl Fa0))]) [0, 1, 2] (by decide) rfl
  have hKc := hK.sub (tys' := [(Ka0, .int)]) [0] rfl
  have hFc := va_free (wc := [(Ad0, .inr (8, Fs0)), (Ad1, .inr (11, Fs1)), (Ad2, .inl (Ka0, 512, .inl Fa0))]) hD hS hA [0, 1, 2] rfl
  refine va_callv (va_runV (As := [.ref Ad0]) (rest := []) ⟨hx, hb, hml, hown, hts⟩ (z_X8_needTwins l dC dI s.heap.size Ad0 Fs0 Ad1 Fs1 Ad2 Fa0 Ka0 (fh_sub o_Fs0.2 [0] rfl) (fh_sub o_Fs1.2 [0, 1] rfl) ) (cwV 1 hts g_z_X5_twinCount_z_X8_needTwins_189 rfl rfl rfl (by decide +kernel) ⟨Nat.le_of_ble_eq_true rfl, Nat.le_of_ble_eq_true rfl⟩) ⟨fun a U g mk q => by obtain ⟨q0, q1, qP, qK, qD⟩ := q; exact ⟨q0, q1, qP, va_K.moved (u := U) (U := U.calling g mk a) (Vm.Alike.refl U.vm) qK, qD⟩, va_recv hK hP (ci := 11) (q0 := 1) rfl rfl, fun U hU hW => ⟨rfl, by rw [hU], by rw [hU]; exact hPc, va_K.moved hW.alike hKc, hDc.weaken (fun _ _ _ _ => trivial)⟩⟩ rfl rfl hl.1 rfl (lv_room (Nat.le_of_ble_eq_true rfl)) dX5_twinCount_5 ⟨Nat.le_of_ble_eq_true rfl, Nat.le_of_ble_eq_true rfl⟩) hS (fun q _ h => hFc q h) hFc (fun u t H1 locs ht hvm hw hB hz1 hk1 hS => ?_)
  obtain ⟨s101, f102⟩ := u
  obtain ⟨hP1, hK1, hD1⟩ := hB
  rw [ht] at hP1
  try dsimp only at hw
  obtain ⟨hP, hD⟩ := va_join (wr := []) (w1 := [(Ad0, .inr (8, Fs0)), (Ad1, .inr (11, s101)), (Ad2, .inl (Ka0, 512, .inl f102))]) hP hD [0, 1, 2] [] rfl rfl (by decide) (by decide) hk1 hFc hP1 hD1
  have hK := hK.sub (tys' := [(Ka0, .int)]) [0] rfl
  generalize H1 = H at hP hS ⊢
  have hP : va_P (dC, dI) vwCl [(Ad0, .inr (8, Fs0)), (Ad1, .inr (11, s101)), (Ad2, .inl (Ka0, 512, .inl f102))] H := hP
  have hD : va_D A [(Ad0, .inr (8, Fs0)), (Ad1, .inr (11, s101)), (Ad2, .inl (Ka0, 512, .inl f102))] := hD
  have o_s101 := hw
  have o_s101 := ow_on o_Fs1 o_s101 (l' := [(11, .int 0), (1, .int 8), (17, .ref Ad2), (17, .ref Ad2)]) (w' := [11, 1]) rfl rfl
  refine lv_aload_n hx hb dX5_twinCount_8 rfl (lv_at hl 0 rfl) ?_
  refine va_get (D := (dC, dI)) (ci := 8) (v := .ref Ad1) (C := RX5) (T := TX5) (N := 21) hx hb hts (in_z_X5_twinCount_X5) hown hK hP 0 rfl rfl 20 (by decide) (hts (.fieldLink RX5 78 "HeapWorks$Picture" "shape" "LHeapWorks$Shape;") (by decide +kernel)) (fun _ h9 => h9) (ow_at o_Fs0 1 rfl) dX5_twinCount_9 ?_
  refine va_get (D := (dC, dI)) (ci := 11) (v := .int 0) (C := RX8) (T := TX8) (N := 18) hx hb hts (in_z_X5_twinCount_X8) hown hK hP 1 rfl rfl 11 (by decide) (hts (.fieldLink RX5 195 "HeapWorks$Shape" "twins" "I") (by decide +kernel)) (fun _ h9 => h9) (ow_at o_s101 0 rfl) dX5_twinCount_12 ?_
  have hP9 := hP.sub (ws' := [(Ad0, .inr (8, Fs0)), (Ad1, .inr (11, s101)), (Ad2, .inl (Ka0, 512, .inl f102))]) [0, 1, 2] rfl
  have hD9 := hD.sub (ws' := [(Ad0, .inr (8, Fs0)), (Ad1, .inr (11, s101)), (Ad2, .inl (Ka0, 512, .inl f102))]) [0, 1, 2] (by decide) rfl
  have hK9 := hK.sub (tys' := [(Ka0, .int)]) [0] rfl
  exact W.iret (v := 0) hx hb hr (fun t ht hW => ⟨⟨0, (s101, f102), rfl, ⟨rfl, o_s101⟩, by rw [ht]; exact hP9, va_K.moved hW.alike hK9, hD9⟩, hS.F ht⟩) hS.2.2 dX5_twinCount_15

def l_z_X5_allSizes : List Cond := [.fieldLink RX5 82 "HeapWorks$Picture" "things" "I"]
def w_z_X5_allSizes : List Cond := .code yX5_allSizes cX5_allSizes 4 (some .int) :: (l_z_X5_allSizes ++ (wsX50))
theorem in_z_X5_allSizes_X5 : ∀ w ∈ wsX50, w ∈ w_z_X5_allSizes := fun w h => List.mem_cons_of_mem _ (List.mem_append_right _ (h))
set_option maxHeartbeats 4000000 in
set_option maxRecDepth 100000 in
theorem z_X5_allSizes (l : Launch) (dC : Nat → ClassId) (dI : Nat → Nat → Nat) (sz : Nat) (Ad0 : Nat) (Fs0 : List Value) (Br0 : Nat) (k_Fs0 : fh Fs0 21 [(0, .int 0)])  : Met l yX5_allSizes w_z_X5_allSizes ({ frames := 0, cells := 0, slots := 0, locals := 0 }) (va_Pc [.ref Ad0, .ref Br0] (fun U => U.heap.size = sz ∧ Wd dC dI [] (fun _ => True) [(Ad0, .inr (8, Fs0))] U)) (va_Qi (fun (r : Int32) (u : Unit) => r = 0) (fun (u : Unit) t => Wd dC dI [] (va_A [(Ad0, .inr (8, Fs0))] sz) [(Ad0, .inr (8, Fs0))] t) (va_A [(Ad0, .inr (8, Fs0))] sz))  0 0 (va_A [(Ad0, .inr (8, Fs0))] sz) := by
  refine Met.ofW (cc := cX5_allSizes) (maxL := 4) (ret := (some .int)) (by decide) rfl ?_
  intro p e s m args below meth c s₁ B hml hv
  obtain ⟨rfl, hsz, hP, hK, hD0⟩ := hv
  have hx := B.exec
  have hb := B.bytes
  have hr := B.returns
  have hts := atoms_spec (ws := w_z_X5_allSizes) B.pre
  have hown : s.vm.findClass RX5 = some m.cls := findClass_of_methodNamed B.named
  have hlocks := B.notSynchronized
  subst hsz
  have hD := hD0.self (sz := s.heap.size)
  generalize hAe : va_A [(Ad0, .inr (8, Fs0))] s.heap.size = A at hD ⊢
  have hA : ∀ q : Nat, s.heap.size ≤ q → A q := fun q h => by rw [← hAe]; exact Or.inr h
  have hS : va_S A s.heap s.heap [] := va_S.rf
  have hl := lv_entry ([.ref Ad0, .ref Br0]) (n := 4) (Nat.le_of_ble_eq_true rfl)
  rw [lg_entry_eq]
  generalize (lg_sl ([.ref Ad0, .ref Br0]) ++ List.replicate (4 - (lg_sl ([.ref Ad0, .ref Br0])).length) Slot.unset).toArray = ls at hl ⊢
  have hl : lv_has ls 4 [(0, .ref Ad0), (1, .ref Br0)] := hl
  have o_Fs0 := ow_0 k_Fs0
  refine lv_iconst (v := 0) hx hb dX5_allSizes_0 (by decide) ?_
  refine lv_istore_n (lv' := [(2, .int 0), (0, .ref Ad0), (1, .ref Br0)]) hx hb dX5_allSizes_1 rfl hl (by decide) rfl (fun ls hl => ?_)
  refine lv_iconst (v := 0) hx hb dX5_allSizes_2 (by decide) ?_
  refine lv_istore_n (lv' := [(3, .int 0), (2, .int 0), (0, .ref Ad0), (1, .ref Br0)]) hx hb dX5_allSizes_3 rfl hl (by decide) rfl (fun ls hl => ?_)
  refine lv_iload_n hx hb dX5_allSizes_4 rfl (lv_at hl 0 rfl) ?_
  refine lv_aload_n hx hb dX5_allSizes_5 rfl (lv_at hl 2 rfl) ?_
  refine va_get (D := (dC, dI)) (ci := 8) (v := .int 0) (C := RX5) (T := TX5) (N := 21) hx hb hts (in_z_X5_allSizes_X5) hown hK hP 0 rfl rfl 0 (by decide) (hts (.fieldLink RX5 82 "HeapWorks$Picture" "things" "I") (by decide +kernel)) (fun _ h9 => h9) (ow_at o_Fs0 0 rfl) dX5_allSizes_6 ?_
  refine lv_icmp_ge (tgt := 37) hx hb dX5_allSizes_9 (by decide) (fun c101 => ?_) (fun c101 => absurd c101 (by decide))
  refine lv_iload_n hx hb dX5_allSizes_37 rfl (lv_at hl 1 rfl) ?_
  have hP9 := hP.sub (ws' := [(Ad0, .inr (8, Fs0))]) [0] rfl
  have hD9 := hD.sub (ws' := [(Ad0, .inr (8, Fs0))]) [0] (by decide) rfl
  have hK9 := hK.sub (tys' := []) [] rfl
  exact W.iret (v := 0) hx hb hr (fun t ht hW => ⟨⟨0, (), rfl, rfl, by rw [ht]; exact hP9, va_K.moved hW.alike hK9, hD9⟩, hS.F ht⟩) hS.2.2 dX5_allSizes_38

def l_z_X5_doubledSizes : List Cond := [.fieldLink RX5 78 "HeapWorks$Picture" "shape" "LHeapWorks$Shape;", .methodLink RX5 189 yX8_needTwins, .instanceMethod yX8_needTwins, .selects RX8 yX8_needTwins yX8_needTwins, .initialized RX8, .fieldLink RX5 82 "HeapWorks$Picture" "things" "I", .code yX8_needTwins cX8_needTwins 6 none, .fieldLink RX8 60 "HeapWorks$Shape" "known" "I", .fieldLink RX8 57 "HeapWorks$Shape" "bucket" "[I", .methodLink RX8 149 yJ7_fill_53178, .static yJ7_fill_53178, .initialized RJ7, .fieldLink RX8 64 "HeapWorks$Picture" "things" "I", .fieldLink RX8 159 "HeapWorks$Shape" "twins" "I", .code yJ7_fill_53178 cJ7_fill_53178 4 none]
def w_z_X5_doubledSizes : List Cond := .code yX5_doubledSizes cX5_doubledSizes 5 (some .int) :: (l_z_X5_doubledSizes ++ ((wsX50 ++ wsX80)))
theorem in_z_X5_doubledSizes_X5 : ∀ w ∈ wsX50, w ∈ w_z_X5_doubledSizes := fun w h => List.mem_cons_of_mem _ (List.mem_append_right _ (List.mem_append_left _ h))
theorem in_z_X5_doubledSizes_X8 : ∀ w ∈ wsX80, w ∈ w_z_X5_doubledSizes := fun w h => List.mem_cons_of_mem _ (List.mem_append_right _ (List.mem_append_right _ (h)))
theorem g_z_X5_doubledSizes_z_X8_needTwins_189 : GoodIn w_z_X5_doubledSizes (wsV RX5 189 RX8 yX8_needTwins w_z_X8_needTwins) := goodIn_app (goodIn_r (([.methodLink RX5 189 yX8_needTwins, .instanceMethod yX8_needTwins, .selects RX8 yX8_needTwins yX8_needTwins, .initialized RX8] : List Cond)) [2, 3, 4, 5] rfl (by decide +kernel)) (goodIn_ca (goodIn_r (.code yX8_needTwins cX8_needTwins 6 none :: l_z_X8_needTwins) [7, 8, 9, 10, 11, 12, 13, 14, 15] rfl (by decide +kernel)) (goodIn_app (goodIn_in (in_z_X5_doubledSizes_X8) gd_X8) (goodIn_in (in_z_X5_doubledSizes_X5) gd_X5)))
set_option maxHeartbeats 4000000 in
set_option maxRecDepth 100000 in
theorem z_X5_doubledSizes (l : Launch) (dC : Nat → ClassId) (dI : Nat → Nat → Nat) (sz : Nat) (Ad0 : Nat) (Fs0 : List Value) (Ad1 : Nat) (Fs1 : List Value) (Ad2 : Nat) (Fa0 : Nat → Int32) (Ka0 : ClassId) (Br0 : Nat) (k_Fs0 : fh Fs0 21 [(0, .int 0), (20, .ref Ad1)]) (k_Fs1 : fh Fs1 18 [(1, .int 0), (17, .ref Ad2)])  : Met l yX5_doubledSizes w_z_X5_doubledSizes ({ frames := 2, cells := 0, slots := 0, locals := 48 }) (va_Pc [.ref Ad0, .ref Br0] (fun U => U.heap.size = sz ∧ Wd dC dI [(Ka0, .int)] (fun _ => True) [(Ad0, .inr (8, Fs0)), (Ad1, .inr (11, Fs1)), (Ad2, .inl (Ka0, 512, .inl Fa0))] U)) (va_Qi (fun (r : Int32) (u : List Value × (Nat → Int32)) => (r = 0 ∧ ow Fs1 (u.1) 18 [11, 1] [(11, .int 0), (1, .int 8), (17, .ref Ad2), (17, .ref Ad2)])) (fun (u : List Value × (Nat → Int32)) t => Wd dC dI [(Ka0, .int)] (va_A [(Ad0, .inr (8, Fs0)), (Ad1, .inr (11, Fs1)), (Ad2, .inl (Ka0, 512, .inl Fa0))] sz) [(Ad0, .inr (8, Fs0)), (Ad1, .inr (11, (u.1))), (Ad2, .inl (Ka0, 512, .inl ((u.2))))] t) (va_A [(Ad0, .inr (8, Fs0)), (Ad1, .inr (11, Fs1)), (Ad2, .inl (Ka0, 512, .inl Fa0))] sz))  0 0 (va_A [(Ad0, .inr (8, Fs0)), (Ad1, .inr (11, Fs1)), (Ad2, .inl (Ka0, 512, .inl Fa0))] sz) := by
  refine Met.ofW (cc := cX5_doubledSizes) (maxL := 5) (ret := (some .int)) (by decide) rfl ?_
  intro p e s m args below meth c s₁ B hml hv
  obtain ⟨rfl, hsz, hP, hK, hD0⟩ := hv
  have hx := B.exec
  have hb := B.bytes
  have hr := B.returns
  have hts := atoms_spec (ws := w_z_X5_doubledSizes) B.pre
  have hown : s.vm.findClass RX5 = some m.cls := findClass_of_methodNamed B.named
  have hlocks := B.notSynchronized
  subst hsz
  have hD := hD0.self (sz := s.heap.size)
  generalize hAe : va_A [(Ad0, .inr (8, Fs0)), (Ad1, .inr (11, Fs1)), (Ad2, .inl (Ka0, 512, .inl Fa0))] s.heap.size = A at hD ⊢
  have hA : ∀ q : Nat, s.heap.size ≤ q → A q := fun q h => by rw [← hAe]; exact Or.inr h
  have hS : va_S A s.heap s.heap [] := va_S.rf
  have hl := lv_entry ([.ref Ad0, .ref Br0]) (n := 5) (Nat.le_of_ble_eq_true rfl)
  rw [lg_entry_eq]
  generalize (lg_sl ([.ref Ad0, .ref Br0]) ++ List.replicate (5 - (lg_sl ([.ref Ad0, .ref Br0])).length) Slot.unset).toArray = ls at hl ⊢
  have hl : lv_has ls 5 [(0, .ref Ad0), (1, .ref Br0)] := hl
  have o_Fs0 := ow_0 k_Fs0
  have o_Fs1 := ow_0 k_Fs1
  refine lv_aload_n hx hb dX5_doubledSizes_0 rfl (lv_at hl 0 rfl) ?_
  refine va_get (D := (dC, dI)) (ci := 8) (v := .ref Ad1) (C := RX5) (T := TX5) (N := 21) hx hb hts (in_z_X5_doubledSizes_X5) hown hK hP 0 rfl rfl 20 (by decide) (hts (.fieldLink RX5 78 "HeapWorks$Picture" "shape" "LHeapWorks$Shape;") (by decide +kernel)) (fun _ h9 => h9) (ow_at o_Fs0 1 rfl) dX5_doubledSizes_1 ?_
  refine lv_aload_n hx hb dX5_doubledSizes_4 rfl (lv_at hl 0 rfl) ?_
  have hPc := hP.sub (ws' := [(Ad0, .inr (8, Fs0)), (Ad1, .inr (11, Fs1)), (Ad2, .inl (Ka0, 512, .inl Fa0))]) [0, 1, 2] rfl
  have hDc := hD.sub (ws' := [(Ad0, .inr (8, Fs0)), (Ad1, .inr (11, Fs1)), (Ad2, .inl (Ka0, 512, .inl Fa0))]) [0, 1, 2] (by decide) rfl
  have hKc := hK.sub (tys' := [(Ka0, .int)]) [0] rfl
  have hFc := va_free (wc := [(Ad0, .inr (8, Fs0)), (Ad1, .inr (11, Fs1)), (Ad2, .inl (Ka0, 512, .inl Fa0))]) hD hS hA [0, 1, 2] rfl
  refine va_callv (va_runV (As := [.ref Ad0]) (rest := []) ⟨hx, hb, hml, hown, hts⟩ (z_X8_needTwins l dC dI s.heap.size Ad0 Fs0 Ad1 Fs1 Ad2 Fa0 Ka0 (fh_sub o_Fs0.2 [0] rfl) (fh_sub o_Fs1.2 [0, 1] rfl) ) (cwV 1 hts g_z_X5_doubledSizes_z_X8_needTwins_189 rfl rfl rfl (by decide +kernel) ⟨Nat.le_of_ble_eq_true rfl, Nat.le_of_ble_eq_true rfl⟩) ⟨fun a U g mk q => by obtain ⟨q0, q1, qP, qK, qD⟩ := q; exact ⟨q0, q1, qP, va_K.moved (u := U) (U := U.calling g mk a) (Vm.Alike.refl U.vm) qK, qD⟩, va_recv hK hP (ci := 11) (q0 := 1) rfl rfl, fun U hU hW => ⟨rfl, by rw [hU], by rw [hU]; exact hPc, va_K.moved hW.alike hKc, hDc.weaken (fun _ _ _ _ => trivial)⟩⟩ rfl rfl hl.1 rfl (lv_room (Nat.le_of_ble_eq_true rfl)) dX5_doubledSizes_5 ⟨Nat.le_of_ble_eq_true rfl, Nat.le_of_ble_eq_true rfl⟩) hS (fun q _ h => hFc q h) hFc (fun u t H1 locs ht hvm hw hB hz1 hk1 hS => ?_)
  obtain ⟨s101, f102⟩ := u
  obtain ⟨hP1, hK1, hD1⟩ := hB
  rw [ht] at hP1
  try dsimp only at hw
  obtain ⟨hP, hD⟩ := va_join (wr := []) (w1 := [(Ad0, .inr (8, Fs0)), (Ad1, .inr (11, s101)), (Ad2, .inl (Ka0, 512, .inl f102))]) hP hD [0, 1, 2] [] rfl rfl (by decide) (by decide) hk1 hFc hP1 hD1
  have hK := hK.sub (tys' := [(Ka0, .int)]) [0] rfl
  generalize H1 = H at hP hS ⊢
  have hP : va_P (dC, dI) vwCl [(Ad0, .inr (8, Fs0)), (Ad1, .inr (11, s101)), (Ad2, .inl (Ka0, 512, .inl f102))] H := hP
  have hD : va_D A [(Ad0, .inr (8, Fs0)), (Ad1, .inr (11, s101)), (Ad2, .inl (Ka0, 512, .inl f102))] := hD
  have o_s101 := hw
  have o_s101 := ow_on o_Fs1 o_s101 (l' := [(11, .int 0), (1, .int 8), (17, .ref Ad2), (17, .ref Ad2)]) (w' := [11, 1]) rfl rfl
  refine lv_iconst (v := 0) hx hb dX5_doubledSizes_8 (by decide) ?_
  refine lv_istore_n (lv' := [(2, .int 0), (0, .ref Ad0), (1, .ref Br0)]) hx hb dX5_doubledSizes_9 rfl hl (by decide) rfl (fun ls hl => ?_)
  refine lv_iconst (v := 0) hx hb dX5_doubledSizes_10 (by decide) ?_
  refine lv_istore_n (lv' := [(3, .int 0), (2, .int 0), (0, .ref Ad0), (1, .ref Br0)]) hx hb dX5_doubledSizes_11 rfl hl (by decide) rfl (fun ls hl => ?_)
  refine lv_iconst (v := 0) hx hb dX5_doubledSizes_12 (by decide) ?_
  refine lv_istore (lv' := [(4, .int 0), (3, .int 0), (2, .int 0), (0, .ref Ad0), (1, .ref Br0)]) hx hb dX5_doubledSizes_13 hl (by decide) rfl (fun ls hl => ?_)
  refine lv_iload hx hb dX5_doubledSizes_15 (lv_at hl 0 rfl) ?_
  refine lv_aload_n hx hb dX5_doubledSizes_17 rfl (lv_at hl 3 rfl) ?_
  refine va_get (D := (dC, dI)) (ci := 8) (v := .int 0) (C := RX5) (T := TX5) (N := 21) hx hb hts (in_z_X5_doubledSizes_X5) hown hK hP 0 rfl rfl 0 (by decide) (hts (.fieldLink RX5 82 "HeapWorks$Picture" "things" "I") (by decide +kernel)) (fun _ h9 => h9) (ow_at o_Fs0 0 rfl) dX5_doubledSizes_18 ?_
  refine lv_icmp_ge (tgt := 85) hx hb dX5_doubledSizes_21 (by decide) (fun c103 => ?_) (fun c103 => absurd c103 (by decide))
  refine lv_iload_n hx hb dX5_doubledSizes_85 rfl (lv_at hl 2 rfl) ?_
  have hP9 := hP.sub (ws' := [(Ad0, .inr (8, Fs0)), (Ad1, .inr (11, s101)), (Ad2, .inl (Ka0, 512, .inl f102))]) [0, 1, 2] rfl
  have hD9 := hD.sub (ws' := [(Ad0, .inr (8, Fs0)), (Ad1, .inr (11, s101)), (Ad2, .inl (Ka0, 512, .inl f102))]) [0, 1, 2] (by decide) rfl
  have hK9 := hK.sub (tys' := [(Ka0, .int)]) [0] rfl
  exact W.iret (v := 0) hx hb hr (fun t ht hW => ⟨⟨0, (s101, f102), rfl, ⟨rfl, o_s101⟩, by rw [ht]; exact hP9, va_K.moved hW.alike hK9, hD9⟩, hS.F ht⟩) hS.2.2 dX5_doubledSizes_86

