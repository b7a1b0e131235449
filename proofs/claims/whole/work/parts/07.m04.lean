def l_z_X12_readSum : List Cond := [.methodLink RX12 714 yX12_readProduct, .instanceMethod yX12_readProduct, .selects RX12 yX12_readProduct yX12_readProduct, .initialized RX12, .fieldLink RX12 625 "HeapWorksModel" "stop" "I", .code yX12_readProduct cX12_readProduct 3 (some .int), .methodLink RX12 721 yX12_readTurned, .instanceMethod yX12_readTurned, .selects RX12 yX12_readTurned yX12_readTurned, .code yX12_readTurned cX12_readTurned 2 (some .int), .constantLong RX12 719 (45), .methodLink RX12 657 yX12_isSign, .instanceMethod yX12_isSign, .selects RX12 yX12_isSign yX12_isSign, .methodLink RX12 730 yX12_readP, .instanceMethod yX12_readP, .selects RX12 yX12_readP yX12_readP, .code yX12_isSign cX12_isSign 3 (some .boolean), .fieldLink RX12 644 "HeapWorksModel" "kind" "I", .code yX12_readP cX12_readP 4 (some .int), .methodLink RX12 733 yX12_readAtom, .instanceMethod yX12_readAtom, .selects RX12 yX12_readAtom yX12_readAtom, .code yX12_readAtom cX12_readAtom 5 (some .int), .methodLink RX12 751 yX12_keyAtHand, .instanceMethod yX12_keyAtHand, .selects RX12 yX12_keyAtHand yX12_keyAtHand, .constantLong RX12 754 (40), .methodLink RX12 710 yX12_isName, .instanceMethod yX12_isName, .selects RX12 yX12_isName yX12_isName, .methodLink RX12 664 yX12_wrong, .instanceMethod yX12_wrong, .selects RX12 yX12_wrong yX12_wrong, .fieldLink RX12 673 "HeapWorksModel" "nodeBase" "I", .code yX12_keyAtHand cX12_keyAtHand 1 (some .int), .code yX12_isName cX12_isName 1 (some .boolean), .code yX12_wrong cX12_wrong 1 none, .fieldLink RX12 637 "HeapWorksModel" "from0" "I", .methodLink RX12 653 yX12_fail, .instanceMethod yX12_fail, .selects RX12 yX12_fail yX12_fail, .code yX12_fail cX12_fail 3 none, .fieldLink RX12 628 "HeapWorksModel" "stopAt" "I"]
def w_z_X12_readSum : List Cond := .code yX12_readSum cX12_readSum 3 (some .int) :: (l_z_X12_readSum ++ (wsX120))
theorem in_z_X12_readSum_X12 : ∀ w ∈ wsX120, w ∈ w_z_X12_readSum := fun w h => List.mem_cons_of_mem _ (List.mem_append_right _ (h))
theorem g_z_X12_readSum_z_X12_readProduct_714 : GoodIn w_z_X12_readSum (wsV RX12 714 RX12 yX12_readProduct w_z_X12_readProduct) := goodIn_app (goodIn_sub (by decide +kernel) (by decide +kernel)) (goodIn_ca (goodIn_sub (by decide +kernel) (by decide +kernel)) (goodIn_in in_z_X12_readSum_X12 gd_X12))
set_option maxHeartbeats 4000000 in
set_option maxRecDepth 100000 in
theorem z_X12_readSum (l : Launch) (dC : Nat → ClassId) (dI : Nat → Nat → Nat) (sz : Nat) (Ad0 : Nat) (Fs0 : List Value) (k_Fs0 : fh Fs0 150 [(80, .int 0), (79, .int 0), (83, .int 0), (91, .int 120)])  : Met l yX12_readSum w_z_X12_readSum ({ frames := 6, cells := 0, slots := 0, locals := 132 }) (va_Pc [.ref Ad0] (fun U => U.heap.size = sz ∧ Wd dC dI [] (fun _ => True) [(Ad0, .inr (15, Fs0))] U)) (va_Qi (fun (r : Int32) (u : List Value) => (r = 120 ∧ ow Fs0 (u) 150 [84, 83] [(84, .int 0), (83, .int 1), (80, .int 0), (79, .int 0), (80, .int 0), (79, .int 0), (91, .int 120), (80, .int 0), (79, .int 0), (91, .int 120), (80, .int 0), (79, .int 0), (91, .int 120), (80, .int 0), (79, .int 0), (91, .int 120), (80, .int 0), (79, .int 0), (91, .int 120)])) (fun (u : List Value) t => Wd dC dI [] (va_A [(Ad0, .inr (15, Fs0))] sz) [(Ad0, .inr (15, (u)))] t) (va_A [(Ad0, .inr (15, Fs0))] sz))  0 0 (va_A [(Ad0, .inr (15, Fs0))] sz) := by
  refine Met.ofW (cc := cX12_readSum) (maxL := 3) (ret := (some .int)) (by decide) rfl ?_
  intro p e s m args below meth c s₁ B hml hv
  obtain ⟨rfl, hsz, hP, hK, hD0⟩ := hv
  have hx := B.exec
  have hb := B.bytes
  have hr := B.returns
  have hts := atoms_spec (ws := w_z_X12_readSum) B.pre
  have hown : s.vm.findClass RX12 = some m.cls := findClass_of_methodNamed B.named
  have hlocks := B.notSynchronized
  subst hsz
  have hD := hD0.self (sz := s.heap.size)
  generalize hAe : va_A [(Ad0, .inr (15, Fs0))] s.heap.size = A at hD ⊢
  have hA : ∀ q : Nat, s.heap.size ≤ q → A q := fun q h => by rw [← hAe]; exact Or.inr h
  have hS : va_S A s.heap s.heap [] := va_S.rf
  have hl := lv_entry ([.ref Ad0]) (n := 3) (Nat.le_of_ble_eq_true rfl)
  rw [lg_entry_eq]
  generalize (lg_sl ([.ref Ad0]) ++ List.replicate (3 - (lg_sl ([.ref Ad0])).length) Slot.unset).toArray = ls at hl ⊢
  have hl : lv_has ls 3 [(0, .ref Ad0)] := hl
  have o_Fs0 := ow_0 k_Fs0
  refine lv_aload_n hx hb dX12_readSum_0 rfl (lv_at hl 0 rfl) ?_
  have hPc := hP.sub (ws' := [(Ad0, .inr (15, Fs0))]) [0] rfl
  have hDc := hD.sub (ws' := [(Ad0, .inr (15, Fs0))]) [0] (by decide) rfl
  have hKc := hK.sub (tys' := []) [] rfl
  have hFc := va_free (wc := [(Ad0, .inr (15, Fs0))]) hD hS hA [0] rfl
  refine va_calli (va_runV (As := []) (rest := []) ⟨hx, hb, hml, hown, hts⟩ (z_X12_readProduct l dC dI s.heap.size Ad0 Fs0 (fh_sub o_Fs0.2 [0, 1, 2, 3] rfl) ) (cwV 0 hts g_z_X12_readSum_z_X12_readProduct_714 rfl rfl rfl (by decide +kernel) ⟨Nat.le_of_ble_eq_true rfl, Nat.le_of_ble_eq_true rfl⟩) ⟨fun a U g mk q => by obtain ⟨q0, q1, qP, qK, qD⟩ := q; exact ⟨q0, q1, qP, va_K.moved (u := U) (U := U.calling g mk a) (Vm.Alike.refl U.vm) qK, qD⟩, va_recv hK hP (ci := 15) (q0 := 0) rfl rfl, fun U hU hW => ⟨rfl, by rw [hU], by rw [hU]; exact hPc, va_K.moved hW.alike hKc, hDc.weaken (fun _ _ _ _ => trivial)⟩⟩ rfl rfl hl.1 rfl (lv_room (Nat.le_of_ble_eq_true rfl)) dX12_readSum_1 ⟨Nat.le_of_ble_eq_true rfl, Nat.le_of_ble_eq_true rfl⟩) hS (fun q _ h => hFc q h) hFc (fun r3109 u t H1 locs ht hvm hw hB hz1 hk1 hS => ?_)
  obtain ⟨s3110, rfl⟩ : ∃ z, z = u := ⟨_, rfl⟩
  obtain ⟨hP1, hK1, hD1⟩ := hB
  rw [ht] at hP1
  try dsimp only at hw
  obtain ⟨hP, hD⟩ := va_join (wr := []) (w1 := [(Ad0, .inr (15, s3110))]) hP hD [0] [] rfl rfl (by decide) (by decide) hk1 hFc hP1 hD1
  have hK := hK.sub (tys' := []) [] rfl
  generalize H1 = H at hP hS ⊢
  have hP : va_P (dC, dI) vwCl [(Ad0, .inr (15, s3110))] H := hP
  have hD : va_D A [(Ad0, .inr (15, s3110))] := hD
  obtain ⟨er3111, o_s3110⟩ := hw
  subst er3111
  have o_s3110 := ow_on o_Fs0 o_s3110 (l' := [(84, .int 0), (83, .int 1), (80, .int 0), (79, .int 0), (80, .int 0), (79, .int 0), (91, .int 120), (80, .int 0), (79, .int 0), (91, .int 120), (80, .int 0), (79, .int 0), (91, .int 120), (80, .int 0), (79, .int 0), (91, .int 120), (80, .int 0), (79, .int 0), (91, .int 120)]) (w' := [84, 83]) rfl rfl
  refine lv_istore_n (lv' := [(1, .int 120), (0, .ref Ad0)]) hx hb dX12_readSum_4 rfl hl (by decide) rfl (fun ls hl => ?_)
  refine lv_aload_n hx hb dX12_readSum_5 rfl (lv_at hl 1 rfl) ?_
  refine va_get (D := (dC, dI)) (ci := 15) (v := .int 1) (C := RX12) (T := TX12) (N := 150) hx hb hts (in_z_X12_readSum_X12) hown hK hP 0 rfl rfl 83 (by decide) (hts (.fieldLink RX12 625 "HeapWorksModel" "stop" "I") (by decide +kernel)) (fun _ h9 => h9) (ow_at o_s3110 1 rfl) dX12_readSum_6 ?_
  refine lv_if_ne (tgt := 80) hx hb dX12_readSum_9 (by decide) (fun c3112 => ?_) (fun c3112 => absurd c3112 (by decide))
  refine lv_iload_n hx hb dX12_readSum_80 rfl (lv_at hl 0 rfl) ?_
  have hP9 := hP.sub (ws' := [(Ad0, .inr (15, s3110))]) [0] rfl
  have hD9 := hD.sub (ws' := [(Ad0, .inr (15, s3110))]) [0] (by decide) rfl
  have hK9 := hK.sub (tys' := []) [] rfl
  exact W.iret (v := 120) hx hb hr (fun t ht hW => ⟨⟨120, s3110, rfl, ⟨rfl, o_s3110⟩, by rw [ht]; exact hP9, va_K.moved hW.alike hK9, hD9⟩, hS.F ht⟩) hS.2.2 dX12_readSum_81

def l_z_X12_readCompared : List Cond := [.methodLink RX12 704 yX12_readSum, .instanceMethod yX12_readSum, .selects RX12 yX12_readSum yX12_readSum, .initialized RX12, .fieldLink RX12 625 "HeapWorksModel" "stop" "I", .code yX12_readSum cX12_readSum 3 (some .int), .methodLink RX12 714 yX12_readProduct, .instanceMethod yX12_readProduct, .selects RX12 yX12_readProduct yX12_readProduct, .code yX12_readProduct cX12_readProduct 3 (some .int), .methodLink RX12 721 yX12_readTurned, .instanceMethod yX12_readTurned, .selects RX12 yX12_readTurned yX12_readTurned, .code yX12_readTurned cX12_readTurned 2 (some .int), .constantLong RX12 719 (45), .methodLink RX12 657 yX12_isSign, .instanceMethod yX12_isSign, .selects RX12 yX12_isSign yX12_isSign, .methodLink RX12 730 yX12_readP, .instanceMethod yX12_readP, .selects RX12 yX12_readP yX12_readP, .code yX12_isSign cX12_isSign 3 (some .boolean), .fieldLink RX12 644 "HeapWorksModel" "kind" "I", .code yX12_readP cX12_readP 4 (some .int), .methodLink RX12 733 yX12_readAtom, .instanceMethod yX12_readAtom, .selects RX12 yX12_readAtom yX12_readAtom, .code yX12_readAtom cX12_readAtom 5 (some .int), .methodLink RX12 751 yX12_keyAtHand, .instanceMethod yX12_keyAtHand, .selects RX12 yX12_keyAtHand yX12_keyAtHand, .constantLong RX12 754 (40), .methodLink RX12 710 yX12_isName, .instanceMethod yX12_isName, .selects RX12 yX12_isName yX12_isName, .methodLink RX12 664 yX12_wrong, .instanceMethod yX12_wrong, .selects RX12 yX12_wrong yX12_wrong, .fieldLink RX12 673 "HeapWorksModel" "nodeBase" "I", .code yX12_keyAtHand cX12_keyAtHand 1 (some .int), .code yX12_isName cX12_isName 1 (some .boolean), .code yX12_wrong cX12_wrong 1 none, .fieldLink RX12 637 "HeapWorksModel" "from0" "I", .methodLink RX12 653 yX12_fail, .instanceMethod yX12_fail, .selects RX12 yX12_fail yX12_fail, .code yX12_fail cX12_fail 3 none, .fieldLink RX12 628 "HeapWorksModel" "stopAt" "I"]
def w_z_X12_readCompared : List Cond := .code yX12_readCompared cX12_readCompared 4 (some .int) :: (l_z_X12_readCompared ++ (wsX120))
theorem in_z_X12_readCompared_X12 : ∀ w ∈ wsX120, w ∈ w_z_X12_readCompared := fun w h => List.mem_cons_of_mem _ (List.mem_append_right _ (h))
theorem g_z_X12_readCompared_z_X12_readSum_704 : GoodIn w_z_X12_readCompared (wsV RX12 704 RX12 yX12_readSum w_z_X12_readSum) := goodIn_app (goodIn_sub (by decide +kernel) (by decide +kernel)) (goodIn_ca (goodIn_sub (by decide +kernel) (by decide +kernel)) (goodIn_in in_z_X12_readCompared_X12 gd_X12))
set_option maxHeartbeats 4000000 in
set_option maxRecDepth 100000 in
theorem z_X12_readCompared (l : Launch) (dC : Nat → ClassId) (dI : Nat → Nat → Nat) (sz : Nat) (Ad0 : Nat) (Fs0 : List Value) (k_Fs0 : fh Fs0 150 [(80, .int 0), (79, .int 0), (83, .int 0), (91, .int 120)])  : Met l yX12_readCompared w_z_X12_readCompared ({ frames := 7, cells := 0, slots := 0, locals := 154 }) (va_Pc [.ref Ad0] (fun U => U.heap.size = sz ∧ Wd dC dI [] (fun _ => True) [(Ad0, .inr (15, Fs0))] U)) (va_Qi (fun (r : Int32) (u : List Value) => (r = 120 ∧ ow Fs0 (u) 150 [84, 83] [(84, .int 0), (83, .int 1), (80, .int 0), (79, .int 0), (80, .int 0), (79, .int 0), (91, .int 120), (80, .int 0), (79, .int 0), (91, .int 120), (80, .int 0), (79, .int 0), (91, .int 120), (80, .int 0), (79, .int 0), (91, .int 120), (80, .int 0), (79, .int 0), (91, .int 120), (80, .int 0), (79, .int 0), (91, .int 120)])) (fun (u : List Value) t => Wd dC dI [] (va_A [(Ad0, .inr (15, Fs0))] sz) [(Ad0, .inr (15, (u)))] t) (va_A [(Ad0, .inr (15, Fs0))] sz))  0 0 (va_A [(Ad0, .inr (15, Fs0))] sz) := by
  refine Met.ofW (cc := cX12_readCompared) (maxL := 4) (ret := (some .int)) (by decide) rfl ?_
  intro p e s m args below meth c s₁ B hml hv
  obtain ⟨rfl, hsz, hP, hK, hD0⟩ := hv
  have hx := B.exec
  have hb := B.bytes
  have hr := B.returns
  have hts := atoms_spec (ws := w_z_X12_readCompared) B.pre
  have hown : s.vm.findClass RX12 = some m.cls := findClass_of_methodNamed B.named
  have hlocks := B.notSynchronized
  subst hsz
  have hD := hD0.self (sz := s.heap.size)
  generalize hAe : va_A [(Ad0, .inr (15, Fs0))] s.heap.size = A at hD ⊢
  have hA : ∀ q : Nat, s.heap.size ≤ q → A q := fun q h => by rw [← hAe]; exact Or.inr h
  have hS : va_S A s.heap s.heap [] := va_S.rf
  have hl := lv_entry ([.ref Ad0]) (n := 4) (Nat.le_of_ble_eq_true rfl)
  rw [lg_entry_eq]
  generalize (lg_sl ([.ref Ad0]) ++ List.replicate (4 - (lg_sl ([.ref Ad0])).length) Slot.unset).toArray = ls at hl ⊢
  have hl : lv_has ls 4 [(0, .ref Ad0)] := hl
  have o_Fs0 := ow_0 k_Fs0
  refine lv_aload_n hx hb dX12_readCompared_0 rfl (lv_at hl 0 rfl) ?_
  have hPc := hP.sub (ws' := [(Ad0, .inr (15, Fs0))]) [0] rfl
  have hDc := hD.sub (ws' := [(Ad0, .inr (15, Fs0))]) [0] (by decide) rfl
  have hKc := hK.sub (tys' := []) [] rfl
  have hFc := va_free (wc := [(Ad0, .inr (15, Fs0))]) hD hS hA [0] rfl
  refine va_calli (va_runV (As := []) (rest := []) ⟨hx, hb, hml, hown, hts⟩ (z_X12_readSum l dC dI s.heap.size Ad0 Fs0 (fh_sub o_Fs0.2 [0, 1, 2, 3] rfl) ) (cwV 0 hts g_z_X12_readCompared_z_X12_readSum_704 rfl rfl rfl (by decide +kernel) ⟨Nat.le_of_ble_eq_true rfl, Nat.le_of_ble_eq_true rfl⟩) ⟨fun a U g mk q => by obtain ⟨q0, q1, qP, qK, qD⟩ := q; exact ⟨q0, q1, qP, va_K.moved (u := U) (U := U.calling g mk a) (Vm.Alike.refl U.vm) qK, qD⟩, va_recv hK hP (ci := 15) (q0 := 0) rfl rfl, fun U hU hW => ⟨rfl, by rw [hU], by rw [hU]; exact hPc, va_K.moved hW.alike hKc, hDc.weaken (fun _ _ _ _ => trivial)⟩⟩ rfl rfl hl.1 rfl (lv_room (Nat.le_of_ble_eq_true rfl)) dX12_readCompared_1 ⟨Nat.le_of_ble_eq_true rfl, Nat.le_of_ble_eq_true rfl⟩) hS (fun q _ h => hFc q h) hFc (fun r3164 u t H1 locs ht hvm hw hB hz1 hk1 hS => ?_)
  obtain ⟨s3165, rfl⟩ : ∃ z, z = u := ⟨_, rfl⟩
  obtain ⟨hP1, hK1, hD1⟩ := hB
  rw [ht] at hP1
  try dsimp only at hw
  obtain ⟨hP, hD⟩ := va_join (wr := []) (w1 := [(Ad0, .inr (15, s3165))]) hP hD [0] [] rfl rfl (by decide) (by decide) hk1 hFc hP1 hD1
  have hK := hK.sub (tys' := []) [] rfl
  generalize H1 = H at hP hS ⊢
  have hP : va_P (dC, dI) vwCl [(Ad0, .inr (15, s3165))] H := hP
  have hD : va_D A [(Ad0, .inr (15, s3165))] := hD
  obtain ⟨er3166, o_s3165⟩ := hw
  subst er3166
  have o_s3165 := ow_on o_Fs0 o_s3165 (l' := [(84, .int 0), (83, .int 1), (80, .int 0), (79, .int 0), (80, .int 0), (79, .int 0), (91, .int 120), (80, .int 0), (79, .int 0), (91, .int 120), (80, .int 0), (79, .int 0), (91, .int 120), (80, .int 0), (79, .int 0), (91, .int 120), (80, .int 0), (79, .int 0), (91, .int 120), (80, .int 0), (79, .int 0), (91, .int 120)]) (w' := [84, 83]) rfl rfl
  refine lv_istore_n (lv' := [(1, .int 120), (0, .ref Ad0)]) hx hb dX12_readCompared_4 rfl hl (by decide) rfl (fun ls hl => ?_)
  refine lv_aload_n hx hb dX12_readCompared_5 rfl (lv_at hl 1 rfl) ?_
  refine va_get (D := (dC, dI)) (ci := 15) (v := .int 1) (C := RX12) (T := TX12) (N := 150) hx hb hts (in_z_X12_readCompared_X12) hown hK hP 0 rfl rfl 83 (by decide) (hts (.fieldLink RX12 625 "HeapWorksModel" "stop" "I") (by decide +kernel)) (fun _ h9 => h9) (ow_at o_s3165 1 rfl) dX12_readCompared_6 ?_
  refine lv_if_le (tgt := 14) hx hb dX12_readCompared_9 (by decide) (fun c3167 => absurd c3167 (by decide)) (fun c3167 => ?_)
  refine lv_iload_n hx hb dX12_readCompared_12 rfl (lv_at hl 0 rfl) ?_
  have hP9 := hP.sub (ws' := [(Ad0, .inr (15, s3165))]) [0] rfl
  have hD9 := hD.sub (ws' := [(Ad0, .inr (15, s3165))]) [0] (by decide) rfl
  have hK9 := hK.sub (tys' := []) [] rfl
  exact W.iret (v := 120) hx hb hr (fun t ht hW => ⟨⟨120, s3165, rfl, ⟨rfl, o_s3165⟩, by rw [ht]; exact hP9, va_K.moved hW.alike hK9, hD9⟩, hS.F ht⟩) hS.2.2 dX12_readCompared_13

def l_z_X12_readNot : List Cond := [.fieldLink RX12 625 "HeapWorksModel" "stop" "I", .methodLink RX12 667 yX12_isKey, .instanceMethod yX12_isKey, .selects RX12 yX12_isKey yX12_isKey, .initialized RX12, .methodLink RX12 689 yX12_readCompared, .instanceMethod yX12_readCompared, .selects RX12 yX12_readCompared yX12_readCompared, .code yX12_isKey cX12_isKey 2 (some .boolean), .fieldLink RX12 644 "HeapWorksModel" "kind" "I", .code yX12_readCompared cX12_readCompared 4 (some .int), .methodLink RX12 704 yX12_readSum, .instanceMethod yX12_readSum, .selects RX12 yX12_readSum yX12_readSum, .code yX12_readSum cX12_readSum 3 (some .int), .methodLink RX12 714 yX12_readProduct, .instanceMethod yX12_readProduct, .selects RX12 yX12_readProduct yX12_readProduct, .code yX12_readProduct cX12_readProduct 3 (some .int), .methodLink RX12 721 yX12_readTurned, .instanceMethod yX12_readTurned, .selects RX12 yX12_readTurned yX12_readTurned, .code yX12_readTurned cX12_readTurned 2 (some .int), .constantLong RX12 719 (45), .methodLink RX12 657 yX12_isSign, .instanceMethod yX12_isSign, .selects RX12 yX12_isSign yX12_isSign, .methodLink RX12 730 yX12_readP, .instanceMethod yX12_readP, .selects RX12 yX12_readP yX12_readP, .code yX12_isSign cX12_isSign 3 (some .boolean), .code yX12_readP cX12_readP 4 (some .int), .methodLink RX12 733 yX12_readAtom, .instanceMethod yX12_readAtom, .selects RX12 yX12_readAtom yX12_readAtom, .code yX12_readAtom cX12_readAtom 5 (some .int), .methodLink RX12 751 yX12_keyAtHand, .instanceMethod yX12_keyAtHand, .selects RX12 yX12_keyAtHand yX12_keyAtHand, .constantLong RX12 754 (40), .methodLink RX12 710 yX12_isName, .instanceMethod yX12_isName, .selects RX12 yX12_isName yX12_isName, .methodLink RX12 664 yX12_wrong, .instanceMethod yX12_wrong, .selects RX12 yX12_wrong yX12_wrong, .fieldLink RX12 673 "HeapWorksModel" "nodeBase" "I", .code yX12_keyAtHand cX12_keyAtHand 1 (some .int), .code yX12_isName cX12_isName 1 (some .boolean), .code yX12_wrong cX12_wrong 1 none, .fieldLink RX12 637 "HeapWorksModel" "from0" "I", .methodLink RX12 653 yX12_fail, .instanceMethod yX12_fail, .selects RX12 yX12_fail yX12_fail, .code yX12_fail cX12_fail 3 none, .fieldLink RX12 628 "HeapWorksModel" "stopAt" "I"]
def w_z_X12_readNot : List Cond := .code yX12_readNot cX12_readNot 2 (some .int) :: (l_z_X12_readNot ++ (wsX120))
theorem in_z_X12_readNot_X12 : ∀ w ∈ wsX120, w ∈ w_z_X12_readNot := fun w h => List.mem_cons_of_mem _ (List.mem_append_right _ (h))
theorem g_z_X12_readNot_z_X12_isKey_667 : GoodIn w_z_X12_readNot (wsV RX12 667 RX12 yX12_isKey w_z_X12_isKey) := goodIn_app (goodIn_sub (by decide +kernel) (by decide +kernel)) (goodIn_ca (goodIn_sub (by decide +kernel) (by decide +kernel)) (goodIn_in in_z_X12_readNot_X12 gd_X12))
theorem g_z_X12_readNot_z_X12_readCompared_689 : GoodIn w_z_X12_readNot (wsV RX12 689 RX12 yX12_readCompared w_z_X12_readCompared) := goodIn_app (goodIn_sub (by decide +kernel) (by decide +kernel)) (goodIn_ca (goodIn_sub (by decide +kernel) (by decide +kernel)) (goodIn_in in_z_X12_readNot_X12 gd_X12))
set_option maxHeartbeats 4000000 in
set_option maxRecDepth 100000 in
theorem z_X12_readNot (l : Launch) (dC : Nat → ClassId) (dI : Nat → Nat → Nat) (sz : Nat) (Ad0 : Nat) (Fs0 : List Value) (k_Fs0 : fh Fs0 150 [(80, .int 0), (79, .int 0), (83, .int 0), (91, .int 120)])  : Met l yX12_readNot w_z_X12_readNot ({ frames := 8, cells := 0, slots := 0, locals := 177 }) (va_Pc [.ref Ad0] (fun U => U.heap.size = sz ∧ Wd dC dI [] (fun _ => True) [(Ad0, .inr (15, Fs0))] U)) (va_Qi (fun (r : Int32) (u : List Value) => (r = 120 ∧ ow Fs0 (u) 150 [84, 83] [(84, .int 0), (83, .int 1), (80, .int 0), (79, .int 0), (80, .int 0), (79, .int 0), (91, .int 120), (80, .int 0), (79, .int 0), (91, .int 120), (80, .int 0), (79, .int 0), (91, .int 120), (80, .int 0), (79, .int 0), (91, .int 120), (80, .int 0), (79, .int 0), (91, .int 120), (80, .int 0), (79, .int 0), (91, .int 120), (80, .int 0), (79, .int 0), (91, .int 120)])) (fun (u : List Value) t => Wd dC dI [] (va_A [(Ad0, .inr (15, Fs0))] sz) [(Ad0, .inr (15, (u)))] t) (va_A [(Ad0, .inr (15, Fs0))] sz))  0 0 (va_A [(Ad0, .inr (15, Fs0))] sz) := by
  refine Met.ofW (cc := cX12_readNot) (maxL := 2) (ret := (some .int)) (by decide) rfl ?_
  intro p e s m args below meth c s₁ B hml hv
  obtain ⟨rfl, hsz, hP, hK, hD0⟩ := hv
  have hx := B.exec
  have hb := B.bytes
  have hr := B.returns
  have hts := atoms_spec (ws := w_z_X12_readNot) B.pre
  have hown : s.vm.findClass RX12 = some m.cls := findClass_of_methodNamed B.named
  have hlocks := B.notSynchronized
  subst hsz
  have hD := hD0.self (sz := s.heap.size)
  generalize hAe : va_A [(Ad0, .inr (15, Fs0))] s.heap.size = A at hD ⊢
  have hA : ∀ q : Nat, s.heap.size ≤ q → A q := fun q h => by rw [← hAe]; exact Or.inr h
  have hS : va_S A s.heap s.heap [] := va_S.rf
  have hl := lv_entry ([.ref Ad0]) (n := 2) (Nat.le_of_ble_eq_true rfl)
  rw [lg_entry_eq]
  generalize (lg_sl ([.ref Ad0]) ++ List.replicate (2 - (lg_sl ([.ref Ad0])).length) Slot.unset).toArray = ls at hl ⊢
  have hl : lv_has ls 2 [(0, .ref Ad0)] := hl
  have o_Fs0 := ow_0 k_Fs0
  refine lv_aload_n hx hb dX12_readNot_0 rfl (lv_at hl 0 rfl) ?_
  refine va_get (D := (dC, dI)) (ci := 15) (v := .int 0) (C := RX12) (T := TX12) (N := 150) hx hb hts (in_z_X12_readNot_X12) hown hK hP 0 rfl rfl 83 (by decide) (hts (.fieldLink RX12 625 "HeapWorksModel" "stop" "I") (by decide +kernel)) (fun _ h9 => h9) (ow_at o_Fs0 2 rfl) dX12_readNot_1 ?_
  refine lv_if_gt (tgt := 16) hx hb dX12_readNot_4 (by decide) (fun c3171 => absurd c3171 (by decide)) (fun c3171 => ?_)
  refine lv_aload_n hx hb dX12_readNot_7 rfl (lv_at hl 0 rfl) ?_
  refine lv_bipush (v := 7) hx hb dX12_readNot_8 (by decide) ?_
  have hPc := hP.sub (ws' := [(Ad0, .inr (15, Fs0))]) [0] rfl
  have hDc := hD.sub (ws' := [(Ad0, .inr (15, Fs0))]) [0] (by decide) rfl
  have hKc := hK.sub (tys' := []) [] rfl
  have hFc := va_free (wc := [(Ad0, .inr (15, Fs0))]) hD hS hA [0] rfl
  refine va_calli (va_runV (As := [.int 7]) (rest := []) ⟨hx, hb, hml, hown, hts⟩ (z_X12_isKey l dC dI s.heap.size Ad0 Fs0 (fh_sub o_Fs0.2 [0] rfl) ) (cwV 1 hts g_z_X12_readNot_z_X12_isKey_667 rfl rfl rfl (by decide +kernel) ⟨Nat.le_of_ble_eq_true rfl, Nat.le_of_ble_eq_true rfl⟩) ⟨fun a U g mk q => by obtain ⟨q0, q1, qP, qK, qD⟩ := q; exact ⟨q0, q1, qP, va_K.moved (u := U) (U := U.calling g mk a) (Vm.Alike.refl U.vm) qK, qD⟩, va_recv hK hP (ci := 15) (q0 := 0) rfl rfl, fun U hU hW => ⟨rfl, by rw [hU], by rw [hU]; exact hPc, va_K.moved hW.alike hKc, hDc.weaken (fun _ _ _ _ => trivial)⟩⟩ rfl rfl hl.1 rfl (lv_room (Nat.le_of_ble_eq_true rfl)) dX12_readNot_10 ⟨Nat.le_of_ble_eq_true rfl, Nat.le_of_ble_eq_true rfl⟩) hS (fun q _ h => hFc q h) hFc (fun r3173 u t H1 locs ht hvm hw hB hz1 hk1 hS => ?_)
  obtain ⟨hP1, hK1, hD1⟩ := hB
  rw [ht] at hP1
  try dsimp only at hw
  obtain ⟨hP, hD⟩ := va_join (wr := []) (w1 := [(Ad0, .inr (15, Fs0))]) hP hD [0] [] rfl rfl (by decide) (by decide) hk1 hFc hP1 hD1
  have hK := hK.sub (tys' := []) [] rfl
  generalize H1 = H at hP hS ⊢
  have hP : va_P (dC, dI) vwCl [(Ad0, .inr (15, Fs0))] H := hP
  have hD : va_D A [(Ad0, .inr (15, Fs0))] := hD
  have er3174 := hw
  subst er3174
  refine lv_if_ne (tgt := 21) hx hb dX12_readNot_13 (by decide) (fun c3175 => absurd c3175 (by decide)) (fun c3175 => ?_)
  refine lv_aload_n hx hb dX12_readNot_16 rfl (lv_at hl 0 rfl) ?_
  have hPc := hP.sub (ws' := [(Ad0, .inr (15, Fs0))]) [0] rfl
  have hDc := hD.sub (ws' := [(Ad0, .inr (15, Fs0))]) [0] (by decide) rfl
  have hKc := hK.sub (tys' := []) [] rfl
  have hFc := va_free (wc := [(Ad0, .inr (15, Fs0))]) hD hS hA [0] rfl
  refine va_calli (va_runV (As := []) (rest := []) ⟨hx, hb, hml, hown, hts⟩ (z_X12_readCompared l dC dI H.size Ad0 Fs0 (fh_sub o_Fs0.2 [0, 1, 2, 3] rfl) ) (cwV 0 hts g_z_X12_readNot_z_X12_readCompared_689 rfl rfl rfl (by decide +kernel) ⟨Nat.le_of_ble_eq_true rfl, Nat.le_of_ble_eq_true rfl⟩) ⟨fun a U g mk q => by obtain ⟨q0, q1, qP, qK, qD⟩ := q; exact ⟨q0, q1, qP, va_K.moved (u := U) (U := U.calling g mk a) (Vm.Alike.refl U.vm) qK, qD⟩, va_recv hK hP (ci := 15) (q0 := 0) rfl rfl, fun U hU hW => ⟨rfl, by rw [hU], by rw [hU]; exact hPc, va_K.moved hW.alike hKc, hDc.weaken (fun _ _ _ _ => trivial)⟩⟩ rfl rfl hl.1 rfl (lv_room (Nat.le_of_ble_eq_true rfl)) dX12_readNot_17 ⟨Nat.le_of_ble_eq_true rfl, Nat.le_of_ble_eq_true rfl⟩) hS (fun q _ h => hFc q h) hFc (fun r3227 u t H1 locs ht hvm hw hB hz1 hk1 hS => ?_)
  obtain ⟨s3228, rfl⟩ : ∃ z, z = u := ⟨_, rfl⟩
  obtain ⟨hP1, hK1, hD1⟩ := hB
  rw [ht] at hP1
  try dsimp only at hw
  obtain ⟨hP, hD⟩ := va_join (wr := []) (w1 := [(Ad0, .inr (15, s3228))]) hP hD [0] [] rfl rfl (by decide) (by decide) hk1 hFc hP1 hD1
  have hK := hK.sub (tys' := []) [] rfl
  generalize H1 = H at hP hS ⊢
  have hP : va_P (dC, dI) vwCl [(Ad0, .inr (15, s3228))] H := hP
  have hD : va_D A [(Ad0, .inr (15, s3228))] := hD
  obtain ⟨er3229, o_s3228⟩ := hw
  subst er3229
  have o_s3228 := ow_on o_Fs0 o_s3228 (l' := [(84, .int 0), (83, .int 1), (80, .int 0), (79, .int 0), (80, .int 0), (79, .int 0), (91, .int 120), (80, .int 0), (79, .int 0), (91, .int 120), (80, .int 0), (79, .int 0), (91, .int 120), (80, .int 0), (79, .int 0), (91, .int 120), (80, .int 0), (79, .int 0), (91, .int 120), (80, .int 0), (79, .int 0), (91, .int 120), (80, .int 0), (79, .int 0), (91, .int 120)]) (w' := [84, 83]) rfl rfl
  have hP9 := hP.sub (ws' := [(Ad0, .inr (15, s3228))]) [0] rfl
  have hD9 := hD.sub (ws' := [(Ad0, .inr (15, s3228))]) [0] (by decide) rfl
  have hK9 := hK.sub (tys' := []) [] rfl
  exact W.iret (v := 120) hx hb hr (fun t ht hW => ⟨⟨120, s3228, rfl, ⟨rfl, o_s3228⟩, by rw [ht]; exact hP9, va_K.moved hW.alike hK9, hD9⟩, hS.F ht⟩) hS.2.2 dX12_readNot_20

def l_z_X12_readAnd : List Cond := [.methodLink RX12 686 yX12_readNot, .instanceMethod yX12_readNot, .selects RX12 yX12_readNot yX12_readNot, .initialized RX12, .fieldLink RX12 625 "HeapWorksModel" "stop" "I", .code yX12_readNot cX12_readNot 2 (some .int), .methodLink RX12 667 yX12_isKey, .instanceMethod yX12_isKey, .selects RX12 yX12_isKey yX12_isKey, .methodLink RX12 689 yX12_readCompared, .instanceMethod yX12_readCompared, .selects RX12 yX12_readCompared yX12_readCompared, .code yX12_isKey cX12_isKey 2 (some .boolean), .fieldLink RX12 644 "HeapWorksModel" "kind" "I", .code yX12_readCompared cX12_readCompared 4 (some .int), .methodLink RX12 704 yX12_readSum, .instanceMethod yX12_readSum, .selects RX12 yX12_readSum yX12_readSum, .code yX12_readSum cX12_readSum 3 (some .int), .methodLink RX12 714 yX12_readProduct, .instanceMethod yX12_readProduct, .selects RX12 yX12_readProduct yX12_readProduct, .code yX12_readProduct cX12_readProduct 3 (some .int), .methodLink RX12 721 yX12_readTurned, .instanceMethod yX12_readTurned, .selects RX12 yX12_readTurned yX12_readTurned, .code yX12_readTurned cX12_readTurned 2 (some .int), .constantLong RX12 719 (45), .methodLink RX12 657 yX12_isSign, .instanceMethod yX12_isSign, .selects RX12 yX12_isSign yX12_isSign, .methodLink RX12 730 yX12_readP, .instanceMethod yX12_readP, .selects RX12 yX12_readP yX12_readP, .code yX12_isSign cX12_isSign 3 (some .boolean), .code yX12_readP cX12_readP 4 (some .int), .methodLink RX12 733 yX12_readAtom, .instanceMethod yX12_readAtom, .selects RX12 yX12_readAtom yX12_readAtom, .code yX12_readAtom cX12_readAtom 5 (some .int), .methodLink RX12 751 yX12_keyAtHand, .instanceMethod yX12_keyAtHand, .selects RX12 yX12_keyAtHand yX12_keyAtHand, .constantLong RX12 754 (40), .methodLink RX12 710 yX12_isName, .instanceMethod yX12_isName, .selects RX12 yX12_isName yX12_isName, .methodLink RX12 664 yX12_wrong, .instanceMethod yX12_wrong, .selects RX12 yX12_wrong yX12_wrong, .fieldLink RX12 673 "HeapWorksModel" "nodeBase" "I", .code yX12_keyAtHand cX12_keyAtHand 1 (some .int), .code yX12_isName cX12_isName 1 (some .boolean), .code yX12_wrong cX12_wrong 1 none, .fieldLink RX12 637 "HeapWorksModel" "from0" "I", .methodLink RX12 653 yX12_fail, .instanceMethod yX12_fail, .selects RX12 yX12_fail yX12_fail, .code yX12_fail cX12_fail 3 none, .fieldLink RX12 628 "HeapWorksModel" "stopAt" "I"]
def w_z_X12_readAnd : List Cond := .code yX12_readAnd cX12_readAnd 3 (some .int) :: (l_z_X12_readAnd ++ (wsX120))
theorem in_z_X12_readAnd_X12 : ∀ w ∈ wsX120, w ∈ w_z_X12_readAnd := fun w h => List.mem_cons_of_mem _ (List.mem_append_right _ (h))
theorem g_z_X12_readAnd_z_X12_readNot_686 : GoodIn w_z_X12_readAnd (wsV RX12 686 RX12 yX12_readNot w_z_X12_readNot) := goodIn_app (goodIn_sub (by decide +kernel) (by decide +kernel)) (goodIn_ca (goodIn_sub (by decide +kernel) (by decide +kernel)) (goodIn_in in_z_X12_readAnd_X12 gd_X12))
set_option maxHeartbeats 4000000 in
set_option maxRecDepth 100000 in
theorem z_X12_readAnd (l : Launch) (dC : Nat → ClassId) (dI : Nat → Nat → Nat) (sz : Nat) (Ad0 : Nat) (Fs0 : List Value) (k_Fs0 : fh Fs0 150 [(80, .int 0), (79, .int 0), (83, .int 0), (91, .int 120)])  : Met l yX12_readAnd w_z_X12_readAnd ({ frames := 9, cells := 0, slots := 0, locals := 198 }) (va_Pc [.ref Ad0] (fun U => U.heap.size = sz ∧ Wd dC dI [] (fun _ => True) [(Ad0, .inr (15, Fs0))] U)) (va_Qi (fun (r : Int32) (u : List Value) => (r = 120 ∧ ow Fs0 (u) 150 [84, 83] [(84, .int 0), (83, .int 1), (80, .int 0), (79, .int 0), (80, .int 0), (79, .int 0), (91, .int 120), (80, .int 0), (79, .int 0), (91, .int 120), (80, .int 0), (79, .int 0), (91, .int 120), (80, .int 0), (79, .int 0), (91, .int 120), (80, .int 0), (79, .int 0), (91, .int 120), (80, .int 0), (79, .int 0), (91, .int 120), (80, .int 0), (79, .int 0), (91, .int 120), (80, .int 0), (79, .int 0), (91, .int 120)])) (fun (u : List Value) t => Wd dC dI [] (va_A [(Ad0, .inr (15, Fs0))] sz) [(Ad0, .inr (15, (u)))] t) (va_A [(Ad0, .inr (15, Fs0))] sz))  0 0 (va_A [(Ad0, .inr (15, Fs0))] sz) := by
  refine Met.ofW (cc := cX12_readAnd) (maxL := 3) (ret := (some .int)) (by decide) rfl ?_
  intro p e s m args below meth c s₁ B hml hv
  obtain ⟨rfl, hsz, hP, hK, hD0⟩ := hv
  have hx := B.exec
  have hb := B.bytes
  have hr := B.returns
  have hts := atoms_spec (ws := w_z_X12_readAnd) B.pre
  have hown : s.vm.findClass RX12 = some m.cls := findClass_of_methodNamed B.named
  have hlocks := B.notSynchronized
  subst hsz
  have hD := hD0.self (sz := s.heap.size)
  generalize hAe : va_A [(Ad0, .inr (15, Fs0))] s.heap.size = A at hD ⊢
  have hA : ∀ q : Nat, s.heap.size ≤ q → A q := fun q h => by rw [← hAe]; exact Or.inr h
  have hS : va_S A s.heap s.heap [] := va_S.rf
  have hl := lv_entry ([.ref Ad0]) (n := 3) (Nat.le_of_ble_eq_true rfl)
  rw [lg_entry_eq]
  generalize (lg_sl ([.ref Ad0]) ++ List.replicate (3 - (lg_sl ([.ref Ad0])).length) Slot.unset).toArray = ls at hl ⊢
  have hl : lv_has ls 3 [(0, .ref Ad0)] := hl
  have o_Fs0 := ow_0 k_Fs0
  refine lv_aload_n hx hb dX12_readAnd_0 rfl (lv_at hl 0 rfl) ?_
  have hPc := hP.sub (ws' := [(Ad0, .inr (15, Fs0))]) [0] rfl
  have hDc := hD.sub (ws' := [(Ad0, .inr (15, Fs0))]) [0] (by decide) rfl
  have hKc := hK.sub (tys' := []) [] rfl
  have hFc := va_free (wc := [(Ad0, .inr (15, Fs0))]) hD hS hA [0] rfl
  refine va_calli (va_runV (As := []) (rest := []) ⟨hx, hb, hml, hown, hts⟩ (z_X12_readNot l dC dI s.heap.size Ad0 Fs0 (fh_sub o_Fs0.2 [0, 1, 2, 3] rfl) ) (cwV 0 hts g_z_X12_readAnd_z_X12_readNot_686 rfl rfl rfl (by decide +kernel) ⟨Nat.le_of_ble_eq_true rfl, Nat.le_of_ble_eq_true rfl⟩) ⟨fun a U g mk q => by obtain ⟨q0, q1, qP, qK, qD⟩ := q; exact ⟨q0, q1, qP, va_K.moved (u := U) (U := U.calling g mk a) (Vm.Alike.refl U.vm) qK, qD⟩, va_recv hK hP (ci := 15) (q0 := 0) rfl rfl, fun U hU hW => ⟨rfl, by rw [hU], by rw [hU]; exact hPc, va_K.moved hW.alike hKc, hDc.weaken (fun _ _ _ _ => trivial)⟩⟩ rfl rfl hl.1 rfl (lv_room (Nat.le_of_ble_eq_true rfl)) dX12_readAnd_1 ⟨Nat.le_of_ble_eq_true rfl, Nat.le_of_ble_eq_true rfl⟩) hS (fun q _ h => hFc q h) hFc (fun r3293 u t H1 locs ht hvm hw hB hz1 hk1 hS => ?_)
  obtain ⟨s3294, rfl⟩ : ∃ z, z = u := ⟨_, rfl⟩
  obtain ⟨hP1, hK1, hD1⟩ := hB
  rw [ht] at hP1
  try dsimp only at hw
  obtain ⟨hP, hD⟩ := va_join (wr := []) (w1 := [(Ad0, .inr (15, s3294))]) hP hD [0] [] rfl rfl (by decide) (by decide) hk1 hFc hP1 hD1
  have hK := hK.sub (tys' := []) [] rfl
  generalize H1 = H at hP hS ⊢
  have hP : va_P (dC, dI) vwCl [(Ad0, .inr (15, s3294))] H := hP
  have hD : va_D A [(Ad0, .inr (15, s3294))] := hD
  obtain ⟨er3295, o_s3294⟩ := hw
  subst er3295
  have o_s3294 := ow_on o_Fs0 o_s3294 (l' := [(84, .int 0), (83, .int 1), (80, .int 0), (79, .int 0), (80, .int 0), (79, .int 0), (91, .int 120), (80, .int 0), (79, .int 0), (91, .int 120), (80, .int 0), (79, .int 0), (91, .int 120), (80, .int 0), (79, .int 0), (91, .int 120), (80, .int 0), (79, .int 0), (91, .int 120), (80, .int 0), (79, .int 0), (91, .int 120), (80, .int 0), (79, .int 0), (91, .int 120), (80, .int 0), (79, .int 0), (91, .int 120)]) (w' := [84, 83]) rfl rfl
  refine lv_istore_n (lv' := [(1, .int 120), (0, .ref Ad0)]) hx hb dX12_readAnd_4 rfl hl (by decide) rfl (fun ls hl => ?_)
  refine lv_aload_n hx hb dX12_readAnd_5 rfl (lv_at hl 1 rfl) ?_
  refine va_get (D := (dC, dI)) (ci := 15) (v := .int 1) (C := RX12) (T := TX12) (N := 150) hx hb hts (in_z_X12_readAnd_X12) hown hK hP 0 rfl rfl 83 (by decide) (hts (.fieldLink RX12 625 "HeapWorksModel" "stop" "I") (by decide +kernel)) (fun _ h9 => h9) (ow_at o_s3294 1 rfl) dX12_readAnd_6 ?_
  refine lv_if_ne (tgt := 52) hx hb dX12_readAnd_9 (by decide) (fun c3296 => ?_) (fun c3296 => absurd c3296 (by decide))
  refine lv_iload_n hx hb dX12_readAnd_52 rfl (lv_at hl 0 rfl) ?_
  have hP9 := hP.sub (ws' := [(Ad0, .inr (15, s3294))]) [0] rfl
  have hD9 := hD.sub (ws' := [(Ad0, .inr (15, s3294))]) [0] (by decide) rfl
  have hK9 := hK.sub (tys' := []) [] rfl
  exact W.iret (v := 120) hx hb hr (fun t ht hW => ⟨⟨120, s3294, rfl, ⟨rfl, o_s3294⟩, by rw [ht]; exact hP9, va_K.moved hW.alike hK9, hD9⟩, hS.F ht⟩) hS.2.2 dX12_readAnd_53

def l_z_X12_readE : List Cond := [.methodLink RX12 679 yX12_readAnd, .instanceMethod yX12_readAnd, .selects RX12 yX12_readAnd yX12_readAnd, .initialized RX12, .fieldLink RX12 625 "HeapWorksModel" "stop" "I", .code yX12_readAnd cX12_readAnd 3 (some .int), .methodLink RX12 686 yX12_readNot, .instanceMethod yX12_readNot, .selects RX12 yX12_readNot yX12_readNot, .code yX12_readNot cX12_readNot 2 (some .int), .methodLink RX12 667 yX12_isKey, .instanceMethod yX12_isKey, .selects RX12 yX12_isKey yX12_isKey, .methodLink RX12 689 yX12_readCompared, .instanceMethod yX12_readCompared, .selects RX12 yX12_readCompared yX12_readCompared, .code yX12_isKey cX12_isKey 2 (some .boolean), .fieldLink RX12 644 "HeapWorksModel" "kind" "I", .code yX12_readCompared cX12_readCompared 4 (some .int), .methodLink RX12 704 yX12_readSum, .instanceMethod yX12_readSum, .selects RX12 yX12_readSum yX12_readSum, .code yX12_readSum cX12_readSum 3 (some .int), .methodLink RX12 714 yX12_readProduct, .instanceMethod yX12_readProduct, .selects RX12 yX12_readProduct yX12_readProduct, .code yX12_readProduct cX12_readProduct 3 (some .int), .methodLink RX12 721 yX12_readTurned, .instanceMethod yX12_readTurned, .selects RX12 yX12_readTurned yX12_readTurned, .code yX12_readTurned cX12_readTurned 2 (some .int), .constantLong RX12 719 (45), .methodLink RX12 657 yX12_isSign, .instanceMethod yX12_isSign, .selects RX12 yX12_isSign yX12_isSign, .methodLink RX12 730 yX12_readP, .instanceMethod yX12_readP, .selects RX12 yX12_readP yX12_readP, .code yX12_isSign cX12_isSign 3 (some .boolean), .code yX12_readP cX12_readP 4 (some .int), .methodLink RX12 733 yX12_readAtom, .instanceMethod yX12_readAtom, .selects RX12 yX12_readAtom yX12_readAtom, .code yX12_readAtom cX12_readAtom 5 (some .int), .methodLink RX12 751 yX12_keyAtHand, .instanceMethod yX12_keyAtHand, .selects RX12 yX12_keyAtHand yX12_keyAtHand, .constantLong RX12 754 (40), .methodLink RX12 710 yX12_isName, .instanceMethod yX12_isName, .selects RX12 yX12_isName yX12_isName, .methodLink RX12 664 yX12_wrong, .instanceMethod yX12_wrong, .selects RX12 yX12_wrong yX12_wrong, .fieldLink RX12 673 "HeapWorksModel" "nodeBase" "I", .code yX12_keyAtHand cX12_keyAtHand 1 (some .int), .code yX12_isName cX12_isName 1 (some .boolean), .code yX12_wrong cX12_wrong 1 none, .fieldLink RX12 637 "HeapWorksModel" "from0" "I", .methodLink RX12 653 yX12_fail, .instanceMethod yX12_fail, .selects RX12 yX12_fail yX12_fail, .code yX12_fail cX12_fail 3 none, .fieldLink RX12 628 "HeapWorksModel" "stopAt" "I"]
def w_z_X12_readE : List Cond := .code yX12_readE cX12_readE 3 (some .int) :: (l_z_X12_readE ++ (wsX120))
theorem in_z_X12_readE_X12 : ∀ w ∈ wsX120, w ∈ w_z_X12_readE := fun w h => List.mem_cons_of_mem _ (List.mem_append_right _ (h))
theorem g_z_X12_readE_z_X12_readAnd_679 : GoodIn w_z_X12_readE (wsV RX12 679 RX12 yX12_readAnd w_z_X12_readAnd) := goodIn_app (goodIn_sub (by decide +kernel) (by decide +kernel)) (goodIn_ca (goodIn_sub (by decide +kernel) (by decide +kernel)) (goodIn_in in_z_X12_readE_X12 gd_X12))
set_option maxHeartbeats 4000000 in
set_option maxRecDepth 100000 in
theorem z_X12_readE (l : Launch) (dC : Nat → ClassId) (dI : Nat → Nat → Nat) (sz : Nat) (Ad0 : Nat) (Fs0 : List Value) (k_Fs0 : fh Fs0 150 [(80, .int 0), (79, .int 0), (83, .int 0), (91, .int 120)])  : Met l yX12_readE w_z_X12_readE ({ frames := 10, cells := 0, slots := 0, locals := 220 }) (va_Pc [.ref Ad0] (fun U => U.heap.size = sz ∧ Wd dC dI [] (fun _ => True) [(Ad0, .inr (15, Fs0))] U)) (va_Qi (fun (r : Int32) (u : List Value) => (r = 120 ∧ ow Fs0 (u) 150 [84, 83] [(84, .int 0), (83, .int 1), (80, .int 0), (79, .int 0), (80, .int 0), (79, .int 0), (91, .int 120), (80, .int 0), (79, .int 0), (91, .int 120), (80, .int 0), (79, .int 0), (91, .int 120), (80, .int 0), (79, .int 0), (91, .int 120), (80, .int 0), (79, .int 0), (91, .int 120), (80, .int 0), (79, .int 0), (91, .int 120), (80, .int 0), (79, .int 0), (91, .int 120), (80, .int 0), (79, .int 0), (91, .int 120), (80, .int 0), (79, .int 0), (91, .int 120)])) (fun (u : List Value) t => Wd dC dI [] (va_A [(Ad0, .inr (15, Fs0))] sz) [(Ad0, .inr (15, (u)))] t) (va_A [(Ad0, .inr (15, Fs0))] sz))  0 0 (va_A [(Ad0, .inr (15, Fs0))] sz) := by
  refine Met.ofW (cc := cX12_readE) (maxL := 3) (ret := (some .int)) (by decide) rfl ?_
  intro p e s m args below meth c s₁ B hml hv
  obtain ⟨rfl, hsz, hP, hK, hD0⟩ := hv
  have hx := B.exec
  have hb := B.bytes
  have hr := B.returns
  have hts := atoms_spec (ws := w_z_X12_readE) B.pre
  have hown : s.vm.findClass RX12 = some m.cls := findClass_of_methodNamed B.named
  have hlocks := B.notSynchronized
  subst hsz
  have hD := hD0.self (sz := s.heap.size)
  generalize hAe : va_A [(Ad0, .inr (15, Fs0))] s.heap.size = A at hD ⊢
  have hA : ∀ q : Nat, s.heap.size ≤ q → A q := fun q h => by rw [← hAe]; exact Or.inr h
  have hS : va_S A s.heap s.heap [] := va_S.rf
  have hl := lv_entry ([.ref Ad0]) (n := 3) (Nat.le_of_ble_eq_true rfl)
  rw [lg_entry_eq]
  generalize (lg_sl ([.ref Ad0]) ++ List.replicate (3 - (lg_sl ([.ref Ad0])).length) Slot.unset).toArray = ls at hl ⊢
  have hl : lv_has ls 3 [(0, .ref Ad0)] := hl
  have o_Fs0 := ow_0 k_Fs0
  refine lv_aload_n hx hb dX12_readE_0 rfl (lv_at hl 0 rfl) ?_
  have hPc := hP.sub (ws' := [(Ad0, .inr (15, Fs0))]) [0] rfl
  have hDc := hD.sub (ws' := [(Ad0, .inr (15, Fs0))]) [0] (by decide) rfl
  have hKc := hK.sub (tys' := []) [] rfl
  have hFc := va_free (wc := [(Ad0, .inr (15, Fs0))]) hD hS hA [0] rfl
  refine va_calli (va_runV (As := []) (rest := []) ⟨hx, hb, hml, hown, hts⟩ (z_X12_readAnd l dC dI s.heap.size Ad0 Fs0 (fh_sub o_Fs0.2 [0, 1, 2, 3] rfl) ) (cwV 0 hts g_z_X12_readE_z_X12_readAnd_679 rfl rfl rfl (by decide +kernel) ⟨Nat.le_of_ble_eq_true rfl, Nat.le_of_ble_eq_true rfl⟩) ⟨fun a U g mk q => by obtain ⟨q0, q1, qP, qK, qD⟩ := q; exact ⟨q0, q1, qP, va_K.moved (u := U) (U := U.calling g mk a) (Vm.Alike.refl U.vm) qK, qD⟩, va_recv hK hP (ci := 15) (q0 := 0) rfl rfl, fun U hU hW => ⟨rfl, by rw [hU], by rw [hU]; exact hPc, va_K.moved hW.alike hKc, hDc.weaken (fun _ _ _ _ => trivial)⟩⟩ rfl rfl hl.1 rfl (lv_room (Nat.le_of_ble_eq_true rfl)) dX12_readE_1 ⟨Nat.le_of_ble_eq_true rfl, Nat.le_of_ble_eq_true rfl⟩) hS (fun q _ h => hFc q h) hFc (fun r3364 u t H1 locs ht hvm hw hB hz1 hk1 hS => ?_)
  obtain ⟨s3365, rfl⟩ : ∃ z, z = u := ⟨_, rfl⟩
  obtain ⟨hP1, hK1, hD1⟩ := hB
  rw [ht] at hP1
  try dsimp only at hw
  obtain ⟨hP, hD⟩ := va_join (wr := []) (w1 := [(Ad0, .inr (15, s3365))]) hP hD [0] [] rfl rfl (by decide) (by decide) hk1 hFc hP1 hD1
  have hK := hK.sub (tys' := []) [] rfl
  generalize H1 = H at hP hS ⊢
  have hP : va_P (dC, dI) vwCl [(Ad0, .inr (15, s3365))] H := hP
  have hD : va_D A [(Ad0, .inr (15, s3365))] := hD
  obtain ⟨er3366, o_s3365⟩ := hw
  subst er3366
  have o_s3365 := ow_on o_Fs0 o_s3365 (l' := [(84, .int 0), (83, .int 1), (80, .int 0), (79, .int 0), (80, .int 0), (79, .int 0), (91, .int 120), (80, .int 0), (79, .int 0), (91, .int 120), (80, .int 0), (79, .int 0), (91, .int 120), (80, .int 0), (79, .int 0), (91, .int 120), (80, .int 0), (79, .int 0), (91, .int 120), (80, .int 0), (79, .int 0), (91, .int 120), (80, .int 0), (79, .int 0), (91, .int 120), (80, .int 0), (79, .int 0), (91, .int 120), (80, .int 0), (79, .int 0), (91, .int 120)]) (w' := [84, 83]) rfl rfl
  refine lv_istore_n (lv' := [(1, .int 120), (0, .ref Ad0)]) hx hb dX12_readE_4 rfl hl (by decide) rfl (fun ls hl => ?_)
  refine lv_aload_n hx hb dX12_readE_5 rfl (lv_at hl 1 rfl) ?_
  refine va_get (D := (dC, dI)) (ci := 15) (v := .int 1) (C := RX12) (T := TX12) (N := 150) hx hb hts (in_z_X12_readE_X12) hown hK hP 0 rfl rfl 83 (by decide) (hts (.fieldLink RX12 625 "HeapWorksModel" "stop" "I") (by decide +kernel)) (fun _ h9 => h9) (ow_at o_s3365 1 rfl) dX12_readE_6 ?_
  refine lv_if_ne (tgt := 54) hx hb dX12_readE_9 (by decide) (fun c3367 => ?_) (fun c3367 => absurd c3367 (by decide))
  refine lv_iload_n hx hb dX12_readE_54 rfl (lv_at hl 0 rfl) ?_
  have hP9 := hP.sub (ws' := [(Ad0, .inr (15, s3365))]) [0] rfl
  have hD9 := hD.sub (ws' := [(Ad0, .inr (15, s3365))]) [0] (by decide) rfl
  have hK9 := hK.sub (tys' := []) [] rfl
  exact W.iret (v := 120) hx hb hr (fun t ht hW => ⟨⟨120, s3365, rfl, ⟨rfl, o_s3365⟩, by rw [ht]; exact hP9, va_K.moved hW.alike hK9, hD9⟩, hS.F ht⟩) hS.2.2 dX12_readE_55

def l_z_X12_endText : List Cond := [.fieldLink RX12 625 "HeapWorksModel" "stop" "I", .fieldLink RX12 776 "HeapWorksModel" "fault" "I", .fieldLink RX12 628 "HeapWorksModel" "stopAt" "I", .fieldLink RX12 268 "HeapWorksModel" "faultAt" "I"]
def w_z_X12_endText : List Cond := .code yX12_endText cX12_endText 1 none :: (l_z_X12_endText ++ (wsX120))
theorem in_z_X12_endText_X12 : ∀ w ∈ wsX120, w ∈ w_z_X12_endText := fun w h => List.mem_cons_of_mem _ (List.mem_append_right _ (h))
set_option maxHeartbeats 4000000 in
set_option maxRecDepth 100000 in
theorem z_X12_endText (l : Launch) (dC : Nat → ClassId) (dI : Nat → Nat → Nat) (sz : Nat) (Ad0 : Nat) (Fs0 : List Value) (k_Fs0 : fh Fs0 150 [(84, .int 0), (83, .int 1)])  : Met l yX12_endText w_z_X12_endText ({ frames := 0, cells := 0, slots := 0, locals := 0 }) (va_Pc [.ref Ad0] (fun U => U.heap.size = sz ∧ Wd dC dI [] (fun _ => True) [(Ad0, .inr (15, Fs0))] U)) (va_Qv (fun (u : List Value) => ow Fs0 (u) 150 [82, 81] [(82, .int 0), (81, .int 1), (84, .int 0), (83, .int 1)]) (fun (u : List Value) t => Wd dC dI [] (va_A [(Ad0, .inr (15, Fs0))] sz) [(Ad0, .inr (15, (u)))] t) (va_A [(Ad0, .inr (15, Fs0))] sz))  0 0 (va_A [(Ad0, .inr (15, Fs0))] sz) := by
  refine Met.ofW (cc := cX12_endText) (maxL := 1) (ret := none) (by decide) rfl ?_
  intro p e s m args below meth c s₁ B hml hv
  obtain ⟨rfl, hsz, hP, hK, hD0⟩ := hv
  have hx := B.exec
  have hb := B.bytes
  have hr := B.returns
  have hts := atoms_spec (ws := w_z_X12_endText) B.pre
  have hown : s.vm.findClass RX12 = some m.cls := findClass_of_methodNamed B.named
  have hlocks := B.notSynchronized
  subst hsz
  have hD := hD0.self (sz := s.heap.size)
  generalize hAe : va_A [(Ad0, .inr (15, Fs0))] s.heap.size = A at hD ⊢
  have hA : ∀ q : Nat, s.heap.size ≤ q → A q := fun q h => by rw [← hAe]; exact Or.inr h
  have hS : va_S A s.heap s.heap [] := va_S.rf
  have hl := lv_entry ([.ref Ad0]) (n := 1) (Nat.le_of_ble_eq_true rfl)
  rw [lg_entry_eq]
  generalize (lg_sl ([.ref Ad0]) ++ List.replicate (1 - (lg_sl ([.ref Ad0])).length) Slot.unset).toArray = ls at hl ⊢
  have hl : lv_has ls 1 [(0, .ref Ad0)] := hl
  have o_Fs0 := ow_0 k_Fs0
  refine lv_aload_n hx hb dX12_endText_0 rfl (lv_at hl 0 rfl) ?_
  refine va_get (D := (dC, dI)) (ci := 15) (v := .int 1) (C := RX12) (T := TX12) (N := 150) hx hb hts (in_z_X12_endText_X12) hown hK hP 0 rfl rfl 83 (by decide) (hts (.fieldLink RX12 625 "HeapWorksModel" "stop" "I") (by decide +kernel)) (fun _ h9 => h9) (ow_at o_Fs0 1 rfl) dX12_endText_1 ?_
  refine lv_if_ne (tgt := 18) hx hb dX12_endText_4 (by decide) (fun c3375 => ?_) (fun c3375 => absurd c3375 (by decide))
  refine lv_aload_n hx hb dX12_endText_18 rfl (lv_at hl 0 rfl) ?_
  refine lv_aload_n hx hb dX12_endText_19 rfl (lv_at hl 0 rfl) ?_
  refine va_get (D := (dC, dI)) (ci := 15) (v := .int 1) (C := RX12) (T := TX12) (N := 150) hx hb hts (in_z_X12_endText_X12) hown hK hP 0 rfl rfl 83 (by decide) (hts (.fieldLink RX12 625 "HeapWorksModel" "stop" "I") (by decide +kernel)) (fun _ h9 => h9) (ow_at o_Fs0 1 rfl) dX12_endText_20 ?_
  refine va_put (D := (dC, dI)) (ci := 15) (v := .int 1) (ty := .int) (C := RX12) (T := TX12) (N := 150) hx hb hts (in_z_X12_endText_X12) tyX12 tyX12_ok nmX12 hown hK hP hD hS 0 rfl rfl 81 (by decide) (hts (.fieldLink RX12 776 "HeapWorksModel" "fault" "I") (by decide +kernel)) (fun _ h9 => h9) rfl (by decide +kernel) rfl rfl (by rw [o_Fs0.2.1]; decide) dX12_endText_23 (fun H locs hP hD hS => ?_)
  have hP : va_P (dC, dI) vwCl [(Ad0, .inr (15, (Fs0.set 81 (.int 1))))] H := hP
  have hD : va_D A [(Ad0, .inr (15, (Fs0.set 81 (.int 1))))] := hD
  have o_s3376 := ow_set o_Fs0 81 (.int 1) (by decide) (l' := [(81, .int 1), (84, .int 0), (83, .int 1)]) (w' := [81]) rfl rfl
  generalize (Fs0.set 81 (.int 1)) = s3376 at hP hD o_s3376
  refine lv_aload_n hx hb dX12_endText_26 rfl (lv_at hl 0 rfl) ?_
  refine lv_aload_n hx hb dX12_endText_27 rfl (lv_at hl 0 rfl) ?_
  refine va_get (D := (dC, dI)) (ci := 15) (v := .int 1) (C := RX12) (T := TX12) (N := 150) hx hb hts (in_z_X12_endText_X12) hown hK hP 0 rfl rfl 83 (by decide) (hts (.fieldLink RX12 625 "HeapWorksModel" "stop" "I") (by decide +kernel)) (fun _ h9 => h9) (ow_at o_s3376 2 rfl) dX12_endText_28 ?_
  refine lv_if_le (tgt := 41) hx hb dX12_endText_31 (by decide) (fun c3377 => absurd c3377 (by decide)) (fun c3377 => ?_)
  refine lv_aload_n hx hb dX12_endText_34 rfl (lv_at hl 0 rfl) ?_
  refine va_get (D := (dC, dI)) (ci := 15) (v := .int 0) (C := RX12) (T := TX12) (N := 150) hx hb hts (in_z_X12_endText_X12) hown hK hP 0 rfl rfl 84 (by decide) (hts (.fieldLink RX12 628 "HeapWorksModel" "stopAt" "I") (by decide +kernel)) (fun _ h9 => h9) (ow_at o_s3376 1 rfl) dX12_endText_35 ?_
  refine lv_goto (tgt := 42) hx hb dX12_endText_38 (by decide) ?_
  refine va_put (D := (dC, dI)) (ci := 15) (v := .int 0) (ty := .int) (C := RX12) (T := TX12) (N := 150) hx hb hts (in_z_X12_endText_X12) tyX12 tyX12_ok nmX12 hown hK hP hD hS 0 rfl rfl 82 (by decide) (hts (.fieldLink RX12 268 "HeapWorksModel" "faultAt" "I") (by decide +kernel)) (fun _ h9 => h9) rfl (by decide +kernel) rfl rfl (by rw [o_s3376.2.1]; decide) dX12_endText_42 (fun H locs hP hD hS => ?_)
  have hP : va_P (dC, dI) vwCl [(Ad0, .inr (15, (s3376.set 82 (.int 0))))] H := hP
  have hD : va_D A [(Ad0, .inr (15, (s3376.set 82 (.int 0))))] := hD
  have o_s3378 := ow_set o_s3376 82 (.int 0) (by decide) (l' := [(82, .int 0), (81, .int 1), (84, .int 0), (83, .int 1)]) (w' := [82, 81]) rfl rfl
  generalize (s3376.set 82 (.int 0)) = s3378 at hP hD o_s3378
  have hP9 := hP.sub (ws' := [(Ad0, .inr (15, s3378))]) [0] rfl
  have hD9 := hD.sub (ws' := [(Ad0, .inr (15, s3378))]) [0] (by decide) rfl
  have hK9 := hK.sub (tys' := []) [] rfl
  exact W.vret hx hb hr (fun t ht hW => ⟨⟨s3378, rfl, o_s3378, by rw [ht]; exact hP9, va_K.moved hW.alike hK9, hD9⟩, hS.F ht⟩) hS.2.2 dX12_endText_45

def l_n_promise : List Cond := [.fieldLink RX12 872 "HeapWorksModel" "promises" "I", .fieldLink RX12 388 "HeapWorksModel" "thrown" "I", .methodLink RX12 855 yX12_beginText, .instanceMethod yX12_beginText, .selects RX12 yX12_beginText yX12_beginText, .initialized RX12, .fieldLink RX12 764 "HeapWorksModel" "hasIt" "Z", .methodLink RX12 743 yX12_readE, .instanceMethod yX12_readE, .selects RX12 yX12_readE yX12_readE, .methodLink RX12 858 yX12_endText, .instanceMethod yX12_endText, .selects RX12 yX12_endText yX12_endText, .fieldLink RX12 776 "HeapWorksModel" "fault" "I", .code yX12_beginText cX12_beginText 2 none, .fieldLink RX12 673 "HeapWorksModel" "nodeBase" "I", .fieldLink RX12 670 "HeapWorksModel" "nodes" "I", .fieldLink RX12 676 "HeapWorksModel" "nested" "I", .fieldLink RX12 761 "HeapWorksModel" "known" "I", .fieldLink RX12 625 "HeapWorksModel" "stop" "I", .fieldLink RX12 628 "HeapWorksModel" "stopAt" "I", .fieldLink RX12 631 "HeapWorksModel" "at0" "I", .methodLink RX12 661 yX12_advance, .instanceMethod yX12_advance, .selects RX12 yX12_advance yX12_advance, .code yX12_advance cX12_advance 5 none, .methodLink RX12 634 yX12_byteAt, .instanceMethod yX12_byteAt, .selects RX12 yX12_byteAt yX12_byteAt, .fieldLink RX12 637 "HeapWorksModel" "from0" "I", .fieldLink RX12 640 "HeapWorksModel" "word" "J", .fieldLink RX12 644 "HeapWorksModel" "kind" "I", .code yX12_byteAt cX12_byteAt 2 (some .int), .fieldLink RX12 391 "HeapWorksModel" "taped" "I", .code yX12_readE cX12_readE 3 (some .int), .methodLink RX12 679 yX12_readAnd, .instanceMethod yX12_readAnd, .selects RX12 yX12_readAnd yX12_readAnd, .code yX12_readAnd cX12_readAnd 3 (some .int), .methodLink RX12 686 yX12_readNot, .instanceMethod yX12_readNot, .selects RX12 yX12_readNot yX12_readNot, .code yX12_readNot cX12_readNot 2 (some .int), .methodLink RX12 667 yX12_isKey, .instanceMethod yX12_isKey, .selects RX12 yX12_isKey yX12_isKey, .methodLink RX12 689 yX12_readCompared, .instanceMethod yX12_readCompared, .selects RX12 yX12_readCompared yX12_readCompared, .code yX12_isKey cX12_isKey 2 (some .boolean), .code yX12_readCompared cX12_readCompared 4 (some .int), .methodLink RX12 704 yX12_readSum, .instanceMethod yX12_readSum, .selects RX12 yX12_readSum yX12_readSum, .code yX12_readSum cX12_readSum 3 (some .int), .methodLink RX12 714 yX12_readProduct, .instanceMethod yX12_readProduct, .selects RX12 yX12_readProduct yX12_readProduct, .code yX12_readProduct cX12_readProduct 3 (some .int), .methodLink RX12 721 yX12_readTurned, .instanceMethod yX12_readTurned, .selects RX12 yX12_readTurned yX12_readTurned, .code yX12_readTurned cX12_readTurned 2 (some .int), .constantLong RX12 719 (45), .methodLink RX12 657 yX12_isSign, .instanceMethod yX12_isSign, .selects RX12 yX12_isSign yX12_isSign, .methodLink RX12 730 yX12_readP, .instanceMethod yX12_readP, .selects RX12 yX12_readP yX12_readP, .code yX12_isSign cX12_isSign 3 (some .boolean), .code yX12_readP cX12_readP 4 (some .int), .methodLink RX12 733 yX12_readAtom, .instanceMethod yX12_readAtom, .selects RX12 yX12_readAtom yX12_readAtom, .code yX12_readAtom cX12_readAtom 5 (some .int), .methodLink RX12 751 yX12_keyAtHand, .instanceMethod yX12_keyAtHand, .selects RX12 yX12_keyAtHand yX12_keyAtHand, .constantLong RX12 754 (40), .methodLink RX12 710 yX12_isName, .instanceMethod yX12_isName, .selects RX12 yX12_isName yX12_isName, .methodLink RX12 664 yX12_wrong, .instanceMethod yX12_wrong, .selects RX12 yX12_wrong yX12_wrong, .code yX12_keyAtHand cX12_keyAtHand 1 (some .int), .code yX12_isName cX12_isName 1 (some .boolean), .code yX12_wrong cX12_wrong 1 none, .methodLink RX12 653 yX12_fail, .instanceMethod yX12_fail, .selects RX12 yX12_fail yX12_fail, .code yX12_fail cX12_fail 3 none, .code yX12_endText cX12_endText 1 none, .fieldLink RX12 268 "HeapWorksModel" "faultAt" "I"]
def w_n_promise : List Cond := .code yX12_promise cX12_promise 3 (some .int) :: (l_n_promise ++ (wsX120))
theorem in_n_promise_X12 : ∀ w ∈ wsX120, w ∈ w_n_promise := fun w h => List.mem_cons_of_mem _ (List.mem_append_right _ (h))
theorem g_n_promise_z_X12_beginText_855 : GoodIn w_n_promise (wsV RX12 855 RX12 yX12_beginText w_z_X12_beginText) := goodIn_app (goodIn_sub (by decide +kernel) (by decide +kernel)) (goodIn_ca (goodIn_sub (by decide +kernel) (by decide +kernel)) (goodIn_in in_n_promise_X12 gd_X12))
theorem g_n_promise_z_X12_readE_743 : GoodIn w_n_promise (wsV RX12 743 RX12 yX12_readE w_z_X12_readE) := goodIn_app (goodIn_sub (by decide +kernel) (by decide +kernel)) (goodIn_ca (goodIn_sub (by decide +kernel) (by decide +kernel)) (goodIn_in in_n_promise_X12 gd_X12))
theorem g_n_promise_z_X12_endText_858 : GoodIn w_n_promise (wsV RX12 858 RX12 yX12_endText w_z_X12_endText) := goodIn_app (goodIn_sub (by decide +kernel) (by decide +kernel)) (goodIn_ca (goodIn_sub (by decide +kernel) (by decide +kernel)) (goodIn_in in_n_promise_X12 gd_X12))
set_option maxHeartbeats 4000000 in
set_option maxRecDepth 100000 in
theorem n_promise (l : Launch) (dC : Nat → ClassId) (dI : Nat → Nat → Nat) (sz : Nat) (aR : Nat) (fsR : List Value) (k_fsR : fh fsR 150 [(0, .int 0), (3, .int 0), (78, .int 0), (79, .int 0), (80, .int 0), (81, .int 0), (83, .int 0), (84, .int 0), (91, .int 0), (113, .int 0)])  : Met l yX12_promise w_n_promise ({ frames := 11, cells := 0, slots := 0, locals := 242 }) (va_Pc [.ref aR] (fun U => U.heap.size = sz ∧ Wd dC dI [] (fun _ => True) [(aR, .inr (15, fsR))] U)) (va_Qi (fun (r : Int32) (u : List Value) => (r = 0 ∧ ow fsR (u) 150 [0, 82, 81, 84, 83, 95, 80, 85, 79, 78, 94, 93, 92, 91] [(0, .int 2), (82, .int 0), (81, .int 1), (84, .int 0), (83, .int 1), (84, .int 0), (83, .int 1), (80, .int 0), (79, .int 0), (80, .int 0), (79, .int 0), (91, .int 120), (80, .int 0), (79, .int 0), (91, .int 120), (80, .int 0), (79, .int 0), (91, .int 120), (80, .int 0), (79, .int 0), (91, .int 120), (80, .int 0), (79, .int 0), (91, .int 120), (80, .int 0), (79, .int 0), (91, .int 120), (80, .int 0), (79, .int 0), (91, .int 120), (80, .int 0), (79, .int 0), (91, .int 120), (80, .int 0), (79, .int 0), (91, .int 120), (95, .int 0), (80, .int 0), (85, .long 0), (79, .int 0), (78, .int 0), (3, .int 0), (78, .int 0), (94, .int 0), (93, .int 0), (92, .int 0), (91, .int 120), (3, .int 0), (3, .int 0), (113, .int 0)])) (fun (u : List Value) t => Wd dC dI [] (va_A [(aR, .inr (15, fsR))] sz) [(aR, .inr (15, (u)))] t) (va_A [(aR, .inr (15, fsR))] sz))  0 0 (va_A [(aR, .inr (15, fsR))] sz) := by
  refine Met.ofW (cc := cX12_promise) (maxL := 3) (ret := (some .int)) (by decide) rfl ?_
  intro p e s m args below meth c s₁ B hml hv
  obtain ⟨rfl, hsz, hP, hK, hD0⟩ := hv
  have hx := B.exec
  have hb := B.bytes
  have hr := B.returns
  have hts := atoms_spec (ws := w_n_promise) B.pre
  have hown : s.vm.findClass RX12 = some m.cls := findClass_of_methodNamed B.named
  have hlocks := B.notSynchronized
  subst hsz
  have hD := hD0.self (sz := s.heap.size)
  generalize hAe : va_A [(aR, .inr (15, fsR))] s.heap.size = A at hD ⊢
  have hA : ∀ q : Nat, s.heap.size ≤ q → A q := fun q h => by rw [← hAe]; exact Or.inr h
  have hS : va_S A s.heap s.heap [] := va_S.rf
  have hl := lv_entry ([.ref aR]) (n := 3) (Nat.le_of_ble_eq_true rfl)
  rw [lg_entry_eq]
  generalize (lg_sl ([.ref aR]) ++ List.replicate (3 - (lg_sl ([.ref aR])).length) Slot.unset).toArray = ls at hl ⊢
  have hl : lv_has ls 3 [(0, .ref aR)] := hl
  have o_fsR := ow_0 k_fsR
  refine lv_aload_n hx hb dX12_promise_0 rfl (lv_at hl 0 rfl) ?_
  refine lv_aload_n hx hb dX12_promise_1 rfl (lv_at hl 0 rfl) ?_
  refine va_get (D := (dC, dI)) (ci := 15) (v := .int 0) (C := RX12) (T := TX12) (N := 150) hx hb hts (in_n_promise_X12) hown hK hP 0 rfl rfl 113 (by decide) (hts (.fieldLink RX12 872 "HeapWorksModel" "promises" "I") (by decide +kernel)) (fun _ h9 => h9) (ow_at o_fsR 9 rfl) dX12_promise_2 ?_
  refine lv_iconst (v := 3) hx hb dX12_promise_5 (by decide) ?_
  refine lv_icmp_ne (tgt := 13) hx hb dX12_promise_6 (by decide) (fun c3383 => ?_) (fun c3383 => absurd c3383 (by decide))
  refine lv_iconst (v := 0) hx hb dX12_promise_13 (by decide) ?_
  refine va_put (D := (dC, dI)) (ci := 15) (v := .int 0) (ty := .int) (C := RX12) (T := TX12) (N := 150) hx hb hts (in_n_promise_X12) tyX12 tyX12_ok nmX12 hown hK hP hD hS 0 rfl rfl 0 (by decide) (hts (.fieldLink RX12 388 "HeapWorksModel" "thrown" "I") (by decide +kernel)) (fun _ h9 => h9) rfl (by decide +kernel) rfl rfl (by rw [o_fsR.2.1]; decide) dX12_promise_14 (fun H locs hP hD hS => ?_)
  have hP : va_P (dC, dI) vwCl [(aR, .inr (15, (fsR.set 0 (.int 0))))] H := hP
  have hD : va_D A [(aR, .inr (15, (fsR.set 0 (.int 0))))] := hD
  have o_s3384 := ow_set o_fsR 0 (.int 0) (by decide) (l' := [(0, .int 0), (3, .int 0), (78, .int 0), (79, .int 0), (80, .int 0), (81, .int 0), (83, .int 0), (84, .int 0), (91, .int 0), (113, .int 0)]) (w' := [0]) rfl rfl
  generalize (fsR.set 0 (.int 0)) = s3384 at hP hD o_s3384
  refine lv_aload_n hx hb dX12_promise_17 rfl (lv_at hl 0 rfl) ?_
  refine va_get (D := (dC, dI)) (ci := 15) (v := .int 0) (C := RX12) (T := TX12) (N := 150) hx hb hts (in_n_promise_X12) hown hK hP 0 rfl rfl 0 (by decide) (hts (.fieldLink RX12 388 "HeapWorksModel" "thrown" "I") (by decide +kernel)) (fun _ h9 => h9) (ow_at o_s3384 0 rfl) dX12_promise_18 ?_
  refine lv_if_le (tgt := 26) hx hb dX12_promise_21 (by decide) (fun c3385 => ?_) (fun c3385 => absurd c3385 (by decide))
  refine lv_aload_n hx hb dX12_promise_26 rfl (lv_at hl 0 rfl) ?_
  refine lv_bipush (v := 120) hx hb dX12_promise_27 (by decide) ?_
  refine lv_aload_n hx hb dX12_promise_29 rfl (lv_at hl 0 rfl) ?_
  refine va_get (D := (dC, dI)) (ci := 15) (v := .int 0) (C := RX12) (T := TX12) (N := 150) hx hb hts (in_n_promise_X12) hown hK hP 0 rfl rfl 113 (by decide) (hts (.fieldLink RX12 872 "HeapWorksModel" "promises" "I") (by decide +kernel)) (fun _ h9 => h9) (ow_at o_s3384 9 rfl) dX12_promise_30 ?_
  refine lv_iconst (v := 1) hx hb dX12_promise_33 (by decide) ?_
  refine lv_iadd hx hb dX12_promise_34  ?_
  refine lv_topi (fun x3386 ex3386 => ?_)
  obtain rfl : x3386 = 1 := ex3386.trans (by decide)
  refine lv_imul hx hb dX12_promise_35  ?_
  refine lv_topi (fun x3387 ex3387 => ?_)
  obtain rfl : x3387 = 120 := ex3387.trans (by decide)
  have hPc := hP.sub (ws' := [(aR, .inr (15, s3384))]) [0] rfl
  have hDc := hD.sub (ws' := [(aR, .inr (15, s3384))]) [0] (by decide) rfl
  have hKc := hK.sub (tys' := []) [] rfl
  have hFc := va_free (wc := [(aR, .inr (15, s3384))]) hD hS hA [0] rfl
  refine va_callv (va_runV (As := [.int 120]) (rest := []) ⟨hx, hb, hml, hown, hts⟩ (z_X12_beginText l dC dI H.size aR s3384 (fh_sub o_s3384.2 [1, 2] rfl) ) (cwV 1 hts g_n_promise_z_X12_beginText_855 rfl rfl rfl (by decide +kernel) ⟨Nat.le_of_ble_eq_true rfl, Nat.le_of_ble_eq_true rfl⟩) ⟨fun a U g mk q => by obtain ⟨q0, q1, qP, qK, qD⟩ := q; exact ⟨q0, q1, qP, va_K.moved (u := U) (U := U.calling g mk a) (Vm.Alike.refl U.vm) qK, qD⟩, va_recv hK hP (ci := 15) (q0 := 0) rfl rfl, fun U hU hW => ⟨rfl, by rw [hU], by rw [hU]; exact hPc, va_K.moved hW.alike hKc, hDc.weaken (fun _ _ _ _ => trivial)⟩⟩ rfl rfl hl.1 rfl (lv_room (Nat.le_of_ble_eq_true rfl)) dX12_promise_36 ⟨Nat.le_of_ble_eq_true rfl, Nat.le_of_ble_eq_true rfl⟩) hS (fun q _ h => hFc q h) hFc (fun u t H1 locs ht hvm hw hB hz1 hk1 hS => ?_)
  obtain ⟨s3407, rfl⟩ : ∃ z, z = u := ⟨_, rfl⟩
  obtain ⟨hP1, hK1, hD1⟩ := hB
  rw [ht] at hP1
  try dsimp only at hw
  obtain ⟨hP, hD⟩ := va_join (wr := []) (w1 := [(aR, .inr (15, s3407))]) hP hD [0] [] rfl rfl (by decide) (by decide) hk1 hFc hP1 hD1
  have hK := hK.sub (tys' := []) [] rfl
  generalize H1 = H at hP hS ⊢
  have hP : va_P (dC, dI) vwCl [(aR, .inr (15, s3407))] H := hP
  have hD : va_D A [(aR, .inr (15, s3407))] := hD
  have o_s3407 := hw
  have o_s3407 := ow_on o_s3384 o_s3407 (l' := [(80, .int 0), (85, .long 0), (79, .int 0), (78, .int 0), (3, .int 0), (78, .int 0), (84, .int (-1)), (83, .int 0), (94, .int 0), (93, .int 0), (92, .int 0), (91, .int 120), (3, .int 0), (0, .int 0), (3, .int 0), (81, .int 0), (113, .int 0)]) (w' := [80, 85, 79, 78, 84, 83, 94, 93, 92, 91, 0]) rfl rfl
  refine lv_aload_n hx hb dX12_promise_39 rfl (lv_at hl 0 rfl) ?_
  refine lv_iconst (v := 0) hx hb dX12_promise_40 (by decide) ?_
  refine va_put (D := (dC, dI)) (ci := 15) (v := .int 0) (ty := .boolean) (C := RX12) (T := TX12) (N := 150) hx hb hts (in_n_promise_X12) tyX12 tyX12_ok nmX12 hown hK hP hD hS 0 rfl rfl 95 (by decide) (hts (.fieldLink RX12 764 "HeapWorksModel" "hasIt" "Z") (by decide +kernel)) (fun _ h9 => h9) rfl (by decide +kernel) rfl rfl (by rw [o_s3407.2.1]; decide) dX12_promise_41 (fun H locs hP hD hS => ?_)
  have hP : va_P (dC, dI) vwCl [(aR, .inr (15, (s3407.set 95 (.int 0))))] H := hP
  have hD : va_D A [(aR, .inr (15, (s3407.set 95 (.int 0))))] := hD
  have o_s3408 := ow_set o_s3407 95 (.int 0) (by decide) (l' := [(95, .int 0), (80, .int 0), (85, .long 0), (79, .int 0), (78, .int 0), (3, .int 0), (78, .int 0), (84, .int (-1)), (83, .int 0), (94, .int 0), (93, .int 0), (92, .int 0), (91, .int 120), (3, .int 0), (0, .int 0), (3, .int 0), (81, .int 0), (113, .int 0)]) (w' := [95, 80, 85, 79, 78, 84, 83, 94, 93, 92, 91, 0]) rfl rfl
  generalize (s3407.set 95 (.int 0)) = s3408 at hP hD o_s3408
  refine lv_aload_n hx hb dX12_promise_44 rfl (lv_at hl 0 rfl) ?_
  have hPc := hP.sub (ws' := [(aR, .inr (15, s3408))]) [0] rfl
  have hDc := hD.sub (ws' := [(aR, .inr (15, s3408))]) [0] (by decide) rfl
  have hKc := hK.sub (tys' := []) [] rfl
  have hFc := va_free (wc := [(aR, .inr (15, s3408))]) hD hS hA [0] rfl
  refine va_calli (va_runV (As := []) (rest := []) ⟨hx, hb, hml, hown, hts⟩ (z_X12_readE l dC dI H.size aR s3408 (fh_sub o_s3408.2 [1, 3, 8, 12] rfl) ) (cwV 0 hts g_n_promise_z_X12_readE_743 rfl rfl rfl (by decide +kernel) ⟨Nat.le_of_ble_eq_true rfl, Nat.le_of_ble_eq_true rfl⟩) ⟨fun a U g mk q => by obtain ⟨q0, q1, qP, qK, qD⟩ := q; exact ⟨q0, q1, qP, va_K.moved (u := U) (U := U.calling g mk a) (Vm.Alike.refl U.vm) qK, qD⟩, va_recv hK hP (ci := 15) (q0 := 0) rfl rfl, fun U hU hW => ⟨rfl, by rw [hU], by rw [hU]; exact hPc, va_K.moved hW.alike hKc, hDc.weaken (fun _ _ _ _ => trivial)⟩⟩ rfl rfl hl.1 rfl (lv_room (Nat.le_of_ble_eq_true rfl)) dX12_promise_45 ⟨Nat.le_of_ble_eq_true rfl, Nat.le_of_ble_eq_true rfl⟩) hS (fun q _ h => hFc q h) hFc (fun r3476 u t H1 locs ht hvm hw hB hz1 hk1 hS => ?_)
  obtain ⟨s3477, rfl⟩ : ∃ z, z = u := ⟨_, rfl⟩
  obtain ⟨hP1, hK1, hD1⟩ := hB
  rw [ht] at hP1
  try dsimp only at hw
  obtain ⟨hP, hD⟩ := va_join (wr := []) (w1 := [(aR, .inr (15, s3477))]) hP hD [0] [] rfl rfl (by decide) (by decide) hk1 hFc hP1 hD1
  have hK := hK.sub (tys' := []) [] rfl
  generalize H1 = H at hP hS ⊢
  have hP : va_P (dC, dI) vwCl [(aR, .inr (15, s3477))] H := hP
  have hD : va_D A [(aR, .inr (15, s3477))] := hD
  obtain ⟨er3478, o_s3477⟩ := hw
  subst er3478
  have o_s3477 := ow_on o_s3408 o_s3477 (l' := [(84, .int 0), (83, .int 1), (80, .int 0), (79, .int 0), (80, .int 0), (79, .int 0), (91, .int 120), (80, .int 0), (79, .int 0), (91, .int 120), (80, .int 0), (79, .int 0), (91, .int 120), (80, .int 0), (79, .int 0), (91, .int 120), (80, .int 0), (79, .int 0), (91, .int 120), (80, .int 0), (79, .int 0), (91, .int 120), (80, .int 0), (79, .int 0), (91, .int 120), (80, .int 0), (79, .int 0), (91, .int 120), (80, .int 0), (79, .int 0), (91, .int 120), (95, .int 0), (80, .int 0), (85, .long 0), (79, .int 0), (78, .int 0), (3, .int 0), (78, .int 0), (94, .int 0), (93, .int 0), (92, .int 0), (91, .int 120), (3, .int 0), (0, .int 0), (3, .int 0), (81, .int 0), (113, .int 0)]) (w' := [84, 83, 95, 80, 85, 79, 78, 94, 93, 92, 91, 0]) rfl rfl
  refine lv_istore_n (lv' := [(1, .int 120), (0, .ref aR)]) hx hb dX12_promise_48 rfl hl (by decide) rfl (fun ls hl => ?_)
  refine lv_aload_n hx hb dX12_promise_49 rfl (lv_at hl 1 rfl) ?_
  have hPc := hP.sub (ws' := [(aR, .inr (15, s3477))]) [0] rfl
  have hDc := hD.sub (ws' := [(aR, .inr (15, s3477))]) [0] (by decide) rfl
  have hKc := hK.sub (tys' := []) [] rfl
  have hFc := va_free (wc := [(aR, .inr (15, s3477))]) hD hS hA [0] rfl
  refine va_callv (va_runV (As := []) (rest := []) ⟨hx, hb, hml, hown, hts⟩ (z_X12_endText l dC dI H.size aR s3477 (fh_sub o_s3477.2 [0, 1] rfl) ) (cwV 0 hts g_n_promise_z_X12_endText_858 rfl rfl rfl (by decide +kernel) ⟨Nat.le_of_ble_eq_true rfl, Nat.le_of_ble_eq_true rfl⟩) ⟨fun a U g mk q => by obtain ⟨q0, q1, qP, qK, qD⟩ := q; exact ⟨q0, q1, qP, va_K.moved (u := U) (U := U.calling g mk a) (Vm.Alike.refl U.vm) qK, qD⟩, va_recv hK hP (ci := 15) (q0 := 0) rfl rfl, fun U hU hW => ⟨rfl, by rw [hU], by rw [hU]; exact hPc, va_K.moved hW.alike hKc, hDc.weaken (fun _ _ _ _ => trivial)⟩⟩ rfl rfl hl.1 rfl (lv_room (Nat.le_of_ble_eq_true rfl)) dX12_promise_50 ⟨Nat.le_of_ble_eq_true rfl, Nat.le_of_ble_eq_true rfl⟩) hS (fun q _ h => hFc q h) hFc (fun u t H1 locs ht hvm hw hB hz1 hk1 hS => ?_)
  obtain ⟨s3483, rfl⟩ : ∃ z, z = u := ⟨_, rfl⟩
  obtain ⟨hP1, hK1, hD1⟩ := hB
  rw [ht] at hP1
  try dsimp only at hw
  obtain ⟨hP, hD⟩ := va_join (wr := []) (w1 := [(aR, .inr (15, s3483))]) hP hD [0] [] rfl rfl (by decide) (by decide) hk1 hFc hP1 hD1
  have hK := hK.sub (tys' := []) [] rfl
  generalize H1 = H at hP hS ⊢
  have hP : va_P (dC, dI) vwCl [(aR, .inr (15, s3483))] H := hP
  have hD : va_D A [(aR, .inr (15, s3483))] := hD
  have o_s3483 := hw
  have o_s3483 := ow_on o_s3477 o_s3483 (l' := [(82, .int 0), (81, .int 1), (84, .int 0), (83, .int 1), (84, .int 0), (83, .int 1), (80, .int 0), (79, .int 0), (80, .int 0), (79, .int 0), (91, .int 120), (80, .int 0), (79, .int 0), (91, .int 120), (80, .int 0), (79, .int 0), (91, .int 120), (80, .int 0), (79, .int 0), (91, .int 120), (80, .int 0), (79, .int 0), (91, .int 120), (80, .int 0), (79, .int 0), (91, .int 120), (80, .int 0), (79, .int 0), (91, .int 120), (80, .int 0), (79, .int 0), (91, .int 120), (80, .int 0), (79, .int 0), (91, .int 120), (95, .int 0), (80, .int 0), (85, .long 0), (79, .int 0), (78, .int 0), (3, .int 0), (78, .int 0), (94, .int 0), (93, .int 0), (92, .int 0), (91, .int 120), (3, .int 0), (0, .int 0), (3, .int 0), (113, .int 0)]) (w' := [82, 81, 84, 83, 95, 80, 85, 79, 78, 94, 93, 92, 91, 0]) rfl rfl
  refine lv_aload_n hx hb dX12_promise_53 rfl (lv_at hl 1 rfl) ?_
  refine lv_aload_n hx hb dX12_promise_54 rfl (lv_at hl 1 rfl) ?_
  refine va_get (D := (dC, dI)) (ci := 15) (v := .int 1) (C := RX12) (T := TX12) (N := 150) hx hb hts (in_n_promise_X12) hown hK hP 0 rfl rfl 81 (by decide) (hts (.fieldLink RX12 776 "HeapWorksModel" "fault" "I") (by decide +kernel)) (fun _ h9 => h9) (ow_at o_s3483 1 rfl) dX12_promise_55 ?_
  refine lv_if_le (tgt := 65) hx hb dX12_promise_58 (by decide) (fun c3484 => absurd c3484 (by decide)) (fun c3484 => ?_)
  refine lv_iconst (v := 2) hx hb dX12_promise_61 (by decide) ?_
  refine lv_goto (tgt := 66) hx hb dX12_promise_62 (by decide) ?_
  refine va_put (D := (dC, dI)) (ci := 15) (v := .int 2) (ty := .int) (C := RX12) (T := TX12) (N := 150) hx hb hts (in_n_promise_X12) tyX12 tyX12_ok nmX12 hown hK hP hD hS 0 rfl rfl 0 (by decide) (hts (.fieldLink RX12 388 "HeapWorksModel" "thrown" "I") (by decide +kernel)) (fun _ h9 => h9) rfl (by decide +kernel) rfl rfl (by rw [o_s3483.2.1]; decide) dX12_promise_66 (fun H locs hP hD hS => ?_)
  have hP : va_P (dC, dI) vwCl [(aR, .inr (15, (s3483.set 0 (.int 2))))] H := hP
  have hD : va_D A [(aR, .inr (15, (s3483.set 0 (.int 2))))] := hD
  have o_s3485 := ow_set o_s3483 0 (.int 2) (by decide) (l' := [(0, .int 2), (82, .int 0), (81, .int 1), (84, .int 0), (83, .int 1), (84, .int 0), (83, .int 1), (80, .int 0), (79, .int 0), (80, .int 0), (79, .int 0), (91, .int 120), (80, .int 0), (79, .int 0), (91, .int 120), (80, .int 0), (79, .int 0), (91, .int 120), (80, .int 0), (79, .int 0), (91, .int 120), (80, .int 0), (79, .int 0), (91, .int 120), (80, .int 0), (79, .int 0), (91, .int 120), (80, .int 0), (79, .int 0), (91, .int 120), (80, .int 0), (79, .int 0), (91, .int 120), (80, .int 0), (79, .int 0), (91, .int 120), (95, .int 0), (80, .int 0), (85, .long 0), (79, .int 0), (78, .int 0), (3, .int 0), (78, .int 0), (94, .int 0), (93, .int 0), (92, .int 0), (91, .int 120), (3, .int 0), (3, .int 0), (113, .int 0)]) (w' := [0, 82, 81, 84, 83, 95, 80, 85, 79, 78, 94, 93, 92, 91]) rfl rfl
  generalize (s3483.set 0 (.int 2)) = s3485 at hP hD o_s3485
  refine lv_aload_n hx hb dX12_promise_69 rfl (lv_at hl 1 rfl) ?_
  refine va_get (D := (dC, dI)) (ci := 15) (v := .int 2) (C := RX12) (T := TX12) (N := 150) hx hb hts (in_n_promise_X12) hown hK hP 0 rfl rfl 0 (by decide) (hts (.fieldLink RX12 388 "HeapWorksModel" "thrown" "I") (by decide +kernel)) (fun _ h9 => h9) (ow_at o_s3485 0 rfl) dX12_promise_70 ?_
  refine lv_if_le (tgt := 78) hx hb dX12_promise_73 (by decide) (fun c3486 => absurd c3486 (by decide)) (fun c3486 => ?_)
  refine lv_iconst (v := 0) hx hb dX12_promise_76 (by decide) ?_
  have hP9 := hP.sub (ws' := [(aR, .inr (15, s3485))]) [0] rfl
  have hD9 := hD.sub (ws' := [(aR, .inr (15, s3485))]) [0] (by decide) rfl
  have hK9 := hK.sub (tys' := []) [] rfl
  exact W.iret (v := 0) hx hb hr (fun t ht hW => ⟨⟨0, s3485, rfl, ⟨rfl, o_s3485⟩, by rw [ht]; exact hP9, va_K.moved hW.alike hK9, hD9⟩, hS.F ht⟩) hS.2.2 dX12_promise_77

def l_n_broken : List Cond := [.fieldLink RX12 388 "HeapWorksModel" "thrown" "I", .fieldLink RX12 872 "HeapWorksModel" "promises" "I"]
def w_n_broken : List Cond := .code yX12_broken cX12_broken 2 (some .int) :: (l_n_broken ++ (wsX120))
theorem in_n_broken_X12 : ∀ w ∈ wsX120, w ∈ w_n_broken := fun w h => List.mem_cons_of_mem _ (List.mem_append_right _ (h))
set_option maxHeartbeats 4000000 in
set_option maxRecDepth 100000 in
theorem n_broken (l : Launch) (dC : Nat → ClassId) (dI : Nat → Nat → Nat) (sz : Nat) (aR : Nat) (fsR : List Value) (p0 : Int32) (k_fsR : fh fsR 150 [(0, .int 0), (113, .int 0)])  : Met l yX12_broken w_n_broken ({ frames := 0, cells := 0, slots := 0, locals := 0 }) (va_Pc [.ref aR, .int p0] (fun U => U.heap.size = sz ∧ Wd dC dI [] (fun _ => True) [(aR, .inr (15, fsR))] U)) (va_Qi (fun (r : Int32) (u : List Value) => (p0 < 0 ∧ r = 0 ∧ ow fsR (u) 150 [0] [(0, .int 1), (113, .int 0)]) ∨ (¬ p0 < 0 ∧ ¬ p0 < 0 ∧ r = 0 ∧ ow fsR (u) 150 [0] [(0, .int 1), (113, .int 0)])) (fun (u : List Value) t => Wd dC dI [] (va_A [(aR, .inr (15, fsR))] sz) [(aR, .inr (15, (u)))] t) (va_A [(aR, .inr (15, fsR))] sz))  0 0 (va_A [(aR, .inr (15, fsR))] sz) := by
  refine Met.ofW (cc := cX12_broken) (maxL := 2) (ret := (some .int)) (by decide) rfl ?_
  intro p e s m args below meth c s₁ B hml hv
  obtain ⟨rfl, hsz, hP, hK, hD0⟩ := hv
  have hx := B.exec
  have hb := B.bytes
  have hr := B.returns
  have hts := atoms_spec (ws := w_n_broken) B.pre
  have hown : s.vm.findClass RX12 = some m.cls := findClass_of_methodNamed B.named
  have hlocks := B.notSynchronized
  subst hsz
  have hD := hD0.self (sz := s.heap.size)
  generalize hAe : va_A [(aR, .inr (15, fsR))] s.heap.size = A at hD ⊢
  have hA : ∀ q : Nat, s.heap.size ≤ q → A q := fun q h => by rw [← hAe]; exact Or.inr h
  have hS : va_S A s.heap s.heap [] := va_S.rf
  have hl := lv_entry ([.ref aR, .int p0]) (n := 2) (Nat.le_of_ble_eq_true rfl)
  rw [lg_entry_eq]
  generalize (lg_sl ([.ref aR, .int p0]) ++ List.replicate (2 - (lg_sl ([.ref aR, .int p0])).length) Slot.unset).toArray = ls at hl ⊢
  have hl : lv_has ls 2 [(0, .ref aR), (1, .int p0)] := hl
  have o_fsR := ow_0 k_fsR
  refine lv_aload_n hx hb dX12_broken_0 rfl (lv_at hl 0 rfl) ?_
  refine lv_iload_n hx hb dX12_broken_1 rfl (lv_at hl 1 rfl) ?_
  refine lv_if_lt (tgt := 13) hx hb dX12_broken_2 (by decide) (fun c3493 => ?_) (fun c3493 => ?_)
  · skip
    refine lv_iconst (v := 1) hx hb dX12_broken_13 (by decide) ?_
    refine lv_goto (tgt := 18) hx hb dX12_broken_14 (by decide) ?_
    refine va_put (D := (dC, dI)) (ci := 15) (v := .int 1) (ty := .int) (C := RX12) (T := TX12) (N := 150) hx hb hts (in_n_broken_X12) tyX12 tyX12_ok nmX12 hown hK hP hD hS 0 rfl rfl 0 (by decide) (hts (.fieldLink RX12 388 "HeapWorksModel" "thrown" "I") (by decide +kernel)) (fun _ h9 => h9) rfl (by decide +kernel) rfl rfl (by rw [o_fsR.2.1]; decide) dX12_broken_18 (fun H locs hP hD hS => ?_)
    have hP : va_P (dC, dI) vwCl [(aR, .inr (15, (fsR.set 0 (.int 1))))] H := hP
    have hD : va_D A [(aR, .inr (15, (fsR.set 0 (.int 1))))] := hD
    have o_s3494 := ow_set o_fsR 0 (.int 1) (by decide) (l' := [(0, .int 1), (113, .int 0)]) (w' := [0]) rfl rfl
    generalize (fsR.set 0 (.int 1)) = s3494 at hP hD o_s3494
    refine lv_aload_n hx hb dX12_broken_21 rfl (lv_at hl 0 rfl) ?_
    refine va_get (D := (dC, dI)) (ci := 15) (v := .int 1) (C := RX12) (T := TX12) (N := 150) hx hb hts (in_n_broken_X12) hown hK hP 0 rfl rfl 0 (by decide) (hts (.fieldLink RX12 388 "HeapWorksModel" "thrown" "I") (by decide +kernel)) (fun _ h9 => h9) (ow_at o_s3494 0 rfl) dX12_broken_22 ?_
    refine lv_if_le (tgt := 32) hx hb dX12_broken_25 (by decide) (fun c3495 => absurd c3495 (by decide)) (fun c3495 => ?_)
    refine lv_iconst (v := 0) hx hb dX12_broken_28 (by decide) ?_
    refine lv_goto (tgt := 38) hx hb dX12_broken_29 (by decide) ?_
    have hP9 := hP.sub (ws' := [(aR, .inr (15, s3494))]) [0] rfl
    have hD9 := hD.sub (ws' := [(aR, .inr (15, s3494))]) [0] (by decide) rfl
    have hK9 := hK.sub (tys' := []) [] rfl
    exact W.iret (v := 0) hx hb hr (fun t ht hW => ⟨⟨0, s3494, rfl, (Or.inl ⟨c3493, rfl, o_s3494⟩), by rw [ht]; exact hP9, va_K.moved hW.alike hK9, hD9⟩, hS.F ht⟩) hS.2.2 dX12_broken_38
  · skip
    refine lv_iload_n hx hb dX12_broken_5 rfl (lv_at hl 1 rfl) ?_
    refine lv_aload_n hx hb dX12_broken_6 rfl (lv_at hl 0 rfl) ?_
    refine va_get (D := (dC, dI)) (ci := 15) (v := .int 0) (C := RX12) (T := TX12) (N := 150) hx hb hts (in_n_broken_X12) hown hK hP 0 rfl rfl 113 (by decide) (hts (.fieldLink RX12 872 "HeapWorksModel" "promises" "I") (by decide +kernel)) (fun _ h9 => h9) (ow_at o_fsR 1 rfl) dX12_broken_7 ?_
    refine lv_icmp_lt (tgt := 17) hx hb dX12_broken_10 (by decide) (fun c3496 => (by exfalso; have bd_p0 := i_bd p0; (try simp only [i_lt, i_le, i_eq, kc_0] at c3493 c3496); omega)) (fun c3496 => ?_)
    refine lv_iconst (v := 1) hx hb dX12_broken_13 (by decide) ?_
    refine lv_goto (tgt := 18) hx hb dX12_broken_14 (by decide) ?_
    refine va_put (D := (dC, dI)) (ci := 15) (v := .int 1) (ty := .int) (C := RX12) (T := TX12) (N := 150) hx hb hts (in_n_broken_X12) tyX12 tyX12_ok nmX12 hown hK hP hD hS 0 rfl rfl 0 (by decide) (hts (.fieldLink RX12 388 "HeapWorksModel" "thrown" "I") (by decide +kernel)) (fun _ h9 => h9) rfl (by decide +kernel) rfl rfl (by rw [o_fsR.2.1]; decide) dX12_broken_18 (fun H locs hP hD hS => ?_)
    have hP : va_P (dC, dI) vwCl [(aR, .inr (15, (fsR.set 0 (.int 1))))] H := hP
    have hD : va_D A [(aR, .inr (15, (fsR.set 0 (.int 1))))] := hD
    have o_s3497 := ow_set o_fsR 0 (.int 1) (by decide) (l' := [(0, .int 1), (113, .int 0)]) (w' := [0]) rfl rfl
    generalize (fsR.set 0 (.int 1)) = s3497 at hP hD o_s3497
    refine lv_aload_n hx hb dX12_broken_21 rfl (lv_at hl 0 rfl) ?_
    refine va_get (D := (dC, dI)) (ci := 15) (v := .int 1) (C := RX12) (T := TX12) (N := 150) hx hb hts (in_n_broken_X12) hown hK hP 0 rfl rfl 0 (by decide) (hts (.fieldLink RX12 388 "HeapWorksModel" "thrown" "I") (by decide +kernel)) (fun _ h9 => h9) (ow_at o_s3497 0 rfl) dX12_broken_22 ?_
    refine lv_if_le (tgt := 32) hx hb dX12_broken_25 (by decide) (fun c3498 => absurd c3498 (by decide)) (fun c3498 => ?_)
    refine lv_iconst (v := 0) hx hb dX12_broken_28 (by decide) ?_
    refine lv_goto (tgt := 38) hx hb dX12_broken_29 (by decide) ?_
    have hP9 := hP.sub (ws' := [(aR, .inr (15, s3497))]) [0] rfl
    have hD9 := hD.sub (ws' := [(aR, .inr (15, s3497))]) [0] (by decide) rfl
    have hK9 := hK.sub (tys' := []) [] rfl
    exact W.iret (v := 0) hx hb hr (fun t ht hW => ⟨⟨0, s3497, rfl, (Or.inr (⟨c3493, c3496, rfl, o_s3497⟩)), by rw [ht]; exact hP9, va_K.moved hW.alike hK9, hD9⟩, hS.F ht⟩) hS.2.2 dX12_broken_38

def l_z_X12_isPicture : List Cond := []
def w_z_X12_isPicture : List Cond := .code yX12_isPicture cX12_isPicture 2 (some .boolean) :: (l_z_X12_isPicture)
set_option maxHeartbeats 4000000 in
set_option maxRecDepth 100000 in
theorem z_X12_isPicture (l : Launch) (dC : Nat → ClassId) (dI : Nat → Nat → Nat) (sz : Nat) (Br0 : Nat) (Va0 : Int32)   : Met l yX12_isPicture w_z_X12_isPicture ({ frames := 0, cells := 0, slots := 0, locals := 0 }) (va_Pc [.ref Br0, .int Va0] (fun U => U.heap.size = sz ∧ Wd dC dI [] (fun _ => True) [] U)) (va_Qi (fun (r : Int32) (u : Unit) => (Va0 < 0 ∧ r = 0) ∨ (¬ Va0 < 0 ∧ 4 ≤ Va0 ∧ r = 0) ∨ (¬ Va0 < 0 ∧ ¬ 4 ≤ Va0 ∧ r = 1)) (fun (u : Unit) t => Wd dC dI [] (va_A [] sz) [] t) (va_A [] sz))  0 0 (va_A [] sz) := by
  refine Met.ofW (cc := cX12_isPicture) (maxL := 2) (ret := (some .boolean)) (by decide) rfl ?_
  intro p e s m args below meth c s₁ B hml hv
  obtain ⟨rfl, hsz, hP, hK, hD0⟩ := hv
  have hx := B.exec
  have hb := B.bytes
  have hr := B.returns
  have hts := atoms_spec (ws := w_z_X12_isPicture) B.pre
  have hown : s.vm.findClass RX12 = some m.cls := findClass_of_methodNamed B.named
  have hlocks := B.notSynchronized
  subst hsz
  have hD := hD0.self (sz := s.heap.size)
  generalize hAe : va_A [] s.heap.size = A at hD ⊢
  have hA : ∀ q : Nat, s.heap.size ≤ q → A q := fun q h => by rw [← hAe]; exact Or.inr h
  have hS : va_S A s.heap s.heap [] := va_S.rf
  have hl := lv_entry ([.ref Br0, .int Va0]) (n := 2) (Nat.le_of_ble_eq_true rfl)
  rw [lg_entry_eq]
  generalize (lg_sl ([.ref Br0, .int Va0]) ++ List.replicate (2 - (lg_sl ([.ref Br0, .int Va0])).length) Slot.unset).toArray = ls at hl ⊢
  have hl : lv_has ls 2 [(0, .ref Br0), (1, .int Va0)] := hl
  refine lv_iload_n hx hb dX12_isPicture_0 rfl (lv_at hl 1 rfl) ?_
  refine lv_if_lt (tgt := 13) hx hb dX12_isPicture_1 (by decide) (fun c3501 => ?_) (fun c3501 => ?_)
  · skip
    refine lv_iconst (v := 0) hx hb dX12_isPicture_13 (by decide) ?_
    have hP9 := hP.sub (ws' := []) [] rfl
    have hD9 := hD.sub (ws' := []) [] (by decide) rfl
    have hK9 := hK.sub (tys' := []) [] rfl
    exact W.zret (v := 0) hx hb hr rfl (fun t ht hW => ⟨⟨0, (), rfl, (Or.inl ⟨c3501, rfl⟩), by rw [ht]; exact hP9, va_K.moved hW.alike hK9, hD9⟩, hS.F ht⟩) hS.2.2 dX12_isPicture_14
  · skip
    refine lv_iload_n hx hb dX12_isPicture_4 rfl (lv_at hl 1 rfl) ?_
    refine lv_iconst (v := 4) hx hb dX12_isPicture_5 (by decide) ?_
    refine lv_icmp_ge (tgt := 13) hx hb dX12_isPicture_6 (by decide) (fun c3502 => ?_) (fun c3502 => ?_)
    · skip
      refine lv_iconst (v := 0) hx hb dX12_isPicture_13 (by decide) ?_
      have hP9 := hP.sub (ws' := []) [] rfl
      have hD9 := hD.sub (ws' := []) [] (by decide) rfl
      have hK9 := hK.sub (tys' := []) [] rfl
      exact W.zret (v := 0) hx hb hr rfl (fun t ht hW => ⟨⟨0, (), rfl, (Or.inr (Or.inl ⟨c3501, c3502, rfl⟩)), by rw [ht]; exact hP9, va_K.moved hW.alike hK9, hD9⟩, hS.F ht⟩) hS.2.2 dX12_isPicture_14
    · skip
      refine lv_iconst (v := 1) hx hb dX12_isPicture_9 (by decide) ?_
      refine lv_goto (tgt := 14) hx hb dX12_isPicture_10 (by decide) ?_
      have hP9 := hP.sub (ws' := []) [] rfl
      have hD9 := hD.sub (ws' := []) [] (by decide) rfl
      have hK9 := hK.sub (tys' := []) [] rfl
      exact W.zret (v := 1) hx hb hr rfl (fun t ht hW => ⟨⟨1, (), rfl, (Or.inr (Or.inr (⟨c3501, c3502, rfl⟩))), by rw [ht]; exact hP9, va_K.moved hW.alike hK9, hD9⟩, hS.F ht⟩) hS.2.2 dX12_isPicture_14

def l_z_X12_picture0 : List Cond := [.methodLink RX12 539 yX12_walkRoots, .instanceMethod yX12_walkRoots, .selects RX12 yX12_walkRoots yX12_walkRoots, .initialized RX12, .fieldLink RX12 183 "HeapWorksModel" "things" "[I", .fieldLink RX12 522 "HeapWorksModel" "walkedMany" "I", .fieldLink RX12 234 "HeapWorksModel" "rootMany" "[I", .fieldLink RX12 470 "HeapWorksModel" "toldMany" "I", .fieldLink RX12 413 "HeapWorksModel" "classes" "I", .code yX12_walkRoots cX12_walkRoots 2 none, .methodLink RX12 532 yX12_beginWalk, .instanceMethod yX12_beginWalk, .selects RX12 yX12_beginWalk yX12_beginWalk, .code yX12_beginWalk cX12_beginWalk 2 none, .fieldLink RX12 180 "HeapWorksModel" "placeIn" "[I"]
def w_z_X12_picture0 : List Cond := .code yX12_picture0 cX12_picture0 10 none :: (l_z_X12_picture0 ++ (wsX120))
theorem in_z_X12_picture0_X12 : ∀ w ∈ wsX120, w ∈ w_z_X12_picture0 := fun w h => List.mem_cons_of_mem _ (List.mem_append_right _ (h))
theorem g_z_X12_picture0_z_X12_walkRoots_539 : GoodIn w_z_X12_picture0 (wsV RX12 539 RX12 yX12_walkRoots w_z_X12_walkRoots) := goodIn_app (goodIn_sub (by decide +kernel) (by decide +kernel)) (goodIn_ca (goodIn_sub (by decide +kernel) (by decide +kernel)) (goodIn_in in_z_X12_picture0_X12 gd_X12))
set_option maxHeartbeats 4000000 in
set_option maxRecDepth 100000 in
theorem z_X12_picture0 (l : Launch) (dC : Nat → ClassId) (dI : Nat → Nat → Nat) (sz : Nat) (Ad0 : Nat) (Fs0 : List Value) (Ad1 : Nat) (Fa0 : Nat → Int32) (Ka0 : ClassId) (Ad2 : Nat) (Fa1 : Nat → Int32) (Ka1 : ClassId) (Ad3 : Nat) (Fa2 : Nat → Int32) (Ka2 : ClassId) (Va0 : Int32) (k_Fs0 : fh Fs0 150 [(20, .int 0), (31, .int 0), (46, .ref Ad1), (47, .int 0), (48, .ref Ad2), (65, .ref Ad3)]) (hz_Fa1 : ∀ j, Fa1 j = 0) (hz_Fa2 : ∀ j, Fa2 j = 0) (gv_Va0 : (0 : Int) ≤ Va0.toInt ∧ Va0.toInt ≤ 3) : Met l yX12_picture0 w_z_X12_picture0 ({ frames := 2, cells := 0, slots := 0, locals := 42 }) (va_Pc [.ref Ad0, .int Va0] (fun U => U.heap.size = sz ∧ Wd dC dI [(Ka0, .int), (Ka1, .int), (Ka2, .int)] (fun _ => True) [(Ad0, .inr (15, Fs0)), (Ad1, .inl (Ka0, 400, .inl Fa0)), (Ad2, .inl (Ka1, 5, .inl Fa1)), (Ad3, .inl (Ka2, 5, .inl Fa2))] U)) (va_Qv (fun (u : List Value × (Nat → Int32) × (Nat → Int32) × (Nat → Int32)) => (ow Fs0 (u.1) 150 [47] [(47, .int 0), (46, .ref Ad1), (20, .int 0), (31, .int 0), (46, .ref Ad1), (20, .int 0), (31, .int 0), (46, .ref Ad1), (48, .ref Ad2), (65, .ref Ad3)] ∧ (∀ j, (u.2.2.1) j = 0) ∧ (u.2.2.1) Va0.toNatClampNeg = 0 ∧ (∀ j, (u.2.2.2) j = 0) ∧ (u.2.2.2) Va0.toNatClampNeg = 0)) (fun (u : List Value × (Nat → Int32) × (Nat → Int32) × (Nat → Int32)) t => Wd dC dI [(Ka0, .int), (Ka1, .int), (Ka2, .int)] (va_A [(Ad0, .inr (15, Fs0)), (Ad1, .inl (Ka0, 400, .inl Fa0)), (Ad2, .inl (Ka1, 5, .inl Fa1)), (Ad3, .inl (Ka2, 5, .inl Fa2))] sz) [(Ad0, .inr (15, (u.1))), (Ad1, .inl (Ka0, 400, .inl ((u.2.1)))), (Ad2, .inl (Ka1, 5, .inl ((u.2.2.1)))), (Ad3, .inl (Ka2, 5, .inl ((u.2.2.2))))] t) (va_A [(Ad0, .inr (15, Fs0)), (Ad1, .inl (Ka0, 400, .inl Fa0)), (Ad2, .inl (Ka1, 5, .inl Fa1)), (Ad3, .inl (Ka2, 5, .inl Fa2))] sz))  0 0 (va_A [(Ad0, .inr (15, Fs0)), (Ad1, .inl (Ka0, 400, .inl Fa0)), (Ad2, .inl (Ka1, 5, .inl Fa1)), (Ad3, .inl (Ka2, 5, .inl Fa2))] sz) := by
  refine Met.ofW (cc := cX12_picture0) (maxL := 10) (ret := none) (by decide) rfl ?_
  intro p e s m args below meth c s₁ B hml hv
  obtain ⟨rfl, hsz, hP, hK, hD0⟩ := hv
  have hx := B.exec
  have hb := B.bytes
  have hr := B.returns
  have hts := atoms_spec (ws := w_z_X12_picture0) B.pre
  have hown : s.vm.findClass RX12 = some m.cls := findClass_of_methodNamed B.named
  have hlocks := B.notSynchronized
  subst hsz
  have hD := hD0.self (sz := s.heap.size)
  generalize hAe : va_A [(Ad0, .inr (15, Fs0)), (Ad1, .inl (Ka0, 400, .inl Fa0)), (Ad2, .inl (Ka1, 5, .inl Fa1)), (Ad3, .inl (Ka2, 5, .inl Fa2))] s.heap.size = A at hD ⊢
  have hA : ∀ q : Nat, s.heap.size ≤ q → A q := fun q h => by rw [← hAe]; exact Or.inr h
  have hS : va_S A s.heap s.heap [] := va_S.rf
  have hl := lv_entry ([.ref Ad0, .int Va0]) (n := 10) (Nat.le_of_ble_eq_true rfl)
  rw [lg_entry_eq]
  generalize (lg_sl ([.ref Ad0, .int Va0]) ++ List.replicate (10 - (lg_sl ([.ref Ad0, .int Va0])).length) Slot.unset).toArray = ls at hl ⊢
  have hl : lv_has ls 10 [(0, .ref Ad0), (1, .int Va0)] := hl
  have o_Fs0 := ow_0 k_Fs0
  refine lv_aload_n hx hb dX12_picture0_0 rfl (lv_at hl 0 rfl) ?_
  have hPc := hP.sub (ws' := [(Ad0, .inr (15, Fs0)), (Ad1, .inl (Ka0, 400, .inl Fa0))]) [0, 1] rfl
  have hDc := hD.sub (ws' := [(Ad0, .inr (15, Fs0)), (Ad1, .inl (Ka0, 400, .inl Fa0))]) [0, 1] (by decide) rfl
  have hKc := hK.sub (tys' := [(Ka0, .int)]) [0] rfl
  have hFc := va_free (wc := [(Ad0, .inr (15, Fs0)), (Ad1, .inl (Ka0, 400, .inl Fa0))]) hD hS hA [0, 1] rfl
  refine va_callv (va_runV (As := []) (rest := []) ⟨hx, hb, hml, hown, hts⟩ (z_X12_walkRoots l dC dI s.heap.size Ad0 Fs0 Ad1 Fa0 Ka0 (fh_sub o_Fs0.2 [0, 1, 2, 3] rfl) ) (cwV 0 hts g_z_X12_picture0_z_X12_walkRoots_539 rfl rfl rfl (by decide +kernel) ⟨Nat.le_of_ble_eq_true rfl, Nat.le_of_ble_eq_true rfl⟩) ⟨fun a U g mk q => by obtain ⟨q0, q1, qP, qK, qD⟩ := q; exact ⟨q0, q1, qP, va_K.moved (u := U) (U := U.calling g mk a) (Vm.Alike.refl U.vm) qK, qD⟩, va_recv hK hP (ci := 15) (q0 := 0) rfl rfl, fun U hU hW => ⟨rfl, by rw [hU], by rw [hU]; exact hPc, va_K.moved hW.alike hKc, hDc.weaken (fun _ _ _ _ => trivial)⟩⟩ rfl rfl hl.1 rfl (lv_room (Nat.le_of_ble_eq_true rfl)) dX12_picture0_1 ⟨Nat.le_of_ble_eq_true rfl, Nat.le_of_ble_eq_true rfl⟩) hS (fun q _ h => hFc q h) hFc (fun u t H1 locs ht hvm hw hB hz1 hk1 hS => ?_)
  obtain ⟨s3662, f3663⟩ := u
  obtain ⟨hP1, hK1, hD1⟩ := hB
  rw [ht] at hP1
  try dsimp only at hw
  obtain ⟨hP, hD⟩ := va_join (wr := [(Ad2, .inl (Ka1, 5, .inl Fa1)), (Ad3, .inl (Ka2, 5, .inl Fa2))]) (w1 := [(Ad0, .inr (15, s3662)), (Ad1, .inl (Ka0, 400, .inl f3663))]) hP hD [0, 1] [2, 3] rfl rfl (by decide) (by decide) hk1 hFc hP1 hD1
  have hK := hK.sub (tys' := [(Ka1, .int), (Ka2, .int), (Ka0, .int)]) [1, 2, 0] rfl
  generalize H1 = H at hP hS ⊢
  have hP : va_P (dC, dI) vwCl [(Ad2, .inl (Ka1, 5, .inl Fa1)), (Ad3, .inl (Ka2, 5, .inl Fa2)), (Ad0, .inr (15, s3662)), (Ad1, .inl (Ka0, 400, .inl f3663))] H := hP
  have hD : va_D A [(Ad2, .inl (Ka1, 5, .inl Fa1)), (Ad3, .inl (Ka2, 5, .inl Fa2)), (Ad0, .inr (15, s3662)), (Ad1, .inl (Ka0, 400, .inl f3663))] := hD
  have o_s3662 := hw
  have o_s3662 := ow_on o_Fs0 o_s3662 (l' := [(47, .int 0), (46, .ref Ad1), (20, .int 0), (31, .int 0), (46, .ref Ad1), (20, .int 0), (31, .int 0), (46, .ref Ad1), (48, .ref Ad2), (65, .ref Ad3)]) (w' := [47]) rfl rfl
  refine lv_aload_n hx hb dX12_picture0_4 rfl (lv_at hl 0 rfl) ?_
  refine va_get (D := (dC, dI)) (ci := 15) (v := .ref Ad2) (C := RX12) (T := TX12) (N := 150) hx hb hts (in_z_X12_picture0_X12) hown hK hP 2 rfl rfl 48 (by decide) (hts (.fieldLink RX12 183 "HeapWorksModel" "things" "[I") (by decide +kernel)) (fun _ h9 => h9) (ow_at o_s3662 8 rfl) dX12_picture0_5 ?_
  refine lv_iload_n hx hb dX12_picture0_8 rfl (lv_at hl 1 rfl) ?_
  refine lv_aload_n hx hb dX12_picture0_9 rfl (lv_at hl 0 rfl) ?_
  refine va_get (D := (dC, dI)) (ci := 15) (v := .int 0) (C := RX12) (T := TX12) (N := 150) hx hb hts (in_z_X12_picture0_X12) hown hK hP 2 rfl rfl 47 (by decide) (hts (.fieldLink RX12 522 "HeapWorksModel" "walkedMany" "I") (by decide +kernel)) (fun _ h9 => h9) (ow_at o_s3662 0 rfl) dX12_picture0_10 ?_
  refine va_iast hx hb hK hP hD hS 0 0 rfl rfl (by rw [vp_in_iff]; (try simp only [i_lt, i_le, i_eq] at gv_Va0); omega) dX12_picture0_13 (fun H locs hP hD hS => ?_)
  have hP : va_P (dC, dI) vwCl [(Ad2, .inl (Ka1, 5, .inl (upd Fa1 (Va0 : Int32).toNatClampNeg 0))), (Ad3, .inl (Ka2, 5, .inl Fa2)), (Ad0, .inr (15, s3662)), (Ad1, .inl (Ka0, 400, .inl f3663))] H := hP
  have hD : va_D A [(Ad2, .inl (Ka1, 5, .inl (upd Fa1 (Va0 : Int32).toNatClampNeg 0))), (Ad3, .inl (Ka2, 5, .inl Fa2)), (Ad0, .inr (15, s3662)), (Ad1, .inl (Ka0, 400, .inl f3663))] := hD
  have q3665 : (upd Fa1 (Va0 : Int32).toNatClampNeg 0) (Va0 : Int32).toNatClampNeg = 0 := pk_us
  have z3666 : ∀ j, (upd Fa1 (Va0 : Int32).toNatClampNeg 0) j = 0 := az_up hz_Fa1 rfl
  generalize upd Fa1 (Va0 : Int32).toNatClampNeg 0 = f3664 at hP hD q3665 z3666
  refine lv_aload_n hx hb dX12_picture0_14 rfl (lv_at hl 0 rfl) ?_
  refine va_get (D := (dC, dI)) (ci := 15) (v := .ref Ad3) (C := RX12) (T := TX12) (N := 150) hx hb hts (in_z_X12_picture0_X12) hown hK hP 2 rfl rfl 65 (by decide) (hts (.fieldLink RX12 234 "HeapWorksModel" "rootMany" "[I") (by decide +kernel)) (fun _ h9 => h9) (ow_at o_s3662 9 rfl) dX12_picture0_15 ?_
  refine lv_iload_n hx hb dX12_picture0_18 rfl (lv_at hl 1 rfl) ?_
  refine lv_iconst (v := 0) hx hb dX12_picture0_19 (by decide) ?_
  refine va_iast hx hb hK hP hD hS 1 1 rfl rfl (by rw [vp_in_iff]; (try simp only [i_lt, i_le, i_eq] at gv_Va0); omega) dX12_picture0_20 (fun H locs hP hD hS => ?_)
  have hP : va_P (dC, dI) vwCl [(Ad2, .inl (Ka1, 5, .inl f3664)), (Ad3, .inl (Ka2, 5, .inl (upd Fa2 (Va0 : Int32).toNatClampNeg 0))), (Ad0, .inr (15, s3662)), (Ad1, .inl (Ka0, 400, .inl f3663))] H := hP
  have hD : va_D A [(Ad2, .inl (Ka1, 5, .inl f3664)), (Ad3, .inl (Ka2, 5, .inl (upd Fa2 (Va0 : Int32).toNatClampNeg 0))), (Ad0, .inr (15, s3662)), (Ad1, .inl (Ka0, 400, .inl f3663))] := hD
  have q3668 : (upd Fa2 (Va0 : Int32).toNatClampNeg 0) (Va0 : Int32).toNatClampNeg = 0 := pk_us
  have z3669 : ∀ j, (upd Fa2 (Va0 : Int32).toNatClampNeg 0) j = 0 := az_up hz_Fa2 rfl
  generalize upd Fa2 (Va0 : Int32).toNatClampNeg 0 = f3667 at hP hD q3668 z3669
  refine lv_aload_n hx hb dX12_picture0_21 rfl (lv_at hl 0 rfl) ?_
  refine va_get (D := (dC, dI)) (ci := 15) (v := .int 0) (C := RX12) (T := TX12) (N := 150) hx hb hts (in_z_X12_picture0_X12) hown hK hP 2 rfl rfl 31 (by decide) (hts (.fieldLink RX12 470 "HeapWorksModel" "toldMany" "I") (by decide +kernel)) (fun _ h9 => h9) (ow_at o_s3662 3 rfl) dX12_picture0_22 ?_
  refine lv_istore_n (lv' := [(2, .int 0), (0, .ref Ad0), (1, .int Va0)]) hx hb dX12_picture0_25 rfl hl (by decide) rfl (fun ls hl => ?_)
  refine lv_iconst (v := 0) hx hb dX12_picture0_26 (by decide) ?_
  refine lv_istore_n (lv' := [(3, .int 0), (2, .int 0), (0, .ref Ad0), (1, .int Va0)]) hx hb dX12_picture0_27 rfl hl (by decide) rfl (fun ls hl => ?_)
  refine lv_iload_n hx hb dX12_picture0_28 rfl (lv_at hl 0 rfl) ?_
  refine lv_aload_n hx hb dX12_picture0_29 rfl (lv_at hl 2 rfl) ?_
  refine va_get (D := (dC, dI)) (ci := 15) (v := .int 0) (C := RX12) (T := TX12) (N := 150) hx hb hts (in_z_X12_picture0_X12) hown hK hP 2 rfl rfl 31 (by decide) (hts (.fieldLink RX12 470 "HeapWorksModel" "toldMany" "I") (by decide +kernel)) (fun _ h9 => h9) (ow_at o_s3662 3 rfl) dX12_picture0_30 ?_
  refine lv_icmp_ge (tgt := 59) hx hb dX12_picture0_33 (by decide) (fun c3670 => ?_) (fun c3670 => absurd c3670 (by decide))
  refine lv_iconst (v := 0) hx hb dX12_picture0_59 (by decide) ?_
  refine lv_istore_n (lv' := [(3, .int 0), (2, .int 0), (0, .ref Ad0), (1, .int Va0)]) hx hb dX12_picture0_60 rfl hl (by decide) rfl (fun ls hl => ?_)
  refine lv_iload_n hx hb dX12_picture0_61 rfl (lv_at hl 0 rfl) ?_
  refine lv_bipush (v := 6) hx hb dX12_picture0_62 (by decide) ?_
  refine lv_aload_n hx hb dX12_picture0_64 rfl (lv_at hl 2 rfl) ?_
  refine va_get (D := (dC, dI)) (ci := 15) (v := .int 0) (C := RX12) (T := TX12) (N := 150) hx hb hts (in_z_X12_picture0_X12) hown hK hP 2 rfl rfl 20 (by decide) (hts (.fieldLink RX12 413 "HeapWorksModel" "classes" "I") (by decide +kernel)) (fun _ h9 => h9) (ow_at o_s3662 2 rfl) dX12_picture0_65 ?_
  refine lv_imul hx hb dX12_picture0_68  ?_
  refine lv_topi (fun x3671 ex3671 => ?_)
  obtain rfl : x3671 = 0 := ex3671.trans (by decide)
  refine lv_icmp_ge (tgt := 123) hx hb dX12_picture0_69 (by decide) (fun c3672 => ?_) (fun c3672 => absurd c3672 (by decide))
  refine lv_iconst (v := 0) hx hb dX12_picture0_123 (by decide) ?_
  refine lv_istore_n (lv' := [(3, .int 0), (2, .int 0), (0, .ref Ad0), (1, .int Va0)]) hx hb dX12_picture0_124 rfl hl (by decide) rfl (fun ls hl => ?_)
  refine lv_iconst (v := 0) hx hb dX12_picture0_125 (by decide) ?_
  refine lv_istore (lv' := [(4, .int 0), (3, .int 0), (2, .int 0), (0, .ref Ad0), (1, .int Va0)]) hx hb dX12_picture0_126 hl (by decide) rfl (fun ls hl => ?_)
  refine lv_iload hx hb dX12_picture0_128 (lv_at hl 0 rfl) ?_
  refine lv_aload_n hx hb dX12_picture0_130 rfl (lv_at hl 3 rfl) ?_
  refine va_get (D := (dC, dI)) (ci := 15) (v := .int 0) (C := RX12) (T := TX12) (N := 150) hx hb hts (in_z_X12_picture0_X12) hown hK hP 2 rfl rfl 47 (by decide) (hts (.fieldLink RX12 522 "HeapWorksModel" "walkedMany" "I") (by decide +kernel)) (fun _ h9 => h9) (ow_at o_s3662 0 rfl) dX12_picture0_131 ?_
  refine lv_icmp_ge (tgt := 324) hx hb dX12_picture0_134 (by decide) (fun c3673 => ?_) (fun c3673 => absurd c3673 (by decide))
  have hP9 := hP.sub (ws' := [(Ad0, .inr (15, s3662)), (Ad1, .inl (Ka0, 400, .inl f3663)), (Ad2, .inl (Ka1, 5, .inl f3664)), (Ad3, .inl (Ka2, 5, .inl f3667))]) [2, 3, 0, 1] rfl
  have hD9 := hD.sub (ws' := [(Ad0, .inr (15, s3662)), (Ad1, .inl (Ka0, 400, .inl f3663)), (Ad2, .inl (Ka1, 5, .inl f3664)), (Ad3, .inl (Ka2, 5, .inl f3667))]) [2, 3, 0, 1] (by decide) rfl
  have hK9 := hK.sub (tys' := [(Ka0, .int), (Ka1, .int), (Ka2, .int)]) [2, 0, 1] rfl
  exact W.vret hx hb hr (fun t ht hW => ⟨⟨(s3662, f3663, f3664, f3667), rfl, ⟨o_s3662, z3666, q3665, z3669, q3668⟩, by rw [ht]; exact hP9, va_K.moved hW.alike hK9, hD9⟩, hS.F ht⟩) hS.2.2 dX12_picture0_324

def l_z_X12_findWays : List Cond := [.fieldLink RX12 183 "HeapWorksModel" "things" "[I", .fieldLink RX12 234 "HeapWorksModel" "rootMany" "[I"]
def w_z_X12_findWays : List Cond := .code yX12_findWays cX12_findWays 5 none :: (l_z_X12_findWays ++ (wsX120))
theorem in_z_X12_findWays_X12 : ∀ w ∈ wsX120, w ∈ w_z_X12_findWays := fun w h => List.mem_cons_of_mem _ (List.mem_append_right _ (h))
set_option maxHeartbeats 4000000 in
set_option maxRecDepth 100000 in
theorem z_X12_findWays (l : Launch) (dC : Nat → ClassId) (dI : Nat → Nat → Nat) (sz : Nat) (Ad0 : Nat) (Fs0 : List Value) (Ad1 : Nat) (Fa0 : Nat → Int32) (Ka0 : ClassId) (Ad2 : Nat) (Fa1 : Nat → Int32) (Ka1 : ClassId) (Va0 : Int32) (k_Fs0 : fh Fs0 150 [(48, .ref Ad1), (65, .ref Ad2), (48, .ref Ad1), (65, .ref Ad2)]) (hk0_Fa0 : Fa0 Va0.toNatClampNeg = 0) (hk1_Fa1 : Fa1 Va0.toNatClampNeg = 0) (gv_Va0 : (0 : Int) ≤ Va0.toInt ∧ Va0.toInt ≤ 3) : Met l yX12_findWays w_z_X12_findWays ({ frames := 0, cells := 0, slots := 0, locals := 0 }) (va_Pc [.ref Ad0, .int Va0] (fun U => U.heap.size = sz ∧ Wd dC dI [(Ka0, .int), (Ka1, .int)] (fun _ => True) [(Ad0, .inr (15, Fs0)), (Ad1, .inl (Ka0, 5, .inl Fa0)), (Ad2, .inl (Ka1, 5, .inl Fa1))] U)) (va_Qv (fun (u : Unit) => True) (fun (u : Unit) t => Wd dC dI [(Ka0, .int), (Ka1, .int)] (va_A [(Ad0, .inr (15, Fs0)), (Ad1, .inl (Ka0, 5, .inl Fa0)), (Ad2, .inl (Ka1, 5, .inl Fa1))] sz) [(Ad0, .inr (15, Fs0)), (Ad1, .inl (Ka0, 5, .inl Fa0)), (Ad2, .inl (Ka1, 5, .inl Fa1))] t) (va_A [(Ad0, .inr (15, Fs0)), (Ad1, .inl (Ka0, 5, .inl Fa0)), (Ad2, .inl (Ka1, 5, .inl Fa1))] sz))  0 0 (va_A [(Ad0, .inr (15, Fs0)), (Ad1, .inl (Ka0, 5, .inl Fa0)), (Ad2, .inl (Ka1, 5, .inl Fa1))] sz) := by
  refine Met.ofW (cc := cX12_findWays) (maxL := 5) (ret := none) (by decide) rfl ?_
  intro p e s m args below meth c s₁ B hml hv
  obtain ⟨rfl, hsz, hP, hK, hD0⟩ := hv
  have hx := B.exec
  have hb := B.bytes
  have hr := B.returns
  have hts := atoms_spec (ws := w_z_X12_findWays) B.pre
  have hown : s.vm.findClass RX12 = some m.cls := findClass_of_methodNamed B.named
  have hlocks := B.notSynchronized
  subst hsz
  have hD := hD0.self (sz := s.heap.size)
  generalize hAe : va_A [(Ad0, .inr (15, Fs0)), (Ad1, .inl (Ka0, 5, .inl Fa0)), (Ad2, .inl (Ka1, 5, .inl Fa1))] s.heap.size = A at hD ⊢
  have hA : ∀ q : Nat, s.heap.size ≤ q → A q := fun q h => by rw [← hAe]; exact Or.inr h
  have hS : va_S A s.heap s.heap [] := va_S.rf
  have hl := lv_entry ([.ref Ad0, .int Va0]) (n := 5) (Nat.le_of_ble_eq_true rfl)
  rw [lg_entry_eq]
  generalize (lg_sl ([.ref Ad0, .int Va0]) ++ List.replicate (5 - (lg_sl ([.ref Ad0, .int Va0])).length) Slot.unset).toArray = ls at hl ⊢
  have hl : lv_has ls 5 [(0, .ref Ad0), (1, .int Va0)] := hl
  have o_Fs0 := ow_0 k_Fs0
  refine lv_iconst (v := 0) hx hb dX12_findWays_0 (by decide) ?_
  refine lv_istore_n (lv' := [(2, .int 0), (0, .ref Ad0), (1, .int Va0)]) hx hb dX12_findWays_1 rfl hl (by decide) rfl (fun ls hl => ?_)
  refine lv_iload_n hx hb dX12_findWays_2 rfl (lv_at hl 0 rfl) ?_
  refine lv_aload_n hx hb dX12_findWays_3 rfl (lv_at hl 1 rfl) ?_
  refine va_get (D := (dC, dI)) (ci := 15) (v := .ref Ad1) (C := RX12) (T := TX12) (N := 150) hx hb hts (in_z_X12_findWays_X12) hown hK hP 0 rfl rfl 48 (by decide) (hts (.fieldLink RX12 183 "HeapWorksModel" "things" "[I") (by decide +kernel)) (fun _ h9 => h9) (ow_at o_Fs0 0 rfl) dX12_findWays_4 ?_
  refine lv_iload_n hx hb dX12_findWays_7 rfl (lv_at hl 2 rfl) ?_
  refine va_iald hx hb hK hP 1 0 rfl rfl (by rw [vp_in_iff]; (try simp only [i_lt, i_le, i_eq] at gv_Va0); omega) dX12_findWays_8 ?_
  refine lv_topi (fun x3694 ex3694 => ?_)
  obtain rfl : 0 = x3694 := (ex3694.trans hk0_Fa0).symm
  refine lv_icmp_ge (tgt := 25) hx hb dX12_findWays_9 (by decide) (fun c3695 => ?_) (fun c3695 => absurd c3695 (by decide))
  refine lv_iconst (v := 0) hx hb dX12_findWays_25 (by decide) ?_
  refine lv_istore_n (lv' := [(2, .int 0), (0, .ref Ad0), (1, .int Va0)]) hx hb dX12_findWays_26 rfl hl (by decide) rfl (fun ls hl => ?_)
  refine lv_iload_n hx hb dX12_findWays_27 rfl (lv_at hl 0 rfl) ?_
  refine lv_aload_n hx hb dX12_findWays_28 rfl (lv_at hl 1 rfl) ?_
  refine va_get (D := (dC, dI)) (ci := 15) (v := .ref Ad2) (C := RX12) (T := TX12) (N := 150) hx hb hts (in_z_X12_findWays_X12) hown hK hP 0 rfl rfl 65 (by decide) (hts (.fieldLink RX12 234 "HeapWorksModel" "rootMany" "[I") (by decide +kernel)) (fun _ h9 => h9) (ow_at o_Fs0 1 rfl) dX12_findWays_29 ?_
  refine lv_iload_n hx hb dX12_findWays_32 rfl (lv_at hl 2 rfl) ?_
  refine va_iald hx hb hK hP 2 1 rfl rfl (by rw [vp_in_iff]; (try simp only [i_lt, i_le, i_eq] at gv_Va0); omega) dX12_findWays_33 ?_
  refine lv_topi (fun x3696 ex3696 => ?_)
  obtain rfl : 0 = x3696 := (ex3696.trans hk1_Fa1).symm
  refine lv_icmp_ge (tgt := 122) hx hb dX12_findWays_34 (by decide) (fun c3697 => ?_) (fun c3697 => absurd c3697 (by decide))
  refine lv_iconst (v := 0) hx hb dX12_findWays_122 (by decide) ?_
  refine lv_istore_n (lv' := [(2, .int 0), (0, .ref Ad0), (1, .int Va0)]) hx hb dX12_findWays_123 rfl hl (by decide) rfl (fun ls hl => ?_)
  refine lv_iload_n hx hb dX12_findWays_124 rfl (lv_at hl 0 rfl) ?_
  refine lv_aload_n hx hb dX12_findWays_125 rfl (lv_at hl 1 rfl) ?_
  refine va_get (D := (dC, dI)) (ci := 15) (v := .ref Ad1) (C := RX12) (T := TX12) (N := 150) hx hb hts (in_z_X12_findWays_X12) hown hK hP 0 rfl rfl 48 (by decide) (hts (.fieldLink RX12 183 "HeapWorksModel" "things" "[I") (by decide +kernel)) (fun _ h9 => h9) (ow_at o_Fs0 0 rfl) dX12_findWays_126 ?_
  refine lv_iload_n hx hb dX12_findWays_129 rfl (lv_at hl 2 rfl) ?_
  refine va_iald hx hb hK hP 1 0 rfl rfl (by rw [vp_in_iff]; (try simp only [i_lt, i_le, i_eq] at gv_Va0); omega) dX12_findWays_130 ?_
  refine lv_topi (fun x3698 ex3698 => ?_)
  obtain rfl : 0 = x3698 := (ex3698.trans hk0_Fa0).symm
  refine lv_icmp_ge (tgt := 260) hx hb dX12_findWays_131 (by decide) (fun c3699 => ?_) (fun c3699 => absurd c3699 (by decide))
  have hP9 := hP.sub (ws' := [(Ad0, .inr (15, Fs0)), (Ad1, .inl (Ka0, 5, .inl Fa0)), (Ad2, .inl (Ka1, 5, .inl Fa1))]) [0, 1, 2] rfl
  have hD9 := hD.sub (ws' := [(Ad0, .inr (15, Fs0)), (Ad1, .inl (Ka0, 5, .inl Fa0)), (Ad2, .inl (Ka1, 5, .inl Fa1))]) [0, 1, 2] (by decide) rfl
  have hK9 := hK.sub (tys' := [(Ka0, .int), (Ka1, .int)]) [0, 1] rfl
  exact W.vret hx hb hr (fun t ht hW => ⟨⟨(), rfl, trivial, by rw [ht]; exact hP9, va_K.moved hW.alike hK9, hD9⟩, hS.F ht⟩) hS.2.2 dX12_findWays_260

def l_z_X12_findDominators : List Cond := [.fieldLink RX12 183 "HeapWorksModel" "things" "[I"]
def w_z_X12_findDominators : List Cond := .code yX12_findDominators cX12_findDominators 7 none :: (l_z_X12_findDominators ++ (wsX120))
theorem in_z_X12_findDominators_X12 : ∀ w ∈ wsX120, w ∈ w_z_X12_findDominators := fun w h => List.mem_cons_of_mem _ (List.mem_append_right _ (h))
set_option maxHeartbeats 4000000 in
set_option maxRecDepth 100000 in
theorem z_X12_findDominators (l : Launch) (dC : Nat → ClassId) (dI : Nat → Nat → Nat) (sz : Nat) (Ad0 : Nat) (Fs0 : List Value) (Ad1 : Nat) (Fa0 : Nat → Int32) (Ka0 : ClassId) (Va0 : Int32) (k_Fs0 : fh Fs0 150 [(48, .ref Ad1), (48, .ref Ad1)]) (hk0_Fa0 : Fa0 Va0.toNatClampNeg = 0) (gv_Va0 : (0 : Int) ≤ Va0.toInt ∧ Va0.toInt ≤ 3) : Met l yX12_findDominators w_z_X12_findDominators ({ frames := 0, cells := 0, slots := 0, locals := 0 }) (va_Pc [.ref Ad0, .int Va0] (fun U => U.heap.size = sz ∧ Wd dC dI [(Ka0, .int)] (fun _ => True) [(Ad0, .inr (15, Fs0)), (Ad1, .inl (Ka0, 5, .inl Fa0))] U)) (va_Qv (fun (u : Unit) => True) (fun (u : Unit) t => Wd dC dI [(Ka0, .int)] (va_A [(Ad0, .inr (15, Fs0)), (Ad1, .inl (Ka0, 5, .inl Fa0))] sz) [(Ad0, .inr (15, Fs0)), (Ad1, .inl (Ka0, 5, .inl Fa0))] t) (va_A [(Ad0, .inr (15, Fs0)), (Ad1, .inl (Ka0, 5, .inl Fa0))] sz))  0 0 (va_A [(Ad0, .inr (15, Fs0)), (Ad1, .inl (Ka0, 5, .inl Fa0))] sz) := by
  refine Met.ofW (cc := cX12_findDominators) (maxL := 7) (ret := none) (by decide) rfl ?_
  intro p e s m args below meth c s₁ B hml hv
  obtain ⟨rfl, hsz, hP, hK, hD0⟩ := hv
  have hx := B.exec
  have hb := B.bytes
  have hr := B.returns
  have hts := atoms_spec (ws := w_z_X12_findDominators) B.pre
  have hown : s.vm.findClass RX12 = some m.cls := findClass_of_methodNamed B.named
  have hlocks := B.notSynchronized
  subst hsz
  have hD := hD0.self (sz := s.heap.size)
  generalize hAe : va_A [(Ad0, .inr (15, Fs0)), (Ad1, .inl (Ka0, 5, .inl Fa0))] s.heap.size = A at hD ⊢
  have hA : ∀ q : Nat, s.heap.size ≤ q → A q := fun q h => by rw [← hAe]; exact Or.inr h
  have hS : va_S A s.heap s.heap [] := va_S.rf
  have hl := lv_entry ([.ref Ad0, .int Va0]) (n := 7) (Nat.le_of_ble_eq_true rfl)
  rw [lg_entry_eq]
  generalize (lg_sl ([.ref Ad0, .int Va0]) ++ List.replicate (7 - (lg_sl ([.ref Ad0, .int Va0])).length) Slot.unset).toArray = ls at hl ⊢
  have hl : lv_has ls 7 [(0, .ref Ad0), (1, .int Va0)] := hl
  have o_Fs0 := ow_0 k_Fs0
  refine lv_iconst (v := 0) hx hb dX12_findDominators_0 (by decide) ?_
  refine lv_istore_n (lv' := [(2, .int 0), (0, .ref Ad0), (1, .int Va0)]) hx hb dX12_findDominators_1 rfl hl (by decide) rfl (fun ls hl => ?_)
  refine lv_iload_n hx hb dX12_findDominators_2 rfl (lv_at hl 0 rfl) ?_
  refine lv_aload_n hx hb dX12_findDominators_3 rfl (lv_at hl 1 rfl) ?_
  refine va_get (D := (dC, dI)) (ci := 15) (v := .ref Ad1) (C := RX12) (T := TX12) (N := 150) hx hb hts (in_z_X12_findDominators_X12) hown hK hP 0 rfl rfl 48 (by decide) (hts (.fieldLink RX12 183 "HeapWorksModel" "things" "[I") (by decide +kernel)) (fun _ h9 => h9) (ow_at o_Fs0 0 rfl) dX12_findDominators_4 ?_
  refine lv_iload_n hx hb dX12_findDominators_7 rfl (lv_at hl 2 rfl) ?_
  refine va_iald hx hb hK hP 1 0 rfl rfl (by rw [vp_in_iff]; (try simp only [i_lt, i_le, i_eq] at gv_Va0); omega) dX12_findDominators_8 ?_
  refine lv_topi (fun x3704 ex3704 => ?_)
  obtain rfl : 0 = x3704 := (ex3704.trans hk0_Fa0).symm
  refine lv_icmp_ge (tgt := 30) hx hb dX12_findDominators_9 (by decide) (fun c3705 => ?_) (fun c3705 => absurd c3705 (by decide))
  refine lv_iconst (v := 0) hx hb dX12_findDominators_30 (by decide) ?_
  refine lv_istore_n (lv' := [(2, .int 0), (0, .ref Ad0), (1, .int Va0)]) hx hb dX12_findDominators_31 rfl hl (by decide) rfl (fun ls hl => ?_)
  refine lv_iload_n hx hb dX12_findDominators_32 rfl (lv_at hl 0 rfl) ?_
  refine lv_aload_n hx hb dX12_findDominators_33 rfl (lv_at hl 1 rfl) ?_
  refine va_get (D := (dC, dI)) (ci := 15) (v := .ref Ad1) (C := RX12) (T := TX12) (N := 150) hx hb hts (in_z_X12_findDominators_X12) hown hK hP 0 rfl rfl 48 (by decide) (hts (.fieldLink RX12 183 "HeapWorksModel" "things" "[I") (by decide +kernel)) (fun _ h9 => h9) (ow_at o_Fs0 0 rfl) dX12_findDominators_34 ?_
  refine lv_iload_n hx hb dX12_findDominators_37 rfl (lv_at hl 2 rfl) ?_
  refine va_iald hx hb hK hP 1 0 rfl rfl (by rw [vp_in_iff]; (try simp only [i_lt, i_le, i_eq] at gv_Va0); omega) dX12_findDominators_38 ?_
  refine lv_topi (fun x3706 ex3706 => ?_)
  obtain rfl : 0 = x3706 := (ex3706.trans hk0_Fa0).symm
  refine lv_icmp_ge (tgt := 238) hx hb dX12_findDominators_39 (by decide) (fun c3707 => ?_) (fun c3707 => absurd c3707 (by decide))
  have hP9 := hP.sub (ws' := [(Ad0, .inr (15, Fs0)), (Ad1, .inl (Ka0, 5, .inl Fa0))]) [0, 1] rfl
  have hD9 := hD.sub (ws' := [(Ad0, .inr (15, Fs0)), (Ad1, .inl (Ka0, 5, .inl Fa0))]) [0, 1] (by decide) rfl
  have hK9 := hK.sub (tys' := [(Ka0, .int)]) [0] rfl
  exact W.vret hx hb hr (fun t ht hW => ⟨⟨(), rfl, trivial, by rw [ht]; exact hP9, va_K.moved hW.alike hK9, hD9⟩, hS.F ht⟩) hS.2.2 dX12_findDominators_238

def l_z_X12_findRings : List Cond := [.fieldLink RX12 183 "HeapWorksModel" "things" "[I", .fieldLink RX12 228 "HeapWorksModel" "ringMany" "[I"]
def w_z_X12_findRings : List Cond := .code yX12_findRings cX12_findRings 5 none :: (l_z_X12_findRings ++ (wsX120))
theorem in_z_X12_findRings_X12 : ∀ w ∈ wsX120, w ∈ w_z_X12_findRings := fun w h => List.mem_cons_of_mem _ (List.mem_append_right _ (h))
set_option maxHeartbeats 4000000 in
set_option maxRecDepth 100000 in
theorem z_X12_findRings (l : Launch) (dC : Nat → ClassId) (dI : Nat → Nat → Nat) (sz : Nat) (Ad0 : Nat) (Fa0 : Nat → Int32) (Ka0 : ClassId) (Ad1 : Nat) (Fs0 : List Value) (Ad2 : Nat) (Fa1 : Nat → Int32) (Ka1 : ClassId) (Va0 : Int32) (k_Fs0 : fh Fs0 150 [(48, .ref Ad2), (48, .ref Ad2), (63, .ref Ad0)]) (hz_Fa0 : ∀ j, Fa0 j = 0) (hk1_Fa1 : Fa1 Va0.toNatClampNeg = 0) (gv_Va0 : (0 : Int) ≤ Va0.toInt ∧ Va0.toInt ≤ 3) : Met l yX12_findRings w_z_X12_findRings ({ frames := 0, cells := 0, slots := 0, locals := 0 }) (va_Pc [.ref Ad1, .int Va0] (fun U => U.heap.size = sz ∧ Wd dC dI [(Ka0, .int), (Ka1, .int)] (fun _ => True) [(Ad0, .inl (Ka0, 5, .inl Fa0)), (Ad1, .inr (15, Fs0)), (Ad2, .inl (Ka1, 5, .inl Fa1))] U)) (va_Qv (fun (u : (Nat → Int32)) => ((∀ j, (u) j = 0) ∧ (u) Va0.toNatClampNeg = 0)) (fun (u : (Nat → Int32)) t => Wd dC dI [(Ka0, .int), (Ka1, .int)] (va_A [(Ad0, .inl (Ka0, 5, .inl Fa0)), (Ad1, .inr (15, Fs0)), (Ad2, .inl (Ka1, 5, .inl Fa1))] sz) [(Ad0, .inl (Ka0, 5, .inl ((u)))), (Ad1, .inr (15, Fs0)), (Ad2, .inl (Ka1, 5, .inl Fa1))] t) (va_A [(Ad0, .inl (Ka0, 5, .inl Fa0)), (Ad1, .inr (15, Fs0)), (Ad2, .inl (Ka1, 5, .inl Fa1))] sz))  0 0 (va_A [(Ad0, .inl (Ka0, 5, .inl Fa0)), (Ad1, .inr (15, Fs0)), (Ad2, .inl (Ka1, 5, .inl Fa1))] sz) := by
  refine Met.ofW (cc := cX12_findRings) (maxL := 5) (ret := none) (by decide) rfl ?_
  intro p e s m args below meth c s₁ B hml hv
  obtain ⟨rfl, hsz, hP, hK, hD0⟩ := hv
  have hx := B.exec
  have hb := B.bytes
  have hr := B.returns
  have hts := atoms_spec (ws := w_z_X12_findRings) B.pre
  have hown : s.vm.findClass RX12 = some m.cls := findClass_of_methodNamed B.named
  have hlocks := B.notSynchronized
  subst hsz
  have hD := hD0.self (sz := s.heap.size)
  generalize hAe : va_A [(Ad0, .inl (Ka0, 5, .inl Fa0)), (Ad1, .inr (15, Fs0)), (Ad2, .inl (Ka1, 5, .inl Fa1))] s.heap.size = A at hD ⊢
  have hA : ∀ q : Nat, s.heap.size ≤ q → A q := fun q h => by rw [← hAe]; exact Or.inr h
  have hS : va_S A s.heap s.heap [] := va_S.rf
  have hl := lv_entry ([.ref Ad1, .int Va0]) (n := 5) (Nat.le_of_ble_eq_true rfl)
  rw [lg_entry_eq]
  generalize (lg_sl ([.ref Ad1, .int Va0]) ++ List.replicate (5 - (lg_sl ([.ref Ad1, .int Va0])).length) Slot.unset).toArray = ls at hl ⊢
  have hl : lv_has ls 5 [(0, .ref Ad1), (1, .int Va0)] := hl
  have o_Fs0 := ow_0 k_Fs0
  refine lv_aload_n hx hb dX12_findRings_0 rfl (lv_at hl 0 rfl) ?_
  refine va_get (D := (dC, dI)) (ci := 15) (v := .ref Ad2) (C := RX12) (T := TX12) (N := 150) hx hb hts (in_z_X12_findRings_X12) hown hK hP 1 rfl rfl 48 (by decide) (hts (.fieldLink RX12 183 "HeapWorksModel" "things" "[I") (by decide +kernel)) (fun _ h9 => h9) (ow_at o_Fs0 0 rfl) dX12_findRings_1 ?_
  refine lv_iload_n hx hb dX12_findRings_4 rfl (lv_at hl 1 rfl) ?_
  refine va_iald hx hb hK hP 2 1 rfl rfl (by rw [vp_in_iff]; (try simp only [i_lt, i_le, i_eq] at gv_Va0); omega) dX12_findRings_5 ?_
  refine lv_topi (fun x3714 ex3714 => ?_)
  obtain rfl : 0 = x3714 := (ex3714.trans hk1_Fa1).symm
  refine lv_istore_n (lv' := [(2, .int 0), (0, .ref Ad1), (1, .int Va0)]) hx hb dX12_findRings_6 rfl hl (by decide) rfl (fun ls hl => ?_)
  refine lv_iconst (v := 0) hx hb dX12_findRings_7 (by decide) ?_
  refine lv_istore_n (lv' := [(3, .int 0), (2, .int 0), (0, .ref Ad1), (1, .int Va0)]) hx hb dX12_findRings_8 rfl hl (by decide) rfl (fun ls hl => ?_)
  refine lv_iload_n hx hb dX12_findRings_9 rfl (lv_at hl 0 rfl) ?_
  refine lv_iload_n hx hb dX12_findRings_10 rfl (lv_at hl 1 rfl) ?_
  refine lv_icmp_ge (tgt := 75) hx hb dX12_findRings_11 (by decide) (fun c3715 => ?_) (fun c3715 => absurd c3715 (by decide))
  refine lv_aload_n hx hb dX12_findRings_75 rfl (lv_at hl 2 rfl) ?_
  refine va_get (D := (dC, dI)) (ci := 15) (v := .ref Ad0) (C := RX12) (T := TX12) (N := 150) hx hb hts (in_z_X12_findRings_X12) hown hK hP 1 rfl rfl 63 (by decide) (hts (.fieldLink RX12 228 "HeapWorksModel" "ringMany" "[I") (by decide +kernel)) (fun _ h9 => h9) (ow_at o_Fs0 2 rfl) dX12_findRings_76 ?_
  refine lv_iload_n hx hb dX12_findRings_79 rfl (lv_at hl 3 rfl) ?_
  refine lv_iconst (v := 0) hx hb dX12_findRings_80 (by decide) ?_
  refine va_iast hx hb hK hP hD hS 0 0 rfl rfl (by rw [vp_in_iff]; (try simp only [i_lt, i_le, i_eq] at gv_Va0); omega) dX12_findRings_81 (fun H locs hP hD hS => ?_)
  have hP : va_P (dC, dI) vwCl [(Ad0, .inl (Ka0, 5, .inl (upd Fa0 (Va0 : Int32).toNatClampNeg 0))), (Ad1, .inr (15, Fs0)), (Ad2, .inl (Ka1, 5, .inl Fa1))] H := hP
  have hD : va_D A [(Ad0, .inl (Ka0, 5, .inl (upd Fa0 (Va0 : Int32).toNatClampNeg 0))), (Ad1, .inr (15, Fs0)), (Ad2, .inl (Ka1, 5, .inl Fa1))] := hD
  have q3717 : (upd Fa0 (Va0 : Int32).toNatClampNeg 0) (Va0 : Int32).toNatClampNeg = 0 := pk_us
  have z3718 : ∀ j, (upd Fa0 (Va0 : Int32).toNatClampNeg 0) j = 0 := az_up hz_Fa0 rfl
  generalize upd Fa0 (Va0 : Int32).toNatClampNeg 0 = f3716 at hP hD q3717 z3718
  refine lv_iconst (v := 0) hx hb dX12_findRings_82 (by decide) ?_
  refine lv_istore_n (lv' := [(3, .int 0), (2, .int 0), (0, .ref Ad1), (1, .int Va0)]) hx hb dX12_findRings_83 rfl hl (by decide) rfl (fun ls hl => ?_)
  refine lv_iload_n hx hb dX12_findRings_84 rfl (lv_at hl 0 rfl) ?_
  refine lv_iload_n hx hb dX12_findRings_85 rfl (lv_at hl 1 rfl) ?_
  refine lv_icmp_ge (tgt := 203) hx hb dX12_findRings_86 (by decide) (fun c3719 => ?_) (fun c3719 => absurd c3719 (by decide))
  have hP9 := hP.sub (ws' := [(Ad0, .inl (Ka0, 5, .inl f3716)), (Ad1, .inr (15, Fs0)), (Ad2, .inl (Ka1, 5, .inl Fa1))]) [0, 1, 2] rfl
  have hD9 := hD.sub (ws' := [(Ad0, .inl (Ka0, 5, .inl f3716)), (Ad1, .inr (15, Fs0)), (Ad2, .inl (Ka1, 5, .inl Fa1))]) [0, 1, 2] (by decide) rfl
  have hK9 := hK.sub (tys' := [(Ka0, .int), (Ka1, .int)]) [0, 1] rfl
  exact W.vret hx hb hr (fun t ht hW => ⟨⟨f3716, rfl, ⟨z3718, q3717⟩, by rw [ht]; exact hP9, va_K.moved hW.alike hK9, hD9⟩, hS.F ht⟩) hS.2.2 dX12_findRings_203

def l_z_X12_findGroups : List Cond := [.fieldLink RX12 231 "HeapWorksModel" "groupMany" "[I", .fieldLink RX12 183 "HeapWorksModel" "things" "[I"]
def w_z_X12_findGroups : List Cond := .code yX12_findGroups cX12_findGroups 5 none :: (l_z_X12_findGroups ++ (wsX120))
theorem in_z_X12_findGroups_X12 : ∀ w ∈ wsX120, w ∈ w_z_X12_findGroups := fun w h => List.mem_cons_of_mem _ (List.mem_append_right _ (h))
set_option maxHeartbeats 4000000 in
set_option maxRecDepth 100000 in
theorem z_X12_findGroups (l : Launch) (dC : Nat → ClassId) (dI : Nat → Nat → Nat) (sz : Nat) (Ad0 : Nat) (Fa0 : Nat → Int32) (Ka0 : ClassId) (Ad1 : Nat) (Fs0 : List Value) (Ad2 : Nat) (Fa1 : Nat → Int32) (Ka1 : ClassId) (Va0 : Int32) (k_Fs0 : fh Fs0 150 [(48, .ref Ad2), (48, .ref Ad2), (64, .ref Ad0)]) (hz_Fa0 : ∀ j, Fa0 j = 0) (hk1_Fa1 : Fa1 Va0.toNatClampNeg = 0) (gv_Va0 : (0 : Int) ≤ Va0.toInt ∧ Va0.toInt ≤ 3) : Met l yX12_findGroups w_z_X12_findGroups ({ frames := 0, cells := 0, slots := 0, locals := 0 }) (va_Pc [.ref Ad1, .int Va0] (fun U => U.heap.size = sz ∧ Wd dC dI [(Ka0, .int), (Ka1, .int)] (fun _ => True) [(Ad0, .inl (Ka0, 5, .inl Fa0)), (Ad1, .inr (15, Fs0)), (Ad2, .inl (Ka1, 5, .inl Fa1))] U)) (va_Qv (fun (u : (Nat → Int32)) => ((∀ j, (u) j = 0) ∧ (u) Va0.toNatClampNeg = 0)) (fun (u : (Nat → Int32)) t => Wd dC dI [(Ka0, .int), (Ka1, .int)] (va_A [(Ad0, .inl (Ka0, 5, .inl Fa0)), (Ad1, .inr (15, Fs0)), (Ad2, .inl (Ka1, 5, .inl Fa1))] sz) [(Ad0, .inl (Ka0, 5, .inl ((u)))), (Ad1, .inr (15, Fs0)), (Ad2, .inl (Ka1, 5, .inl Fa1))] t) (va_A [(Ad0, .inl (Ka0, 5, .inl Fa0)), (Ad1, .inr (15, Fs0)), (Ad2, .inl (Ka1, 5, .inl Fa1))] sz))  0 0 (va_A [(Ad0, .inl (Ka0, 5, .inl Fa0)), (Ad1, .inr (15, Fs0)), (Ad2, .inl (Ka1, 5, .inl Fa1))] sz) := by
  refine Met.ofW (cc := cX12_findGroups) (maxL := 5) (ret := none) (by decide) rfl ?_
  intro p e s m args below meth c s₁ B hml hv
  obtain ⟨rfl, hsz, hP, hK, hD0⟩ := hv
  have hx := B.exec
  have hb := B.bytes
  have hr := B.returns
  have hts := atoms_spec (ws := w_z_X12_findGroups) B.pre
  have hown : s.vm.findClass RX12 = some m.cls := findClass_of_methodNamed B.named
  have hlocks := B.notSynchronized
  subst hsz
  have hD := hD0.self (sz := s.heap.size)
  generalize hAe : va_A [(Ad0, .inl (Ka0, 5, .inl Fa0)), (Ad1, .inr (15, Fs0)), (Ad2, .inl (Ka1, 5, .inl Fa1))] s.heap.size = A at hD ⊢
  have hA : ∀ q : Nat, s.heap.size ≤ q → A q := fun q h => by rw [← hAe]; exact Or.inr h
  have hS : va_S A s.heap s.heap [] := va_S.rf
  have hl := lv_entry ([.ref Ad1, .int Va0]) (n := 5) (Nat.le_of_ble_eq_true rfl)
  rw [lg_entry_eq]
  generalize (lg_sl ([.ref Ad1, .int Va0]) ++ List.replicate (5 - (lg_sl ([.ref Ad1, .int Va0])).length) Slot.unset).toArray = ls at hl ⊢
  have hl : lv_has ls 5 [(0, .ref Ad1), (1, .int Va0)] := hl
  have o_Fs0 := ow_0 k_Fs0
  refine lv_aload_n hx hb dX12_findGroups_0 rfl (lv_at hl 0 rfl) ?_
  refine va_get (D := (dC, dI)) (ci := 15) (v := .ref Ad0) (C := RX12) (T := TX12) (N := 150) hx hb hts (in_z_X12_findGroups_X12) hown hK hP 1 rfl rfl 64 (by decide) (hts (.fieldLink RX12 231 "HeapWorksModel" "groupMany" "[I") (by decide +kernel)) (fun _ h9 => h9) (ow_at o_Fs0 2 rfl) dX12_findGroups_1 ?_
  refine lv_iload_n hx hb dX12_findGroups_4 rfl (lv_at hl 1 rfl) ?_
  refine lv_iconst (v := 0) hx hb dX12_findGroups_5 (by decide) ?_
  refine va_iast hx hb hK hP hD hS 0 0 rfl rfl (by rw [vp_in_iff]; (try simp only [i_lt, i_le, i_eq] at gv_Va0); omega) dX12_findGroups_6 (fun H locs hP hD hS => ?_)
  have hP : va_P (dC, dI) vwCl [(Ad0, .inl (Ka0, 5, .inl (upd Fa0 (Va0 : Int32).toNatClampNeg 0))), (Ad1, .inr (15, Fs0)), (Ad2, .inl (Ka1, 5, .inl Fa1))] H := hP
  have hD : va_D A [(Ad0, .inl (Ka0, 5, .inl (upd Fa0 (Va0 : Int32).toNatClampNeg 0))), (Ad1, .inr (15, Fs0)), (Ad2, .inl (Ka1, 5, .inl Fa1))] := hD
  have q3732 : (upd Fa0 (Va0 : Int32).toNatClampNeg 0) (Va0 : Int32).toNatClampNeg = 0 := pk_us
  have z3733 : ∀ j, (upd Fa0 (Va0 : Int32).toNatClampNeg 0) j = 0 := az_up hz_Fa0 rfl
  generalize upd Fa0 (Va0 : Int32).toNatClampNeg 0 = f3731 at hP hD q3732 z3733
  refine lv_iconst (v := 0) hx hb dX12_findGroups_7 (by decide) ?_
  refine lv_istore_n (lv' := [(2, .int 0), (0, .ref Ad1), (1, .int Va0)]) hx hb dX12_findGroups_8 rfl hl (by decide) rfl (fun ls hl => ?_)
  refine lv_iload_n hx hb dX12_findGroups_9 rfl (lv_at hl 0 rfl) ?_
  refine lv_aload_n hx hb dX12_findGroups_10 rfl (lv_at hl 1 rfl) ?_
  refine va_get (D := (dC, dI)) (ci := 15) (v := .ref Ad2) (C := RX12) (T := TX12) (N := 150) hx hb hts (in_z_X12_findGroups_X12) hown hK hP 1 rfl rfl 48 (by decide) (hts (.fieldLink RX12 183 "HeapWorksModel" "things" "[I") (by decide +kernel)) (fun _ h9 => h9) (ow_at o_Fs0 0 rfl) dX12_findGroups_11 ?_
  refine lv_iload_n hx hb dX12_findGroups_14 rfl (lv_at hl 2 rfl) ?_
  refine va_iald hx hb hK hP 2 1 rfl rfl (by rw [vp_in_iff]; (try simp only [i_lt, i_le, i_eq] at gv_Va0); omega) dX12_findGroups_15 ?_
  refine lv_topi (fun x3734 ex3734 => ?_)
  obtain rfl : 0 = x3734 := (ex3734.trans hk1_Fa1).symm
  refine lv_icmp_ge (tgt := 37) hx hb dX12_findGroups_16 (by decide) (fun c3735 => ?_) (fun c3735 => absurd c3735 (by decide))
  refine lv_iconst (v := 0) hx hb dX12_findGroups_37 (by decide) ?_
  refine lv_istore_n (lv' := [(2, .int 0), (0, .ref Ad1), (1, .int Va0)]) hx hb dX12_findGroups_38 rfl hl (by decide) rfl (fun ls hl => ?_)
  refine lv_iload_n hx hb dX12_findGroups_39 rfl (lv_at hl 0 rfl) ?_
  refine lv_aload_n hx hb dX12_findGroups_40 rfl (lv_at hl 1 rfl) ?_
  refine va_get (D := (dC, dI)) (ci := 15) (v := .ref Ad2) (C := RX12) (T := TX12) (N := 150) hx hb hts (in_z_X12_findGroups_X12) hown hK hP 1 rfl rfl 48 (by decide) (hts (.fieldLink RX12 183 "HeapWorksModel" "things" "[I") (by decide +kernel)) (fun _ h9 => h9) (ow_at o_Fs0 0 rfl) dX12_findGroups_41 ?_
  refine lv_iload_n hx hb dX12_findGroups_44 rfl (lv_at hl 2 rfl) ?_
  refine va_iald hx hb hK hP 2 1 rfl rfl (by rw [vp_in_iff]; (try simp only [i_lt, i_le, i_eq] at gv_Va0); omega) dX12_findGroups_45 ?_
  refine lv_topi (fun x3736 ex3736 => ?_)
  obtain rfl : 0 = x3736 := (ex3736.trans hk1_Fa1).symm
  refine lv_icmp_ge (tgt := 181) hx hb dX12_findGroups_46 (by decide) (fun c3737 => ?_) (fun c3737 => absurd c3737 (by decide))
  have hP9 := hP.sub (ws' := [(Ad0, .inl (Ka0, 5, .inl f3731)), (Ad1, .inr (15, Fs0)), (Ad2, .inl (Ka1, 5, .inl Fa1))]) [0, 1, 2] rfl
  have hD9 := hD.sub (ws' := [(Ad0, .inl (Ka0, 5, .inl f3731)), (Ad1, .inr (15, Fs0)), (Ad2, .inl (Ka1, 5, .inl Fa1))]) [0, 1, 2] (by decide) rfl
  have hK9 := hK.sub (tys' := [(Ka0, .int), (Ka1, .int)]) [0, 1] rfl
  exact W.vret hx hb hr (fun t ht hW => ⟨⟨f3731, rfl, ⟨z3733, q3732⟩, by rw [ht]; exact hP9, va_K.moved hW.alike hK9, hD9⟩, hS.F ht⟩) hS.2.2 dX12_findGroups_181

def l_z_X12_study : List Cond := [.fieldLink RX12 225 "HeapWorksModel" "lostMany" "[I", .fieldLink RX12 183 "HeapWorksModel" "things" "[I", .methodLink RX12 558 yX12_findWays, .instanceMethod yX12_findWays, .selects RX12 yX12_findWays yX12_findWays, .initialized RX12, .methodLink RX12 561 yX12_findDominators, .instanceMethod yX12_findDominators, .selects RX12 yX12_findDominators yX12_findDominators, .methodLink RX12 564 yX12_findRings, .instanceMethod yX12_findRings, .selects RX12 yX12_findRings yX12_findRings, .methodLink RX12 567 yX12_findGroups, .instanceMethod yX12_findGroups, .selects RX12 yX12_findGroups yX12_findGroups, .code yX12_findWays cX12_findWays 5 none, .fieldLink RX12 234 "HeapWorksModel" "rootMany" "[I", .code yX12_findDominators cX12_findDominators 7 none, .code yX12_findRings cX12_findRings 5 none, .fieldLink RX12 228 "HeapWorksModel" "ringMany" "[I", .code yX12_findGroups cX12_findGroups 5 none, .fieldLink RX12 231 "HeapWorksModel" "groupMany" "[I"]
def w_z_X12_study : List Cond := .code yX12_study cX12_study 3 none :: (l_z_X12_study ++ (wsX120))
theorem in_z_X12_study_X12 : ∀ w ∈ wsX120, w ∈ w_z_X12_study := fun w h => List.mem_cons_of_mem _ (List.mem_append_right _ (h))
theorem g_z_X12_study_z_X12_findWays_558 : GoodIn w_z_X12_study (wsV RX12 558 RX12 yX12_findWays w_z_X12_findWays) := goodIn_app (goodIn_sub (by decide +kernel) (by decide +kernel)) (goodIn_ca (goodIn_sub (by decide +kernel) (by decide +kernel)) (goodIn_in in_z_X12_study_X12 gd_X12))
theorem g_z_X12_study_z_X12_findDominators_561 : GoodIn w_z_X12_study (wsV RX12 561 RX12 yX12_findDominators w_z_X12_findDominators) := goodIn_app (goodIn_sub (by decide +kernel) (by decide +kernel)) (goodIn_ca (goodIn_sub (by decide +kernel) (by decide +kernel)) (goodIn_in in_z_X12_study_X12 gd_X12))
theorem g_z_X12_study_z_X12_findRings_564 : GoodIn w_z_X12_study (wsV RX12 564 RX12 yX12_findRings w_z_X12_findRings) := goodIn_app (goodIn_sub (by decide +kernel) (by decide +kernel)) (goodIn_ca (goodIn_sub (by decide +kernel) (by decide +kernel)) (goodIn_in in_z_X12_study_X12 gd_X12))
theorem g_z_X12_study_z_X12_findGroups_567 : GoodIn w_z_X12_study (wsV RX12 567 RX12 yX12_findGroups w_z_X12_findGroups) := goodIn_app (goodIn_sub (by decide +kernel) (by decide +kernel)) (goodIn_ca (goodIn_sub (by decide +kernel) (by decide +kernel)) (goodIn_in in_z_X12_study_X12 gd_X12))
set_option maxHeartbeats 4000000 in
set_option maxRecDepth 100000 in
theorem z_X12_study (l : Launch) (dC : Nat → ClassId) (dI : Nat → Nat → Nat) (sz : Nat) (Ad0 : Nat) (Fa0 : Nat → Int32) (Ka0 : ClassId) (Ad1 : Nat) (Fa1 : Nat → Int32) (Ka1 : ClassId) (Ad2 : Nat) (Fa2 : Nat → Int32) (Ka2 : ClassId) (Ad3 : Nat) (Fs0 : List Value) (Ad4 : Nat) (Fa3 : Nat → Int32) (Ka3 : ClassId) (Ad5 : Nat) (Fa4 : Nat → Int32) (Ka4 : ClassId) (Va0 : Int32) (k_Fs0 : fh Fs0 150 [(48, .ref Ad4), (65, .ref Ad5), (48, .ref Ad4), (62, .ref Ad0), (63, .ref Ad1), (64, .ref Ad2), (65, .ref Ad5)]) (hz_Fa0 : ∀ j, Fa0 j = 0) (hz_Fa1 : ∀ j, Fa1 j = 0) (hz_Fa2 : ∀ j, Fa2 j = 0) (hk3_Fa3 : Fa3 Va0.toNatClampNeg = 0) (hk4_Fa4 : Fa4 Va0.toNatClampNeg = 0) (gv_Va0 : (0 : Int) ≤ Va0.toInt ∧ Va0.toInt ≤ 3) : Met l yX12_study w_z_X12_study ({ frames := 1, cells := 0, slots := 0, locals := 26 }) (va_Pc [.ref Ad3, .int Va0] (fun U => U.heap.size = sz ∧ Wd dC dI [(Ka0, .int), (Ka1, .int), (Ka2, .int), (Ka3, .int), (Ka4, .int)] (fun _ => True) [(Ad0, .inl (Ka0, 5, .inl Fa0)), (Ad1, .inl (Ka1, 5, .inl Fa1)), (Ad2, .inl (Ka2, 5, .inl Fa2)), (Ad3, .inr (15, Fs0)), (Ad4, .inl (Ka3, 5, .inl Fa3)), (Ad5, .inl (Ka4, 5, .inl Fa4))] U)) (va_Qv (fun (u : (Nat → Int32) × (Nat → Int32) × (Nat → Int32)) => ((∀ j, (u.1) j = 0) ∧ (u.1) Va0.toNatClampNeg = 0 ∧ (∀ j, (u.2.1) j = 0) ∧ (u.2.1) Va0.toNatClampNeg = 0 ∧ (∀ j, (u.2.2) j = 0) ∧ (u.2.2) Va0.toNatClampNeg = 0)) (fun (u : (Nat → Int32) × (Nat → Int32) × (Nat → Int32)) t => Wd dC dI [(Ka0, .int), (Ka1, .int), (Ka2, .int), (Ka3, .int), (Ka4, .int)] (va_A [(Ad0, .inl (Ka0, 5, .inl Fa0)), (Ad1, .inl (Ka1, 5, .inl Fa1)), (Ad2, .inl (Ka2, 5, .inl Fa2)), (Ad3, .inr (15, Fs0)), (Ad4, .inl (Ka3, 5, .inl Fa3)), (Ad5, .inl (Ka4, 5, .inl Fa4))] sz) [(Ad0, .inl (Ka0, 5, .inl ((u.1)))), (Ad1, .inl (Ka1, 5, .inl ((u.2.1)))), (Ad2, .inl (Ka2, 5, .inl ((u.2.2)))), (Ad3, .inr (15, Fs0)), (Ad4, .inl (Ka3, 5, .inl Fa3)), (Ad5, .inl (Ka4, 5, .inl Fa4))] t) (va_A [(Ad0, .inl (Ka0, 5, .inl Fa0)), (Ad1, .inl (Ka1, 5, .inl Fa1)), (Ad2, .inl (Ka2, 5, .inl Fa2)), (Ad3, .inr (15, Fs0)), (Ad4, .inl (Ka3, 5, .inl Fa3)), (Ad5, .inl (Ka4, 5, .inl Fa4))] sz))  0 0 (va_A [(Ad0, .inl (Ka0, 5, .inl Fa0)), (Ad1, .inl (Ka1, 5, .inl Fa1)), (Ad2, .inl (Ka2, 5, .inl Fa2)), (Ad3, .inr (15, Fs0)), (Ad4, .inl (Ka3, 5, .inl Fa3)), (Ad5, .inl (Ka4, 5, .inl Fa4))] sz) := by
  refine Met.ofW (cc := cX12_study) (maxL := 3) (ret := none) (by decide) rfl ?_
  intro p e s m args below meth c s₁ B hml hv
  obtain ⟨rfl, hsz, hP, hK, hD0⟩ := hv
  have hx := B.exec
  have hb := B.bytes
  have hr := B.returns
  have hts := atoms_spec (ws := w_z_X12_study) B.pre
  have hown : s.vm.findClass RX12 = some m.cls := findClass_of_methodNamed B.named
  have hlocks := B.notSynchronized
  subst hsz
  have hD := hD0.self (sz := s.heap.size)
  generalize hAe : va_A [(Ad0, .inl (Ka0, 5, .inl Fa0)), (Ad1, .inl (Ka1, 5, .inl Fa1)), (Ad2, .inl (Ka2, 5, .inl Fa2)), (Ad3, .inr (15, Fs0)), (Ad4, .inl (Ka3, 5, .inl Fa3)), (Ad5, .inl (Ka4, 5, .inl Fa4))] s.heap.size = A at hD ⊢
  have hA : ∀ q : Nat, s.heap.size ≤ q → A q := fun q h => by rw [← hAe]; exact Or.inr h
  have hS : va_S A s.heap s.heap [] := va_S.rf
  have hl := lv_entry ([.ref Ad3, .int Va0]) (n := 3) (Nat.le_of_ble_eq_true rfl)
  rw [lg_entry_eq]
  generalize (lg_sl ([.ref Ad3, .int Va0]) ++ List.replicate (3 - (lg_sl ([.ref Ad3, .int Va0])).length) Slot.unset).toArray = ls at hl ⊢
  have hl : lv_has ls 3 [(0, .ref Ad3), (1, .int Va0)] := hl
  have o_Fs0 := ow_0 k_Fs0
  refine lv_aload_n hx hb dX12_study_0 rfl (lv_at hl 0 rfl) ?_
  refine va_get (D := (dC, dI)) (ci := 15) (v := .ref Ad0) (C := RX12) (T := TX12) (N := 150) hx hb hts (in_z_X12_study_X12) hown hK hP 3 rfl rfl 62 (by decide) (hts (.fieldLink RX12 225 "HeapWorksModel" "lostMany" "[I") (by decide +kernel)) (fun _ h9 => h9) (ow_at o_Fs0 3 rfl) dX12_study_1 ?_
  refine lv_iload_n hx hb dX12_study_4 rfl (lv_at hl 1 rfl) ?_
  refine lv_iconst (v := 0) hx hb dX12_study_5 (by decide) ?_
  refine va_iast hx hb hK hP hD hS 0 0 rfl rfl (by rw [vp_in_iff]; (try simp only [i_lt, i_le, i_eq] at gv_Va0); omega) dX12_study_6 (fun H locs hP hD hS => ?_)
  have hP : va_P (dC, dI) vwCl [(Ad0, .inl (Ka0, 5, .inl (upd Fa0 (Va0 : Int32).toNatClampNeg 0))), (Ad1, .inl (Ka1, 5, .inl Fa1)), (Ad2, .inl (Ka2, 5, .inl Fa2)), (Ad3, .inr (15, Fs0)), (Ad4, .inl (Ka3, 5, .inl Fa3)), (Ad5, .inl (Ka4, 5, .inl Fa4))] H := hP
  have hD : va_D A [(Ad0, .inl (Ka0, 5, .inl (upd Fa0 (Va0 : Int32).toNatClampNeg 0))), (Ad1, .inl (Ka1, 5, .inl Fa1)), (Ad2, .inl (Ka2, 5, .inl Fa2)), (Ad3, .inr (15, Fs0)), (Ad4, .inl (Ka3, 5, .inl Fa3)), (Ad5, .inl (Ka4, 5, .inl Fa4))] := hD
  have q3742 : (upd Fa0 (Va0 : Int32).toNatClampNeg 0) (Va0 : Int32).toNatClampNeg = 0 := pk_us
  have z3743 : ∀ j, (upd Fa0 (Va0 : Int32).toNatClampNeg 0) j = 0 := az_up hz_Fa0 rfl
  generalize upd Fa0 (Va0 : Int32).toNatClampNeg 0 = f3741 at hP hD q3742 z3743
  refine lv_iconst (v := 0) hx hb dX12_study_7 (by decide) ?_
  refine lv_istore_n (lv' := [(2, .int 0), (0, .ref Ad3), (1, .int Va0)]) hx hb dX12_study_8 rfl hl (by decide) rfl (fun ls hl => ?_)
  refine lv_iload_n hx hb dX12_study_9 rfl (lv_at hl 0 rfl) ?_
  refine lv_aload_n hx hb dX12_study_10 rfl (lv_at hl 1 rfl) ?_
  refine va_get (D := (dC, dI)) (ci := 15) (v := .ref Ad4) (C := RX12) (T := TX12) (N := 150) hx hb hts (in_z_X12_study_X12) hown hK hP 3 rfl rfl 48 (by decide) (hts (.fieldLink RX12 183 "HeapWorksModel" "things" "[I") (by decide +kernel)) (fun _ h9 => h9) (ow_at o_Fs0 0 rfl) dX12_study_11 ?_
  refine lv_iload_n hx hb dX12_study_14 rfl (lv_at hl 2 rfl) ?_
  refine va_iald hx hb hK hP 4 3 rfl rfl (by rw [vp_in_iff]; (try simp only [i_lt, i_le, i_eq] at gv_Va0); omega) dX12_study_15 ?_
  refine lv_topi (fun x3744 ex3744 => ?_)
  obtain rfl : 0 = x3744 := (ex3744.trans hk3_Fa3).symm
  refine lv_icmp_ge (tgt := 37) hx hb dX12_study_16 (by decide) (fun c3745 => ?_) (fun c3745 => absurd c3745 (by decide))
  refine lv_aload_n hx hb dX12_study_37 rfl (lv_at hl 1 rfl) ?_
  refine lv_iload_n hx hb dX12_study_38 rfl (lv_at hl 2 rfl) ?_
  have hPc := hP.sub (ws' := [(Ad3, .inr (15, Fs0)), (Ad4, .inl (Ka3, 5, .inl Fa3)), (Ad5, .inl (Ka4, 5, .inl Fa4))]) [3, 4, 5] rfl
  have hDc := hD.sub (ws' := [(Ad3, .inr (15, Fs0)), (Ad4, .inl (Ka3, 5, .inl Fa3)), (Ad5, .inl (Ka4, 5, .inl Fa4))]) [3, 4, 5] (by decide) rfl
  have hKc := hK.sub (tys' := [(Ka3, .int), (Ka4, .int)]) [3, 4] rfl
  have hFc := va_free (wc := [(Ad3, .inr (15, Fs0)), (Ad4, .inl (Ka3, 5, .inl Fa3)), (Ad5, .inl (Ka4, 5, .inl Fa4))]) hD hS hA [3, 4, 5] rfl
  refine va_callv (va_runV (As := [.int Va0]) (rest := []) ⟨hx, hb, hml, hown, hts⟩ (z_X12_findWays l dC dI H.size Ad3 Fs0 Ad4 Fa3 Ka3 Ad5 Fa4 Ka4 Va0 (fh_sub o_Fs0.2 [0, 1, 0, 1] rfl) hk3_Fa3 hk4_Fa4 (by (try simp only [i_lt, i_le, i_eq] at gv_Va0); omega)) (cwV 1 hts g_z_X12_study_z_X12_findWays_558 rfl rfl rfl (by decide +kernel) ⟨Nat.le_of_ble_eq_true rfl, Nat.le_of_ble_eq_true rfl⟩) ⟨fun a U g mk q => by obtain ⟨q0, q1, qP, qK, qD⟩ := q; exact ⟨q0, q1, qP, va_K.moved (u := U) (U := U.calling g mk a) (Vm.Alike.refl U.vm) qK, qD⟩, va_recv hK hP (ci := 15) (q0 := 3) rfl rfl, fun U hU hW => ⟨rfl, by rw [hU], by rw [hU]; exact hPc, va_K.moved hW.alike hKc, hDc.weaken (fun _ _ _ _ => trivial)⟩⟩ rfl rfl hl.1 rfl (lv_room (Nat.le_of_ble_eq_true rfl)) dX12_study_39 ⟨Nat.le_of_ble_eq_true rfl, Nat.le_of_ble_eq_true rfl⟩) hS (fun q _ h => hFc q h) hFc (fun u t H1 locs ht hvm hw hB hz1 hk1 hS => ?_)
  obtain ⟨hP1, hK1, hD1⟩ := hB
  rw [ht] at hP1
  try dsimp only at hw
  obtain ⟨hP, hD⟩ := va_join (wr := [(Ad0, .inl (Ka0, 5, .inl f3741)), (Ad1, .inl (Ka1, 5, .inl Fa1)), (Ad2, .inl (Ka2, 5, .inl Fa2))]) (w1 := [(Ad3, .inr (15, Fs0)), (Ad4, .inl (Ka3, 5, .inl Fa3)), (Ad5, .inl (Ka4, 5, .inl Fa4))]) hP hD [3, 4, 5] [0, 1, 2] rfl rfl (by decide) (by decide) hk1 hFc hP1 hD1
  have hK := hK.sub (tys' := [(Ka0, .int), (Ka1, .int), (Ka2, .int), (Ka3, .int), (Ka4, .int)]) [0, 1, 2, 3, 4] rfl
  generalize H1 = H at hP hS ⊢
  have hP : va_P (dC, dI) vwCl [(Ad0, .inl (Ka0, 5, .inl f3741)), (Ad1, .inl (Ka1, 5, .inl Fa1)), (Ad2, .inl (Ka2, 5, .inl Fa2)), (Ad3, .inr (15, Fs0)), (Ad4, .inl (Ka3, 5, .inl Fa3)), (Ad5, .inl (Ka4, 5, .inl Fa4))] H := hP
  have hD : va_D A [(Ad0, .inl (Ka0, 5, .inl f3741)), (Ad1, .inl (Ka1, 5, .inl Fa1)), (Ad2, .inl (Ka2, 5, .inl Fa2)), (Ad3, .inr (15, Fs0)), (Ad4, .inl (Ka3, 5, .inl Fa3)), (Ad5, .inl (Ka4, 5, .inl Fa4))] := hD
  refine lv_aload_n hx hb dX12_study_42 rfl (lv_at hl 1 rfl) ?_
  refine lv_iload_n hx hb dX12_study_43 rfl (lv_at hl 2 rfl) ?_
  have hPc := hP.sub (ws' := [(Ad3, .inr (15, Fs0)), (Ad4, .inl (Ka3, 5, .inl Fa3))]) [3, 4] rfl
  have hDc := hD.sub (ws' := [(Ad3, .inr (15, Fs0)), (Ad4, .inl (Ka3, 5, .inl Fa3))]) [3, 4] (by decide) rfl
  have hKc := hK.sub (tys' := [(Ka3, .int)]) [3] rfl
  have hFc := va_free (wc := [(Ad3, .inr (15, Fs0)), (Ad4, .inl (Ka3, 5, .inl Fa3))]) hD hS hA [3, 4] rfl
  refine va_callv (va_runV (As := [.int Va0]) (rest := []) ⟨hx, hb, hml, hown, hts⟩ (z_X12_findDominators l dC dI H.size Ad3 Fs0 Ad4 Fa3 Ka3 Va0 (fh_sub o_Fs0.2 [0, 0] rfl) hk3_Fa3 (by (try simp only [i_lt, i_le, i_eq] at gv_Va0); omega)) (cwV 1 hts g_z_X12_study_z_X12_findDominators_561 rfl rfl rfl (by decide +kernel) ⟨Nat.le_of_ble_eq_true rfl, Nat.le_of_ble_eq_true rfl⟩) ⟨fun a U g mk q => by obtain ⟨q0, q1, qP, qK, qD⟩ := q; exact ⟨q0, q1, qP, va_K.moved (u := U) (U := U.calling g mk a) (Vm.Alike.refl U.vm) qK, qD⟩, va_recv hK hP (ci := 15) (q0 := 3) rfl rfl, fun U hU hW => ⟨rfl, by rw [hU], by rw [hU]; exact hPc, va_K.moved hW.alike hKc, hDc.weaken (fun _ _ _ _ => trivial)⟩⟩ rfl rfl hl.1 rfl (lv_room (Nat.le_of_ble_eq_true rfl)) dX12_study_44 ⟨Nat.le_of_ble_eq_true rfl, Nat.le_of_ble_eq_true rfl⟩) hS (fun q _ h => hFc q h) hFc (fun u t H1 locs ht hvm hw hB hz1 hk1 hS => ?_)
  obtain ⟨hP1, hK1, hD1⟩ := hB
  rw [ht] at hP1
  try dsimp only at hw
  obtain ⟨hP, hD⟩ := va_join (wr := [(Ad0, .inl (Ka0, 5, .inl f3741)), (Ad1, .inl (Ka1, 5, .inl Fa1)), (Ad2, .inl (Ka2, 5, .inl Fa2)), (Ad5, .inl (Ka4, 5, .inl Fa4))]) (w1 := [(Ad3, .inr (15, Fs0)), (Ad4, .inl (Ka3, 5, .inl Fa3))]) hP hD [3, 4] [0, 1, 2, 5] rfl rfl (by decide) (by decide) hk1 hFc hP1 hD1
  have hK := hK.sub (tys' := [(Ka0, .int), (Ka1, .int), (Ka2, .int), (Ka4, .int), (Ka3, .int)]) [0, 1, 2, 4, 3] rfl
  generalize H1 = H at hP hS ⊢
  have hP : va_P (dC, dI) vwCl [(Ad0, .inl (Ka0, 5, .inl f3741)), (Ad1, .inl (Ka1, 5, .inl Fa1)), (Ad2, .inl (Ka2, 5, .inl Fa2)), (Ad5, .inl (Ka4, 5, .inl Fa4)), (Ad3, .inr (15, Fs0)), (Ad4, .inl (Ka3, 5, .inl Fa3))] H := hP
  have hD : va_D A [(Ad0, .inl (Ka0, 5, .inl f3741)), (Ad1, .inl (Ka1, 5, .inl Fa1)), (Ad2, .inl (Ka2, 5, .inl Fa2)), (Ad5, .inl (Ka4, 5, .inl Fa4)), (Ad3, .inr (15, Fs0)), (Ad4, .inl (Ka3, 5, .inl Fa3))] := hD
  refine lv_aload_n hx hb dX12_study_47 rfl (lv_at hl 1 rfl) ?_
  refine lv_iload_n hx hb dX12_study_48 rfl (lv_at hl 2 rfl) ?_
  have hPc := hP.sub (ws' := [(Ad1, .inl (Ka1, 5, .inl Fa1)), (Ad3, .inr (15, Fs0)), (Ad4, .inl (Ka3, 5, .inl Fa3))]) [1, 4, 5] rfl
  have hDc := hD.sub (ws' := [(Ad1, .inl (Ka1, 5, .inl Fa1)), (Ad3, .inr (15, Fs0)), (Ad4, .inl (Ka3, 5, .inl Fa3))]) [1, 4, 5] (by decide) rfl
  have hKc := hK.sub (tys' := [(Ka1, .int), (Ka3, .int)]) [1, 4] rfl
  have hFc := va_free (wc := [(Ad1, .inl (Ka1, 5, .inl Fa1)), (Ad3, .inr (15, Fs0)), (Ad4, .inl (Ka3, 5, .inl Fa3))]) hD hS hA [1, 4, 5] rfl
  refine va_callv (va_runV (As := [.int Va0]) (rest := []) ⟨hx, hb, hml, hown, hts⟩ (z_X12_findRings l dC dI H.size Ad1 Fa1 Ka1 Ad3 Fs0 Ad4 Fa3 Ka3 Va0 (fh_sub o_Fs0.2 [0, 0, 4] rfl) hz_Fa1 hk3_Fa3 (by (try simp only [i_lt, i_le, i_eq] at gv_Va0); omega)) (cwV 1 hts g_z_X12_study_z_X12_findRings_564 rfl rfl rfl (by decide +kernel) ⟨Nat.le_of_ble_eq_true rfl, Nat.le_of_ble_eq_true rfl⟩) ⟨fun a U g mk q => by obtain ⟨q0, q1, qP, qK, qD⟩ := q; exact ⟨q0, q1, qP, va_K.moved (u := U) (U := U.calling g mk a) (Vm.Alike.refl U.vm) qK, qD⟩, va_recv hK hP (ci := 15) (q0 := 4) rfl rfl, fun U hU hW => ⟨rfl, by rw [hU], by rw [hU]; exact hPc, va_K.moved hW.alike hKc, hDc.weaken (fun _ _ _ _ => trivial)⟩⟩ rfl rfl hl.1 rfl (lv_room (Nat.le_of_ble_eq_true rfl)) dX12_study_49 ⟨Nat.le_of_ble_eq_true rfl, Nat.le_of_ble_eq_true rfl⟩) hS (fun q _ h => hFc q h) hFc (fun u t H1 locs ht hvm hw hB hz1 hk1 hS => ?_)
  obtain ⟨f3762, rfl⟩ : ∃ z, z = u := ⟨_, rfl⟩
  obtain ⟨hP1, hK1, hD1⟩ := hB
  rw [ht] at hP1
  try dsimp only at hw
  obtain ⟨hP, hD⟩ := va_join (wr := [(Ad0, .inl (Ka0, 5, .inl f3741)), (Ad2, .inl (Ka2, 5, .inl Fa2)), (Ad5, .inl (Ka4, 5, .inl Fa4))]) (w1 := [(Ad1, .inl (Ka1, 5, .inl f3762)), (Ad3, .inr (15, Fs0)), (Ad4, .inl (Ka3, 5, .inl Fa3))]) hP hD [1, 4, 5] [0, 2, 3] rfl rfl (by decide) (by decide) hk1 hFc hP1 hD1
  have hK := hK.sub (tys' := [(Ka0, .int), (Ka2, .int), (Ka4, .int), (Ka1, .int), (Ka3, .int)]) [0, 2, 3, 1, 4] rfl
  generalize H1 = H at hP hS ⊢
  have hP : va_P (dC, dI) vwCl [(Ad0, .inl (Ka0, 5, .inl f3741)), (Ad2, .inl (Ka2, 5, .inl Fa2)), (Ad5, .inl (Ka4, 5, .inl Fa4)), (Ad1, .inl (Ka1, 5, .inl f3762)), (Ad3, .inr (15, Fs0)), (Ad4, .inl (Ka3, 5, .inl Fa3))] H := hP
  have hD : va_D A [(Ad0, .inl (Ka0, 5, .inl f3741)), (Ad2, .inl (Ka2, 5, .inl Fa2)), (Ad5, .inl (Ka4, 5, .inl Fa4)), (Ad1, .inl (Ka1, 5, .inl f3762)), (Ad3, .inr (15, Fs0)), (Ad4, .inl (Ka3, 5, .inl Fa3))] := hD
  obtain ⟨q3763, q3764⟩ := hw
  refine lv_aload_n hx hb dX12_study_52 rfl (lv_at hl 1 rfl) ?_
  refine lv_iload_n hx hb dX12_study_53 rfl (lv_at hl 2 rfl) ?_
  have hPc := hP.sub (ws' := [(Ad2, .inl (Ka2, 5, .inl Fa2)), (Ad3, .inr (15, Fs0)), (Ad4, .inl (Ka3, 5, .inl Fa3))]) [1, 4, 5] rfl
  have hDc := hD.sub (ws' := [(Ad2, .inl (Ka2, 5, .inl Fa2)), (Ad3, .inr (15, Fs0)), (Ad4, .inl (Ka3, 5, .inl Fa3))]) [1, 4, 5] (by decide) rfl
  have hKc := hK.sub (tys' := [(Ka2, .int), (Ka3, .int)]) [1, 4] rfl
  have hFc := va_free (wc := [(Ad2, .inl (Ka2, 5, .inl Fa2)), (Ad3, .inr (15, Fs0)), (Ad4, .inl (Ka3, 5, .inl Fa3))]) hD hS hA [1, 4, 5] rfl
  refine va_callv (va_runV (As := [.int Va0]) (rest := []) ⟨hx, hb, hml, hown, hts⟩ (z_X12_findGroups l dC dI H.size Ad2 Fa2 Ka2 Ad3 Fs0 Ad4 Fa3 Ka3 Va0 (fh_sub o_Fs0.2 [0, 0, 5] rfl) hz_Fa2 hk3_Fa3 (by (try simp only [i_lt, i_le, i_eq] at gv_Va0); omega)) (cwV 1 hts g_z_X12_study_z_X12_findGroups_567 rfl rfl rfl (by decide +kernel) ⟨Nat.le_of_ble_eq_true rfl, Nat.le_of_ble_eq_true rfl⟩) ⟨fun a U g mk q => by obtain ⟨q0, q1, qP, qK, qD⟩ := q; exact ⟨q0, q1, qP, va_K.moved (u := U) (U := U.calling g mk a) (Vm.Alike.refl U.vm) qK, qD⟩, va_recv hK hP (ci := 15) (q0 := 4) rfl rfl, fun U hU hW => ⟨rfl, by rw [hU], by rw [hU]; exact hPc, va_K.moved hW.alike hKc, hDc.weaken (fun _ _ _ _ => trivial)⟩⟩ rfl rfl hl.1 rfl (lv_room (Nat.le_of_ble_eq_true rfl)) dX12_study_54 ⟨Nat.le_of_ble_eq_true rfl, Nat.le_of_ble_eq_true rfl⟩) hS (fun q _ h => hFc q h) hFc (fun u t H1 locs ht hvm hw hB hz1 hk1 hS => ?_)
  obtain ⟨f3773, rfl⟩ : ∃ z, z = u := ⟨_, rfl⟩
  obtain ⟨hP1, hK1, hD1⟩ := hB
  rw [ht] at hP1
  try dsimp only at hw
  obtain ⟨hP, hD⟩ := va_join (wr := [(Ad0, .inl (Ka0, 5, .inl f3741)), (Ad5, .inl (Ka4, 5, .inl Fa4)), (Ad1, .inl (Ka1, 5, .inl f3762))]) (w1 := [(Ad2, .inl (Ka2, 5, .inl f3773)), (Ad3, .inr (15, Fs0)), (Ad4, .inl (Ka3, 5, .inl Fa3))]) hP hD [1, 4, 5] [0, 2, 3] rfl rfl (by decide) (by decide) hk1 hFc hP1 hD1
  have hK := hK.sub (tys' := [(Ka0, .int), (Ka4, .int), (Ka1, .int), (Ka2, .int), (Ka3, .int)]) [0, 2, 3, 1, 4] rfl
  generalize H1 = H at hP hS ⊢
  have hP : va_P (dC, dI) vwCl [(Ad0, .inl (Ka0, 5, .inl f3741)), (Ad5, .inl (Ka4, 5, .inl Fa4)), (Ad1, .inl (Ka1, 5, .inl f3762)), (Ad2, .inl (Ka2, 5, .inl f3773)), (Ad3, .inr (15, Fs0)), (Ad4, .inl (Ka3, 5, .inl Fa3))] H := hP
  have hD : va_D A [(Ad0, .inl (Ka0, 5, .inl f3741)), (Ad5, .inl (Ka4, 5, .inl Fa4)), (Ad1, .inl (Ka1, 5, .inl f3762)), (Ad2, .inl (Ka2, 5, .inl f3773)), (Ad3, .inr (15, Fs0)), (Ad4, .inl (Ka3, 5, .inl Fa3))] := hD
  obtain ⟨q3774, q3775⟩ := hw
  have hP9 := hP.sub (ws' := [(Ad0, .inl (Ka0, 5, .inl f3741)), (Ad1, .inl (Ka1, 5, .inl f3762)), (Ad2, .inl (Ka2, 5, .inl f3773)), (Ad3, .inr (15, Fs0)), (Ad4, .inl (Ka3, 5, .inl Fa3)), (Ad5, .inl (Ka4, 5, .inl Fa4))]) [0, 2, 3, 4, 5, 1] rfl
  have hD9 := hD.sub (ws' := [(Ad0, .inl (Ka0, 5, .inl f3741)), (Ad1, .inl (Ka1, 5, .inl f3762)), (Ad2, .inl (Ka2, 5, .inl f3773)), (Ad3, .inr (15, Fs0)), (Ad4, .inl (Ka3, 5, .inl Fa3)), (Ad5, .inl (Ka4, 5, .inl Fa4))]) [0, 2, 3, 4, 5, 1] (by decide) rfl
  have hK9 := hK.sub (tys' := [(Ka0, .int), (Ka1, .int), (Ka2, .int), (Ka3, .int), (Ka4, .int)]) [0, 2, 3, 4, 1] rfl
  exact W.vret hx hb hr (fun t ht hW => ⟨⟨(f3741, f3762, f3773), rfl, ⟨z3743, q3742, q3763, q3764, q3774, q3775⟩, by rw [ht]; exact hP9, va_K.moved hW.alike hK9, hD9⟩, hS.F ht⟩) hS.2.2 dX12_study_57

def l_n_take : List Cond := [.methodLink RX12 542 yX12_isPicture, .instanceMethod yX12_isPicture, .selects RX12 yX12_isPicture yX12_isPicture, .initialized RX12, .fieldLink RX12 388 "HeapWorksModel" "thrown" "I", .methodLink RX12 552 yX12_picture0, .instanceMethod yX12_picture0, .selects RX12 yX12_picture0 yX12_picture0, .methodLink RX12 555 yX12_study, .instanceMethod yX12_study, .selects RX12 yX12_study yX12_study, .fieldLink RX12 183 "HeapWorksModel" "things" "[I", .code yX12_isPicture cX12_isPicture 2 (some .boolean), .code yX12_picture0 cX12_picture0 10 none, .methodLink RX12 539 yX12_walkRoots, .instanceMethod yX12_walkRoots, .selects RX12 yX12_walkRoots yX12_walkRoots, .fieldLink RX12 522 "HeapWorksModel" "walkedMany" "I", .fieldLink RX12 234 "HeapWorksModel" "rootMany" "[I", .fieldLink RX12 470 "HeapWorksModel" "toldMany" "I", .fieldLink RX12 413 "HeapWorksModel" "classes" "I", .code yX12_walkRoots cX12_walkRoots 2 none, .methodLink RX12 532 yX12_beginWalk, .instanceMethod yX12_beginWalk, .selects RX12 yX12_beginWalk yX12_beginWalk, .code yX12_beginWalk cX12_beginWalk 2 none, .fieldLink RX12 180 "HeapWorksModel" "placeIn" "[I", .code yX12_study cX12_study 3 none, .fieldLink RX12 225 "HeapWorksModel" "lostMany" "[I", .methodLink RX12 558 yX12_findWays, .instanceMethod yX12_findWays, .selects RX12 yX12_findWays yX12_findWays, .methodLink RX12 561 yX12_findDominators, .instanceMethod yX12_findDominators, .selects RX12 yX12_findDominators yX12_findDominators, .methodLink RX12 564 yX12_findRings, .instanceMethod yX12_findRings, .selects RX12 yX12_findRings yX12_findRings, .methodLink RX12 567 yX12_findGroups, .instanceMethod yX12_findGroups, .selects RX12 yX12_findGroups yX12_findGroups, .code yX12_findWays cX12_findWays 5 none, .code yX12_findDominators cX12_findDominators 7 none, .code yX12_findRings cX12_findRings 5 none, .fieldLink RX12 228 "HeapWorksModel" "ringMany" "[I", .code yX12_findGroups cX12_findGroups 5 none, .fieldLink RX12 231 "HeapWorksModel" "groupMany" "[I"]
def w_n_take : List Cond := .code yX12_take cX12_take 2 (some .int) :: (l_n_take ++ (wsX120))
theorem in_n_take_X12 : ∀ w ∈ wsX120, w ∈ w_n_take := fun w h => List.mem_cons_of_mem _ (List.mem_append_right _ (h))
theorem g_n_take_z_X12_isPicture_542 : GoodIn w_n_take (wsV RX12 542 RX12 yX12_isPicture w_z_X12_isPicture) := goodIn_app (goodIn_sub (by decide +kernel) (by decide +kernel)) (goodIn_sub (by decide +kernel) (by decide +kernel))
theorem g_n_take_z_X12_picture0_552 : GoodIn w_n_take (wsV RX12 552 RX12 yX12_picture0 w_z_X12_picture0) := goodIn_app (goodIn_sub (by decide +kernel) (by decide +kernel)) (goodIn_ca (goodIn_sub (by decide +kernel) (by decide +kernel)) (goodIn_in in_n_take_X12 gd_X12))
theorem g_n_take_z_X12_study_555 : GoodIn w_n_take (wsV RX12 555 RX12 yX12_study w_z_X12_study) := goodIn_app (goodIn_sub (by decide +kernel) (by decide +kernel)) (goodIn_ca (goodIn_sub (by decide +kernel) (by decide +kernel)) (goodIn_in in_n_take_X12 gd_X12))
set_option maxHeartbeats 4000000 in
set_option maxRecDepth 100000 in
theorem n_take (l : Launch) (dC : Nat → ClassId) (dI : Nat → Nat → Nat) (sz : Nat) (aR : Nat) (fsR : List Value) (q_placeIn : Nat) (f_placeIn : Nat → Int32) (k_placeIn : ClassId) (q_things : Nat) (f_things : Nat → Int32) (k_things : ClassId) (q_lostMany : Nat) (f_lostMany : Nat → Int32) (k_lostMany : ClassId) (q_ringMany : Nat) (f_ringMany : Nat → Int32) (k_ringMany : ClassId) (q_groupMany : Nat) (f_groupMany : Nat → Int32) (k_groupMany : ClassId) (q_rootMany : Nat) (f_rootMany : Nat → Int32) (k_rootMany : ClassId) (p0 : Int32) (k_fsR : fh fsR 150 [(0, .int 0), (20, .int 0), (31, .int 0), (46, .ref q_placeIn), (47, .int 0), (48, .ref q_things), (62, .ref q_lostMany), (63, .ref q_ringMany), (64, .ref q_groupMany), (65, .ref q_rootMany)]) (hz_f_things : ∀ j, f_things j = 0) (hz_f_lostMany : ∀ j, f_lostMany j = 0) (hz_f_ringMany : ∀ j, f_ringMany j = 0) (hz_f_groupMany : ∀ j, f_groupMany j = 0) (hz_f_rootMany : ∀ j, f_rootMany j = 0) : Met l yX12_take w_n_take ({ frames := 3, cells := 0, slots := 0, locals := 71 }) (va_Pc [.ref aR, .int p0] (fun U => U.heap.size = sz ∧ Wd dC dI [(k_placeIn, .int), (k_things, .int), (k_lostMany, .int), (k_ringMany, .int), (k_groupMany, .int), (k_rootMany, .int)] (fun _ => True) [(aR, .inr (15, fsR)), (q_placeIn, .inl (k_placeIn, 400, .inl f_placeIn)), (q_things, .inl (k_things, 5, .inl f_things)), (q_lostMany, .inl (k_lostMany, 5, .inl f_lostMany)), (q_ringMany, .inl (k_ringMany, 5, .inl f_ringMany)), (q_groupMany, .inl (k_groupMany, 5, .inl f_groupMany)), (q_rootMany, .inl (k_rootMany, 5, .inl f_rootMany))] U)) (va_Qi (fun (r : Int32) (u : List Value × (Nat → Int32) × (Nat → Int32) × (Nat → Int32) × (Nat → Int32) × (Nat → Int32) × (Nat → Int32)) => (p0 < 0 ∧ r = 0 ∧ ow fsR (u.1) 150 [0] [(0, .int 1), (20, .int 0), (31, .int 0), (46, .ref q_placeIn), (47, .int 0), (48, .ref q_things), (62, .ref q_lostMany), (63, .ref q_ringMany), (64, .ref q_groupMany), (65, .ref q_rootMany)] ∧ (∀ j, (u.2.2.1) j = 0) ∧ (∀ j, (u.2.2.2.1) j = 0) ∧ (∀ j, (u.2.2.2.2.1) j = 0) ∧ (∀ j, (u.2.2.2.2.2.1) j = 0) ∧ (∀ j, (u.2.2.2.2.2.2) j = 0)) ∨ (¬ p0 < 0 ∧ 4 ≤ p0 ∧ r = 0 ∧ ow fsR (u.1) 150 [0] [(0, .int 1), (20, .int 0), (31, .int 0), (46, .ref q_placeIn), (47, .int 0), (48, .ref q_things), (62, .ref q_lostMany), (63, .ref q_ringMany), (64, .ref q_groupMany), (65, .ref q_rootMany)] ∧ (∀ j, (u.2.2.1) j = 0) ∧ (∀ j, (u.2.2.2.1) j = 0) ∧ (∀ j, (u.2.2.2.2.1) j = 0) ∧ (∀ j, (u.2.2.2.2.2.1) j = 0) ∧ (∀ j, (u.2.2.2.2.2.2) j = 0)) ∨ (¬ p0 < 0 ∧ ¬ 4 ≤ p0 ∧ r = 0 ∧ ow fsR (u.1) 150 [47, 0] [(47, .int 0), (46, .ref q_placeIn), (20, .int 0), (31, .int 0), (46, .ref q_placeIn), (20, .int 0), (31, .int 0), (46, .ref q_placeIn), (48, .ref q_things), (65, .ref q_rootMany), (0, .int 0), (20, .int 0), (31, .int 0), (46, .ref q_placeIn), (48, .ref q_things), (62, .ref q_lostMany), (63, .ref q_ringMany), (64, .ref q_groupMany), (65, .ref q_rootMany)] ∧ (∀ j, (u.2.2.1) j = 0) ∧ (u.2.2.1) p0.toNatClampNeg = 0 ∧ (∀ j, (u.2.2.2.1) j = 0) ∧ (u.2.2.2.1) p0.toNatClampNeg = 0 ∧ (∀ j, (u.2.2.2.2.1) j = 0) ∧ (u.2.2.2.2.1) p0.toNatClampNeg = 0 ∧ (∀ j, (u.2.2.2.2.2.1) j = 0) ∧ (u.2.2.2.2.2.1) p0.toNatClampNeg = 0 ∧ (∀ j, (u.2.2.2.2.2.2) j = 0) ∧ (u.2.2.2.2.2.2) p0.toNatClampNeg = 0)) (fun (u : List Value × (Nat → Int32) × (Nat → Int32) × (Nat → Int32) × (Nat → Int32) × (Nat → Int32) × (Nat → Int32)) t => Wd dC dI [(k_placeIn, .int), (k_things, .int), (k_lostMany, .int), (k_ringMany, .int), (k_groupMany, .int), (k_rootMany, .int)] (va_A [(aR, .inr (15, fsR)), (q_placeIn, .inl (k_placeIn, 400, .inl f_placeIn)), (q_things, .inl (k_things, 5, .inl f_things)), (q_lostMany, .inl (k_lostMany, 5, .inl f_lostMany)), (q_ringMany, .inl (k_ringMany, 5, .inl f_ringMany)), (q_groupMany, .inl (k_groupMany, 5, .inl f_groupMany)), (q_rootMany, .inl (k_rootMany, 5, .inl f_rootMany))] sz) [(aR, .inr (15, (u.1))), (q_placeIn, .inl (k_placeIn, 400, .inl ((u.2.1)))), (q_things, .inl (k_things, 5, .inl ((u.2.2.1)))), (q_lostMany, .inl (k_lostMany, 5, .inl ((u.2.2.2.1)))), (q_ringMany, .inl (k_ringMany, 5, .inl ((u.2.2.2.2.1)))), (q_groupMany, .inl (k_groupMany, 5, .inl ((u.2.2.2.2.2.1)))), (q_rootMany, .inl (k_rootMany, 5, .inl ((u.2.2.2.2.2.2))))] t) (va_A [(aR, .inr (15, fsR)), (q_placeIn, .inl (k_placeIn, 400, .inl f_placeIn)), (q_things, .inl (k_things, 5, .inl f_things)), (q_lostMany, .inl (k_lostMany, 5, .inl f_lostMany)), (q_ringMany, .inl (k_ringMany, 5, .inl f_ringMany)), (q_groupMany, .inl (k_groupMany, 5, .inl f_groupMany)), (q_rootMany, .inl (k_rootMany, 5, .inl f_rootMany))] sz))  0 0 (va_A [(aR, .inr (15, fsR)), (q_placeIn, .inl (k_placeIn, 400, .inl f_placeIn)), (q_things, .inl (k_things, 5, .inl f_things)), (q_lostMany, .inl (k_lostMany, 5, .inl f_lostMany)), (q_ringMany, .inl (k_ringMany, 5, .inl f_ringMany)), (q_groupMany, .inl (k_groupMany, 5, .inl f_groupMany)), (q_rootMany, .inl (k_rootMany, 5, .inl f_rootMany))] sz) := by
  refine Met.ofW (cc := cX12_take) (maxL := 2) (ret := (some .int)) (by decide) rfl ?_
  intro p e s m args below meth c s₁ B hml hv
  obtain ⟨rfl, hsz, hP, hK, hD0⟩ := hv
  have hx := B.exec
  have hb := B.bytes
  have hr := B.returns
  have hts := atoms_spec (ws := w_n_take) B.pre
  have hown : s.vm.findClass RX12 = some m.cls := findClass_of_methodNamed B.named
  have hlocks := B.notSynchronized
  subst hsz
  have hD := hD0.self (sz := s.heap.size)
  generalize hAe : va_A [(aR, .inr (15, fsR)), (q_placeIn, .inl (k_placeIn, 400, .inl f_placeIn)), (q_things, .inl (k_things, 5, .inl f_things)), (q_lostMany, .inl (k_lostMany, 5, .inl f_lostMany)), (q_ringMany, .inl (k_ringMany, 5, .inl f_ringMany)), (q_groupMany, .inl (k_groupMany, 5, .inl f_groupMany)), (q_rootMany, .inl (k_rootMany, 5, .inl f_rootMany))] s.heap.size = A at hD ⊢
  have hA : ∀ q : Nat, s.heap.size ≤ q → A q := fun q h => by rw [← hAe]; exact Or.inr h
  have hS : va_S A s.heap s.heap [] := va_S.rf
  have hl := lv_entry ([.ref aR, .int p0]) (n := 2) (Nat.le_of_ble_eq_true rfl)
  rw [lg_entry_eq]
  generalize (lg_sl ([.ref aR, .int p0]) ++ List.replicate (2 - (lg_sl ([.ref aR, .int p0])).length) Slot.unset).toArray = ls at hl ⊢
  have hl : lv_has ls 2 [(0, .ref aR), (1, .int p0)] := hl
  have o_fsR := ow_0 k_fsR
  refine lv_aload_n hx hb dX12_take_0 rfl (lv_at hl 0 rfl) ?_
  refine lv_aload_n hx hb dX12_take_1 rfl (lv_at hl 0 rfl) ?_
  refine lv_iload_n hx hb dX12_take_2 rfl (lv_at hl 1 rfl) ?_
  have hPc := hP.sub (ws' := []) [] rfl
  have hDc := hD.sub (ws' := []) [] (by decide) rfl
  have hKc := hK.sub (tys' := []) [] rfl
  have hFc := va_free (wc := []) hD hS hA [] rfl
  refine va_calli (va_runV (As := [.int p0]) (rest := [.ref aR]) ⟨hx, hb, hml, hown, hts⟩ (z_X12_isPicture l dC dI s.heap.size aR p0  ) (cwV 1 hts g_n_take_z_X12_isPicture_542 rfl rfl rfl (by decide +kernel) ⟨Nat.le_of_ble_eq_true rfl, Nat.le_of_ble_eq_true rfl⟩) ⟨fun a U g mk q => by obtain ⟨q0, q1, qP, qK, qD⟩ := q; exact ⟨q0, q1, qP, va_K.moved (u := U) (U := U.calling g mk a) (Vm.Alike.refl U.vm) qK, qD⟩, va_recv hK hP (ci := 15) (q0 := 0) rfl rfl, fun U hU hW => ⟨rfl, by rw [hU], by rw [hU]; exact hPc, va_K.moved hW.alike hKc, hDc.weaken (fun _ _ _ _ => trivial)⟩⟩ rfl rfl hl.1 rfl (lv_room (Nat.le_of_ble_eq_true rfl)) dX12_take_3 ⟨Nat.le_of_ble_eq_true rfl, Nat.le_of_ble_eq_true rfl⟩) hS (fun q _ h => hFc q h) hFc (fun r3788 u t H1 locs ht hvm hw hB hz1 hk1 hS => ?_)
  obtain ⟨hP1, hK1, hD1⟩ := hB
  rw [ht] at hP1
  try dsimp only at hw
  obtain ⟨hP, hD⟩ := va_join (wr := [(aR, .inr (15, fsR)), (q_placeIn, .inl (k_placeIn, 400, .inl f_placeIn)), (q_things, .inl (k_things, 5, .inl f_things)), (q_lostMany, .inl (k_lostMany, 5, .inl f_lostMany)), (q_ringMany, .inl (k_ringMany, 5, .inl f_ringMany)), (q_groupMany, .inl (k_groupMany, 5, .inl f_groupMany)), (q_rootMany, .inl (k_rootMany, 5, .inl f_rootMany))]) (w1 := []) hP hD [] [0, 1, 2, 3, 4, 5, 6] rfl rfl (by decide) (by decide) hk1 hFc hP1 hD1
  have hK := hK.sub (tys' := [(k_placeIn, .int), (k_things, .int), (k_lostMany, .int), (k_ringMany, .int), (k_groupMany, .int), (k_rootMany, .int)]) [0, 1, 2, 3, 4, 5] rfl
  generalize H1 = H at hP hS ⊢
  have hP : va_P (dC, dI) vwCl [(aR, .inr (15, fsR)), (q_placeIn, .inl (k_placeIn, 400, .inl f_placeIn)), (q_things, .inl (k_things, 5, .inl f_things)), (q_lostMany, .inl (k_lostMany, 5, .inl f_lostMany)), (q_ringMany, .inl (k_ringMany, 5, .inl f_ringMany)), (q_groupMany, .inl (k_groupMany, 5, .inl f_groupMany)), (q_rootMany, .inl (k_rootMany, 5, .inl f_rootMany))] H := hP
  have hD : va_D A [(aR, .inr (15, fsR)), (q_placeIn, .inl (k_placeIn, 400, .inl f_placeIn)), (q_things, .inl (k_things, 5, .inl f_things)), (q_lostMany, .inl (k_lostMany, 5, .inl f_lostMany)), (q_ringMany, .inl (k_ringMany, 5, .inl f_ringMany)), (q_groupMany, .inl (k_groupMany, 5, .inl f_groupMany)), (q_rootMany, .inl (k_rootMany, 5, .inl f_rootMany))] := hD
  rcases hw with ⟨c3789, er3790⟩ | ⟨c3791, c3792, er3793⟩ | ⟨c3794, c3795, er3796⟩
  · skip
    subst er3790
    refine lv_if_eq (tgt := 13) hx hb dX12_take_6 (by decide) (fun c3797 => ?_) (fun c3797 => absurd c3797 (by decide))
    refine lv_iconst (v := 1) hx hb dX12_take_13 (by decide) ?_
    refine va_put (D := (dC, dI)) (ci := 15) (v := .int 1) (ty := .int) (C := RX12) (T := TX12) (N := 150) hx hb hts (in_n_take_X12) tyX12 tyX12_ok nmX12 hown hK hP hD hS 0 rfl rfl 0 (by decide) (hts (.fieldLink RX12 388 "HeapWorksModel" "thrown" "I") (by decide +kernel)) (fun _ h9 => h9) rfl (by decide +kernel) rfl rfl (by rw [o_fsR.2.1]; decide) dX12_take_14 (fun H locs hP hD hS => ?_)
    have hP : va_P (dC, dI) vwCl [(aR, .inr (15, (fsR.set 0 (.int 1)))), (q_placeIn, .inl (k_placeIn, 400, .inl f_placeIn)), (q_things, .inl (k_things, 5, .inl f_things)), (q_lostMany, .inl (k_lostMany, 5, .inl f_lostMany)), (q_ringMany, .inl (k_ringMany, 5, .inl f_ringMany)), (q_groupMany, .inl (k_groupMany, 5, .inl f_groupMany)), (q_rootMany, .inl (k_rootMany, 5, .inl f_rootMany))] H := hP
    have hD : va_D A [(aR, .inr (15, (fsR.set 0 (.int 1)))), (q_placeIn, .inl (k_placeIn, 400, .inl f_placeIn)), (q_things, .inl (k_things, 5, .inl f_things)), (q_lostMany, .inl (k_lostMany, 5, .inl f_lostMany)), (q_ringMany, .inl (k_ringMany, 5, .inl f_ringMany)), (q_groupMany, .inl (k_groupMany, 5, .inl f_groupMany)), (q_rootMany, .inl (k_rootMany, 5, .inl f_rootMany))] := hD
    have o_s3798 := ow_set o_fsR 0 (.int 1) (by decide) (l' := [(0, .int 1), (20, .int 0), (31, .int 0), (46, .ref q_placeIn), (47, .int 0), (48, .ref q_things), (62, .ref q_lostMany), (63, .ref q_ringMany), (64, .ref q_groupMany), (65, .ref q_rootMany)]) (w' := [0]) rfl rfl
    generalize (fsR.set 0 (.int 1)) = s3798 at hP hD o_s3798
    refine lv_aload_n hx hb dX12_take_17 rfl (lv_at hl 0 rfl) ?_
    refine va_get (D := (dC, dI)) (ci := 15) (v := .int 1) (C := RX12) (T := TX12) (N := 150) hx hb hts (in_n_take_X12) hown hK hP 0 rfl rfl 0 (by decide) (hts (.fieldLink RX12 388 "HeapWorksModel" "thrown" "I") (by decide +kernel)) (fun _ h9 => h9) (ow_at o_s3798 0 rfl) dX12_take_18 ?_
    refine lv_if_le (tgt := 26) hx hb dX12_take_21 (by decide) (fun c3799 => absurd c3799 (by decide)) (fun c3799 => ?_)
    refine lv_iconst (v := 0) hx hb dX12_take_24 (by decide) ?_
    have hP9 := hP.sub (ws' := [(aR, .inr (15, s3798)), (q_placeIn, .inl (k_placeIn, 400, .inl f_placeIn)), (q_things, .inl (k_things, 5, .inl f_things)), (q_lostMany, .inl (k_lostMany, 5, .inl f_lostMany)), (q_ringMany, .inl (k_ringMany, 5, .inl f_ringMany)), (q_groupMany, .inl (k_groupMany, 5, .inl f_groupMany)), (q_rootMany, .inl (k_rootMany, 5, .inl f_rootMany))]) [0, 1, 2, 3, 4, 5, 6] rfl
    have hD9 := hD.sub (ws' := [(aR, .inr (15, s3798)), (q_placeIn, .inl (k_placeIn, 400, .inl f_placeIn)), (q_things, .inl (k_things, 5, .inl f_things)), (q_lostMany, .inl (k_lostMany, 5, .inl f_lostMany)), (q_ringMany, .inl (k_ringMany, 5, .inl f_ringMany)), (q_groupMany, .inl (k_groupMany, 5, .inl f_groupMany)), (q_rootMany, .inl (k_rootMany, 5, .inl f_rootMany))]) [0, 1, 2, 3, 4, 5, 6] (by decide) rfl
    have hK9 := hK.sub (tys' := [(k_placeIn, .int), (k_things, .int), (k_lostMany, .int), (k_ringMany, .int), (k_groupMany, .int), (k_rootMany, .int)]) [0, 1, 2, 3, 4, 5] rfl
    exact W.iret (v := 0) hx hb hr (fun t ht hW => ⟨⟨0, (s3798, f_placeIn, f_things, f_lostMany, f_ringMany, f_groupMany, f_rootMany), rfl, (Or.inl ⟨c3789, rfl, o_s3798, hz_f_things, hz_f_lostMany, hz_f_ringMany, hz_f_groupMany, hz_f_rootMany⟩), by rw [ht]; exact hP9, va_K.moved hW.alike hK9, hD9⟩, hS.F ht⟩) hS.2.2 dX12_take_25
  · skip
    subst er3793
    refine lv_if_eq (tgt := 13) hx hb dX12_take_6 (by decide) (fun c3800 => ?_) (fun c3800 => absurd c3800 (by decide))
    refine lv_iconst (v := 1) hx hb dX12_take_13 (by decide) ?_
    refine va_put (D := (dC, dI)) (ci := 15) (v := .int 1) (ty := .int) (C := RX12) (T := TX12) (N := 150) hx hb hts (in_n_take_X12) tyX12 tyX12_ok nmX12 hown hK hP hD hS 0 rfl rfl 0 (by decide) (hts (.fieldLink RX12 388 "HeapWorksModel" "thrown" "I") (by decide +kernel)) (fun _ h9 => h9) rfl (by decide +kernel) rfl rfl (by rw [o_fsR.2.1]; decide) dX12_take_14 (fun H locs hP hD hS => ?_)
    have hP : va_P (dC, dI) vwCl [(aR, .inr (15, (fsR.set 0 (.int 1)))), (q_placeIn, .inl (k_placeIn, 400, .inl f_placeIn)), (q_things, .inl (k_things, 5, .inl f_things)), (q_lostMany, .inl (k_lostMany, 5, .inl f_lostMany)), (q_ringMany, .inl (k_ringMany, 5, .inl f_ringMany)), (q_groupMany, .inl (k_groupMany, 5, .inl f_groupMany)), (q_rootMany, .inl (k_rootMany, 5, .inl f_rootMany))] H := hP
    have hD : va_D A [(aR, .inr (15, (fsR.set 0 (.int 1)))), (q_placeIn, .inl (k_placeIn, 400, .inl f_placeIn)), (q_things, .inl (k_things, 5, .inl f_things)), (q_lostMany, .inl (k_lostMany, 5, .inl f_lostMany)), (q_ringMany, .inl (k_ringMany, 5, .inl f_ringMany)), (q_groupMany, .inl (k_groupMany, 5, .inl f_groupMany)), (q_rootMany, .inl (k_rootMany, 5, .inl f_rootMany))] := hD
    have o_s3801 := ow_set o_fsR 0 (.int 1) (by decide) (l' := [(0, .int 1), (20, .int 0), (31, .int 0), (46, .ref q_placeIn), (47, .int 0), (48, .ref q_things), (62, .ref q_lostMany), (63, .ref q_ringMany), (64, .ref q_groupMany), (65, .ref q_rootMany)]) (w' := [0]) rfl rfl
    generalize (fsR.set 0 (.int 1)) = s3801 at hP hD o_s3801
    refine lv_aload_n hx hb dX12_take_17 rfl (lv_at hl 0 rfl) ?_
    refine va_get (D := (dC, dI)) (ci := 15) (v := .int 1) (C := RX12) (T := TX12) (N := 150) hx hb hts (in_n_take_X12) hown hK hP 0 rfl rfl 0 (by decide) (hts (.fieldLink RX12 388 "HeapWorksModel" "thrown" "I") (by decide +kernel)) (fun _ h9 => h9) (ow_at o_s3801 0 rfl) dX12_take_18 ?_
    refine lv_if_le (tgt := 26) hx hb dX12_take_21 (by decide) (fun c3802 => absurd c3802 (by decide)) (fun c3802 => ?_)
    refine lv_iconst (v := 0) hx hb dX12_take_24 (by decide) ?_
    have hP9 := hP.sub (ws' := [(aR, .inr (15, s3801)), (q_placeIn, .inl (k_placeIn, 400, .inl f_placeIn)), (q_things, .inl (k_things, 5, .inl f_things)), (q_lostMany, .inl (k_lostMany, 5, .inl f_lostMany)), (q_ringMany, .inl (k_ringMany, 5, .inl f_ringMany)), (q_groupMany, .inl (k_groupMany, 5, .inl f_groupMany)), (q_rootMany, .inl (k_rootMany, 5, .inl f_rootMany))]) [0, 1, 2, 3, 4, 5, 6] rfl
    have hD9 := hD.sub (ws' := [(aR, .inr (15, s3801)), (q_placeIn, .inl (k_placeIn, 400, .inl f_placeIn)), (q_things, .inl (k_things, 5, .inl f_things)), (q_lostMany, .inl (k_lostMany, 5, .inl f_lostMany)), (q_ringMany, .inl (k_ringMany, 5, .inl f_ringMany)), (q_groupMany, .inl (k_groupMany, 5, .inl f_groupMany)), (q_rootMany, .inl (k_rootMany, 5, .inl f_rootMany))]) [0, 1, 2, 3, 4, 5, 6] (by decide) rfl
    have hK9 := hK.sub (tys' := [(k_placeIn, .int), (k_things, .int), (k_lostMany, .int), (k_ringMany, .int), (k_groupMany, .int), (k_rootMany, .int)]) [0, 1, 2, 3, 4, 5] rfl
    exact W.iret (v := 0) hx hb hr (fun t ht hW => ⟨⟨0, (s3801, f_placeIn, f_things, f_lostMany, f_ringMany, f_groupMany, f_rootMany), rfl, (Or.inr (Or.inl ⟨c3791, c3792, rfl, o_s3801, hz_f_things, hz_f_lostMany, hz_f_ringMany, hz_f_groupMany, hz_f_rootMany⟩)), by rw [ht]; exact hP9, va_K.moved hW.alike hK9, hD9⟩, hS.F ht⟩) hS.2.2 dX12_take_25
  · skip
    subst er3796
    refine lv_if_eq (tgt := 13) hx hb dX12_take_6 (by decide) (fun c3803 => absurd c3803 (by decide)) (fun c3803 => ?_)
    refine lv_iconst (v := 0) hx hb dX12_take_9 (by decide) ?_
    refine lv_goto (tgt := 14) hx hb dX12_take_10 (by decide) ?_
    refine va_put (D := (dC, dI)) (ci := 15) (v := .int 0) (ty := .int) (C := RX12) (T := TX12) (N := 150) hx hb hts (in_n_take_X12) tyX12 tyX12_ok nmX12 hown hK hP hD hS 0 rfl rfl 0 (by decide) (hts (.fieldLink RX12 388 "HeapWorksModel" "thrown" "I") (by decide +kernel)) (fun _ h9 => h9) rfl (by decide +kernel) rfl rfl (by rw [o_fsR.2.1]; decide) dX12_take_14 (fun H locs hP hD hS => ?_)
    have hP : va_P (dC, dI) vwCl [(aR, .inr (15, (fsR.set 0 (.int 0)))), (q_placeIn, .inl (k_placeIn, 400, .inl f_placeIn)), (q_things, .inl (k_things, 5, .inl f_things)), (q_lostMany, .inl (k_lostMany, 5, .inl f_lostMany)), (q_ringMany, .inl (k_ringMany, 5, .inl f_ringMany)), (q_groupMany, .inl (k_groupMany, 5, .inl f_groupMany)), (q_rootMany, .inl (k_rootMany, 5, .inl f_rootMany))] H := hP
    have hD : va_D A [(aR, .inr (15, (fsR.set 0 (.int 0)))), (q_placeIn, .inl (k_placeIn, 400, .inl f_placeIn)), (q_things, .inl (k_things, 5, .inl f_things)), (q_lostMany, .inl (k_lostMany, 5, .inl f_lostMany)), (q_ringMany, .inl (k_ringMany, 5, .inl f_ringMany)), (q_groupMany, .inl (k_groupMany, 5, .inl f_groupMany)), (q_rootMany, .inl (k_rootMany, 5, .inl f_rootMany))] := hD
    have o_s3804 := ow_set o_fsR 0 (.int 0) (by decide) (l' := [(0, .int 0), (20, .int 0), (31, .int 0), (46, .ref q_placeIn), (47, .int 0), (48, .ref q_things), (62, .ref q_lostMany), (63, .ref q_ringMany), (64, .ref q_groupMany), (65, .ref q_rootMany)]) (w' := [0]) rfl rfl
    generalize (fsR.set 0 (.int 0)) = s3804 at hP hD o_s3804
    refine lv_aload_n hx hb dX12_take_17 rfl (lv_at hl 0 rfl) ?_
    refine va_get (D := (dC, dI)) (ci := 15) (v := .int 0) (C := RX12) (T := TX12) (N := 150) hx hb hts (in_n_take_X12) hown hK hP 0 rfl rfl 0 (by decide) (hts (.fieldLink RX12 388 "HeapWorksModel" "thrown" "I") (by decide +kernel)) (fun _ h9 => h9) (ow_at o_s3804 0 rfl) dX12_take_18 ?_
    refine lv_if_le (tgt := 26) hx hb dX12_take_21 (by decide) (fun c3805 => ?_) (fun c3805 => absurd c3805 (by decide))
    refine lv_aload_n hx hb dX12_take_26 rfl (lv_at hl 0 rfl) ?_
    refine lv_iload_n hx hb dX12_take_27 rfl (lv_at hl 1 rfl) ?_
    have hPc := hP.sub (ws' := [(aR, .inr (15, s3804)), (q_placeIn, .inl (k_placeIn, 400, .inl f_placeIn)), (q_things, .inl (k_things, 5, .inl f_things)), (q_rootMany, .inl (k_rootMany, 5, .inl f_rootMany))]) [0, 1, 2, 6] rfl
    have hDc := hD.sub (ws' := [(aR, .inr (15, s3804)), (q_placeIn, .inl (k_placeIn, 400, .inl f_placeIn)), (q_things, .inl (k_things, 5, .inl f_things)), (q_rootMany, .inl (k_rootMany, 5, .inl f_rootMany))]) [0, 1, 2, 6] (by decide) rfl
    have hKc := hK.sub (tys' := [(k_placeIn, .int), (k_things, .int), (k_rootMany, .int)]) [0, 1, 5] rfl
    have hFc := va_free (wc := [(aR, .inr (15, s3804)), (q_placeIn, .inl (k_placeIn, 400, .inl f_placeIn)), (q_things, .inl (k_things, 5, .inl f_things)), (q_rootMany, .inl (k_rootMany, 5, .inl f_rootMany))]) hD hS hA [0, 1, 2, 6] rfl
    refine va_callv (va_runV (As := [.int p0]) (rest := []) ⟨hx, hb, hml, hown, hts⟩ (z_X12_picture0 l dC dI H.size aR s3804 q_placeIn f_placeIn k_placeIn q_things f_things k_things q_rootMany f_rootMany k_rootMany p0 (fh_sub o_s3804.2 [1, 2, 3, 4, 5, 9] rfl) hz_f_things hz_f_rootMany (by (try simp only [i_lt, i_le, i_eq, kc_0, kc_4] at c3794 c3795); omega)) (cwV 1 hts g_n_take_z_X12_picture0_552 rfl rfl rfl (by decide +kernel) ⟨Nat.le_of_ble_eq_true rfl, Nat.le_of_ble_eq_true rfl⟩) ⟨fun a U g mk q => by obtain ⟨q0, q1, qP, qK, qD⟩ := q; exact ⟨q0, q1, qP, va_K.moved (u := U) (U := U.calling g mk a) (Vm.Alike.refl U.vm) qK, qD⟩, va_recv hK hP (ci := 15) (q0 := 0) rfl rfl, fun U hU hW => ⟨rfl, by rw [hU], by rw [hU]; exact hPc, va_K.moved hW.alike hKc, hDc.weaken (fun _ _ _ _ => trivial)⟩⟩ rfl rfl hl.1 rfl (lv_room (Nat.le_of_ble_eq_true rfl)) dX12_take_28 ⟨Nat.le_of_ble_eq_true rfl, Nat.le_of_ble_eq_true rfl⟩) hS (fun q _ h => hFc q h) hFc (fun u t H1 locs ht hvm hw hB hz1 hk1 hS => ?_)
    obtain ⟨s3905, f3906, f3907, f3908⟩ := u
    obtain ⟨hP1, hK1, hD1⟩ := hB
    rw [ht] at hP1
    try dsimp only at hw
    obtain ⟨hP, hD⟩ := va_join (wr := [(q_lostMany, .inl (k_lostMany, 5, .inl f_lostMany)), (q_ringMany, .inl (k_ringMany, 5, .inl f_ringMany)), (q_groupMany, .inl (k_groupMany, 5, .inl f_groupMany))]) (w1 := [(aR, .inr (15, s3905)), (q_placeIn, .inl (k_placeIn, 400, .inl f3906)), (q_things, .inl (k_things, 5, .inl f3907)), (q_rootMany, .inl (k_rootMany, 5, .inl f3908))]) hP hD [0, 1, 2, 6] [3, 4, 5] rfl rfl (by decide) (by decide) hk1 hFc hP1 hD1
    have hK := hK.sub (tys' := [(k_lostMany, .int), (k_ringMany, .int), (k_groupMany, .int), (k_placeIn, .int), (k_things, .int), (k_rootMany, .int)]) [2, 3, 4, 0, 1, 5] rfl
    generalize H1 = H at hP hS ⊢
    have hP : va_P (dC, dI) vwCl [(q_lostMany, .inl (k_lostMany, 5, .inl f_lostMany)), (q_ringMany, .inl (k_ringMany, 5, .inl f_ringMany)), (q_groupMany, .inl (k_groupMany, 5, .inl f_groupMany)), (aR, .inr (15, s3905)), (q_placeIn, .inl (k_placeIn, 400, .inl f3906)), (q_things, .inl (k_things, 5, .inl f3907)), (q_rootMany, .inl (k_rootMany, 5, .inl f3908))] H := hP
    have hD : va_D A [(q_lostMany, .inl (k_lostMany, 5, .inl f_lostMany)), (q_ringMany, .inl (k_ringMany, 5, .inl f_ringMany)), (q_groupMany, .inl (k_groupMany, 5, .inl f_groupMany)), (aR, .inr (15, s3905)), (q_placeIn, .inl (k_placeIn, 400, .inl f3906)), (q_things, .inl (k_things, 5, .inl f3907)), (q_rootMany, .inl (k_rootMany, 5, .inl f3908))] := hD
    obtain ⟨o_s3905, q3909, q3910, q3911, q3912⟩ := hw
    have o_s3905 := ow_on o_s3804 o_s3905 (l' := [(47, .int 0), (46, .ref q_placeIn), (20, .int 0), (31, .int 0), (46, .ref q_placeIn), (20, .int 0), (31, .int 0), (46, .ref q_placeIn), (48, .ref q_things), (65, .ref q_rootMany), (0, .int 0), (20, .int 0), (31, .int 0), (46, .ref q_placeIn), (48, .ref q_things), (62, .ref q_lostMany), (63, .ref q_ringMany), (64, .ref q_groupMany), (65, .ref q_rootMany)]) (w' := [47, 0]) rfl rfl
    refine lv_aload_n hx hb dX12_take_31 rfl (lv_at hl 0 rfl) ?_
    refine lv_iload_n hx hb dX12_take_32 rfl (lv_at hl 1 rfl) ?_
    have hPc := hP.sub (ws' := [(q_lostMany, .inl (k_lostMany, 5, .inl f_lostMany)), (q_ringMany, .inl (k_ringMany, 5, .inl f_ringMany)), (q_groupMany, .inl (k_groupMany, 5, .inl f_groupMany)), (aR, .inr (15, s3905)), (q_things, .inl (k_things, 5, .inl f3907)), (q_rootMany, .inl (k_rootMany, 5, .inl f3908))]) [0, 1, 2, 3, 5, 6] rfl
    have hDc := hD.sub (ws' := [(q_lostMany, .inl (k_lostMany, 5, .inl f_lostMany)), (q_ringMany, .inl (k_ringMany, 5, .inl f_ringMany)), (q_groupMany, .inl (k_groupMany, 5, .inl f_groupMany)), (aR, .inr (15, s3905)), (q_things, .inl (k_things, 5, .inl f3907)), (q_rootMany, .inl (k_rootMany, 5, .inl f3908))]) [0, 1, 2, 3, 5, 6] (by decide) rfl
    have hKc := hK.sub (tys' := [(k_lostMany, .int), (k_ringMany, .int), (k_groupMany, .int), (k_things, .int), (k_rootMany, .int)]) [0, 1, 2, 4, 5] rfl
    have hFc := va_free (wc := [(q_lostMany, .inl (k_lostMany, 5, .inl f_lostMany)), (q_ringMany, .inl (k_ringMany, 5, .inl f_ringMany)), (q_groupMany, .inl (k_groupMany, 5, .inl f_groupMany)), (aR, .inr (15, s3905)), (q_things, .inl (k_things, 5, .inl f3907)), (q_rootMany, .inl (k_rootMany, 5, .inl f3908))]) hD hS hA [0, 1, 2, 3, 5, 6] rfl
    refine va_callv (va_runV (As := [.int p0]) (rest := []) ⟨hx, hb, hml, hown, hts⟩ (z_X12_study l dC dI H.size q_lostMany f_lostMany k_lostMany q_ringMany f_ringMany k_ringMany q_groupMany f_groupMany k_groupMany aR s3905 q_things f3907 k_things q_rootMany f3908 k_rootMany p0 (fh_sub o_s3905.2 [8, 9, 8, 15, 16, 17, 9] rfl) hz_f_lostMany hz_f_ringMany hz_f_groupMany q3910 q3912 (by (try simp only [i_lt, i_le, i_eq, kc_0, kc_4] at c3794 c3795); omega)) (cwV 1 hts g_n_take_z_X12_study_555 rfl rfl rfl (by decide +kernel) ⟨Nat.le_of_ble_eq_true rfl, Nat.le_of_ble_eq_true rfl⟩) ⟨fun a U g mk q => by obtain ⟨q0, q1, qP, qK, qD⟩ := q; exact ⟨q0, q1, qP, va_K.moved (u := U) (U := U.calling g mk a) (Vm.Alike.refl U.vm) qK, qD⟩, va_recv hK hP (ci := 15) (q0 := 3) rfl rfl, fun U hU hW => ⟨rfl, by rw [hU], by rw [hU]; exact hPc, va_K.moved hW.alike hKc, hDc.weaken (fun _ _ _ _ => trivial)⟩⟩ rfl rfl hl.1 rfl (lv_room (Nat.le_of_ble_eq_true rfl)) dX12_take_33 ⟨Nat.le_of_ble_eq_true rfl, Nat.le_of_ble_eq_true rfl⟩) hS (fun q _ h => hFc q h) hFc (fun u t H1 locs ht hvm hw hB hz1 hk1 hS => ?_)
    obtain ⟨f3949, f3950, f3951⟩ := u
    obtain ⟨hP1, hK1, hD1⟩ := hB
    rw [ht] at hP1
    try dsimp only at hw
    obtain ⟨hP, hD⟩ := va_join (wr := [(q_placeIn, .inl (k_placeIn, 400, .inl f3906))]) (w1 := [(q_lostMany, .inl (k_lostMany, 5, .inl f3949)), (q_ringMany, .inl (k_ringMany, 5, .inl f3950)), (q_groupMany, .inl (k_groupMany, 5, .inl f3951)), (aR, .inr (15, s3905)), (q_things, .inl (k_things, 5, .inl f3907)), (q_rootMany, .inl (k_rootMany, 5, .inl f3908))]) hP hD [0, 1, 2, 3, 5, 6] [4] rfl rfl (by decide) (by decide) hk1 hFc hP1 hD1
    have hK := hK.sub (tys' := [(k_placeIn, .int), (k_lostMany, .int), (k_ringMany, .int), (k_groupMany, .int), (k_things, .int), (k_rootMany, .int)]) [3, 0, 1, 2, 4, 5] rfl
    generalize H1 = H at hP hS ⊢
    have hP : va_P (dC, dI) vwCl [(q_placeIn, .inl (k_placeIn, 400, .inl f3906)), (q_lostMany, .inl (k_lostMany, 5, .inl f3949)), (q_ringMany, .inl (k_ringMany, 5, .inl f3950)), (q_groupMany, .inl (k_groupMany, 5, .inl f3951)), (aR, .inr (15, s3905)), (q_things, .inl (k_things, 5, .inl f3907)), (q_rootMany, .inl (k_rootMany, 5, .inl f3908))] H := hP
    have hD : va_D A [(q_placeIn, .inl (k_placeIn, 400, .inl f3906)), (q_lostMany, .inl (k_lostMany, 5, .inl f3949)), (q_ringMany, .inl (k_ringMany, 5, .inl f3950)), (q_groupMany, .inl (k_groupMany, 5, .inl f3951)), (aR, .inr (15, s3905)), (q_things, .inl (k_things, 5, .inl f3907)), (q_rootMany, .inl (k_rootMany, 5, .inl f3908))] := hD
    obtain ⟨q3952, q3953, q3954, q3955, q3956, q3957⟩ := hw
    refine lv_aload_n hx hb dX12_take_36 rfl (lv_at hl 0 rfl) ?_
    refine va_get (D := (dC, dI)) (ci := 15) (v := .ref q_things) (C := RX12) (T := TX12) (N := 150) hx hb hts (in_n_take_X12) hown hK hP 4 rfl rfl 48 (by decide) (hts (.fieldLink RX12 183 "HeapWorksModel" "things" "[I") (by decide +kernel)) (fun _ h9 => h9) (ow_at o_s3905 8 rfl) dX12_take_37 ?_
    refine lv_iload_n hx hb dX12_take_40 rfl (lv_at hl 1 rfl) ?_
    refine va_iald hx hb hK hP 5 4 rfl rfl (by rw [vp_in_iff]; (try simp only [i_lt, i_le, i_eq, kc_0, kc_4] at c3794 c3795); omega) dX12_take_41 ?_
    refine lv_topi (fun x3958 ex3958 => ?_)
    obtain rfl : 0 = x3958 := (ex3958.trans q3910).symm
    have hP9 := hP.sub (ws' := [(aR, .inr (15, s3905)), (q_placeIn, .inl (k_placeIn, 400, .inl f3906)), (q_things, .inl (k_things, 5, .inl f3907)), (q_lostMany, .inl (k_lostMany, 5, .inl f3949)), (q_ringMany, .inl (k_ringMany, 5, .inl f3950)), (q_groupMany, .inl (k_groupMany, 5, .inl f3951)), (q_rootMany, .inl (k_rootMany, 5, .inl f3908))]) [4, 0, 5, 1, 2, 3, 6] rfl
    have hD9 := hD.sub (ws' := [(aR, .inr (15, s3905)), (q_placeIn, .inl (k_placeIn, 400, .inl f3906)), (q_things, .inl (k_things, 5, .inl f3907)), (q_lostMany, .inl (k_lostMany, 5, .inl f3949)), (q_ringMany, .inl (k_ringMany, 5, .inl f3950)), (q_groupMany, .inl (k_groupMany, 5, .inl f3951)), (q_rootMany, .inl (k_rootMany, 5, .inl f3908))]) [4, 0, 5, 1, 2, 3, 6] (by decide) rfl
    have hK9 := hK.sub (tys' := [(k_placeIn, .int), (k_things, .int), (k_lostMany, .int), (k_ringMany, .int), (k_groupMany, .int), (k_rootMany, .int)]) [0, 4, 1, 2, 3, 5] rfl
    exact W.iret (v := 0) hx hb hr (fun t ht hW => ⟨⟨0, (s3905, f3906, f3907, f3949, f3950, f3951, f3908), rfl, (Or.inr (Or.inr (⟨c3794, c3795, rfl, o_s3905, q3909, q3910, q3952, q3953, q3954, q3955, q3956, q3957, q3911, q3912⟩))), by rw [ht]; exact hP9, va_K.moved hW.alike hK9, hD9⟩, hS.F ht⟩) hS.2.2 dX12_take_42

def l_z_X12_isThing : List Cond := [.methodLink RX12 542 yX12_isPicture, .instanceMethod yX12_isPicture, .selects RX12 yX12_isPicture yX12_isPicture, .initialized RX12, .fieldLink RX12 183 "HeapWorksModel" "things" "[I", .code yX12_isPicture cX12_isPicture 2 (some .boolean)]
def w_z_X12_isThing : List Cond := .code yX12_isThing cX12_isThing 3 (some .boolean) :: (l_z_X12_isThing ++ (wsX120))
theorem in_z_X12_isThing_X12 : ∀ w ∈ wsX120, w ∈ w_z_X12_isThing := fun w h => List.mem_cons_of_mem _ (List.mem_append_right _ (h))
theorem g_z_X12_isThing_z_X12_isPicture_542 : GoodIn w_z_X12_isThing (wsV RX12 542 RX12 yX12_isPicture w_z_X12_isPicture) := goodIn_app (goodIn_sub (by decide +kernel) (by decide +kernel)) (goodIn_sub (by decide +kernel) (by decide +kernel))
set_option maxHeartbeats 4000000 in
set_option maxRecDepth 100000 in
theorem z_X12_isThing (l : Launch) (dC : Nat → ClassId) (dI : Nat → Nat → Nat) (sz : Nat) (Ad0 : Nat) (Fs0 : List Value) (Ad1 : Nat) (Fa0 : Nat → Int32) (Ka0 : ClassId) (Va0 : Int32) (Va1 : Int32) (k_Fs0 : fh Fs0 150 [(48, .ref Ad1)]) (hz_Fa0 : ∀ j, Fa0 j = 0) : Met l yX12_isThing w_z_X12_isThing ({ frames := 1, cells := 0, slots := 0, locals := 21 }) (va_Pc [.ref Ad0, .int Va0, .int Va1] (fun U => U.heap.size = sz ∧ Wd dC dI [(Ka0, .int)] (fun _ => True) [(Ad0, .inr (15, Fs0)), (Ad1, .inl (Ka0, 5, .inl Fa0))] U)) (va_Qi (fun (r : Int32) (u : Unit) => (Va0 < 0 ∧ r = 0) ∨ (¬ Va0 < 0 ∧ 4 ≤ Va0 ∧ r = 0) ∨ (¬ Va0 < 0 ∧ ¬ 4 ≤ Va0 ∧ Va1 < 0 ∧ r = 0) ∨ (¬ Va0 < 0 ∧ ¬ 4 ≤ Va0 ∧ ¬ Va1 < 0 ∧ 0 ≤ Va1 ∧ r = 0)) (fun (u : Unit) t => Wd dC dI [(Ka0, .int)] (va_A [(Ad0, .inr (15, Fs0)), (Ad1, .inl (Ka0, 5, .inl Fa0))] sz) [(Ad0, .inr (15, Fs0)), (Ad1, .inl (Ka0, 5, .inl Fa0))] t) (va_A [(Ad0, .inr (15, Fs0)), (Ad1, .inl (Ka0, 5, .inl Fa0))] sz))  0 0 (va_A [(Ad0, .inr (15, Fs0)), (Ad1, .inl (Ka0, 5, .inl Fa0))] sz) := by
  refine Met.ofW (cc := cX12_isThing) (maxL := 3) (ret := (some .boolean)) (by decide) rfl ?_
  intro p e s m args below meth c s₁ B hml hv
  obtain ⟨rfl, hsz, hP, hK, hD0⟩ := hv
  have hx := B.exec
  have hb := B.bytes
  have hr := B.returns
  have hts := atoms_spec (ws := w_z_X12_isThing) B.pre
  have hown : s.vm.findClass RX12 = some m.cls := findClass_of_methodNamed B.named
  have hlocks := B.notSynchronized
  subst hsz
  have hD := hD0.self (sz := s.heap.size)
  generalize hAe : va_A [(Ad0, .inr (15, Fs0)), (Ad1, .inl (Ka0, 5, .inl Fa0))] s.heap.size = A at hD ⊢
  have hA : ∀ q : Nat, s.heap.size ≤ q → A q := fun q h => by rw [← hAe]; exact Or.inr h
  have hS : va_S A s.heap s.heap [] := va_S.rf
  have hl := lv_entry ([.ref Ad0, .int Va0, .int Va1]) (n := 3) (Nat.le_of_ble_eq_true rfl)
  rw [lg_entry_eq]
  generalize (lg_sl ([.ref Ad0, .int Va0, .int Va1]) ++ List.replicate (3 - (lg_sl ([.ref Ad0, .int Va0, .int Va1])).length) Slot.unset).toArray = ls at hl ⊢
  have hl : lv_has ls 3 [(0, .ref Ad0), (1, .int Va0), (2, .int Va1)] := hl
  have o_Fs0 := ow_0 k_Fs0
  refine lv_aload_n hx hb dX12_isThing_0 rfl (lv_at hl 0 rfl) ?_
  refine lv_iload_n hx hb dX12_isThing_1 rfl (lv_at hl 1 rfl) ?_
  have hPc := hP.sub (ws' := []) [] rfl
  have hDc := hD.sub (ws' := []) [] (by decide) rfl
  have hKc := hK.sub (tys' := []) [] rfl
  have hFc := va_free (wc := []) hD hS hA [] rfl
  refine va_calli (va_runV (As := [.int Va0]) (rest := []) ⟨hx, hb, hml, hown, hts⟩ (z_X12_isPicture l dC dI s.heap.size Ad0 Va0  ) (cwV 1 hts g_z_X12_isThing_z_X12_isPicture_542 rfl rfl rfl (by decide +kernel) ⟨Nat.le_of_ble_eq_true rfl, Nat.le_of_ble_eq_true rfl⟩) ⟨fun a U g mk q => by obtain ⟨q0, q1, qP, qK, qD⟩ := q; exact ⟨q0, q1, qP, va_K.moved (u := U) (U := U.calling g mk a) (Vm.Alike.refl U.vm) qK, qD⟩, va_recv hK hP (ci := 15) (q0 := 0) rfl rfl, fun U hU hW => ⟨rfl, by rw [hU], by rw [hU]; exact hPc, va_K.moved hW.alike hKc, hDc.weaken (fun _ _ _ _ => trivial)⟩⟩ rfl rfl hl.1 rfl (lv_room (Nat.le_of_ble_eq_true rfl)) dX12_isThing_2 ⟨Nat.le_of_ble_eq_true rfl, Nat.le_of_ble_eq_true rfl⟩) hS (fun q _ h => hFc q h) hFc (fun r3979 u t H1 locs ht hvm hw hB hz1 hk1 hS => ?_)
  obtain ⟨hP1, hK1, hD1⟩ := hB
  rw [ht] at hP1
  try dsimp only at hw
  obtain ⟨hP, hD⟩ := va_join (wr := [(Ad0, .inr (15, Fs0)), (Ad1, .inl (Ka0, 5, .inl Fa0))]) (w1 := []) hP hD [] [0, 1] rfl rfl (by decide) (by decide) hk1 hFc hP1 hD1
  have hK := hK.sub (tys' := [(Ka0, .int)]) [0] rfl
  generalize H1 = H at hP hS ⊢
  have hP : va_P (dC, dI) vwCl [(Ad0, .inr (15, Fs0)), (Ad1, .inl (Ka0, 5, .inl Fa0))] H := hP
  have hD : va_D A [(Ad0, .inr (15, Fs0)), (Ad1, .inl (Ka0, 5, .inl Fa0))] := hD
  rcases hw with ⟨c3980, er3981⟩ | ⟨c3982, c3983, er3984⟩ | ⟨c3985, c3986, er3987⟩
  · skip
    subst er3981
    refine lv_if_eq (tgt := 26) hx hb dX12_isThing_5 (by decide) (fun c3988 => ?_) (fun c3988 => absurd c3988 (by decide))
    refine lv_iconst (v := 0) hx hb dX12_isThing_26 (by decide) ?_
    have hP9 := hP.sub (ws' := [(Ad0, .inr (15, Fs0)), (Ad1, .inl (Ka0, 5, .inl Fa0))]) [0, 1] rfl
    have hD9 := hD.sub (ws' := [(Ad0, .inr (15, Fs0)), (Ad1, .inl (Ka0, 5, .inl Fa0))]) [0, 1] (by decide) rfl
    have hK9 := hK.sub (tys' := [(Ka0, .int)]) [0] rfl
    exact W.zret (v := 0) hx hb hr rfl (fun t ht hW => ⟨⟨0, (), rfl, (Or.inl ⟨c3980, rfl⟩), by rw [ht]; exact hP9, va_K.moved hW.alike hK9, hD9⟩, hS.F ht⟩) hS.2.2 dX12_isThing_27
  · skip
    subst er3984
    refine lv_if_eq (tgt := 26) hx hb dX12_isThing_5 (by decide) (fun c3989 => ?_) (fun c3989 => absurd c3989 (by decide))
    refine lv_iconst (v := 0) hx hb dX12_isThing_26 (by decide) ?_
    have hP9 := hP.sub (ws' := [(Ad0, .inr (15, Fs0)), (Ad1, .inl (Ka0, 5, .inl Fa0))]) [0, 1] rfl
    have hD9 := hD.sub (ws' := [(Ad0, .inr (15, Fs0)), (Ad1, .inl (Ka0, 5, .inl Fa0))]) [0, 1] (by decide) rfl
    have hK9 := hK.sub (tys' := [(Ka0, .int)]) [0] rfl
    exact W.zret (v := 0) hx hb hr rfl (fun t ht hW => ⟨⟨0, (), rfl, (Or.inr (Or.inl ⟨c3982, c3983, rfl⟩)), by rw [ht]; exact hP9, va_K.moved hW.alike hK9, hD9⟩, hS.F ht⟩) hS.2.2 dX12_isThing_27
  · skip
    subst er3987
    refine lv_if_eq (tgt := 26) hx hb dX12_isThing_5 (by decide) (fun c3990 => absurd c3990 (by decide)) (fun c3990 => ?_)
    refine lv_iload_n hx hb dX12_isThing_8 rfl (lv_at hl 2 rfl) ?_
    refine lv_if_lt (tgt := 26) hx hb dX12_isThing_9 (by decide) (fun c3991 => ?_) (fun c3991 => ?_)
    · skip
      refine lv_iconst (v := 0) hx hb dX12_isThing_26 (by decide) ?_
      have hP9 := hP.sub (ws' := [(Ad0, .inr (15, Fs0)), (Ad1, .inl (Ka0, 5, .inl Fa0))]) [0, 1] rfl
      have hD9 := hD.sub (ws' := [(Ad0, .inr (15, Fs0)), (Ad1, .inl (Ka0, 5, .inl Fa0))]) [0, 1] (by decide) rfl
      have hK9 := hK.sub (tys' := [(Ka0, .int)]) [0] rfl
      exact W.zret (v := 0) hx hb hr rfl (fun t ht hW => ⟨⟨0, (), rfl, (Or.inr (Or.inr (Or.inl ⟨c3985, c3986, c3991, rfl⟩))), by rw [ht]; exact hP9, va_K.moved hW.alike hK9, hD9⟩, hS.F ht⟩) hS.2.2 dX12_isThing_27
    · skip
      refine lv_iload_n hx hb dX12_isThing_12 rfl (lv_at hl 2 rfl) ?_
      refine lv_aload_n hx hb dX12_isThing_13 rfl (lv_at hl 0 rfl) ?_
      refine va_get (D := (dC, dI)) (ci := 15) (v := .ref Ad1) (C := RX12) (T := TX12) (N := 150) hx hb hts (in_z_X12_isThing_X12) hown hK hP 0 rfl rfl 48 (by decide) (hts (.fieldLink RX12 183 "HeapWorksModel" "things" "[I") (by decide +kernel)) (fun _ h9 => h9) (ow_at o_Fs0 0 rfl) dX12_isThing_14 ?_
      refine lv_iload_n hx hb dX12_isThing_17 rfl (lv_at hl 1 rfl) ?_
      refine va_iald hx hb hK hP 1 0 rfl rfl (by rw [vp_in_iff]; (try simp only [i_lt, i_le, i_eq, kc_0, kc_4] at c3985 c3986); omega) dX12_isThing_18 ?_
      refine lv_topi (fun x3992 ex3992 => ?_)
      obtain rfl : x3992 = 0 := ex3992.trans (hz_Fa0 _)
      refine lv_icmp_ge (tgt := 26) hx hb dX12_isThing_19 (by decide) (fun c3993 => ?_) (fun c3993 => (by exfalso; have bd_Va1 := i_bd Va1; (try simp only [i_lt, i_le, i_eq, kc_0] at c3991 c3993); omega))
      refine lv_iconst (v := 0) hx hb dX12_isThing_26 (by decide) ?_
      have hP9 := hP.sub (ws' := [(Ad0, .inr (15, Fs0)), (Ad1, .inl (Ka0, 5, .inl Fa0))]) [0, 1] rfl
      have hD9 := hD.sub (ws' := [(Ad0, .inr (15, Fs0)), (Ad1, .inl (Ka0, 5, .inl Fa0))]) [0, 1] (by decide) rfl
      have hK9 := hK.sub (tys' := [(Ka0, .int)]) [0] rfl
      exact W.zret (v := 0) hx hb hr rfl (fun t ht hW => ⟨⟨0, (), rfl, (Or.inr (Or.inr (Or.inr (⟨c3985, c3986, c3991, c3993, rfl⟩)))), by rw [ht]; exact hP9, va_K.moved hW.alike hK9, hD9⟩, hS.F ht⟩) hS.2.2 dX12_isThing_27

def l_n_thing : List Cond := [.fieldLink RX12 388 "HeapWorksModel" "thrown" "I", .methodLink RX12 600 yX12_isThing, .instanceMethod yX12_isThing, .selects RX12 yX12_isThing yX12_isThing, .initialized RX12, .code yX12_isThing cX12_isThing 3 (some .boolean), .methodLink RX12 542 yX12_isPicture, .instanceMethod yX12_isPicture, .selects RX12 yX12_isPicture yX12_isPicture, .fieldLink RX12 183 "HeapWorksModel" "things" "[I", .code yX12_isPicture cX12_isPicture 2 (some .boolean)]
def w_n_thing : List Cond := .code yX12_thing cX12_thing 5 (some .int) :: (l_n_thing ++ (wsX120))
theorem in_n_thing_X12 : ∀ w ∈ wsX120, w ∈ w_n_thing := fun w h => List.mem_cons_of_mem _ (List.mem_append_right _ (h))
theorem g_n_thing_z_X12_isThing_600 : GoodIn w_n_thing (wsV RX12 600 RX12 yX12_isThing w_z_X12_isThing) := goodIn_app (goodIn_sub (by decide +kernel) (by decide +kernel)) (goodIn_ca (goodIn_sub (by decide +kernel) (by decide +kernel)) (goodIn_in in_n_thing_X12 gd_X12))
set_option maxHeartbeats 4000000 in
set_option maxRecDepth 100000 in
theorem n_thing (l : Launch) (dC : Nat → ClassId) (dI : Nat → Nat → Nat) (sz : Nat) (aR : Nat) (fsR : List Value) (q_things : Nat) (f_things : Nat → Int32) (k_things : ClassId) (p0 : Int32) (p1 : Int32) (p2 : Int32) (k_fsR : fh fsR 150 [(48, .ref q_things)]) (hz_f_things : ∀ j, f_things j = 0) : Met l yX12_thing w_n_thing ({ frames := 2, cells := 0, slots := 0, locals := 43 }) (va_Pc [.ref aR, .int p0, .int p1, .int p2] (fun U => U.heap.size = sz ∧ Wd dC dI [(k_things, .int)] (fun _ => True) [(aR, .inr (15, fsR)), (q_things, .inl (k_things, 5, .inl f_things))] U)) (va_Qi (fun (r : Int32) (u : List Value) => (p0 < 0 ∧ r = (-1) ∧ ow fsR (u) 150 [0] [(0, .int 0), (48, .ref q_things)]) ∨ (¬ p0 < 0 ∧ 4 ≤ p0 ∧ r = (-1) ∧ ow fsR (u) 150 [0] [(0, .int 0), (48, .ref q_things)]) ∨ (¬ p0 < 0 ∧ ¬ 4 ≤ p0 ∧ p1 < 0 ∧ r = (-1) ∧ ow fsR (u) 150 [0] [(0, .int 0), (48, .ref q_things)]) ∨ (¬ p0 < 0 ∧ ¬ 4 ≤ p0 ∧ ¬ p1 < 0 ∧ 0 ≤ p1 ∧ r = (-1) ∧ ow fsR (u) 150 [0] [(0, .int 0), (48, .ref q_things)])) (fun (u : List Value) t => Wd dC dI [(k_things, .int)] (va_A [(aR, .inr (15, fsR)), (q_things, .inl (k_things, 5, .inl f_things))] sz) [(aR, .inr (15, (u))), (q_things, .inl (k_things, 5, .inl f_things))] t) (va_A [(aR, .inr (15, fsR)), (q_things, .inl (k_things, 5, .inl f_things))] sz))  0 0 (va_A [(aR, .inr (15, fsR)), (q_things, .inl (k_things, 5, .inl f_things))] sz) := by
  refine Met.ofW (cc := cX12_thing) (maxL := 5) (ret := (some .int)) (by decide) rfl ?_
  intro p e s m args below meth c s₁ B hml hv
  obtain ⟨rfl, hsz, hP, hK, hD0⟩ := hv
  have hx := B.exec
  have hb := B.bytes
  have hr := B.returns
  have hts := atoms_spec (ws := w_n_thing) B.pre
  have hown : s.vm.findClass RX12 = some m.cls := findClass_of_methodNamed B.named
  have hlocks := B.notSynchronized
  subst hsz
  have hD := hD0.self (sz := s.heap.size)
  generalize hAe : va_A [(aR, .inr (15, fsR)), (q_things, .inl (k_things, 5, .inl f_things))] s.heap.size = A at hD ⊢
  have hA : ∀ q : Nat, s.heap.size ≤ q → A q := fun q h => by rw [← hAe]; exact Or.inr h
  have hS : va_S A s.heap s.heap [] := va_S.rf
  have hl := lv_entry ([.ref aR, .int p0, .int p1, .int p2]) (n := 5) (Nat.le_of_ble_eq_true rfl)
  rw [lg_entry_eq]
  generalize (lg_sl ([.ref aR, .int p0, .int p1, .int p2]) ++ List.replicate (5 - (lg_sl ([.ref aR, .int p0, .int p1, .int p2])).length) Slot.unset).toArray = ls at hl ⊢
  have hl : lv_has ls 5 [(0, .ref aR), (1, .int p0), (2, .int p1), (3, .int p2)] := hl
  have o_fsR := ow_0 k_fsR
  refine lv_aload_n hx hb dX12_thing_0 rfl (lv_at hl 0 rfl) ?_
  refine lv_iconst (v := 0) hx hb dX12_thing_1 (by decide) ?_
  refine va_put (D := (dC, dI)) (ci := 15) (v := .int 0) (ty := .int) (C := RX12) (T := TX12) (N := 150) hx hb hts (in_n_thing_X12) tyX12 tyX12_ok nmX12 hown hK hP hD hS 0 rfl rfl 0 (by decide) (hts (.fieldLink RX12 388 "HeapWorksModel" "thrown" "I") (by decide +kernel)) (fun _ h9 => h9) rfl (by decide +kernel) rfl rfl (by rw [o_fsR.2.1]; decide) dX12_thing_2 (fun H locs hP hD hS => ?_)
  have hP : va_P (dC, dI) vwCl [(aR, .inr (15, (fsR.set 0 (.int 0)))), (q_things, .inl (k_things, 5, .inl f_things))] H := hP
  have hD : va_D A [(aR, .inr (15, (fsR.set 0 (.int 0)))), (q_things, .inl (k_things, 5, .inl f_things))] := hD
  have o_s4013 := ow_set o_fsR 0 (.int 0) (by decide) (l' := [(0, .int 0), (48, .ref q_things)]) (w' := [0]) rfl rfl
  generalize (fsR.set 0 (.int 0)) = s4013 at hP hD o_s4013
  refine lv_aload_n hx hb dX12_thing_5 rfl (lv_at hl 0 rfl) ?_
  refine lv_iload_n hx hb dX12_thing_6 rfl (lv_at hl 1 rfl) ?_
  refine lv_iload_n hx hb dX12_thing_7 rfl (lv_at hl 2 rfl) ?_
  have hPc := hP.sub (ws' := [(aR, .inr (15, s4013)), (q_things, .inl (k_things, 5, .inl f_things))]) [0, 1] rfl
  have hDc := hD.sub (ws' := [(aR, .inr (15, s4013)), (q_things, .inl (k_things, 5, .inl f_things))]) [0, 1] (by decide) rfl
  have hKc := hK.sub (tys' := [(k_things, .int)]) [0] rfl
  have hFc := va_free (wc := [(aR, .inr (15, s4013)), (q_things, .inl (k_things, 5, .inl f_things))]) hD hS hA [0, 1] rfl
  refine va_calli (va_runV (As := [.int p0, .int p1]) (rest := []) ⟨hx, hb, hml, hown, hts⟩ (z_X12_isThing l dC dI H.size aR s4013 q_things f_things k_things p0 p1 (fh_sub o_s4013.2 [1] rfl) hz_f_things) (cwV 2 hts g_n_thing_z_X12_isThing_600 rfl rfl rfl (by decide +kernel) ⟨Nat.le_of_ble_eq_true rfl, Nat.le_of_ble_eq_true rfl⟩) ⟨fun a U g mk q => by obtain ⟨q0, q1, qP, qK, qD⟩ := q; exact ⟨q0, q1, qP, va_K.moved (u := U) (U := U.calling g mk a) (Vm.Alike.refl U.vm) qK, qD⟩, va_recv hK hP (ci := 15) (q0 := 0) rfl rfl, fun U hU hW => ⟨rfl, by rw [hU], by rw [hU]; exact hPc, va_K.moved hW.alike hKc, hDc.weaken (fun _ _ _ _ => trivial)⟩⟩ rfl rfl hl.1 rfl (lv_room (Nat.le_of_ble_eq_true rfl)) dX12_thing_8 ⟨Nat.le_of_ble_eq_true rfl, Nat.le_of_ble_eq_true rfl⟩) hS (fun q _ h => hFc q h) hFc (fun r4031 u t H1 locs ht hvm hw hB hz1 hk1 hS => ?_)
  obtain ⟨hP1, hK1, hD1⟩ := hB
  rw [ht] at hP1
  try dsimp only at hw
  obtain ⟨hP, hD⟩ := va_join (wr := []) (w1 := [(aR, .inr (15, s4013)), (q_things, .inl (k_things, 5, .inl f_things))]) hP hD [0, 1] [] rfl rfl (by decide) (by decide) hk1 hFc hP1 hD1
  have hK := hK.sub (tys' := [(k_things, .int)]) [0] rfl
  generalize H1 = H at hP hS ⊢
  have hP : va_P (dC, dI) vwCl [(aR, .inr (15, s4013)), (q_things, .inl (k_things, 5, .inl f_things))] H := hP
  have hD : va_D A [(aR, .inr (15, s4013)), (q_things, .inl (k_things, 5, .inl f_things))] := hD
  rcases hw with ⟨c4032, er4033⟩ | ⟨c4034, c4035, er4036⟩ | ⟨c4037, c4038, c4039, er4040⟩ | ⟨c4041, c4042, c4043, c4044, er4045⟩
  · skip
    subst er4033
    refine lv_if_ne (tgt := 16) hx hb dX12_thing_11 (by decide) (fun c4046 => absurd c4046 (by decide)) (fun c4046 => ?_)
    refine lv_iconst (v := (-1)) hx hb dX12_thing_14 (by decide) ?_
    have hP9 := hP.sub (ws' := [(aR, .inr (15, s4013)), (q_things, .inl (k_things, 5, .inl f_things))]) [0, 1] rfl
    have hD9 := hD.sub (ws' := [(aR, .inr (15, s4013)), (q_things, .inl (k_things, 5, .inl f_things))]) [0, 1] (by decide) rfl
    have hK9 := hK.sub (tys' := [(k_things, .int)]) [0] rfl
    exact W.iret (v := (-1)) hx hb hr (fun t ht hW => ⟨⟨(-1), s4013, rfl, (Or.inl ⟨c4032, rfl, o_s4013⟩), by rw [ht]; exact hP9, va_K.moved hW.alike hK9, hD9⟩, hS.F ht⟩) hS.2.2 dX12_thing_15
  · skip
    subst er4036
    refine lv_if_ne (tgt := 16) hx hb dX12_thing_11 (by decide) (fun c4047 => absurd c4047 (by decide)) (fun c4047 => ?_)
    refine lv_iconst (v := (-1)) hx hb dX12_thing_14 (by decide) ?_
    have hP9 := hP.sub (ws' := [(aR, .inr (15, s4013)), (q_things, .inl (k_things, 5, .inl f_things))]) [0, 1] rfl
    have hD9 := hD.sub (ws' := [(aR, .inr (15, s4013)), (q_things, .inl (k_things, 5, .inl f_things))]) [0, 1] (by decide) rfl
    have hK9 := hK.sub (tys' := [(k_things, .int)]) [0] rfl
    exact W.iret (v := (-1)) hx hb hr (fun t ht hW => ⟨⟨(-1), s4013, rfl, (Or.inr (Or.inl ⟨c4034, c4035, rfl, o_s4013⟩)), by rw [ht]; exact hP9, va_K.moved hW.alike hK9, hD9⟩, hS.F ht⟩) hS.2.2 dX12_thing_15
  · skip
    subst er4040
    refine lv_if_ne (tgt := 16) hx hb dX12_thing_11 (by decide) (fun c4048 => absurd c4048 (by decide)) (fun c4048 => ?_)
    refine lv_iconst (v := (-1)) hx hb dX12_thing_14 (by decide) ?_
    have hP9 := hP.sub (ws' := [(aR, .inr (15, s4013)), (q_things, .inl (k_things, 5, .inl f_things))]) [0, 1] rfl
    have hD9 := hD.sub (ws' := [(aR, .inr (15, s4013)), (q_things, .inl (k_things, 5, .inl f_things))]) [0, 1] (by decide) rfl
    have hK9 := hK.sub (tys' := [(k_things, .int)]) [0] rfl
    exact W.iret (v := (-1)) hx hb hr (fun t ht hW => ⟨⟨(-1), s4013, rfl, (Or.inr (Or.inr (Or.inl ⟨c4037, c4038, c4039, rfl, o_s4013⟩))), by rw [ht]; exact hP9, va_K.moved hW.alike hK9, hD9⟩, hS.F ht⟩) hS.2.2 dX12_thing_15
  · skip
    subst er4045
    refine lv_if_ne (tgt := 16) hx hb dX12_thing_11 (by decide) (fun c4049 => absurd c4049 (by decide)) (fun c4049 => ?_)
    refine lv_iconst (v := (-1)) hx hb dX12_thing_14 (by decide) ?_
    have hP9 := hP.sub (ws' := [(aR, .inr (15, s4013)), (q_things, .inl (k_things, 5, .inl f_things))]) [0, 1] rfl
    have hD9 := hD.sub (ws' := [(aR, .inr (15, s4013)), (q_things, .inl (k_things, 5, .inl f_things))]) [0, 1] (by decide) rfl
    have hK9 := hK.sub (tys' := [(k_things, .int)]) [0] rfl
    exact W.iret (v := (-1)) hx hb hr (fun t ht hW => ⟨⟨(-1), s4013, rfl, (Or.inr (Or.inr (Or.inr (⟨c4041, c4042, c4043, c4044, rfl, o_s4013⟩)))), by rw [ht]; exact hP9, va_K.moved hW.alike hK9, hD9⟩, hS.F ht⟩) hS.2.2 dX12_thing_15

def l_n_slot : List Cond := [.methodLink RX12 600 yX12_isThing, .instanceMethod yX12_isThing, .selects RX12 yX12_isThing yX12_isThing, .initialized RX12, .fieldLink RX12 388 "HeapWorksModel" "thrown" "I", .code yX12_isThing cX12_isThing 3 (some .boolean), .methodLink RX12 542 yX12_isPicture, .instanceMethod yX12_isPicture, .selects RX12 yX12_isPicture yX12_isPicture, .fieldLink RX12 183 "HeapWorksModel" "things" "[I", .code yX12_isPicture cX12_isPicture 2 (some .boolean)]
def w_n_slot : List Cond := .code yX12_slot cX12_slot 4 (some .long) :: (l_n_slot ++ (wsX120))
theorem in_n_slot_X12 : ∀ w ∈ wsX120, w ∈ w_n_slot := fun w h => List.mem_cons_of_mem _ (List.mem_append_right _ (h))
theorem g_n_slot_z_X12_isThing_600 : GoodIn w_n_slot (wsV RX12 600 RX12 yX12_isThing w_z_X12_isThing) := goodIn_app (goodIn_sub (by decide +kernel) (by decide +kernel)) (goodIn_ca (goodIn_sub (by decide +kernel) (by decide +kernel)) (goodIn_in in_n_slot_X12 gd_X12))
set_option maxHeartbeats 4000000 in
set_option maxRecDepth 100000 in
theorem n_slot (l : Launch) (dC : Nat → ClassId) (dI : Nat → Nat → Nat) (sz : Nat) (aR : Nat) (fsR : List Value) (q_things : Nat) (f_things : Nat → Int32) (k_things : ClassId) (p0 : Int32) (p1 : Int32) (p2 : Int32) (k_fsR : fh fsR 150 [(0, .int 0), (48, .ref q_things)]) (hz_f_things : ∀ j, f_things j = 0) : Met l yX12_slot w_n_slot ({ frames := 2, cells := 0, slots := 0, locals := 43 }) (va_Pc [.ref aR, .int p0, .int p1, .int p2] (fun U => U.heap.size = sz ∧ Wd dC dI [(k_things, .int)] (fun _ => True) [(aR, .inr (15, fsR)), (q_things, .inl (k_things, 5, .inl f_things))] U)) (va_Ql (fun (r : Int64) (u : List Value) => (p0 < 0 ∧ r = 0 ∧ ow fsR (u) 150 [0] [(0, .int 1), (48, .ref q_things)]) ∨ (¬ p0 < 0 ∧ 4 ≤ p0 ∧ r = 0 ∧ ow fsR (u) 150 [0] [(0, .int 1), (48, .ref q_things)]) ∨ (¬ p0 < 0 ∧ ¬ 4 ≤ p0 ∧ p1 < 0 ∧ r = 0 ∧ ow fsR (u) 150 [0] [(0, .int 1), (48, .ref q_things)]) ∨ (¬ p0 < 0 ∧ ¬ 4 ≤ p0 ∧ ¬ p1 < 0 ∧ 0 ≤ p1 ∧ r = 0 ∧ ow fsR (u) 150 [0] [(0, .int 1), (48, .ref q_things)])) (fun (u : List Value) t => Wd dC dI [(k_things, .int)] (va_A [(aR, .inr (15, fsR)), (q_things, .inl (k_things, 5, .inl f_things))] sz) [(aR, .inr (15, (u))), (q_things, .inl (k_things, 5, .inl f_things))] t) (va_A [(aR, .inr (15, fsR)), (q_things, .inl (k_things, 5, .inl f_things))] sz))  0 0 (va_A [(aR, .inr (15, fsR)), (q_things, .inl (k_things, 5, .inl f_things))] sz) := by
  refine Met.ofW (cc := cX12_slot) (maxL := 4) (ret := (some .long)) (by decide) rfl ?_
  intro p e s m args below meth c s₁ B hml hv
  obtain ⟨rfl, hsz, hP, hK, hD0⟩ := hv
  have hx := B.exec
  have hb := B.bytes
  have hr := B.returns
  have hts := atoms_spec (ws := w_n_slot) B.pre
  have hown : s.vm.findClass RX12 = some m.cls := findClass_of_methodNamed B.named
  have hlocks := B.notSynchronized
  subst hsz
  have hD := hD0.self (sz := s.heap.size)
  generalize hAe : va_A [(aR, .inr (15, fsR)), (q_things, .inl (k_things, 5, .inl f_things))] s.heap.size = A at hD ⊢
  have hA : ∀ q : Nat, s.heap.size ≤ q → A q := fun q h => by rw [← hAe]; exact Or.inr h
  have hS : va_S A s.heap s.heap [] := va_S.rf
  have hl := lv_entry ([.ref aR, .int p0, .int p1, .int p2]) (n := 4) (Nat.le_of_ble_eq_true rfl)
  rw [lg_entry_eq]
  generalize (lg_sl ([.ref aR, .int p0, .int p1, .int p2]) ++ List.replicate (4 - (lg_sl ([.ref aR, .int p0, .int p1, .int p2])).length) Slot.unset).toArray = ls at hl ⊢
  have hl : lv_has ls 4 [(0, .ref aR), (1, .int p0), (2, .int p1), (3, .int p2)] := hl
  have o_fsR := ow_0 k_fsR
  refine lv_aload_n hx hb dX12_slot_0 rfl (lv_at hl 0 rfl) ?_
  refine lv_aload_n hx hb dX12_slot_1 rfl (lv_at hl 0 rfl) ?_
  refine lv_iload_n hx hb dX12_slot_2 rfl (lv_at hl 1 rfl) ?_
  refine lv_iload_n hx hb dX12_slot_3 rfl (lv_at hl 2 rfl) ?_
  have hPc := hP.sub (ws' := [(aR, .inr (15, fsR)), (q_things, .inl (k_things, 5, .inl f_things))]) [0, 1] rfl
  have hDc := hD.sub (ws' := [(aR, .inr (15, fsR)), (q_things, .inl (k_things, 5, .inl f_things))]) [0, 1] (by decide) rfl
  have hKc := hK.sub (tys' := [(k_things, .int)]) [0] rfl
  have hFc := va_free (wc := [(aR, .inr (15, fsR)), (q_things, .inl (k_things, 5, .inl f_things))]) hD hS hA [0, 1] rfl
  refine va_calli (va_runV (As := [.int p0, .int p1]) (rest := [.ref aR]) ⟨hx, hb, hml, hown, hts⟩ (z_X12_isThing l dC dI s.heap.size aR fsR q_things f_things k_things p0 p1 (fh_sub o_fsR.2 [1] rfl) hz_f_things) (cwV 2 hts g_n_slot_z_X12_isThing_600 rfl rfl rfl (by decide +kernel) ⟨Nat.le_of_ble_eq_true rfl, Nat.le_of_ble_eq_true rfl⟩) ⟨fun a U g mk q => by obtain ⟨q0, q1, qP, qK, qD⟩ := q; exact ⟨q0, q1, qP, va_K.moved (u := U) (U := U.calling g mk a) (Vm.Alike.refl U.vm) qK, qD⟩, va_recv hK hP (ci := 15) (q0 := 0) rfl rfl, fun U hU hW => ⟨rfl, by rw [hU], by rw [hU]; exact hPc, va_K.moved hW.alike hKc, hDc.weaken (fun _ _ _ _ => trivial)⟩⟩ rfl rfl hl.1 rfl (lv_room (Nat.le_of_ble_eq_true rfl)) dX12_slot_4 ⟨Nat.le_of_ble_eq_true rfl, Nat.le_of_ble_eq_true rfl⟩) hS (fun q _ h => hFc q h) hFc (fun r4111 u t H1 locs ht hvm hw hB hz1 hk1 hS => ?_)
  obtain ⟨hP1, hK1, hD1⟩ := hB
  rw [ht] at hP1
  try dsimp only at hw
  obtain ⟨hP, hD⟩ := va_join (wr := []) (w1 := [(aR, .inr (15, fsR)), (q_things, .inl (k_things, 5, .inl f_things))]) hP hD [0, 1] [] rfl rfl (by decide) (by decide) hk1 hFc hP1 hD1
  have hK := hK.sub (tys' := [(k_things, .int)]) [0] rfl
  generalize H1 = H at hP hS ⊢
  have hP : va_P (dC, dI) vwCl [(aR, .inr (15, fsR)), (q_things, .inl (k_things, 5, .inl f_things))] H := hP
  have hD : va_D A [(aR, .inr (15, fsR)), (q_things, .inl (k_things, 5, .inl f_things))] := hD
  rcases hw with ⟨c4112, er4113⟩ | ⟨c4114, c4115, er4116⟩ | ⟨c4117, c4118, c4119, er4120⟩ | ⟨c4121, c4122, c4123, c4124, er4125⟩
  · skip
    subst er4113
    refine lv_if_eq (tgt := 24) hx hb dX12_slot_7 (by decide) (fun c4126 => ?_) (fun c4126 => absurd c4126 (by decide))
    refine lv_iconst (v := 1) hx hb dX12_slot_24 (by decide) ?_
    refine lv_goto (tgt := 29) hx hb dX12_slot_25 (by decide) ?_
    refine va_put (D := (dC, dI)) (ci := 15) (v := .int 1) (ty := .int) (C := RX12) (T := TX12) (N := 150) hx hb hts (in_n_slot_X12) tyX12 tyX12_ok nmX12 hown hK hP hD hS 0 rfl rfl 0 (by decide) (hts (.fieldLink RX12 388 "HeapWorksModel" "thrown" "I") (by decide +kernel)) (fun _ h9 => h9) rfl (by decide +kernel) rfl rfl (by rw [o_fsR.2.1]; decide) dX12_slot_29 (fun H locs hP hD hS => ?_)
    have hP : va_P (dC, dI) vwCl [(aR, .inr (15, (fsR.set 0 (.int 1)))), (q_things, .inl (k_things, 5, .inl f_things))] H := hP
    have hD : va_D A [(aR, .inr (15, (fsR.set 0 (.int 1)))), (q_things, .inl (k_things, 5, .inl f_things))] := hD
    have o_s4127 := ow_set o_fsR 0 (.int 1) (by decide) (l' := [(0, .int 1), (48, .ref q_things)]) (w' := [0]) rfl rfl
    generalize (fsR.set 0 (.int 1)) = s4127 at hP hD o_s4127
    refine lv_aload_n hx hb dX12_slot_32 rfl (lv_at hl 0 rfl) ?_
    refine va_get (D := (dC, dI)) (ci := 15) (v := .int 1) (C := RX12) (T := TX12) (N := 150) hx hb hts (in_n_slot_X12) hown hK hP 0 rfl rfl 0 (by decide) (hts (.fieldLink RX12 388 "HeapWorksModel" "thrown" "I") (by decide +kernel)) (fun _ h9 => h9) (ow_at o_s4127 0 rfl) dX12_slot_33 ?_
    refine lv_if_le (tgt := 43) hx hb dX12_slot_36 (by decide) (fun c4128 => absurd c4128 (by decide)) (fun c4128 => ?_)
    refine lv_lconst (v := 0) hx hb dX12_slot_39 (by decide) ?_
    refine lv_goto (tgt := 50) hx hb dX12_slot_40 (by decide) ?_
    have hP9 := hP.sub (ws' := [(aR, .inr (15, s4127)), (q_things, .inl (k_things, 5, .inl f_things))]) [0, 1] rfl
    have hD9 := hD.sub (ws' := [(aR, .inr (15, s4127)), (q_things, .inl (k_things, 5, .inl f_things))]) [0, 1] (by decide) rfl
    have hK9 := hK.sub (tys' := [(k_things, .int)]) [0] rfl
    exact W.lret (v := 0) hx hb hr (fun t ht hW => ⟨⟨0, s4127, rfl, (Or.inl ⟨c4112, rfl, o_s4127⟩), by rw [ht]; exact hP9, va_K.moved hW.alike hK9, hD9⟩, hS.F ht⟩) hS.2.2 dX12_slot_50
  · skip
    subst er4116
    refine lv_if_eq (tgt := 24) hx hb dX12_slot_7 (by decide) (fun c4129 => ?_) (fun c4129 => absurd c4129 (by decide))
    refine lv_iconst (v := 1) hx hb dX12_slot_24 (by decide) ?_
    refine lv_goto (tgt := 29) hx hb dX12_slot_25 (by decide) ?_
    refine va_put (D := (dC, dI)) (ci := 15) (v := .int 1) (ty := .int) (C := RX12) (T := TX12) (N := 150) hx hb hts (in_n_slot_X12) tyX12 tyX12_ok nmX12 hown hK hP hD hS 0 rfl rfl 0 (by decide) (hts (.fieldLink RX12 388 "HeapWorksModel" "thrown" "I") (by decide +kernel)) (fun _ h9 => h9) rfl (by decide +kernel) rfl rfl (by rw [o_fsR.2.1]; decide) dX12_slot_29 (fun H locs hP hD hS => ?_)
    have hP : va_P (dC, dI) vwCl [(aR, .inr (15, (fsR.set 0 (.int 1)))), (q_things, .inl (k_things, 5, .inl f_things))] H := hP
    have hD : va_D A [(aR, .inr (15, (fsR.set 0 (.int 1)))), (q_things, .inl (k_things, 5, .inl f_things))] := hD
    have o_s4130 := ow_set o_fsR 0 (.int 1) (by decide) (l' := [(0, .int 1), (48, .ref q_things)]) (w' := [0]) rfl rfl
    generalize (fsR.set 0 (.int 1)) = s4130 at hP hD o_s4130
    refine lv_aload_n hx hb dX12_slot_32 rfl (lv_at hl 0 rfl) ?_
    refine va_get (D := (dC, dI)) (ci := 15) (v := .int 1) (C := RX12) (T := TX12) (N := 150) hx hb hts (in_n_slot_X12) hown hK hP 0 rfl rfl 0 (by decide) (hts (.fieldLink RX12 388 "HeapWorksModel" "thrown" "I") (by decide +kernel)) (fun _ h9 => h9) (ow_at o_s4130 0 rfl) dX12_slot_33 ?_
    refine lv_if_le (tgt := 43) hx hb dX12_slot_36 (by decide) (fun c4131 => absurd c4131 (by decide)) (fun c4131 => ?_)
    refine lv_lconst (v := 0) hx hb dX12_slot_39 (by decide) ?_
    refine lv_goto (tgt := 50) hx hb dX12_slot_40 (by decide) ?_
    have hP9 := hP.sub (ws' := [(aR, .inr (15, s4130)), (q_things, .inl (k_things, 5, .inl f_things))]) [0, 1] rfl
    have hD9 := hD.sub (ws' := [(aR, .inr (15, s4130)), (q_things, .inl (k_things, 5, .inl f_things))]) [0, 1] (by decide) rfl
    have hK9 := hK.sub (tys' := [(k_things, .int)]) [0] rfl
    exact W.lret (v := 0) hx hb hr (fun t ht hW => ⟨⟨0, s4130, rfl, (Or.inr (Or.inl ⟨c4114, c4115, rfl, o_s4130⟩)), by rw [ht]; exact hP9, va_K.moved hW.alike hK9, hD9⟩, hS.F ht⟩) hS.2.2 dX12_slot_50
  · skip
    subst er4120
    refine lv_if_eq (tgt := 24) hx hb dX12_slot_7 (by decide) (fun c4132 => ?_) (fun c4132 => absurd c4132 (by decide))
    refine lv_iconst (v := 1) hx hb dX12_slot_24 (by decide) ?_
    refine lv_goto (tgt := 29) hx hb dX12_slot_25 (by decide) ?_
    refine va_put (D := (dC, dI)) (ci := 15) (v := .int 1) (ty := .int) (C := RX12) (T := TX12) (N := 150) hx hb hts (in_n_slot_X12) tyX12 tyX12_ok nmX12 hown hK hP hD hS 0 rfl rfl 0 (by decide) (hts (.fieldLink RX12 388 "HeapWorksModel" "thrown" "I") (by decide +kernel)) (fun _ h9 => h9) rfl (by decide +kernel) rfl rfl (by rw [o_fsR.2.1]; decide) dX12_slot_29 (fun H locs hP hD hS => ?_)
    have hP : va_P (dC, dI) vwCl [(aR, .inr (15, (fsR.set 0 (.int 1)))), (q_things, .inl (k_things, 5, .inl f_things))] H := hP
    have hD : va_D A [(aR, .inr (15, (fsR.set 0 (.int 1)))), (q_things, .inl (k_things, 5, .inl f_things))] := hD
    have o_s4133 := ow_set o_fsR 0 (.int 1) (by decide) (l' := [(0, .int 1), (48, .ref q_things)]) (w' := [0]) rfl rfl
    generalize (fsR.set 0 (.int 1)) = s4133 at hP hD o_s4133
    refine lv_aload_n hx hb dX12_slot_32 rfl (lv_at hl 0 rfl) ?_
    refine va_get (D := (dC, dI)) (ci := 15) (v := .int 1) (C := RX12) (T := TX12) (N := 150) hx hb hts (in_n_slot_X12) hown hK hP 0 rfl rfl 0 (by decide) (hts (.fieldLink RX12 388 "HeapWorksModel" "thrown" "I") (by decide +kernel)) (fun _ h9 => h9) (ow_at o_s4133 0 rfl) dX12_slot_33 ?_
    refine lv_if_le (tgt := 43) hx hb dX12_slot_36 (by decide) (fun c4134 => absurd c4134 (by decide)) (fun c4134 => ?_)
    refine lv_lconst (v := 0) hx hb dX12_slot_39 (by decide) ?_
    refine lv_goto (tgt := 50) hx hb dX12_slot_40 (by decide) ?_
    have hP9 := hP.sub (ws' := [(aR, .inr (15, s4133)), (q_things, .inl (k_things, 5, .inl f_things))]) [0, 1] rfl
    have hD9 := hD.sub (ws' := [(aR, .inr (15, s4133)), (q_things, .inl (k_things, 5, .inl f_things))]) [0, 1] (by decide) rfl
    have hK9 := hK.sub (tys' := [(k_things, .int)]) [0] rfl
    exact W.lret (v := 0) hx hb hr (fun t ht hW => ⟨⟨0, s4133, rfl, (Or.inr (Or.inr (Or.inl ⟨c4117, c4118, c4119, rfl, o_s4133⟩))), by rw [ht]; exact hP9, va_K.moved hW.alike hK9, hD9⟩, hS.F ht⟩) hS.2.2 dX12_slot_50
  · skip
    subst er4125
    refine lv_if_eq (tgt := 24) hx hb dX12_slot_7 (by decide) (fun c4135 => ?_) (fun c4135 => absurd c4135 (by decide))
    refine lv_iconst (v := 1) hx hb dX12_slot_24 (by decide) ?_
    refine lv_goto (tgt := 29) hx hb dX12_slot_25 (by decide) ?_
    refine va_put (D := (dC, dI)) (ci := 15) (v := .int 1) (ty := .int) (C := RX12) (T := TX12) (N := 150) hx hb hts (in_n_slot_X12) tyX12 tyX12_ok nmX12 hown hK hP hD hS 0 rfl rfl 0 (by decide) (hts (.fieldLink RX12 388 "HeapWorksModel" "thrown" "I") (by decide +kernel)) (fun _ h9 => h9) rfl (by decide +kernel) rfl rfl (by rw [o_fsR.2.1]; decide) dX12_slot_29 (fun H locs hP hD hS => ?_)
    have hP : va_P (dC, dI) vwCl [(aR, .inr (15, (fsR.set 0 (.int 1)))), (q_things, .inl (k_things, 5, .inl f_things))] H := hP
    have hD : va_D A [(aR, .inr (15, (fsR.set 0 (.int 1)))), (q_things, .inl (k_things, 5, .inl f_things))] := hD
    have o_s4136 := ow_set o_fsR 0 (.int 1) (by decide) (l' := [(0, .int 1), (48, .ref q_things)]) (w' := [0]) rfl rfl
    generalize (fsR.set 0 (.int 1)) = s4136 at hP hD o_s4136
    refine lv_aload_n hx hb dX12_slot_32 rfl (lv_at hl 0 rfl) ?_
    refine va_get (D := (dC, dI)) (ci := 15) (v := .int 1) (C := RX12) (T := TX12) (N := 150) hx hb hts (in_n_slot_X12) hown hK hP 0 rfl rfl 0 (by decide) (hts (.fieldLink RX12 388 "HeapWorksModel" "thrown" "I") (by decide +kernel)) (fun _ h9 => h9) (ow_at o_s4136 0 rfl) dX12_slot_33 ?_
    refine lv_if_le (tgt := 43) hx hb dX12_slot_36 (by decide) (fun c4137 => absurd c4137 (by decide)) (fun c4137 => ?_)
    refine lv_lconst (v := 0) hx hb dX12_slot_39 (by decide) ?_
    refine lv_goto (tgt := 50) hx hb dX12_slot_40 (by decide) ?_
    have hP9 := hP.sub (ws' := [(aR, .inr (15, s4136)), (q_things, .inl (k_things, 5, .inl f_things))]) [0, 1] rfl
    have hD9 := hD.sub (ws' := [(aR, .inr (15, s4136)), (q_things, .inl (k_things, 5, .inl f_things))]) [0, 1] (by decide) rfl
    have hK9 := hK.sub (tys' := [(k_things, .int)]) [0] rfl
    exact W.lret (v := 0) hx hb hr (fun t ht hW => ⟨⟨0, s4136, rfl, (Or.inr (Or.inr (Or.inr (⟨c4121, c4122, c4123, c4124, rfl, o_s4136⟩)))), by rw [ht]; exact hP9, va_K.moved hW.alike hK9, hD9⟩, hS.F ht⟩) hS.2.2 dX12_slot_50
