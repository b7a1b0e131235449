def l_z_X9_scanWord : List Cond := [.fieldLink RX9 69 "HeapWorks$Tape" "at" "I", .fieldLink RX9 49 "HeapWorks$Tape" "size" "I", .fieldLink RX9 78 "HeapWorks$Tape" "place" "I", .fieldLink RX9 81 "HeapWorks$Tape" "code" "J", .fieldLink RX9 75 "HeapWorks$Tape" "word" "I"]
def w_z_X9_scanWord : List Cond := .code yX9_scanWord cX9_scanWord 1 none :: (l_z_X9_scanWord ++ (wsX90))
theorem in_z_X9_scanWord_X9 : ∀ w ∈ wsX90, w ∈ w_z_X9_scanWord := fun w h => List.mem_cons_of_mem _ (List.mem_append_right _ (h))
set_option maxHeartbeats 4000000 in
set_option maxRecDepth 100000 in
theorem z_X9_scanWord (l : Launch) (dC : Nat → ClassId) (dI : Nat → Nat → Nat) (sz : Nat) (Ad0 : Nat) (Fs0 : List Value) (k_Fs0 : fh Fs0 12 [(4, .int 0), (1, .int 0)])  : Met l yX9_scanWord w_z_X9_scanWord ({ frames := 0, cells := 0, slots := 0, locals := 0 }) (va_Pc [.ref Ad0] (fun U => U.heap.size = sz ∧ Wd dC dI [] (fun _ => True) [(Ad0, .inr (12, Fs0))] U)) (va_Qv (fun (u : List Value) => ow Fs0 (u) 12 [9, 11, 10] [(9, .int 0), (11, .long 0), (10, .int 0), (4, .int 0), (1, .int 0)]) (fun (u : List Value) t => Wd dC dI [] (va_A [(Ad0, .inr (12, Fs0))] sz) [(Ad0, .inr (12, (u)))] t) (va_A [(Ad0, .inr (12, Fs0))] sz))  0 0 (va_A [(Ad0, .inr (12, Fs0))] sz) := by
  refine Met.ofW (cc := cX9_scanWord) (maxL := 1) (ret := none) (by decide) rfl ?_
  intro p e s m args below meth c s₁ B hml hv
  obtain ⟨rfl, hsz, hP, hK, hD0⟩ := hv
  have hx := B.exec
  have hb := B.bytes
  have hr := B.returns
  have hts := atoms_spec (ws := w_z_X9_scanWord) B.pre
  have hown : s.vm.findClass RX9 = some m.cls := findClass_of_methodNamed B.named
  have hlocks := B.notSynchronized
  subst hsz
  have hD := hD0.self (sz := s.heap.size)
  generalize hAe : va_A [(Ad0, .inr (12, Fs0))] s.heap.size = A at hD ⊢
  have hA : ∀ q : Nat, s.heap.size ≤ q → A q := fun q h => by rw [← hAe]; exact Or.inr h
  have hS : va_S A s.heap s.heap [] := va_S.rf
  have hl := lv_entry ([.ref Ad0]) (n := 1) (Nat.le_of_ble_eq_true rfl)
  rw [lg_entry_eq]
  generalize (lg_sl ([.ref Ad0]) ++ List.replicate (1 - (lg_sl ([.ref Ad0])).length) Slot.unset).toArray = ls at hl ⊢
  have hl : lv_has ls 1 [(0, .ref Ad0)] := hl
  have o_Fs0 := ow_0 k_Fs0
  refine lv_aload_n hx hb dX9_scanWord_0 rfl (lv_at hl 0 rfl) ?_
  refine va_get (D := (dC, dI)) (ci := 12) (v := .int 0) (C := RX9) (T := TX9) (N := 12) hx hb hts (in_z_X9_scanWord_X9) hown hK hP 0 rfl rfl 4 (by decide) (hts (.fieldLink RX9 69 "HeapWorks$Tape" "at" "I") (by decide +kernel)) (fun _ h9 => h9) (ow_at o_Fs0 0 rfl) dX9_scanWord_1 ?_
  refine lv_aload_n hx hb dX9_scanWord_4 rfl (lv_at hl 0 rfl) ?_
  refine va_get (D := (dC, dI)) (ci := 12) (v := .int 0) (C := RX9) (T := TX9) (N := 12) hx hb hts (in_z_X9_scanWord_X9) hown hK hP 0 rfl rfl 1 (by decide) (hts (.fieldLink RX9 49 "HeapWorks$Tape" "size" "I") (by decide +kernel)) (fun _ h9 => h9) (ow_at o_Fs0 1 rfl) dX9_scanWord_5 ?_
  refine lv_icmp_ge (tgt := 39) hx hb dX9_scanWord_8 (by decide) (fun c926 => ?_) (fun c926 => absurd c926 (by decide))
  refine lv_aload_n hx hb dX9_scanWord_39 rfl (lv_at hl 0 rfl) ?_
  refine lv_aload_n hx hb dX9_scanWord_40 rfl (lv_at hl 0 rfl) ?_
  refine va_get (D := (dC, dI)) (ci := 12) (v := .int 0) (C := RX9) (T := TX9) (N := 12) hx hb hts (in_z_X9_scanWord_X9) hown hK hP 0 rfl rfl 4 (by decide) (hts (.fieldLink RX9 69 "HeapWorks$Tape" "at" "I") (by decide +kernel)) (fun _ h9 => h9) (ow_at o_Fs0 0 rfl) dX9_scanWord_41 ?_
  refine va_put (D := (dC, dI)) (ci := 12) (v := .int 0) (ty := .int) (C := RX9) (T := TX9) (N := 12) hx hb hts (in_z_X9_scanWord_X9) tyX9 tyX9_ok nmX9 hown hK hP hD hS 0 rfl rfl 10 (by decide) (hts (.fieldLink RX9 78 "HeapWorks$Tape" "place" "I") (by decide +kernel)) (fun _ h9 => h9) rfl (by decide +kernel) rfl rfl (by rw [o_Fs0.2.1]; decide) dX9_scanWord_44 (fun H locs hP hD hS => ?_)
  have hP : va_P (dC, dI) vwCl [(Ad0, .inr (12, (Fs0.set 10 (.int 0))))] H := hP
  have hD : va_D A [(Ad0, .inr (12, (Fs0.set 10 (.int 0))))] := hD
  have o_s927 := ow_set o_Fs0 10 (.int 0) (by decide) (l' := [(10, .int 0), (4, .int 0), (1, .int 0)]) (w' := [10]) rfl rfl
  generalize (Fs0.set 10 (.int 0)) = s927 at hP hD o_s927
  refine lv_aload_n hx hb dX9_scanWord_47 rfl (lv_at hl 0 rfl) ?_
  refine lv_lconst (v := 0) hx hb dX9_scanWord_48 (by decide) ?_
  refine va_put (D := (dC, dI)) (ci := 12) (v := .long 0) (ty := .long) (C := RX9) (T := TX9) (N := 12) hx hb hts (in_z_X9_scanWord_X9) tyX9 tyX9_ok nmX9 hown hK hP hD hS 0 rfl rfl 11 (by decide) (hts (.fieldLink RX9 81 "HeapWorks$Tape" "code" "J") (by decide +kernel)) (fun _ h9 => h9) rfl (by decide +kernel) rfl rfl (by rw [o_s927.2.1]; decide) dX9_scanWord_49 (fun H locs hP hD hS => ?_)
  have hP : va_P (dC, dI) vwCl [(Ad0, .inr (12, (s927.set 11 (.long 0))))] H := hP
  have hD : va_D A [(Ad0, .inr (12, (s927.set 11 (.long 0))))] := hD
  have o_s928 := ow_set o_s927 11 (.long 0) (by decide) (l' := [(11, .long 0), (10, .int 0), (4, .int 0), (1, .int 0)]) (w' := [11, 10]) rfl rfl
  generalize (s927.set 11 (.long 0)) = s928 at hP hD o_s928
  refine lv_aload_n hx hb dX9_scanWord_52 rfl (lv_at hl 0 rfl) ?_
  refine va_get (D := (dC, dI)) (ci := 12) (v := .int 0) (C := RX9) (T := TX9) (N := 12) hx hb hts (in_z_X9_scanWord_X9) hown hK hP 0 rfl rfl 4 (by decide) (hts (.fieldLink RX9 69 "HeapWorks$Tape" "at" "I") (by decide +kernel)) (fun _ h9 => h9) (ow_at o_s928 2 rfl) dX9_scanWord_53 ?_
  refine lv_aload_n hx hb dX9_scanWord_56 rfl (lv_at hl 0 rfl) ?_
  refine va_get (D := (dC, dI)) (ci := 12) (v := .int 0) (C := RX9) (T := TX9) (N := 12) hx hb hts (in_z_X9_scanWord_X9) hown hK hP 0 rfl rfl 1 (by decide) (hts (.fieldLink RX9 49 "HeapWorks$Tape" "size" "I") (by decide +kernel)) (fun _ h9 => h9) (ow_at o_s928 3 rfl) dX9_scanWord_57 ?_
  refine lv_icmp_lt (tgt := 71) hx hb dX9_scanWord_60 (by decide) (fun c929 => absurd c929 (by decide)) (fun c929 => ?_)
  refine lv_aload_n hx hb dX9_scanWord_63 rfl (lv_at hl 0 rfl) ?_
  refine lv_iconst (v := 0) hx hb dX9_scanWord_64 (by decide) ?_
  refine va_put (D := (dC, dI)) (ci := 12) (v := .int 0) (ty := .int) (C := RX9) (T := TX9) (N := 12) hx hb hts (in_z_X9_scanWord_X9) tyX9 tyX9_ok nmX9 hown hK hP hD hS 0 rfl rfl 9 (by decide) (hts (.fieldLink RX9 75 "HeapWorks$Tape" "word" "I") (by decide +kernel)) (fun _ h9 => h9) rfl (by decide +kernel) rfl rfl (by rw [o_s928.2.1]; decide) dX9_scanWord_65 (fun H locs hP hD hS => ?_)
  have hP : va_P (dC, dI) vwCl [(Ad0, .inr (12, (s928.set 9 (.int 0))))] H := hP
  have hD : va_D A [(Ad0, .inr (12, (s928.set 9 (.int 0))))] := hD
  have o_s930 := ow_set o_s928 9 (.int 0) (by decide) (l' := [(9, .int 0), (11, .long 0), (10, .int 0), (4, .int 0), (1, .int 0)]) (w' := [9, 11, 10]) rfl rfl
  generalize (s928.set 9 (.int 0)) = s930 at hP hD o_s930
  refine lv_goto (tgt := 119) hx hb dX9_scanWord_68 (by decide) ?_
  have hP9 := hP.sub (ws' := [(Ad0, .inr (12, s930))]) [0] rfl
  have hD9 := hD.sub (ws' := [(Ad0, .inr (12, s930))]) [0] (by decide) rfl
  have hK9 := hK.sub (tys' := []) [] rfl
  exact W.vret hx hb hr (fun t ht hW => ⟨⟨s930, rfl, o_s930, by rw [ht]; exact hP9, va_K.moved hW.alike hK9, hD9⟩, hS.F ht⟩) hS.2.2 dX9_scanWord_119

def l_z_X9_wholeName : List Cond := [.fieldLink RX9 49 "HeapWorks$Tape" "size" "I", .fieldLink RX9 69 "HeapWorks$Tape" "at" "I", .methodLink RX9 72 yX9_scanWord, .instanceMethod yX9_scanWord, .selects RX9 yX9_scanWord yX9_scanWord, .initialized RX9, .fieldLink RX9 75 "HeapWorks$Tape" "word" "I", .code yX9_scanWord cX9_scanWord 1 none, .fieldLink RX9 78 "HeapWorks$Tape" "place" "I", .fieldLink RX9 81 "HeapWorks$Tape" "code" "J"]
def w_z_X9_wholeName : List Cond := .code yX9_wholeName cX9_wholeName 1 (some .long) :: (l_z_X9_wholeName ++ (wsX90))
theorem in_z_X9_wholeName_X9 : ∀ w ∈ wsX90, w ∈ w_z_X9_wholeName := fun w h => List.mem_cons_of_mem _ (List.mem_append_right _ (h))
theorem g_z_X9_wholeName_z_X9_scanWord_72 : GoodIn w_z_X9_wholeName (wsV RX9 72 RX9 yX9_scanWord w_z_X9_scanWord) := goodIn_app (goodIn_sub (by decide +kernel) (by decide +kernel)) (goodIn_ca (goodIn_sub (by decide +kernel) (by decide +kernel)) (goodIn_in in_z_X9_wholeName_X9 gd_X9))
set_option maxHeartbeats 4000000 in
set_option maxRecDepth 100000 in
theorem z_X9_wholeName (l : Launch) (dC : Nat → ClassId) (dI : Nat → Nat → Nat) (sz : Nat) (Ad0 : Nat) (Fs0 : List Value) (k_Fs0 : fh Fs0 12 [(1, .int 0)])  : Met l yX9_wholeName w_z_X9_wholeName ({ frames := 1, cells := 0, slots := 0, locals := 20 }) (va_Pc [.ref Ad0] (fun U => U.heap.size = sz ∧ Wd dC dI [] (fun _ => True) [(Ad0, .inr (12, Fs0))] U)) (va_Ql (fun (r : Int64) (u : List Value) => (r = 0 ∧ ow Fs0 (u) 12 [9, 11, 10, 4] [(9, .int 0), (11, .long 0), (10, .int 0), (4, .int 0), (1, .int 0), (4, .int 0), (1, .int 0)])) (fun (u : List Value) t => Wd dC dI [] (va_A [(Ad0, .inr (12, Fs0))] sz) [(Ad0, .inr (12, (u)))] t) (va_A [(Ad0, .inr (12, Fs0))] sz))  0 0 (va_A [(Ad0, .inr (12, Fs0))] sz) := by
  refine Met.ofW (cc := cX9_wholeName) (maxL := 1) (ret := (some .long)) (by decide) rfl ?_
  intro p e s m args below meth c s₁ B hml hv
  obtain ⟨rfl, hsz, hP, hK, hD0⟩ := hv
  have hx := B.exec
  have hb := B.bytes
  have hr := B.returns
  have hts := atoms_spec (ws := w_z_X9_wholeName) B.pre
  have hown : s.vm.findClass RX9 = some m.cls := findClass_of_methodNamed B.named
  have hlocks := B.notSynchronized
  subst hsz
  have hD := hD0.self (sz := s.heap.size)
  generalize hAe : va_A [(Ad0, .inr (12, Fs0))] s.heap.size = A at hD ⊢
  have hA : ∀ q : Nat, s.heap.size ≤ q → A q := fun q h => by rw [← hAe]; exact Or.inr h
  have hS : va_S A s.heap s.heap [] := va_S.rf
  have hl := lv_entry ([.ref Ad0]) (n := 1) (Nat.le_of_ble_eq_true rfl)
  rw [lg_entry_eq]
  generalize (lg_sl ([.ref Ad0]) ++ List.replicate (1 - (lg_sl ([.ref Ad0])).length) Slot.unset).toArray = ls at hl ⊢
  have hl : lv_has ls 1 [(0, .ref Ad0)] := hl
  have o_Fs0 := ow_0 k_Fs0
  refine lv_aload_n hx hb dX9_wholeName_0 rfl (lv_at hl 0 rfl) ?_
  refine va_get (D := (dC, dI)) (ci := 12) (v := .int 0) (C := RX9) (T := TX9) (N := 12) hx hb hts (in_z_X9_wholeName_X9) hown hK hP 0 rfl rfl 1 (by decide) (hts (.fieldLink RX9 49 "HeapWorks$Tape" "size" "I") (by decide +kernel)) (fun _ h9 => h9) (ow_at o_Fs0 0 rfl) dX9_wholeName_1 ?_
  refine lv_bipush (v := 10) hx hb dX9_wholeName_4 (by decide) ?_
  refine lv_icmp_le (tgt := 11) hx hb dX9_wholeName_6 (by decide) (fun c933 => ?_) (fun c933 => absurd c933 (by decide))
  refine lv_aload_n hx hb dX9_wholeName_11 rfl (lv_at hl 0 rfl) ?_
  refine lv_iconst (v := 0) hx hb dX9_wholeName_12 (by decide) ?_
  refine va_put (D := (dC, dI)) (ci := 12) (v := .int 0) (ty := .int) (C := RX9) (T := TX9) (N := 12) hx hb hts (in_z_X9_wholeName_X9) tyX9 tyX9_ok nmX9 hown hK hP hD hS 0 rfl rfl 4 (by decide) (hts (.fieldLink RX9 69 "HeapWorks$Tape" "at" "I") (by decide +kernel)) (fun _ h9 => h9) rfl (by decide +kernel) rfl rfl (by rw [o_Fs0.2.1]; decide) dX9_wholeName_13 (fun H locs hP hD hS => ?_)
  have hP : va_P (dC, dI) vwCl [(Ad0, .inr (12, (Fs0.set 4 (.int 0))))] H := hP
  have hD : va_D A [(Ad0, .inr (12, (Fs0.set 4 (.int 0))))] := hD
  have o_s934 := ow_set o_Fs0 4 (.int 0) (by decide) (l' := [(4, .int 0), (1, .int 0)]) (w' := [4]) rfl rfl
  generalize (Fs0.set 4 (.int 0)) = s934 at hP hD o_s934
  refine lv_aload_n hx hb dX9_wholeName_16 rfl (lv_at hl 0 rfl) ?_
  have hPc := hP.sub (ws' := [(Ad0, .inr (12, s934))]) [0] rfl
  have hDc := hD.sub (ws' := [(Ad0, .inr (12, s934))]) [0] (by decide) rfl
  have hKc := hK.sub (tys' := []) [] rfl
  have hFc := va_free (wc := [(Ad0, .inr (12, s934))]) hD hS hA [0] rfl
  refine va_callv (va_runV (As := []) (rest := []) ⟨hx, hb, hml, hown, hts⟩ (z_X9_scanWord l dC dI H.size Ad0 s934 (fh_sub o_s934.2 [0, 1] rfl) ) (cwV 0 hts g_z_X9_wholeName_z_X9_scanWord_72 rfl rfl rfl (by decide +kernel) ⟨Nat.le_of_ble_eq_true rfl, Nat.le_of_ble_eq_true rfl⟩) ⟨fun a U g mk q => by obtain ⟨q0, q1, qP, qK, qD⟩ := q; exact ⟨q0, q1, qP, va_K.moved (u := U) (U := U.calling g mk a) (Vm.Alike.refl U.vm) qK, qD⟩, va_recv hK hP (ci := 12) (q0 := 0) rfl rfl, fun U hU hW => ⟨rfl, by rw [hU], by rw [hU]; exact hPc, va_K.moved hW.alike hKc, hDc.weaken (fun _ _ _ _ => trivial)⟩⟩ rfl rfl hl.1 rfl (lv_room (Nat.le_of_ble_eq_true rfl)) dX9_wholeName_17 ⟨Nat.le_of_ble_eq_true rfl, Nat.le_of_ble_eq_true rfl⟩) hS (fun q _ h => hFc q h) hFc (fun u t H1 locs ht hvm hw hB hz1 hk1 hS => ?_)
  obtain ⟨s940, rfl⟩ : ∃ z, z = u := ⟨_, rfl⟩
  obtain ⟨hP1, hK1, hD1⟩ := hB
  rw [ht] at hP1
  try dsimp only at hw
  obtain ⟨hP, hD⟩ := va_join (wr := []) (w1 := [(Ad0, .inr (12, s940))]) hP hD [0] [] rfl rfl (by decide) (by decide) hk1 hFc hP1 hD1
  have hK := hK.sub (tys' := []) [] rfl
  generalize H1 = H at hP hS ⊢
  have hP : va_P (dC, dI) vwCl [(Ad0, .inr (12, s940))] H := hP
  have hD : va_D A [(Ad0, .inr (12, s940))] := hD
  have o_s940 := hw
  have o_s940 := ow_on o_s934 o_s940 (l' := [(9, .int 0), (11, .long 0), (10, .int 0), (4, .int 0), (1, .int 0), (4, .int 0), (1, .int 0)]) (w' := [9, 11, 10, 4]) rfl rfl
  refine lv_aload_n hx hb dX9_wholeName_20 rfl (lv_at hl 0 rfl) ?_
  refine va_get (D := (dC, dI)) (ci := 12) (v := .int 0) (C := RX9) (T := TX9) (N := 12) hx hb hts (in_z_X9_wholeName_X9) hown hK hP 0 rfl rfl 9 (by decide) (hts (.fieldLink RX9 75 "HeapWorks$Tape" "word" "I") (by decide +kernel)) (fun _ h9 => h9) (ow_at o_s940 0 rfl) dX9_wholeName_21 ?_
  refine lv_iconst (v := 2) hx hb dX9_wholeName_24 (by decide) ?_
  refine lv_icmp_ne (tgt := 53) hx hb dX9_wholeName_25 (by decide) (fun c941 => ?_) (fun c941 => absurd c941 (by decide))
  refine lv_lconst (v := 0) hx hb dX9_wholeName_53 (by decide) ?_
  have hP9 := hP.sub (ws' := [(Ad0, .inr (12, s940))]) [0] rfl
  have hD9 := hD.sub (ws' := [(Ad0, .inr (12, s940))]) [0] (by decide) rfl
  have hK9 := hK.sub (tys' := []) [] rfl
  exact W.lret (v := 0) hx hb hr (fun t ht hW => ⟨⟨0, s940, rfl, ⟨rfl, o_s940⟩, by rw [ht]; exact hP9, va_K.moved hW.alike hK9, hD9⟩, hS.F ht⟩) hS.2.2 dX9_wholeName_54

def l_z_X10_isClass : List Cond := [.fieldLink RX10 65 "HeapWorks$Types" "count" "I"]
def w_z_X10_isClass : List Cond := .code yX10_isClass cX10_isClass 2 (some .boolean) :: (l_z_X10_isClass ++ (wsX100))
theorem in_z_X10_isClass_X10 : ∀ w ∈ wsX100, w ∈ w_z_X10_isClass := fun w h => List.mem_cons_of_mem _ (List.mem_append_right _ (h))
set_option maxHeartbeats 4000000 in
set_option maxRecDepth 100000 in
theorem z_X10_isClass (l : Launch) (dC : Nat → ClassId) (dI : Nat → Nat → Nat) (sz : Nat) (Ad0 : Nat) (Fs0 : List Value) (Va0 : Int32) (k_Fs0 : fh Fs0 18 [(0, .int 0)])  : Met l yX10_isClass w_z_X10_isClass ({ frames := 0, cells := 0, slots := 0, locals := 0 }) (va_Pc [.ref Ad0, .int Va0] (fun U => U.heap.size = sz ∧ Wd dC dI [] (fun _ => True) [(Ad0, .inr (13, Fs0))] U)) (va_Qi (fun (r : Int32) (u : Unit) => (Va0 < 0 ∧ r = 0) ∨ (¬ Va0 < 0 ∧ 0 ≤ Va0 ∧ r = 0)) (fun (u : Unit) t => Wd dC dI [] (va_A [(Ad0, .inr (13, Fs0))] sz) [(Ad0, .inr (13, Fs0))] t) (va_A [(Ad0, .inr (13, Fs0))] sz))  0 0 (va_A [(Ad0, .inr (13, Fs0))] sz) := by
  refine Met.ofW (cc := cX10_isClass) (maxL := 2) (ret := (some .boolean)) (by decide) rfl ?_
  intro p e s m args below meth c s₁ B hml hv
  obtain ⟨rfl, hsz, hP, hK, hD0⟩ := hv
  have hx := B.exec
  have hb := B.bytes
  have hr := B.returns
  have hts := atoms_spec (ws := w_z_X10_isClass) B.pre
  have hown : s.vm.findClass RX10 = some m.cls := findClass_of_methodNamed B.named
  have hlocks := B.notSynchronized
  subst hsz
  have hD := hD0.self (sz := s.heap.size)
  generalize hAe : va_A [(Ad0, .inr (13, Fs0))] s.heap.size = A at hD ⊢
  have hA : ∀ q : Nat, s.heap.size ≤ q → A q := fun q h => by rw [← hAe]; exact Or.inr h
  have hS : va_S A s.heap s.heap [] := va_S.rf
  have hl := lv_entry ([.ref Ad0, .int Va0]) (n := 2) (Nat.le_of_ble_eq_true rfl)
  rw [lg_entry_eq]
  generalize (lg_sl ([.ref Ad0, .int Va0]) ++ List.replicate (2 - (lg_sl ([.ref Ad0, .int Va0])).length) Slot.unset).toArray = ls at hl ⊢
  have hl : lv_has ls 2 [(0, .ref Ad0), (1, .int Va0)] := hl
  have o_Fs0 := ow_0 k_Fs0
  refine lv_iload_n hx hb dX10_isClass_0 rfl (lv_at hl 1 rfl) ?_
  refine lv_if_lt (tgt := 16) hx hb dX10_isClass_1 (by decide) (fun c949 => ?_) (fun c949 => ?_)
  · skip
    refine lv_iconst (v := 0) hx hb dX10_isClass_16 (by decide) ?_
    have hP9 := hP.sub (ws' := [(Ad0, .inr (13, Fs0))]) [0] rfl
    have hD9 := hD.sub (ws' := [(Ad0, .inr (13, Fs0))]) [0] (by decide) rfl
    have hK9 := hK.sub (tys' := []) [] rfl
    exact W.zret (v := 0) hx hb hr rfl (fun t ht hW => ⟨⟨0, (), rfl, (Or.inl ⟨c949, rfl⟩), by rw [ht]; exact hP9, va_K.moved hW.alike hK9, hD9⟩, hS.F ht⟩) hS.2.2 dX10_isClass_17
  · skip
    refine lv_iload_n hx hb dX10_isClass_4 rfl (lv_at hl 1 rfl) ?_
    refine lv_aload_n hx hb dX10_isClass_5 rfl (lv_at hl 0 rfl) ?_
    refine va_get (D := (dC, dI)) (ci := 13) (v := .int 0) (C := RX10) (T := TX10) (N := 18) hx hb hts (in_z_X10_isClass_X10) hown hK hP 0 rfl rfl 0 (by decide) (hts (.fieldLink RX10 65 "HeapWorks$Types" "count" "I") (by decide +kernel)) (fun _ h9 => h9) (ow_at o_Fs0 0 rfl) dX10_isClass_6 ?_
    refine lv_icmp_ge (tgt := 16) hx hb dX10_isClass_9 (by decide) (fun c950 => ?_) (fun c950 => (by exfalso; have bd_Va0 := i_bd Va0; (try simp only [i_lt, i_le, i_eq, kc_0] at c949 c950); omega))
    refine lv_iconst (v := 0) hx hb dX10_isClass_16 (by decide) ?_
    have hP9 := hP.sub (ws' := [(Ad0, .inr (13, Fs0))]) [0] rfl
    have hD9 := hD.sub (ws' := [(Ad0, .inr (13, Fs0))]) [0] (by decide) rfl
    have hK9 := hK.sub (tys' := []) [] rfl
    exact W.zret (v := 0) hx hb hr rfl (fun t ht hW => ⟨⟨0, (), rfl, (Or.inr (⟨c949, c950, rfl⟩)), by rw [ht]; exact hP9, va_K.moved hW.alike hK9, hD9⟩, hS.F ht⟩) hS.2.2 dX10_isClass_17

def l_x_type : List Cond := [.classLink RX11 120 "java/lang/IndexOutOfBoundsException", .initialized "java/lang/IndexOutOfBoundsException", .fieldLink RX11 12 "HeapWorks" "tape" "LHeapWorks$Tape;", .methodLink RX11 123 yX9_wholeName, .instanceMethod yX9_wholeName, .selects RX9 yX9_wholeName yX9_wholeName, .initialized RX9, .classLink RX11 127 "java/lang/IllegalArgumentException", .initialized "java/lang/IllegalArgumentException", .fieldLink RX11 19 "HeapWorks" "types" "LHeapWorks$Types;", .methodLink RX11 116 yX10_isClass, .instanceMethod yX10_isClass, .selects RX10 yX10_isClass yX10_isClass, .initialized RX10, .code yX9_wholeName cX9_wholeName 1 (some .long), .fieldLink RX9 49 "HeapWorks$Tape" "size" "I", .fieldLink RX9 69 "HeapWorks$Tape" "at" "I", .methodLink RX9 72 yX9_scanWord, .instanceMethod yX9_scanWord, .selects RX9 yX9_scanWord yX9_scanWord, .fieldLink RX9 75 "HeapWorks$Tape" "word" "I", .code yX9_scanWord cX9_scanWord 1 none, .fieldLink RX9 78 "HeapWorks$Tape" "place" "I", .fieldLink RX9 81 "HeapWorks$Tape" "code" "J", .code yX10_isClass cX10_isClass 2 (some .boolean), .fieldLink RX10 65 "HeapWorks$Types" "count" "I"]
def w_x_type : List Cond := .code yX11_type cX11_type 5 (some .int) :: (l_x_type ++ ((((vx_at0 RX11 122 "java/lang/IndexOutOfBoundsException" ["java/lang/RuntimeException", "java/lang/Exception"]).filter goodWord) ++ (wsX110 ++ (((vx_at0 RX11 129 "java/lang/IllegalArgumentException" ["java/lang/RuntimeException", "java/lang/Exception"]).filter goodWord) ++ (wsX90 ++ wsX100))))))
theorem in_x_type_at0_X11_122 : ∀ w ∈ ((vx_at0 RX11 122 "java/lang/IndexOutOfBoundsException" ["java/lang/RuntimeException", "java/lang/Exception"]).filter goodWord), w ∈ w_x_type := fun w h => List.mem_cons_of_mem _ (List.mem_append_right _ (List.mem_append_left _ h))
theorem in_x_type_X11 : ∀ w ∈ wsX110, w ∈ w_x_type := fun w h => List.mem_cons_of_mem _ (List.mem_append_right _ (List.mem_append_right _ (List.mem_append_left _ h)))
theorem in_x_type_at0_X11_129 : ∀ w ∈ ((vx_at0 RX11 129 "java/lang/IllegalArgumentException" ["java/lang/RuntimeException", "java/lang/Exception"]).filter goodWord), w ∈ w_x_type := fun w h => List.mem_cons_of_mem _ (List.mem_append_right _ (List.mem_append_right _ (List.mem_append_right _ (List.mem_append_left _ h))))
theorem in_x_type_X9 : ∀ w ∈ wsX90, w ∈ w_x_type := fun w h => List.mem_cons_of_mem _ (List.mem_append_right _ (List.mem_append_right _ (List.mem_append_right _ (List.mem_append_right _ (List.mem_append_left _ h)))))
theorem in_x_type_X10 : ∀ w ∈ wsX100, w ∈ w_x_type := fun w h => List.mem_cons_of_mem _ (List.mem_append_right _ (List.mem_append_right _ (List.mem_append_right _ (List.mem_append_right _ (List.mem_append_right _ (h))))))
theorem g_x_type_z_X9_wholeName_123 : GoodIn w_x_type (wsV RX11 123 RX9 yX9_wholeName w_z_X9_wholeName) := goodIn_app (goodIn_sub (by decide +kernel) (by decide +kernel)) (goodIn_ca (goodIn_sub (by decide +kernel) (by decide +kernel)) (goodIn_in in_x_type_X9 gd_X9))
theorem g_x_type_z_X10_isClass_116 : GoodIn w_x_type (wsV RX11 116 RX10 yX10_isClass w_z_X10_isClass) := goodIn_app (goodIn_sub (by decide +kernel) (by decide +kernel)) (goodIn_ca (goodIn_sub (by decide +kernel) (by decide +kernel)) (goodIn_in in_x_type_X10 gd_X10))
set_option maxHeartbeats 4000000 in
set_option maxRecDepth 100000 in
theorem x_type (l : Launch) (dC : Nat → ClassId) (dI : Nat → Nat → Nat) (sz : Nat) (aX : Nat) (fsX : List Value) (aT : Nat) (fsT : List Value) (aY : Nat) (fsY : List Value) (p0 : Int32) (p1 : Int32) (k_fsX : fh fsX 18 [(0, .ref aT), (1, .ref aY)]) (k_fsT : fh fsT 12 [(1, .int 0)]) (k_fsY : fh fsY 18 [(0, .int 0)]) (hst : l.stackTraces = false)  : vx_Met l yX11_type w_x_type ({ frames := 7, cells := 1, slots := 6, locals := 140 }) (va_Pc [.ref aX, .int p0, .int p1] (fun U => U.heap.size = sz ∧ Zz (va_A [(aX, .inr (14, fsX)), (aT, .inr (12, fsT)), (aY, .inr (13, fsY))] sz) U ∧ Wd dC dI [] (fun _ => True) [(aX, .inr (14, fsX)), (aT, .inr (12, fsT)), (aY, .inr (13, fsY))] U)) (va_Qi (fun (r : Int32) (u : Unit) => False) (fun (u : Unit) t => Wd dC dI [] (va_A [(aX, .inr (14, fsX)), (aT, .inr (12, fsT)), (aY, .inr (13, fsY))] sz) [(aX, .inr (14, fsX)), (aT, .inr (12, fsT)), (aY, .inr (13, fsY))] t) (va_A [(aX, .inr (14, fsX)), (aT, .inr (12, fsT)), (aY, .inr (13, fsY))] sz)) (vx_X (fun _ : Unit => True) (fun E _ _ => (E = "java/lang/IndexOutOfBoundsException" ∧ p0 = (-1) ∧ p1 < 0) ∨ (E = "java/lang/IllegalArgumentException" ∧ p0 = (-1) ∧ ¬ p1 < 0 ∧ p1 < 4) ∨ (E = "java/lang/IndexOutOfBoundsException" ∧ p0 = (-1) ∧ ¬ p1 < 0 ∧ ¬ p1 < 4) ∨ (E = "java/lang/IndexOutOfBoundsException" ∧ ¬ p0 = (-1) ∧ p0 < 0) ∨ (E = "java/lang/IndexOutOfBoundsException" ∧ ¬ p0 = (-1) ∧ ¬ p0 < 0 ∧ 0 ≤ p0)) (va_A [(aX, .inr (14, fsX)), (aT, .inr (12, fsT)), (aY, .inr (13, fsY))] sz)) 1 6 (va_A [(aX, .inr (14, fsX)), (aT, .inr (12, fsT)), (aY, .inr (13, fsY))] sz) := by
  refine vx_ofW (cc := cX11_type) (maxL := 5) (ret := (some .int)) (by decide) rfl ?_
  intro p e s m args below meth c s₁ B hml htab hv
  obtain ⟨rfl, hsz, hZ, hP, hK, hD0⟩ := hv
  have hx := B.exec
  have hb := B.bytes
  have hr := B.returns
  have hts := atoms_spec (ws := w_x_type) B.pre
  have hown : s.vm.findClass RX11 = some m.cls := findClass_of_methodNamed B.named
  have hlocks := B.notSynchronized
  subst hsz
  have hD := hD0.self (sz := s.heap.size)
  generalize hAe : va_A [(aX, .inr (14, fsX)), (aT, .inr (12, fsT)), (aY, .inr (13, fsY))] s.heap.size = A at hD hZ ⊢
  have hA : ∀ q : Nat, s.heap.size ≤ q → A q := fun q h => by rw [← hAe]; exact Or.inr h
  have hS : va_S A s.heap s.heap [] := va_S.rf
  have hl := lv_entry ([.ref aX, .int p0, .int p1]) (n := 5) (Nat.le_of_ble_eq_true rfl)
  rw [lg_entry_eq]
  generalize (lg_sl ([.ref aX, .int p0, .int p1]) ++ List.replicate (5 - (lg_sl ([.ref aX, .int p0, .int p1])).length) Slot.unset).toArray = ls at hl ⊢
  have hl : lv_has ls 5 [(0, .ref aX), (1, .int p0), (2, .int p1)] := hl
  have o_fsX := ow_0 k_fsX
  have o_fsT := ow_0 k_fsT
  have o_fsY := ow_0 k_fsY
  refine lv_iload_n hx hb dX11_type_0 rfl (lv_at hl 1 rfl) ?_
  refine lv_iconst (v := (-1)) hx hb dX11_type_1 (by decide) ?_
  refine lv_icmp_eq (tgt := 16) hx hb dX11_type_2 (by decide) (fun c959 => ?_) (fun c959 => ?_)
  · skip
    refine lv_iload_n hx hb dX11_type_16 rfl (lv_at hl 2 rfl) ?_
    refine lv_if_lt (tgt := 25) hx hb dX11_type_17 (by decide) (fun c960 => ?_) (fun c960 => ?_)
    · skip
      exact vx_throw0 (names := ["java/lang/RuntimeException", "java/lang/Exception"]) hx hb hst hown (by decide +kernel) (by decide +kernel) (hts (.classLink RX11 120 "java/lang/IndexOutOfBoundsException") (by decide +kernel)) (hts (.initialized "java/lang/IndexOutOfBoundsException") (by decide +kernel)) (vx_hat (B := xB "java/lang/IndexOutOfBoundsException") (fun w h => hts w (in_x_type_at0_X11_122 w h)) (by decide +kernel) (Zz_xB hZ (by decide))) (by decide +kernel) hZ.1 hZ.2.1 hS (hl.1.trans hml.symm) dX11_type_25 dX11_type_28 dX11_type_29 dX11_type_32 (fun x h => (htab x h).elim) (by decide) (Nat.le_of_ble_eq_true rfl) (Nat.le_of_ble_eq_true rfl) (Nat.le_of_ble_eq_true rfl) hlocks (fun t _ h1 h2 => ⟨(), trivial, (Or.inl ⟨rfl, c959, c960⟩), xx_F hS h1 h2⟩) hS.2.2 (by decide) (by decide)
    · skip
      refine lv_iload_n hx hb dX11_type_20 rfl (lv_at hl 2 rfl) ?_
      refine lv_iconst (v := 4) hx hb dX11_type_21 (by decide) ?_
      refine lv_icmp_lt (tgt := 33) hx hb dX11_type_22 (by decide) (fun c961 => ?_) (fun c961 => ?_)
      · skip
        refine lv_aload_n hx hb dX11_type_33 rfl (lv_at hl 0 rfl) ?_
        refine va_get (D := (dC, dI)) (ci := 14) (v := .ref aT) (C := RX11) (T := TX11) (N := 18) hx hb hts (in_x_type_X11) hown hK hP 0 rfl rfl 0 (by decide) (hts (.fieldLink RX11 12 "HeapWorks" "tape" "LHeapWorks$Tape;") (by decide +kernel)) (fun _ h9 => h9) (ow_at o_fsX 0 rfl) dX11_type_34 ?_
        have hPc := hP.sub (ws' := [(aT, .inr (12, fsT))]) [1] rfl
        have hDc := hD.sub (ws' := [(aT, .inr (12, fsT))]) [1] (by decide) rfl
        have hKc := hK.sub (tys' := []) [] rfl
        have hFc := va_free (wc := [(aT, .inr (12, fsT))]) hD hS hA [1] rfl
        refine va_calll (va_runV (As := []) (rest := []) ⟨hx, hb, hml, hown, hts⟩ (z_X9_wholeName l dC dI s.heap.size aT fsT (fh_sub o_fsT.2 [0] rfl) ) (cwV 0 hts g_x_type_z_X9_wholeName_123 rfl rfl rfl (by decide +kernel) ⟨Nat.le_of_ble_eq_true rfl, Nat.le_of_ble_eq_true rfl⟩) ⟨fun a U g mk q => by obtain ⟨q0, q1, qP, qK, qD⟩ := q; exact ⟨q0, q1, qP, va_K.moved (u := U) (U := U.calling g mk a) (Vm.Alike.refl U.vm) qK, qD⟩, va_recv hK hP (ci := 12) (q0 := 1) rfl rfl, fun U hU hW => ⟨rfl, by rw [hU], by rw [hU]; exact hPc, va_K.moved hW.alike hKc, hDc.weaken (fun _ _ _ _ => trivial)⟩⟩ rfl rfl hl.1 rfl (lv_room (Nat.le_of_ble_eq_true rfl)) dX11_type_37 ⟨Nat.le_of_ble_eq_true rfl, Nat.le_of_ble_eq_true rfl⟩) hS (fun q _ h => hFc q h) hFc (fun r971 u t H1 locs ht hvm hw hB hz1 hk1 hS => ?_)
        obtain ⟨s972, rfl⟩ : ∃ z, z = u := ⟨_, rfl⟩
        obtain ⟨hP1, hK1, hD1⟩ := hB
        rw [ht] at hP1
        try dsimp only at hw
        obtain ⟨hP, hD⟩ := va_join (wr := [(aX, .inr (14, fsX)), (aY, .inr (13, fsY))]) (w1 := [(aT, .inr (12, s972))]) hP hD [1] [0, 2] rfl rfl (by decide) (by decide) hk1 hFc hP1 hD1
        have hK := hK.sub (tys' := []) [] rfl
        generalize H1 = H at hP hS ⊢
        have hP : va_P (dC, dI) vwCl [(aX, .inr (14, fsX)), (aY, .inr (13, fsY)), (aT, .inr (12, s972))] H := hP
        have hD : va_D A [(aX, .inr (14, fsX)), (aY, .inr (13, fsY)), (aT, .inr (12, s972))] := hD
        obtain ⟨er973, o_s972⟩ := hw
        subst er973
        have o_s972 := ow_on o_fsT o_s972 (l' := [(9, .int 0), (11, .long 0), (10, .int 0), (4, .int 0), (1, .int 0), (4, .int 0), (1, .int 0), (1, .int 0)]) (w' := [9, 11, 10, 4]) rfl rfl
        refine lv_lstore_n (lv' := [(3, .long 0), (0, .ref aX), (1, .int p0), (2, .int p1)]) hx hb dX11_type_40 rfl hl (by decide) rfl (fun ls hl => ?_)
        refine lv_lload_n hx hb dX11_type_41 rfl (lv_at hl 0 rfl) ?_
        refine lv_lconst (v := 0) hx hb dX11_type_42 (by decide) ?_
        refine W.lcmp hx hb dX11_type_43  ?_
        refine lv_topi (fun x974 ex974 => ?_)
        obtain rfl : x974 = 0 := ex974.trans (by decide)
        refine lv_if_ne (tgt := 55) hx hb dX11_type_44 (by decide) (fun c975 => absurd c975 (by decide)) (fun c975 => ?_)
        exact vx_throw0 (names := ["java/lang/RuntimeException", "java/lang/Exception"]) hx hb hst hown (by decide +kernel) (by decide +kernel) (hts (.classLink RX11 127 "java/lang/IllegalArgumentException") (by decide +kernel)) (hts (.initialized "java/lang/IllegalArgumentException") (by decide +kernel)) (vx_hat (B := xB "java/lang/IllegalArgumentException") (fun w h => hts w (in_x_type_at0_X11_129 w h)) (by decide +kernel) (Zz_xB hZ (by decide))) (by decide +kernel) hZ.1 hZ.2.1 hS (hl.1.trans hml.symm) dX11_type_47 dX11_type_50 dX11_type_51 dX11_type_54 (fun x h => (htab x h).elim) (by decide) (Nat.le_of_ble_eq_true rfl) (Nat.le_of_ble_eq_true rfl) (Nat.le_of_ble_eq_true rfl) hlocks (fun t _ h1 h2 => ⟨(), trivial, (Or.inr (Or.inl ⟨rfl, c959, c960, c961⟩)), xx_F hS h1 h2⟩) hS.2.2 (by decide) (by decide)
      · skip
        exact vx_throw0 (names := ["java/lang/RuntimeException", "java/lang/Exception"]) hx hb hst hown (by decide +kernel) (by decide +kernel) (hts (.classLink RX11 120 "java/lang/IndexOutOfBoundsException") (by decide +kernel)) (hts (.initialized "java/lang/IndexOutOfBoundsException") (by decide +kernel)) (vx_hat (B := xB "java/lang/IndexOutOfBoundsException") (fun w h => hts w (in_x_type_at0_X11_122 w h)) (by decide +kernel) (Zz_xB hZ (by decide))) (by decide +kernel) hZ.1 hZ.2.1 hS (hl.1.trans hml.symm) dX11_type_25 dX11_type_28 dX11_type_29 dX11_type_32 (fun x h => (htab x h).elim) (by decide) (Nat.le_of_ble_eq_true rfl) (Nat.le_of_ble_eq_true rfl) (Nat.le_of_ble_eq_true rfl) hlocks (fun t _ h1 h2 => ⟨(), trivial, (Or.inr (Or.inr (Or.inl ⟨rfl, c959, c960, c961⟩))), xx_F hS h1 h2⟩) hS.2.2 (by decide) (by decide)
  · skip
    refine lv_aload_n hx hb dX11_type_5 rfl (lv_at hl 0 rfl) ?_
    refine va_get (D := (dC, dI)) (ci := 14) (v := .ref aY) (C := RX11) (T := TX11) (N := 18) hx hb hts (in_x_type_X11) hown hK hP 0 rfl rfl 1 (by decide) (hts (.fieldLink RX11 19 "HeapWorks" "types" "LHeapWorks$Types;") (by decide +kernel)) (fun _ h9 => h9) (ow_at o_fsX 1 rfl) dX11_type_6 ?_
    refine lv_iload_n hx hb dX11_type_9 rfl (lv_at hl 1 rfl) ?_
    have hPc := hP.sub (ws' := [(aY, .inr (13, fsY))]) [2] rfl
    have hDc := hD.sub (ws' := [(aY, .inr (13, fsY))]) [2] (by decide) rfl
    have hKc := hK.sub (tys' := []) [] rfl
    have hFc := va_free (wc := [(aY, .inr (13, fsY))]) hD hS hA [2] rfl
    refine va_calli (va_runV (As := [.int p0]) (rest := []) ⟨hx, hb, hml, hown, hts⟩ (z_X10_isClass l dC dI s.heap.size aY fsY p0 (fh_sub o_fsY.2 [0] rfl) ) (cwV 1 hts g_x_type_z_X10_isClass_116 rfl rfl rfl (by decide +kernel) ⟨Nat.le_of_ble_eq_true rfl, Nat.le_of_ble_eq_true rfl⟩) ⟨fun a U g mk q => by obtain ⟨q0, q1, qP, qK, qD⟩ := q; exact ⟨q0, q1, qP, va_K.moved (u := U) (U := U.calling g mk a) (Vm.Alike.refl U.vm) qK, qD⟩, va_recv hK hP (ci := 13) (q0 := 2) rfl rfl, fun U hU hW => ⟨rfl, by rw [hU], by rw [hU]; exact hPc, va_K.moved hW.alike hKc, hDc.weaken (fun _ _ _ _ => trivial)⟩⟩ rfl rfl hl.1 rfl (lv_room (Nat.le_of_ble_eq_true rfl)) dX11_type_10 ⟨Nat.le_of_ble_eq_true rfl, Nat.le_of_ble_eq_true rfl⟩) hS (fun q _ h => hFc q h) hFc (fun r978 u t H1 locs ht hvm hw hB hz1 hk1 hS => ?_)
    obtain ⟨hP1, hK1, hD1⟩ := hB
    rw [ht] at hP1
    try dsimp only at hw
    obtain ⟨hP, hD⟩ := va_join (wr := [(aX, .inr (14, fsX)), (aT, .inr (12, fsT))]) (w1 := [(aY, .inr (13, fsY))]) hP hD [2] [0, 1] rfl rfl (by decide) (by decide) hk1 hFc hP1 hD1
    have hK := hK.sub (tys' := []) [] rfl
    generalize H1 = H at hP hS ⊢
    have hP : va_P (dC, dI) vwCl [(aX, .inr (14, fsX)), (aT, .inr (12, fsT)), (aY, .inr (13, fsY))] H := hP
    have hD : va_D A [(aX, .inr (14, fsX)), (aT, .inr (12, fsT)), (aY, .inr (13, fsY))] := hD
    rcases hw with ⟨c979, er980⟩ | ⟨c981, c982, er983⟩
    · skip
      subst er980
      refine lv_if_eq (tgt := 25) hx hb dX11_type_13 (by decide) (fun c984 => ?_) (fun c984 => absurd c984 (by decide))
      exact vx_throw0 (names := ["java/lang/RuntimeException", "java/lang/Exception"]) hx hb hst hown (by decide +kernel) (by decide +kernel) (hts (.classLink RX11 120 "java/lang/IndexOutOfBoundsException") (by decide +kernel)) (hts (.initialized "java/lang/IndexOutOfBoundsException") (by decide +kernel)) (vx_hat (B := xB "java/lang/IndexOutOfBoundsException") (fun w h => hts w (in_x_type_at0_X11_122 w h)) (by decide +kernel) (Zz_xB hZ (by decide))) (by decide +kernel) hZ.1 hZ.2.1 hS (hl.1.trans hml.symm) dX11_type_25 dX11_type_28 dX11_type_29 dX11_type_32 (fun x h => (htab x h).elim) (by decide) (Nat.le_of_ble_eq_true rfl) (Nat.le_of_ble_eq_true rfl) (Nat.le_of_ble_eq_true rfl) hlocks (fun t _ h1 h2 => ⟨(), trivial, (Or.inr (Or.inr (Or.inr (Or.inl ⟨rfl, c959, c979⟩)))), xx_F hS h1 h2⟩) hS.2.2 (by decide) (by decide)
    · skip
      subst er983
      refine lv_if_eq (tgt := 25) hx hb dX11_type_13 (by decide) (fun c985 => ?_) (fun c985 => absurd c985 (by decide))
      exact vx_throw0 (names := ["java/lang/RuntimeException", "java/lang/Exception"]) hx hb hst hown (by decide +kernel) (by decide +kernel) (hts (.classLink RX11 120 "java/lang/IndexOutOfBoundsException") (by decide +kernel)) (hts (.initialized "java/lang/IndexOutOfBoundsException") (by decide +kernel)) (vx_hat (B := xB "java/lang/IndexOutOfBoundsException") (fun w h => hts w (in_x_type_at0_X11_122 w h)) (by decide +kernel) (Zz_xB hZ (by decide))) (by decide +kernel) hZ.1 hZ.2.1 hS (hl.1.trans hml.symm) dX11_type_25 dX11_type_28 dX11_type_29 dX11_type_32 (fun x h => (htab x h).elim) (by decide) (Nat.le_of_ble_eq_true rfl) (Nat.le_of_ble_eq_true rfl) (Nat.le_of_ble_eq_true rfl) hlocks (fun t _ h1 h2 => ⟨(), trivial, (Or.inr (Or.inr (Or.inr (Or.inr (⟨rfl, c959, c981, c982⟩))))), xx_F hS h1 h2⟩) hS.2.2 (by decide) (by decide)

def l_x_field : List Cond := [.fieldLink RX11 19 "HeapWorks" "types" "LHeapWorks$Types;", .methodLink RX11 116 yX10_isClass, .instanceMethod yX10_isClass, .selects RX10 yX10_isClass yX10_isClass, .initialized RX10, .classLink RX11 120 "java/lang/IndexOutOfBoundsException", .initialized "java/lang/IndexOutOfBoundsException", .code yX10_isClass cX10_isClass 2 (some .boolean), .fieldLink RX10 65 "HeapWorks$Types" "count" "I"]
def w_x_field : List Cond := .code yX11_field cX11_field 8 (some .int) :: (l_x_field ++ ((wsX110 ++ (((vx_at0 RX11 122 "java/lang/IndexOutOfBoundsException" ["java/lang/RuntimeException", "java/lang/Exception"]).filter goodWord) ++ wsX100))))
theorem in_x_field_X11 : ∀ w ∈ wsX110, w ∈ w_x_field := fun w h => List.mem_cons_of_mem _ (List.mem_append_right _ (List.mem_append_left _ h))
theorem in_x_field_at0_X11_122 : ∀ w ∈ ((vx_at0 RX11 122 "java/lang/IndexOutOfBoundsException" ["java/lang/RuntimeException", "java/lang/Exception"]).filter goodWord), w ∈ w_x_field := fun w h => List.mem_cons_of_mem _ (List.mem_append_right _ (List.mem_append_right _ (List.mem_append_left _ h)))
theorem in_x_field_X10 : ∀ w ∈ wsX100, w ∈ w_x_field := fun w h => List.mem_cons_of_mem _ (List.mem_append_right _ (List.mem_append_right _ (List.mem_append_right _ (h))))
theorem g_x_field_z_X10_isClass_116 : GoodIn w_x_field (wsV RX11 116 RX10 yX10_isClass w_z_X10_isClass) := goodIn_app (goodIn_sub (by decide +kernel) (by decide +kernel)) (goodIn_ca (goodIn_sub (by decide +kernel) (by decide +kernel)) (goodIn_in in_x_field_X10 gd_X10))
set_option maxHeartbeats 4000000 in
set_option maxRecDepth 100000 in
theorem x_field (l : Launch) (dC : Nat → ClassId) (dI : Nat → Nat → Nat) (sz : Nat) (aX : Nat) (fsX : List Value) (aY : Nat) (fsY : List Value) (p0 : Int32) (p1 : Int32) (p2 : Int32) (p3 : Int32) (k_fsX : fh fsX 18 [(1, .ref aY)]) (k_fsY : fh fsY 18 [(0, .int 0)]) (hst : l.stackTraces = false)  : vx_Met l yX11_field w_x_field ({ frames := 7, cells := 1, slots := 6, locals := 140 }) (va_Pc [.ref aX, .int p0, .int p1, .int p2, .int p3] (fun U => U.heap.size = sz ∧ Zz (va_A [(aX, .inr (14, fsX)), (aY, .inr (13, fsY))] sz) U ∧ Wd dC dI [] (fun _ => True) [(aX, .inr (14, fsX)), (aY, .inr (13, fsY))] U)) (va_Qi (fun (r : Int32) (u : Unit) => False) (fun (u : Unit) t => Wd dC dI [] (va_A [(aX, .inr (14, fsX)), (aY, .inr (13, fsY))] sz) [(aX, .inr (14, fsX)), (aY, .inr (13, fsY))] t) (va_A [(aX, .inr (14, fsX)), (aY, .inr (13, fsY))] sz)) (vx_X (fun _ : Unit => True) (fun E _ _ => (E = "java/lang/IndexOutOfBoundsException" ∧ p0 < 0) ∨ (E = "java/lang/IndexOutOfBoundsException" ∧ ¬ p0 < 0 ∧ 0 ≤ p0)) (va_A [(aX, .inr (14, fsX)), (aY, .inr (13, fsY))] sz)) 1 6 (va_A [(aX, .inr (14, fsX)), (aY, .inr (13, fsY))] sz) := by
  refine vx_ofW (cc := cX11_field) (maxL := 8) (ret := (some .int)) (by decide) rfl ?_
  intro p e s m args below meth c s₁ B hml htab hv
  obtain ⟨rfl, hsz, hZ, hP, hK, hD0⟩ := hv
  have hx := B.exec
  have hb := B.bytes
  have hr := B.returns
  have hts := atoms_spec (ws := w_x_field) B.pre
  have hown : s.vm.findClass RX11 = some m.cls := findClass_of_methodNamed B.named
  have hlocks := B.notSynchronized
  subst hsz
  have hD := hD0.self (sz := s.heap.size)
  generalize hAe : va_A [(aX, .inr (14, fsX)), (aY, .inr (13, fsY))] s.heap.size = A at hD hZ ⊢
  have hA : ∀ q : Nat, s.heap.size ≤ q → A q := fun q h => by rw [← hAe]; exact Or.inr h
  have hS : va_S A s.heap s.heap [] := va_S.rf
  have hl := lv_entry ([.ref aX, .int p0, .int p1, .int p2, .int p3]) (n := 8) (Nat.le_of_ble_eq_true rfl)
  rw [lg_entry_eq]
  generalize (lg_sl ([.ref aX, .int p0, .int p1, .int p2, .int p3]) ++ List.replicate (8 - (lg_sl ([.ref aX, .int p0, .int p1, .int p2, .int p3])).length) Slot.unset).toArray = ls at hl ⊢
  have hl : lv_has ls 8 [(0, .ref aX), (1, .int p0), (2, .int p1), (3, .int p2), (4, .int p3)] := hl
  have o_fsX := ow_0 k_fsX
  have o_fsY := ow_0 k_fsY
  refine lv_aload_n hx hb dX11_field_0 rfl (lv_at hl 0 rfl) ?_
  refine va_get (D := (dC, dI)) (ci := 14) (v := .ref aY) (C := RX11) (T := TX11) (N := 18) hx hb hts (in_x_field_X11) hown hK hP 0 rfl rfl 1 (by decide) (hts (.fieldLink RX11 19 "HeapWorks" "types" "LHeapWorks$Types;") (by decide +kernel)) (fun _ h9 => h9) (ow_at o_fsX 0 rfl) dX11_field_1 ?_
  refine lv_iload_n hx hb dX11_field_4 rfl (lv_at hl 1 rfl) ?_
  have hPc := hP.sub (ws' := [(aY, .inr (13, fsY))]) [1] rfl
  have hDc := hD.sub (ws' := [(aY, .inr (13, fsY))]) [1] (by decide) rfl
  have hKc := hK.sub (tys' := []) [] rfl
  have hFc := va_free (wc := [(aY, .inr (13, fsY))]) hD hS hA [1] rfl
  refine va_calli (va_runV (As := [.int p0]) (rest := []) ⟨hx, hb, hml, hown, hts⟩ (z_X10_isClass l dC dI s.heap.size aY fsY p0 (fh_sub o_fsY.2 [0] rfl) ) (cwV 1 hts g_x_field_z_X10_isClass_116 rfl rfl rfl (by decide +kernel) ⟨Nat.le_of_ble_eq_true rfl, Nat.le_of_ble_eq_true rfl⟩) ⟨fun a U g mk q => by obtain ⟨q0, q1, qP, qK, qD⟩ := q; exact ⟨q0, q1, qP, va_K.moved (u := U) (U := U.calling g mk a) (Vm.Alike.refl U.vm) qK, qD⟩, va_recv hK hP (ci := 13) (q0 := 1) rfl rfl, fun U hU hW => ⟨rfl, by rw [hU], by rw [hU]; exact hPc, va_K.moved hW.alike hKc, hDc.weaken (fun _ _ _ _ => trivial)⟩⟩ rfl rfl hl.1 rfl (lv_room (Nat.le_of_ble_eq_true rfl)) dX11_field_5 ⟨Nat.le_of_ble_eq_true rfl, Nat.le_of_ble_eq_true rfl⟩) hS (fun q _ h => hFc q h) hFc (fun r998 u t H1 locs ht hvm hw hB hz1 hk1 hS => ?_)
  obtain ⟨hP1, hK1, hD1⟩ := hB
  rw [ht] at hP1
  try dsimp only at hw
  obtain ⟨hP, hD⟩ := va_join (wr := [(aX, .inr (14, fsX))]) (w1 := [(aY, .inr (13, fsY))]) hP hD [1] [0] rfl rfl (by decide) (by decide) hk1 hFc hP1 hD1
  have hK := hK.sub (tys' := []) [] rfl
  generalize H1 = H at hP hS ⊢
  have hP : va_P (dC, dI) vwCl [(aX, .inr (14, fsX)), (aY, .inr (13, fsY))] H := hP
  have hD : va_D A [(aX, .inr (14, fsX)), (aY, .inr (13, fsY))] := hD
  rcases hw with ⟨c999, er1000⟩ | ⟨c1001, c1002, er1003⟩
  · skip
    subst er1000
    refine lv_if_ne (tgt := 19) hx hb dX11_field_8 (by decide) (fun c1004 => absurd c1004 (by decide)) (fun c1004 => ?_)
    exact vx_throw0 (names := ["java/lang/RuntimeException", "java/lang/Exception"]) hx hb hst hown (by decide +kernel) (by decide +kernel) (hts (.classLink RX11 120 "java/lang/IndexOutOfBoundsException") (by decide +kernel)) (hts (.initialized "java/lang/IndexOutOfBoundsException") (by decide +kernel)) (vx_hat (B := xB "java/lang/IndexOutOfBoundsException") (fun w h => hts w (in_x_field_at0_X11_122 w h)) (by decide +kernel) (Zz_xB hZ (by decide))) (by decide +kernel) hZ.1 hZ.2.1 hS (hl.1.trans hml.symm) dX11_field_11 dX11_field_14 dX11_field_15 dX11_field_18 (fun x h => (htab x h).elim) (by decide) (Nat.le_of_ble_eq_true rfl) (Nat.le_of_ble_eq_true rfl) (Nat.le_of_ble_eq_true rfl) hlocks (fun t _ h1 h2 => ⟨(), trivial, (Or.inl ⟨rfl, c999⟩), xx_F hS h1 h2⟩) hS.2.2 (by decide) (by decide)
  · skip
    subst er1003
    refine lv_if_ne (tgt := 19) hx hb dX11_field_8 (by decide) (fun c1005 => absurd c1005 (by decide)) (fun c1005 => ?_)
    exact vx_throw0 (names := ["java/lang/RuntimeException", "java/lang/Exception"]) hx hb hst hown (by decide +kernel) (by decide +kernel) (hts (.classLink RX11 120 "java/lang/IndexOutOfBoundsException") (by decide +kernel)) (hts (.initialized "java/lang/IndexOutOfBoundsException") (by decide +kernel)) (vx_hat (B := xB "java/lang/IndexOutOfBoundsException") (fun w h => hts w (in_x_field_at0_X11_122 w h)) (by decide +kernel) (Zz_xB hZ (by decide))) (by decide +kernel) hZ.1 hZ.2.1 hS (hl.1.trans hml.symm) dX11_field_11 dX11_field_14 dX11_field_15 dX11_field_18 (fun x h => (htab x h).elim) (by decide) (Nat.le_of_ble_eq_true rfl) (Nat.le_of_ble_eq_true rfl) (Nat.le_of_ble_eq_true rfl) hlocks (fun t _ h1 h2 => ⟨(), trivial, (Or.inr (⟨rfl, c1001, c1002⟩)), xx_F hS h1 h2⟩) hS.2.2 (by decide) (by decide)

def l_x_typeLook : List Cond := [.fieldLink RX11 19 "HeapWorks" "types" "LHeapWorks$Types;", .methodLink RX11 116 yX10_isClass, .instanceMethod yX10_isClass, .selects RX10 yX10_isClass yX10_isClass, .initialized RX10, .code yX10_isClass cX10_isClass 2 (some .boolean), .fieldLink RX10 65 "HeapWorks$Types" "count" "I"]
def w_x_typeLook : List Cond := .code yX11_typeLook cX11_typeLook 3 (some .int) :: (l_x_typeLook ++ ((wsX110 ++ wsX100)))
theorem in_x_typeLook_X11 : ∀ w ∈ wsX110, w ∈ w_x_typeLook := fun w h => List.mem_cons_of_mem _ (List.mem_append_right _ (List.mem_append_left _ h))
theorem in_x_typeLook_X10 : ∀ w ∈ wsX100, w ∈ w_x_typeLook := fun w h => List.mem_cons_of_mem _ (List.mem_append_right _ (List.mem_append_right _ (h)))
theorem g_x_typeLook_z_X10_isClass_116 : GoodIn w_x_typeLook (wsV RX11 116 RX10 yX10_isClass w_z_X10_isClass) := goodIn_app (goodIn_sub (by decide +kernel) (by decide +kernel)) (goodIn_ca (goodIn_sub (by decide +kernel) (by decide +kernel)) (goodIn_in in_x_typeLook_X10 gd_X10))
set_option maxHeartbeats 4000000 in
set_option maxRecDepth 100000 in
theorem x_typeLook (l : Launch) (dC : Nat → ClassId) (dI : Nat → Nat → Nat) (sz : Nat) (aX : Nat) (fsX : List Value) (aY : Nat) (fsY : List Value) (p0 : Int32) (p1 : Int32) (k_fsX : fh fsX 18 [(1, .ref aY)]) (k_fsY : fh fsY 18 [(0, .int 0)])  : Met l yX11_typeLook w_x_typeLook ({ frames := 1, cells := 0, slots := 0, locals := 21 }) (va_Pc [.ref aX, .int p0, .int p1] (fun U => U.heap.size = sz ∧ Wd dC dI [] (fun _ => True) [(aX, .inr (14, fsX)), (aY, .inr (13, fsY))] U)) (va_Qi (fun (r : Int32) (u : Unit) => (p0 < 0 ∧ r = (-1)) ∨ (¬ p0 < 0 ∧ 0 ≤ p0 ∧ r = (-1))) (fun (u : Unit) t => Wd dC dI [] (va_A [(aX, .inr (14, fsX)), (aY, .inr (13, fsY))] sz) [(aX, .inr (14, fsX)), (aY, .inr (13, fsY))] t) (va_A [(aX, .inr (14, fsX)), (aY, .inr (13, fsY))] sz))  0 0 (va_A [(aX, .inr (14, fsX)), (aY, .inr (13, fsY))] sz) := by
  refine Met.ofW (cc := cX11_typeLook) (maxL := 3) (ret := (some .int)) (by decide) rfl ?_
  intro p e s m args below meth c s₁ B hml hv
  obtain ⟨rfl, hsz, hP, hK, hD0⟩ := hv
  have hx := B.exec
  have hb := B.bytes
  have hr := B.returns
  have hts := atoms_spec (ws := w_x_typeLook) B.pre
  have hown : s.vm.findClass RX11 = some m.cls := findClass_of_methodNamed B.named
  have hlocks := B.notSynchronized
  subst hsz
  have hD := hD0.self (sz := s.heap.size)
  generalize hAe : va_A [(aX, .inr (14, fsX)), (aY, .inr (13, fsY))] s.heap.size = A at hD ⊢
  have hA : ∀ q : Nat, s.heap.size ≤ q → A q := fun q h => by rw [← hAe]; exact Or.inr h
  have hS : va_S A s.heap s.heap [] := va_S.rf
  have hl := lv_entry ([.ref aX, .int p0, .int p1]) (n := 3) (Nat.le_of_ble_eq_true rfl)
  rw [lg_entry_eq]
  generalize (lg_sl ([.ref aX, .int p0, .int p1]) ++ List.replicate (3 - (lg_sl ([.ref aX, .int p0, .int p1])).length) Slot.unset).toArray = ls at hl ⊢
  have hl : lv_has ls 3 [(0, .ref aX), (1, .int p0), (2, .int p1)] := hl
  have o_fsX := ow_0 k_fsX
  have o_fsY := ow_0 k_fsY
  refine lv_aload_n hx hb dX11_typeLook_0 rfl (lv_at hl 0 rfl) ?_
  refine va_get (D := (dC, dI)) (ci := 14) (v := .ref aY) (C := RX11) (T := TX11) (N := 18) hx hb hts (in_x_typeLook_X11) hown hK hP 0 rfl rfl 1 (by decide) (hts (.fieldLink RX11 19 "HeapWorks" "types" "LHeapWorks$Types;") (by decide +kernel)) (fun _ h9 => h9) (ow_at o_fsX 0 rfl) dX11_typeLook_1 ?_
  refine lv_iload_n hx hb dX11_typeLook_4 rfl (lv_at hl 1 rfl) ?_
  have hPc := hP.sub (ws' := [(aY, .inr (13, fsY))]) [1] rfl
  have hDc := hD.sub (ws' := [(aY, .inr (13, fsY))]) [1] (by decide) rfl
  have hKc := hK.sub (tys' := []) [] rfl
  have hFc := va_free (wc := [(aY, .inr (13, fsY))]) hD hS hA [1] rfl
  refine va_calli (va_runV (As := [.int p0]) (rest := []) ⟨hx, hb, hml, hown, hts⟩ (z_X10_isClass l dC dI s.heap.size aY fsY p0 (fh_sub o_fsY.2 [0] rfl) ) (cwV 1 hts g_x_typeLook_z_X10_isClass_116 rfl rfl rfl (by decide +kernel) ⟨Nat.le_of_ble_eq_true rfl, Nat.le_of_ble_eq_true rfl⟩) ⟨fun a U g mk q => by obtain ⟨q0, q1, qP, qK, qD⟩ := q; exact ⟨q0, q1, qP, va_K.moved (u := U) (U := U.calling g mk a) (Vm.Alike.refl U.vm) qK, qD⟩, va_recv hK hP (ci := 13) (q0 := 1) rfl rfl, fun U hU hW => ⟨rfl, by rw [hU], by rw [hU]; exact hPc, va_K.moved hW.alike hKc, hDc.weaken (fun _ _ _ _ => trivial)⟩⟩ rfl rfl hl.1 rfl (lv_room (Nat.le_of_ble_eq_true rfl)) dX11_typeLook_5 ⟨Nat.le_of_ble_eq_true rfl, Nat.le_of_ble_eq_true rfl⟩) hS (fun q _ h => hFc q h) hFc (fun r1018 u t H1 locs ht hvm hw hB hz1 hk1 hS => ?_)
  obtain ⟨hP1, hK1, hD1⟩ := hB
  rw [ht] at hP1
  try dsimp only at hw
  obtain ⟨hP, hD⟩ := va_join (wr := [(aX, .inr (14, fsX))]) (w1 := [(aY, .inr (13, fsY))]) hP hD [1] [0] rfl rfl (by decide) (by decide) hk1 hFc hP1 hD1
  have hK := hK.sub (tys' := []) [] rfl
  generalize H1 = H at hP hS ⊢
  have hP : va_P (dC, dI) vwCl [(aX, .inr (14, fsX)), (aY, .inr (13, fsY))] H := hP
  have hD : va_D A [(aX, .inr (14, fsX)), (aY, .inr (13, fsY))] := hD
  rcases hw with ⟨c1019, er1020⟩ | ⟨c1021, c1022, er1023⟩
  · skip
    subst er1020
    refine lv_if_ne (tgt := 13) hx hb dX11_typeLook_8 (by decide) (fun c1024 => absurd c1024 (by decide)) (fun c1024 => ?_)
    refine lv_iconst (v := (-1)) hx hb dX11_typeLook_11 (by decide) ?_
    have hP9 := hP.sub (ws' := [(aX, .inr (14, fsX)), (aY, .inr (13, fsY))]) [0, 1] rfl
    have hD9 := hD.sub (ws' := [(aX, .inr (14, fsX)), (aY, .inr (13, fsY))]) [0, 1] (by decide) rfl
    have hK9 := hK.sub (tys' := []) [] rfl
    exact W.iret (v := (-1)) hx hb hr (fun t ht hW => ⟨⟨(-1), (), rfl, (Or.inl ⟨c1019, rfl⟩), by rw [ht]; exact hP9, va_K.moved hW.alike hK9, hD9⟩, hS.F ht⟩) hS.2.2 dX11_typeLook_12
  · skip
    subst er1023
    refine lv_if_ne (tgt := 13) hx hb dX11_typeLook_8 (by decide) (fun c1025 => absurd c1025 (by decide)) (fun c1025 => ?_)
    refine lv_iconst (v := (-1)) hx hb dX11_typeLook_11 (by decide) ?_
    have hP9 := hP.sub (ws' := [(aX, .inr (14, fsX)), (aY, .inr (13, fsY))]) [0, 1] rfl
    have hD9 := hD.sub (ws' := [(aX, .inr (14, fsX)), (aY, .inr (13, fsY))]) [0, 1] (by decide) rfl
    have hK9 := hK.sub (tys' := []) [] rfl
    exact W.iret (v := (-1)) hx hb hr (fun t ht hW => ⟨⟨(-1), (), rfl, (Or.inr (⟨c1021, c1022, rfl⟩)), by rw [ht]; exact hP9, va_K.moved hW.alike hK9, hD9⟩, hS.F ht⟩) hS.2.2 dX11_typeLook_12

def l_z_X10_hasField_ : List Cond := [.methodLink RX10 69 yX10_isClass, .instanceMethod yX10_isClass, .selects RX10 yX10_isClass yX10_isClass, .initialized RX10, .code yX10_isClass cX10_isClass 2 (some .boolean), .fieldLink RX10 65 "HeapWorks$Types" "count" "I"]
def w_z_X10_hasField_ : List Cond := .code yX10_hasField_ cX10_hasField_ 3 (some .boolean) :: (l_z_X10_hasField_ ++ (wsX100))
theorem in_z_X10_hasField__X10 : ∀ w ∈ wsX100, w ∈ w_z_X10_hasField_ := fun w h => List.mem_cons_of_mem _ (List.mem_append_right _ (h))
theorem g_z_X10_hasField__z_X10_isClass_69 : GoodIn w_z_X10_hasField_ (wsV RX10 69 RX10 yX10_isClass w_z_X10_isClass) := goodIn_app (goodIn_sub (by decide +kernel) (by decide +kernel)) (goodIn_ca (goodIn_sub (by decide +kernel) (by decide +kernel)) (goodIn_in in_z_X10_hasField__X10 gd_X10))
set_option maxHeartbeats 4000000 in
set_option maxRecDepth 100000 in
theorem z_X10_hasField_ (l : Launch) (dC : Nat → ClassId) (dI : Nat → Nat → Nat) (sz : Nat) (Ad0 : Nat) (Fs0 : List Value) (Va0 : Int32) (Va1 : Int32) (k_Fs0 : fh Fs0 18 [(0, .int 0)])  : Met l yX10_hasField_ w_z_X10_hasField_ ({ frames := 1, cells := 0, slots := 0, locals := 21 }) (va_Pc [.ref Ad0, .int Va0, .int Va1] (fun U => U.heap.size = sz ∧ Wd dC dI [] (fun _ => True) [(Ad0, .inr (13, Fs0))] U)) (va_Qi (fun (r : Int32) (u : Unit) => (Va0 < 0 ∧ r = 0) ∨ (¬ Va0 < 0 ∧ 0 ≤ Va0 ∧ r = 0)) (fun (u : Unit) t => Wd dC dI [] (va_A [(Ad0, .inr (13, Fs0))] sz) [(Ad0, .inr (13, Fs0))] t) (va_A [(Ad0, .inr (13, Fs0))] sz))  0 0 (va_A [(Ad0, .inr (13, Fs0))] sz) := by
  refine Met.ofW (cc := cX10_hasField_) (maxL := 3) (ret := (some .boolean)) (by decide) rfl ?_
  intro p e s m args below meth c s₁ B hml hv
  obtain ⟨rfl, hsz, hP, hK, hD0⟩ := hv
  have hx := B.exec
  have hb := B.bytes
  have hr := B.returns
  have hts := atoms_spec (ws := w_z_X10_hasField_) B.pre
  have hown : s.vm.findClass RX10 = some m.cls := findClass_of_methodNamed B.named
  have hlocks := B.notSynchronized
  subst hsz
  have hD := hD0.self (sz := s.heap.size)
  generalize hAe : va_A [(Ad0, .inr (13, Fs0))] s.heap.size = A at hD ⊢
  have hA : ∀ q : Nat, s.heap.size ≤ q → A q := fun q h => by rw [← hAe]; exact Or.inr h
  have hS : va_S A s.heap s.heap [] := va_S.rf
  have hl := lv_entry ([.ref Ad0, .int Va0, .int Va1]) (n := 3) (Nat.le_of_ble_eq_true rfl)
  rw [lg_entry_eq]
  generalize (lg_sl ([.ref Ad0, .int Va0, .int Va1]) ++ List.replicate (3 - (lg_sl ([.ref Ad0, .int Va0, .int Va1])).length) Slot.unset).toArray = ls at hl ⊢
  have hl : lv_has ls 3 [(0, .ref Ad0), (1, .int Va0), (2, .int Va1)] := hl
  have o_Fs0 := ow_0 k_Fs0
  refine lv_aload_n hx hb dX10_hasField__0 rfl (lv_at hl 0 rfl) ?_
  refine lv_iload_n hx hb dX10_hasField__1 rfl (lv_at hl 1 rfl) ?_
  have hPc := hP.sub (ws' := [(Ad0, .inr (13, Fs0))]) [0] rfl
  have hDc := hD.sub (ws' := [(Ad0, .inr (13, Fs0))]) [0] (by decide) rfl
  have hKc := hK.sub (tys' := []) [] rfl
  have hFc := va_free (wc := [(Ad0, .inr (13, Fs0))]) hD hS hA [0] rfl
  refine va_calli (va_runV (As := [.int Va0]) (rest := []) ⟨hx, hb, hml, hown, hts⟩ (z_X10_isClass l dC dI s.heap.size Ad0 Fs0 Va0 (fh_sub o_Fs0.2 [0] rfl) ) (cwV 1 hts g_z_X10_hasField__z_X10_isClass_69 rfl rfl rfl (by decide +kernel) ⟨Nat.le_of_ble_eq_true rfl, Nat.le_of_ble_eq_true rfl⟩) ⟨fun a U g mk q => by obtain ⟨q0, q1, qP, qK, qD⟩ := q; exact ⟨q0, q1, qP, va_K.moved (u := U) (U := U.calling g mk a) (Vm.Alike.refl U.vm) qK, qD⟩, va_recv hK hP (ci := 13) (q0 := 0) rfl rfl, fun U hU hW => ⟨rfl, by rw [hU], by rw [hU]; exact hPc, va_K.moved hW.alike hKc, hDc.weaken (fun _ _ _ _ => trivial)⟩⟩ rfl rfl hl.1 rfl (lv_room (Nat.le_of_ble_eq_true rfl)) dX10_hasField__2 ⟨Nat.le_of_ble_eq_true rfl, Nat.le_of_ble_eq_true rfl⟩) hS (fun q _ h => hFc q h) hFc (fun r1038 u t H1 locs ht hvm hw hB hz1 hk1 hS => ?_)
  obtain ⟨hP1, hK1, hD1⟩ := hB
  rw [ht] at hP1
  try dsimp only at hw
  obtain ⟨hP, hD⟩ := va_join (wr := []) (w1 := [(Ad0, .inr (13, Fs0))]) hP hD [0] [] rfl rfl (by decide) (by decide) hk1 hFc hP1 hD1
  have hK := hK.sub (tys' := []) [] rfl
  generalize H1 = H at hP hS ⊢
  have hP : va_P (dC, dI) vwCl [(Ad0, .inr (13, Fs0))] H := hP
  have hD : va_D A [(Ad0, .inr (13, Fs0))] := hD
  rcases hw with ⟨c1039, er1040⟩ | ⟨c1041, c1042, er1043⟩
  · skip
    subst er1040
    refine lv_if_eq (tgt := 26) hx hb dX10_hasField__5 (by decide) (fun c1044 => ?_) (fun c1044 => absurd c1044 (by decide))
    refine lv_iconst (v := 0) hx hb dX10_hasField__26 (by decide) ?_
    have hP9 := hP.sub (ws' := [(Ad0, .inr (13, Fs0))]) [0] rfl
    have hD9 := hD.sub (ws' := [(Ad0, .inr (13, Fs0))]) [0] (by decide) rfl
    have hK9 := hK.sub (tys' := []) [] rfl
    exact W.zret (v := 0) hx hb hr rfl (fun t ht hW => ⟨⟨0, (), rfl, (Or.inl ⟨c1039, rfl⟩), by rw [ht]; exact hP9, va_K.moved hW.alike hK9, hD9⟩, hS.F ht⟩) hS.2.2 dX10_hasField__27
  · skip
    subst er1043
    refine lv_if_eq (tgt := 26) hx hb dX10_hasField__5 (by decide) (fun c1045 => ?_) (fun c1045 => absurd c1045 (by decide))
    refine lv_iconst (v := 0) hx hb dX10_hasField__26 (by decide) ?_
    have hP9 := hP.sub (ws' := [(Ad0, .inr (13, Fs0))]) [0] rfl
    have hD9 := hD.sub (ws' := [(Ad0, .inr (13, Fs0))]) [0] (by decide) rfl
    have hK9 := hK.sub (tys' := []) [] rfl
    exact W.zret (v := 0) hx hb hr rfl (fun t ht hW => ⟨⟨0, (), rfl, (Or.inr (⟨c1041, c1042, rfl⟩)), by rw [ht]; exact hP9, va_K.moved hW.alike hK9, hD9⟩, hS.F ht⟩) hS.2.2 dX10_hasField__27

def l_x_fieldLook : List Cond := [.fieldLink RX11 19 "HeapWorks" "types" "LHeapWorks$Types;", .methodLink RX11 188 yX10_hasField_, .instanceMethod yX10_hasField_, .selects RX10 yX10_hasField_ yX10_hasField_, .initialized RX10, .code yX10_hasField_ cX10_hasField_ 3 (some .boolean), .methodLink RX10 69 yX10_isClass, .instanceMethod yX10_isClass, .selects RX10 yX10_isClass yX10_isClass, .code yX10_isClass cX10_isClass 2 (some .boolean), .fieldLink RX10 65 "HeapWorks$Types" "count" "I"]
def w_x_fieldLook : List Cond := .code yX11_fieldLook cX11_fieldLook 5 (some .int) :: (l_x_fieldLook ++ ((wsX110 ++ wsX100)))
theorem in_x_fieldLook_X11 : ∀ w ∈ wsX110, w ∈ w_x_fieldLook := fun w h => List.mem_cons_of_mem _ (List.mem_append_right _ (List.mem_append_left _ h))
theorem in_x_fieldLook_X10 : ∀ w ∈ wsX100, w ∈ w_x_fieldLook := fun w h => List.mem_cons_of_mem _ (List.mem_append_right _ (List.mem_append_right _ (h)))
theorem g_x_fieldLook_z_X10_hasField__188 : GoodIn w_x_fieldLook (wsV RX11 188 RX10 yX10_hasField_ w_z_X10_hasField_) := goodIn_app (goodIn_sub (by decide +kernel) (by decide +kernel)) (goodIn_ca (goodIn_sub (by decide +kernel) (by decide +kernel)) (goodIn_in in_x_fieldLook_X10 gd_X10))
set_option maxHeartbeats 4000000 in
set_option maxRecDepth 100000 in
theorem x_fieldLook (l : Launch) (dC : Nat → ClassId) (dI : Nat → Nat → Nat) (sz : Nat) (aX : Nat) (fsX : List Value) (aY : Nat) (fsY : List Value) (p0 : Int32) (p1 : Int32) (p2 : Int32) (k_fsX : fh fsX 18 [(1, .ref aY)]) (k_fsY : fh fsY 18 [(0, .int 0)])  : Met l yX11_fieldLook w_x_fieldLook ({ frames := 2, cells := 0, slots := 0, locals := 43 }) (va_Pc [.ref aX, .int p0, .int p1, .int p2] (fun U => U.heap.size = sz ∧ Wd dC dI [] (fun _ => True) [(aX, .inr (14, fsX)), (aY, .inr (13, fsY))] U)) (va_Qi (fun (r : Int32) (u : Unit) => (p0 < 0 ∧ r = (-1)) ∨ (¬ p0 < 0 ∧ 0 ≤ p0 ∧ r = (-1))) (fun (u : Unit) t => Wd dC dI [] (va_A [(aX, .inr (14, fsX)), (aY, .inr (13, fsY))] sz) [(aX, .inr (14, fsX)), (aY, .inr (13, fsY))] t) (va_A [(aX, .inr (14, fsX)), (aY, .inr (13, fsY))] sz))  0 0 (va_A [(aX, .inr (14, fsX)), (aY, .inr (13, fsY))] sz) := by
  refine Met.ofW (cc := cX11_fieldLook) (maxL := 5) (ret := (some .int)) (by decide) rfl ?_
  intro p e s m args below meth c s₁ B hml hv
  obtain ⟨rfl, hsz, hP, hK, hD0⟩ := hv
  have hx := B.exec
  have hb := B.bytes
  have hr := B.returns
  have hts := atoms_spec (ws := w_x_fieldLook) B.pre
  have hown : s.vm.findClass RX11 = some m.cls := findClass_of_methodNamed B.named
  have hlocks := B.notSynchronized
  subst hsz
  have hD := hD0.self (sz := s.heap.size)
  generalize hAe : va_A [(aX, .inr (14, fsX)), (aY, .inr (13, fsY))] s.heap.size = A at hD ⊢
  have hA : ∀ q : Nat, s.heap.size ≤ q → A q := fun q h => by rw [← hAe]; exact Or.inr h
  have hS : va_S A s.heap s.heap [] := va_S.rf
  have hl := lv_entry ([.ref aX, .int p0, .int p1, .int p2]) (n := 5) (Nat.le_of_ble_eq_true rfl)
  rw [lg_entry_eq]
  generalize (lg_sl ([.ref aX, .int p0, .int p1, .int p2]) ++ List.replicate (5 - (lg_sl ([.ref aX, .int p0, .int p1, .int p2])).length) Slot.unset).toArray = ls at hl ⊢
  have hl : lv_has ls 5 [(0, .ref aX), (1, .int p0), (2, .int p1), (3, .int p2)] := hl
  have o_fsX := ow_0 k_fsX
  have o_fsY := ow_0 k_fsY
  refine lv_aload_n hx hb dX11_fieldLook_0 rfl (lv_at hl 0 rfl) ?_
  refine va_get (D := (dC, dI)) (ci := 14) (v := .ref aY) (C := RX11) (T := TX11) (N := 18) hx hb hts (in_x_fieldLook_X11) hown hK hP 0 rfl rfl 1 (by decide) (hts (.fieldLink RX11 19 "HeapWorks" "types" "LHeapWorks$Types;") (by decide +kernel)) (fun _ h9 => h9) (ow_at o_fsX 0 rfl) dX11_fieldLook_1 ?_
  refine lv_iload_n hx hb dX11_fieldLook_4 rfl (lv_at hl 1 rfl) ?_
  refine lv_iload_n hx hb dX11_fieldLook_5 rfl (lv_at hl 2 rfl) ?_
  have hPc := hP.sub (ws' := [(aY, .inr (13, fsY))]) [1] rfl
  have hDc := hD.sub (ws' := [(aY, .inr (13, fsY))]) [1] (by decide) rfl
  have hKc := hK.sub (tys' := []) [] rfl
  have hFc := va_free (wc := [(aY, .inr (13, fsY))]) hD hS hA [1] rfl
  refine va_calli (va_runV (As := [.int p0, .int p1]) (rest := []) ⟨hx, hb, hml, hown, hts⟩ (z_X10_hasField_ l dC dI s.heap.size aY fsY p0 p1 (fh_sub o_fsY.2 [0] rfl) ) (cwV 2 hts g_x_fieldLook_z_X10_hasField__188 rfl rfl rfl (by decide +kernel) ⟨Nat.le_of_ble_eq_true rfl, Nat.le_of_ble_eq_true rfl⟩) ⟨fun a U g mk q => by obtain ⟨q0, q1, qP, qK, qD⟩ := q; exact ⟨q0, q1, qP, va_K.moved (u := U) (U := U.calling g mk a) (Vm.Alike.refl U.vm) qK, qD⟩, va_recv hK hP (ci := 13) (q0 := 1) rfl rfl, fun U hU hW => ⟨rfl, by rw [hU], by rw [hU]; exact hPc, va_K.moved hW.alike hKc, hDc.weaken (fun _ _ _ _ => trivial)⟩⟩ rfl rfl hl.1 rfl (lv_room (Nat.le_of_ble_eq_true rfl)) dX11_fieldLook_6 ⟨Nat.le_of_ble_eq_true rfl, Nat.le_of_ble_eq_true rfl⟩) hS (fun q _ h => hFc q h) hFc (fun r1064 u t H1 locs ht hvm hw hB hz1 hk1 hS => ?_)
  obtain ⟨hP1, hK1, hD1⟩ := hB
  rw [ht] at hP1
  try dsimp only at hw
  obtain ⟨hP, hD⟩ := va_join (wr := [(aX, .inr (14, fsX))]) (w1 := [(aY, .inr (13, fsY))]) hP hD [1] [0] rfl rfl (by decide) (by decide) hk1 hFc hP1 hD1
  have hK := hK.sub (tys' := []) [] rfl
  generalize H1 = H at hP hS ⊢
  have hP : va_P (dC, dI) vwCl [(aX, .inr (14, fsX)), (aY, .inr (13, fsY))] H := hP
  have hD : va_D A [(aX, .inr (14, fsX)), (aY, .inr (13, fsY))] := hD
  rcases hw with ⟨c1065, er1066⟩ | ⟨c1067, c1068, er1069⟩
  · skip
    subst er1066
    refine lv_if_ne (tgt := 14) hx hb dX11_fieldLook_9 (by decide) (fun c1070 => absurd c1070 (by decide)) (fun c1070 => ?_)
    refine lv_iconst (v := (-1)) hx hb dX11_fieldLook_12 (by decide) ?_
    have hP9 := hP.sub (ws' := [(aX, .inr (14, fsX)), (aY, .inr (13, fsY))]) [0, 1] rfl
    have hD9 := hD.sub (ws' := [(aX, .inr (14, fsX)), (aY, .inr (13, fsY))]) [0, 1] (by decide) rfl
    have hK9 := hK.sub (tys' := []) [] rfl
    exact W.iret (v := (-1)) hx hb hr (fun t ht hW => ⟨⟨(-1), (), rfl, (Or.inl ⟨c1065, rfl⟩), by rw [ht]; exact hP9, va_K.moved hW.alike hK9, hD9⟩, hS.F ht⟩) hS.2.2 dX11_fieldLook_13
  · skip
    subst er1069
    refine lv_if_ne (tgt := 14) hx hb dX11_fieldLook_9 (by decide) (fun c1071 => absurd c1071 (by decide)) (fun c1071 => ?_)
    refine lv_iconst (v := (-1)) hx hb dX11_fieldLook_12 (by decide) ?_
    have hP9 := hP.sub (ws' := [(aX, .inr (14, fsX)), (aY, .inr (13, fsY))]) [0, 1] rfl
    have hD9 := hD.sub (ws' := [(aX, .inr (14, fsX)), (aY, .inr (13, fsY))]) [0, 1] (by decide) rfl
    have hK9 := hK.sub (tys' := []) [] rfl
    exact W.iret (v := (-1)) hx hb hr (fun t ht hW => ⟨⟨(-1), (), rfl, (Or.inr (⟨c1067, c1068, rfl⟩)), by rw [ht]; exact hP9, va_K.moved hW.alike hK9, hD9⟩, hS.F ht⟩) hS.2.2 dX11_fieldLook_13

def l_z_X10_isType : List Cond := [.methodLink RX10 69 yX10_isClass, .instanceMethod yX10_isClass, .selects RX10 yX10_isClass yX10_isClass, .initialized RX10, .code yX10_isClass cX10_isClass 2 (some .boolean), .fieldLink RX10 65 "HeapWorks$Types" "count" "I"]
def w_z_X10_isType : List Cond := .code yX10_isType cX10_isType 2 (some .boolean) :: (l_z_X10_isType ++ (wsX100))
theorem in_z_X10_isType_X10 : ∀ w ∈ wsX100, w ∈ w_z_X10_isType := fun w h => List.mem_cons_of_mem _ (List.mem_append_right _ (h))
theorem g_z_X10_isType_z_X10_isClass_69 : GoodIn w_z_X10_isType (wsV RX10 69 RX10 yX10_isClass w_z_X10_isClass) := goodIn_app (goodIn_sub (by decide +kernel) (by decide +kernel)) (goodIn_ca (goodIn_sub (by decide +kernel) (by decide +kernel)) (goodIn_in in_z_X10_isType_X10 gd_X10))
set_option maxHeartbeats 4000000 in
set_option maxRecDepth 100000 in
theorem z_X10_isType (l : Launch) (dC : Nat → ClassId) (dI : Nat → Nat → Nat) (sz : Nat) (Ad0 : Nat) (Fs0 : List Value) (Va0 : Int32) (k_Fs0 : fh Fs0 18 [(0, .int 0)])  : Met l yX10_isType w_z_X10_isType ({ frames := 1, cells := 0, slots := 0, locals := 21 }) (va_Pc [.ref Ad0, .int Va0] (fun U => U.heap.size = sz ∧ Wd dC dI [] (fun _ => True) [(Ad0, .inr (13, Fs0))] U)) (va_Qi (fun (r : Int32) (u : Unit) => (Va0 < 0 ∧ Va0 < 20 ∧ ¬ Va0 = 29 ∧ Va0 < 30 ∧ r = 0) ∨ (¬ Va0 < 0 ∧ 0 ≤ Va0 ∧ Va0 < 20 ∧ ¬ Va0 = 29 ∧ Va0 < 30 ∧ r = 0) ∨ (¬ Va0 < 0 ∧ 0 ≤ Va0 ∧ ¬ Va0 < 20 ∧ Va0 ≤ 24 ∧ r = 1) ∨ (¬ Va0 < 0 ∧ 0 ≤ Va0 ∧ ¬ Va0 < 20 ∧ ¬ Va0 ≤ 24 ∧ Va0 = 29 ∧ r = 1) ∨ (¬ Va0 < 0 ∧ 0 ≤ Va0 ∧ ¬ Va0 < 20 ∧ ¬ Va0 ≤ 24 ∧ ¬ Va0 = 29 ∧ Va0 < 30 ∧ r = 0) ∨ (¬ Va0 < 0 ∧ 0 ≤ Va0 ∧ ¬ Va0 < 20 ∧ ¬ Va0 ≤ 24 ∧ ¬ Va0 = 29 ∧ ¬ Va0 < 30 ∧ r = 0)) (fun (u : Unit) t => Wd dC dI [] (va_A [(Ad0, .inr (13, Fs0))] sz) [(Ad0, .inr (13, Fs0))] t) (va_A [(Ad0, .inr (13, Fs0))] sz))  0 0 (va_A [(Ad0, .inr (13, Fs0))] sz) := by
  refine Met.ofW (cc := cX10_isType) (maxL := 2) (ret := (some .boolean)) (by decide) rfl ?_
  intro p e s m args below meth c s₁ B hml hv
  obtain ⟨rfl, hsz, hP, hK, hD0⟩ := hv
  have hx := B.exec
  have hb := B.bytes
  have hr := B.returns
  have hts := atoms_spec (ws := w_z_X10_isType) B.pre
  have hown : s.vm.findClass RX10 = some m.cls := findClass_of_methodNamed B.named
  have hlocks := B.notSynchronized
  subst hsz
  have hD := hD0.self (sz := s.heap.size)
  generalize hAe : va_A [(Ad0, .inr (13, Fs0))] s.heap.size = A at hD ⊢
  have hA : ∀ q : Nat, s.heap.size ≤ q → A q := fun q h => by rw [← hAe]; exact Or.inr h
  have hS : va_S A s.heap s.heap [] := va_S.rf
  have hl := lv_entry ([.ref Ad0, .int Va0]) (n := 2) (Nat.le_of_ble_eq_true rfl)
  rw [lg_entry_eq]
  generalize (lg_sl ([.ref Ad0, .int Va0]) ++ List.replicate (2 - (lg_sl ([.ref Ad0, .int Va0])).length) Slot.unset).toArray = ls at hl ⊢
  have hl : lv_has ls 2 [(0, .ref Ad0), (1, .int Va0)] := hl
  have o_Fs0 := ow_0 k_Fs0
  refine lv_aload_n hx hb dX10_isType_0 rfl (lv_at hl 0 rfl) ?_
  refine lv_iload_n hx hb dX10_isType_1 rfl (lv_at hl 1 rfl) ?_
  have hPc := hP.sub (ws' := [(Ad0, .inr (13, Fs0))]) [0] rfl
  have hDc := hD.sub (ws' := [(Ad0, .inr (13, Fs0))]) [0] (by decide) rfl
  have hKc := hK.sub (tys' := []) [] rfl
  have hFc := va_free (wc := [(Ad0, .inr (13, Fs0))]) hD hS hA [0] rfl
  refine va_calli (va_runV (As := [.int Va0]) (rest := []) ⟨hx, hb, hml, hown, hts⟩ (z_X10_isClass l dC dI s.heap.size Ad0 Fs0 Va0 (fh_sub o_Fs0.2 [0] rfl) ) (cwV 1 hts g_z_X10_isType_z_X10_isClass_69 rfl rfl rfl (by decide +kernel) ⟨Nat.le_of_ble_eq_true rfl, Nat.le_of_ble_eq_true rfl⟩) ⟨fun a U g mk q => by obtain ⟨q0, q1, qP, qK, qD⟩ := q; exact ⟨q0, q1, qP, va_K.moved (u := U) (U := U.calling g mk a) (Vm.Alike.refl U.vm) qK, qD⟩, va_recv hK hP (ci := 13) (q0 := 0) rfl rfl, fun U hU hW => ⟨rfl, by rw [hU], by rw [hU]; exact hPc, va_K.moved hW.alike hKc, hDc.weaken (fun _ _ _ _ => trivial)⟩⟩ rfl rfl hl.1 rfl (lv_room (Nat.le_of_ble_eq_true rfl)) dX10_isType_2 ⟨Nat.le_of_ble_eq_true rfl, Nat.le_of_ble_eq_true rfl⟩) hS (fun q _ h => hFc q h) hFc (fun r1103 u t H1 locs ht hvm hw hB hz1 hk1 hS => ?_)
  obtain ⟨hP1, hK1, hD1⟩ := hB
  rw [ht] at hP1
  try dsimp only at hw
  obtain ⟨hP, hD⟩ := va_join (wr := []) (w1 := [(Ad0, .inr (13, Fs0))]) hP hD [0] [] rfl rfl (by decide) (by decide) hk1 hFc hP1 hD1
  have hK := hK.sub (tys' := []) [] rfl
  generalize H1 = H at hP hS ⊢
  have hP : va_P (dC, dI) vwCl [(Ad0, .inr (13, Fs0))] H := hP
  have hD : va_D A [(Ad0, .inr (13, Fs0))] := hD
  rcases hw with ⟨c1104, er1105⟩ | ⟨c1106, c1107, er1108⟩
  · skip
    subst er1105
    refine lv_if_ne (tgt := 43) hx hb dX10_isType_5 (by decide) (fun c1109 => absurd c1109 (by decide)) (fun c1109 => ?_)
    refine lv_iload_n hx hb dX10_isType_8 rfl (lv_at hl 1 rfl) ?_
    refine lv_bipush (v := 20) hx hb dX10_isType_9 (by decide) ?_
    refine lv_icmp_lt (tgt := 20) hx hb dX10_isType_11 (by decide) (fun c1110 => ?_) (fun c1110 => (by exfalso; have bd_Va0 := i_bd Va0; (try simp only [i_lt, i_le, i_eq, kc_0, kc_20] at c1104 c1110); omega))
    refine lv_iload_n hx hb dX10_isType_20 rfl (lv_at hl 1 rfl) ?_
    refine lv_bipush (v := 29) hx hb dX10_isType_21 (by decide) ?_
    refine lv_icmp_eq (tgt := 43) hx hb dX10_isType_23 (by decide) (fun c1111 => (by exfalso; have bd_Va0 := i_bd Va0; (try simp only [i_lt, i_le, i_eq, kc_0, kc_20, kc_29] at c1104 c1110 c1111); omega)) (fun c1111 => ?_)
    refine lv_iload_n hx hb dX10_isType_26 rfl (lv_at hl 1 rfl) ?_
    refine lv_bipush (v := 30) hx hb dX10_isType_27 (by decide) ?_
    refine lv_icmp_lt (tgt := 47) hx hb dX10_isType_29 (by decide) (fun c1112 => ?_) (fun c1112 => (by exfalso; have bd_Va0 := i_bd Va0; (try simp only [i_lt, i_le, i_eq, kc_0, kc_20, kc_29, kc_30] at c1104 c1110 c1111 c1112); omega))
    refine lv_iconst (v := 0) hx hb dX10_isType_47 (by decide) ?_
    have hP9 := hP.sub (ws' := [(Ad0, .inr (13, Fs0))]) [0] rfl
    have hD9 := hD.sub (ws' := [(Ad0, .inr (13, Fs0))]) [0] (by decide) rfl
    have hK9 := hK.sub (tys' := []) [] rfl
    exact W.zret (v := 0) hx hb hr rfl (fun t ht hW => ⟨⟨0, (), rfl, (Or.inl ⟨c1104, c1110, c1111, c1112, rfl⟩), by rw [ht]; exact hP9, va_K.moved hW.alike hK9, hD9⟩, hS.F ht⟩) hS.2.2 dX10_isType_48
  · skip
    subst er1108
    refine lv_if_ne (tgt := 43) hx hb dX10_isType_5 (by decide) (fun c1113 => absurd c1113 (by decide)) (fun c1113 => ?_)
    refine lv_iload_n hx hb dX10_isType_8 rfl (lv_at hl 1 rfl) ?_
    refine lv_bipush (v := 20) hx hb dX10_isType_9 (by decide) ?_
    refine lv_icmp_lt (tgt := 20) hx hb dX10_isType_11 (by decide) (fun c1114 => ?_) (fun c1114 => ?_)
    · skip
      refine lv_iload_n hx hb dX10_isType_20 rfl (lv_at hl 1 rfl) ?_
      refine lv_bipush (v := 29) hx hb dX10_isType_21 (by decide) ?_
      refine lv_icmp_eq (tgt := 43) hx hb dX10_isType_23 (by decide) (fun c1115 => (by exfalso; have bd_Va0 := i_bd Va0; (try simp only [i_lt, i_le, i_eq, kc_0, kc_20, kc_29] at c1106 c1107 c1114 c1115); omega)) (fun c1115 => ?_)
      refine lv_iload_n hx hb dX10_isType_26 rfl (lv_at hl 1 rfl) ?_
      refine lv_bipush (v := 30) hx hb dX10_isType_27 (by decide) ?_
      refine lv_icmp_lt (tgt := 47) hx hb dX10_isType_29 (by decide) (fun c1116 => ?_) (fun c1116 => (by exfalso; have bd_Va0 := i_bd Va0; (try simp only [i_lt, i_le, i_eq, kc_0, kc_20, kc_29, kc_30] at c1106 c1107 c1114 c1115 c1116); omega))
      refine lv_iconst (v := 0) hx hb dX10_isType_47 (by decide) ?_
      have hP9 := hP.sub (ws' := [(Ad0, .inr (13, Fs0))]) [0] rfl
      have hD9 := hD.sub (ws' := [(Ad0, .inr (13, Fs0))]) [0] (by decide) rfl
      have hK9 := hK.sub (tys' := []) [] rfl
      exact W.zret (v := 0) hx hb hr rfl (fun t ht hW => ⟨⟨0, (), rfl, (Or.inr (Or.inl ⟨c1106, c1107, c1114, c1115, c1116, rfl⟩)), by rw [ht]; exact hP9, va_K.moved hW.alike hK9, hD9⟩, hS.F ht⟩) hS.2.2 dX10_isType_48
    · skip
      refine lv_iload_n hx hb dX10_isType_14 rfl (lv_at hl 1 rfl) ?_
      refine lv_bipush (v := 24) hx hb dX10_isType_15 (by decide) ?_
      refine lv_icmp_le (tgt := 43) hx hb dX10_isType_17 (by decide) (fun c1117 => ?_) (fun c1117 => ?_)
      · skip
        refine lv_iconst (v := 1) hx hb dX10_isType_43 (by decide) ?_
        refine lv_goto (tgt := 48) hx hb dX10_isType_44 (by decide) ?_
        have hP9 := hP.sub (ws' := [(Ad0, .inr (13, Fs0))]) [0] rfl
        have hD9 := hD.sub (ws' := [(Ad0, .inr (13, Fs0))]) [0] (by decide) rfl
        have hK9 := hK.sub (tys' := []) [] rfl
        exact W.zret (v := 1) hx hb hr rfl (fun t ht hW => ⟨⟨1, (), rfl, (Or.inr (Or.inr (Or.inl ⟨c1106, c1107, c1114, c1117, rfl⟩))), by rw [ht]; exact hP9, va_K.moved hW.alike hK9, hD9⟩, hS.F ht⟩) hS.2.2 dX10_isType_48
      · skip
        refine lv_iload_n hx hb dX10_isType_20 rfl (lv_at hl 1 rfl) ?_
        refine lv_bipush (v := 29) hx hb dX10_isType_21 (by decide) ?_
        refine lv_icmp_eq (tgt := 43) hx hb dX10_isType_23 (by decide) (fun c1118 => ?_) (fun c1118 => ?_)
        · skip
          refine lv_iconst (v := 1) hx hb dX10_isType_43 (by decide) ?_
          refine lv_goto (tgt := 48) hx hb dX10_isType_44 (by decide) ?_
          have hP9 := hP.sub (ws' := [(Ad0, .inr (13, Fs0))]) [0] rfl
          have hD9 := hD.sub (ws' := [(Ad0, .inr (13, Fs0))]) [0] (by decide) rfl
          have hK9 := hK.sub (tys' := []) [] rfl
          exact W.zret (v := 1) hx hb hr rfl (fun t ht hW => ⟨⟨1, (), rfl, (Or.inr (Or.inr (Or.inr (Or.inl ⟨c1106, c1107, c1114, c1117, c1118, rfl⟩)))), by rw [ht]; exact hP9, va_K.moved hW.alike hK9, hD9⟩, hS.F ht⟩) hS.2.2 dX10_isType_48
        · skip
          refine lv_iload_n hx hb dX10_isType_26 rfl (lv_at hl 1 rfl) ?_
          refine lv_bipush (v := 30) hx hb dX10_isType_27 (by decide) ?_
          refine lv_icmp_lt (tgt := 47) hx hb dX10_isType_29 (by decide) (fun c1119 => ?_) (fun c1119 => ?_)
          · skip
            refine lv_iconst (v := 0) hx hb dX10_isType_47 (by decide) ?_
            have hP9 := hP.sub (ws' := [(Ad0, .inr (13, Fs0))]) [0] rfl
            have hD9 := hD.sub (ws' := [(Ad0, .inr (13, Fs0))]) [0] (by decide) rfl
            have hK9 := hK.sub (tys' := []) [] rfl
            exact W.zret (v := 0) hx hb hr rfl (fun t ht hW => ⟨⟨0, (), rfl, (Or.inr (Or.inr (Or.inr (Or.inr (Or.inl ⟨c1106, c1107, c1114, c1117, c1118, c1119, rfl⟩))))), by rw [ht]; exact hP9, va_K.moved hW.alike hK9, hD9⟩, hS.F ht⟩) hS.2.2 dX10_isType_48
          · skip
            refine lv_aload_n hx hb dX10_isType_32 rfl (lv_at hl 0 rfl) ?_
            refine lv_iload_n hx hb dX10_isType_33 rfl (lv_at hl 1 rfl) ?_
            refine lv_bipush (v := 30) hx hb dX10_isType_34 (by decide) ?_
            refine lv_isub hx hb dX10_isType_36  ?_
            refine lv_topi (fun x1120 ex1120 => ?_)
            have tx1120 : x1120.toInt = (Va0 : Int32).toInt - (30 : Int32).toInt := by rw [ex1120]; exact i_sub (by have bd_Va0 := i_bd Va0; (try simp only [i_lt, i_le, i_eq, kc_0, kc_20, kc_24, kc_29, kc_30] at c1106 c1107 c1114 c1117 c1118 c1119 ⊢); omega) (by have bd_Va0 := i_bd Va0; (try simp only [i_lt, i_le, i_eq, kc_0, kc_20, kc_24, kc_29, kc_30] at c1106 c1107 c1114 c1117 c1118 c1119 ⊢); omega)
            have hPc := hP.sub (ws' := [(Ad0, .inr (13, Fs0))]) [0] rfl
            have hDc := hD.sub (ws' := [(Ad0, .inr (13, Fs0))]) [0] (by decide) rfl
            have hKc := hK.sub (tys' := []) [] rfl
            have hFc := va_free (wc := [(Ad0, .inr (13, Fs0))]) hD hS hA [0] rfl
            refine va_calli (va_runV (As := [.int x1120]) (rest := []) ⟨hx, hb, hml, hown, hts⟩ (z_X10_isClass l dC dI H.size Ad0 Fs0 x1120 (fh_sub o_Fs0.2 [0] rfl) ) (cwV 1 hts g_z_X10_isType_z_X10_isClass_69 rfl rfl rfl (by decide +kernel) ⟨Nat.le_of_ble_eq_true rfl, Nat.le_of_ble_eq_true rfl⟩) ⟨fun a U g mk q => by obtain ⟨q0, q1, qP, qK, qD⟩ := q; exact ⟨q0, q1, qP, va_K.moved (u := U) (U := U.calling g mk a) (Vm.Alike.refl U.vm) qK, qD⟩, va_recv hK hP (ci := 13) (q0 := 0) rfl rfl, fun U hU hW => ⟨rfl, by rw [hU], by rw [hU]; exact hPc, va_K.moved hW.alike hKc, hDc.weaken (fun _ _ _ _ => trivial)⟩⟩ rfl rfl hl.1 rfl (lv_room (Nat.le_of_ble_eq_true rfl)) dX10_isType_37 ⟨Nat.le_of_ble_eq_true rfl, Nat.le_of_ble_eq_true rfl⟩) hS (fun q _ h => hFc q h) hFc (fun r1123 u t H1 locs ht hvm hw hB hz1 hk1 hS => ?_)
            obtain ⟨hP1, hK1, hD1⟩ := hB
            rw [ht] at hP1
            try dsimp only at hw
            obtain ⟨hP, hD⟩ := va_join (wr := []) (w1 := [(Ad0, .inr (13, Fs0))]) hP hD [0] [] rfl rfl (by decide) (by decide) hk1 hFc hP1 hD1
            have hK := hK.sub (tys' := []) [] rfl
            generalize H1 = H at hP hS ⊢
            have hP : va_P (dC, dI) vwCl [(Ad0, .inr (13, Fs0))] H := hP
            have hD : va_D A [(Ad0, .inr (13, Fs0))] := hD
            rcases hw with ⟨c1124, er1125⟩ | ⟨c1126, c1127, er1128⟩
            · exact (by exfalso; (try simp only [i_lt, i_le, i_eq, kc_30, kc_0, kc_20, kc_24, kc_29] at tx1120 c1124 c1106 c1107 c1114 c1117 c1118 c1119); omega)
            · skip
              subst er1128
              refine lv_if_eq (tgt := 47) hx hb dX10_isType_40 (by decide) (fun c1129 => ?_) (fun c1129 => absurd c1129 (by decide))
              refine lv_iconst (v := 0) hx hb dX10_isType_47 (by decide) ?_
              have hP9 := hP.sub (ws' := [(Ad0, .inr (13, Fs0))]) [0] rfl
              have hD9 := hD.sub (ws' := [(Ad0, .inr (13, Fs0))]) [0] (by decide) rfl
              have hK9 := hK.sub (tys' := []) [] rfl
              exact W.zret (v := 0) hx hb hr rfl (fun t ht hW => ⟨⟨0, (), rfl, (Or.inr (Or.inr (Or.inr (Or.inr (Or.inr (⟨c1106, c1107, c1114, c1117, c1118, c1119, rfl⟩)))))), by rw [ht]; exact hP9, va_K.moved hW.alike hK9, hD9⟩, hS.F ht⟩) hS.2.2 dX10_isType_48

def l_z_X10_isArray : List Cond := []
def w_z_X10_isArray : List Cond := .code yX10_isArray cX10_isArray 1 (some .boolean) :: (l_z_X10_isArray)
set_option maxHeartbeats 4000000 in
set_option maxRecDepth 100000 in
theorem z_X10_isArray (l : Launch) (dC : Nat → ClassId) (dI : Nat → Nat → Nat) (sz : Nat) (Va0 : Int32)   : Met l yX10_isArray w_z_X10_isArray ({ frames := 0, cells := 0, slots := 0, locals := 0 }) (va_Pc [.int Va0] (fun U => U.heap.size = sz ∧ Wd dC dI [] (fun _ => True) [] U)) (va_Qi (fun (r : Int32) (u : Unit) => (Va0 < 20 ∧ r = 0) ∨ (¬ Va0 < 20 ∧ r = 1)) (fun (u : Unit) t => Wd dC dI [] (va_A [] sz) [] t) (va_A [] sz))  0 0 (va_A [] sz) := by
  refine Met.ofW (cc := cX10_isArray) (maxL := 1) (ret := (some .boolean)) (by decide) rfl ?_
  intro p e s m args below meth c s₁ B hml hv
  obtain ⟨rfl, hsz, hP, hK, hD0⟩ := hv
  have hx := B.exec
  have hb := B.bytes
  have hr := B.returns
  have hts := atoms_spec (ws := w_z_X10_isArray) B.pre
  have hown : s.vm.findClass RX10 = some m.cls := findClass_of_methodNamed B.named
  have hlocks := B.notSynchronized
  subst hsz
  have hD := hD0.self (sz := s.heap.size)
  generalize hAe : va_A [] s.heap.size = A at hD ⊢
  have hA : ∀ q : Nat, s.heap.size ≤ q → A q := fun q h => by rw [← hAe]; exact Or.inr h
  have hS : va_S A s.heap s.heap [] := va_S.rf
  have hl := lv_entry ([.int Va0]) (n := 1) (Nat.le_of_ble_eq_true rfl)
  rw [lg_entry_eq]
  generalize (lg_sl ([.int Va0]) ++ List.replicate (1 - (lg_sl ([.int Va0])).length) Slot.unset).toArray = ls at hl ⊢
  have hl : lv_has ls 1 [(0, .int Va0)] := hl
  refine lv_iload_n hx hb dX10_isArray_0 rfl (lv_at hl 0 rfl) ?_
  refine lv_bipush (v := 20) hx hb dX10_isArray_1 (by decide) ?_
  refine lv_icmp_lt (tgt := 10) hx hb dX10_isArray_3 (by decide) (fun c1171 => ?_) (fun c1171 => ?_)
  · skip
    refine lv_iconst (v := 0) hx hb dX10_isArray_10 (by decide) ?_
    have hP9 := hP.sub (ws' := []) [] rfl
    have hD9 := hD.sub (ws' := []) [] (by decide) rfl
    have hK9 := hK.sub (tys' := []) [] rfl
    exact W.zret (v := 0) hx hb hr rfl (fun t ht hW => ⟨⟨0, (), rfl, (Or.inl ⟨c1171, rfl⟩), by rw [ht]; exact hP9, va_K.moved hW.alike hK9, hD9⟩, hS.F ht⟩) hS.2.2 dX10_isArray_11
  · skip
    refine lv_iconst (v := 1) hx hb dX10_isArray_6 (by decide) ?_
    refine lv_goto (tgt := 11) hx hb dX10_isArray_7 (by decide) ?_
    have hP9 := hP.sub (ws' := []) [] rfl
    have hD9 := hD.sub (ws' := []) [] (by decide) rfl
    have hK9 := hK.sub (tys' := []) [] rfl
    exact W.zret (v := 1) hx hb hr rfl (fun t ht hW => ⟨⟨1, (), rfl, (Or.inr (⟨c1171, rfl⟩)), by rw [ht]; exact hP9, va_K.moved hW.alike hK9, hD9⟩, hS.F ht⟩) hS.2.2 dX10_isArray_11

def l_z_X10_slotsOf : List Cond := [.methodLink RX10 86 yX10_isArray, .static yX10_isArray, .initialized RX10, .code yX10_isArray cX10_isArray 1 (some .boolean)]
def w_z_X10_slotsOf : List Cond := .code yX10_slotsOf cX10_slotsOf 3 (some .int) :: (l_z_X10_slotsOf)
theorem g_z_X10_slotsOf_z_X10_isArray_86 : GoodIn w_z_X10_slotsOf (wsS RX10 86 yX10_isArray w_z_X10_isArray) := goodIn_app (goodIn_sub (by decide +kernel) (by decide +kernel)) (goodIn_sub (by decide +kernel) (by decide +kernel))
set_option maxHeartbeats 4000000 in
set_option maxRecDepth 100000 in
theorem z_X10_slotsOf (l : Launch) (dC : Nat → ClassId) (dI : Nat → Nat → Nat) (sz : Nat) (Br0 : Nat) (Va0 : Int32) (Va1 : Int32)  (gv_Va0 : (20 : Int) ≤ Va0.toInt ∧ Va0.toInt ≤ 24) (gv_Va1 : (0 : Int) ≤ Va1.toInt ∧ Va1.toInt ≤ 60) : Met l yX10_slotsOf w_z_X10_slotsOf ({ frames := 1, cells := 0, slots := 0, locals := 20 }) (va_Pc [.ref Br0, .int Va0, .int Va1] (fun U => U.heap.size = sz ∧ Wd dC dI [] (fun _ => True) [] U)) (va_Qi (fun (r : Int32) (u : Unit) => (¬ Va0 < 20 ∧ r = Va1)) (fun (u : Unit) t => Wd dC dI [] (va_A [] sz) [] t) (va_A [] sz))  0 0 (va_A [] sz) := by
  refine Met.ofW (cc := cX10_slotsOf) (maxL := 3) (ret := (some .int)) (by decide) rfl ?_
  intro p e s m args below meth c s₁ B hml hv
  obtain ⟨rfl, hsz, hP, hK, hD0⟩ := hv
  have hx := B.exec
  have hb := B.bytes
  have hr := B.returns
  have hts := atoms_spec (ws := w_z_X10_slotsOf) B.pre
  have hown : s.vm.findClass RX10 = some m.cls := findClass_of_methodNamed B.named
  have hlocks := B.notSynchronized
  subst hsz
  have hD := hD0.self (sz := s.heap.size)
  generalize hAe : va_A [] s.heap.size = A at hD ⊢
  have hA : ∀ q : Nat, s.heap.size ≤ q → A q := fun q h => by rw [← hAe]; exact Or.inr h
  have hS : va_S A s.heap s.heap [] := va_S.rf
  have hl := lv_entry ([.ref Br0, .int Va0, .int Va1]) (n := 3) (Nat.le_of_ble_eq_true rfl)
  rw [lg_entry_eq]
  generalize (lg_sl ([.ref Br0, .int Va0, .int Va1]) ++ List.replicate (3 - (lg_sl ([.ref Br0, .int Va0, .int Va1])).length) Slot.unset).toArray = ls at hl ⊢
  have hl : lv_has ls 3 [(0, .ref Br0), (1, .int Va0), (2, .int Va1)] := hl
  refine lv_iload_n hx hb dX10_slotsOf_0 rfl (lv_at hl 1 rfl) ?_
  have hPc := hP.sub (ws' := []) [] rfl
  have hDc := hD.sub (ws' := []) [] (by decide) rfl
  have hKc := hK.sub (tys' := []) [] rfl
  have hFc := va_free (wc := []) hD hS hA [] rfl
  refine va_calli (va_runS (As := [.int Va0]) (rest := []) ⟨hx, hb, hml, hown, hts⟩ (z_X10_isArray l dC dI s.heap.size Va0  ) (cwS 1 hts g_z_X10_slotsOf_z_X10_isArray_86 rfl rfl rfl (by decide +kernel) ⟨Nat.le_of_ble_eq_true rfl, Nat.le_of_ble_eq_true rfl⟩) ⟨fun a U g mk q => by obtain ⟨q0, q1, qP, qK, qD⟩ := q; exact ⟨q0, q1, qP, va_K.moved (u := U) (U := U.calling g mk a) (Vm.Alike.refl U.vm) qK, qD⟩, fun U hU hW => ⟨rfl, by rw [hU], by rw [hU]; exact hPc, va_K.moved hW.alike hKc, hDc.weaken (fun _ _ _ _ => trivial)⟩⟩ rfl rfl hl.1 rfl (lv_room (Nat.le_of_ble_eq_true rfl)) dX10_slotsOf_1 ⟨Nat.le_of_ble_eq_true rfl, Nat.le_of_ble_eq_true rfl⟩) hS (fun q _ h => hFc q h) hFc (fun r1202 u t H1 locs ht hvm hw hB hz1 hk1 hS => ?_)
  obtain ⟨hP1, hK1, hD1⟩ := hB
  rw [ht] at hP1
  try dsimp only at hw
  obtain ⟨hP, hD⟩ := va_join (wr := []) (w1 := []) hP hD [] [] rfl rfl (by decide) (by decide) hk1 hFc hP1 hD1
  have hK := hK.sub (tys' := []) [] rfl
  generalize H1 = H at hP hS ⊢
  have hP : va_P (dC, dI) vwCl [] H := hP
  have hD : va_D A [] := hD
  rcases hw with ⟨c1203, er1204⟩ | ⟨c1205, er1206⟩
  · exact (by exfalso; (try simp only [i_lt, i_le, i_eq, kc_20] at gv_Va0 c1203); omega)
  · skip
    subst er1206
    refine lv_if_eq (tgt := 11) hx hb dX10_slotsOf_4 (by decide) (fun c1207 => absurd c1207 (by decide)) (fun c1207 => ?_)
    refine lv_iload_n hx hb dX10_slotsOf_7 rfl (lv_at hl 2 rfl) ?_
    refine lv_goto (tgt := 17) hx hb dX10_slotsOf_8 (by decide) ?_
    have hP9 := hP.sub (ws' := []) [] rfl
    have hD9 := hD.sub (ws' := []) [] (by decide) rfl
    have hK9 := hK.sub (tys' := []) [] rfl
    exact W.iret (v := Va1) hx hb hr (fun t ht hW => ⟨⟨Va1, (), rfl, ⟨c1205, rfl⟩, by rw [ht]; exact hP9, va_K.moved hW.alike hK9, hD9⟩, hS.F ht⟩) hS.2.2 dX10_slotsOf_17

def l_z_X2_hasRoom : List Cond := [.fieldLink RX2 47 "HeapWorks$Heap" "made" "I", .fieldLink RX2 62 "HeapWorks$Heap" "slots" "I"]
def w_z_X2_hasRoom : List Cond := .code yX2_hasRoom cX2_hasRoom 3 (some .boolean) :: (l_z_X2_hasRoom ++ (wsX20))
theorem in_z_X2_hasRoom_X2 : ∀ w ∈ wsX20, w ∈ w_z_X2_hasRoom := fun w h => List.mem_cons_of_mem _ (List.mem_append_right _ (h))
set_option maxHeartbeats 4000000 in
set_option maxRecDepth 100000 in
theorem z_X2_hasRoom (l : Launch) (dC : Nat → ClassId) (dI : Nat → Nat → Nat) (sz : Nat) (Ad0 : Nat) (Fs0 : List Value) (Va0 : Int32) (k_Fs0 : fh Fs0 14 [(1, .int 0), (3, .int 0)])  : Met l yX2_hasRoom w_z_X2_hasRoom ({ frames := 0, cells := 0, slots := 0, locals := 0 }) (va_Pc [.ref Ad0, .int 1, .int Va0] (fun U => U.heap.size = sz ∧ Wd dC dI [] (fun _ => True) [(Ad0, .inr (5, Fs0))] U)) (va_Qi (fun (r : Int32) (u : Unit) => r = 0 ∨ r = 1) (fun (u : Unit) t => Wd dC dI [] (va_A [(Ad0, .inr (5, Fs0))] sz) [(Ad0, .inr (5, Fs0))] t) (va_A [(Ad0, .inr (5, Fs0))] sz))  0 0 (va_A [(Ad0, .inr (5, Fs0))] sz) := by
  refine Met.ofW (cc := cX2_hasRoom) (maxL := 3) (ret := (some .boolean)) (by decide) rfl ?_
  intro p e s m args below meth c s₁ B hml hv
  obtain ⟨rfl, hsz, hP, hK, hD0⟩ := hv
  have hx := B.exec
  have hb := B.bytes
  have hr := B.returns
  have hts := atoms_spec (ws := w_z_X2_hasRoom) B.pre
  have hown : s.vm.findClass RX2 = some m.cls := findClass_of_methodNamed B.named
  have hlocks := B.notSynchronized
  subst hsz
  have hD := hD0.self (sz := s.heap.size)
  generalize hAe : va_A [(Ad0, .inr (5, Fs0))] s.heap.size = A at hD ⊢
  have hA : ∀ q : Nat, s.heap.size ≤ q → A q := fun q h => by rw [← hAe]; exact Or.inr h
  have hS : va_S A s.heap s.heap [] := va_S.rf
  have hl := lv_entry ([.ref Ad0, .int 1, .int Va0]) (n := 3) (Nat.le_of_ble_eq_true rfl)
  rw [lg_entry_eq]
  generalize (lg_sl ([.ref Ad0, .int 1, .int Va0]) ++ List.replicate (3 - (lg_sl ([.ref Ad0, .int 1, .int Va0])).length) Slot.unset).toArray = ls at hl ⊢
  have hl : lv_has ls 3 [(0, .ref Ad0), (1, .int 1), (2, .int Va0)] := hl
  have o_Fs0 := ow_0 k_Fs0
  refine lv_aload_n hx hb dX2_hasRoom_0 rfl (lv_at hl 0 rfl) ?_
  refine va_get (D := (dC, dI)) (ci := 5) (v := .int 0) (C := RX2) (T := TX2) (N := 14) hx hb hts (in_z_X2_hasRoom_X2) hown hK hP 0 rfl rfl 1 (by decide) (hts (.fieldLink RX2 47 "HeapWorks$Heap" "made" "I") (by decide +kernel)) (fun _ h9 => h9) (ow_at o_Fs0 0 rfl) dX2_hasRoom_1 ?_
  refine lv_iload_n hx hb dX2_hasRoom_4 rfl (lv_at hl 1 rfl) ?_
  refine lv_iadd hx hb dX2_hasRoom_5  ?_
  refine lv_topi (fun x1215 ex1215 => ?_)
  obtain rfl : x1215 = 1 := ex1215.trans (by decide)
  refine lv_sipush (v := 400) hx hb dX2_hasRoom_6 (by decide) ?_
  refine lv_icmp_gt (tgt := 28) hx hb dX2_hasRoom_9 (by decide) (fun c1216 => absurd c1216 (by decide)) (fun c1216 => ?_)
  refine lv_aload_n hx hb dX2_hasRoom_12 rfl (lv_at hl 0 rfl) ?_
  refine va_get (D := (dC, dI)) (ci := 5) (v := .int 0) (C := RX2) (T := TX2) (N := 14) hx hb hts (in_z_X2_hasRoom_X2) hown hK hP 0 rfl rfl 3 (by decide) (hts (.fieldLink RX2 62 "HeapWorks$Heap" "slots" "I") (by decide +kernel)) (fun _ h9 => h9) (ow_at o_Fs0 1 rfl) dX2_hasRoom_13 ?_
  refine lv_iload_n hx hb dX2_hasRoom_16 rfl (lv_at hl 2 rfl) ?_
  refine lv_iadd hx hb dX2_hasRoom_17  ?_
  refine lv_topi (fun x1217 ex1217 => ?_)
  refine lv_sipush (v := 4000) hx hb dX2_hasRoom_18 (by decide) ?_
  refine lv_icmp_gt (tgt := 28) hx hb dX2_hasRoom_21 (by decide) (fun c1218 => ?_) (fun c1218 => ?_)
  · skip
    refine lv_iconst (v := 0) hx hb dX2_hasRoom_28 (by decide) ?_
    have hP9 := hP.sub (ws' := [(Ad0, .inr (5, Fs0))]) [0] rfl
    have hD9 := hD.sub (ws' := [(Ad0, .inr (5, Fs0))]) [0] (by decide) rfl
    have hK9 := hK.sub (tys' := []) [] rfl
    exact W.zret (v := 0) hx hb hr rfl (fun t ht hW => ⟨⟨0, (), rfl, (Or.inl rfl), by rw [ht]; exact hP9, va_K.moved hW.alike hK9, hD9⟩, hS.F ht⟩) hS.2.2 dX2_hasRoom_29
  · skip
    refine lv_iconst (v := 1) hx hb dX2_hasRoom_24 (by decide) ?_
    refine lv_goto (tgt := 29) hx hb dX2_hasRoom_25 (by decide) ?_
    have hP9 := hP.sub (ws' := [(Ad0, .inr (5, Fs0))]) [0] rfl
    have hD9 := hD.sub (ws' := [(Ad0, .inr (5, Fs0))]) [0] (by decide) rfl
    have hK9 := hK.sub (tys' := []) [] rfl
    exact W.zret (v := 1) hx hb hr rfl (fun t ht hW => ⟨⟨1, (), rfl, (Or.inr (rfl)), by rw [ht]; exact hP9, va_K.moved hW.alike hK9, hD9⟩, hS.F ht⟩) hS.2.2 dX2_hasRoom_29

def l_z_X10_use : List Cond := [.methodLink RX10 69 yX10_isClass, .instanceMethod yX10_isClass, .selects RX10 yX10_isClass yX10_isClass, .initialized RX10, .code yX10_isClass cX10_isClass 2 (some .boolean), .fieldLink RX10 65 "HeapWorks$Types" "count" "I"]
def w_z_X10_use : List Cond := .code yX10_use cX10_use 2 none :: (l_z_X10_use ++ (wsX100))
theorem in_z_X10_use_X10 : ∀ w ∈ wsX100, w ∈ w_z_X10_use := fun w h => List.mem_cons_of_mem _ (List.mem_append_right _ (h))
theorem g_z_X10_use_z_X10_isClass_69 : GoodIn w_z_X10_use (wsV RX10 69 RX10 yX10_isClass w_z_X10_isClass) := goodIn_app (goodIn_sub (by decide +kernel) (by decide +kernel)) (goodIn_ca (goodIn_sub (by decide +kernel) (by decide +kernel)) (goodIn_in in_z_X10_use_X10 gd_X10))
set_option maxHeartbeats 4000000 in
set_option maxRecDepth 100000 in
theorem z_X10_use (l : Launch) (dC : Nat → ClassId) (dI : Nat → Nat → Nat) (sz : Nat) (Ad0 : Nat) (Fs0 : List Value) (Va0 : Int32) (k_Fs0 : fh Fs0 18 [(0, .int 0)])  : Met l yX10_use w_z_X10_use ({ frames := 1, cells := 0, slots := 0, locals := 21 }) (va_Pc [.ref Ad0, .int Va0] (fun U => U.heap.size = sz ∧ Wd dC dI [] (fun _ => True) [(Ad0, .inr (13, Fs0))] U)) (va_Qv (fun (u : Unit) => Va0 < 0 ∨ (¬ Va0 < 0 ∧ 0 ≤ Va0)) (fun (u : Unit) t => Wd dC dI [] (va_A [(Ad0, .inr (13, Fs0))] sz) [(Ad0, .inr (13, Fs0))] t) (va_A [(Ad0, .inr (13, Fs0))] sz))  0 0 (va_A [(Ad0, .inr (13, Fs0))] sz) := by
  refine Met.ofW (cc := cX10_use) (maxL := 2) (ret := none) (by decide) rfl ?_
  intro p e s m args below meth c s₁ B hml hv
  obtain ⟨rfl, hsz, hP, hK, hD0⟩ := hv
  have hx := B.exec
  have hb := B.bytes
  have hr := B.returns
  have hts := atoms_spec (ws := w_z_X10_use) B.pre
  have hown : s.vm.findClass RX10 = some m.cls := findClass_of_methodNamed B.named
  have hlocks := B.notSynchronized
  subst hsz
  have hD := hD0.self (sz := s.heap.size)
  generalize hAe : va_A [(Ad0, .inr (13, Fs0))] s.heap.size = A at hD ⊢
  have hA : ∀ q : Nat, s.heap.size ≤ q → A q := fun q h => by rw [← hAe]; exact Or.inr h
  have hS : va_S A s.heap s.heap [] := va_S.rf
  have hl := lv_entry ([.ref Ad0, .int Va0]) (n := 2) (Nat.le_of_ble_eq_true rfl)
  rw [lg_entry_eq]
  generalize (lg_sl ([.ref Ad0, .int Va0]) ++ List.replicate (2 - (lg_sl ([.ref Ad0, .int Va0])).length) Slot.unset).toArray = ls at hl ⊢
  have hl : lv_has ls 2 [(0, .ref Ad0), (1, .int Va0)] := hl
  have o_Fs0 := ow_0 k_Fs0
  refine lv_aload_n hx hb dX10_use_0 rfl (lv_at hl 0 rfl) ?_
  refine lv_iload_n hx hb dX10_use_1 rfl (lv_at hl 1 rfl) ?_
  have hPc := hP.sub (ws' := [(Ad0, .inr (13, Fs0))]) [0] rfl
  have hDc := hD.sub (ws' := [(Ad0, .inr (13, Fs0))]) [0] (by decide) rfl
  have hKc := hK.sub (tys' := []) [] rfl
  have hFc := va_free (wc := [(Ad0, .inr (13, Fs0))]) hD hS hA [0] rfl
  refine va_calli (va_runV (As := [.int Va0]) (rest := []) ⟨hx, hb, hml, hown, hts⟩ (z_X10_isClass l dC dI s.heap.size Ad0 Fs0 Va0 (fh_sub o_Fs0.2 [0] rfl) ) (cwV 1 hts g_z_X10_use_z_X10_isClass_69 rfl rfl rfl (by decide +kernel) ⟨Nat.le_of_ble_eq_true rfl, Nat.le_of_ble_eq_true rfl⟩) ⟨fun a U g mk q => by obtain ⟨q0, q1, qP, qK, qD⟩ := q; exact ⟨q0, q1, qP, va_K.moved (u := U) (U := U.calling g mk a) (Vm.Alike.refl U.vm) qK, qD⟩, va_recv hK hP (ci := 13) (q0 := 0) rfl rfl, fun U hU hW => ⟨rfl, by rw [hU], by rw [hU]; exact hPc, va_K.moved hW.alike hKc, hDc.weaken (fun _ _ _ _ => trivial)⟩⟩ rfl rfl hl.1 rfl (lv_room (Nat.le_of_ble_eq_true rfl)) dX10_use_2 ⟨Nat.le_of_ble_eq_true rfl, Nat.le_of_ble_eq_true rfl⟩) hS (fun q _ h => hFc q h) hFc (fun r1246 u t H1 locs ht hvm hw hB hz1 hk1 hS => ?_)
  obtain ⟨hP1, hK1, hD1⟩ := hB
  rw [ht] at hP1
  try dsimp only at hw
  obtain ⟨hP, hD⟩ := va_join (wr := []) (w1 := [(Ad0, .inr (13, Fs0))]) hP hD [0] [] rfl rfl (by decide) (by decide) hk1 hFc hP1 hD1
  have hK := hK.sub (tys' := []) [] rfl
  generalize H1 = H at hP hS ⊢
  have hP : va_P (dC, dI) vwCl [(Ad0, .inr (13, Fs0))] H := hP
  have hD : va_D A [(Ad0, .inr (13, Fs0))] := hD
  rcases hw with ⟨c1247, er1248⟩ | ⟨c1249, c1250, er1251⟩
  · skip
    subst er1248
    refine lv_if_eq (tgt := 15) hx hb dX10_use_5 (by decide) (fun c1252 => ?_) (fun c1252 => absurd c1252 (by decide))
    have hP9 := hP.sub (ws' := [(Ad0, .inr (13, Fs0))]) [0] rfl
    have hD9 := hD.sub (ws' := [(Ad0, .inr (13, Fs0))]) [0] (by decide) rfl
    have hK9 := hK.sub (tys' := []) [] rfl
    exact W.vret hx hb hr (fun t ht hW => ⟨⟨(), rfl, (Or.inl c1247), by rw [ht]; exact hP9, va_K.moved hW.alike hK9, hD9⟩, hS.F ht⟩) hS.2.2 dX10_use_15
  · skip
    subst er1251
    refine lv_if_eq (tgt := 15) hx hb dX10_use_5 (by decide) (fun c1253 => ?_) (fun c1253 => absurd c1253 (by decide))
    have hP9 := hP.sub (ws' := [(Ad0, .inr (13, Fs0))]) [0] rfl
    have hD9 := hD.sub (ws' := [(Ad0, .inr (13, Fs0))]) [0] (by decide) rfl
    have hK9 := hK.sub (tys' := []) [] rfl
    exact W.vret hx hb hr (fun t ht hW => ⟨⟨(), rfl, (Or.inr (⟨c1249, c1250⟩)), by rw [ht]; exact hP9, va_K.moved hW.alike hK9, hD9⟩, hS.F ht⟩) hS.2.2 dX10_use_15

def l_z_X10_kindAt : List Cond := []
def w_z_X10_kindAt : List Cond := .code yX10_kindAt cX10_kindAt 3 (some .int) :: (l_z_X10_kindAt)
set_option maxHeartbeats 4000000 in
set_option maxRecDepth 100000 in
theorem z_X10_kindAt (l : Launch) (dC : Nat → ClassId) (dI : Nat → Nat → Nat) (sz : Nat) (Br0 : Nat) (Va0 : Int32) (Va1 : Int32)  (gv_Va0 : (20 : Int) ≤ Va0.toInt ∧ Va0.toInt ≤ 24) (gv_Va1 : (0 : Int) ≤ Va1.toInt ∧ Va1.toInt ≤ 59) : Met l yX10_kindAt w_z_X10_kindAt ({ frames := 0, cells := 0, slots := 0, locals := 0 }) (va_Pc [.ref Br0, .int Va0, .int Va1] (fun U => U.heap.size = sz ∧ Wd dC dI [] (fun _ => True) [] U)) (va_Qi (fun (r : Int32) (u : Unit) => (Va0 < 29 ∧ ¬ Va0 < 20 ∧ r = (Va0 - 20))) (fun (u : Unit) t => Wd dC dI [] (va_A [] sz) [] t) (va_A [] sz))  0 0 (va_A [] sz) := by
  refine Met.ofW (cc := cX10_kindAt) (maxL := 3) (ret := (some .int)) (by decide) rfl ?_
  intro p e s m args below meth c s₁ B hml hv
  obtain ⟨rfl, hsz, hP, hK, hD0⟩ := hv
  have hx := B.exec
  have hb := B.bytes
  have hr := B.returns
  have hts := atoms_spec (ws := w_z_X10_kindAt) B.pre
  have hown : s.vm.findClass RX10 = some m.cls := findClass_of_methodNamed B.named
  have hlocks := B.notSynchronized
  subst hsz
  have hD := hD0.self (sz := s.heap.size)
  generalize hAe : va_A [] s.heap.size = A at hD ⊢
  have hA : ∀ q : Nat, s.heap.size ≤ q → A q := fun q h => by rw [← hAe]; exact Or.inr h
  have hS : va_S A s.heap s.heap [] := va_S.rf
  have hl := lv_entry ([.ref Br0, .int Va0, .int Va1]) (n := 3) (Nat.le_of_ble_eq_true rfl)
  rw [lg_entry_eq]
  generalize (lg_sl ([.ref Br0, .int Va0, .int Va1]) ++ List.replicate (3 - (lg_sl ([.ref Br0, .int Va0, .int Va1])).length) Slot.unset).toArray = ls at hl ⊢
  have hl : lv_has ls 3 [(0, .ref Br0), (1, .int Va0), (2, .int Va1)] := hl
  refine lv_iload_n hx hb dX10_kindAt_0 rfl (lv_at hl 1 rfl) ?_
  refine lv_bipush (v := 29) hx hb dX10_kindAt_1 (by decide) ?_
  refine lv_icmp_lt (tgt := 8) hx hb dX10_kindAt_3 (by decide) (fun c1324 => ?_) (fun c1324 => (by exfalso; have bd_Va0 := i_bd Va0; (try simp only [i_lt, i_le, i_eq, kc_29] at gv_Va0 c1324); omega))
  refine lv_iload_n hx hb dX10_kindAt_8 rfl (lv_at hl 1 rfl) ?_
  refine lv_bipush (v := 20) hx hb dX10_kindAt_9 (by decide) ?_
  refine lv_icmp_lt (tgt := 21) hx hb dX10_kindAt_11 (by decide) (fun c1325 => (by exfalso; have bd_Va0 := i_bd Va0; (try simp only [i_lt, i_le, i_eq, kc_29, kc_20] at gv_Va0 c1324 c1325); omega)) (fun c1325 => ?_)
  refine lv_iload_n hx hb dX10_kindAt_14 rfl (lv_at hl 1 rfl) ?_
  refine lv_bipush (v := 20) hx hb dX10_kindAt_15 (by decide) ?_
  refine lv_isub hx hb dX10_kindAt_17  ?_
  refine lv_topi (fun x1326 ex1326 => ?_)
  have tx1326 : x1326.toInt = (Va0 : Int32).toInt - (20 : Int32).toInt := by rw [ex1326]; exact i_sub (by have bd_Va0 := i_bd Va0; (try simp only [i_lt, i_le, i_eq, kc_29, kc_20] at gv_Va0 c1324 c1325 ⊢); omega) (by have bd_Va0 := i_bd Va0; (try simp only [i_lt, i_le, i_eq, kc_29, kc_20] at gv_Va0 c1324 c1325 ⊢); omega)
  refine lv_goto (tgt := 32) hx hb dX10_kindAt_18 (by decide) ?_
  have hP9 := hP.sub (ws' := []) [] rfl
  have hD9 := hD.sub (ws' := []) [] (by decide) rfl
  have hK9 := hK.sub (tys' := []) [] rfl
  exact W.iret (v := x1326) hx hb hr (fun t ht hW => ⟨⟨x1326, (), rfl, ⟨c1324, c1325, (by subst_vars; rfl)⟩, by rw [ht]; exact hP9, va_K.moved hW.alike hK9, hD9⟩, hS.F ht⟩) hS.2.2 dX10_kindAt_32

def l_z_X10_firstValue : List Cond := [.constantLong RX10 96 (-1)]
def w_z_X10_firstValue : List Cond := .code yX10_firstValue cX10_firstValue 1 (some .long) :: (l_z_X10_firstValue)
set_option maxHeartbeats 4000000 in
set_option maxRecDepth 100000 in
theorem z_X10_firstValue (l : Launch) (dC : Nat → ClassId) (dI : Nat → Nat → Nat) (sz : Nat) (Va0 : Int32)   : Met l yX10_firstValue w_z_X10_firstValue ({ frames := 0, cells := 0, slots := 0, locals := 0 }) (va_Pc [.int Va0] (fun U => U.heap.size = sz ∧ Wd dC dI [] (fun _ => True) [] U)) (va_Ql (fun (r : Int64) (u : Unit) => (¬ Va0 = 5 ∧ r = 0) ∨ (Va0 = 5 ∧ r = (-1))) (fun (u : Unit) t => Wd dC dI [] (va_A [] sz) [] t) (va_A [] sz))  0 0 (va_A [] sz) := by
  refine Met.ofW (cc := cX10_firstValue) (maxL := 1) (ret := (some .long)) (by decide) rfl ?_
  intro p e s m args below meth c s₁ B hml hv
  obtain ⟨rfl, hsz, hP, hK, hD0⟩ := hv
  have hx := B.exec
  have hb := B.bytes
  have hr := B.returns
  have hts := atoms_spec (ws := w_z_X10_firstValue) B.pre
  have hown : s.vm.findClass RX10 = some m.cls := findClass_of_methodNamed B.named
  have hlocks := B.notSynchronized
  subst hsz
  have hD := hD0.self (sz := s.heap.size)
  generalize hAe : va_A [] s.heap.size = A at hD ⊢
  have hA : ∀ q : Nat, s.heap.size ≤ q → A q := fun q h => by rw [← hAe]; exact Or.inr h
  have hS : va_S A s.heap s.heap [] := va_S.rf
  have hl := lv_entry ([.int Va0]) (n := 1) (Nat.le_of_ble_eq_true rfl)
  rw [lg_entry_eq]
  generalize (lg_sl ([.int Va0]) ++ List.replicate (1 - (lg_sl ([.int Va0])).length) Slot.unset).toArray = ls at hl ⊢
  have hl : lv_has ls 1 [(0, .int Va0)] := hl
  refine lv_iload_n hx hb dX10_firstValue_0 rfl (lv_at hl 0 rfl) ?_
  refine lv_iconst (v := 5) hx hb dX10_firstValue_1 (by decide) ?_
  refine lv_icmp_ne (tgt := 11) hx hb dX10_firstValue_2 (by decide) (fun c1335 => ?_) (fun c1335 => ?_)
  · skip
    refine lv_lconst (v := 0) hx hb dX10_firstValue_11 (by decide) ?_
    have hP9 := hP.sub (ws' := []) [] rfl
    have hD9 := hD.sub (ws' := []) [] (by decide) rfl
    have hK9 := hK.sub (tys' := []) [] rfl
    exact W.lret (v := 0) hx hb hr (fun t ht hW => ⟨⟨0, (), rfl, (Or.inl ⟨c1335, rfl⟩), by rw [ht]; exact hP9, va_K.moved hW.alike hK9, hD9⟩, hS.F ht⟩) hS.2.2 dX10_firstValue_12
  · skip
    refine lv_ldc2 (v := (-1)) hx hb hown (hts (.constantLong RX10 96 (-1)) (by decide +kernel)) dX10_firstValue_5 ?_
    refine lv_goto (tgt := 12) hx hb dX10_firstValue_8 (by decide) ?_
    have hP9 := hP.sub (ws' := []) [] rfl
    have hD9 := hD.sub (ws' := []) [] (by decide) rfl
    have hK9 := hK.sub (tys' := []) [] rfl
    exact W.lret (v := (-1)) hx hb hr (fun t ht hW => ⟨⟨(-1), (), rfl, (Or.inr (⟨c1335, rfl⟩)), by rw [ht]; exact hP9, va_K.moved hW.alike hK9, hD9⟩, hS.F ht⟩) hS.2.2 dX10_firstValue_12

def l_z_X2_create : List Cond := [.fieldLink RX2 47 "HeapWorks$Heap" "made" "I", .fieldLink RX2 75 "HeapWorks$Heap" "there" "I", .fieldLink RX2 15 "HeapWorks$Heap" "type" "[I", .fieldLink RX2 19 "HeapWorks$Heap" "length" "[I", .fieldLink RX2 22 "HeapWorks$Heap" "first" "[I", .fieldLink RX2 62 "HeapWorks$Heap" "slots" "I", .fieldLink RX2 9 "HeapWorks$Heap" "types" "LHeapWorks$Types;", .methodLink RX2 78 yX10_use, .instanceMethod yX10_use, .selects RX10 yX10_use yX10_use, .initialized RX10, .methodLink RX2 51 yX10_slotsOf, .instanceMethod yX10_slotsOf, .selects RX10 yX10_slotsOf yX10_slotsOf, .methodLink RX2 82 yX10_kindAt, .instanceMethod yX10_kindAt, .selects RX10 yX10_kindAt yX10_kindAt, .fieldLink RX2 29 "HeapWorks$Heap" "link" "[Z", .fieldLink RX2 25 "HeapWorks$Heap" "value" "[J", .methodLink RX2 85 yX10_firstValue, .static yX10_firstValue, .code yX10_use cX10_use 2 none, .methodLink RX10 69 yX10_isClass, .instanceMethod yX10_isClass, .selects RX10 yX10_isClass yX10_isClass, .code yX10_isClass cX10_isClass 2 (some .boolean), .fieldLink RX10 65 "HeapWorks$Types" "count" "I", .code yX10_slotsOf cX10_slotsOf 3 (some .int), .methodLink RX10 86 yX10_isArray, .static yX10_isArray, .code yX10_isArray cX10_isArray 1 (some .boolean), .code yX10_kindAt cX10_kindAt 3 (some .int), .code yX10_firstValue cX10_firstValue 1 (some .long), .constantLong RX10 96 (-1)]
def w_z_X2_create : List Cond := .code yX2_create cX2_create 7 (some .int) :: (l_z_X2_create ++ ((wsX20 ++ wsX100)))
theorem in_z_X2_create_X2 : ∀ w ∈ wsX20, w ∈ w_z_X2_create := fun w h => List.mem_cons_of_mem _ (List.mem_append_right _ (List.mem_append_left _ h))
theorem in_z_X2_create_X10 : ∀ w ∈ wsX100, w ∈ w_z_X2_create := fun w h => List.mem_cons_of_mem _ (List.mem_append_right _ (List.mem_append_right _ (h)))
theorem g_z_X2_create_z_X10_use_78 : GoodIn w_z_X2_create (wsV RX2 78 RX10 yX10_use w_z_X10_use) := goodIn_app (goodIn_sub (by decide +kernel) (by decide +kernel)) (goodIn_ca (goodIn_sub (by decide +kernel) (by decide +kernel)) (goodIn_in in_z_X2_create_X10 gd_X10))
theorem g_z_X2_create_z_X10_slotsOf_51 : GoodIn w_z_X2_create (wsV RX2 51 RX10 yX10_slotsOf w_z_X10_slotsOf) := goodIn_app (goodIn_sub (by decide +kernel) (by decide +kernel)) (goodIn_sub (by decide +kernel) (by decide +kernel))
theorem g_z_X2_create_z_X10_kindAt_82 : GoodIn w_z_X2_create (wsV RX2 82 RX10 yX10_kindAt w_z_X10_kindAt) := goodIn_app (goodIn_sub (by decide +kernel) (by decide +kernel)) (goodIn_sub (by decide +kernel) (by decide +kernel))
theorem g_z_X2_create_z_X10_firstValue_85 : GoodIn w_z_X2_create (va_wsS RX2 85 yX10_firstValue w_z_X10_firstValue) := goodIn_app (goodIn_sub (by decide +kernel) (by decide +kernel)) (goodIn_sub (by decide +kernel) (by decide +kernel))
set_option maxHeartbeats 4000000 in
set_option maxRecDepth 100000 in
theorem z_X2_create (l : Launch) (dC : Nat → ClassId) (dI : Nat → Nat → Nat) (sz : Nat) (Ad0 : Nat) (Fa0 : Nat → Int32) (Ka0 : ClassId) (Ad1 : Nat) (Fa1 : Nat → Int32) (Ka1 : ClassId) (Ad2 : Nat) (Fa2 : Nat → Int32) (Ka2 : ClassId) (Ad3 : Nat) (Fa3 : Nat → Int64) (Ka3 : ClassId) (Ad4 : Nat) (Fa4 : Nat → Int32) (Ka4 : ClassId) (Ad5 : Nat) (Fs0 : List Value) (Ad6 : Nat) (Fs1 : List Value) (Va0 : Int32) (Va1 : Int32) (k_Fs0 : fh Fs0 18 [(0, .int 0)]) (k_Fs1 : fh Fs1 14 [(0, .ref Ad5), (1, .int 0), (2, .int 0), (3, .int 0), (4, .ref Ad0), (5, .ref Ad1), (6, .ref Ad2), (7, .ref Ad3), (8, .ref Ad4)]) (gv_Va0 : (20 : Int) ≤ Va0.toInt ∧ Va0.toInt ≤ 24) (gv_Va1 : (0 : Int) ≤ Va1.toInt ∧ Va1.toInt ≤ 60) : Met l yX2_create w_z_X2_create ({ frames := 2, cells := 0, slots := 0, locals := 42 }) (va_Pc [.ref Ad6, .int Va0, .int Va1] (fun U => U.heap.size = sz ∧ Wd dC dI [(Ka0, .int), (Ka1, .int), (Ka2, .int), (Ka3, .long), (Ka4, .boolean)] (fun _ => True) [(Ad0, .inl (Ka0, 400, .inl Fa0)), (Ad1, .inl (Ka1, 400, .inl Fa1)), (Ad2, .inl (Ka2, 400, .inl Fa2)), (Ad3, .inl (Ka3, 4000, .inr (.inl Fa3))), (Ad4, .inl (Ka4, 4000, .inl Fa4)), (Ad5, .inr (13, Fs0)), (Ad6, .inr (5, Fs1))] U)) (va_Qi (fun (r : Int32) (u : (Nat → Int32) × (Nat → Int32) × (Nat → Int32) × (Nat → Int64) × (Nat → Int32) × List Value) => (¬ Va0 < 0 ∧ 0 ≤ Va0 ∧ ¬ Va0 < 20 ∧ r = 0 ∧ ow Fs1 (u.2.2.2.2.2) 14 [1, 2, 3] [(0, .ref Ad5), (4, .ref Ad0), (5, .ref Ad1), (6, .ref Ad2), (7, .ref Ad3), (8, .ref Ad4)] ∧ (u.1) (0 : Int32).toNatClampNeg = Va0 ∧ (u.2.1) (0 : Int32).toNatClampNeg = Va1 ∧ (u.2.2.1) (0 : Int32).toNatClampNeg = 0)) (fun (u : (Nat → Int32) × (Nat → Int32) × (Nat → Int32) × (Nat → Int64) × (Nat → Int32) × List Value) t => Wd dC dI [(Ka0, .int), (Ka1, .int), (Ka2, .int), (Ka3, .long), (Ka4, .boolean)] (va_A [(Ad0, .inl (Ka0, 400, .inl Fa0)), (Ad1, .inl (Ka1, 400, .inl Fa1)), (Ad2, .inl (Ka2, 400, .inl Fa2)), (Ad3, .inl (Ka3, 4000, .inr (.inl Fa3))), (Ad4, .inl (Ka4, 4000, .inl Fa4)), (Ad5, .inr (13, Fs0)), (Ad6, .inr (5, Fs1))] sz) [(Ad0, .inl (Ka0, 400, .inl ((u.1)))), (Ad1, .inl (Ka1, 400, .inl ((u.2.1)))), (Ad2, .inl (Ka2, 400, .inl ((u.2.2.1)))), (Ad3, .inl (Ka3, 4000, .inr (.inl ((u.2.2.2.1))))), (Ad4, .inl (Ka4, 4000, .inl ((u.2.2.2.2.1)))), (Ad5, .inr (13, Fs0)), (Ad6, .inr (5, (u.2.2.2.2.2)))] t) (va_A [(Ad0, .inl (Ka0, 400, .inl Fa0)), (Ad1, .inl (Ka1, 400, .inl Fa1)), (Ad2, .inl (Ka2, 400, .inl Fa2)), (Ad3, .inl (Ka3, 4000, .inr (.inl Fa3))), (Ad4, .inl (Ka4, 4000, .inl Fa4)), (Ad5, .inr (13, Fs0)), (Ad6, .inr (5, Fs1))] sz))  0 0 (va_A [(Ad0, .inl (Ka0, 400, .inl Fa0)), (Ad1, .inl (Ka1, 400, .inl Fa1)), (Ad2, .inl (Ka2, 400, .inl Fa2)), (Ad3, .inl (Ka3, 4000, .inr (.inl Fa3))), (Ad4, .inl (Ka4, 4000, .inl Fa4)), (Ad5, .inr (13, Fs0)), (Ad6, .inr (5, Fs1))] sz) := by
  refine Met.ofW (cc := cX2_create) (maxL := 7) (ret := (some .int)) (by decide) rfl ?_
  intro p e s m args below meth c s₁ B hml hv
  obtain ⟨rfl, hsz, hP, hK, hD0⟩ := hv
  have hx := B.exec
  have hb := B.bytes
  have hr := B.returns
  have hts := atoms_spec (ws := w_z_X2_create) B.pre
  have hown : s.vm.findClass RX2 = some m.cls := findClass_of_methodNamed B.named
  have hlocks := B.notSynchronized
  subst hsz
  have hD := hD0.self (sz := s.heap.size)
  generalize hAe : va_A [(Ad0, .inl (Ka0, 400, .inl Fa0)), (Ad1, .inl (Ka1, 400, .inl Fa1)), (Ad2, .inl (Ka2, 400, .inl Fa2)), (Ad3, .inl (Ka3, 4000, .inr (.inl Fa3))), (Ad4, .inl (Ka4, 4000, .inl Fa4)), (Ad5, .inr (13, Fs0)), (Ad6, .inr (5, Fs1))] s.heap.size = A at hD ⊢
  have hA : ∀ q : Nat, s.heap.size ≤ q → A q := fun q h => by rw [← hAe]; exact Or.inr h
  have hS : va_S A s.heap s.heap [] := va_S.rf
  have hl := lv_entry ([.ref Ad6, .int Va0, .int Va1]) (n := 7) (Nat.le_of_ble_eq_true rfl)
  rw [lg_entry_eq]
  generalize (lg_sl ([.ref Ad6, .int Va0, .int Va1]) ++ List.replicate (7 - (lg_sl ([.ref Ad6, .int Va0, .int Va1])).length) Slot.unset).toArray = ls at hl ⊢
  have hl : lv_has ls 7 [(0, .ref Ad6), (1, .int Va0), (2, .int Va1)] := hl
  have o_Fs0 := ow_0 k_Fs0
  have o_Fs1 := ow_0 k_Fs1
  refine lv_aload_n hx hb dX2_create_0 rfl (lv_at hl 0 rfl) ?_
  refine va_get (D := (dC, dI)) (ci := 5) (v := .int 0) (C := RX2) (T := TX2) (N := 14) hx hb hts (in_z_X2_create_X2) hown hK hP 6 rfl rfl 1 (by decide) (hts (.fieldLink RX2 47 "HeapWorks$Heap" "made" "I") (by decide +kernel)) (fun _ h9 => h9) (ow_at o_Fs1 1 rfl) dX2_create_1 ?_
  refine lv_istore_n (lv' := [(3, .int 0), (0, .ref Ad6), (1, .int Va0), (2, .int Va1)]) hx hb dX2_create_4 rfl hl (by decide) rfl (fun ls hl => ?_)
  refine lv_aload_n hx hb dX2_create_5 rfl (lv_at hl 1 rfl) ?_
  refine lv_dup hx hb dX2_create_6 rfl ?_
  refine va_get (D := (dC, dI)) (ci := 5) (v := .int 0) (C := RX2) (T := TX2) (N := 14) hx hb hts (in_z_X2_create_X2) hown hK hP 6 rfl rfl 1 (by decide) (hts (.fieldLink RX2 47 "HeapWorks$Heap" "made" "I") (by decide +kernel)) (fun _ h9 => h9) (ow_at o_Fs1 1 rfl) dX2_create_7 ?_
  refine lv_iconst (v := 1) hx hb dX2_create_10 (by decide) ?_
  refine lv_iadd hx hb dX2_create_11  ?_
  refine lv_topi (fun x1468 ex1468 => ?_)
  obtain rfl : x1468 = 1 := ex1468.trans (by decide)
  refine va_put (D := (dC, dI)) (ci := 5) (v := .int 1) (ty := .int) (C := RX2) (T := TX2) (N := 14) hx hb hts (in_z_X2_create_X2) tyX2 tyX2_ok nmX2 hown hK hP hD hS 6 rfl rfl 1 (by decide) (hts (.fieldLink RX2 47 "HeapWorks$Heap" "made" "I") (by decide +kernel)) (fun _ h9 => h9) rfl (by decide +kernel) rfl rfl (by rw [o_Fs1.2.1]; decide) dX2_create_12 (fun H locs hP hD hS => ?_)
  have hP : va_P (dC, dI) vwCl [(Ad0, .inl (Ka0, 400, .inl Fa0)), (Ad1, .inl (Ka1, 400, .inl Fa1)), (Ad2, .inl (Ka2, 400, .inl Fa2)), (Ad3, .inl (Ka3, 4000, .inr (.inl Fa3))), (Ad4, .inl (Ka4, 4000, .inl Fa4)), (Ad5, .inr (13, Fs0)), (Ad6, .inr (5, (Fs1.set 1 (.int 1))))] H := hP
  have hD : va_D A [(Ad0, .inl (Ka0, 400, .inl Fa0)), (Ad1, .inl (Ka1, 400, .inl Fa1)), (Ad2, .inl (Ka2, 400, .inl Fa2)), (Ad3, .inl (Ka3, 4000, .inr (.inl Fa3))), (Ad4, .inl (Ka4, 4000, .inl Fa4)), (Ad5, .inr (13, Fs0)), (Ad6, .inr (5, (Fs1.set 1 (.int 1))))] := hD
  have o_s1469 := ow_set o_Fs1 1 (.int 1) (by decide) (l' := [(1, .int 1), (0, .ref Ad5), (2, .int 0), (3, .int 0), (4, .ref Ad0), (5, .ref Ad1), (6, .ref Ad2), (7, .ref Ad3), (8, .ref Ad4)]) (w' := [1]) rfl rfl
  generalize (Fs1.set 1 (.int 1)) = s1469 at hP hD o_s1469
  refine lv_aload_n hx hb dX2_create_15 rfl (lv_at hl 1 rfl) ?_
  refine lv_dup hx hb dX2_create_16 rfl ?_
  refine va_get (D := (dC, dI)) (ci := 5) (v := .int 0) (C := RX2) (T := TX2) (N := 14) hx hb hts (in_z_X2_create_X2) hown hK hP 6 rfl rfl 2 (by decide) (hts (.fieldLink RX2 75 "HeapWorks$Heap" "there" "I") (by decide +kernel)) (fun _ h9 => h9) (ow_at o_s1469 2 rfl) dX2_create_17 ?_
  refine lv_iconst (v := 1) hx hb dX2_create_20 (by decide) ?_
  refine lv_iadd hx hb dX2_create_21  ?_
  refine lv_topi (fun x1470 ex1470 => ?_)
  obtain rfl : x1470 = 1 := ex1470.trans (by decide)
  refine va_put (D := (dC, dI)) (ci := 5) (v := .int 1) (ty := .int) (C := RX2) (T := TX2) (N := 14) hx hb hts (in_z_X2_create_X2) tyX2 tyX2_ok nmX2 hown hK hP hD hS 6 rfl rfl 2 (by decide) (hts (.fieldLink RX2 75 "HeapWorks$Heap" "there" "I") (by decide +kernel)) (fun _ h9 => h9) rfl (by decide +kernel) rfl rfl (by rw [o_s1469.2.1]; decide) dX2_create_22 (fun H locs hP hD hS => ?_)
  have hP : va_P (dC, dI) vwCl [(Ad0, .inl (Ka0, 400, .inl Fa0)), (Ad1, .inl (Ka1, 400, .inl Fa1)), (Ad2, .inl (Ka2, 400, .inl Fa2)), (Ad3, .inl (Ka3, 4000, .inr (.inl Fa3))), (Ad4, .inl (Ka4, 4000, .inl Fa4)), (Ad5, .inr (13, Fs0)), (Ad6, .inr (5, (s1469.set 2 (.int 1))))] H := hP
  have hD : va_D A [(Ad0, .inl (Ka0, 400, .inl Fa0)), (Ad1, .inl (Ka1, 400, .inl Fa1)), (Ad2, .inl (Ka2, 400, .inl Fa2)), (Ad3, .inl (Ka3, 4000, .inr (.inl Fa3))), (Ad4, .inl (Ka4, 4000, .inl Fa4)), (Ad5, .inr (13, Fs0)), (Ad6, .inr (5, (s1469.set 2 (.int 1))))] := hD
  have o_s1471 := ow_set o_s1469 2 (.int 1) (by decide) (l' := [(2, .int 1), (1, .int 1), (0, .ref Ad5), (3, .int 0), (4, .ref Ad0), (5, .ref Ad1), (6, .ref Ad2), (7, .ref Ad3), (8, .ref Ad4)]) (w' := [2, 1]) rfl rfl
  generalize (s1469.set 2 (.int 1)) = s1471 at hP hD o_s1471
  refine lv_aload_n hx hb dX2_create_25 rfl (lv_at hl 1 rfl) ?_
  refine va_get (D := (dC, dI)) (ci := 5) (v := .ref Ad0) (C := RX2) (T := TX2) (N := 14) hx hb hts (in_z_X2_create_X2) hown hK hP 6 rfl rfl 4 (by decide) (hts (.fieldLink RX2 15 "HeapWorks$Heap" "type" "[I") (by decide +kernel)) (fun _ h9 => h9) (ow_at o_s1471 4 rfl) dX2_create_26 ?_
  refine lv_iload_n hx hb dX2_create_29 rfl (lv_at hl 0 rfl) ?_
  refine lv_iload_n hx hb dX2_create_30 rfl (lv_at hl 2 rfl) ?_
  refine va_iast hx hb hK hP hD hS 0 0 rfl rfl (show vp_in 0 400 from by unfold vp_in; decide) dX2_create_31 (fun H locs hP hD hS => ?_)
  have hP : va_P (dC, dI) vwCl [(Ad0, .inl (Ka0, 400, .inl (upd Fa0 (0 : Int32).toNatClampNeg Va0))), (Ad1, .inl (Ka1, 400, .inl Fa1)), (Ad2, .inl (Ka2, 400, .inl Fa2)), (Ad3, .inl (Ka3, 4000, .inr (.inl Fa3))), (Ad4, .inl (Ka4, 4000, .inl Fa4)), (Ad5, .inr (13, Fs0)), (Ad6, .inr (5, s1471))] H := hP
  have hD : va_D A [(Ad0, .inl (Ka0, 400, .inl (upd Fa0 (0 : Int32).toNatClampNeg Va0))), (Ad1, .inl (Ka1, 400, .inl Fa1)), (Ad2, .inl (Ka2, 400, .inl Fa2)), (Ad3, .inl (Ka3, 4000, .inr (.inl Fa3))), (Ad4, .inl (Ka4, 4000, .inl Fa4)), (Ad5, .inr (13, Fs0)), (Ad6, .inr (5, s1471))] := hD
  have q1473 : (upd Fa0 (0 : Int32).toNatClampNeg Va0) (0 : Int32).toNatClampNeg = Va0 := pk_us
  generalize upd Fa0 (0 : Int32).toNatClampNeg Va0 = f1472 at hP hD q1473
  refine lv_aload_n hx hb dX2_create_32 rfl (lv_at hl 1 rfl) ?_
  refine va_get (D := (dC, dI)) (ci := 5) (v := .ref Ad1) (C := RX2) (T := TX2) (N := 14) hx hb hts (in_z_X2_create_X2) hown hK hP 6 rfl rfl 5 (by decide) (hts (.fieldLink RX2 19 "HeapWorks$Heap" "length" "[I") (by decide +kernel)) (fun _ h9 => h9) (ow_at o_s1471 5 rfl) dX2_create_33 ?_
  refine lv_iload_n hx hb dX2_create_36 rfl (lv_at hl 0 rfl) ?_
  refine lv_iload_n hx hb dX2_create_37 rfl (lv_at hl 3 rfl) ?_
  refine va_iast hx hb hK hP hD hS 1 1 rfl rfl (show vp_in 0 400 from by unfold vp_in; decide) dX2_create_38 (fun H locs hP hD hS => ?_)
  have hP : va_P (dC, dI) vwCl [(Ad0, .inl (Ka0, 400, .inl f1472)), (Ad1, .inl (Ka1, 400, .inl (upd Fa1 (0 : Int32).toNatClampNeg Va1))), (Ad2, .inl (Ka2, 400, .inl Fa2)), (Ad3, .inl (Ka3, 4000, .inr (.inl Fa3))), (Ad4, .inl (Ka4, 4000, .inl Fa4)), (Ad5, .inr (13, Fs0)), (Ad6, .inr (5, s1471))] H := hP
  have hD : va_D A [(Ad0, .inl (Ka0, 400, .inl f1472)), (Ad1, .inl (Ka1, 400, .inl (upd Fa1 (0 : Int32).toNatClampNeg Va1))), (Ad2, .inl (Ka2, 400, .inl Fa2)), (Ad3, .inl (Ka3, 4000, .inr (.inl Fa3))), (Ad4, .inl (Ka4, 4000, .inl Fa4)), (Ad5, .inr (13, Fs0)), (Ad6, .inr (5, s1471))] := hD
  have q1475 : (upd Fa1 (0 : Int32).toNatClampNeg Va1) (0 : Int32).toNatClampNeg = Va1 := pk_us
  generalize upd Fa1 (0 : Int32).toNatClampNeg Va1 = f1474 at hP hD q1475
  refine lv_aload_n hx hb dX2_create_39 rfl (lv_at hl 1 rfl) ?_
  refine va_get (D := (dC, dI)) (ci := 5) (v := .ref Ad2) (C := RX2) (T := TX2) (N := 14) hx hb hts (in_z_X2_create_X2) hown hK hP 6 rfl rfl 6 (by decide) (hts (.fieldLink RX2 22 "HeapWorks$Heap" "first" "[I") (by decide +kernel)) (fun _ h9 => h9) (ow_at o_s1471 6 rfl) dX2_create_40 ?_
  refine lv_iload_n hx hb dX2_create_43 rfl (lv_at hl 0 rfl) ?_
  refine lv_aload_n hx hb dX2_create_44 rfl (lv_at hl 1 rfl) ?_
  refine va_get (D := (dC, dI)) (ci := 5) (v := .int 0) (C := RX2) (T := TX2) (N := 14) hx hb hts (in_z_X2_create_X2) hown hK hP 6 rfl rfl 3 (by decide) (hts (.fieldLink RX2 62 "HeapWorks$Heap" "slots" "I") (by decide +kernel)) (fun _ h9 => h9) (ow_at o_s1471 3 rfl) dX2_create_45 ?_
  refine va_iast hx hb hK hP hD hS 2 2 rfl rfl (show vp_in 0 400 from by unfold vp_in; decide) dX2_create_48 (fun H locs hP hD hS => ?_)
  have hP : va_P (dC, dI) vwCl [(Ad0, .inl (Ka0, 400, .inl f1472)), (Ad1, .inl (Ka1, 400, .inl f1474)), (Ad2, .inl (Ka2, 400, .inl (upd Fa2 (0 : Int32).toNatClampNeg 0))), (Ad3, .inl (Ka3, 4000, .inr (.inl Fa3))), (Ad4, .inl (Ka4, 4000, .inl Fa4)), (Ad5, .inr (13, Fs0)), (Ad6, .inr (5, s1471))] H := hP
  have hD : va_D A [(Ad0, .inl (Ka0, 400, .inl f1472)), (Ad1, .inl (Ka1, 400, .inl f1474)), (Ad2, .inl (Ka2, 400, .inl (upd Fa2 (0 : Int32).toNatClampNeg 0))), (Ad3, .inl (Ka3, 4000, .inr (.inl Fa3))), (Ad4, .inl (Ka4, 4000, .inl Fa4)), (Ad5, .inr (13, Fs0)), (Ad6, .inr (5, s1471))] := hD
  have q1477 : (upd Fa2 (0 : Int32).toNatClampNeg 0) (0 : Int32).toNatClampNeg = 0 := pk_us
  generalize upd Fa2 (0 : Int32).toNatClampNeg 0 = f1476 at hP hD q1477
  refine lv_aload_n hx hb dX2_create_49 rfl (lv_at hl 1 rfl) ?_
  refine va_get (D := (dC, dI)) (ci := 5) (v := .ref Ad5) (C := RX2) (T := TX2) (N := 14) hx hb hts (in_z_X2_create_X2) hown hK hP 6 rfl rfl 0 (by decide) (hts (.fieldLink RX2 9 "HeapWorks$Heap" "types" "LHeapWorks$Types;") (by decide +kernel)) (fun _ h9 => h9) (ow_at o_s1471 2 rfl) dX2_create_50 ?_
  refine lv_iload_n hx hb dX2_create_53 rfl (lv_at hl 2 rfl) ?_
  have hPc := hP.sub (ws' := [(Ad5, .inr (13, Fs0))]) [5] rfl
  have hDc := hD.sub (ws' := [(Ad5, .inr (13, Fs0))]) [5] (by decide) rfl
  have hKc := hK.sub (tys' := []) [] rfl
  have hFc := va_free (wc := [(Ad5, .inr (13, Fs0))]) hD hS hA [5] rfl
  refine va_callv (va_runV (As := [.int Va0]) (rest := []) ⟨hx, hb, hml, hown, hts⟩ (z_X10_use l dC dI H.size Ad5 Fs0 Va0 (fh_sub o_Fs0.2 [0] rfl) ) (cwV 1 hts g_z_X2_create_z_X10_use_78 rfl rfl rfl (by decide +kernel) ⟨Nat.le_of_ble_eq_true rfl, Nat.le_of_ble_eq_true rfl⟩) ⟨fun a U g mk q => by obtain ⟨q0, q1, qP, qK, qD⟩ := q; exact ⟨q0, q1, qP, va_K.moved (u := U) (U := U.calling g mk a) (Vm.Alike.refl U.vm) qK, qD⟩, va_recv hK hP (ci := 13) (q0 := 5) rfl rfl, fun U hU hW => ⟨rfl, by rw [hU], by rw [hU]; exact hPc, va_K.moved hW.alike hKc, hDc.weaken (fun _ _ _ _ => trivial)⟩⟩ rfl rfl hl.1 rfl (lv_room (Nat.le_of_ble_eq_true rfl)) dX2_create_54 ⟨Nat.le_of_ble_eq_true rfl, Nat.le_of_ble_eq_true rfl⟩) hS (fun q _ h => hFc q h) hFc (fun u t H1 locs ht hvm hw hB hz1 hk1 hS => ?_)
  obtain ⟨hP1, hK1, hD1⟩ := hB
  rw [ht] at hP1
  try dsimp only at hw
  obtain ⟨hP, hD⟩ := va_join (wr := [(Ad0, .inl (Ka0, 400, .inl f1472)), (Ad1, .inl (Ka1, 400, .inl f1474)), (Ad2, .inl (Ka2, 400, .inl f1476)), (Ad3, .inl (Ka3, 4000, .inr (.inl Fa3))), (Ad4, .inl (Ka4, 4000, .inl Fa4)), (Ad6, .inr (5, s1471))]) (w1 := [(Ad5, .inr (13, Fs0))]) hP hD [5] [0, 1, 2, 3, 4, 6] rfl rfl (by decide) (by decide) hk1 hFc hP1 hD1
  have hK := hK.sub (tys' := [(Ka0, .int), (Ka1, .int), (Ka2, .int), (Ka3, .long), (Ka4, .boolean)]) [0, 1, 2, 3, 4] rfl
  generalize H1 = H at hP hS ⊢
  have hP : va_P (dC, dI) vwCl [(Ad0, .inl (Ka0, 400, .inl f1472)), (Ad1, .inl (Ka1, 400, .inl f1474)), (Ad2, .inl (Ka2, 400, .inl f1476)), (Ad3, .inl (Ka3, 4000, .inr (.inl Fa3))), (Ad4, .inl (Ka4, 4000, .inl Fa4)), (Ad6, .inr (5, s1471)), (Ad5, .inr (13, Fs0))] H := hP
  have hD : va_D A [(Ad0, .inl (Ka0, 400, .inl f1472)), (Ad1, .inl (Ka1, 400, .inl f1474)), (Ad2, .inl (Ka2, 400, .inl f1476)), (Ad3, .inl (Ka3, 4000, .inr (.inl Fa3))), (Ad4, .inl (Ka4, 4000, .inl Fa4)), (Ad6, .inr (5, s1471)), (Ad5, .inr (13, Fs0))] := hD
  rcases hw with c1488 | ⟨c1489, c1490⟩
  · exact (by exfalso; (try simp only [i_lt, i_le, i_eq, kc_0] at gv_Va0 c1488); omega)
  · skip
    refine lv_aload_n hx hb dX2_create_57 rfl (lv_at hl 1 rfl) ?_
    refine va_get (D := (dC, dI)) (ci := 5) (v := .ref Ad5) (C := RX2) (T := TX2) (N := 14) hx hb hts (in_z_X2_create_X2) hown hK hP 5 rfl rfl 0 (by decide) (hts (.fieldLink RX2 9 "HeapWorks$Heap" "types" "LHeapWorks$Types;") (by decide +kernel)) (fun _ h9 => h9) (ow_at o_s1471 2 rfl) dX2_create_58 ?_
    refine lv_iload_n hx hb dX2_create_61 rfl (lv_at hl 2 rfl) ?_
    refine lv_iload_n hx hb dX2_create_62 rfl (lv_at hl 3 rfl) ?_
    have hPc := hP.sub (ws' := []) [] rfl
    have hDc := hD.sub (ws' := []) [] (by decide) rfl
    have hKc := hK.sub (tys' := []) [] rfl
    have hFc := va_free (wc := []) hD hS hA [] rfl
    refine va_calli (va_runV (As := [.int Va0, .int Va1]) (rest := []) ⟨hx, hb, hml, hown, hts⟩ (z_X10_slotsOf l dC dI H.size Ad5 Va0 Va1  (by (try simp only [i_lt, i_le, i_eq, kc_0] at gv_Va0 c1489 c1490); omega) (by (try simp only [i_lt, i_le, i_eq] at gv_Va1); omega)) (cwV 2 hts g_z_X2_create_z_X10_slotsOf_51 rfl rfl rfl (by decide +kernel) ⟨Nat.le_of_ble_eq_true rfl, Nat.le_of_ble_eq_true rfl⟩) ⟨fun a U g mk q => by obtain ⟨q0, q1, qP, qK, qD⟩ := q; exact ⟨q0, q1, qP, va_K.moved (u := U) (U := U.calling g mk a) (Vm.Alike.refl U.vm) qK, qD⟩, va_recv hK hP (ci := 13) (q0 := 6) rfl rfl, fun U hU hW => ⟨rfl, by rw [hU], by rw [hU]; exact hPc, va_K.moved hW.alike hKc, hDc.weaken (fun _ _ _ _ => trivial)⟩⟩ rfl rfl hl.1 rfl (lv_room (Nat.le_of_ble_eq_true rfl)) dX2_create_63 ⟨Nat.le_of_ble_eq_true rfl, Nat.le_of_ble_eq_true rfl⟩) hS (fun q _ h => hFc q h) hFc (fun r1505 u t H1 locs ht hvm hw hB hz1 hk1 hS => ?_)
    obtain ⟨hP1, hK1, hD1⟩ := hB
    rw [ht] at hP1
    try dsimp only at hw
    obtain ⟨hP, hD⟩ := va_join (wr := [(Ad0, .inl (Ka0, 400, .inl f1472)), (Ad1, .inl (Ka1, 400, .inl f1474)), (Ad2, .inl (Ka2, 400, .inl f1476)), (Ad3, .inl (Ka3, 4000, .inr (.inl Fa3))), (Ad4, .inl (Ka4, 4000, .inl Fa4)), (Ad6, .inr (5, s1471)), (Ad5, .inr (13, Fs0))]) (w1 := []) hP hD [] [0, 1, 2, 3, 4, 5, 6] rfl rfl (by decide) (by decide) hk1 hFc hP1 hD1
    have hK := hK.sub (tys' := [(Ka0, .int), (Ka1, .int), (Ka2, .int), (Ka3, .long), (Ka4, .boolean)]) [0, 1, 2, 3, 4] rfl
    generalize H1 = H at hP hS ⊢
    have hP : va_P (dC, dI) vwCl [(Ad0, .inl (Ka0, 400, .inl f1472)), (Ad1, .inl (Ka1, 400, .inl f1474)), (Ad2, .inl (Ka2, 400, .inl f1476)), (Ad3, .inl (Ka3, 4000, .inr (.inl Fa3))), (Ad4, .inl (Ka4, 4000, .inl Fa4)), (Ad6, .inr (5, s1471)), (Ad5, .inr (13, Fs0))] H := hP
    have hD : va_D A [(Ad0, .inl (Ka0, 400, .inl f1472)), (Ad1, .inl (Ka1, 400, .inl f1474)), (Ad2, .inl (Ka2, 400, .inl f1476)), (Ad3, .inl (Ka3, 4000, .inr (.inl Fa3))), (Ad4, .inl (Ka4, 4000, .inl Fa4)), (Ad6, .inr (5, s1471)), (Ad5, .inr (13, Fs0))] := hD
    obtain ⟨c1506, er1507⟩ := hw
    have qer1507 := er1507.symm
    subst qer1507
    refine lv_istore (lv' := [(4, .int Va1), (3, .int 0), (0, .ref Ad6), (1, .int Va0), (2, .int Va1)]) hx hb dX2_create_66 hl (by decide) rfl (fun ls hl => ?_)
    refine lv_iconst (v := 0) hx hb dX2_create_68 (by decide) ?_
    refine lv_istore (lv' := [(5, .int 0), (4, .int Va1), (3, .int 0), (0, .ref Ad6), (1, .int Va0), (2, .int Va1)]) hx hb dX2_create_69 hl (by decide) rfl (fun ls hl => ?_)
    have HL1 : ∀ (n j1609 : Nat) (x1610 : Int32) (f1611 : Nat → Int64) (f1612 : Nat → Int32) (s1613 : List Value), x1610 = nI j1609 → 0 ≤ j1609 → j1609 ≤ 60 → 61 ≤ j1609 + n → ∀ (H : Heap) (locs : List Loc) (ls : Array Slot), va_P (dC, dI) vwCl [(Ad0, .inl (Ka0, 400, .inl f1472)), (Ad1, .inl (Ka1, 400, .inl f1474)), (Ad2, .inl (Ka2, 400, .inl f1476)), (Ad3, .inl (Ka3, 4000, .inr (.inl f1611))), (Ad4, .inl (Ka4, 4000, .inl f1612)), (Ad6, .inr (5, s1613)), (Ad5, .inr (13, Fs0))] H → va_D A [(Ad0, .inl (Ka0, 400, .inl f1472)), (Ad1, .inl (Ka1, 400, .inl f1474)), (Ad2, .inl (Ka2, 400, .inl f1476)), (Ad3, .inl (Ka3, 4000, .inr (.inl f1611))), (Ad4, .inl (Ka4, 4000, .inl f1612)), (Ad6, .inr (5, s1613)), (Ad5, .inr (13, Fs0))] → va_S A s.heap H locs → ow Fs1 s1613 14 [1, 2, 3] [(3, .int x1610), (0, .ref Ad5), (4, .ref Ad0), (5, .ref Ad1), (6, .ref Ad2), (7, .ref Ad3), (8, .ref Ad4)] → lv_has ls 7 [(5, .int x1610), (4, .int Va1), (3, .int 0), (0, .ref Ad6), (1, .int Va0), (2, .int Va1)] → W p l e (headSpec w_z_X2_create ({ frames := 2, cells := 0, slots := 0, locals := 42 })).room s m ([.ref Ad6, .int Va0, .int Va1]).toArray below meth c H locs 0 0 (MQ below (va_Qi (fun (r : Int32) (u : (Nat → Int32) × (Nat → Int32) × (Nat → Int32) × (Nat → Int64) × (Nat → Int32) × List Value) => (¬ Va0 < 0 ∧ 0 ≤ Va0 ∧ ¬ Va0 < 20 ∧ r = 0 ∧ ow Fs1 (u.2.2.2.2.2) 14 [1, 2, 3] [(0, .ref Ad5), (4, .ref Ad0), (5, .ref Ad1), (6, .ref Ad2), (7, .ref Ad3), (8, .ref Ad4)] ∧ (u.1) (0 : Int32).toNatClampNeg = Va0 ∧ (u.2.1) (0 : Int32).toNatClampNeg = Va1 ∧ (u.2.2.1) (0 : Int32).toNatClampNeg = 0)) (fun (u : (Nat → Int32) × (Nat → Int32) × (Nat → Int32) × (Nat → Int64) × (Nat → Int32) × List Value) t => Wd dC dI [(Ka0, .int), (Ka1, .int), (Ka2, .int), (Ka3, .long), (Ka4, .boolean)] A [(Ad0, .inl (Ka0, 400, .inl ((u.1)))), (Ad1, .inl (Ka1, 400, .inl ((u.2.1)))), (Ad2, .inl (Ka2, 400, .inl ((u.2.2.1)))), (Ad3, .inl (Ka3, 4000, .inr (.inl ((u.2.2.2.1))))), (Ad4, .inl (Ka4, 4000, .inl ((u.2.2.2.2.1)))), (Ad5, .inr (13, Fs0)), (Ad6, .inr (5, (u.2.2.2.2.2)))] t) A) ([.ref Ad6, .int Va0, .int Va1]).toArray s 0 0 A) (F0 m 71 ls []) := by
      intro n
      induction n with
      | zero =>
        intro j1609 x1610 f1611 f1612 s1613 e1614 h1616 h1617 h1618
        exact absurd h1618 (by omega)
      | succ n ih =>
        intro j1609 x1610 f1611 f1612 s1613 e1614 h1616 h1617 h1618 H locs ls hP hD hS o_s1613 hl
        have t1615 : x1610.toInt = (j1609 : Int) := by rw [e1614]; exact nI_toInt (by omega)
        refine lv_iload hx hb dX2_create_71 (lv_at hl 0 rfl) ?_
        refine lv_iload hx hb dX2_create_73 (lv_at hl 1 rfl) ?_
        refine lv_icmp_ge (tgt := 140) hx hb dX2_create_75 (by decide) (fun c1619 => ?_) (fun c1619 => ?_)
        · skip
          refine lv_iload_n hx hb dX2_create_140 rfl (lv_at hl 2 rfl) ?_
          have hP9 := hP.sub (ws' := [(Ad0, .inl (Ka0, 400, .inl f1472)), (Ad1, .inl (Ka1, 400, .inl f1474)), (Ad2, .inl (Ka2, 400, .inl f1476)), (Ad3, .inl (Ka3, 4000, .inr (.inl f1611))), (Ad4, .inl (Ka4, 4000, .inl f1612)), (Ad5, .inr (13, Fs0)), (Ad6, .inr (5, s1613))]) [0, 1, 2, 3, 4, 6, 5] rfl
          have hD9 := hD.sub (ws' := [(Ad0, .inl (Ka0, 400, .inl f1472)), (Ad1, .inl (Ka1, 400, .inl f1474)), (Ad2, .inl (Ka2, 400, .inl f1476)), (Ad3, .inl (Ka3, 4000, .inr (.inl f1611))), (Ad4, .inl (Ka4, 4000, .inl f1612)), (Ad5, .inr (13, Fs0)), (Ad6, .inr (5, s1613))]) [0, 1, 2, 3, 4, 6, 5] (by decide) rfl
          have hK9 := hK.sub (tys' := [(Ka0, .int), (Ka1, .int), (Ka2, .int), (Ka3, .long), (Ka4, .boolean)]) [0, 1, 2, 3, 4] rfl
          exact W.iret (v := 0) hx hb hr (fun t ht hW => ⟨⟨0, (f1472, f1474, f1476, f1611, f1612, s1613), rfl, ⟨c1489, c1490, c1506, rfl, (ow_sub o_s1613 [1, 2, 3, 4, 5, 6] rfl), q1473, q1475, q1477⟩, by rw [ht]; exact hP9, va_K.moved hW.alike hK9, hD9⟩, hS.F ht⟩) hS.2.2 dX2_create_141
        · skip
          refine lv_aload_n hx hb dX2_create_78 rfl (lv_at hl 3 rfl) ?_
          refine va_get (D := (dC, dI)) (ci := 5) (v := .ref Ad5) (C := RX2) (T := TX2) (N := 14) hx hb hts (in_z_X2_create_X2) hown hK hP 5 rfl rfl 0 (by decide) (hts (.fieldLink RX2 9 "HeapWorks$Heap" "types" "LHeapWorks$Types;") (by decide +kernel)) (fun _ h9 => h9) (ow_at o_s1613 1 rfl) dX2_create_79 ?_
          refine lv_iload_n hx hb dX2_create_82 rfl (lv_at hl 4 rfl) ?_
          refine lv_iload hx hb dX2_create_83 (lv_at hl 0 rfl) ?_
          have hPc := hP.sub (ws' := []) [] rfl
          have hDc := hD.sub (ws' := []) [] (by decide) rfl
          have hKc := hK.sub (tys' := []) [] rfl
          have hFc := va_free (wc := []) hD hS hA [] rfl
          refine va_calli (va_runV (As := [.int Va0, .int x1610]) (rest := []) ⟨hx, hb, hml, hown, hts⟩ (z_X10_kindAt l dC dI H.size Ad5 Va0 x1610  (by (try simp only [i_lt, i_le, i_eq, kc_0, kc_20] at gv_Va0 c1489 c1490 c1506); omega) (by (try simp only [i_lt, i_le, i_eq] at t1615 h1617 h1616 c1619 gv_Va1); omega)) (cwV 2 hts g_z_X2_create_z_X10_kindAt_82 rfl rfl rfl (by decide +kernel) ⟨Nat.le_of_ble_eq_true rfl, Nat.le_of_ble_eq_true rfl⟩) ⟨fun a U g mk q => by obtain ⟨q0, q1, qP, qK, qD⟩ := q; exact ⟨q0, q1, qP, va_K.moved (u := U) (U := U.calling g mk a) (Vm.Alike.refl U.vm) qK, qD⟩, va_recv hK hP (ci := 13) (q0 := 6) rfl rfl, fun U hU hW => ⟨rfl, by rw [hU], by rw [hU]; exact hPc, va_K.moved hW.alike hKc, hDc.weaken (fun _ _ _ _ => trivial)⟩⟩ rfl rfl hl.1 rfl (lv_room (Nat.le_of_ble_eq_true rfl)) dX2_create_85 ⟨Nat.le_of_ble_eq_true rfl, Nat.le_of_ble_eq_true rfl⟩) hS (fun q _ h => hFc q h) hFc (fun r1625 u t H1 locs ht hvm hw hB hz1 hk1 hS => ?_)
          obtain ⟨hP1, hK1, hD1⟩ := hB
          rw [ht] at hP1
          try dsimp only at hw
          obtain ⟨hP, hD⟩ := va_join (wr := [(Ad0, .inl (Ka0, 400, .inl f1472)), (Ad1, .inl (Ka1, 400, .inl f1474)), (Ad2, .inl (Ka2, 400, .inl f1476)), (Ad3, .inl (Ka3, 4000, .inr (.inl f1611))), (Ad4, .inl (Ka4, 4000, .inl f1612)), (Ad6, .inr (5, s1613)), (Ad5, .inr (13, Fs0))]) (w1 := []) hP hD [] [0, 1, 2, 3, 4, 5, 6] rfl rfl (by decide) (by decide) hk1 hFc hP1 hD1
          have hK := hK.sub (tys' := [(Ka0, .int), (Ka1, .int), (Ka2, .int), (Ka3, .long), (Ka4, .boolean)]) [0, 1, 2, 3, 4] rfl
          generalize H1 = H at hP hS ⊢
          have hP : va_P (dC, dI) vwCl [(Ad0, .inl (Ka0, 400, .inl f1472)), (Ad1, .inl (Ka1, 400, .inl f1474)), (Ad2, .inl (Ka2, 400, .inl f1476)), (Ad3, .inl (Ka3, 4000, .inr (.inl f1611))), (Ad4, .inl (Ka4, 4000, .inl f1612)), (Ad6, .inr (5, s1613)), (Ad5, .inr (13, Fs0))] H := hP
          have hD : va_D A [(Ad0, .inl (Ka0, 400, .inl f1472)), (Ad1, .inl (Ka1, 400, .inl f1474)), (Ad2, .inl (Ka2, 400, .inl f1476)), (Ad3, .inl (Ka3, 4000, .inr (.inl f1611))), (Ad4, .inl (Ka4, 4000, .inl f1612)), (Ad6, .inr (5, s1613)), (Ad5, .inr (13, Fs0))] := hD
          obtain ⟨c1626, c1627, er1628⟩ := hw
          have er1625 := er1628
          refine lv_istore (lv' := [(6, .int r1625), (5, .int x1610), (4, .int Va1), (3, .int 0), (0, .ref Ad6), (1, .int Va0), (2, .int Va1)]) hx hb dX2_create_88 hl (by decide) rfl (fun ls hl => ?_)
          refine lv_aload_n hx hb dX2_create_90 rfl (lv_at hl 4 rfl) ?_
          refine va_get (D := (dC, dI)) (ci := 5) (v := .ref Ad4) (C := RX2) (T := TX2) (N := 14) hx hb hts (in_z_X2_create_X2) hown hK hP 5 rfl rfl 8 (by decide) (hts (.fieldLink RX2 29 "HeapWorks$Heap" "link" "[Z") (by decide +kernel)) (fun _ h9 => h9) (ow_at o_s1613 6 rfl) dX2_create_91 ?_
          refine lv_aload_n hx hb dX2_create_94 rfl (lv_at hl 4 rfl) ?_
          refine va_get (D := (dC, dI)) (ci := 5) (v := .int x1610) (C := RX2) (T := TX2) (N := 14) hx hb hts (in_z_X2_create_X2) hown hK hP 5 rfl rfl 3 (by decide) (hts (.fieldLink RX2 62 "HeapWorks$Heap" "slots" "I") (by decide +kernel)) (fun _ h9 => h9) (ow_at o_s1613 0 rfl) dX2_create_95 ?_
          refine lv_iload hx hb dX2_create_98 (lv_at hl 0 rfl) ?_
          refine lv_iconst (v := 5) hx hb dX2_create_100 (by decide) ?_
          refine lv_icmp_ne (tgt := 108) hx hb dX2_create_101 (by decide) (fun c1629 => ?_) (fun c1629 => ?_)
          · skip
            refine lv_iconst (v := 0) hx hb dX2_create_108 (by decide) ?_
            refine va_zast hx hb hK hP hD hS 4 4 rfl rfl (by rw [vp_in_iff]; (try simp only [i_lt, i_le, i_eq] at t1615 h1617 h1616 c1619 gv_Va1); omega) dX2_create_109 (fun H locs hP hD hS => ?_)
            have hP : va_P (dC, dI) vwCl [(Ad0, .inl (Ka0, 400, .inl f1472)), (Ad1, .inl (Ka1, 400, .inl f1474)), (Ad2, .inl (Ka2, 400, .inl f1476)), (Ad3, .inl (Ka3, 4000, .inr (.inl f1611))), (Ad4, .inl (Ka4, 4000, .inl (upd f1612 (x1610 : Int32).toNatClampNeg (vp_nar .boolean 0)))), (Ad6, .inr (5, s1613)), (Ad5, .inr (13, Fs0))] H := hP
            have hD : va_D A [(Ad0, .inl (Ka0, 400, .inl f1472)), (Ad1, .inl (Ka1, 400, .inl f1474)), (Ad2, .inl (Ka2, 400, .inl f1476)), (Ad3, .inl (Ka3, 4000, .inr (.inl f1611))), (Ad4, .inl (Ka4, 4000, .inl (upd f1612 (x1610 : Int32).toNatClampNeg (vp_nar .boolean 0)))), (Ad6, .inr (5, s1613)), (Ad5, .inr (13, Fs0))] := hD
            have q1631 : (upd f1612 (x1610 : Int32).toNatClampNeg (vp_nar .boolean 0)) (x1610 : Int32).toNatClampNeg = 0 := (pk_us.trans (by decide))
            generalize upd f1612 (x1610 : Int32).toNatClampNeg (vp_nar .boolean 0) = f1630 at hP hD q1631
            refine lv_aload_n hx hb dX2_create_110 rfl (lv_at hl 4 rfl) ?_
            refine va_get (D := (dC, dI)) (ci := 5) (v := .ref Ad3) (C := RX2) (T := TX2) (N := 14) hx hb hts (in_z_X2_create_X2) hown hK hP 5 rfl rfl 7 (by decide) (hts (.fieldLink RX2 25 "HeapWorks$Heap" "value" "[J") (by decide +kernel)) (fun _ h9 => h9) (ow_at o_s1613 5 rfl) dX2_create_111 ?_
            refine lv_aload_n hx hb dX2_create_114 rfl (lv_at hl 4 rfl) ?_
            refine va_get (D := (dC, dI)) (ci := 5) (v := .int x1610) (C := RX2) (T := TX2) (N := 14) hx hb hts (in_z_X2_create_X2) hown hK hP 5 rfl rfl 3 (by decide) (hts (.fieldLink RX2 62 "HeapWorks$Heap" "slots" "I") (by decide +kernel)) (fun _ h9 => h9) (ow_at o_s1613 0 rfl) dX2_create_115 ?_
            refine lv_iload hx hb dX2_create_118 (lv_at hl 0 rfl) ?_
            have hPc := hP.sub (ws' := []) [] rfl
            have hDc := hD.sub (ws' := []) [] (by decide) rfl
            have hKc := hK.sub (tys' := []) [] rfl
            have hFc := va_free (wc := []) hD hS hA [] rfl
            refine va_calll (va_runS (As := [.int r1625]) (rest := [.int x1610, .ref Ad3]) ⟨hx, hb, hml, hown, hts⟩ (z_X10_firstValue l dC dI H.size r1625  ) (va_cwS 1 hts g_z_X2_create_z_X10_firstValue_85 rfl rfl rfl (by decide +kernel) ⟨Nat.le_of_ble_eq_true rfl, Nat.le_of_ble_eq_true rfl⟩) ⟨fun a U g mk q => by obtain ⟨q0, q1, qP, qK, qD⟩ := q; exact ⟨q0, q1, qP, va_K.moved (u := U) (U := U.calling g mk a) (Vm.Alike.refl U.vm) qK, qD⟩, fun U hU hW => ⟨rfl, by rw [hU], by rw [hU]; exact hPc, va_K.moved hW.alike hKc, hDc.weaken (fun _ _ _ _ => trivial)⟩⟩ rfl rfl hl.1 rfl (lv_room (Nat.le_of_ble_eq_true rfl)) dX2_create_120 ⟨Nat.le_of_ble_eq_true rfl, Nat.le_of_ble_eq_true rfl⟩) hS (fun q _ h => hFc q h) hFc (fun r1633 u t H1 locs ht hvm hw hB hz1 hk1 hS => ?_)
            obtain ⟨hP1, hK1, hD1⟩ := hB
            rw [ht] at hP1
            try dsimp only at hw
            obtain ⟨hP, hD⟩ := va_join (wr := [(Ad0, .inl (Ka0, 400, .inl f1472)), (Ad1, .inl (Ka1, 400, .inl f1474)), (Ad2, .inl (Ka2, 400, .inl f1476)), (Ad3, .inl (Ka3, 4000, .inr (.inl f1611))), (Ad4, .inl (Ka4, 4000, .inl f1630)), (Ad6, .inr (5, s1613)), (Ad5, .inr (13, Fs0))]) (w1 := []) hP hD [] [0, 1, 2, 3, 4, 5, 6] rfl rfl (by decide) (by decide) hk1 hFc hP1 hD1
            have hK := hK.sub (tys' := [(Ka0, .int), (Ka1, .int), (Ka2, .int), (Ka3, .long), (Ka4, .boolean)]) [0, 1, 2, 3, 4] rfl
            generalize H1 = H at hP hS ⊢
            have hP : va_P (dC, dI) vwCl [(Ad0, .inl (Ka0, 400, .inl f1472)), (Ad1, .inl (Ka1, 400, .inl f1474)), (Ad2, .inl (Ka2, 400, .inl f1476)), (Ad3, .inl (Ka3, 4000, .inr (.inl f1611))), (Ad4, .inl (Ka4, 4000, .inl f1630)), (Ad6, .inr (5, s1613)), (Ad5, .inr (13, Fs0))] H := hP
            have hD : va_D A [(Ad0, .inl (Ka0, 400, .inl f1472)), (Ad1, .inl (Ka1, 400, .inl f1474)), (Ad2, .inl (Ka2, 400, .inl f1476)), (Ad3, .inl (Ka3, 4000, .inr (.inl f1611))), (Ad4, .inl (Ka4, 4000, .inl f1630)), (Ad6, .inr (5, s1613)), (Ad5, .inr (13, Fs0))] := hD
            rcases hw with ⟨c1634, er1635⟩ | ⟨c1636, er1637⟩
            · skip
              subst er1635
              refine va_last hx hb hK hP hD hS 3 3 rfl rfl (by rw [vp_in_iff]; (try simp only [i_lt, i_le, i_eq] at t1615 h1617 h1616 c1619 gv_Va1); omega) dX2_create_123 (fun H locs hP hD hS => ?_)
              have hP : va_P (dC, dI) vwCl [(Ad0, .inl (Ka0, 400, .inl f1472)), (Ad1, .inl (Ka1, 400, .inl f1474)), (Ad2, .inl (Ka2, 400, .inl f1476)), (Ad3, .inl (Ka3, 4000, .inr (.inl (vp_updL f1611 (x1610 : Int32).toNatClampNeg 0)))), (Ad4, .inl (Ka4, 4000, .inl f1630)), (Ad6, .inr (5, s1613)), (Ad5, .inr (13, Fs0))] H := hP
              have hD : va_D A [(Ad0, .inl (Ka0, 400, .inl f1472)), (Ad1, .inl (Ka1, 400, .inl f1474)), (Ad2, .inl (Ka2, 400, .inl f1476)), (Ad3, .inl (Ka3, 4000, .inr (.inl (vp_updL f1611 (x1610 : Int32).toNatClampNeg 0)))), (Ad4, .inl (Ka4, 4000, .inl f1630)), (Ad6, .inr (5, s1613)), (Ad5, .inr (13, Fs0))] := hD
              have q1639 : (vp_updL f1611 (x1610 : Int32).toNatClampNeg 0) (x1610 : Int32).toNatClampNeg = 0 := pk_uLs
              generalize vp_updL f1611 (x1610 : Int32).toNatClampNeg 0 = f1638 at hP hD q1639
              refine lv_aload_n hx hb dX2_create_124 rfl (lv_at hl 4 rfl) ?_
              refine lv_dup hx hb dX2_create_125 rfl ?_
              refine va_get (D := (dC, dI)) (ci := 5) (v := .int x1610) (C := RX2) (T := TX2) (N := 14) hx hb hts (in_z_X2_create_X2) hown hK hP 5 rfl rfl 3 (by decide) (hts (.fieldLink RX2 62 "HeapWorks$Heap" "slots" "I") (by decide +kernel)) (fun _ h9 => h9) (ow_at o_s1613 0 rfl) dX2_create_126 ?_
              refine lv_iconst (v := 1) hx hb dX2_create_129 (by decide) ?_
              refine lv_iadd hx hb dX2_create_130  ?_
              refine lv_topi (fun x1640 ex1640 => ?_)
              have tx1640 : x1640.toInt = (x1610 : Int32).toInt + (1 : Int32).toInt := by rw [ex1640]; exact i_add (by have bd_x1610 := i_bd x1610; (try simp only [i_lt, i_le, i_eq, kc_1] at t1615 h1617 h1616 c1619 gv_Va1 ⊢); omega) (by have bd_x1610 := i_bd x1610; (try simp only [i_lt, i_le, i_eq, kc_1] at t1615 h1617 h1616 c1619 gv_Va1 ⊢); omega)
              refine va_put (D := (dC, dI)) (ci := 5) (v := .int x1640) (ty := .int) (C := RX2) (T := TX2) (N := 14) hx hb hts (in_z_X2_create_X2) tyX2 tyX2_ok nmX2 hown hK hP hD hS 5 rfl rfl 3 (by decide) (hts (.fieldLink RX2 62 "HeapWorks$Heap" "slots" "I") (by decide +kernel)) (fun _ h9 => h9) rfl (by decide +kernel) rfl rfl (by rw [o_s1613.2.1]; decide) dX2_create_131 (fun H locs hP hD hS => ?_)
              have hP : va_P (dC, dI) vwCl [(Ad0, .inl (Ka0, 400, .inl f1472)), (Ad1, .inl (Ka1, 400, .inl f1474)), (Ad2, .inl (Ka2, 400, .inl f1476)), (Ad3, .inl (Ka3, 4000, .inr (.inl f1638))), (Ad4, .inl (Ka4, 4000, .inl f1630)), (Ad6, .inr (5, (s1613.set 3 (.int x1640)))), (Ad5, .inr (13, Fs0))] H := hP
              have hD : va_D A [(Ad0, .inl (Ka0, 400, .inl f1472)), (Ad1, .inl (Ka1, 400, .inl f1474)), (Ad2, .inl (Ka2, 400, .inl f1476)), (Ad3, .inl (Ka3, 4000, .inr (.inl f1638))), (Ad4, .inl (Ka4, 4000, .inl f1630)), (Ad6, .inr (5, (s1613.set 3 (.int x1640)))), (Ad5, .inr (13, Fs0))] := hD
              have o_s1641 := ow_set o_s1613 3 (.int x1640) (by decide) (l' := [(3, .int x1640), (0, .ref Ad5), (4, .ref Ad0), (5, .ref Ad1), (6, .ref Ad2), (7, .ref Ad3), (8, .ref Ad4)]) (w' := [3, 1, 2]) rfl rfl
              generalize (s1613.set 3 (.int x1640)) = s1641 at hP hD o_s1641
              obtain ⟨x1642, ex1642⟩ : ∃ y : Int32, y = x1610 + 1 := ⟨_, rfl⟩
              refine lv_iinc (v := x1642) (lv' := [(5, .int x1642), (6, .int r1625), (4, .int Va1), (3, .int 0), (0, .ref Ad6), (1, .int Va0), (2, .int Va1)]) hx hb dX2_create_134 hl (k := 1) rfl (by rw [ex1642]; rfl) (by decide) rfl (fun ls hl => ?_)
              refine lv_goto (tgt := 71) hx hb dX2_create_137 (by decide) ?_
              exact ih (j1609 + 1) x1642 f1638 f1630 s1641 (by rw [ex1642, e1614]; exact nI_1 _) (by omega) (by (try simp only [i_lt, i_le, i_eq, kc_1] at t1615 h1617 h1616 c1619 tx1640 gv_Va1); omega) (by omega) _ _ _ (hP.sub [0, 1, 2, 3, 4, 5, 6] rfl) (hD.sub [0, 1, 2, 3, 4, 5, 6] (by decide) rfl) hS (by have h9 : x1640 = x1642 := ex1640.trans ex1642.symm; rw [← h9]; exact (ow_w (ow_sub o_s1641 [0, 1, 2, 3, 4, 5, 6] rfl) (by decide))) (lv_sub hl [0, 2, 3, 4, 5, 6] rfl)
            · skip
              subst er1637
              refine va_last hx hb hK hP hD hS 3 3 rfl rfl (by rw [vp_in_iff]; (try simp only [i_lt, i_le, i_eq] at t1615 h1617 h1616 c1619 gv_Va1); omega) dX2_create_123 (fun H locs hP hD hS => ?_)
              have hP : va_P (dC, dI) vwCl [(Ad0, .inl (Ka0, 400, .inl f1472)), (Ad1, .inl (Ka1, 400, .inl f1474)), (Ad2, .inl (Ka2, 400, .inl f1476)), (Ad3, .inl (Ka3, 4000, .inr (.inl (vp_updL f1611 (x1610 : Int32).toNatClampNeg (-1))))), (Ad4, .inl (Ka4, 4000, .inl f1630)), (Ad6, .inr (5, s1613)), (Ad5, .inr (13, Fs0))] H := hP
              have hD : va_D A [(Ad0, .inl (Ka0, 400, .inl f1472)), (Ad1, .inl (Ka1, 400, .inl f1474)), (Ad2, .inl (Ka2, 400, .inl f1476)), (Ad3, .inl (Ka3, 4000, .inr (.inl (vp_updL f1611 (x1610 : Int32).toNatClampNeg (-1))))), (Ad4, .inl (Ka4, 4000, .inl f1630)), (Ad6, .inr (5, s1613)), (Ad5, .inr (13, Fs0))] := hD
              have q1644 : (vp_updL f1611 (x1610 : Int32).toNatClampNeg (-1)) (x1610 : Int32).toNatClampNeg = (-1) := pk_uLs
              generalize vp_updL f1611 (x1610 : Int32).toNatClampNeg (-1) = f1643 at hP hD q1644
              refine lv_aload_n hx hb dX2_create_124 rfl (lv_at hl 4 rfl) ?_
              refine lv_dup hx hb dX2_create_125 rfl ?_
              refine va_get (D := (dC, dI)) (ci := 5) (v := .int x1610) (C := RX2) (T := TX2) (N := 14) hx hb hts (in_z_X2_create_X2) hown hK hP 5 rfl rfl 3 (by decide) (hts (.fieldLink RX2 62 "HeapWorks$Heap" "slots" "I") (by decide +kernel)) (fun _ h9 => h9) (ow_at o_s1613 0 rfl) dX2_create_126 ?_
              refine lv_iconst (v := 1) hx hb dX2_create_129 (by decide) ?_
              refine lv_iadd hx hb dX2_create_130  ?_
              refine lv_topi (fun x1645 ex1645 => ?_)
              have tx1645 : x1645.toInt = (x1610 : Int32).toInt + (1 : Int32).toInt := by rw [ex1645]; exact i_add (by have bd_x1610 := i_bd x1610; (try simp only [i_lt, i_le, i_eq, kc_1] at t1615 h1617 h1616 c1619 gv_Va1 ⊢); omega) (by have bd_x1610 := i_bd x1610; (try simp only [i_lt, i_le, i_eq, kc_1] at t1615 h1617 h1616 c1619 gv_Va1 ⊢); omega)
              refine va_put (D := (dC, dI)) (ci := 5) (v := .int x1645) (ty := .int) (C := RX2) (T := TX2) (N := 14) hx hb hts (in_z_X2_create_X2) tyX2 tyX2_ok nmX2 hown hK hP hD hS 5 rfl rfl 3 (by decide) (hts (.fieldLink RX2 62 "HeapWorks$Heap" "slots" "I") (by decide +kernel)) (fun _ h9 => h9) rfl (by decide +kernel) rfl rfl (by rw [o_s1613.2.1]; decide) dX2_create_131 (fun H locs hP hD hS => ?_)
              have hP : va_P (dC, dI) vwCl [(Ad0, .inl (Ka0, 400, .inl f1472)), (Ad1, .inl (Ka1, 400, .inl f1474)), (Ad2, .inl (Ka2, 400, .inl f1476)), (Ad3, .inl (Ka3, 4000, .inr (.inl f1643))), (Ad4, .inl (Ka4, 4000, .inl f1630)), (Ad6, .inr (5, (s1613.set 3 (.int x1645)))), (Ad5, .inr (13, Fs0))] H := hP
              have hD : va_D A [(Ad0, .inl (Ka0, 400, .inl f1472)), (Ad1, .inl (Ka1, 400, .inl f1474)), (Ad2, .inl (Ka2, 400, .inl f1476)), (Ad3, .inl (Ka3, 4000, .inr (.inl f1643))), (Ad4, .inl (Ka4, 4000, .inl f1630)), (Ad6, .inr (5, (s1613.set 3 (.int x1645)))), (Ad5, .inr (13, Fs0))] := hD
              have o_s1646 := ow_set o_s1613 3 (.int x1645) (by decide) (l' := [(3, .int x1645), (0, .ref Ad5), (4, .ref Ad0), (5, .ref Ad1), (6, .ref Ad2), (7, .ref Ad3), (8, .ref Ad4)]) (w' := [3, 1, 2]) rfl rfl
              generalize (s1613.set 3 (.int x1645)) = s1646 at hP hD o_s1646
              obtain ⟨x1647, ex1647⟩ : ∃ y : Int32, y = x1610 + 1 := ⟨_, rfl⟩
              refine lv_iinc (v := x1647) (lv' := [(5, .int x1647), (6, .int r1625), (4, .int Va1), (3, .int 0), (0, .ref Ad6), (1, .int Va0), (2, .int Va1)]) hx hb dX2_create_134 hl (k := 1) rfl (by rw [ex1647]; rfl) (by decide) rfl (fun ls hl => ?_)
              refine lv_goto (tgt := 71) hx hb dX2_create_137 (by decide) ?_
              exact ih (j1609 + 1) x1647 f1643 f1630 s1646 (by rw [ex1647, e1614]; exact nI_1 _) (by omega) (by (try simp only [i_lt, i_le, i_eq, kc_1] at t1615 h1617 h1616 c1619 tx1645 gv_Va1); omega) (by omega) _ _ _ (hP.sub [0, 1, 2, 3, 4, 5, 6] rfl) (hD.sub [0, 1, 2, 3, 4, 5, 6] (by decide) rfl) hS (by have h9 : x1645 = x1647 := ex1645.trans ex1647.symm; rw [← h9]; exact (ow_w (ow_sub o_s1646 [0, 1, 2, 3, 4, 5, 6] rfl) (by decide))) (lv_sub hl [0, 2, 3, 4, 5, 6] rfl)
          · skip
            refine lv_iconst (v := 1) hx hb dX2_create_104 (by decide) ?_
            refine lv_goto (tgt := 109) hx hb dX2_create_105 (by decide) ?_
            refine va_zast hx hb hK hP hD hS 4 4 rfl rfl (by rw [vp_in_iff]; (try simp only [i_lt, i_le, i_eq] at t1615 h1617 h1616 c1619 gv_Va1); omega) dX2_create_109 (fun H locs hP hD hS => ?_)
            have hP : va_P (dC, dI) vwCl [(Ad0, .inl (Ka0, 400, .inl f1472)), (Ad1, .inl (Ka1, 400, .inl f1474)), (Ad2, .inl (Ka2, 400, .inl f1476)), (Ad3, .inl (Ka3, 4000, .inr (.inl f1611))), (Ad4, .inl (Ka4, 4000, .inl (upd f1612 (x1610 : Int32).toNatClampNeg (vp_nar .boolean 1)))), (Ad6, .inr (5, s1613)), (Ad5, .inr (13, Fs0))] H := hP
            have hD : va_D A [(Ad0, .inl (Ka0, 400, .inl f1472)), (Ad1, .inl (Ka1, 400, .inl f1474)), (Ad2, .inl (Ka2, 400, .inl f1476)), (Ad3, .inl (Ka3, 4000, .inr (.inl f1611))), (Ad4, .inl (Ka4, 4000, .inl (upd f1612 (x1610 : Int32).toNatClampNeg (vp_nar .boolean 1)))), (Ad6, .inr (5, s1613)), (Ad5, .inr (13, Fs0))] := hD
            have q1649 : (upd f1612 (x1610 : Int32).toNatClampNeg (vp_nar .boolean 1)) (x1610 : Int32).toNatClampNeg = 1 := (pk_us.trans (by decide))
            generalize upd f1612 (x1610 : Int32).toNatClampNeg (vp_nar .boolean 1) = f1648 at hP hD q1649
            refine lv_aload_n hx hb dX2_create_110 rfl (lv_at hl 4 rfl) ?_
            refine va_get (D := (dC, dI)) (ci := 5) (v := .ref Ad3) (C := RX2) (T := TX2) (N := 14) hx hb hts (in_z_X2_create_X2) hown hK hP 5 rfl rfl 7 (by decide) (hts (.fieldLink RX2 25 "HeapWorks$Heap" "value" "[J") (by decide +kernel)) (fun _ h9 => h9) (ow_at o_s1613 5 rfl) dX2_create_111 ?_
            refine lv_aload_n hx hb dX2_create_114 rfl (lv_at hl 4 rfl) ?_
            refine va_get (D := (dC, dI)) (ci := 5) (v := .int x1610) (C := RX2) (T := TX2) (N := 14) hx hb hts (in_z_X2_create_X2) hown hK hP 5 rfl rfl 3 (by decide) (hts (.fieldLink RX2 62 "HeapWorks$Heap" "slots" "I") (by decide +kernel)) (fun _ h9 => h9) (ow_at o_s1613 0 rfl) dX2_create_115 ?_
            refine lv_iload hx hb dX2_create_118 (lv_at hl 0 rfl) ?_
            have hPc := hP.sub (ws' := []) [] rfl
            have hDc := hD.sub (ws' := []) [] (by decide) rfl
            have hKc := hK.sub (tys' := []) [] rfl
            have hFc := va_free (wc := []) hD hS hA [] rfl
            refine va_calll (va_runS (As := [.int r1625]) (rest := [.int x1610, .ref Ad3]) ⟨hx, hb, hml, hown, hts⟩ (z_X10_firstValue l dC dI H.size r1625  ) (va_cwS 1 hts g_z_X2_create_z_X10_firstValue_85 rfl rfl rfl (by decide +kernel) ⟨Nat.le_of_ble_eq_true rfl, Nat.le_of_ble_eq_true rfl⟩) ⟨fun a U g mk q => by obtain ⟨q0, q1, qP, qK, qD⟩ := q; exact ⟨q0, q1, qP, va_K.moved (u := U) (U := U.calling g mk a) (Vm.Alike.refl U.vm) qK, qD⟩, fun U hU hW => ⟨rfl, by rw [hU], by rw [hU]; exact hPc, va_K.moved hW.alike hKc, hDc.weaken (fun _ _ _ _ => trivial)⟩⟩ rfl rfl hl.1 rfl (lv_room (Nat.le_of_ble_eq_true rfl)) dX2_create_120 ⟨Nat.le_of_ble_eq_true rfl, Nat.le_of_ble_eq_true rfl⟩) hS (fun q _ h => hFc q h) hFc (fun r1651 u t H1 locs ht hvm hw hB hz1 hk1 hS => ?_)
            obtain ⟨hP1, hK1, hD1⟩ := hB
            rw [ht] at hP1
            try dsimp only at hw
            obtain ⟨hP, hD⟩ := va_join (wr := [(Ad0, .inl (Ka0, 400, .inl f1472)), (Ad1, .inl (Ka1, 400, .inl f1474)), (Ad2, .inl (Ka2, 400, .inl f1476)), (Ad3, .inl (Ka3, 4000, .inr (.inl f1611))), (Ad4, .inl (Ka4, 4000, .inl f1648)), (Ad6, .inr (5, s1613)), (Ad5, .inr (13, Fs0))]) (w1 := []) hP hD [] [0, 1, 2, 3, 4, 5, 6] rfl rfl (by decide) (by decide) hk1 hFc hP1 hD1
            have hK := hK.sub (tys' := [(Ka0, .int), (Ka1, .int), (Ka2, .int), (Ka3, .long), (Ka4, .boolean)]) [0, 1, 2, 3, 4] rfl
            generalize H1 = H at hP hS ⊢
            have hP : va_P (dC, dI) vwCl [(Ad0, .inl (Ka0, 400, .inl f1472)), (Ad1, .inl (Ka1, 400, .inl f1474)), (Ad2, .inl (Ka2, 400, .inl f1476)), (Ad3, .inl (Ka3, 4000, .inr (.inl f1611))), (Ad4, .inl (Ka4, 4000, .inl f1648)), (Ad6, .inr (5, s1613)), (Ad5, .inr (13, Fs0))] H := hP
            have hD : va_D A [(Ad0, .inl (Ka0, 400, .inl f1472)), (Ad1, .inl (Ka1, 400, .inl f1474)), (Ad2, .inl (Ka2, 400, .inl f1476)), (Ad3, .inl (Ka3, 4000, .inr (.inl f1611))), (Ad4, .inl (Ka4, 4000, .inl f1648)), (Ad6, .inr (5, s1613)), (Ad5, .inr (13, Fs0))] := hD
            rcases hw with ⟨c1652, er1653⟩ | ⟨c1654, er1655⟩
            · exact (by exfalso; (try simp only [i_lt, i_le, i_eq, kc_5] at c1629 c1652); omega)
            · skip
              subst er1655
              refine va_last hx hb hK hP hD hS 3 3 rfl rfl (by rw [vp_in_iff]; (try simp only [i_lt, i_le, i_eq] at t1615 h1617 h1616 c1619 gv_Va1); omega) dX2_create_123 (fun H locs hP hD hS => ?_)
              have hP : va_P (dC, dI) vwCl [(Ad0, .inl (Ka0, 400, .inl f1472)), (Ad1, .inl (Ka1, 400, .inl f1474)), (Ad2, .inl (Ka2, 400, .inl f1476)), (Ad3, .inl (Ka3, 4000, .inr (.inl (vp_updL f1611 (x1610 : Int32).toNatClampNeg (-1))))), (Ad4, .inl (Ka4, 4000, .inl f1648)), (Ad6, .inr (5, s1613)), (Ad5, .inr (13, Fs0))] H := hP
              have hD : va_D A [(Ad0, .inl (Ka0, 400, .inl f1472)), (Ad1, .inl (Ka1, 400, .inl f1474)), (Ad2, .inl (Ka2, 400, .inl f1476)), (Ad3, .inl (Ka3, 4000, .inr (.inl (vp_updL f1611 (x1610 : Int32).toNatClampNeg (-1))))), (Ad4, .inl (Ka4, 4000, .inl f1648)), (Ad6, .inr (5, s1613)), (Ad5, .inr (13, Fs0))] := hD
              have q1657 : (vp_updL f1611 (x1610 : Int32).toNatClampNeg (-1)) (x1610 : Int32).toNatClampNeg = (-1) := pk_uLs
              generalize vp_updL f1611 (x1610 : Int32).toNatClampNeg (-1) = f1656 at hP hD q1657
              refine lv_aload_n hx hb dX2_create_124 rfl (lv_at hl 4 rfl) ?_
              refine lv_dup hx hb dX2_create_125 rfl ?_
              refine va_get (D := (dC, dI)) (ci := 5) (v := .int x1610) (C := RX2) (T := TX2) (N := 14) hx hb hts (in_z_X2_create_X2) hown hK hP 5 rfl rfl 3 (by decide) (hts (.fieldLink RX2 62 "HeapWorks$Heap" "slots" "I") (by decide +kernel)) (fun _ h9 => h9) (ow_at o_s1613 0 rfl) dX2_create_126 ?_
              refine lv_iconst (v := 1) hx hb dX2_create_129 (by decide) ?_
              refine lv_iadd hx hb dX2_create_130  ?_
              refine lv_topi (fun x1658 ex1658 => ?_)
              have tx1658 : x1658.toInt = (x1610 : Int32).toInt + (1 : Int32).toInt := by rw [ex1658]; exact i_add (by have bd_x1610 := i_bd x1610; (try simp only [i_lt, i_le, i_eq, kc_1] at t1615 h1617 h1616 c1619 gv_Va1 ⊢); omega) (by have bd_x1610 := i_bd x1610; (try simp only [i_lt, i_le, i_eq, kc_1] at t1615 h1617 h1616 c1619 gv_Va1 ⊢); omega)
              refine va_put (D := (dC, dI)) (ci := 5) (v := .int x1658) (ty := .int) (C := RX2) (T := TX2) (N := 14) hx hb hts (in_z_X2_create_X2) tyX2 tyX2_ok nmX2 hown hK hP hD hS 5 rfl rfl 3 (by decide) (hts (.fieldLink RX2 62 "HeapWorks$Heap" "slots" "I") (by decide +kernel)) (fun _ h9 => h9) rfl (by decide +kernel) rfl rfl (by rw [o_s1613.2.1]; decide) dX2_create_131 (fun H locs hP hD hS => ?_)
              have hP : va_P (dC, dI) vwCl [(Ad0, .inl (Ka0, 400, .inl f1472)), (Ad1, .inl (Ka1, 400, .inl f1474)), (Ad2, .inl (Ka2, 400, .inl f1476)), (Ad3, .inl (Ka3, 4000, .inr (.inl f1656))), (Ad4, .inl (Ka4, 4000, .inl f1648)), (Ad6, .inr (5, (s1613.set 3 (.int x1658)))), (Ad5, .inr (13, Fs0))] H := hP
              have hD : va_D A [(Ad0, .inl (Ka0, 400, .inl f1472)), (Ad1, .inl (Ka1, 400, .inl f1474)), (Ad2, .inl (Ka2, 400, .inl f1476)), (Ad3, .inl (Ka3, 4000, .inr (.inl f1656))), (Ad4, .inl (Ka4, 4000, .inl f1648)), (Ad6, .inr (5, (s1613.set 3 (.int x1658)))), (Ad5, .inr (13, Fs0))] := hD
              have o_s1659 := ow_set o_s1613 3 (.int x1658) (by decide) (l' := [(3, .int x1658), (0, .ref Ad5), (4, .ref Ad0), (5, .ref Ad1), (6, .ref Ad2), (7, .ref Ad3), (8, .ref Ad4)]) (w' := [3, 1, 2]) rfl rfl
              generalize (s1613.set 3 (.int x1658)) = s1659 at hP hD o_s1659
              obtain ⟨x1660, ex1660⟩ : ∃ y : Int32, y = x1610 + 1 := ⟨_, rfl⟩
              refine lv_iinc (v := x1660) (lv' := [(5, .int x1660), (6, .int r1625), (4, .int Va1), (3, .int 0), (0, .ref Ad6), (1, .int Va0), (2, .int Va1)]) hx hb dX2_create_134 hl (k := 1) rfl (by rw [ex1660]; rfl) (by decide) rfl (fun ls hl => ?_)
              refine lv_goto (tgt := 71) hx hb dX2_create_137 (by decide) ?_
              exact ih (j1609 + 1) x1660 f1656 f1648 s1659 (by rw [ex1660, e1614]; exact nI_1 _) (by omega) (by (try simp only [i_lt, i_le, i_eq, kc_1] at t1615 h1617 h1616 c1619 tx1658 gv_Va1); omega) (by omega) _ _ _ (hP.sub [0, 1, 2, 3, 4, 5, 6] rfl) (hD.sub [0, 1, 2, 3, 4, 5, 6] (by decide) rfl) hS (by have h9 : x1658 = x1660 := ex1658.trans ex1660.symm; rw [← h9]; exact (ow_w (ow_sub o_s1659 [0, 1, 2, 3, 4, 5, 6] rfl) (by decide))) (lv_sub hl [0, 2, 3, 4, 5, 6] rfl)
    exact HL1 61 0 (0) Fa3 Fa4 s1471 (by decide) (by omega) (by omega) (by omega) _ _ _ hP hD hS (ow_w (ow_sub o_s1471 [3, 2, 4, 5, 6, 7, 8] rfl) (by decide)) hl

def l_z_X10_slotsOf_1 : List Cond := [.methodLink RX10 86 yX10_isArray, .static yX10_isArray, .initialized RX10, .code yX10_isArray cX10_isArray 1 (some .boolean)]
def w_z_X10_slotsOf_1 : List Cond := .code yX10_slotsOf cX10_slotsOf 3 (some .int) :: (l_z_X10_slotsOf_1)
theorem g_z_X10_slotsOf_1_z_X10_isArray_86 : GoodIn w_z_X10_slotsOf_1 (wsS RX10 86 yX10_isArray w_z_X10_isArray) := goodIn_app (goodIn_sub (by decide +kernel) (by decide +kernel)) (goodIn_sub (by decide +kernel) (by decide +kernel))
set_option maxHeartbeats 4000000 in
set_option maxRecDepth 100000 in
theorem z_X10_slotsOf_1 (l : Launch) (dC : Nat → ClassId) (dI : Nat → Nat → Nat) (sz : Nat) (Br0 : Nat) (Va0 : Int32) (Va1 : Int32)  (gv_Va0 : (29 : Int) ≤ Va0.toInt ∧ Va0.toInt ≤ 29) (gv_Va1 : (0 : Int) ≤ Va1.toInt ∧ Va1.toInt ≤ 60) : Met l yX10_slotsOf w_z_X10_slotsOf_1 ({ frames := 1, cells := 0, slots := 0, locals := 20 }) (va_Pc [.ref Br0, .int Va0, .int Va1] (fun U => U.heap.size = sz ∧ Wd dC dI [] (fun _ => True) [] U)) (va_Qi (fun (r : Int32) (u : Unit) => (¬ Va0 < 20 ∧ r = Va1)) (fun (u : Unit) t => Wd dC dI [] (va_A [] sz) [] t) (va_A [] sz))  0 0 (va_A [] sz) := by
  refine Met.ofW (cc := cX10_slotsOf) (maxL := 3) (ret := (some .int)) (by decide) rfl ?_
  intro p e s m args below meth c s₁ B hml hv
  obtain ⟨rfl, hsz, hP, hK, hD0⟩ := hv
  have hx := B.exec
  have hb := B.bytes
  have hr := B.returns
  have hts := atoms_spec (ws := w_z_X10_slotsOf_1) B.pre
  have hown : s.vm.findClass RX10 = some m.cls := findClass_of_methodNamed B.named
  have hlocks := B.notSynchronized
  subst hsz
  have hD := hD0.self (sz := s.heap.size)
  generalize hAe : va_A [] s.heap.size = A at hD ⊢
  have hA : ∀ q : Nat, s.heap.size ≤ q → A q := fun q h => by rw [← hAe]; exact Or.inr h
  have hS : va_S A s.heap s.heap [] := va_S.rf
  have hl := lv_entry ([.ref Br0, .int Va0, .int Va1]) (n := 3) (Nat.le_of_ble_eq_true rfl)
  rw [lg_entry_eq]
  generalize (lg_sl ([.ref Br0, .int Va0, .int Va1]) ++ List.replicate (3 - (lg_sl ([.ref Br0, .int Va0, .int Va1])).length) Slot.unset).toArray = ls at hl ⊢
  have hl : lv_has ls 3 [(0, .ref Br0), (1, .int Va0), (2, .int Va1)] := hl
  refine lv_iload_n hx hb dX10_slotsOf_0 rfl (lv_at hl 1 rfl) ?_
  have hPc := hP.sub (ws' := []) [] rfl
  have hDc := hD.sub (ws' := []) [] (by decide) rfl
  have hKc := hK.sub (tys' := []) [] rfl
  have hFc := va_free (wc := []) hD hS hA [] rfl
  refine va_calli (va_runS (As := [.int Va0]) (rest := []) ⟨hx, hb, hml, hown, hts⟩ (z_X10_isArray l dC dI s.heap.size Va0  ) (cwS 1 hts g_z_X10_slotsOf_1_z_X10_isArray_86 rfl rfl rfl (by decide +kernel) ⟨Nat.le_of_ble_eq_true rfl, Nat.le_of_ble_eq_true rfl⟩) ⟨fun a U g mk q => by obtain ⟨q0, q1, qP, qK, qD⟩ := q; exact ⟨q0, q1, qP, va_K.moved (u := U) (U := U.calling g mk a) (Vm.Alike.refl U.vm) qK, qD⟩, fun U hU hW => ⟨rfl, by rw [hU], by rw [hU]; exact hPc, va_K.moved hW.alike hKc, hDc.weaken (fun _ _ _ _ => trivial)⟩⟩ rfl rfl hl.1 rfl (lv_room (Nat.le_of_ble_eq_true rfl)) dX10_slotsOf_1 ⟨Nat.le_of_ble_eq_true rfl, Nat.le_of_ble_eq_true rfl⟩) hS (fun q _ h => hFc q h) hFc (fun r1707 u t H1 locs ht hvm hw hB hz1 hk1 hS => ?_)
  obtain ⟨hP1, hK1, hD1⟩ := hB
  rw [ht] at hP1
  try dsimp only at hw
  obtain ⟨hP, hD⟩ := va_join (wr := []) (w1 := []) hP hD [] [] rfl rfl (by decide) (by decide) hk1 hFc hP1 hD1
  have hK := hK.sub (tys' := []) [] rfl
  generalize H1 = H at hP hS ⊢
  have hP : va_P (dC, dI) vwCl [] H := hP
  have hD : va_D A [] := hD
  rcases hw with ⟨c1708, er1709⟩ | ⟨c1710, er1711⟩
  · exact (by exfalso; (try simp only [i_lt, i_le, i_eq, kc_20] at gv_Va0 c1708); omega)
  · skip
    subst er1711
    refine lv_if_eq (tgt := 11) hx hb dX10_slotsOf_4 (by decide) (fun c1712 => absurd c1712 (by decide)) (fun c1712 => ?_)
    refine lv_iload_n hx hb dX10_slotsOf_7 rfl (lv_at hl 2 rfl) ?_
    refine lv_goto (tgt := 17) hx hb dX10_slotsOf_8 (by decide) ?_
    have hP9 := hP.sub (ws' := []) [] rfl
    have hD9 := hD.sub (ws' := []) [] (by decide) rfl
    have hK9 := hK.sub (tys' := []) [] rfl
    exact W.iret (v := Va1) hx hb hr (fun t ht hW => ⟨⟨Va1, (), rfl, ⟨c1710, rfl⟩, by rw [ht]; exact hP9, va_K.moved hW.alike hK9, hD9⟩, hS.F ht⟩) hS.2.2 dX10_slotsOf_17

def l_z_X10_kindAt_1 : List Cond := []
def w_z_X10_kindAt_1 : List Cond := .code yX10_kindAt cX10_kindAt 3 (some .int) :: (l_z_X10_kindAt_1)
set_option maxHeartbeats 4000000 in
set_option maxRecDepth 100000 in
theorem z_X10_kindAt_1 (l : Launch) (dC : Nat → ClassId) (dI : Nat → Nat → Nat) (sz : Nat) (Br0 : Nat) (Va0 : Int32) (Va1 : Int32)  (gv_Va0 : (29 : Int) ≤ Va0.toInt ∧ Va0.toInt ≤ 29) (gv_Va1 : (0 : Int) ≤ Va1.toInt ∧ Va1.toInt ≤ 59) : Met l yX10_kindAt w_z_X10_kindAt_1 ({ frames := 0, cells := 0, slots := 0, locals := 0 }) (va_Pc [.ref Br0, .int Va0, .int Va1] (fun U => U.heap.size = sz ∧ Wd dC dI [] (fun _ => True) [] U)) (va_Qi (fun (r : Int32) (u : Unit) => (¬ Va0 < 29 ∧ r = 5)) (fun (u : Unit) t => Wd dC dI [] (va_A [] sz) [] t) (va_A [] sz))  0 0 (va_A [] sz) := by
  refine Met.ofW (cc := cX10_kindAt) (maxL := 3) (ret := (some .int)) (by decide) rfl ?_
  intro p e s m args below meth c s₁ B hml hv
  obtain ⟨rfl, hsz, hP, hK, hD0⟩ := hv
  have hx := B.exec
  have hb := B.bytes
  have hr := B.returns
  have hts := atoms_spec (ws := w_z_X10_kindAt_1) B.pre
  have hown : s.vm.findClass RX10 = some m.cls := findClass_of_methodNamed B.named
  have hlocks := B.notSynchronized
  subst hsz
  have hD := hD0.self (sz := s.heap.size)
  generalize hAe : va_A [] s.heap.size = A at hD ⊢
  have hA : ∀ q : Nat, s.heap.size ≤ q → A q := fun q h => by rw [← hAe]; exact Or.inr h
  have hS : va_S A s.heap s.heap [] := va_S.rf
  have hl := lv_entry ([.ref Br0, .int Va0, .int Va1]) (n := 3) (Nat.le_of_ble_eq_true rfl)
  rw [lg_entry_eq]
  generalize (lg_sl ([.ref Br0, .int Va0, .int Va1]) ++ List.replicate (3 - (lg_sl ([.ref Br0, .int Va0, .int Va1])).length) Slot.unset).toArray = ls at hl ⊢
  have hl : lv_has ls 3 [(0, .ref Br0), (1, .int Va0), (2, .int Va1)] := hl
  refine lv_iload_n hx hb dX10_kindAt_0 rfl (lv_at hl 1 rfl) ?_
  refine lv_bipush (v := 29) hx hb dX10_kindAt_1 (by decide) ?_
  refine lv_icmp_lt (tgt := 8) hx hb dX10_kindAt_3 (by decide) (fun c1813 => (by exfalso; have bd_Va0 := i_bd Va0; (try simp only [i_lt, i_le, i_eq, kc_29] at gv_Va0 c1813); omega)) (fun c1813 => ?_)
  refine lv_iconst (v := 5) hx hb dX10_kindAt_6 (by decide) ?_
  have hP9 := hP.sub (ws' := []) [] rfl
  have hD9 := hD.sub (ws' := []) [] (by decide) rfl
  have hK9 := hK.sub (tys' := []) [] rfl
  exact W.iret (v := 5) hx hb hr (fun t ht hW => ⟨⟨5, (), rfl, ⟨c1813, rfl⟩, by rw [ht]; exact hP9, va_K.moved hW.alike hK9, hD9⟩, hS.F ht⟩) hS.2.2 dX10_kindAt_7

def l_z_X10_firstValue_1 : List Cond := [.constantLong RX10 96 (-1)]
def w_z_X10_firstValue_1 : List Cond := .code yX10_firstValue cX10_firstValue 1 (some .long) :: (l_z_X10_firstValue_1)
set_option maxHeartbeats 4000000 in
set_option maxRecDepth 100000 in
theorem z_X10_firstValue_1 (l : Launch) (dC : Nat → ClassId) (dI : Nat → Nat → Nat) (sz : Nat)    : Met l yX10_firstValue w_z_X10_firstValue_1 ({ frames := 0, cells := 0, slots := 0, locals := 0 }) (va_Pc [.int 5] (fun U => U.heap.size = sz ∧ Wd dC dI [] (fun _ => True) [] U)) (va_Ql (fun (r : Int64) (u : Unit) => r = (-1)) (fun (u : Unit) t => Wd dC dI [] (va_A [] sz) [] t) (va_A [] sz))  0 0 (va_A [] sz) := by
  refine Met.ofW (cc := cX10_firstValue) (maxL := 1) (ret := (some .long)) (by decide) rfl ?_
  intro p e s m args below meth c s₁ B hml hv
  obtain ⟨rfl, hsz, hP, hK, hD0⟩ := hv
  have hx := B.exec
  have hb := B.bytes
  have hr := B.returns
  have hts := atoms_spec (ws := w_z_X10_firstValue_1) B.pre
  have hown : s.vm.findClass RX10 = some m.cls := findClass_of_methodNamed B.named
  have hlocks := B.notSynchronized
  subst hsz
  have hD := hD0.self (sz := s.heap.size)
  generalize hAe : va_A [] s.heap.size = A at hD ⊢
  have hA : ∀ q : Nat, s.heap.size ≤ q → A q := fun q h => by rw [← hAe]; exact Or.inr h
  have hS : va_S A s.heap s.heap [] := va_S.rf
  have hl := lv_entry ([.int 5]) (n := 1) (Nat.le_of_ble_eq_true rfl)
  rw [lg_entry_eq]
  generalize (lg_sl ([.int 5]) ++ List.replicate (1 - (lg_sl ([.int 5])).length) Slot.unset).toArray = ls at hl ⊢
  have hl : lv_has ls 1 [(0, .int 5)] := hl
  refine lv_iload_n hx hb dX10_firstValue_0 rfl (lv_at hl 0 rfl) ?_
  refine lv_iconst (v := 5) hx hb dX10_firstValue_1 (by decide) ?_
  refine lv_icmp_ne (tgt := 11) hx hb dX10_firstValue_2 (by decide) (fun c1821 => absurd c1821 (by decide)) (fun c1821 => ?_)
  refine lv_ldc2 (v := (-1)) hx hb hown (hts (.constantLong RX10 96 (-1)) (by decide +kernel)) dX10_firstValue_5 ?_
  refine lv_goto (tgt := 12) hx hb dX10_firstValue_8 (by decide) ?_
  have hP9 := hP.sub (ws' := []) [] rfl
  have hD9 := hD.sub (ws' := []) [] (by decide) rfl
  have hK9 := hK.sub (tys' := []) [] rfl
  exact W.lret (v := (-1)) hx hb hr (fun t ht hW => ⟨⟨(-1), (), rfl, rfl, by rw [ht]; exact hP9, va_K.moved hW.alike hK9, hD9⟩, hS.F ht⟩) hS.2.2 dX10_firstValue_12
