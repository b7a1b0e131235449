def l_z_X12_beginWalk : List Cond := [.fieldLink RX12 522 "HeapWorksModel" "walkedMany" "I", .fieldLink RX12 180 "HeapWorksModel" "placeIn" "[I"]
def w_z_X12_beginWalk : List Cond := .code yX12_beginWalk cX12_beginWalk 2 none :: (l_z_X12_beginWalk ++ (wsX120))
theorem in_z_X12_beginWalk_X12 : ∀ w ∈ wsX120, w ∈ w_z_X12_beginWalk := fun w h => List.mem_cons_of_mem _ (List.mem_append_right _ (h))
set_option maxHeartbeats 4000000 in
set_option maxRecDepth 100000 in
theorem z_X12_beginWalk (l : Launch) (dC : Nat → ClassId) (dI : Nat → Nat → Nat) (sz : Nat) (Ad0 : Nat) (Fs0 : List Value) (Ad1 : Nat) (Fa0 : Nat → Int32) (Ka0 : ClassId) (k_Fs0 : fh Fs0 150 [(46, .ref Ad1)])  : Met l yX12_beginWalk w_z_X12_beginWalk ({ frames := 0, cells := 0, slots := 0, locals := 0 }) (va_Pc [.ref Ad0] (fun U => U.heap.size = sz ∧ Wd dC dI [(Ka0, .int)] (fun _ => True) [(Ad0, .inr (15, Fs0)), (Ad1, .inl (Ka0, 400, .inl Fa0))] U)) (va_Qv (fun (u : List Value × (Nat → Int32)) => ow Fs0 (u.1) 150 [47] [(47, .int 0), (46, .ref Ad1)]) (fun (u : List Value × (Nat → Int32)) t => Wd dC dI [(Ka0, .int)] (va_A [(Ad0, .inr (15, Fs0)), (Ad1, .inl (Ka0, 400, .inl Fa0))] sz) [(Ad0, .inr (15, (u.1))), (Ad1, .inl (Ka0, 400, .inl ((u.2))))] t) (va_A [(Ad0, .inr (15, Fs0)), (Ad1, .inl (Ka0, 400, .inl Fa0))] sz))  0 0 (va_A [(Ad0, .inr (15, Fs0)), (Ad1, .inl (Ka0, 400, .inl Fa0))] sz) := by
  refine Met.ofW (cc := cX12_beginWalk) (maxL := 2) (ret := none) (by decide) rfl ?_
  intro p e s m args below meth c s₁ B hml hv
  obtain ⟨rfl, hsz, hP, hK, hD0⟩ := hv
  have hx := B.exec
  have hb := B.bytes
  have hr := B.returns
  have hts := atoms_spec (ws := w_z_X12_beginWalk) B.pre
  have hown : s.vm.findClass RX12 = some m.cls := findClass_of_methodNamed B.named
  have hlocks := B.notSynchronized
  subst hsz
  have hD := hD0.self (sz := s.heap.size)
  generalize hAe : va_A [(Ad0, .inr (15, Fs0)), (Ad1, .inl (Ka0, 400, .inl Fa0))] s.heap.size = A at hD ⊢
  have hA : ∀ q : Nat, s.heap.size ≤ q → A q := fun q h => by rw [← hAe]; exact Or.inr h
  have hS : va_S A s.heap s.heap [] := va_S.rf
  have hl := lv_entry ([.ref Ad0]) (n := 2) (Nat.le_of_ble_eq_true rfl)
  rw [lg_entry_eq]
  generalize (lg_sl ([.ref Ad0]) ++ List.replicate (2 - (lg_sl ([.ref Ad0])).length) Slot.unset).toArray = ls at hl ⊢
  have hl : lv_has ls 2 [(0, .ref Ad0)] := hl
  have o_Fs0 := ow_0 k_Fs0
  refine lv_aload_n hx hb dX12_beginWalk_0 rfl (lv_at hl 0 rfl) ?_
  refine lv_iconst (v := 0) hx hb dX12_beginWalk_1 (by decide) ?_
  refine va_put (D := (dC, dI)) (ci := 15) (v := .int 0) (ty := .int) (C := RX12) (T := TX12) (N := 150) hx hb hts (in_z_X12_beginWalk_X12) tyX12 tyX12_ok nmX12 hown hK hP hD hS 0 rfl rfl 47 (by decide) (hts (.fieldLink RX12 522 "HeapWorksModel" "walkedMany" "I") (by decide +kernel)) (fun _ h9 => h9) rfl (by decide +kernel) rfl rfl (by rw [o_Fs0.2.1]; decide) dX12_beginWalk_2 (fun H locs hP hD hS => ?_)
  have hP : va_P (dC, dI) vwCl [(Ad0, .inr (15, (Fs0.set 47 (.int 0)))), (Ad1, .inl (Ka0, 400, .inl Fa0))] H := hP
  have hD : va_D A [(Ad0, .inr (15, (Fs0.set 47 (.int 0)))), (Ad1, .inl (Ka0, 400, .inl Fa0))] := hD
  have o_s2541 := ow_set o_Fs0 47 (.int 0) (by decide) (l' := [(47, .int 0), (46, .ref Ad1)]) (w' := [47]) rfl rfl
  generalize (Fs0.set 47 (.int 0)) = s2541 at hP hD o_s2541
  refine lv_iconst (v := 0) hx hb dX12_beginWalk_5 (by decide) ?_
  refine lv_istore_n (lv' := [(1, .int 0), (0, .ref Ad0)]) hx hb dX12_beginWalk_6 rfl hl (by decide) rfl (fun ls hl => ?_)
  have HL1 : ∀ (n j2565 : Nat) (x2566 : Int32) (f2567 : Nat → Int32), x2566 = nI j2565 → 0 ≤ j2565 → j2565 ≤ 400 → 401 ≤ j2565 + n → ∀ (H : Heap) (locs : List Loc) (ls : Array Slot), va_P (dC, dI) vwCl [(Ad0, .inr (15, s2541)), (Ad1, .inl (Ka0, 400, .inl f2567))] H → va_D A [(Ad0, .inr (15, s2541)), (Ad1, .inl (Ka0, 400, .inl f2567))] → va_S A s.heap H locs → lv_has ls 2 [(1, .int x2566), (0, .ref Ad0)] → W p l e (headSpec w_z_X12_beginWalk ({ frames := 0, cells := 0, slots := 0, locals := 0 })).room s m ([.ref Ad0]).toArray below meth c H locs 0 0 (MQ below (va_Qv (fun (u : List Value × (Nat → Int32)) => ow Fs0 (u.1) 150 [47] [(47, .int 0), (46, .ref Ad1)]) (fun (u : List Value × (Nat → Int32)) t => Wd dC dI [(Ka0, .int)] A [(Ad0, .inr (15, (u.1))), (Ad1, .inl (Ka0, 400, .inl ((u.2))))] t) A) ([.ref Ad0]).toArray s 0 0 A) (F0 m 7 ls []) := by
    intro n
    induction n with
    | zero =>
      intro j2565 x2566 f2567 e2568 h2570 h2571 h2572
      exact absurd h2572 (by omega)
    | succ n ih =>
      intro j2565 x2566 f2567 e2568 h2570 h2571 h2572 H locs ls hP hD hS hl
      have t2569 : x2566.toInt = (j2565 : Int) := by rw [e2568]; exact nI_toInt (by omega)
      refine lv_iload_n hx hb dX12_beginWalk_7 rfl (lv_at hl 0 rfl) ?_
      refine lv_sipush (v := 400) hx hb dX12_beginWalk_8 (by decide) ?_
      refine lv_icmp_ge (tgt := 27) hx hb dX12_beginWalk_11 (by decide) (fun c2573 => ?_) (fun c2573 => ?_)
      · skip
        have hP9 := hP.sub (ws' := [(Ad0, .inr (15, s2541)), (Ad1, .inl (Ka0, 400, .inl f2567))]) [0, 1] rfl
        have hD9 := hD.sub (ws' := [(Ad0, .inr (15, s2541)), (Ad1, .inl (Ka0, 400, .inl f2567))]) [0, 1] (by decide) rfl
        have hK9 := hK.sub (tys' := [(Ka0, .int)]) [0] rfl
        exact W.vret hx hb hr (fun t ht hW => ⟨⟨(s2541, f2567), rfl, o_s2541, by rw [ht]; exact hP9, va_K.moved hW.alike hK9, hD9⟩, hS.F ht⟩) hS.2.2 dX12_beginWalk_27
      · skip
        refine lv_aload_n hx hb dX12_beginWalk_14 rfl (lv_at hl 1 rfl) ?_
        refine va_get (D := (dC, dI)) (ci := 15) (v := .ref Ad1) (C := RX12) (T := TX12) (N := 150) hx hb hts (in_z_X12_beginWalk_X12) hown hK hP 0 rfl rfl 46 (by decide) (hts (.fieldLink RX12 180 "HeapWorksModel" "placeIn" "[I") (by decide +kernel)) (fun _ h9 => h9) (ow_at o_s2541 1 rfl) dX12_beginWalk_15 ?_
        refine lv_iload_n hx hb dX12_beginWalk_18 rfl (lv_at hl 0 rfl) ?_
        refine lv_iconst (v := (-1)) hx hb dX12_beginWalk_19 (by decide) ?_
        refine va_iast hx hb hK hP hD hS 1 0 rfl rfl (by rw [vp_in_iff]; (try simp only [i_lt, i_le, i_eq, kc_400] at t2569 h2571 h2570 c2573); omega) dX12_beginWalk_20 (fun H locs hP hD hS => ?_)
        have hP : va_P (dC, dI) vwCl [(Ad0, .inr (15, s2541)), (Ad1, .inl (Ka0, 400, .inl (upd f2567 (x2566 : Int32).toNatClampNeg (-1))))] H := hP
        have hD : va_D A [(Ad0, .inr (15, s2541)), (Ad1, .inl (Ka0, 400, .inl (upd f2567 (x2566 : Int32).toNatClampNeg (-1))))] := hD
        have q2575 : (upd f2567 (x2566 : Int32).toNatClampNeg (-1)) (x2566 : Int32).toNatClampNeg = (-1) := pk_us
        generalize upd f2567 (x2566 : Int32).toNatClampNeg (-1) = f2574 at hP hD q2575
        obtain ⟨x2576, ex2576⟩ : ∃ y : Int32, y = x2566 + 1 := ⟨_, rfl⟩
        refine lv_iinc (v := x2576) (lv' := [(1, .int x2576), (0, .ref Ad0)]) hx hb dX12_beginWalk_21 hl (k := 0) rfl (by rw [ex2576]; rfl) (by decide) rfl (fun ls hl => ?_)
        have tx2576 : x2576.toInt = x2566.toInt + (1 : Int32).toInt := by rw [ex2576]; exact i_add (by have bd_x2566 := i_bd x2566; (try simp only [i_lt, i_le, i_eq, kc_400, kc_1] at t2569 h2571 h2570 c2573 ⊢); omega) (by have bd_x2566 := i_bd x2566; (try simp only [i_lt, i_le, i_eq, kc_400, kc_1] at t2569 h2571 h2570 c2573 ⊢); omega)
        refine lv_goto (tgt := 7) hx hb dX12_beginWalk_24 (by decide) ?_
        exact ih (j2565 + 1) x2576 f2574 (by rw [ex2576, e2568]; exact nI_1 _) (by omega) (by (try simp only [i_lt, i_le, i_eq, kc_400, kc_1] at t2569 h2571 h2570 c2573 tx2576); omega) (by omega)  _ _ _ (hP.sub [0, 1] rfl) (hD.sub [0, 1] (by decide) rfl) hS  (lv_sub hl [0, 1] rfl)
  exact HL1 401 0 (0) Fa0 (by decide) (by omega) (by omega) (by omega)  _ _ _ hP hD hS  hl

def l_z_X12_walkRoots : List Cond := [.methodLink RX12 532 yX12_beginWalk, .instanceMethod yX12_beginWalk, .selects RX12 yX12_beginWalk yX12_beginWalk, .initialized RX12, .fieldLink RX12 470 "HeapWorksModel" "toldMany" "I", .fieldLink RX12 413 "HeapWorksModel" "classes" "I", .fieldLink RX12 522 "HeapWorksModel" "walkedMany" "I", .code yX12_beginWalk cX12_beginWalk 2 none, .fieldLink RX12 180 "HeapWorksModel" "placeIn" "[I"]
def w_z_X12_walkRoots : List Cond := .code yX12_walkRoots cX12_walkRoots 2 none :: (l_z_X12_walkRoots ++ (wsX120))
theorem in_z_X12_walkRoots_X12 : ∀ w ∈ wsX120, w ∈ w_z_X12_walkRoots := fun w h => List.mem_cons_of_mem _ (List.mem_append_right _ (h))
theorem g_z_X12_walkRoots_z_X12_beginWalk_532 : GoodIn w_z_X12_walkRoots (wsV RX12 532 RX12 yX12_beginWalk w_z_X12_beginWalk) := goodIn_app (goodIn_sub (by decide +kernel) (by decide +kernel)) (goodIn_ca (goodIn_sub (by decide +kernel) (by decide +kernel)) (goodIn_in in_z_X12_walkRoots_X12 gd_X12))
set_option maxHeartbeats 4000000 in
set_option maxRecDepth 100000 in
theorem z_X12_walkRoots (l : Launch) (dC : Nat → ClassId) (dI : Nat → Nat → Nat) (sz : Nat) (Ad0 : Nat) (Fs0 : List Value) (Ad1 : Nat) (Fa0 : Nat → Int32) (Ka0 : ClassId) (k_Fs0 : fh Fs0 150 [(20, .int 0), (31, .int 0), (46, .ref Ad1), (47, .int 0)])  : Met l yX12_walkRoots w_z_X12_walkRoots ({ frames := 1, cells := 0, slots := 0, locals := 21 }) (va_Pc [.ref Ad0] (fun U => U.heap.size = sz ∧ Wd dC dI [(Ka0, .int)] (fun _ => True) [(Ad0, .inr (15, Fs0)), (Ad1, .inl (Ka0, 400, .inl Fa0))] U)) (va_Qv (fun (u : List Value × (Nat → Int32)) => ow Fs0 (u.1) 150 [47] [(47, .int 0), (46, .ref Ad1), (20, .int 0), (31, .int 0), (46, .ref Ad1)]) (fun (u : List Value × (Nat → Int32)) t => Wd dC dI [(Ka0, .int)] (va_A [(Ad0, .inr (15, Fs0)), (Ad1, .inl (Ka0, 400, .inl Fa0))] sz) [(Ad0, .inr (15, (u.1))), (Ad1, .inl (Ka0, 400, .inl ((u.2))))] t) (va_A [(Ad0, .inr (15, Fs0)), (Ad1, .inl (Ka0, 400, .inl Fa0))] sz))  0 0 (va_A [(Ad0, .inr (15, Fs0)), (Ad1, .inl (Ka0, 400, .inl Fa0))] sz) := by
  refine Met.ofW (cc := cX12_walkRoots) (maxL := 2) (ret := none) (by decide) rfl ?_
  intro p e s m args below meth c s₁ B hml hv
  obtain ⟨rfl, hsz, hP, hK, hD0⟩ := hv
  have hx := B.exec
  have hb := B.bytes
  have hr := B.returns
  have hts := atoms_spec (ws := w_z_X12_walkRoots) B.pre
  have hown : s.vm.findClass RX12 = some m.cls := findClass_of_methodNamed B.named
  have hlocks := B.notSynchronized
  subst hsz
  have hD := hD0.self (sz := s.heap.size)
  generalize hAe : va_A [(Ad0, .inr (15, Fs0)), (Ad1, .inl (Ka0, 400, .inl Fa0))] s.heap.size = A at hD ⊢
  have hA : ∀ q : Nat, s.heap.size ≤ q → A q := fun q h => by rw [← hAe]; exact Or.inr h
  have hS : va_S A s.heap s.heap [] := va_S.rf
  have hl := lv_entry ([.ref Ad0]) (n := 2) (Nat.le_of_ble_eq_true rfl)
  rw [lg_entry_eq]
  generalize (lg_sl ([.ref Ad0]) ++ List.replicate (2 - (lg_sl ([.ref Ad0])).length) Slot.unset).toArray = ls at hl ⊢
  have hl : lv_has ls 2 [(0, .ref Ad0)] := hl
  have o_Fs0 := ow_0 k_Fs0
  refine lv_aload_n hx hb dX12_walkRoots_0 rfl (lv_at hl 0 rfl) ?_
  have hPc := hP.sub (ws' := [(Ad0, .inr (15, Fs0)), (Ad1, .inl (Ka0, 400, .inl Fa0))]) [0, 1] rfl
  have hDc := hD.sub (ws' := [(Ad0, .inr (15, Fs0)), (Ad1, .inl (Ka0, 400, .inl Fa0))]) [0, 1] (by decide) rfl
  have hKc := hK.sub (tys' := [(Ka0, .int)]) [0] rfl
  have hFc := va_free (wc := [(Ad0, .inr (15, Fs0)), (Ad1, .inl (Ka0, 400, .inl Fa0))]) hD hS hA [0, 1] rfl
  refine va_callv (va_runV (As := []) (rest := []) ⟨hx, hb, hml, hown, hts⟩ (z_X12_beginWalk l dC dI s.heap.size Ad0 Fs0 Ad1 Fa0 Ka0 (fh_sub o_Fs0.2 [2] rfl) ) (cwV 0 hts g_z_X12_walkRoots_z_X12_beginWalk_532 rfl rfl rfl (by decide +kernel) ⟨Nat.le_of_ble_eq_true rfl, Nat.le_of_ble_eq_true rfl⟩) ⟨fun a U g mk q => by obtain ⟨q0, q1, qP, qK, qD⟩ := q; exact ⟨q0, q1, qP, va_K.moved (u := U) (U := U.calling g mk a) (Vm.Alike.refl U.vm) qK, qD⟩, va_recv hK hP (ci := 15) (q0 := 0) rfl rfl, fun U hU hW => ⟨rfl, by rw [hU], by rw [hU]; exact hPc, va_K.moved hW.alike hKc, hDc.weaken (fun _ _ _ _ => trivial)⟩⟩ rfl rfl hl.1 rfl (lv_room (Nat.le_of_ble_eq_true rfl)) dX12_walkRoots_1 ⟨Nat.le_of_ble_eq_true rfl, Nat.le_of_ble_eq_true rfl⟩) hS (fun q _ h => hFc q h) hFc (fun u t H1 locs ht hvm hw hB hz1 hk1 hS => ?_)
  obtain ⟨s2619, f2620⟩ := u
  obtain ⟨hP1, hK1, hD1⟩ := hB
  rw [ht] at hP1
  try dsimp only at hw
  obtain ⟨hP, hD⟩ := va_join (wr := []) (w1 := [(Ad0, .inr (15, s2619)), (Ad1, .inl (Ka0, 400, .inl f2620))]) hP hD [0, 1] [] rfl rfl (by decide) (by decide) hk1 hFc hP1 hD1
  have hK := hK.sub (tys' := [(Ka0, .int)]) [0] rfl
  generalize H1 = H at hP hS ⊢
  have hP : va_P (dC, dI) vwCl [(Ad0, .inr (15, s2619)), (Ad1, .inl (Ka0, 400, .inl f2620))] H := hP
  have hD : va_D A [(Ad0, .inr (15, s2619)), (Ad1, .inl (Ka0, 400, .inl f2620))] := hD
  have o_s2619 := hw
  have o_s2619 := ow_on o_Fs0 o_s2619 (l' := [(47, .int 0), (46, .ref Ad1), (20, .int 0), (31, .int 0), (46, .ref Ad1)]) (w' := [47]) rfl rfl
  refine lv_iconst (v := 0) hx hb dX12_walkRoots_4 (by decide) ?_
  refine lv_istore_n (lv' := [(1, .int 0), (0, .ref Ad0)]) hx hb dX12_walkRoots_5 rfl hl (by decide) rfl (fun ls hl => ?_)
  refine lv_iload_n hx hb dX12_walkRoots_6 rfl (lv_at hl 0 rfl) ?_
  refine lv_aload_n hx hb dX12_walkRoots_7 rfl (lv_at hl 1 rfl) ?_
  refine va_get (D := (dC, dI)) (ci := 15) (v := .int 0) (C := RX12) (T := TX12) (N := 150) hx hb hts (in_z_X12_walkRoots_X12) hown hK hP 0 rfl rfl 31 (by decide) (hts (.fieldLink RX12 470 "HeapWorksModel" "toldMany" "I") (by decide +kernel)) (fun _ h9 => h9) (ow_at o_s2619 3 rfl) dX12_walkRoots_8 ?_
  refine lv_icmp_ge (tgt := 31) hx hb dX12_walkRoots_11 (by decide) (fun c2621 => ?_) (fun c2621 => absurd c2621 (by decide))
  refine lv_iconst (v := 0) hx hb dX12_walkRoots_31 (by decide) ?_
  refine lv_istore_n (lv' := [(1, .int 0), (0, .ref Ad0)]) hx hb dX12_walkRoots_32 rfl hl (by decide) rfl (fun ls hl => ?_)
  refine lv_iload_n hx hb dX12_walkRoots_33 rfl (lv_at hl 0 rfl) ?_
  refine lv_bipush (v := 6) hx hb dX12_walkRoots_34 (by decide) ?_
  refine lv_aload_n hx hb dX12_walkRoots_36 rfl (lv_at hl 1 rfl) ?_
  refine va_get (D := (dC, dI)) (ci := 15) (v := .int 0) (C := RX12) (T := TX12) (N := 150) hx hb hts (in_z_X12_walkRoots_X12) hown hK hP 0 rfl rfl 20 (by decide) (hts (.fieldLink RX12 413 "HeapWorksModel" "classes" "I") (by decide +kernel)) (fun _ h9 => h9) (ow_at o_s2619 2 rfl) dX12_walkRoots_37 ?_
  refine lv_imul hx hb dX12_walkRoots_40  ?_
  refine lv_topi (fun x2622 ex2622 => ?_)
  obtain rfl : x2622 = 0 := ex2622.trans (by decide)
  refine lv_icmp_ge (tgt := 68) hx hb dX12_walkRoots_41 (by decide) (fun c2623 => ?_) (fun c2623 => absurd c2623 (by decide))
  refine lv_iconst (v := 0) hx hb dX12_walkRoots_68 (by decide) ?_
  refine lv_istore_n (lv' := [(1, .int 0), (0, .ref Ad0)]) hx hb dX12_walkRoots_69 rfl hl (by decide) rfl (fun ls hl => ?_)
  refine lv_iload_n hx hb dX12_walkRoots_70 rfl (lv_at hl 0 rfl) ?_
  refine lv_aload_n hx hb dX12_walkRoots_71 rfl (lv_at hl 1 rfl) ?_
  refine va_get (D := (dC, dI)) (ci := 15) (v := .int 0) (C := RX12) (T := TX12) (N := 150) hx hb hts (in_z_X12_walkRoots_X12) hown hK hP 0 rfl rfl 47 (by decide) (hts (.fieldLink RX12 522 "HeapWorksModel" "walkedMany" "I") (by decide +kernel)) (fun _ h9 => h9) (ow_at o_s2619 0 rfl) dX12_walkRoots_72 ?_
  refine lv_icmp_ge (tgt := 95) hx hb dX12_walkRoots_75 (by decide) (fun c2624 => ?_) (fun c2624 => absurd c2624 (by decide))
  have hP9 := hP.sub (ws' := [(Ad0, .inr (15, s2619)), (Ad1, .inl (Ka0, 400, .inl f2620))]) [0, 1] rfl
  have hD9 := hD.sub (ws' := [(Ad0, .inr (15, s2619)), (Ad1, .inl (Ka0, 400, .inl f2620))]) [0, 1] (by decide) rfl
  have hK9 := hK.sub (tys' := [(Ka0, .int)]) [0] rfl
  exact W.vret hx hb hr (fun t ht hW => ⟨⟨(s2619, f2620), rfl, o_s2619, by rw [ht]; exact hP9, va_K.moved hW.alike hK9, hD9⟩, hS.F ht⟩) hS.2.2 dX12_walkRoots_95

def l_n_collect : List Cond := [.fieldLink RX12 388 "HeapWorksModel" "thrown" "I", .methodLink RX12 539 yX12_walkRoots, .instanceMethod yX12_walkRoots, .selects RX12 yX12_walkRoots yX12_walkRoots, .initialized RX12, .fieldLink RX12 435 "HeapWorksModel" "objects" "I", .fieldLink RX12 479 "HeapWorksModel" "undos" "I", .code yX12_walkRoots cX12_walkRoots 2 none, .methodLink RX12 532 yX12_beginWalk, .instanceMethod yX12_beginWalk, .selects RX12 yX12_beginWalk yX12_beginWalk, .fieldLink RX12 470 "HeapWorksModel" "toldMany" "I", .fieldLink RX12 413 "HeapWorksModel" "classes" "I", .fieldLink RX12 522 "HeapWorksModel" "walkedMany" "I", .code yX12_beginWalk cX12_beginWalk 2 none, .fieldLink RX12 180 "HeapWorksModel" "placeIn" "[I"]
def w_n_collect : List Cond := .code yX12_collect cX12_collect 3 (some .int) :: (l_n_collect ++ (wsX120))
theorem in_n_collect_X12 : ∀ w ∈ wsX120, w ∈ w_n_collect := fun w h => List.mem_cons_of_mem _ (List.mem_append_right _ (h))
theorem g_n_collect_z_X12_walkRoots_539 : GoodIn w_n_collect (wsV RX12 539 RX12 yX12_walkRoots w_z_X12_walkRoots) := goodIn_app (goodIn_sub (by decide +kernel) (by decide +kernel)) (goodIn_ca (goodIn_sub (by decide +kernel) (by decide +kernel)) (goodIn_in in_n_collect_X12 gd_X12))
set_option maxHeartbeats 4000000 in
set_option maxRecDepth 100000 in
theorem n_collect (l : Launch) (dC : Nat → ClassId) (dI : Nat → Nat → Nat) (sz : Nat) (aR : Nat) (fsR : List Value) (q_placeIn : Nat) (f_placeIn : Nat → Int32) (k_placeIn : ClassId) (k_fsR : fh fsR 150 [(20, .int 0), (26, .int 0), (31, .int 0), (46, .ref q_placeIn), (47, .int 0)])  : Met l yX12_collect w_n_collect ({ frames := 2, cells := 0, slots := 0, locals := 42 }) (va_Pc [.ref aR] (fun U => U.heap.size = sz ∧ Wd dC dI [(k_placeIn, .int)] (fun _ => True) [(aR, .inr (15, fsR)), (q_placeIn, .inl (k_placeIn, 400, .inl f_placeIn))] U)) (va_Qi (fun (r : Int32) (u : List Value × (Nat → Int32)) => (r = 0 ∧ ow fsR (u.1) 150 [36, 47, 0] [(36, .int 0), (47, .int 0), (46, .ref q_placeIn), (20, .int 0), (31, .int 0), (46, .ref q_placeIn), (0, .int 0), (20, .int 0), (26, .int 0), (31, .int 0), (46, .ref q_placeIn)])) (fun (u : List Value × (Nat → Int32)) t => Wd dC dI [(k_placeIn, .int)] (va_A [(aR, .inr (15, fsR)), (q_placeIn, .inl (k_placeIn, 400, .inl f_placeIn))] sz) [(aR, .inr (15, (u.1))), (q_placeIn, .inl (k_placeIn, 400, .inl ((u.2))))] t) (va_A [(aR, .inr (15, fsR)), (q_placeIn, .inl (k_placeIn, 400, .inl f_placeIn))] sz))  0 0 (va_A [(aR, .inr (15, fsR)), (q_placeIn, .inl (k_placeIn, 400, .inl f_placeIn))] sz) := by
  refine Met.ofW (cc := cX12_collect) (maxL := 3) (ret := (some .int)) (by decide) rfl ?_
  intro p e s m args below meth c s₁ B hml hv
  obtain ⟨rfl, hsz, hP, hK, hD0⟩ := hv
  have hx := B.exec
  have hb := B.bytes
  have hr := B.returns
  have hts := atoms_spec (ws := w_n_collect) B.pre
  have hown : s.vm.findClass RX12 = some m.cls := findClass_of_methodNamed B.named
  have hlocks := B.notSynchronized
  subst hsz
  have hD := hD0.self (sz := s.heap.size)
  generalize hAe : va_A [(aR, .inr (15, fsR)), (q_placeIn, .inl (k_placeIn, 400, .inl f_placeIn))] s.heap.size = A at hD ⊢
  have hA : ∀ q : Nat, s.heap.size ≤ q → A q := fun q h => by rw [← hAe]; exact Or.inr h
  have hS : va_S A s.heap s.heap [] := va_S.rf
  have hl := lv_entry ([.ref aR]) (n := 3) (Nat.le_of_ble_eq_true rfl)
  rw [lg_entry_eq]
  generalize (lg_sl ([.ref aR]) ++ List.replicate (3 - (lg_sl ([.ref aR])).length) Slot.unset).toArray = ls at hl ⊢
  have hl : lv_has ls 3 [(0, .ref aR)] := hl
  have o_fsR := ow_0 k_fsR
  refine lv_aload_n hx hb dX12_collect_0 rfl (lv_at hl 0 rfl) ?_
  refine lv_iconst (v := 0) hx hb dX12_collect_1 (by decide) ?_
  refine va_put (D := (dC, dI)) (ci := 15) (v := .int 0) (ty := .int) (C := RX12) (T := TX12) (N := 150) hx hb hts (in_n_collect_X12) tyX12 tyX12_ok nmX12 hown hK hP hD hS 0 rfl rfl 0 (by decide) (hts (.fieldLink RX12 388 "HeapWorksModel" "thrown" "I") (by decide +kernel)) (fun _ h9 => h9) rfl (by decide +kernel) rfl rfl (by rw [o_fsR.2.1]; decide) dX12_collect_2 (fun H locs hP hD hS => ?_)
  have hP : va_P (dC, dI) vwCl [(aR, .inr (15, (fsR.set 0 (.int 0)))), (q_placeIn, .inl (k_placeIn, 400, .inl f_placeIn))] H := hP
  have hD : va_D A [(aR, .inr (15, (fsR.set 0 (.int 0)))), (q_placeIn, .inl (k_placeIn, 400, .inl f_placeIn))] := hD
  have o_s2629 := ow_set o_fsR 0 (.int 0) (by decide) (l' := [(0, .int 0), (20, .int 0), (26, .int 0), (31, .int 0), (46, .ref q_placeIn), (47, .int 0)]) (w' := [0]) rfl rfl
  generalize (fsR.set 0 (.int 0)) = s2629 at hP hD o_s2629
  refine lv_aload_n hx hb dX12_collect_5 rfl (lv_at hl 0 rfl) ?_
  have hPc := hP.sub (ws' := [(aR, .inr (15, s2629)), (q_placeIn, .inl (k_placeIn, 400, .inl f_placeIn))]) [0, 1] rfl
  have hDc := hD.sub (ws' := [(aR, .inr (15, s2629)), (q_placeIn, .inl (k_placeIn, 400, .inl f_placeIn))]) [0, 1] (by decide) rfl
  have hKc := hK.sub (tys' := [(k_placeIn, .int)]) [0] rfl
  have hFc := va_free (wc := [(aR, .inr (15, s2629)), (q_placeIn, .inl (k_placeIn, 400, .inl f_placeIn))]) hD hS hA [0, 1] rfl
  refine va_callv (va_runV (As := []) (rest := []) ⟨hx, hb, hml, hown, hts⟩ (z_X12_walkRoots l dC dI H.size aR s2629 q_placeIn f_placeIn k_placeIn (fh_sub o_s2629.2 [1, 3, 4, 5] rfl) ) (cwV 0 hts g_n_collect_z_X12_walkRoots_539 rfl rfl rfl (by decide +kernel) ⟨Nat.le_of_ble_eq_true rfl, Nat.le_of_ble_eq_true rfl⟩) ⟨fun a U g mk q => by obtain ⟨q0, q1, qP, qK, qD⟩ := q; exact ⟨q0, q1, qP, va_K.moved (u := U) (U := U.calling g mk a) (Vm.Alike.refl U.vm) qK, qD⟩, va_recv hK hP (ci := 15) (q0 := 0) rfl rfl, fun U hU hW => ⟨rfl, by rw [hU], by rw [hU]; exact hPc, va_K.moved hW.alike hKc, hDc.weaken (fun _ _ _ _ => trivial)⟩⟩ rfl rfl hl.1 rfl (lv_room (Nat.le_of_ble_eq_true rfl)) dX12_collect_6 ⟨Nat.le_of_ble_eq_true rfl, Nat.le_of_ble_eq_true rfl⟩) hS (fun q _ h => hFc q h) hFc (fun u t H1 locs ht hvm hw hB hz1 hk1 hS => ?_)
  obtain ⟨s2672, f2673⟩ := u
  obtain ⟨hP1, hK1, hD1⟩ := hB
  rw [ht] at hP1
  try dsimp only at hw
  obtain ⟨hP, hD⟩ := va_join (wr := []) (w1 := [(aR, .inr (15, s2672)), (q_placeIn, .inl (k_placeIn, 400, .inl f2673))]) hP hD [0, 1] [] rfl rfl (by decide) (by decide) hk1 hFc hP1 hD1
  have hK := hK.sub (tys' := [(k_placeIn, .int)]) [0] rfl
  generalize H1 = H at hP hS ⊢
  have hP : va_P (dC, dI) vwCl [(aR, .inr (15, s2672)), (q_placeIn, .inl (k_placeIn, 400, .inl f2673))] H := hP
  have hD : va_D A [(aR, .inr (15, s2672)), (q_placeIn, .inl (k_placeIn, 400, .inl f2673))] := hD
  have o_s2672 := hw
  have o_s2672 := ow_on o_s2629 o_s2672 (l' := [(47, .int 0), (46, .ref q_placeIn), (20, .int 0), (31, .int 0), (46, .ref q_placeIn), (0, .int 0), (20, .int 0), (26, .int 0), (31, .int 0), (46, .ref q_placeIn)]) (w' := [47, 0]) rfl rfl
  refine lv_iconst (v := 0) hx hb dX12_collect_9 (by decide) ?_
  refine lv_istore_n (lv' := [(1, .int 0), (0, .ref aR)]) hx hb dX12_collect_10 rfl hl (by decide) rfl (fun ls hl => ?_)
  refine lv_iconst (v := 0) hx hb dX12_collect_11 (by decide) ?_
  refine lv_istore_n (lv' := [(2, .int 0), (1, .int 0), (0, .ref aR)]) hx hb dX12_collect_12 rfl hl (by decide) rfl (fun ls hl => ?_)
  refine lv_iload_n hx hb dX12_collect_13 rfl (lv_at hl 0 rfl) ?_
  refine lv_aload_n hx hb dX12_collect_14 rfl (lv_at hl 2 rfl) ?_
  refine va_get (D := (dC, dI)) (ci := 15) (v := .int 0) (C := RX12) (T := TX12) (N := 150) hx hb hts (in_n_collect_X12) hown hK hP 0 rfl rfl 26 (by decide) (hts (.fieldLink RX12 435 "HeapWorksModel" "objects" "I") (by decide +kernel)) (fun _ h9 => h9) (ow_at o_s2672 7 rfl) dX12_collect_15 ?_
  refine lv_icmp_ge (tgt := 84) hx hb dX12_collect_18 (by decide) (fun c2674 => ?_) (fun c2674 => absurd c2674 (by decide))
  refine lv_aload_n hx hb dX12_collect_84 rfl (lv_at hl 2 rfl) ?_
  refine lv_iconst (v := 0) hx hb dX12_collect_85 (by decide) ?_
  refine va_put (D := (dC, dI)) (ci := 15) (v := .int 0) (ty := .int) (C := RX12) (T := TX12) (N := 150) hx hb hts (in_n_collect_X12) tyX12 tyX12_ok nmX12 hown hK hP hD hS 0 rfl rfl 36 (by decide) (hts (.fieldLink RX12 479 "HeapWorksModel" "undos" "I") (by decide +kernel)) (fun _ h9 => h9) rfl (by decide +kernel) rfl rfl (by rw [o_s2672.2.1]; decide) dX12_collect_86 (fun H locs hP hD hS => ?_)
  have hP : va_P (dC, dI) vwCl [(aR, .inr (15, (s2672.set 36 (.int 0)))), (q_placeIn, .inl (k_placeIn, 400, .inl f2673))] H := hP
  have hD : va_D A [(aR, .inr (15, (s2672.set 36 (.int 0)))), (q_placeIn, .inl (k_placeIn, 400, .inl f2673))] := hD
  have o_s2675 := ow_set o_s2672 36 (.int 0) (by decide) (l' := [(36, .int 0), (47, .int 0), (46, .ref q_placeIn), (20, .int 0), (31, .int 0), (46, .ref q_placeIn), (0, .int 0), (20, .int 0), (26, .int 0), (31, .int 0), (46, .ref q_placeIn)]) (w' := [36, 47, 0]) rfl rfl
  generalize (s2672.set 36 (.int 0)) = s2675 at hP hD o_s2675
  refine lv_iload_n hx hb dX12_collect_89 rfl (lv_at hl 1 rfl) ?_
  have hP9 := hP.sub (ws' := [(aR, .inr (15, s2675)), (q_placeIn, .inl (k_placeIn, 400, .inl f2673))]) [0, 1] rfl
  have hD9 := hD.sub (ws' := [(aR, .inr (15, s2675)), (q_placeIn, .inl (k_placeIn, 400, .inl f2673))]) [0, 1] (by decide) rfl
  have hK9 := hK.sub (tys' := [(k_placeIn, .int)]) [0] rfl
  exact W.iret (v := 0) hx hb hr (fun t ht hW => ⟨⟨0, (s2675, f2673), rfl, ⟨rfl, o_s2675⟩, by rw [ht]; exact hP9, va_K.moved hW.alike hK9, hD9⟩, hS.F ht⟩) hS.2.2 dX12_collect_90

def l_n_undo : List Cond := [.fieldLink RX12 388 "HeapWorksModel" "thrown" "I", .fieldLink RX12 479 "HeapWorksModel" "undos" "I"]
def w_n_undo : List Cond := .code yX12_undo cX12_undo 2 (some .int) :: (l_n_undo ++ (wsX120))
theorem in_n_undo_X12 : ∀ w ∈ wsX120, w ∈ w_n_undo := fun w h => List.mem_cons_of_mem _ (List.mem_append_right _ (h))
set_option maxHeartbeats 4000000 in
set_option maxRecDepth 100000 in
theorem n_undo (l : Launch) (dC : Nat → ClassId) (dI : Nat → Nat → Nat) (sz : Nat) (aR : Nat) (fsR : List Value) (k_fsR : fh fsR 150 [(36, .int 0)])  : Met l yX12_undo w_n_undo ({ frames := 0, cells := 0, slots := 0, locals := 0 }) (va_Pc [.ref aR] (fun U => U.heap.size = sz ∧ Wd dC dI [] (fun _ => True) [(aR, .inr (15, fsR))] U)) (va_Qi (fun (r : Int32) (u : List Value) => (r = (-1) ∧ ow fsR (u) 150 [0] [(0, .int 0), (36, .int 0)])) (fun (u : List Value) t => Wd dC dI [] (va_A [(aR, .inr (15, fsR))] sz) [(aR, .inr (15, (u)))] t) (va_A [(aR, .inr (15, fsR))] sz))  0 0 (va_A [(aR, .inr (15, fsR))] sz) := by
  refine Met.ofW (cc := cX12_undo) (maxL := 2) (ret := (some .int)) (by decide) rfl ?_
  intro p e s m args below meth c s₁ B hml hv
  obtain ⟨rfl, hsz, hP, hK, hD0⟩ := hv
  have hx := B.exec
  have hb := B.bytes
  have hr := B.returns
  have hts := atoms_spec (ws := w_n_undo) B.pre
  have hown : s.vm.findClass RX12 = some m.cls := findClass_of_methodNamed B.named
  have hlocks := B.notSynchronized
  subst hsz
  have hD := hD0.self (sz := s.heap.size)
  generalize hAe : va_A [(aR, .inr (15, fsR))] s.heap.size = A at hD ⊢
  have hA : ∀ q : Nat, s.heap.size ≤ q → A q := fun q h => by rw [← hAe]; exact Or.inr h
  have hS : va_S A s.heap s.heap [] := va_S.rf
  have hl := lv_entry ([.ref aR]) (n := 2) (Nat.le_of_ble_eq_true rfl)
  rw [lg_entry_eq]
  generalize (lg_sl ([.ref aR]) ++ List.replicate (2 - (lg_sl ([.ref aR])).length) Slot.unset).toArray = ls at hl ⊢
  have hl : lv_has ls 2 [(0, .ref aR)] := hl
  have o_fsR := ow_0 k_fsR
  refine lv_aload_n hx hb dX12_undo_0 rfl (lv_at hl 0 rfl) ?_
  refine lv_iconst (v := 0) hx hb dX12_undo_1 (by decide) ?_
  refine va_put (D := (dC, dI)) (ci := 15) (v := .int 0) (ty := .int) (C := RX12) (T := TX12) (N := 150) hx hb hts (in_n_undo_X12) tyX12 tyX12_ok nmX12 hown hK hP hD hS 0 rfl rfl 0 (by decide) (hts (.fieldLink RX12 388 "HeapWorksModel" "thrown" "I") (by decide +kernel)) (fun _ h9 => h9) rfl (by decide +kernel) rfl rfl (by rw [o_fsR.2.1]; decide) dX12_undo_2 (fun H locs hP hD hS => ?_)
  have hP : va_P (dC, dI) vwCl [(aR, .inr (15, (fsR.set 0 (.int 0))))] H := hP
  have hD : va_D A [(aR, .inr (15, (fsR.set 0 (.int 0))))] := hD
  have o_s2678 := ow_set o_fsR 0 (.int 0) (by decide) (l' := [(0, .int 0), (36, .int 0)]) (w' := [0]) rfl rfl
  generalize (fsR.set 0 (.int 0)) = s2678 at hP hD o_s2678
  refine lv_aload_n hx hb dX12_undo_5 rfl (lv_at hl 0 rfl) ?_
  refine va_get (D := (dC, dI)) (ci := 15) (v := .int 0) (C := RX12) (T := TX12) (N := 150) hx hb hts (in_n_undo_X12) hown hK hP 0 rfl rfl 36 (by decide) (hts (.fieldLink RX12 479 "HeapWorksModel" "undos" "I") (by decide +kernel)) (fun _ h9 => h9) (ow_at o_s2678 1 rfl) dX12_undo_6 ?_
  refine lv_if_ne (tgt := 14) hx hb dX12_undo_9 (by decide) (fun c2679 => absurd c2679 (by decide)) (fun c2679 => ?_)
  refine lv_iconst (v := (-1)) hx hb dX12_undo_12 (by decide) ?_
  have hP9 := hP.sub (ws' := [(aR, .inr (15, s2678))]) [0] rfl
  have hD9 := hD.sub (ws' := [(aR, .inr (15, s2678))]) [0] (by decide) rfl
  have hK9 := hK.sub (tys' := []) [] rfl
  exact W.iret (v := (-1)) hx hb hr (fun t ht hW => ⟨⟨(-1), s2678, rfl, ⟨rfl, o_s2678⟩, by rw [ht]; exact hP9, va_K.moved hW.alike hK9, hD9⟩, hS.F ht⟩) hS.2.2 dX12_undo_13

def l_n_swap : List Cond := [.methodLink RX12 473 yX12_isObject, .instanceMethod yX12_isObject, .selects RX12 yX12_isObject yX12_isObject, .initialized RX12, .fieldLink RX12 388 "HeapWorksModel" "thrown" "I", .code yX12_isObject cX12_isObject 2 (some .boolean), .fieldLink RX12 435 "HeapWorksModel" "objects" "I"]
def w_n_swap : List Cond := .code yX12_swap cX12_swap 9 (some .int) :: (l_n_swap ++ (wsX120))
theorem in_n_swap_X12 : ∀ w ∈ wsX120, w ∈ w_n_swap := fun w h => List.mem_cons_of_mem _ (List.mem_append_right _ (h))
theorem g_n_swap_z_X12_isObject_473 : GoodIn w_n_swap (wsV RX12 473 RX12 yX12_isObject w_z_X12_isObject) := goodIn_app (goodIn_sub (by decide +kernel) (by decide +kernel)) (goodIn_ca (goodIn_sub (by decide +kernel) (by decide +kernel)) (goodIn_in in_n_swap_X12 gd_X12))
set_option maxHeartbeats 4000000 in
set_option maxRecDepth 100000 in
theorem n_swap (l : Launch) (dC : Nat → ClassId) (dI : Nat → Nat → Nat) (sz : Nat) (aR : Nat) (fsR : List Value) (p0 : Int32) (p1 : Int32) (k_fsR : fh fsR 150 [(0, .int 0), (26, .int 0)])  : Met l yX12_swap w_n_swap ({ frames := 1, cells := 0, slots := 0, locals := 21 }) (va_Pc [.ref aR, .int p0, .int p1] (fun U => U.heap.size = sz ∧ Wd dC dI [] (fun _ => True) [(aR, .inr (15, fsR))] U)) (va_Qi (fun (r : Int32) (u : List Value) => (p0 < 0 ∧ r = 0 ∧ ow fsR (u) 150 [0] [(0, .int 1), (26, .int 0)]) ∨ (¬ p0 < 0 ∧ 0 ≤ p0 ∧ r = 0 ∧ ow fsR (u) 150 [0] [(0, .int 1), (26, .int 0)])) (fun (u : List Value) t => Wd dC dI [] (va_A [(aR, .inr (15, fsR))] sz) [(aR, .inr (15, (u)))] t) (va_A [(aR, .inr (15, fsR))] sz))  0 0 (va_A [(aR, .inr (15, fsR))] sz) := by
  refine Met.ofW (cc := cX12_swap) (maxL := 9) (ret := (some .int)) (by decide) rfl ?_
  intro p e s m args below meth c s₁ B hml hv
  obtain ⟨rfl, hsz, hP, hK, hD0⟩ := hv
  have hx := B.exec
  have hb := B.bytes
  have hr := B.returns
  have hts := atoms_spec (ws := w_n_swap) B.pre
  have hown : s.vm.findClass RX12 = some m.cls := findClass_of_methodNamed B.named
  have hlocks := B.notSynchronized
  subst hsz
  have hD := hD0.self (sz := s.heap.size)
  generalize hAe : va_A [(aR, .inr (15, fsR))] s.heap.size = A at hD ⊢
  have hA : ∀ q : Nat, s.heap.size ≤ q → A q := fun q h => by rw [← hAe]; exact Or.inr h
  have hS : va_S A s.heap s.heap [] := va_S.rf
  have hl := lv_entry ([.ref aR, .int p0, .int p1]) (n := 9) (Nat.le_of_ble_eq_true rfl)
  rw [lg_entry_eq]
  generalize (lg_sl ([.ref aR, .int p0, .int p1]) ++ List.replicate (9 - (lg_sl ([.ref aR, .int p0, .int p1])).length) Slot.unset).toArray = ls at hl ⊢
  have hl : lv_has ls 9 [(0, .ref aR), (1, .int p0), (2, .int p1)] := hl
  have o_fsR := ow_0 k_fsR
  refine lv_aload_n hx hb dX12_swap_0 rfl (lv_at hl 0 rfl) ?_
  refine lv_aload_n hx hb dX12_swap_1 rfl (lv_at hl 0 rfl) ?_
  refine lv_iload_n hx hb dX12_swap_2 rfl (lv_at hl 1 rfl) ?_
  have hPc := hP.sub (ws' := [(aR, .inr (15, fsR))]) [0] rfl
  have hDc := hD.sub (ws' := [(aR, .inr (15, fsR))]) [0] (by decide) rfl
  have hKc := hK.sub (tys' := []) [] rfl
  have hFc := va_free (wc := [(aR, .inr (15, fsR))]) hD hS hA [0] rfl
  refine va_calli (va_runV (As := [.int p0]) (rest := [.ref aR]) ⟨hx, hb, hml, hown, hts⟩ (z_X12_isObject l dC dI s.heap.size aR fsR p0 (fh_sub o_fsR.2 [1] rfl) ) (cwV 1 hts g_n_swap_z_X12_isObject_473 rfl rfl rfl (by decide +kernel) ⟨Nat.le_of_ble_eq_true rfl, Nat.le_of_ble_eq_true rfl⟩) ⟨fun a U g mk q => by obtain ⟨q0, q1, qP, qK, qD⟩ := q; exact ⟨q0, q1, qP, va_K.moved (u := U) (U := U.calling g mk a) (Vm.Alike.refl U.vm) qK, qD⟩, va_recv hK hP (ci := 15) (q0 := 0) rfl rfl, fun U hU hW => ⟨rfl, by rw [hU], by rw [hU]; exact hPc, va_K.moved hW.alike hKc, hDc.weaken (fun _ _ _ _ => trivial)⟩⟩ rfl rfl hl.1 rfl (lv_room (Nat.le_of_ble_eq_true rfl)) dX12_swap_3 ⟨Nat.le_of_ble_eq_true rfl, Nat.le_of_ble_eq_true rfl⟩) hS (fun q _ h => hFc q h) hFc (fun r2696 u t H1 locs ht hvm hw hB hz1 hk1 hS => ?_)
  obtain ⟨hP1, hK1, hD1⟩ := hB
  rw [ht] at hP1
  try dsimp only at hw
  obtain ⟨hP, hD⟩ := va_join (wr := []) (w1 := [(aR, .inr (15, fsR))]) hP hD [0] [] rfl rfl (by decide) (by decide) hk1 hFc hP1 hD1
  have hK := hK.sub (tys' := []) [] rfl
  generalize H1 = H at hP hS ⊢
  have hP : va_P (dC, dI) vwCl [(aR, .inr (15, fsR))] H := hP
  have hD : va_D A [(aR, .inr (15, fsR))] := hD
  rcases hw with ⟨c2697, er2698⟩ | ⟨c2699, c2700, er2701⟩
  · skip
    subst er2698
    refine lv_if_eq (tgt := 17) hx hb dX12_swap_6 (by decide) (fun c2702 => ?_) (fun c2702 => absurd c2702 (by decide))
    refine lv_iconst (v := 1) hx hb dX12_swap_17 (by decide) ?_
    refine lv_goto (tgt := 31) hx hb dX12_swap_18 (by decide) ?_
    refine va_put (D := (dC, dI)) (ci := 15) (v := .int 1) (ty := .int) (C := RX12) (T := TX12) (N := 150) hx hb hts (in_n_swap_X12) tyX12 tyX12_ok nmX12 hown hK hP hD hS 0 rfl rfl 0 (by decide) (hts (.fieldLink RX12 388 "HeapWorksModel" "thrown" "I") (by decide +kernel)) (fun _ h9 => h9) rfl (by decide +kernel) rfl rfl (by rw [o_fsR.2.1]; decide) dX12_swap_31 (fun H locs hP hD hS => ?_)
    have hP : va_P (dC, dI) vwCl [(aR, .inr (15, (fsR.set 0 (.int 1))))] H := hP
    have hD : va_D A [(aR, .inr (15, (fsR.set 0 (.int 1))))] := hD
    have o_s2703 := ow_set o_fsR 0 (.int 1) (by decide) (l' := [(0, .int 1), (26, .int 0)]) (w' := [0]) rfl rfl
    generalize (fsR.set 0 (.int 1)) = s2703 at hP hD o_s2703
    refine lv_aload_n hx hb dX12_swap_34 rfl (lv_at hl 0 rfl) ?_
    refine va_get (D := (dC, dI)) (ci := 15) (v := .int 1) (C := RX12) (T := TX12) (N := 150) hx hb hts (in_n_swap_X12) hown hK hP 0 rfl rfl 0 (by decide) (hts (.fieldLink RX12 388 "HeapWorksModel" "thrown" "I") (by decide +kernel)) (fun _ h9 => h9) (ow_at o_s2703 0 rfl) dX12_swap_35 ?_
    refine lv_if_le (tgt := 43) hx hb dX12_swap_38 (by decide) (fun c2704 => absurd c2704 (by decide)) (fun c2704 => ?_)
    refine lv_iconst (v := 0) hx hb dX12_swap_41 (by decide) ?_
    have hP9 := hP.sub (ws' := [(aR, .inr (15, s2703))]) [0] rfl
    have hD9 := hD.sub (ws' := [(aR, .inr (15, s2703))]) [0] (by decide) rfl
    have hK9 := hK.sub (tys' := []) [] rfl
    exact W.iret (v := 0) hx hb hr (fun t ht hW => ⟨⟨0, s2703, rfl, (Or.inl ⟨c2697, rfl, o_s2703⟩), by rw [ht]; exact hP9, va_K.moved hW.alike hK9, hD9⟩, hS.F ht⟩) hS.2.2 dX12_swap_42
  · skip
    subst er2701
    refine lv_if_eq (tgt := 17) hx hb dX12_swap_6 (by decide) (fun c2705 => ?_) (fun c2705 => absurd c2705 (by decide))
    refine lv_iconst (v := 1) hx hb dX12_swap_17 (by decide) ?_
    refine lv_goto (tgt := 31) hx hb dX12_swap_18 (by decide) ?_
    refine va_put (D := (dC, dI)) (ci := 15) (v := .int 1) (ty := .int) (C := RX12) (T := TX12) (N := 150) hx hb hts (in_n_swap_X12) tyX12 tyX12_ok nmX12 hown hK hP hD hS 0 rfl rfl 0 (by decide) (hts (.fieldLink RX12 388 "HeapWorksModel" "thrown" "I") (by decide +kernel)) (fun _ h9 => h9) rfl (by decide +kernel) rfl rfl (by rw [o_fsR.2.1]; decide) dX12_swap_31 (fun H locs hP hD hS => ?_)
    have hP : va_P (dC, dI) vwCl [(aR, .inr (15, (fsR.set 0 (.int 1))))] H := hP
    have hD : va_D A [(aR, .inr (15, (fsR.set 0 (.int 1))))] := hD
    have o_s2706 := ow_set o_fsR 0 (.int 1) (by decide) (l' := [(0, .int 1), (26, .int 0)]) (w' := [0]) rfl rfl
    generalize (fsR.set 0 (.int 1)) = s2706 at hP hD o_s2706
    refine lv_aload_n hx hb dX12_swap_34 rfl (lv_at hl 0 rfl) ?_
    refine va_get (D := (dC, dI)) (ci := 15) (v := .int 1) (C := RX12) (T := TX12) (N := 150) hx hb hts (in_n_swap_X12) hown hK hP 0 rfl rfl 0 (by decide) (hts (.fieldLink RX12 388 "HeapWorksModel" "thrown" "I") (by decide +kernel)) (fun _ h9 => h9) (ow_at o_s2706 0 rfl) dX12_swap_35 ?_
    refine lv_if_le (tgt := 43) hx hb dX12_swap_38 (by decide) (fun c2707 => absurd c2707 (by decide)) (fun c2707 => ?_)
    refine lv_iconst (v := 0) hx hb dX12_swap_41 (by decide) ?_
    have hP9 := hP.sub (ws' := [(aR, .inr (15, s2706))]) [0] rfl
    have hD9 := hD.sub (ws' := [(aR, .inr (15, s2706))]) [0] (by decide) rfl
    have hK9 := hK.sub (tys' := []) [] rfl
    exact W.iret (v := 0) hx hb hr (fun t ht hW => ⟨⟨0, s2706, rfl, (Or.inr (⟨c2699, c2700, rfl, o_s2706⟩)), by rw [ht]; exact hP9, va_K.moved hW.alike hK9, hD9⟩, hS.F ht⟩) hS.2.2 dX12_swap_42

def l_n_copy : List Cond := [.methodLink RX12 473 yX12_isObject, .instanceMethod yX12_isObject, .selects RX12 yX12_isObject yX12_isObject, .initialized RX12, .fieldLink RX12 388 "HeapWorksModel" "thrown" "I", .code yX12_isObject cX12_isObject 2 (some .boolean), .fieldLink RX12 435 "HeapWorksModel" "objects" "I"]
def w_n_copy : List Cond := .code yX12_copy cX12_copy 11 (some .int) :: (l_n_copy ++ (wsX120))
theorem in_n_copy_X12 : ∀ w ∈ wsX120, w ∈ w_n_copy := fun w h => List.mem_cons_of_mem _ (List.mem_append_right _ (h))
theorem g_n_copy_z_X12_isObject_473 : GoodIn w_n_copy (wsV RX12 473 RX12 yX12_isObject w_z_X12_isObject) := goodIn_app (goodIn_sub (by decide +kernel) (by decide +kernel)) (goodIn_ca (goodIn_sub (by decide +kernel) (by decide +kernel)) (goodIn_in in_n_copy_X12 gd_X12))
set_option maxHeartbeats 4000000 in
set_option maxRecDepth 100000 in
theorem n_copy (l : Launch) (dC : Nat → ClassId) (dI : Nat → Nat → Nat) (sz : Nat) (aR : Nat) (fsR : List Value) (p0 : Int32) (p1 : Int32) (k_fsR : fh fsR 150 [(0, .int 0), (26, .int 0)])  : Met l yX12_copy w_n_copy ({ frames := 1, cells := 0, slots := 0, locals := 21 }) (va_Pc [.ref aR, .int p0, .int p1] (fun U => U.heap.size = sz ∧ Wd dC dI [] (fun _ => True) [(aR, .inr (15, fsR))] U)) (va_Qi (fun (r : Int32) (u : List Value) => (p0 < 0 ∧ r = 0 ∧ ow fsR (u) 150 [0] [(0, .int 1), (26, .int 0)]) ∨ (¬ p0 < 0 ∧ 0 ≤ p0 ∧ r = 0 ∧ ow fsR (u) 150 [0] [(0, .int 1), (26, .int 0)])) (fun (u : List Value) t => Wd dC dI [] (va_A [(aR, .inr (15, fsR))] sz) [(aR, .inr (15, (u)))] t) (va_A [(aR, .inr (15, fsR))] sz))  0 0 (va_A [(aR, .inr (15, fsR))] sz) := by
  refine Met.ofW (cc := cX12_copy) (maxL := 11) (ret := (some .int)) (by decide) rfl ?_
  intro p e s m args below meth c s₁ B hml hv
  obtain ⟨rfl, hsz, hP, hK, hD0⟩ := hv
  have hx := B.exec
  have hb := B.bytes
  have hr := B.returns
  have hts := atoms_spec (ws := w_n_copy) B.pre
  have hown : s.vm.findClass RX12 = some m.cls := findClass_of_methodNamed B.named
  have hlocks := B.notSynchronized
  subst hsz
  have hD := hD0.self (sz := s.heap.size)
  generalize hAe : va_A [(aR, .inr (15, fsR))] s.heap.size = A at hD ⊢
  have hA : ∀ q : Nat, s.heap.size ≤ q → A q := fun q h => by rw [← hAe]; exact Or.inr h
  have hS : va_S A s.heap s.heap [] := va_S.rf
  have hl := lv_entry ([.ref aR, .int p0, .int p1]) (n := 11) (Nat.le_of_ble_eq_true rfl)
  rw [lg_entry_eq]
  generalize (lg_sl ([.ref aR, .int p0, .int p1]) ++ List.replicate (11 - (lg_sl ([.ref aR, .int p0, .int p1])).length) Slot.unset).toArray = ls at hl ⊢
  have hl : lv_has ls 11 [(0, .ref aR), (1, .int p0), (2, .int p1)] := hl
  have o_fsR := ow_0 k_fsR
  refine lv_aload_n hx hb dX12_copy_0 rfl (lv_at hl 0 rfl) ?_
  refine lv_aload_n hx hb dX12_copy_1 rfl (lv_at hl 0 rfl) ?_
  refine lv_iload_n hx hb dX12_copy_2 rfl (lv_at hl 1 rfl) ?_
  have hPc := hP.sub (ws' := [(aR, .inr (15, fsR))]) [0] rfl
  have hDc := hD.sub (ws' := [(aR, .inr (15, fsR))]) [0] (by decide) rfl
  have hKc := hK.sub (tys' := []) [] rfl
  have hFc := va_free (wc := [(aR, .inr (15, fsR))]) hD hS hA [0] rfl
  refine va_calli (va_runV (As := [.int p0]) (rest := [.ref aR]) ⟨hx, hb, hml, hown, hts⟩ (z_X12_isObject l dC dI s.heap.size aR fsR p0 (fh_sub o_fsR.2 [1] rfl) ) (cwV 1 hts g_n_copy_z_X12_isObject_473 rfl rfl rfl (by decide +kernel) ⟨Nat.le_of_ble_eq_true rfl, Nat.le_of_ble_eq_true rfl⟩) ⟨fun a U g mk q => by obtain ⟨q0, q1, qP, qK, qD⟩ := q; exact ⟨q0, q1, qP, va_K.moved (u := U) (U := U.calling g mk a) (Vm.Alike.refl U.vm) qK, qD⟩, va_recv hK hP (ci := 15) (q0 := 0) rfl rfl, fun U hU hW => ⟨rfl, by rw [hU], by rw [hU]; exact hPc, va_K.moved hW.alike hKc, hDc.weaken (fun _ _ _ _ => trivial)⟩⟩ rfl rfl hl.1 rfl (lv_room (Nat.le_of_ble_eq_true rfl)) dX12_copy_3 ⟨Nat.le_of_ble_eq_true rfl, Nat.le_of_ble_eq_true rfl⟩) hS (fun q _ h => hFc q h) hFc (fun r2724 u t H1 locs ht hvm hw hB hz1 hk1 hS => ?_)
  obtain ⟨hP1, hK1, hD1⟩ := hB
  rw [ht] at hP1
  try dsimp only at hw
  obtain ⟨hP, hD⟩ := va_join (wr := []) (w1 := [(aR, .inr (15, fsR))]) hP hD [0] [] rfl rfl (by decide) (by decide) hk1 hFc hP1 hD1
  have hK := hK.sub (tys' := []) [] rfl
  generalize H1 = H at hP hS ⊢
  have hP : va_P (dC, dI) vwCl [(aR, .inr (15, fsR))] H := hP
  have hD : va_D A [(aR, .inr (15, fsR))] := hD
  rcases hw with ⟨c2725, er2726⟩ | ⟨c2727, c2728, er2729⟩
  · skip
    subst er2726
    refine lv_if_ne (tgt := 13) hx hb dX12_copy_6 (by decide) (fun c2730 => absurd c2730 (by decide)) (fun c2730 => ?_)
    refine lv_iconst (v := 1) hx hb dX12_copy_9 (by decide) ?_
    refine lv_goto (tgt := 27) hx hb dX12_copy_10 (by decide) ?_
    refine va_put (D := (dC, dI)) (ci := 15) (v := .int 1) (ty := .int) (C := RX12) (T := TX12) (N := 150) hx hb hts (in_n_copy_X12) tyX12 tyX12_ok nmX12 hown hK hP hD hS 0 rfl rfl 0 (by decide) (hts (.fieldLink RX12 388 "HeapWorksModel" "thrown" "I") (by decide +kernel)) (fun _ h9 => h9) rfl (by decide +kernel) rfl rfl (by rw [o_fsR.2.1]; decide) dX12_copy_27 (fun H locs hP hD hS => ?_)
    have hP : va_P (dC, dI) vwCl [(aR, .inr (15, (fsR.set 0 (.int 1))))] H := hP
    have hD : va_D A [(aR, .inr (15, (fsR.set 0 (.int 1))))] := hD
    have o_s2731 := ow_set o_fsR 0 (.int 1) (by decide) (l' := [(0, .int 1), (26, .int 0)]) (w' := [0]) rfl rfl
    generalize (fsR.set 0 (.int 1)) = s2731 at hP hD o_s2731
    refine lv_aload_n hx hb dX12_copy_30 rfl (lv_at hl 0 rfl) ?_
    refine va_get (D := (dC, dI)) (ci := 15) (v := .int 1) (C := RX12) (T := TX12) (N := 150) hx hb hts (in_n_copy_X12) hown hK hP 0 rfl rfl 0 (by decide) (hts (.fieldLink RX12 388 "HeapWorksModel" "thrown" "I") (by decide +kernel)) (fun _ h9 => h9) (ow_at o_s2731 0 rfl) dX12_copy_31 ?_
    refine lv_if_le (tgt := 39) hx hb dX12_copy_34 (by decide) (fun c2732 => absurd c2732 (by decide)) (fun c2732 => ?_)
    refine lv_iconst (v := 0) hx hb dX12_copy_37 (by decide) ?_
    have hP9 := hP.sub (ws' := [(aR, .inr (15, s2731))]) [0] rfl
    have hD9 := hD.sub (ws' := [(aR, .inr (15, s2731))]) [0] (by decide) rfl
    have hK9 := hK.sub (tys' := []) [] rfl
    exact W.iret (v := 0) hx hb hr (fun t ht hW => ⟨⟨0, s2731, rfl, (Or.inl ⟨c2725, rfl, o_s2731⟩), by rw [ht]; exact hP9, va_K.moved hW.alike hK9, hD9⟩, hS.F ht⟩) hS.2.2 dX12_copy_38
  · skip
    subst er2729
    refine lv_if_ne (tgt := 13) hx hb dX12_copy_6 (by decide) (fun c2733 => absurd c2733 (by decide)) (fun c2733 => ?_)
    refine lv_iconst (v := 1) hx hb dX12_copy_9 (by decide) ?_
    refine lv_goto (tgt := 27) hx hb dX12_copy_10 (by decide) ?_
    refine va_put (D := (dC, dI)) (ci := 15) (v := .int 1) (ty := .int) (C := RX12) (T := TX12) (N := 150) hx hb hts (in_n_copy_X12) tyX12 tyX12_ok nmX12 hown hK hP hD hS 0 rfl rfl 0 (by decide) (hts (.fieldLink RX12 388 "HeapWorksModel" "thrown" "I") (by decide +kernel)) (fun _ h9 => h9) rfl (by decide +kernel) rfl rfl (by rw [o_fsR.2.1]; decide) dX12_copy_27 (fun H locs hP hD hS => ?_)
    have hP : va_P (dC, dI) vwCl [(aR, .inr (15, (fsR.set 0 (.int 1))))] H := hP
    have hD : va_D A [(aR, .inr (15, (fsR.set 0 (.int 1))))] := hD
    have o_s2734 := ow_set o_fsR 0 (.int 1) (by decide) (l' := [(0, .int 1), (26, .int 0)]) (w' := [0]) rfl rfl
    generalize (fsR.set 0 (.int 1)) = s2734 at hP hD o_s2734
    refine lv_aload_n hx hb dX12_copy_30 rfl (lv_at hl 0 rfl) ?_
    refine va_get (D := (dC, dI)) (ci := 15) (v := .int 1) (C := RX12) (T := TX12) (N := 150) hx hb hts (in_n_copy_X12) hown hK hP 0 rfl rfl 0 (by decide) (hts (.fieldLink RX12 388 "HeapWorksModel" "thrown" "I") (by decide +kernel)) (fun _ h9 => h9) (ow_at o_s2734 0 rfl) dX12_copy_31 ?_
    refine lv_if_le (tgt := 39) hx hb dX12_copy_34 (by decide) (fun c2735 => absurd c2735 (by decide)) (fun c2735 => ?_)
    refine lv_iconst (v := 0) hx hb dX12_copy_37 (by decide) ?_
    have hP9 := hP.sub (ws' := [(aR, .inr (15, s2734))]) [0] rfl
    have hD9 := hD.sub (ws' := [(aR, .inr (15, s2734))]) [0] (by decide) rfl
    have hK9 := hK.sub (tys' := []) [] rfl
    exact W.iret (v := 0) hx hb hr (fun t ht hW => ⟨⟨0, s2734, rfl, (Or.inr (⟨c2727, c2728, rfl, o_s2734⟩)), by rw [ht]; exact hP9, va_K.moved hW.alike hK9, hD9⟩, hS.F ht⟩) hS.2.2 dX12_copy_38

def l_n_apart : List Cond := [.fieldLink RX12 388 "HeapWorksModel" "thrown" "I", .methodLink RX12 416 yX12_isClass, .instanceMethod yX12_isClass, .selects RX12 yX12_isClass yX12_isClass, .initialized RX12, .code yX12_isClass cX12_isClass 2 (some .boolean), .fieldLink RX12 413 "HeapWorksModel" "classes" "I"]
def w_n_apart : List Cond := .code yX12_apart cX12_apart 3 (some .boolean) :: (l_n_apart ++ (wsX120))
theorem in_n_apart_X12 : ∀ w ∈ wsX120, w ∈ w_n_apart := fun w h => List.mem_cons_of_mem _ (List.mem_append_right _ (h))
theorem g_n_apart_z_X12_isClass_416 : GoodIn w_n_apart (wsV RX12 416 RX12 yX12_isClass w_z_X12_isClass) := goodIn_app (goodIn_sub (by decide +kernel) (by decide +kernel)) (goodIn_ca (goodIn_sub (by decide +kernel) (by decide +kernel)) (goodIn_in in_n_apart_X12 gd_X12))
set_option maxHeartbeats 4000000 in
set_option maxRecDepth 100000 in
theorem n_apart (l : Launch) (dC : Nat → ClassId) (dI : Nat → Nat → Nat) (sz : Nat) (aR : Nat) (fsR : List Value) (p0 : Int32) (p1 : Int32) (k_fsR : fh fsR 150 [(20, .int 0)])  : Met l yX12_apart w_n_apart ({ frames := 1, cells := 0, slots := 0, locals := 21 }) (va_Pc [.ref aR, .int p0, .int p1] (fun U => U.heap.size = sz ∧ Wd dC dI [] (fun _ => True) [(aR, .inr (15, fsR))] U)) (va_Qi (fun (r : Int32) (u : List Value) => (p0 < 0 ∧ r = 0 ∧ ow fsR (u) 150 [0] [(0, .int 0), (20, .int 0)]) ∨ (¬ p0 < 0 ∧ 0 ≤ p0 ∧ r = 0 ∧ ow fsR (u) 150 [0] [(0, .int 0), (20, .int 0)])) (fun (u : List Value) t => Wd dC dI [] (va_A [(aR, .inr (15, fsR))] sz) [(aR, .inr (15, (u)))] t) (va_A [(aR, .inr (15, fsR))] sz))  0 0 (va_A [(aR, .inr (15, fsR))] sz) := by
  refine Met.ofW (cc := cX12_apart) (maxL := 3) (ret := (some .boolean)) (by decide) rfl ?_
  intro p e s m args below meth c s₁ B hml hv
  obtain ⟨rfl, hsz, hP, hK, hD0⟩ := hv
  have hx := B.exec
  have hb := B.bytes
  have hr := B.returns
  have hts := atoms_spec (ws := w_n_apart) B.pre
  have hown : s.vm.findClass RX12 = some m.cls := findClass_of_methodNamed B.named
  have hlocks := B.notSynchronized
  subst hsz
  have hD := hD0.self (sz := s.heap.size)
  generalize hAe : va_A [(aR, .inr (15, fsR))] s.heap.size = A at hD ⊢
  have hA : ∀ q : Nat, s.heap.size ≤ q → A q := fun q h => by rw [← hAe]; exact Or.inr h
  have hS : va_S A s.heap s.heap [] := va_S.rf
  have hl := lv_entry ([.ref aR, .int p0, .int p1]) (n := 3) (Nat.le_of_ble_eq_true rfl)
  rw [lg_entry_eq]
  generalize (lg_sl ([.ref aR, .int p0, .int p1]) ++ List.replicate (3 - (lg_sl ([.ref aR, .int p0, .int p1])).length) Slot.unset).toArray = ls at hl ⊢
  have hl : lv_has ls 3 [(0, .ref aR), (1, .int p0), (2, .int p1)] := hl
  have o_fsR := ow_0 k_fsR
  refine lv_aload_n hx hb dX12_apart_0 rfl (lv_at hl 0 rfl) ?_
  refine lv_iconst (v := 0) hx hb dX12_apart_1 (by decide) ?_
  refine va_put (D := (dC, dI)) (ci := 15) (v := .int 0) (ty := .int) (C := RX12) (T := TX12) (N := 150) hx hb hts (in_n_apart_X12) tyX12 tyX12_ok nmX12 hown hK hP hD hS 0 rfl rfl 0 (by decide) (hts (.fieldLink RX12 388 "HeapWorksModel" "thrown" "I") (by decide +kernel)) (fun _ h9 => h9) rfl (by decide +kernel) rfl rfl (by rw [o_fsR.2.1]; decide) dX12_apart_2 (fun H locs hP hD hS => ?_)
  have hP : va_P (dC, dI) vwCl [(aR, .inr (15, (fsR.set 0 (.int 0))))] H := hP
  have hD : va_D A [(aR, .inr (15, (fsR.set 0 (.int 0))))] := hD
  have o_s2747 := ow_set o_fsR 0 (.int 0) (by decide) (l' := [(0, .int 0), (20, .int 0)]) (w' := [0]) rfl rfl
  generalize (fsR.set 0 (.int 0)) = s2747 at hP hD o_s2747
  refine lv_aload_n hx hb dX12_apart_5 rfl (lv_at hl 0 rfl) ?_
  refine lv_iload_n hx hb dX12_apart_6 rfl (lv_at hl 1 rfl) ?_
  have hPc := hP.sub (ws' := [(aR, .inr (15, s2747))]) [0] rfl
  have hDc := hD.sub (ws' := [(aR, .inr (15, s2747))]) [0] (by decide) rfl
  have hKc := hK.sub (tys' := []) [] rfl
  have hFc := va_free (wc := [(aR, .inr (15, s2747))]) hD hS hA [0] rfl
  refine va_calli (va_runV (As := [.int p0]) (rest := []) ⟨hx, hb, hml, hown, hts⟩ (z_X12_isClass l dC dI H.size aR s2747 p0 (fh_sub o_s2747.2 [1] rfl) ) (cwV 1 hts g_n_apart_z_X12_isClass_416 rfl rfl rfl (by decide +kernel) ⟨Nat.le_of_ble_eq_true rfl, Nat.le_of_ble_eq_true rfl⟩) ⟨fun a U g mk q => by obtain ⟨q0, q1, qP, qK, qD⟩ := q; exact ⟨q0, q1, qP, va_K.moved (u := U) (U := U.calling g mk a) (Vm.Alike.refl U.vm) qK, qD⟩, va_recv hK hP (ci := 15) (q0 := 0) rfl rfl, fun U hU hW => ⟨rfl, by rw [hU], by rw [hU]; exact hPc, va_K.moved hW.alike hKc, hDc.weaken (fun _ _ _ _ => trivial)⟩⟩ rfl rfl hl.1 rfl (lv_room (Nat.le_of_ble_eq_true rfl)) dX12_apart_7 ⟨Nat.le_of_ble_eq_true rfl, Nat.le_of_ble_eq_true rfl⟩) hS (fun q _ h => hFc q h) hFc (fun r2750 u t H1 locs ht hvm hw hB hz1 hk1 hS => ?_)
  obtain ⟨hP1, hK1, hD1⟩ := hB
  rw [ht] at hP1
  try dsimp only at hw
  obtain ⟨hP, hD⟩ := va_join (wr := []) (w1 := [(aR, .inr (15, s2747))]) hP hD [0] [] rfl rfl (by decide) (by decide) hk1 hFc hP1 hD1
  have hK := hK.sub (tys' := []) [] rfl
  generalize H1 = H at hP hS ⊢
  have hP : va_P (dC, dI) vwCl [(aR, .inr (15, s2747))] H := hP
  have hD : va_D A [(aR, .inr (15, s2747))] := hD
  rcases hw with ⟨c2751, er2752⟩ | ⟨c2753, c2754, er2755⟩
  · skip
    subst er2752
    refine lv_if_ne (tgt := 15) hx hb dX12_apart_10 (by decide) (fun c2756 => absurd c2756 (by decide)) (fun c2756 => ?_)
    refine lv_iconst (v := 0) hx hb dX12_apart_13 (by decide) ?_
    have hP9 := hP.sub (ws' := [(aR, .inr (15, s2747))]) [0] rfl
    have hD9 := hD.sub (ws' := [(aR, .inr (15, s2747))]) [0] (by decide) rfl
    have hK9 := hK.sub (tys' := []) [] rfl
    exact W.zret (v := 0) hx hb hr rfl (fun t ht hW => ⟨⟨0, s2747, rfl, (Or.inl ⟨c2751, rfl, o_s2747⟩), by rw [ht]; exact hP9, va_K.moved hW.alike hK9, hD9⟩, hS.F ht⟩) hS.2.2 dX12_apart_14
  · skip
    subst er2755
    refine lv_if_ne (tgt := 15) hx hb dX12_apart_10 (by decide) (fun c2757 => absurd c2757 (by decide)) (fun c2757 => ?_)
    refine lv_iconst (v := 0) hx hb dX12_apart_13 (by decide) ?_
    have hP9 := hP.sub (ws' := [(aR, .inr (15, s2747))]) [0] rfl
    have hD9 := hD.sub (ws' := [(aR, .inr (15, s2747))]) [0] (by decide) rfl
    have hK9 := hK.sub (tys' := []) [] rfl
    exact W.zret (v := 0) hx hb hr rfl (fun t ht hW => ⟨⟨0, s2747, rfl, (Or.inr (⟨c2753, c2754, rfl, o_s2747⟩)), by rw [ht]; exact hP9, va_K.moved hW.alike hK9, hD9⟩, hS.F ht⟩) hS.2.2 dX12_apart_14

def l_n_watch : List Cond := [.methodLink RX12 416 yX12_isClass, .instanceMethod yX12_isClass, .selects RX12 yX12_isClass yX12_isClass, .initialized RX12, .fieldLink RX12 388 "HeapWorksModel" "thrown" "I", .code yX12_isClass cX12_isClass 2 (some .boolean), .fieldLink RX12 413 "HeapWorksModel" "classes" "I"]
def w_n_watch : List Cond := .code yX12_watch cX12_watch 4 (some .int) :: (l_n_watch ++ (wsX120))
theorem in_n_watch_X12 : ∀ w ∈ wsX120, w ∈ w_n_watch := fun w h => List.mem_cons_of_mem _ (List.mem_append_right _ (h))
theorem g_n_watch_z_X12_isClass_416 : GoodIn w_n_watch (wsV RX12 416 RX12 yX12_isClass w_z_X12_isClass) := goodIn_app (goodIn_sub (by decide +kernel) (by decide +kernel)) (goodIn_ca (goodIn_sub (by decide +kernel) (by decide +kernel)) (goodIn_in in_n_watch_X12 gd_X12))
set_option maxHeartbeats 4000000 in
set_option maxRecDepth 100000 in
theorem n_watch (l : Launch) (dC : Nat → ClassId) (dI : Nat → Nat → Nat) (sz : Nat) (aR : Nat) (fsR : List Value) (p0 : Int32) (p1 : Int32) (p2 : Int32) (k_fsR : fh fsR 150 [(0, .int 0), (20, .int 0)])  : Met l yX12_watch w_n_watch ({ frames := 1, cells := 0, slots := 0, locals := 21 }) (va_Pc [.ref aR, .int p0, .int p1, .int p2] (fun U => U.heap.size = sz ∧ Wd dC dI [] (fun _ => True) [(aR, .inr (15, fsR))] U)) (va_Qi (fun (r : Int32) (u : List Value) => (p0 < 0 ∧ r = 0 ∧ ow fsR (u) 150 [0] [(0, .int 1), (20, .int 0)]) ∨ (¬ p0 < 0 ∧ 0 ≤ p0 ∧ r = 0 ∧ ow fsR (u) 150 [0] [(0, .int 1), (20, .int 0)])) (fun (u : List Value) t => Wd dC dI [] (va_A [(aR, .inr (15, fsR))] sz) [(aR, .inr (15, (u)))] t) (va_A [(aR, .inr (15, fsR))] sz))  0 0 (va_A [(aR, .inr (15, fsR))] sz) := by
  refine Met.ofW (cc := cX12_watch) (maxL := 4) (ret := (some .int)) (by decide) rfl ?_
  intro p e s m args below meth c s₁ B hml hv
  obtain ⟨rfl, hsz, hP, hK, hD0⟩ := hv
  have hx := B.exec
  have hb := B.bytes
  have hr := B.returns
  have hts := atoms_spec (ws := w_n_watch) B.pre
  have hown : s.vm.findClass RX12 = some m.cls := findClass_of_methodNamed B.named
  have hlocks := B.notSynchronized
  subst hsz
  have hD := hD0.self (sz := s.heap.size)
  generalize hAe : va_A [(aR, .inr (15, fsR))] s.heap.size = A at hD ⊢
  have hA : ∀ q : Nat, s.heap.size ≤ q → A q := fun q h => by rw [← hAe]; exact Or.inr h
  have hS : va_S A s.heap s.heap [] := va_S.rf
  have hl := lv_entry ([.ref aR, .int p0, .int p1, .int p2]) (n := 4) (Nat.le_of_ble_eq_true rfl)
  rw [lg_entry_eq]
  generalize (lg_sl ([.ref aR, .int p0, .int p1, .int p2]) ++ List.replicate (4 - (lg_sl ([.ref aR, .int p0, .int p1, .int p2])).length) Slot.unset).toArray = ls at hl ⊢
  have hl : lv_has ls 4 [(0, .ref aR), (1, .int p0), (2, .int p1), (3, .int p2)] := hl
  have o_fsR := ow_0 k_fsR
  refine lv_aload_n hx hb dX12_watch_0 rfl (lv_at hl 0 rfl) ?_
  refine lv_aload_n hx hb dX12_watch_1 rfl (lv_at hl 0 rfl) ?_
  refine lv_iload_n hx hb dX12_watch_2 rfl (lv_at hl 1 rfl) ?_
  have hPc := hP.sub (ws' := [(aR, .inr (15, fsR))]) [0] rfl
  have hDc := hD.sub (ws' := [(aR, .inr (15, fsR))]) [0] (by decide) rfl
  have hKc := hK.sub (tys' := []) [] rfl
  have hFc := va_free (wc := [(aR, .inr (15, fsR))]) hD hS hA [0] rfl
  refine va_calli (va_runV (As := [.int p0]) (rest := [.ref aR]) ⟨hx, hb, hml, hown, hts⟩ (z_X12_isClass l dC dI s.heap.size aR fsR p0 (fh_sub o_fsR.2 [1] rfl) ) (cwV 1 hts g_n_watch_z_X12_isClass_416 rfl rfl rfl (by decide +kernel) ⟨Nat.le_of_ble_eq_true rfl, Nat.le_of_ble_eq_true rfl⟩) ⟨fun a U g mk q => by obtain ⟨q0, q1, qP, qK, qD⟩ := q; exact ⟨q0, q1, qP, va_K.moved (u := U) (U := U.calling g mk a) (Vm.Alike.refl U.vm) qK, qD⟩, va_recv hK hP (ci := 15) (q0 := 0) rfl rfl, fun U hU hW => ⟨rfl, by rw [hU], by rw [hU]; exact hPc, va_K.moved hW.alike hKc, hDc.weaken (fun _ _ _ _ => trivial)⟩⟩ rfl rfl hl.1 rfl (lv_room (Nat.le_of_ble_eq_true rfl)) dX12_watch_3 ⟨Nat.le_of_ble_eq_true rfl, Nat.le_of_ble_eq_true rfl⟩) hS (fun q _ h => hFc q h) hFc (fun r2774 u t H1 locs ht hvm hw hB hz1 hk1 hS => ?_)
  obtain ⟨hP1, hK1, hD1⟩ := hB
  rw [ht] at hP1
  try dsimp only at hw
  obtain ⟨hP, hD⟩ := va_join (wr := []) (w1 := [(aR, .inr (15, fsR))]) hP hD [0] [] rfl rfl (by decide) (by decide) hk1 hFc hP1 hD1
  have hK := hK.sub (tys' := []) [] rfl
  generalize H1 = H at hP hS ⊢
  have hP : va_P (dC, dI) vwCl [(aR, .inr (15, fsR))] H := hP
  have hD : va_D A [(aR, .inr (15, fsR))] := hD
  rcases hw with ⟨c2775, er2776⟩ | ⟨c2777, c2778, er2779⟩
  · skip
    subst er2776
    refine lv_if_eq (tgt := 23) hx hb dX12_watch_6 (by decide) (fun c2780 => ?_) (fun c2780 => absurd c2780 (by decide))
    refine lv_iconst (v := 1) hx hb dX12_watch_23 (by decide) ?_
    refine lv_goto (tgt := 54) hx hb dX12_watch_24 (by decide) ?_
    refine va_put (D := (dC, dI)) (ci := 15) (v := .int 1) (ty := .int) (C := RX12) (T := TX12) (N := 150) hx hb hts (in_n_watch_X12) tyX12 tyX12_ok nmX12 hown hK hP hD hS 0 rfl rfl 0 (by decide) (hts (.fieldLink RX12 388 "HeapWorksModel" "thrown" "I") (by decide +kernel)) (fun _ h9 => h9) rfl (by decide +kernel) rfl rfl (by rw [o_fsR.2.1]; decide) dX12_watch_54 (fun H locs hP hD hS => ?_)
    have hP : va_P (dC, dI) vwCl [(aR, .inr (15, (fsR.set 0 (.int 1))))] H := hP
    have hD : va_D A [(aR, .inr (15, (fsR.set 0 (.int 1))))] := hD
    have o_s2781 := ow_set o_fsR 0 (.int 1) (by decide) (l' := [(0, .int 1), (20, .int 0)]) (w' := [0]) rfl rfl
    generalize (fsR.set 0 (.int 1)) = s2781 at hP hD o_s2781
    refine lv_aload_n hx hb dX12_watch_57 rfl (lv_at hl 0 rfl) ?_
    refine va_get (D := (dC, dI)) (ci := 15) (v := .int 1) (C := RX12) (T := TX12) (N := 150) hx hb hts (in_n_watch_X12) hown hK hP 0 rfl rfl 0 (by decide) (hts (.fieldLink RX12 388 "HeapWorksModel" "thrown" "I") (by decide +kernel)) (fun _ h9 => h9) (ow_at o_s2781 0 rfl) dX12_watch_58 ?_
    refine lv_if_le (tgt := 66) hx hb dX12_watch_61 (by decide) (fun c2782 => absurd c2782 (by decide)) (fun c2782 => ?_)
    refine lv_iconst (v := 0) hx hb dX12_watch_64 (by decide) ?_
    have hP9 := hP.sub (ws' := [(aR, .inr (15, s2781))]) [0] rfl
    have hD9 := hD.sub (ws' := [(aR, .inr (15, s2781))]) [0] (by decide) rfl
    have hK9 := hK.sub (tys' := []) [] rfl
    exact W.iret (v := 0) hx hb hr (fun t ht hW => ⟨⟨0, s2781, rfl, (Or.inl ⟨c2775, rfl, o_s2781⟩), by rw [ht]; exact hP9, va_K.moved hW.alike hK9, hD9⟩, hS.F ht⟩) hS.2.2 dX12_watch_65
  · skip
    subst er2779
    refine lv_if_eq (tgt := 23) hx hb dX12_watch_6 (by decide) (fun c2783 => ?_) (fun c2783 => absurd c2783 (by decide))
    refine lv_iconst (v := 1) hx hb dX12_watch_23 (by decide) ?_
    refine lv_goto (tgt := 54) hx hb dX12_watch_24 (by decide) ?_
    refine va_put (D := (dC, dI)) (ci := 15) (v := .int 1) (ty := .int) (C := RX12) (T := TX12) (N := 150) hx hb hts (in_n_watch_X12) tyX12 tyX12_ok nmX12 hown hK hP hD hS 0 rfl rfl 0 (by decide) (hts (.fieldLink RX12 388 "HeapWorksModel" "thrown" "I") (by decide +kernel)) (fun _ h9 => h9) rfl (by decide +kernel) rfl rfl (by rw [o_fsR.2.1]; decide) dX12_watch_54 (fun H locs hP hD hS => ?_)
    have hP : va_P (dC, dI) vwCl [(aR, .inr (15, (fsR.set 0 (.int 1))))] H := hP
    have hD : va_D A [(aR, .inr (15, (fsR.set 0 (.int 1))))] := hD
    have o_s2784 := ow_set o_fsR 0 (.int 1) (by decide) (l' := [(0, .int 1), (20, .int 0)]) (w' := [0]) rfl rfl
    generalize (fsR.set 0 (.int 1)) = s2784 at hP hD o_s2784
    refine lv_aload_n hx hb dX12_watch_57 rfl (lv_at hl 0 rfl) ?_
    refine va_get (D := (dC, dI)) (ci := 15) (v := .int 1) (C := RX12) (T := TX12) (N := 150) hx hb hts (in_n_watch_X12) hown hK hP 0 rfl rfl 0 (by decide) (hts (.fieldLink RX12 388 "HeapWorksModel" "thrown" "I") (by decide +kernel)) (fun _ h9 => h9) (ow_at o_s2784 0 rfl) dX12_watch_58 ?_
    refine lv_if_le (tgt := 66) hx hb dX12_watch_61 (by decide) (fun c2785 => absurd c2785 (by decide)) (fun c2785 => ?_)
    refine lv_iconst (v := 0) hx hb dX12_watch_64 (by decide) ?_
    have hP9 := hP.sub (ws' := [(aR, .inr (15, s2784))]) [0] rfl
    have hD9 := hD.sub (ws' := [(aR, .inr (15, s2784))]) [0] (by decide) rfl
    have hK9 := hK.sub (tys' := []) [] rfl
    exact W.iret (v := 0) hx hb hr (fun t ht hW => ⟨⟨0, s2784, rfl, (Or.inr (⟨c2777, c2778, rfl, o_s2784⟩)), by rw [ht]; exact hP9, va_K.moved hW.alike hK9, hD9⟩, hS.F ht⟩) hS.2.2 dX12_watch_65

def l_n_rows : List Cond := [.fieldLink RX12 388 "HeapWorksModel" "thrown" "I", .fieldLink RX12 485 "HeapWorksModel" "watches" "I"]
def w_n_rows : List Cond := .code yX12_rows cX12_rows 2 (some .int) :: (l_n_rows ++ (wsX120))
theorem in_n_rows_X12 : ∀ w ∈ wsX120, w ∈ w_n_rows := fun w h => List.mem_cons_of_mem _ (List.mem_append_right _ (h))
set_option maxHeartbeats 4000000 in
set_option maxRecDepth 100000 in
theorem n_rows (l : Launch) (dC : Nat → ClassId) (dI : Nat → Nat → Nat) (sz : Nat) (aR : Nat) (fsR : List Value) (p0 : Int32) (k_fsR : fh fsR 150 [(44, .int 0)])  : Met l yX12_rows w_n_rows ({ frames := 0, cells := 0, slots := 0, locals := 0 }) (va_Pc [.ref aR, .int p0] (fun U => U.heap.size = sz ∧ Wd dC dI [] (fun _ => True) [(aR, .inr (15, fsR))] U)) (va_Qi (fun (r : Int32) (u : List Value) => (p0 < 0 ∧ r = (-1) ∧ ow fsR (u) 150 [0] [(0, .int 0), (44, .int 0)]) ∨ (¬ p0 < 0 ∧ 0 ≤ p0 ∧ r = (-1) ∧ ow fsR (u) 150 [0] [(0, .int 0), (44, .int 0)])) (fun (u : List Value) t => Wd dC dI [] (va_A [(aR, .inr (15, fsR))] sz) [(aR, .inr (15, (u)))] t) (va_A [(aR, .inr (15, fsR))] sz))  0 0 (va_A [(aR, .inr (15, fsR))] sz) := by
  refine Met.ofW (cc := cX12_rows) (maxL := 2) (ret := (some .int)) (by decide) rfl ?_
  intro p e s m args below meth c s₁ B hml hv
  obtain ⟨rfl, hsz, hP, hK, hD0⟩ := hv
  have hx := B.exec
  have hb := B.bytes
  have hr := B.returns
  have hts := atoms_spec (ws := w_n_rows) B.pre
  have hown : s.vm.findClass RX12 = some m.cls := findClass_of_methodNamed B.named
  have hlocks := B.notSynchronized
  subst hsz
  have hD := hD0.self (sz := s.heap.size)
  generalize hAe : va_A [(aR, .inr (15, fsR))] s.heap.size = A at hD ⊢
  have hA : ∀ q : Nat, s.heap.size ≤ q → A q := fun q h => by rw [← hAe]; exact Or.inr h
  have hS : va_S A s.heap s.heap [] := va_S.rf
  have hl := lv_entry ([.ref aR, .int p0]) (n := 2) (Nat.le_of_ble_eq_true rfl)
  rw [lg_entry_eq]
  generalize (lg_sl ([.ref aR, .int p0]) ++ List.replicate (2 - (lg_sl ([.ref aR, .int p0])).length) Slot.unset).toArray = ls at hl ⊢
  have hl : lv_has ls 2 [(0, .ref aR), (1, .int p0)] := hl
  have o_fsR := ow_0 k_fsR
  refine lv_aload_n hx hb dX12_rows_0 rfl (lv_at hl 0 rfl) ?_
  refine lv_iconst (v := 0) hx hb dX12_rows_1 (by decide) ?_
  refine va_put (D := (dC, dI)) (ci := 15) (v := .int 0) (ty := .int) (C := RX12) (T := TX12) (N := 150) hx hb hts (in_n_rows_X12) tyX12 tyX12_ok nmX12 hown hK hP hD hS 0 rfl rfl 0 (by decide) (hts (.fieldLink RX12 388 "HeapWorksModel" "thrown" "I") (by decide +kernel)) (fun _ h9 => h9) rfl (by decide +kernel) rfl rfl (by rw [o_fsR.2.1]; decide) dX12_rows_2 (fun H locs hP hD hS => ?_)
  have hP : va_P (dC, dI) vwCl [(aR, .inr (15, (fsR.set 0 (.int 0))))] H := hP
  have hD : va_D A [(aR, .inr (15, (fsR.set 0 (.int 0))))] := hD
  have o_s2789 := ow_set o_fsR 0 (.int 0) (by decide) (l' := [(0, .int 0), (44, .int 0)]) (w' := [0]) rfl rfl
  generalize (fsR.set 0 (.int 0)) = s2789 at hP hD o_s2789
  refine lv_iload_n hx hb dX12_rows_5 rfl (lv_at hl 1 rfl) ?_
  refine lv_if_lt (tgt := 26) hx hb dX12_rows_6 (by decide) (fun c2790 => ?_) (fun c2790 => ?_)
  · skip
    refine lv_iconst (v := (-1)) hx hb dX12_rows_26 (by decide) ?_
    have hP9 := hP.sub (ws' := [(aR, .inr (15, s2789))]) [0] rfl
    have hD9 := hD.sub (ws' := [(aR, .inr (15, s2789))]) [0] (by decide) rfl
    have hK9 := hK.sub (tys' := []) [] rfl
    exact W.iret (v := (-1)) hx hb hr (fun t ht hW => ⟨⟨(-1), s2789, rfl, (Or.inl ⟨c2790, rfl, o_s2789⟩), by rw [ht]; exact hP9, va_K.moved hW.alike hK9, hD9⟩, hS.F ht⟩) hS.2.2 dX12_rows_27
  · skip
    refine lv_iload_n hx hb dX12_rows_9 rfl (lv_at hl 1 rfl) ?_
    refine lv_aload_n hx hb dX12_rows_10 rfl (lv_at hl 0 rfl) ?_
    refine va_get (D := (dC, dI)) (ci := 15) (v := .int 0) (C := RX12) (T := TX12) (N := 150) hx hb hts (in_n_rows_X12) hown hK hP 0 rfl rfl 44 (by decide) (hts (.fieldLink RX12 485 "HeapWorksModel" "watches" "I") (by decide +kernel)) (fun _ h9 => h9) (ow_at o_s2789 1 rfl) dX12_rows_11 ?_
    refine lv_icmp_ge (tgt := 26) hx hb dX12_rows_14 (by decide) (fun c2791 => ?_) (fun c2791 => (by exfalso; have bd_p0 := i_bd p0; (try simp only [i_lt, i_le, i_eq, kc_0] at c2790 c2791); omega))
    refine lv_iconst (v := (-1)) hx hb dX12_rows_26 (by decide) ?_
    have hP9 := hP.sub (ws' := [(aR, .inr (15, s2789))]) [0] rfl
    have hD9 := hD.sub (ws' := [(aR, .inr (15, s2789))]) [0] (by decide) rfl
    have hK9 := hK.sub (tys' := []) [] rfl
    exact W.iret (v := (-1)) hx hb hr (fun t ht hW => ⟨⟨(-1), s2789, rfl, (Or.inr (⟨c2790, c2791, rfl, o_s2789⟩)), by rw [ht]; exact hP9, va_K.moved hW.alike hK9, hD9⟩, hS.F ht⟩) hS.2.2 dX12_rows_27

def l_n_row : List Cond := [.fieldLink RX12 388 "HeapWorksModel" "thrown" "I", .fieldLink RX12 485 "HeapWorksModel" "watches" "I"]
def w_n_row : List Cond := .code yX12_row cX12_row 5 (some .long) :: (l_n_row ++ (wsX120))
theorem in_n_row_X12 : ∀ w ∈ wsX120, w ∈ w_n_row := fun w h => List.mem_cons_of_mem _ (List.mem_append_right _ (h))
set_option maxHeartbeats 4000000 in
set_option maxRecDepth 100000 in
theorem n_row (l : Launch) (dC : Nat → ClassId) (dI : Nat → Nat → Nat) (sz : Nat) (aR : Nat) (fsR : List Value) (p0 : Int32) (p1 : Int32) (p2 : Int32) (k_fsR : fh fsR 150 [(0, .int 0), (44, .int 0)])  : Met l yX12_row w_n_row ({ frames := 0, cells := 0, slots := 0, locals := 0 }) (va_Pc [.ref aR, .int p0, .int p1, .int p2] (fun U => U.heap.size = sz ∧ Wd dC dI [] (fun _ => True) [(aR, .inr (15, fsR))] U)) (va_Ql (fun (r : Int64) (u : List Value) => (p0 < 0 ∧ r = 0 ∧ ow fsR (u) 150 [0] [(0, .int 1), (44, .int 0)]) ∨ (¬ p0 < 0 ∧ 0 ≤ p0 ∧ r = 0 ∧ ow fsR (u) 150 [0] [(0, .int 1), (44, .int 0)])) (fun (u : List Value) t => Wd dC dI [] (va_A [(aR, .inr (15, fsR))] sz) [(aR, .inr (15, (u)))] t) (va_A [(aR, .inr (15, fsR))] sz))  0 0 (va_A [(aR, .inr (15, fsR))] sz) := by
  refine Met.ofW (cc := cX12_row) (maxL := 5) (ret := (some .long)) (by decide) rfl ?_
  intro p e s m args below meth c s₁ B hml hv
  obtain ⟨rfl, hsz, hP, hK, hD0⟩ := hv
  have hx := B.exec
  have hb := B.bytes
  have hr := B.returns
  have hts := atoms_spec (ws := w_n_row) B.pre
  have hown : s.vm.findClass RX12 = some m.cls := findClass_of_methodNamed B.named
  have hlocks := B.notSynchronized
  subst hsz
  have hD := hD0.self (sz := s.heap.size)
  generalize hAe : va_A [(aR, .inr (15, fsR))] s.heap.size = A at hD ⊢
  have hA : ∀ q : Nat, s.heap.size ≤ q → A q := fun q h => by rw [← hAe]; exact Or.inr h
  have hS : va_S A s.heap s.heap [] := va_S.rf
  have hl := lv_entry ([.ref aR, .int p0, .int p1, .int p2]) (n := 5) (Nat.le_of_ble_eq_true rfl)
  rw [lg_entry_eq]
  generalize (lg_sl ([.ref aR, .int p0, .int p1, .int p2]) ++ List.replicate (5 - (lg_sl ([.ref aR, .int p0, .int p1, .int p2])).length) Slot.unset).toArray = ls at hl ⊢
  have hl : lv_has ls 5 [(0, .ref aR), (1, .int p0), (2, .int p1), (3, .int p2)] := hl
  have o_fsR := ow_0 k_fsR
  refine lv_aload_n hx hb dX12_row_0 rfl (lv_at hl 0 rfl) ?_
  refine lv_iload_n hx hb dX12_row_1 rfl (lv_at hl 1 rfl) ?_
  refine lv_if_lt (tgt := 36) hx hb dX12_row_2 (by decide) (fun c2798 => ?_) (fun c2798 => ?_)
  · skip
    refine lv_iconst (v := 1) hx hb dX12_row_36 (by decide) ?_
    refine lv_goto (tgt := 41) hx hb dX12_row_37 (by decide) ?_
    refine va_put (D := (dC, dI)) (ci := 15) (v := .int 1) (ty := .int) (C := RX12) (T := TX12) (N := 150) hx hb hts (in_n_row_X12) tyX12 tyX12_ok nmX12 hown hK hP hD hS 0 rfl rfl 0 (by decide) (hts (.fieldLink RX12 388 "HeapWorksModel" "thrown" "I") (by decide +kernel)) (fun _ h9 => h9) rfl (by decide +kernel) rfl rfl (by rw [o_fsR.2.1]; decide) dX12_row_41 (fun H locs hP hD hS => ?_)
    have hP : va_P (dC, dI) vwCl [(aR, .inr (15, (fsR.set 0 (.int 1))))] H := hP
    have hD : va_D A [(aR, .inr (15, (fsR.set 0 (.int 1))))] := hD
    have o_s2799 := ow_set o_fsR 0 (.int 1) (by decide) (l' := [(0, .int 1), (44, .int 0)]) (w' := [0]) rfl rfl
    generalize (fsR.set 0 (.int 1)) = s2799 at hP hD o_s2799
    refine lv_aload_n hx hb dX12_row_44 rfl (lv_at hl 0 rfl) ?_
    refine va_get (D := (dC, dI)) (ci := 15) (v := .int 1) (C := RX12) (T := TX12) (N := 150) hx hb hts (in_n_row_X12) hown hK hP 0 rfl rfl 0 (by decide) (hts (.fieldLink RX12 388 "HeapWorksModel" "thrown" "I") (by decide +kernel)) (fun _ h9 => h9) (ow_at o_s2799 0 rfl) dX12_row_45 ?_
    refine lv_if_le (tgt := 53) hx hb dX12_row_48 (by decide) (fun c2800 => absurd c2800 (by decide)) (fun c2800 => ?_)
    refine lv_lconst (v := 0) hx hb dX12_row_51 (by decide) ?_
    have hP9 := hP.sub (ws' := [(aR, .inr (15, s2799))]) [0] rfl
    have hD9 := hD.sub (ws' := [(aR, .inr (15, s2799))]) [0] (by decide) rfl
    have hK9 := hK.sub (tys' := []) [] rfl
    exact W.lret (v := 0) hx hb hr (fun t ht hW => ⟨⟨0, s2799, rfl, (Or.inl ⟨c2798, rfl, o_s2799⟩), by rw [ht]; exact hP9, va_K.moved hW.alike hK9, hD9⟩, hS.F ht⟩) hS.2.2 dX12_row_52
  · skip
    refine lv_iload_n hx hb dX12_row_5 rfl (lv_at hl 1 rfl) ?_
    refine lv_aload_n hx hb dX12_row_6 rfl (lv_at hl 0 rfl) ?_
    refine va_get (D := (dC, dI)) (ci := 15) (v := .int 0) (C := RX12) (T := TX12) (N := 150) hx hb hts (in_n_row_X12) hown hK hP 0 rfl rfl 44 (by decide) (hts (.fieldLink RX12 485 "HeapWorksModel" "watches" "I") (by decide +kernel)) (fun _ h9 => h9) (ow_at o_fsR 1 rfl) dX12_row_7 ?_
    refine lv_icmp_ge (tgt := 36) hx hb dX12_row_10 (by decide) (fun c2801 => ?_) (fun c2801 => (by exfalso; have bd_p0 := i_bd p0; (try simp only [i_lt, i_le, i_eq, kc_0] at c2798 c2801); omega))
    refine lv_iconst (v := 1) hx hb dX12_row_36 (by decide) ?_
    refine lv_goto (tgt := 41) hx hb dX12_row_37 (by decide) ?_
    refine va_put (D := (dC, dI)) (ci := 15) (v := .int 1) (ty := .int) (C := RX12) (T := TX12) (N := 150) hx hb hts (in_n_row_X12) tyX12 tyX12_ok nmX12 hown hK hP hD hS 0 rfl rfl 0 (by decide) (hts (.fieldLink RX12 388 "HeapWorksModel" "thrown" "I") (by decide +kernel)) (fun _ h9 => h9) rfl (by decide +kernel) rfl rfl (by rw [o_fsR.2.1]; decide) dX12_row_41 (fun H locs hP hD hS => ?_)
    have hP : va_P (dC, dI) vwCl [(aR, .inr (15, (fsR.set 0 (.int 1))))] H := hP
    have hD : va_D A [(aR, .inr (15, (fsR.set 0 (.int 1))))] := hD
    have o_s2802 := ow_set o_fsR 0 (.int 1) (by decide) (l' := [(0, .int 1), (44, .int 0)]) (w' := [0]) rfl rfl
    generalize (fsR.set 0 (.int 1)) = s2802 at hP hD o_s2802
    refine lv_aload_n hx hb dX12_row_44 rfl (lv_at hl 0 rfl) ?_
    refine va_get (D := (dC, dI)) (ci := 15) (v := .int 1) (C := RX12) (T := TX12) (N := 150) hx hb hts (in_n_row_X12) hown hK hP 0 rfl rfl 0 (by decide) (hts (.fieldLink RX12 388 "HeapWorksModel" "thrown" "I") (by decide +kernel)) (fun _ h9 => h9) (ow_at o_s2802 0 rfl) dX12_row_45 ?_
    refine lv_if_le (tgt := 53) hx hb dX12_row_48 (by decide) (fun c2803 => absurd c2803 (by decide)) (fun c2803 => ?_)
    refine lv_lconst (v := 0) hx hb dX12_row_51 (by decide) ?_
    have hP9 := hP.sub (ws' := [(aR, .inr (15, s2802))]) [0] rfl
    have hD9 := hD.sub (ws' := [(aR, .inr (15, s2802))]) [0] (by decide) rfl
    have hK9 := hK.sub (tys' := []) [] rfl
    exact W.lret (v := 0) hx hb hr (fun t ht hW => ⟨⟨0, s2802, rfl, (Or.inr (⟨c2798, c2801, rfl, o_s2802⟩)), by rw [ht]; exact hP9, va_K.moved hW.alike hK9, hD9⟩, hS.F ht⟩) hS.2.2 dX12_row_52

def l_z_X12_byteAt : List Cond := [.fieldLink RX12 391 "HeapWorksModel" "taped" "I"]
def w_z_X12_byteAt : List Cond := .code yX12_byteAt cX12_byteAt 2 (some .int) :: (l_z_X12_byteAt ++ (wsX120))
theorem in_z_X12_byteAt_X12 : ∀ w ∈ wsX120, w ∈ w_z_X12_byteAt := fun w h => List.mem_cons_of_mem _ (List.mem_append_right _ (h))
set_option maxHeartbeats 4000000 in
set_option maxRecDepth 100000 in
theorem z_X12_byteAt (l : Launch) (dC : Nat → ClassId) (dI : Nat → Nat → Nat) (sz : Nat) (Ad0 : Nat) (Fs0 : List Value) (k_Fs0 : fh Fs0 150 [(3, .int 0)])  : Met l yX12_byteAt w_z_X12_byteAt ({ frames := 0, cells := 0, slots := 0, locals := 0 }) (va_Pc [.ref Ad0, .int 0] (fun U => U.heap.size = sz ∧ Wd dC dI [] (fun _ => True) [(Ad0, .inr (15, Fs0))] U)) (va_Qi (fun (r : Int32) (u : Unit) => r = (-1)) (fun (u : Unit) t => Wd dC dI [] (va_A [(Ad0, .inr (15, Fs0))] sz) [(Ad0, .inr (15, Fs0))] t) (va_A [(Ad0, .inr (15, Fs0))] sz))  0 0 (va_A [(Ad0, .inr (15, Fs0))] sz) := by
  refine Met.ofW (cc := cX12_byteAt) (maxL := 2) (ret := (some .int)) (by decide) rfl ?_
  intro p e s m args below meth c s₁ B hml hv
  obtain ⟨rfl, hsz, hP, hK, hD0⟩ := hv
  have hx := B.exec
  have hb := B.bytes
  have hr := B.returns
  have hts := atoms_spec (ws := w_z_X12_byteAt) B.pre
  have hown : s.vm.findClass RX12 = some m.cls := findClass_of_methodNamed B.named
  have hlocks := B.notSynchronized
  subst hsz
  have hD := hD0.self (sz := s.heap.size)
  generalize hAe : va_A [(Ad0, .inr (15, Fs0))] s.heap.size = A at hD ⊢
  have hA : ∀ q : Nat, s.heap.size ≤ q → A q := fun q h => by rw [← hAe]; exact Or.inr h
  have hS : va_S A s.heap s.heap [] := va_S.rf
  have hl := lv_entry ([.ref Ad0, .int 0]) (n := 2) (Nat.le_of_ble_eq_true rfl)
  rw [lg_entry_eq]
  generalize (lg_sl ([.ref Ad0, .int 0]) ++ List.replicate (2 - (lg_sl ([.ref Ad0, .int 0])).length) Slot.unset).toArray = ls at hl ⊢
  have hl : lv_has ls 2 [(0, .ref Ad0), (1, .int 0)] := hl
  have o_Fs0 := ow_0 k_Fs0
  refine lv_iload_n hx hb dX12_byteAt_0 rfl (lv_at hl 1 rfl) ?_
  refine lv_aload_n hx hb dX12_byteAt_1 rfl (lv_at hl 0 rfl) ?_
  refine va_get (D := (dC, dI)) (ci := 15) (v := .int 0) (C := RX12) (T := TX12) (N := 150) hx hb hts (in_z_X12_byteAt_X12) hown hK hP 0 rfl rfl 3 (by decide) (hts (.fieldLink RX12 391 "HeapWorksModel" "taped" "I") (by decide +kernel)) (fun _ h9 => h9) (ow_at o_Fs0 0 rfl) dX12_byteAt_2 ?_
  refine lv_icmp_ge (tgt := 21) hx hb dX12_byteAt_5 (by decide) (fun c2817 => ?_) (fun c2817 => absurd c2817 (by decide))
  refine lv_iconst (v := (-1)) hx hb dX12_byteAt_21 (by decide) ?_
  have hP9 := hP.sub (ws' := [(Ad0, .inr (15, Fs0))]) [0] rfl
  have hD9 := hD.sub (ws' := [(Ad0, .inr (15, Fs0))]) [0] (by decide) rfl
  have hK9 := hK.sub (tys' := []) [] rfl
  exact W.iret (v := (-1)) hx hb hr (fun t ht hW => ⟨⟨(-1), (), rfl, rfl, by rw [ht]; exact hP9, va_K.moved hW.alike hK9, hD9⟩, hS.F ht⟩) hS.2.2 dX12_byteAt_22

def l_z_X12_advance : List Cond := [.fieldLink RX12 631 "HeapWorksModel" "at0" "I", .methodLink RX12 634 yX12_byteAt, .instanceMethod yX12_byteAt, .selects RX12 yX12_byteAt yX12_byteAt, .initialized RX12, .fieldLink RX12 637 "HeapWorksModel" "from0" "I", .fieldLink RX12 640 "HeapWorksModel" "word" "J", .fieldLink RX12 644 "HeapWorksModel" "kind" "I", .code yX12_byteAt cX12_byteAt 2 (some .int), .fieldLink RX12 391 "HeapWorksModel" "taped" "I"]
def w_z_X12_advance : List Cond := .code yX12_advance cX12_advance 5 none :: (l_z_X12_advance ++ (wsX120))
theorem in_z_X12_advance_X12 : ∀ w ∈ wsX120, w ∈ w_z_X12_advance := fun w h => List.mem_cons_of_mem _ (List.mem_append_right _ (h))
theorem g_z_X12_advance_z_X12_byteAt_634 : GoodIn w_z_X12_advance (wsV RX12 634 RX12 yX12_byteAt w_z_X12_byteAt) := goodIn_app (goodIn_sub (by decide +kernel) (by decide +kernel)) (goodIn_ca (goodIn_sub (by decide +kernel) (by decide +kernel)) (goodIn_in in_z_X12_advance_X12 gd_X12))
set_option maxHeartbeats 4000000 in
set_option maxRecDepth 100000 in
theorem z_X12_advance (l : Launch) (dC : Nat → ClassId) (dI : Nat → Nat → Nat) (sz : Nat) (Ad0 : Nat) (Fs0 : List Value) (k_Fs0 : fh Fs0 150 [(78, .int 0), (3, .int 0)])  : Met l yX12_advance w_z_X12_advance ({ frames := 1, cells := 0, slots := 0, locals := 21 }) (va_Pc [.ref Ad0] (fun U => U.heap.size = sz ∧ Wd dC dI [] (fun _ => True) [(Ad0, .inr (15, Fs0))] U)) (va_Qv (fun (u : List Value) => ow Fs0 (u) 150 [80, 85, 79] [(80, .int 0), (85, .long 0), (79, .int 0), (78, .int 0), (3, .int 0)]) (fun (u : List Value) t => Wd dC dI [] (va_A [(Ad0, .inr (15, Fs0))] sz) [(Ad0, .inr (15, (u)))] t) (va_A [(Ad0, .inr (15, Fs0))] sz))  0 0 (va_A [(Ad0, .inr (15, Fs0))] sz) := by
  refine Met.ofW (cc := cX12_advance) (maxL := 5) (ret := none) (by decide) rfl ?_
  intro p e s m args below meth c s₁ B hml hv
  obtain ⟨rfl, hsz, hP, hK, hD0⟩ := hv
  have hx := B.exec
  have hb := B.bytes
  have hr := B.returns
  have hts := atoms_spec (ws := w_z_X12_advance) B.pre
  have hown : s.vm.findClass RX12 = some m.cls := findClass_of_methodNamed B.named
  have hlocks := B.notSynchronized
  subst hsz
  have hD := hD0.self (sz := s.heap.size)
  generalize hAe : va_A [(Ad0, .inr (15, Fs0))] s.heap.size = A at hD ⊢
  have hA : ∀ q : Nat, s.heap.size ≤ q → A q := fun q h => by rw [← hAe]; exact Or.inr h
  have hS : va_S A s.heap s.heap [] := va_S.rf
  have hl := lv_entry ([.ref Ad0]) (n := 5) (Nat.le_of_ble_eq_true rfl)
  rw [lg_entry_eq]
  generalize (lg_sl ([.ref Ad0]) ++ List.replicate (5 - (lg_sl ([.ref Ad0])).length) Slot.unset).toArray = ls at hl ⊢
  have hl : lv_has ls 5 [(0, .ref Ad0)] := hl
  have o_Fs0 := ow_0 k_Fs0
  refine lv_aload_n hx hb dX12_advance_0 rfl (lv_at hl 0 rfl) ?_
  refine lv_aload_n hx hb dX12_advance_1 rfl (lv_at hl 0 rfl) ?_
  refine va_get (D := (dC, dI)) (ci := 15) (v := .int 0) (C := RX12) (T := TX12) (N := 150) hx hb hts (in_z_X12_advance_X12) hown hK hP 0 rfl rfl 78 (by decide) (hts (.fieldLink RX12 631 "HeapWorksModel" "at0" "I") (by decide +kernel)) (fun _ h9 => h9) (ow_at o_Fs0 0 rfl) dX12_advance_2 ?_
  have hPc := hP.sub (ws' := [(Ad0, .inr (15, Fs0))]) [0] rfl
  have hDc := hD.sub (ws' := [(Ad0, .inr (15, Fs0))]) [0] (by decide) rfl
  have hKc := hK.sub (tys' := []) [] rfl
  have hFc := va_free (wc := [(Ad0, .inr (15, Fs0))]) hD hS hA [0] rfl
  refine va_calli (va_runV (As := [.int 0]) (rest := []) ⟨hx, hb, hml, hown, hts⟩ (z_X12_byteAt l dC dI s.heap.size Ad0 Fs0 (fh_sub o_Fs0.2 [1] rfl) ) (cwV 1 hts g_z_X12_advance_z_X12_byteAt_634 rfl rfl rfl (by decide +kernel) ⟨Nat.le_of_ble_eq_true rfl, Nat.le_of_ble_eq_true rfl⟩) ⟨fun a U g mk q => by obtain ⟨q0, q1, qP, qK, qD⟩ := q; exact ⟨q0, q1, qP, va_K.moved (u := U) (U := U.calling g mk a) (Vm.Alike.refl U.vm) qK, qD⟩, va_recv hK hP (ci := 15) (q0 := 0) rfl rfl, fun U hU hW => ⟨rfl, by rw [hU], by rw [hU]; exact hPc, va_K.moved hW.alike hKc, hDc.weaken (fun _ _ _ _ => trivial)⟩⟩ rfl rfl hl.1 rfl (lv_room (Nat.le_of_ble_eq_true rfl)) dX12_advance_5 ⟨Nat.le_of_ble_eq_true rfl, Nat.le_of_ble_eq_true rfl⟩) hS (fun q _ h => hFc q h) hFc (fun r2829 u t H1 locs ht hvm hw hB hz1 hk1 hS => ?_)
  obtain ⟨hP1, hK1, hD1⟩ := hB
  rw [ht] at hP1
  try dsimp only at hw
  obtain ⟨hP, hD⟩ := va_join (wr := []) (w1 := [(Ad0, .inr (15, Fs0))]) hP hD [0] [] rfl rfl (by decide) (by decide) hk1 hFc hP1 hD1
  have hK := hK.sub (tys' := []) [] rfl
  generalize H1 = H at hP hS ⊢
  have hP : va_P (dC, dI) vwCl [(Ad0, .inr (15, Fs0))] H := hP
  have hD : va_D A [(Ad0, .inr (15, Fs0))] := hD
  have er2830 := hw
  subst er2830
  refine lv_istore_n (lv' := [(1, .int (-1)), (0, .ref Ad0)]) hx hb dX12_advance_8 rfl hl (by decide) rfl (fun ls hl => ?_)
  refine lv_iload_n hx hb dX12_advance_9 rfl (lv_at hl 0 rfl) ?_
  refine lv_bipush (v := 9) hx hb dX12_advance_10 (by decide) ?_
  refine lv_icmp_eq (tgt := 33) hx hb dX12_advance_12 (by decide) (fun c2831 => absurd c2831 (by decide)) (fun c2831 => ?_)
  refine lv_iload_n hx hb dX12_advance_15 rfl (lv_at hl 0 rfl) ?_
  refine lv_bipush (v := 10) hx hb dX12_advance_16 (by decide) ?_
  refine lv_icmp_eq (tgt := 33) hx hb dX12_advance_18 (by decide) (fun c2832 => absurd c2832 (by decide)) (fun c2832 => ?_)
  refine lv_iload_n hx hb dX12_advance_21 rfl (lv_at hl 0 rfl) ?_
  refine lv_bipush (v := 13) hx hb dX12_advance_22 (by decide) ?_
  refine lv_icmp_eq (tgt := 33) hx hb dX12_advance_24 (by decide) (fun c2833 => absurd c2833 (by decide)) (fun c2833 => ?_)
  refine lv_iload_n hx hb dX12_advance_27 rfl (lv_at hl 0 rfl) ?_
  refine lv_bipush (v := 32) hx hb dX12_advance_28 (by decide) ?_
  refine lv_icmp_ne (tgt := 55) hx hb dX12_advance_30 (by decide) (fun c2834 => ?_) (fun c2834 => absurd c2834 (by decide))
  refine lv_aload_n hx hb dX12_advance_55 rfl (lv_at hl 1 rfl) ?_
  refine lv_aload_n hx hb dX12_advance_56 rfl (lv_at hl 1 rfl) ?_
  refine va_get (D := (dC, dI)) (ci := 15) (v := .int 0) (C := RX12) (T := TX12) (N := 150) hx hb hts (in_z_X12_advance_X12) hown hK hP 0 rfl rfl 78 (by decide) (hts (.fieldLink RX12 631 "HeapWorksModel" "at0" "I") (by decide +kernel)) (fun _ h9 => h9) (ow_at o_Fs0 0 rfl) dX12_advance_57 ?_
  refine va_put (D := (dC, dI)) (ci := 15) (v := .int 0) (ty := .int) (C := RX12) (T := TX12) (N := 150) hx hb hts (in_z_X12_advance_X12) tyX12 tyX12_ok nmX12 hown hK hP hD hS 0 rfl rfl 79 (by decide) (hts (.fieldLink RX12 637 "HeapWorksModel" "from0" "I") (by decide +kernel)) (fun _ h9 => h9) rfl (by decide +kernel) rfl rfl (by rw [o_Fs0.2.1]; decide) dX12_advance_60 (fun H locs hP hD hS => ?_)
  have hP : va_P (dC, dI) vwCl [(Ad0, .inr (15, (Fs0.set 79 (.int 0))))] H := hP
  have hD : va_D A [(Ad0, .inr (15, (Fs0.set 79 (.int 0))))] := hD
  have o_s2835 := ow_set o_Fs0 79 (.int 0) (by decide) (l' := [(79, .int 0), (78, .int 0), (3, .int 0)]) (w' := [79]) rfl rfl
  generalize (Fs0.set 79 (.int 0)) = s2835 at hP hD o_s2835
  refine lv_aload_n hx hb dX12_advance_63 rfl (lv_at hl 1 rfl) ?_
  refine lv_lconst (v := 0) hx hb dX12_advance_64 (by decide) ?_
  refine va_put (D := (dC, dI)) (ci := 15) (v := .long 0) (ty := .long) (C := RX12) (T := TX12) (N := 150) hx hb hts (in_z_X12_advance_X12) tyX12 tyX12_ok nmX12 hown hK hP hD hS 0 rfl rfl 85 (by decide) (hts (.fieldLink RX12 640 "HeapWorksModel" "word" "J") (by decide +kernel)) (fun _ h9 => h9) rfl (by decide +kernel) rfl rfl (by rw [o_s2835.2.1]; decide) dX12_advance_65 (fun H locs hP hD hS => ?_)
  have hP : va_P (dC, dI) vwCl [(Ad0, .inr (15, (s2835.set 85 (.long 0))))] H := hP
  have hD : va_D A [(Ad0, .inr (15, (s2835.set 85 (.long 0))))] := hD
  have o_s2836 := ow_set o_s2835 85 (.long 0) (by decide) (l' := [(85, .long 0), (79, .int 0), (78, .int 0), (3, .int 0)]) (w' := [85, 79]) rfl rfl
  generalize (s2835.set 85 (.long 0)) = s2836 at hP hD o_s2836
  refine lv_iload_n hx hb dX12_advance_68 rfl (lv_at hl 0 rfl) ?_
  refine lv_iconst (v := (-1)) hx hb dX12_advance_69 (by decide) ?_
  refine lv_icmp_ne (tgt := 81) hx hb dX12_advance_70 (by decide) (fun c2837 => absurd c2837 (by decide)) (fun c2837 => ?_)
  refine lv_aload_n hx hb dX12_advance_73 rfl (lv_at hl 1 rfl) ?_
  refine lv_iconst (v := 0) hx hb dX12_advance_74 (by decide) ?_
  refine va_put (D := (dC, dI)) (ci := 15) (v := .int 0) (ty := .int) (C := RX12) (T := TX12) (N := 150) hx hb hts (in_z_X12_advance_X12) tyX12 tyX12_ok nmX12 hown hK hP hD hS 0 rfl rfl 80 (by decide) (hts (.fieldLink RX12 644 "HeapWorksModel" "kind" "I") (by decide +kernel)) (fun _ h9 => h9) rfl (by decide +kernel) rfl rfl (by rw [o_s2836.2.1]; decide) dX12_advance_75 (fun H locs hP hD hS => ?_)
  have hP : va_P (dC, dI) vwCl [(Ad0, .inr (15, (s2836.set 80 (.int 0))))] H := hP
  have hD : va_D A [(Ad0, .inr (15, (s2836.set 80 (.int 0))))] := hD
  have o_s2838 := ow_set o_s2836 80 (.int 0) (by decide) (l' := [(80, .int 0), (85, .long 0), (79, .int 0), (78, .int 0), (3, .int 0)]) (w' := [80, 85, 79]) rfl rfl
  generalize (s2836.set 80 (.int 0)) = s2838 at hP hD o_s2838
  refine lv_goto (tgt := 504) hx hb dX12_advance_78 (by decide) ?_
  have hP9 := hP.sub (ws' := [(Ad0, .inr (15, s2838))]) [0] rfl
  have hD9 := hD.sub (ws' := [(Ad0, .inr (15, s2838))]) [0] (by decide) rfl
  have hK9 := hK.sub (tys' := []) [] rfl
  exact W.vret hx hb hr (fun t ht hW => ⟨⟨s2838, rfl, o_s2838, by rw [ht]; exact hP9, va_K.moved hW.alike hK9, hD9⟩, hS.F ht⟩) hS.2.2 dX12_advance_504

def l_z_X12_beginText : List Cond := [.fieldLink RX12 673 "HeapWorksModel" "nodeBase" "I", .fieldLink RX12 670 "HeapWorksModel" "nodes" "I", .fieldLink RX12 676 "HeapWorksModel" "nested" "I", .fieldLink RX12 761 "HeapWorksModel" "known" "I", .fieldLink RX12 625 "HeapWorksModel" "stop" "I", .fieldLink RX12 628 "HeapWorksModel" "stopAt" "I", .fieldLink RX12 631 "HeapWorksModel" "at0" "I", .methodLink RX12 661 yX12_advance, .instanceMethod yX12_advance, .selects RX12 yX12_advance yX12_advance, .initialized RX12, .code yX12_advance cX12_advance 5 none, .methodLink RX12 634 yX12_byteAt, .instanceMethod yX12_byteAt, .selects RX12 yX12_byteAt yX12_byteAt, .fieldLink RX12 637 "HeapWorksModel" "from0" "I", .fieldLink RX12 640 "HeapWorksModel" "word" "J", .fieldLink RX12 644 "HeapWorksModel" "kind" "I", .code yX12_byteAt cX12_byteAt 2 (some .int), .fieldLink RX12 391 "HeapWorksModel" "taped" "I"]
def w_z_X12_beginText : List Cond := .code yX12_beginText cX12_beginText 2 none :: (l_z_X12_beginText ++ (wsX120))
theorem in_z_X12_beginText_X12 : ∀ w ∈ wsX120, w ∈ w_z_X12_beginText := fun w h => List.mem_cons_of_mem _ (List.mem_append_right _ (h))
theorem g_z_X12_beginText_z_X12_advance_661 : GoodIn w_z_X12_beginText (wsV RX12 661 RX12 yX12_advance w_z_X12_advance) := goodIn_app (goodIn_sub (by decide +kernel) (by decide +kernel)) (goodIn_ca (goodIn_sub (by decide +kernel) (by decide +kernel)) (goodIn_in in_z_X12_beginText_X12 gd_X12))
set_option maxHeartbeats 4000000 in
set_option maxRecDepth 100000 in
theorem z_X12_beginText (l : Launch) (dC : Nat → ClassId) (dI : Nat → Nat → Nat) (sz : Nat) (Ad0 : Nat) (Fs0 : List Value) (k_Fs0 : fh Fs0 150 [(3, .int 0), (78, .int 0)])  : Met l yX12_beginText w_z_X12_beginText ({ frames := 2, cells := 0, slots := 0, locals := 45 }) (va_Pc [.ref Ad0, .int 120] (fun U => U.heap.size = sz ∧ Wd dC dI [] (fun _ => True) [(Ad0, .inr (15, Fs0))] U)) (va_Qv (fun (u : List Value) => ow Fs0 (u) 150 [80, 85, 79, 78, 84, 83, 94, 93, 92, 91] [(80, .int 0), (85, .long 0), (79, .int 0), (78, .int 0), (3, .int 0), (78, .int 0), (84, .int (-1)), (83, .int 0), (94, .int 0), (93, .int 0), (92, .int 0), (91, .int 120), (3, .int 0)]) (fun (u : List Value) t => Wd dC dI [] (va_A [(Ad0, .inr (15, Fs0))] sz) [(Ad0, .inr (15, (u)))] t) (va_A [(Ad0, .inr (15, Fs0))] sz))  0 0 (va_A [(Ad0, .inr (15, Fs0))] sz) := by
  refine Met.ofW (cc := cX12_beginText) (maxL := 2) (ret := none) (by decide) rfl ?_
  intro p e s m args below meth c s₁ B hml hv
  obtain ⟨rfl, hsz, hP, hK, hD0⟩ := hv
  have hx := B.exec
  have hb := B.bytes
  have hr := B.returns
  have hts := atoms_spec (ws := w_z_X12_beginText) B.pre
  have hown : s.vm.findClass RX12 = some m.cls := findClass_of_methodNamed B.named
  have hlocks := B.notSynchronized
  subst hsz
  have hD := hD0.self (sz := s.heap.size)
  generalize hAe : va_A [(Ad0, .inr (15, Fs0))] s.heap.size = A at hD ⊢
  have hA : ∀ q : Nat, s.heap.size ≤ q → A q := fun q h => by rw [← hAe]; exact Or.inr h
  have hS : va_S A s.heap s.heap [] := va_S.rf
  have hl := lv_entry ([.ref Ad0, .int 120]) (n := 2) (Nat.le_of_ble_eq_true rfl)
  rw [lg_entry_eq]
  generalize (lg_sl ([.ref Ad0, .int 120]) ++ List.replicate (2 - (lg_sl ([.ref Ad0, .int 120])).length) Slot.unset).toArray = ls at hl ⊢
  have hl : lv_has ls 2 [(0, .ref Ad0), (1, .int 120)] := hl
  have o_Fs0 := ow_0 k_Fs0
  refine lv_aload_n hx hb dX12_beginText_0 rfl (lv_at hl 0 rfl) ?_
  refine lv_iload_n hx hb dX12_beginText_1 rfl (lv_at hl 1 rfl) ?_
  refine va_put (D := (dC, dI)) (ci := 15) (v := .int 120) (ty := .int) (C := RX12) (T := TX12) (N := 150) hx hb hts (in_z_X12_beginText_X12) tyX12 tyX12_ok nmX12 hown hK hP hD hS 0 rfl rfl 91 (by decide) (hts (.fieldLink RX12 673 "HeapWorksModel" "nodeBase" "I") (by decide +kernel)) (fun _ h9 => h9) rfl (by decide +kernel) rfl rfl (by rw [o_Fs0.2.1]; decide) dX12_beginText_2 (fun H locs hP hD hS => ?_)
  have hP : va_P (dC, dI) vwCl [(Ad0, .inr (15, (Fs0.set 91 (.int 120))))] H := hP
  have hD : va_D A [(Ad0, .inr (15, (Fs0.set 91 (.int 120))))] := hD
  have o_s2840 := ow_set o_Fs0 91 (.int 120) (by decide) (l' := [(91, .int 120), (3, .int 0), (78, .int 0)]) (w' := [91]) rfl rfl
  generalize (Fs0.set 91 (.int 120)) = s2840 at hP hD o_s2840
  refine lv_aload_n hx hb dX12_beginText_5 rfl (lv_at hl 0 rfl) ?_
  refine lv_iconst (v := 0) hx hb dX12_beginText_6 (by decide) ?_
  refine va_put (D := (dC, dI)) (ci := 15) (v := .int 0) (ty := .int) (C := RX12) (T := TX12) (N := 150) hx hb hts (in_z_X12_beginText_X12) tyX12 tyX12_ok nmX12 hown hK hP hD hS 0 rfl rfl 92 (by decide) (hts (.fieldLink RX12 670 "HeapWorksModel" "nodes" "I") (by decide +kernel)) (fun _ h9 => h9) rfl (by decide +kernel) rfl rfl (by rw [o_s2840.2.1]; decide) dX12_beginText_7 (fun H locs hP hD hS => ?_)
  have hP : va_P (dC, dI) vwCl [(Ad0, .inr (15, (s2840.set 92 (.int 0))))] H := hP
  have hD : va_D A [(Ad0, .inr (15, (s2840.set 92 (.int 0))))] := hD
  have o_s2841 := ow_set o_s2840 92 (.int 0) (by decide) (l' := [(92, .int 0), (91, .int 120), (3, .int 0), (78, .int 0)]) (w' := [92, 91]) rfl rfl
  generalize (s2840.set 92 (.int 0)) = s2841 at hP hD o_s2841
  refine lv_aload_n hx hb dX12_beginText_10 rfl (lv_at hl 0 rfl) ?_
  refine lv_iconst (v := 0) hx hb dX12_beginText_11 (by decide) ?_
  refine va_put (D := (dC, dI)) (ci := 15) (v := .int 0) (ty := .int) (C := RX12) (T := TX12) (N := 150) hx hb hts (in_z_X12_beginText_X12) tyX12 tyX12_ok nmX12 hown hK hP hD hS 0 rfl rfl 93 (by decide) (hts (.fieldLink RX12 676 "HeapWorksModel" "nested" "I") (by decide +kernel)) (fun _ h9 => h9) rfl (by decide +kernel) rfl rfl (by rw [o_s2841.2.1]; decide) dX12_beginText_12 (fun H locs hP hD hS => ?_)
  have hP : va_P (dC, dI) vwCl [(Ad0, .inr (15, (s2841.set 93 (.int 0))))] H := hP
  have hD : va_D A [(Ad0, .inr (15, (s2841.set 93 (.int 0))))] := hD
  have o_s2842 := ow_set o_s2841 93 (.int 0) (by decide) (l' := [(93, .int 0), (92, .int 0), (91, .int 120), (3, .int 0), (78, .int 0)]) (w' := [93, 92, 91]) rfl rfl
  generalize (s2841.set 93 (.int 0)) = s2842 at hP hD o_s2842
  refine lv_aload_n hx hb dX12_beginText_15 rfl (lv_at hl 0 rfl) ?_
  refine lv_iconst (v := 0) hx hb dX12_beginText_16 (by decide) ?_
  refine va_put (D := (dC, dI)) (ci := 15) (v := .int 0) (ty := .int) (C := RX12) (T := TX12) (N := 150) hx hb hts (in_z_X12_beginText_X12) tyX12 tyX12_ok nmX12 hown hK hP hD hS 0 rfl rfl 94 (by decide) (hts (.fieldLink RX12 761 "HeapWorksModel" "known" "I") (by decide +kernel)) (fun _ h9 => h9) rfl (by decide +kernel) rfl rfl (by rw [o_s2842.2.1]; decide) dX12_beginText_17 (fun H locs hP hD hS => ?_)
  have hP : va_P (dC, dI) vwCl [(Ad0, .inr (15, (s2842.set 94 (.int 0))))] H := hP
  have hD : va_D A [(Ad0, .inr (15, (s2842.set 94 (.int 0))))] := hD
  have o_s2843 := ow_set o_s2842 94 (.int 0) (by decide) (l' := [(94, .int 0), (93, .int 0), (92, .int 0), (91, .int 120), (3, .int 0), (78, .int 0)]) (w' := [94, 93, 92, 91]) rfl rfl
  generalize (s2842.set 94 (.int 0)) = s2843 at hP hD o_s2843
  refine lv_aload_n hx hb dX12_beginText_20 rfl (lv_at hl 0 rfl) ?_
  refine lv_iconst (v := 0) hx hb dX12_beginText_21 (by decide) ?_
  refine va_put (D := (dC, dI)) (ci := 15) (v := .int 0) (ty := .int) (C := RX12) (T := TX12) (N := 150) hx hb hts (in_z_X12_beginText_X12) tyX12 tyX12_ok nmX12 hown hK hP hD hS 0 rfl rfl 83 (by decide) (hts (.fieldLink RX12 625 "HeapWorksModel" "stop" "I") (by decide +kernel)) (fun _ h9 => h9) rfl (by decide +kernel) rfl rfl (by rw [o_s2843.2.1]; decide) dX12_beginText_22 (fun H locs hP hD hS => ?_)
  have hP : va_P (dC, dI) vwCl [(Ad0, .inr (15, (s2843.set 83 (.int 0))))] H := hP
  have hD : va_D A [(Ad0, .inr (15, (s2843.set 83 (.int 0))))] := hD
  have o_s2844 := ow_set o_s2843 83 (.int 0) (by decide) (l' := [(83, .int 0), (94, .int 0), (93, .int 0), (92, .int 0), (91, .int 120), (3, .int 0), (78, .int 0)]) (w' := [83, 94, 93, 92, 91]) rfl rfl
  generalize (s2843.set 83 (.int 0)) = s2844 at hP hD o_s2844
  refine lv_aload_n hx hb dX12_beginText_25 rfl (lv_at hl 0 rfl) ?_
  refine lv_iconst (v := (-1)) hx hb dX12_beginText_26 (by decide) ?_
  refine va_put (D := (dC, dI)) (ci := 15) (v := .int (-1)) (ty := .int) (C := RX12) (T := TX12) (N := 150) hx hb hts (in_z_X12_beginText_X12) tyX12 tyX12_ok nmX12 hown hK hP hD hS 0 rfl rfl 84 (by decide) (hts (.fieldLink RX12 628 "HeapWorksModel" "stopAt" "I") (by decide +kernel)) (fun _ h9 => h9) rfl (by decide +kernel) rfl rfl (by rw [o_s2844.2.1]; decide) dX12_beginText_27 (fun H locs hP hD hS => ?_)
  have hP : va_P (dC, dI) vwCl [(Ad0, .inr (15, (s2844.set 84 (.int (-1)))))] H := hP
  have hD : va_D A [(Ad0, .inr (15, (s2844.set 84 (.int (-1)))))] := hD
  have o_s2845 := ow_set o_s2844 84 (.int (-1)) (by decide) (l' := [(84, .int (-1)), (83, .int 0), (94, .int 0), (93, .int 0), (92, .int 0), (91, .int 120), (3, .int 0), (78, .int 0)]) (w' := [84, 83, 94, 93, 92, 91]) rfl rfl
  generalize (s2844.set 84 (.int (-1))) = s2845 at hP hD o_s2845
  refine lv_aload_n hx hb dX12_beginText_30 rfl (lv_at hl 0 rfl) ?_
  refine lv_iconst (v := 0) hx hb dX12_beginText_31 (by decide) ?_
  refine va_put (D := (dC, dI)) (ci := 15) (v := .int 0) (ty := .int) (C := RX12) (T := TX12) (N := 150) hx hb hts (in_z_X12_beginText_X12) tyX12 tyX12_ok nmX12 hown hK hP hD hS 0 rfl rfl 78 (by decide) (hts (.fieldLink RX12 631 "HeapWorksModel" "at0" "I") (by decide +kernel)) (fun _ h9 => h9) rfl (by decide +kernel) rfl rfl (by rw [o_s2845.2.1]; decide) dX12_beginText_32 (fun H locs hP hD hS => ?_)
  have hP : va_P (dC, dI) vwCl [(Ad0, .inr (15, (s2845.set 78 (.int 0))))] H := hP
  have hD : va_D A [(Ad0, .inr (15, (s2845.set 78 (.int 0))))] := hD
  have o_s2846 := ow_set o_s2845 78 (.int 0) (by decide) (l' := [(78, .int 0), (84, .int (-1)), (83, .int 0), (94, .int 0), (93, .int 0), (92, .int 0), (91, .int 120), (3, .int 0)]) (w' := [78, 84, 83, 94, 93, 92, 91]) rfl rfl
  generalize (s2845.set 78 (.int 0)) = s2846 at hP hD o_s2846
  refine lv_aload_n hx hb dX12_beginText_35 rfl (lv_at hl 0 rfl) ?_
  have hPc := hP.sub (ws' := [(Ad0, .inr (15, s2846))]) [0] rfl
  have hDc := hD.sub (ws' := [(Ad0, .inr (15, s2846))]) [0] (by decide) rfl
  have hKc := hK.sub (tys' := []) [] rfl
  have hFc := va_free (wc := [(Ad0, .inr (15, s2846))]) hD hS hA [0] rfl
  refine va_callv (va_runV (As := []) (rest := []) ⟨hx, hb, hml, hown, hts⟩ (z_X12_advance l dC dI H.size Ad0 s2846 (fh_sub o_s2846.2 [0, 7] rfl) ) (cwV 0 hts g_z_X12_beginText_z_X12_advance_661 rfl rfl rfl (by decide +kernel) ⟨Nat.le_of_ble_eq_true rfl, Nat.le_of_ble_eq_true rfl⟩) ⟨fun a U g mk q => by obtain ⟨q0, q1, qP, qK, qD⟩ := q; exact ⟨q0, q1, qP, va_K.moved (u := U) (U := U.calling g mk a) (Vm.Alike.refl U.vm) qK, qD⟩, va_recv hK hP (ci := 15) (q0 := 0) rfl rfl, fun U hU hW => ⟨rfl, by rw [hU], by rw [hU]; exact hPc, va_K.moved hW.alike hKc, hDc.weaken (fun _ _ _ _ => trivial)⟩⟩ rfl rfl hl.1 rfl (lv_room (Nat.le_of_ble_eq_true rfl)) dX12_beginText_36 ⟨Nat.le_of_ble_eq_true rfl, Nat.le_of_ble_eq_true rfl⟩) hS (fun q _ h => hFc q h) hFc (fun u t H1 locs ht hvm hw hB hz1 hk1 hS => ?_)
  obtain ⟨s2858, rfl⟩ : ∃ z, z = u := ⟨_, rfl⟩
  obtain ⟨hP1, hK1, hD1⟩ := hB
  rw [ht] at hP1
  try dsimp only at hw
  obtain ⟨hP, hD⟩ := va_join (wr := []) (w1 := [(Ad0, .inr (15, s2858))]) hP hD [0] [] rfl rfl (by decide) (by decide) hk1 hFc hP1 hD1
  have hK := hK.sub (tys' := []) [] rfl
  generalize H1 = H at hP hS ⊢
  have hP : va_P (dC, dI) vwCl [(Ad0, .inr (15, s2858))] H := hP
  have hD : va_D A [(Ad0, .inr (15, s2858))] := hD
  have o_s2858 := hw
  have o_s2858 := ow_on o_s2846 o_s2858 (l' := [(80, .int 0), (85, .long 0), (79, .int 0), (78, .int 0), (3, .int 0), (78, .int 0), (84, .int (-1)), (83, .int 0), (94, .int 0), (93, .int 0), (92, .int 0), (91, .int 120), (3, .int 0)]) (w' := [80, 85, 79, 78, 84, 83, 94, 93, 92, 91]) rfl rfl
  have hP9 := hP.sub (ws' := [(Ad0, .inr (15, s2858))]) [0] rfl
  have hD9 := hD.sub (ws' := [(Ad0, .inr (15, s2858))]) [0] (by decide) rfl
  have hK9 := hK.sub (tys' := []) [] rfl
  exact W.vret hx hb hr (fun t ht hW => ⟨⟨s2858, rfl, o_s2858, by rw [ht]; exact hP9, va_K.moved hW.alike hK9, hD9⟩, hS.F ht⟩) hS.2.2 dX12_beginText_39

def l_z_X12_isKey : List Cond := [.fieldLink RX12 644 "HeapWorksModel" "kind" "I"]
def w_z_X12_isKey : List Cond := .code yX12_isKey cX12_isKey 2 (some .boolean) :: (l_z_X12_isKey ++ (wsX120))
theorem in_z_X12_isKey_X12 : ∀ w ∈ wsX120, w ∈ w_z_X12_isKey := fun w h => List.mem_cons_of_mem _ (List.mem_append_right _ (h))
set_option maxHeartbeats 4000000 in
set_option maxRecDepth 100000 in
theorem z_X12_isKey (l : Launch) (dC : Nat → ClassId) (dI : Nat → Nat → Nat) (sz : Nat) (Ad0 : Nat) (Fs0 : List Value) (k_Fs0 : fh Fs0 150 [(80, .int 0)])  : Met l yX12_isKey w_z_X12_isKey ({ frames := 0, cells := 0, slots := 0, locals := 0 }) (va_Pc [.ref Ad0, .int 7] (fun U => U.heap.size = sz ∧ Wd dC dI [] (fun _ => True) [(Ad0, .inr (15, Fs0))] U)) (va_Qi (fun (r : Int32) (u : Unit) => r = 0) (fun (u : Unit) t => Wd dC dI [] (va_A [(Ad0, .inr (15, Fs0))] sz) [(Ad0, .inr (15, Fs0))] t) (va_A [(Ad0, .inr (15, Fs0))] sz))  0 0 (va_A [(Ad0, .inr (15, Fs0))] sz) := by
  refine Met.ofW (cc := cX12_isKey) (maxL := 2) (ret := (some .boolean)) (by decide) rfl ?_
  intro p e s m args below meth c s₁ B hml hv
  obtain ⟨rfl, hsz, hP, hK, hD0⟩ := hv
  have hx := B.exec
  have hb := B.bytes
  have hr := B.returns
  have hts := atoms_spec (ws := w_z_X12_isKey) B.pre
  have hown : s.vm.findClass RX12 = some m.cls := findClass_of_methodNamed B.named
  have hlocks := B.notSynchronized
  subst hsz
  have hD := hD0.self (sz := s.heap.size)
  generalize hAe : va_A [(Ad0, .inr (15, Fs0))] s.heap.size = A at hD ⊢
  have hA : ∀ q : Nat, s.heap.size ≤ q → A q := fun q h => by rw [← hAe]; exact Or.inr h
  have hS : va_S A s.heap s.heap [] := va_S.rf
  have hl := lv_entry ([.ref Ad0, .int 7]) (n := 2) (Nat.le_of_ble_eq_true rfl)
  rw [lg_entry_eq]
  generalize (lg_sl ([.ref Ad0, .int 7]) ++ List.replicate (2 - (lg_sl ([.ref Ad0, .int 7])).length) Slot.unset).toArray = ls at hl ⊢
  have hl : lv_has ls 2 [(0, .ref Ad0), (1, .int 7)] := hl
  have o_Fs0 := ow_0 k_Fs0
  refine lv_aload_n hx hb dX12_isKey_0 rfl (lv_at hl 0 rfl) ?_
  refine va_get (D := (dC, dI)) (ci := 15) (v := .int 0) (C := RX12) (T := TX12) (N := 150) hx hb hts (in_z_X12_isKey_X12) hown hK hP 0 rfl rfl 80 (by decide) (hts (.fieldLink RX12 644 "HeapWorksModel" "kind" "I") (by decide +kernel)) (fun _ h9 => h9) (ow_at o_Fs0 0 rfl) dX12_isKey_1 ?_
  refine lv_iconst (v := 1) hx hb dX12_isKey_4 (by decide) ?_
  refine lv_icmp_ne (tgt := 26) hx hb dX12_isKey_5 (by decide) (fun c2863 => ?_) (fun c2863 => absurd c2863 (by decide))
  refine lv_iconst (v := 0) hx hb dX12_isKey_26 (by decide) ?_
  have hP9 := hP.sub (ws' := [(Ad0, .inr (15, Fs0))]) [0] rfl
  have hD9 := hD.sub (ws' := [(Ad0, .inr (15, Fs0))]) [0] (by decide) rfl
  have hK9 := hK.sub (tys' := []) [] rfl
  exact W.zret (v := 0) hx hb hr rfl (fun t ht hW => ⟨⟨0, (), rfl, rfl, by rw [ht]; exact hP9, va_K.moved hW.alike hK9, hD9⟩, hS.F ht⟩) hS.2.2 dX12_isKey_27

def l_z_X12_isSign : List Cond := [.fieldLink RX12 644 "HeapWorksModel" "kind" "I"]
def w_z_X12_isSign : List Cond := .code yX12_isSign cX12_isSign 3 (some .boolean) :: (l_z_X12_isSign ++ (wsX120))
theorem in_z_X12_isSign_X12 : ∀ w ∈ wsX120, w ∈ w_z_X12_isSign := fun w h => List.mem_cons_of_mem _ (List.mem_append_right _ (h))
set_option maxHeartbeats 4000000 in
set_option maxRecDepth 100000 in
theorem z_X12_isSign (l : Launch) (dC : Nat → ClassId) (dI : Nat → Nat → Nat) (sz : Nat) (Ad0 : Nat) (Fs0 : List Value) (k_Fs0 : fh Fs0 150 [(80, .int 0)])  : Met l yX12_isSign w_z_X12_isSign ({ frames := 0, cells := 0, slots := 0, locals := 0 }) (va_Pc [.ref Ad0, .long 45] (fun U => U.heap.size = sz ∧ Wd dC dI [] (fun _ => True) [(Ad0, .inr (15, Fs0))] U)) (va_Qi (fun (r : Int32) (u : Unit) => r = 0) (fun (u : Unit) t => Wd dC dI [] (va_A [(Ad0, .inr (15, Fs0))] sz) [(Ad0, .inr (15, Fs0))] t) (va_A [(Ad0, .inr (15, Fs0))] sz))  0 0 (va_A [(Ad0, .inr (15, Fs0))] sz) := by
  refine Met.ofW (cc := cX12_isSign) (maxL := 3) (ret := (some .boolean)) (by decide) rfl ?_
  intro p e s m args below meth c s₁ B hml hv
  obtain ⟨rfl, hsz, hP, hK, hD0⟩ := hv
  have hx := B.exec
  have hb := B.bytes
  have hr := B.returns
  have hts := atoms_spec (ws := w_z_X12_isSign) B.pre
  have hown : s.vm.findClass RX12 = some m.cls := findClass_of_methodNamed B.named
  have hlocks := B.notSynchronized
  subst hsz
  have hD := hD0.self (sz := s.heap.size)
  generalize hAe : va_A [(Ad0, .inr (15, Fs0))] s.heap.size = A at hD ⊢
  have hA : ∀ q : Nat, s.heap.size ≤ q → A q := fun q h => by rw [← hAe]; exact Or.inr h
  have hS : va_S A s.heap s.heap [] := va_S.rf
  have hl := lv_entry ([.ref Ad0, .long 45]) (n := 3) (Nat.le_of_ble_eq_true rfl)
  rw [lg_entry_eq]
  generalize (lg_sl ([.ref Ad0, .long 45]) ++ List.replicate (3 - (lg_sl ([.ref Ad0, .long 45])).length) Slot.unset).toArray = ls at hl ⊢
  have hl : lv_has ls 3 [(0, .ref Ad0), (1, .long 45)] := hl
  have o_Fs0 := ow_0 k_Fs0
  refine lv_aload_n hx hb dX12_isSign_0 rfl (lv_at hl 0 rfl) ?_
  refine va_get (D := (dC, dI)) (ci := 15) (v := .int 0) (C := RX12) (T := TX12) (N := 150) hx hb hts (in_z_X12_isSign_X12) hown hK hP 0 rfl rfl 80 (by decide) (hts (.fieldLink RX12 644 "HeapWorksModel" "kind" "I") (by decide +kernel)) (fun _ h9 => h9) (ow_at o_Fs0 0 rfl) dX12_isSign_1 ?_
  refine lv_iconst (v := 3) hx hb dX12_isSign_4 (by decide) ?_
  refine lv_icmp_ne (tgt := 21) hx hb dX12_isSign_5 (by decide) (fun c2869 => ?_) (fun c2869 => absurd c2869 (by decide))
  refine lv_iconst (v := 0) hx hb dX12_isSign_21 (by decide) ?_
  have hP9 := hP.sub (ws' := [(Ad0, .inr (15, Fs0))]) [0] rfl
  have hD9 := hD.sub (ws' := [(Ad0, .inr (15, Fs0))]) [0] (by decide) rfl
  have hK9 := hK.sub (tys' := []) [] rfl
  exact W.zret (v := 0) hx hb hr rfl (fun t ht hW => ⟨⟨0, (), rfl, rfl, by rw [ht]; exact hP9, va_K.moved hW.alike hK9, hD9⟩, hS.F ht⟩) hS.2.2 dX12_isSign_22

def l_z_X12_keyAtHand : List Cond := [.fieldLink RX12 644 "HeapWorksModel" "kind" "I"]
def w_z_X12_keyAtHand : List Cond := .code yX12_keyAtHand cX12_keyAtHand 1 (some .int) :: (l_z_X12_keyAtHand ++ (wsX120))
theorem in_z_X12_keyAtHand_X12 : ∀ w ∈ wsX120, w ∈ w_z_X12_keyAtHand := fun w h => List.mem_cons_of_mem _ (List.mem_append_right _ (h))
set_option maxHeartbeats 4000000 in
set_option maxRecDepth 100000 in
theorem z_X12_keyAtHand (l : Launch) (dC : Nat → ClassId) (dI : Nat → Nat → Nat) (sz : Nat) (Ad0 : Nat) (Fs0 : List Value) (k_Fs0 : fh Fs0 150 [(80, .int 0)])  : Met l yX12_keyAtHand w_z_X12_keyAtHand ({ frames := 0, cells := 0, slots := 0, locals := 0 }) (va_Pc [.ref Ad0] (fun U => U.heap.size = sz ∧ Wd dC dI [] (fun _ => True) [(Ad0, .inr (15, Fs0))] U)) (va_Qi (fun (r : Int32) (u : Unit) => r = (-1)) (fun (u : Unit) t => Wd dC dI [] (va_A [(Ad0, .inr (15, Fs0))] sz) [(Ad0, .inr (15, Fs0))] t) (va_A [(Ad0, .inr (15, Fs0))] sz))  0 0 (va_A [(Ad0, .inr (15, Fs0))] sz) := by
  refine Met.ofW (cc := cX12_keyAtHand) (maxL := 1) (ret := (some .int)) (by decide) rfl ?_
  intro p e s m args below meth c s₁ B hml hv
  obtain ⟨rfl, hsz, hP, hK, hD0⟩ := hv
  have hx := B.exec
  have hb := B.bytes
  have hr := B.returns
  have hts := atoms_spec (ws := w_z_X12_keyAtHand) B.pre
  have hown : s.vm.findClass RX12 = some m.cls := findClass_of_methodNamed B.named
  have hlocks := B.notSynchronized
  subst hsz
  have hD := hD0.self (sz := s.heap.size)
  generalize hAe : va_A [(Ad0, .inr (15, Fs0))] s.heap.size = A at hD ⊢
  have hA : ∀ q : Nat, s.heap.size ≤ q → A q := fun q h => by rw [← hAe]; exact Or.inr h
  have hS : va_S A s.heap s.heap [] := va_S.rf
  have hl := lv_entry ([.ref Ad0]) (n := 1) (Nat.le_of_ble_eq_true rfl)
  rw [lg_entry_eq]
  generalize (lg_sl ([.ref Ad0]) ++ List.replicate (1 - (lg_sl ([.ref Ad0])).length) Slot.unset).toArray = ls at hl ⊢
  have hl : lv_has ls 1 [(0, .ref Ad0)] := hl
  have o_Fs0 := ow_0 k_Fs0
  refine lv_aload_n hx hb dX12_keyAtHand_0 rfl (lv_at hl 0 rfl) ?_
  refine va_get (D := (dC, dI)) (ci := 15) (v := .int 0) (C := RX12) (T := TX12) (N := 150) hx hb hts (in_z_X12_keyAtHand_X12) hown hK hP 0 rfl rfl 80 (by decide) (hts (.fieldLink RX12 644 "HeapWorksModel" "kind" "I") (by decide +kernel)) (fun _ h9 => h9) (ow_at o_Fs0 0 rfl) dX12_keyAtHand_1 ?_
  refine lv_iconst (v := 1) hx hb dX12_keyAtHand_4 (by decide) ?_
  refine lv_icmp_ne (tgt := 19) hx hb dX12_keyAtHand_5 (by decide) (fun c2875 => ?_) (fun c2875 => absurd c2875 (by decide))
  refine lv_iconst (v := (-1)) hx hb dX12_keyAtHand_19 (by decide) ?_
  have hP9 := hP.sub (ws' := [(Ad0, .inr (15, Fs0))]) [0] rfl
  have hD9 := hD.sub (ws' := [(Ad0, .inr (15, Fs0))]) [0] (by decide) rfl
  have hK9 := hK.sub (tys' := []) [] rfl
  exact W.iret (v := (-1)) hx hb hr (fun t ht hW => ⟨⟨(-1), (), rfl, rfl, by rw [ht]; exact hP9, va_K.moved hW.alike hK9, hD9⟩, hS.F ht⟩) hS.2.2 dX12_keyAtHand_20

def l_z_X12_isSign_1 : List Cond := [.fieldLink RX12 644 "HeapWorksModel" "kind" "I"]
def w_z_X12_isSign_1 : List Cond := .code yX12_isSign cX12_isSign 3 (some .boolean) :: (l_z_X12_isSign_1 ++ (wsX120))
theorem in_z_X12_isSign_1_X12 : ∀ w ∈ wsX120, w ∈ w_z_X12_isSign_1 := fun w h => List.mem_cons_of_mem _ (List.mem_append_right _ (h))
set_option maxHeartbeats 4000000 in
set_option maxRecDepth 100000 in
theorem z_X12_isSign_1 (l : Launch) (dC : Nat → ClassId) (dI : Nat → Nat → Nat) (sz : Nat) (Ad0 : Nat) (Fs0 : List Value) (k_Fs0 : fh Fs0 150 [(80, .int 0)])  : Met l yX12_isSign w_z_X12_isSign_1 ({ frames := 0, cells := 0, slots := 0, locals := 0 }) (va_Pc [.ref Ad0, .long 40] (fun U => U.heap.size = sz ∧ Wd dC dI [] (fun _ => True) [(Ad0, .inr (15, Fs0))] U)) (va_Qi (fun (r : Int32) (u : Unit) => r = 0) (fun (u : Unit) t => Wd dC dI [] (va_A [(Ad0, .inr (15, Fs0))] sz) [(Ad0, .inr (15, Fs0))] t) (va_A [(Ad0, .inr (15, Fs0))] sz))  0 0 (va_A [(Ad0, .inr (15, Fs0))] sz) := by
  refine Met.ofW (cc := cX12_isSign) (maxL := 3) (ret := (some .boolean)) (by decide) rfl ?_
  intro p e s m args below meth c s₁ B hml hv
  obtain ⟨rfl, hsz, hP, hK, hD0⟩ := hv
  have hx := B.exec
  have hb := B.bytes
  have hr := B.returns
  have hts := atoms_spec (ws := w_z_X12_isSign_1) B.pre
  have hown : s.vm.findClass RX12 = some m.cls := findClass_of_methodNamed B.named
  have hlocks := B.notSynchronized
  subst hsz
  have hD := hD0.self (sz := s.heap.size)
  generalize hAe : va_A [(Ad0, .inr (15, Fs0))] s.heap.size = A at hD ⊢
  have hA : ∀ q : Nat, s.heap.size ≤ q → A q := fun q h => by rw [← hAe]; exact Or.inr h
  have hS : va_S A s.heap s.heap [] := va_S.rf
  have hl := lv_entry ([.ref Ad0, .long 40]) (n := 3) (Nat.le_of_ble_eq_true rfl)
  rw [lg_entry_eq]
  generalize (lg_sl ([.ref Ad0, .long 40]) ++ List.replicate (3 - (lg_sl ([.ref Ad0, .long 40])).length) Slot.unset).toArray = ls at hl ⊢
  have hl : lv_has ls 3 [(0, .ref Ad0), (1, .long 40)] := hl
  have o_Fs0 := ow_0 k_Fs0
  refine lv_aload_n hx hb dX12_isSign_0 rfl (lv_at hl 0 rfl) ?_
  refine va_get (D := (dC, dI)) (ci := 15) (v := .int 0) (C := RX12) (T := TX12) (N := 150) hx hb hts (in_z_X12_isSign_1_X12) hown hK hP 0 rfl rfl 80 (by decide) (hts (.fieldLink RX12 644 "HeapWorksModel" "kind" "I") (by decide +kernel)) (fun _ h9 => h9) (ow_at o_Fs0 0 rfl) dX12_isSign_1 ?_
  refine lv_iconst (v := 3) hx hb dX12_isSign_4 (by decide) ?_
  refine lv_icmp_ne (tgt := 21) hx hb dX12_isSign_5 (by decide) (fun c2879 => ?_) (fun c2879 => absurd c2879 (by decide))
  refine lv_iconst (v := 0) hx hb dX12_isSign_21 (by decide) ?_
  have hP9 := hP.sub (ws' := [(Ad0, .inr (15, Fs0))]) [0] rfl
  have hD9 := hD.sub (ws' := [(Ad0, .inr (15, Fs0))]) [0] (by decide) rfl
  have hK9 := hK.sub (tys' := []) [] rfl
  exact W.zret (v := 0) hx hb hr rfl (fun t ht hW => ⟨⟨0, (), rfl, rfl, by rw [ht]; exact hP9, va_K.moved hW.alike hK9, hD9⟩, hS.F ht⟩) hS.2.2 dX12_isSign_22

def l_z_X12_isName : List Cond := [.fieldLink RX12 644 "HeapWorksModel" "kind" "I"]
def w_z_X12_isName : List Cond := .code yX12_isName cX12_isName 1 (some .boolean) :: (l_z_X12_isName ++ (wsX120))
theorem in_z_X12_isName_X12 : ∀ w ∈ wsX120, w ∈ w_z_X12_isName := fun w h => List.mem_cons_of_mem _ (List.mem_append_right _ (h))
set_option maxHeartbeats 4000000 in
set_option maxRecDepth 100000 in
theorem z_X12_isName (l : Launch) (dC : Nat → ClassId) (dI : Nat → Nat → Nat) (sz : Nat) (Ad0 : Nat) (Fs0 : List Value) (k_Fs0 : fh Fs0 150 [(80, .int 0)])  : Met l yX12_isName w_z_X12_isName ({ frames := 0, cells := 0, slots := 0, locals := 0 }) (va_Pc [.ref Ad0] (fun U => U.heap.size = sz ∧ Wd dC dI [] (fun _ => True) [(Ad0, .inr (15, Fs0))] U)) (va_Qi (fun (r : Int32) (u : Unit) => r = 0) (fun (u : Unit) t => Wd dC dI [] (va_A [(Ad0, .inr (15, Fs0))] sz) [(Ad0, .inr (15, Fs0))] t) (va_A [(Ad0, .inr (15, Fs0))] sz))  0 0 (va_A [(Ad0, .inr (15, Fs0))] sz) := by
  refine Met.ofW (cc := cX12_isName) (maxL := 1) (ret := (some .boolean)) (by decide) rfl ?_
  intro p e s m args below meth c s₁ B hml hv
  obtain ⟨rfl, hsz, hP, hK, hD0⟩ := hv
  have hx := B.exec
  have hb := B.bytes
  have hr := B.returns
  have hts := atoms_spec (ws := w_z_X12_isName) B.pre
  have hown : s.vm.findClass RX12 = some m.cls := findClass_of_methodNamed B.named
  have hlocks := B.notSynchronized
  subst hsz
  have hD := hD0.self (sz := s.heap.size)
  generalize hAe : va_A [(Ad0, .inr (15, Fs0))] s.heap.size = A at hD ⊢
  have hA : ∀ q : Nat, s.heap.size ≤ q → A q := fun q h => by rw [← hAe]; exact Or.inr h
  have hS : va_S A s.heap s.heap [] := va_S.rf
  have hl := lv_entry ([.ref Ad0]) (n := 1) (Nat.le_of_ble_eq_true rfl)
  rw [lg_entry_eq]
  generalize (lg_sl ([.ref Ad0]) ++ List.replicate (1 - (lg_sl ([.ref Ad0])).length) Slot.unset).toArray = ls at hl ⊢
  have hl : lv_has ls 1 [(0, .ref Ad0)] := hl
  have o_Fs0 := ow_0 k_Fs0
  refine lv_aload_n hx hb dX12_isName_0 rfl (lv_at hl 0 rfl) ?_
  refine va_get (D := (dC, dI)) (ci := 15) (v := .int 0) (C := RX12) (T := TX12) (N := 150) hx hb hts (in_z_X12_isName_X12) hown hK hP 0 rfl rfl 80 (by decide) (hts (.fieldLink RX12 644 "HeapWorksModel" "kind" "I") (by decide +kernel)) (fun _ h9 => h9) (ow_at o_Fs0 0 rfl) dX12_isName_1 ?_
  refine lv_iconst (v := 1) hx hb dX12_isName_4 (by decide) ?_
  refine lv_icmp_ne (tgt := 24) hx hb dX12_isName_5 (by decide) (fun c2893 => ?_) (fun c2893 => absurd c2893 (by decide))
  refine lv_iconst (v := 0) hx hb dX12_isName_24 (by decide) ?_
  have hP9 := hP.sub (ws' := [(Ad0, .inr (15, Fs0))]) [0] rfl
  have hD9 := hD.sub (ws' := [(Ad0, .inr (15, Fs0))]) [0] (by decide) rfl
  have hK9 := hK.sub (tys' := []) [] rfl
  exact W.zret (v := 0) hx hb hr rfl (fun t ht hW => ⟨⟨0, (), rfl, rfl, by rw [ht]; exact hP9, va_K.moved hW.alike hK9, hD9⟩, hS.F ht⟩) hS.2.2 dX12_isName_25

def l_z_X12_fail : List Cond := [.fieldLink RX12 625 "HeapWorksModel" "stop" "I", .fieldLink RX12 628 "HeapWorksModel" "stopAt" "I"]
def w_z_X12_fail : List Cond := .code yX12_fail cX12_fail 3 none :: (l_z_X12_fail ++ (wsX120))
theorem in_z_X12_fail_X12 : ∀ w ∈ wsX120, w ∈ w_z_X12_fail := fun w h => List.mem_cons_of_mem _ (List.mem_append_right _ (h))
set_option maxHeartbeats 4000000 in
set_option maxRecDepth 100000 in
theorem z_X12_fail (l : Launch) (dC : Nat → ClassId) (dI : Nat → Nat → Nat) (sz : Nat) (Ad0 : Nat) (Fs0 : List Value) (k_Fs0 : fh Fs0 150 [(83, .int 0)])  : Met l yX12_fail w_z_X12_fail ({ frames := 0, cells := 0, slots := 0, locals := 0 }) (va_Pc [.ref Ad0, .int 1, .int 0] (fun U => U.heap.size = sz ∧ Wd dC dI [] (fun _ => True) [(Ad0, .inr (15, Fs0))] U)) (va_Qv (fun (u : List Value) => ow Fs0 (u) 150 [84, 83] [(84, .int 0), (83, .int 1)]) (fun (u : List Value) t => Wd dC dI [] (va_A [(Ad0, .inr (15, Fs0))] sz) [(Ad0, .inr (15, (u)))] t) (va_A [(Ad0, .inr (15, Fs0))] sz))  0 0 (va_A [(Ad0, .inr (15, Fs0))] sz) := by
  refine Met.ofW (cc := cX12_fail) (maxL := 3) (ret := none) (by decide) rfl ?_
  intro p e s m args below meth c s₁ B hml hv
  obtain ⟨rfl, hsz, hP, hK, hD0⟩ := hv
  have hx := B.exec
  have hb := B.bytes
  have hr := B.returns
  have hts := atoms_spec (ws := w_z_X12_fail) B.pre
  have hown : s.vm.findClass RX12 = some m.cls := findClass_of_methodNamed B.named
  have hlocks := B.notSynchronized
  subst hsz
  have hD := hD0.self (sz := s.heap.size)
  generalize hAe : va_A [(Ad0, .inr (15, Fs0))] s.heap.size = A at hD ⊢
  have hA : ∀ q : Nat, s.heap.size ≤ q → A q := fun q h => by rw [← hAe]; exact Or.inr h
  have hS : va_S A s.heap s.heap [] := va_S.rf
  have hl := lv_entry ([.ref Ad0, .int 1, .int 0]) (n := 3) (Nat.le_of_ble_eq_true rfl)
  rw [lg_entry_eq]
  generalize (lg_sl ([.ref Ad0, .int 1, .int 0]) ++ List.replicate (3 - (lg_sl ([.ref Ad0, .int 1, .int 0])).length) Slot.unset).toArray = ls at hl ⊢
  have hl : lv_has ls 3 [(0, .ref Ad0), (1, .int 1), (2, .int 0)] := hl
  have o_Fs0 := ow_0 k_Fs0
  refine lv_aload_n hx hb dX12_fail_0 rfl (lv_at hl 0 rfl) ?_
  refine va_get (D := (dC, dI)) (ci := 15) (v := .int 0) (C := RX12) (T := TX12) (N := 150) hx hb hts (in_z_X12_fail_X12) hown hK hP 0 rfl rfl 83 (by decide) (hts (.fieldLink RX12 625 "HeapWorksModel" "stop" "I") (by decide +kernel)) (fun _ h9 => h9) (ow_at o_Fs0 0 rfl) dX12_fail_1 ?_
  refine lv_if_le (tgt := 8) hx hb dX12_fail_4 (by decide) (fun c2901 => ?_) (fun c2901 => absurd c2901 (by decide))
  refine lv_aload_n hx hb dX12_fail_8 rfl (lv_at hl 0 rfl) ?_
  refine lv_iload_n hx hb dX12_fail_9 rfl (lv_at hl 1 rfl) ?_
  refine va_put (D := (dC, dI)) (ci := 15) (v := .int 1) (ty := .int) (C := RX12) (T := TX12) (N := 150) hx hb hts (in_z_X12_fail_X12) tyX12 tyX12_ok nmX12 hown hK hP hD hS 0 rfl rfl 83 (by decide) (hts (.fieldLink RX12 625 "HeapWorksModel" "stop" "I") (by decide +kernel)) (fun _ h9 => h9) rfl (by decide +kernel) rfl rfl (by rw [o_Fs0.2.1]; decide) dX12_fail_10 (fun H locs hP hD hS => ?_)
  have hP : va_P (dC, dI) vwCl [(Ad0, .inr (15, (Fs0.set 83 (.int 1))))] H := hP
  have hD : va_D A [(Ad0, .inr (15, (Fs0.set 83 (.int 1))))] := hD
  have o_s2902 := ow_set o_Fs0 83 (.int 1) (by decide) (l' := [(83, .int 1)]) (w' := [83]) rfl rfl
  generalize (Fs0.set 83 (.int 1)) = s2902 at hP hD o_s2902
  refine lv_aload_n hx hb dX12_fail_13 rfl (lv_at hl 0 rfl) ?_
  refine lv_iload_n hx hb dX12_fail_14 rfl (lv_at hl 2 rfl) ?_
  refine va_put (D := (dC, dI)) (ci := 15) (v := .int 0) (ty := .int) (C := RX12) (T := TX12) (N := 150) hx hb hts (in_z_X12_fail_X12) tyX12 tyX12_ok nmX12 hown hK hP hD hS 0 rfl rfl 84 (by decide) (hts (.fieldLink RX12 628 "HeapWorksModel" "stopAt" "I") (by decide +kernel)) (fun _ h9 => h9) rfl (by decide +kernel) rfl rfl (by rw [o_s2902.2.1]; decide) dX12_fail_15 (fun H locs hP hD hS => ?_)
  have hP : va_P (dC, dI) vwCl [(Ad0, .inr (15, (s2902.set 84 (.int 0))))] H := hP
  have hD : va_D A [(Ad0, .inr (15, (s2902.set 84 (.int 0))))] := hD
  have o_s2903 := ow_set o_s2902 84 (.int 0) (by decide) (l' := [(84, .int 0), (83, .int 1)]) (w' := [84, 83]) rfl rfl
  generalize (s2902.set 84 (.int 0)) = s2903 at hP hD o_s2903
  have hP9 := hP.sub (ws' := [(Ad0, .inr (15, s2903))]) [0] rfl
  have hD9 := hD.sub (ws' := [(Ad0, .inr (15, s2903))]) [0] (by decide) rfl
  have hK9 := hK.sub (tys' := []) [] rfl
  exact W.vret hx hb hr (fun t ht hW => ⟨⟨s2903, rfl, o_s2903, by rw [ht]; exact hP9, va_K.moved hW.alike hK9, hD9⟩, hS.F ht⟩) hS.2.2 dX12_fail_18

def l_z_X12_wrong : List Cond := [.fieldLink RX12 644 "HeapWorksModel" "kind" "I", .fieldLink RX12 637 "HeapWorksModel" "from0" "I", .methodLink RX12 653 yX12_fail, .instanceMethod yX12_fail, .selects RX12 yX12_fail yX12_fail, .initialized RX12, .code yX12_fail cX12_fail 3 none, .fieldLink RX12 625 "HeapWorksModel" "stop" "I", .fieldLink RX12 628 "HeapWorksModel" "stopAt" "I"]
def w_z_X12_wrong : List Cond := .code yX12_wrong cX12_wrong 1 none :: (l_z_X12_wrong ++ (wsX120))
theorem in_z_X12_wrong_X12 : ∀ w ∈ wsX120, w ∈ w_z_X12_wrong := fun w h => List.mem_cons_of_mem _ (List.mem_append_right _ (h))
theorem g_z_X12_wrong_z_X12_fail_653 : GoodIn w_z_X12_wrong (wsV RX12 653 RX12 yX12_fail w_z_X12_fail) := goodIn_app (goodIn_sub (by decide +kernel) (by decide +kernel)) (goodIn_ca (goodIn_sub (by decide +kernel) (by decide +kernel)) (goodIn_in in_z_X12_wrong_X12 gd_X12))
set_option maxHeartbeats 4000000 in
set_option maxRecDepth 100000 in
theorem z_X12_wrong (l : Launch) (dC : Nat → ClassId) (dI : Nat → Nat → Nat) (sz : Nat) (Ad0 : Nat) (Fs0 : List Value) (k_Fs0 : fh Fs0 150 [(80, .int 0), (79, .int 0), (83, .int 0)])  : Met l yX12_wrong w_z_X12_wrong ({ frames := 1, cells := 0, slots := 0, locals := 22 }) (va_Pc [.ref Ad0] (fun U => U.heap.size = sz ∧ Wd dC dI [] (fun _ => True) [(Ad0, .inr (15, Fs0))] U)) (va_Qv (fun (u : List Value) => ow Fs0 (u) 150 [84, 83] [(84, .int 0), (83, .int 1), (80, .int 0), (79, .int 0)]) (fun (u : List Value) t => Wd dC dI [] (va_A [(Ad0, .inr (15, Fs0))] sz) [(Ad0, .inr (15, (u)))] t) (va_A [(Ad0, .inr (15, Fs0))] sz))  0 0 (va_A [(Ad0, .inr (15, Fs0))] sz) := by
  refine Met.ofW (cc := cX12_wrong) (maxL := 1) (ret := none) (by decide) rfl ?_
  intro p e s m args below meth c s₁ B hml hv
  obtain ⟨rfl, hsz, hP, hK, hD0⟩ := hv
  have hx := B.exec
  have hb := B.bytes
  have hr := B.returns
  have hts := atoms_spec (ws := w_z_X12_wrong) B.pre
  have hown : s.vm.findClass RX12 = some m.cls := findClass_of_methodNamed B.named
  have hlocks := B.notSynchronized
  subst hsz
  have hD := hD0.self (sz := s.heap.size)
  generalize hAe : va_A [(Ad0, .inr (15, Fs0))] s.heap.size = A at hD ⊢
  have hA : ∀ q : Nat, s.heap.size ≤ q → A q := fun q h => by rw [← hAe]; exact Or.inr h
  have hS : va_S A s.heap s.heap [] := va_S.rf
  have hl := lv_entry ([.ref Ad0]) (n := 1) (Nat.le_of_ble_eq_true rfl)
  rw [lg_entry_eq]
  generalize (lg_sl ([.ref Ad0]) ++ List.replicate (1 - (lg_sl ([.ref Ad0])).length) Slot.unset).toArray = ls at hl ⊢
  have hl : lv_has ls 1 [(0, .ref Ad0)] := hl
  have o_Fs0 := ow_0 k_Fs0
  refine lv_aload_n hx hb dX12_wrong_0 rfl (lv_at hl 0 rfl) ?_
  refine lv_aload_n hx hb dX12_wrong_1 rfl (lv_at hl 0 rfl) ?_
  refine va_get (D := (dC, dI)) (ci := 15) (v := .int 0) (C := RX12) (T := TX12) (N := 150) hx hb hts (in_z_X12_wrong_X12) hown hK hP 0 rfl rfl 80 (by decide) (hts (.fieldLink RX12 644 "HeapWorksModel" "kind" "I") (by decide +kernel)) (fun _ h9 => h9) (ow_at o_Fs0 0 rfl) dX12_wrong_2 ?_
  refine lv_iconst (v := 4) hx hb dX12_wrong_5 (by decide) ?_
  refine lv_icmp_ne (tgt := 13) hx hb dX12_wrong_6 (by decide) (fun c2905 => ?_) (fun c2905 => absurd c2905 (by decide))
  refine lv_iconst (v := 1) hx hb dX12_wrong_13 (by decide) ?_
  refine lv_aload_n hx hb dX12_wrong_14 rfl (lv_at hl 0 rfl) ?_
  refine va_get (D := (dC, dI)) (ci := 15) (v := .int 0) (C := RX12) (T := TX12) (N := 150) hx hb hts (in_z_X12_wrong_X12) hown hK hP 0 rfl rfl 79 (by decide) (hts (.fieldLink RX12 637 "HeapWorksModel" "from0" "I") (by decide +kernel)) (fun _ h9 => h9) (ow_at o_Fs0 1 rfl) dX12_wrong_15 ?_
  have hPc := hP.sub (ws' := [(Ad0, .inr (15, Fs0))]) [0] rfl
  have hDc := hD.sub (ws' := [(Ad0, .inr (15, Fs0))]) [0] (by decide) rfl
  have hKc := hK.sub (tys' := []) [] rfl
  have hFc := va_free (wc := [(Ad0, .inr (15, Fs0))]) hD hS hA [0] rfl
  refine va_callv (va_runV (As := [.int 1, .int 0]) (rest := []) ⟨hx, hb, hml, hown, hts⟩ (z_X12_fail l dC dI s.heap.size Ad0 Fs0 (fh_sub o_Fs0.2 [2] rfl) ) (cwV 2 hts g_z_X12_wrong_z_X12_fail_653 rfl rfl rfl (by decide +kernel) ⟨Nat.le_of_ble_eq_true rfl, Nat.le_of_ble_eq_true rfl⟩) ⟨fun a U g mk q => by obtain ⟨q0, q1, qP, qK, qD⟩ := q; exact ⟨q0, q1, qP, va_K.moved (u := U) (U := U.calling g mk a) (Vm.Alike.refl U.vm) qK, qD⟩, va_recv hK hP (ci := 15) (q0 := 0) rfl rfl, fun U hU hW => ⟨rfl, by rw [hU], by rw [hU]; exact hPc, va_K.moved hW.alike hKc, hDc.weaken (fun _ _ _ _ => trivial)⟩⟩ rfl rfl hl.1 rfl (lv_room (Nat.le_of_ble_eq_true rfl)) dX12_wrong_18 ⟨Nat.le_of_ble_eq_true rfl, Nat.le_of_ble_eq_true rfl⟩) hS (fun q _ h => hFc q h) hFc (fun u t H1 locs ht hvm hw hB hz1 hk1 hS => ?_)
  obtain ⟨s2909, rfl⟩ : ∃ z, z = u := ⟨_, rfl⟩
  obtain ⟨hP1, hK1, hD1⟩ := hB
  rw [ht] at hP1
  try dsimp only at hw
  obtain ⟨hP, hD⟩ := va_join (wr := []) (w1 := [(Ad0, .inr (15, s2909))]) hP hD [0] [] rfl rfl (by decide) (by decide) hk1 hFc hP1 hD1
  have hK := hK.sub (tys' := []) [] rfl
  generalize H1 = H at hP hS ⊢
  have hP : va_P (dC, dI) vwCl [(Ad0, .inr (15, s2909))] H := hP
  have hD : va_D A [(Ad0, .inr (15, s2909))] := hD
  have o_s2909 := hw
  have o_s2909 := ow_on o_Fs0 o_s2909 (l' := [(84, .int 0), (83, .int 1), (80, .int 0), (79, .int 0)]) (w' := [84, 83]) rfl rfl
  have hP9 := hP.sub (ws' := [(Ad0, .inr (15, s2909))]) [0] rfl
  have hD9 := hD.sub (ws' := [(Ad0, .inr (15, s2909))]) [0] (by decide) rfl
  have hK9 := hK.sub (tys' := []) [] rfl
  exact W.vret hx hb hr (fun t ht hW => ⟨⟨s2909, rfl, o_s2909, by rw [ht]; exact hP9, va_K.moved hW.alike hK9, hD9⟩, hS.F ht⟩) hS.2.2 dX12_wrong_21

def l_z_X12_readAtom : List Cond := [.fieldLink RX12 625 "HeapWorksModel" "stop" "I", .methodLink RX12 751 yX12_keyAtHand, .instanceMethod yX12_keyAtHand, .selects RX12 yX12_keyAtHand yX12_keyAtHand, .initialized RX12, .constantLong RX12 754 (40), .methodLink RX12 657 yX12_isSign, .instanceMethod yX12_isSign, .selects RX12 yX12_isSign yX12_isSign, .fieldLink RX12 644 "HeapWorksModel" "kind" "I", .methodLink RX12 710 yX12_isName, .instanceMethod yX12_isName, .selects RX12 yX12_isName yX12_isName, .methodLink RX12 664 yX12_wrong, .instanceMethod yX12_wrong, .selects RX12 yX12_wrong yX12_wrong, .fieldLink RX12 673 "HeapWorksModel" "nodeBase" "I", .code yX12_keyAtHand cX12_keyAtHand 1 (some .int), .code yX12_isSign cX12_isSign 3 (some .boolean), .code yX12_isName cX12_isName 1 (some .boolean), .code yX12_wrong cX12_wrong 1 none, .fieldLink RX12 637 "HeapWorksModel" "from0" "I", .methodLink RX12 653 yX12_fail, .instanceMethod yX12_fail, .selects RX12 yX12_fail yX12_fail, .code yX12_fail cX12_fail 3 none, .fieldLink RX12 628 "HeapWorksModel" "stopAt" "I"]
def w_z_X12_readAtom : List Cond := .code yX12_readAtom cX12_readAtom 5 (some .int) :: (l_z_X12_readAtom ++ (wsX120))
theorem in_z_X12_readAtom_X12 : ∀ w ∈ wsX120, w ∈ w_z_X12_readAtom := fun w h => List.mem_cons_of_mem _ (List.mem_append_right _ (h))
theorem g_z_X12_readAtom_z_X12_keyAtHand_751 : GoodIn w_z_X12_readAtom (wsV RX12 751 RX12 yX12_keyAtHand w_z_X12_keyAtHand) := goodIn_app (goodIn_sub (by decide +kernel) (by decide +kernel)) (goodIn_ca (goodIn_sub (by decide +kernel) (by decide +kernel)) (goodIn_in in_z_X12_readAtom_X12 gd_X12))
theorem g_z_X12_readAtom_z_X12_isSign_1_657 : GoodIn w_z_X12_readAtom (wsV RX12 657 RX12 yX12_isSign w_z_X12_isSign_1) := goodIn_app (goodIn_sub (by decide +kernel) (by decide +kernel)) (goodIn_ca (goodIn_sub (by decide +kernel) (by decide +kernel)) (goodIn_in in_z_X12_readAtom_X12 gd_X12))
theorem g_z_X12_readAtom_z_X12_isName_710 : GoodIn w_z_X12_readAtom (wsV RX12 710 RX12 yX12_isName w_z_X12_isName) := goodIn_app (goodIn_sub (by decide +kernel) (by decide +kernel)) (goodIn_ca (goodIn_sub (by decide +kernel) (by decide +kernel)) (goodIn_in in_z_X12_readAtom_X12 gd_X12))
theorem g_z_X12_readAtom_z_X12_wrong_664 : GoodIn w_z_X12_readAtom (wsV RX12 664 RX12 yX12_wrong w_z_X12_wrong) := goodIn_app (goodIn_sub (by decide +kernel) (by decide +kernel)) (goodIn_ca (goodIn_sub (by decide +kernel) (by decide +kernel)) (goodIn_in in_z_X12_readAtom_X12 gd_X12))
set_option maxHeartbeats 4000000 in
set_option maxRecDepth 100000 in
theorem z_X12_readAtom (l : Launch) (dC : Nat → ClassId) (dI : Nat → Nat → Nat) (sz : Nat) (Ad0 : Nat) (Fs0 : List Value) (k_Fs0 : fh Fs0 150 [(80, .int 0), (79, .int 0), (83, .int 0), (91, .int 120)])  : Met l yX12_readAtom w_z_X12_readAtom ({ frames := 2, cells := 0, slots := 0, locals := 42 }) (va_Pc [.ref Ad0] (fun U => U.heap.size = sz ∧ Wd dC dI [] (fun _ => True) [(Ad0, .inr (15, Fs0))] U)) (va_Qi (fun (r : Int32) (u : List Value) => (r = 120 ∧ ow Fs0 (u) 150 [84, 83] [(84, .int 0), (83, .int 1), (80, .int 0), (79, .int 0), (80, .int 0), (79, .int 0), (91, .int 120)])) (fun (u : List Value) t => Wd dC dI [] (va_A [(Ad0, .inr (15, Fs0))] sz) [(Ad0, .inr (15, (u)))] t) (va_A [(Ad0, .inr (15, Fs0))] sz))  0 0 (va_A [(Ad0, .inr (15, Fs0))] sz) := by
  refine Met.ofW (cc := cX12_readAtom) (maxL := 5) (ret := (some .int)) (by decide) rfl ?_
  intro p e s m args below meth c s₁ B hml hv
  obtain ⟨rfl, hsz, hP, hK, hD0⟩ := hv
  have hx := B.exec
  have hb := B.bytes
  have hr := B.returns
  have hts := atoms_spec (ws := w_z_X12_readAtom) B.pre
  have hown : s.vm.findClass RX12 = some m.cls := findClass_of_methodNamed B.named
  have hlocks := B.notSynchronized
  subst hsz
  have hD := hD0.self (sz := s.heap.size)
  generalize hAe : va_A [(Ad0, .inr (15, Fs0))] s.heap.size = A at hD ⊢
  have hA : ∀ q : Nat, s.heap.size ≤ q → A q := fun q h => by rw [← hAe]; exact Or.inr h
  have hS : va_S A s.heap s.heap [] := va_S.rf
  have hl := lv_entry ([.ref Ad0]) (n := 5) (Nat.le_of_ble_eq_true rfl)
  rw [lg_entry_eq]
  generalize (lg_sl ([.ref Ad0]) ++ List.replicate (5 - (lg_sl ([.ref Ad0])).length) Slot.unset).toArray = ls at hl ⊢
  have hl : lv_has ls 5 [(0, .ref Ad0)] := hl
  have o_Fs0 := ow_0 k_Fs0
  refine lv_aload_n hx hb dX12_readAtom_0 rfl (lv_at hl 0 rfl) ?_
  refine va_get (D := (dC, dI)) (ci := 15) (v := .int 0) (C := RX12) (T := TX12) (N := 150) hx hb hts (in_z_X12_readAtom_X12) hown hK hP 0 rfl rfl 83 (by decide) (hts (.fieldLink RX12 625 "HeapWorksModel" "stop" "I") (by decide +kernel)) (fun _ h9 => h9) (ow_at o_Fs0 2 rfl) dX12_readAtom_1 ?_
  refine lv_if_le (tgt := 12) hx hb dX12_readAtom_4 (by decide) (fun c2911 => ?_) (fun c2911 => absurd c2911 (by decide))
  refine lv_aload_n hx hb dX12_readAtom_12 rfl (lv_at hl 0 rfl) ?_
  have hPc := hP.sub (ws' := [(Ad0, .inr (15, Fs0))]) [0] rfl
  have hDc := hD.sub (ws' := [(Ad0, .inr (15, Fs0))]) [0] (by decide) rfl
  have hKc := hK.sub (tys' := []) [] rfl
  have hFc := va_free (wc := [(Ad0, .inr (15, Fs0))]) hD hS hA [0] rfl
  refine va_calli (va_runV (As := []) (rest := []) ⟨hx, hb, hml, hown, hts⟩ (z_X12_keyAtHand l dC dI s.heap.size Ad0 Fs0 (fh_sub o_Fs0.2 [0] rfl) ) (cwV 0 hts g_z_X12_readAtom_z_X12_keyAtHand_751 rfl rfl rfl (by decide +kernel) ⟨Nat.le_of_ble_eq_true rfl, Nat.le_of_ble_eq_true rfl⟩) ⟨fun a U g mk q => by obtain ⟨q0, q1, qP, qK, qD⟩ := q; exact ⟨q0, q1, qP, va_K.moved (u := U) (U := U.calling g mk a) (Vm.Alike.refl U.vm) qK, qD⟩, va_recv hK hP (ci := 15) (q0 := 0) rfl rfl, fun U hU hW => ⟨rfl, by rw [hU], by rw [hU]; exact hPc, va_K.moved hW.alike hKc, hDc.weaken (fun _ _ _ _ => trivial)⟩⟩ rfl rfl hl.1 rfl (lv_room (Nat.le_of_ble_eq_true rfl)) dX12_readAtom_13 ⟨Nat.le_of_ble_eq_true rfl, Nat.le_of_ble_eq_true rfl⟩) hS (fun q _ h => hFc q h) hFc (fun r2913 u t H1 locs ht hvm hw hB hz1 hk1 hS => ?_)
  obtain ⟨hP1, hK1, hD1⟩ := hB
  rw [ht] at hP1
  try dsimp only at hw
  obtain ⟨hP, hD⟩ := va_join (wr := []) (w1 := [(Ad0, .inr (15, Fs0))]) hP hD [0] [] rfl rfl (by decide) (by decide) hk1 hFc hP1 hD1
  have hK := hK.sub (tys' := []) [] rfl
  generalize H1 = H at hP hS ⊢
  have hP : va_P (dC, dI) vwCl [(Ad0, .inr (15, Fs0))] H := hP
  have hD : va_D A [(Ad0, .inr (15, Fs0))] := hD
  have er2914 := hw
  subst er2914
  refine lv_istore_n (lv' := [(1, .int (-1)), (0, .ref Ad0)]) hx hb dX12_readAtom_16 rfl hl (by decide) rfl (fun ls hl => ?_)
  refine lv_aload_n hx hb dX12_readAtom_17 rfl (lv_at hl 1 rfl) ?_
  refine lv_ldc2 (v := 40) hx hb hown (hts (.constantLong RX12 754 (40)) (by decide +kernel)) dX12_readAtom_18 ?_
  have hPc := hP.sub (ws' := [(Ad0, .inr (15, Fs0))]) [0] rfl
  have hDc := hD.sub (ws' := [(Ad0, .inr (15, Fs0))]) [0] (by decide) rfl
  have hKc := hK.sub (tys' := []) [] rfl
  have hFc := va_free (wc := [(Ad0, .inr (15, Fs0))]) hD hS hA [0] rfl
  refine va_calli (va_runV (As := [.long 40]) (rest := []) ⟨hx, hb, hml, hown, hts⟩ (z_X12_isSign_1 l dC dI H.size Ad0 Fs0 (fh_sub o_Fs0.2 [0] rfl) ) (cwV 1 hts g_z_X12_readAtom_z_X12_isSign_1_657 rfl rfl rfl (by decide +kernel) ⟨Nat.le_of_ble_eq_true rfl, Nat.le_of_ble_eq_true rfl⟩) ⟨fun a U g mk q => by obtain ⟨q0, q1, qP, qK, qD⟩ := q; exact ⟨q0, q1, qP, va_K.moved (u := U) (U := U.calling g mk a) (Vm.Alike.refl U.vm) qK, qD⟩, va_recv hK hP (ci := 15) (q0 := 0) rfl rfl, fun U hU hW => ⟨rfl, by rw [hU], by rw [hU]; exact hPc, va_K.moved hW.alike hKc, hDc.weaken (fun _ _ _ _ => trivial)⟩⟩ rfl rfl hl.1 rfl (lv_room (Nat.le_of_ble_eq_true rfl)) dX12_readAtom_21 ⟨Nat.le_of_ble_eq_true rfl, Nat.le_of_ble_eq_true rfl⟩) hS (fun q _ h => hFc q h) hFc (fun r2916 u t H1 locs ht hvm hw hB hz1 hk1 hS => ?_)
  obtain ⟨hP1, hK1, hD1⟩ := hB
  rw [ht] at hP1
  try dsimp only at hw
  obtain ⟨hP, hD⟩ := va_join (wr := []) (w1 := [(Ad0, .inr (15, Fs0))]) hP hD [0] [] rfl rfl (by decide) (by decide) hk1 hFc hP1 hD1
  have hK := hK.sub (tys' := []) [] rfl
  generalize H1 = H at hP hS ⊢
  have hP : va_P (dC, dI) vwCl [(Ad0, .inr (15, Fs0))] H := hP
  have hD : va_D A [(Ad0, .inr (15, Fs0))] := hD
  have er2917 := hw
  subst er2917
  refine lv_if_eq (tgt := 80) hx hb dX12_readAtom_24 (by decide) (fun c2918 => ?_) (fun c2918 => absurd c2918 (by decide))
  refine lv_iload_n hx hb dX12_readAtom_80 rfl (lv_at hl 0 rfl) ?_
  refine lv_bipush (v := 13) hx hb dX12_readAtom_81 (by decide) ?_
  refine lv_icmp_lt (tgt := 98) hx hb dX12_readAtom_83 (by decide) (fun c2919 => ?_) (fun c2919 => absurd c2919 (by decide))
  refine lv_iload_n hx hb dX12_readAtom_98 rfl (lv_at hl 0 rfl) ?_
  refine lv_bipush (v := 19) hx hb dX12_readAtom_99 (by decide) ?_
  refine lv_icmp_lt (tgt := 139) hx hb dX12_readAtom_101 (by decide) (fun c2920 => ?_) (fun c2920 => absurd c2920 (by decide))
  refine lv_iload_n hx hb dX12_readAtom_139 rfl (lv_at hl 0 rfl) ?_
  refine lv_bipush (v := 28) hx hb dX12_readAtom_140 (by decide) ?_
  refine lv_icmp_ne (tgt := 205) hx hb dX12_readAtom_142 (by decide) (fun c2921 => ?_) (fun c2921 => absurd c2921 (by decide))
  refine lv_aload_n hx hb dX12_readAtom_205 rfl (lv_at hl 1 rfl) ?_
  refine va_get (D := (dC, dI)) (ci := 15) (v := .int 0) (C := RX12) (T := TX12) (N := 150) hx hb hts (in_z_X12_readAtom_X12) hown hK hP 0 rfl rfl 80 (by decide) (hts (.fieldLink RX12 644 "HeapWorksModel" "kind" "I") (by decide +kernel)) (fun _ h9 => h9) (ow_at o_Fs0 0 rfl) dX12_readAtom_206 ?_
  refine lv_iconst (v := 2) hx hb dX12_readAtom_209 (by decide) ?_
  refine lv_icmp_eq (tgt := 237) hx hb dX12_readAtom_210 (by decide) (fun c2922 => absurd c2922 (by decide)) (fun c2922 => ?_)
  refine lv_iload_n hx hb dX12_readAtom_213 rfl (lv_at hl 0 rfl) ?_
  refine lv_bipush (v := 8) hx hb dX12_readAtom_214 (by decide) ?_
  refine lv_icmp_eq (tgt := 237) hx hb dX12_readAtom_216 (by decide) (fun c2923 => absurd c2923 (by decide)) (fun c2923 => ?_)
  refine lv_iload_n hx hb dX12_readAtom_219 rfl (lv_at hl 0 rfl) ?_
  refine lv_bipush (v := 9) hx hb dX12_readAtom_220 (by decide) ?_
  refine lv_icmp_eq (tgt := 237) hx hb dX12_readAtom_222 (by decide) (fun c2924 => absurd c2924 (by decide)) (fun c2924 => ?_)
  refine lv_iload_n hx hb dX12_readAtom_225 rfl (lv_at hl 0 rfl) ?_
  refine lv_bipush (v := 10) hx hb dX12_readAtom_226 (by decide) ?_
  refine lv_icmp_eq (tgt := 237) hx hb dX12_readAtom_228 (by decide) (fun c2925 => absurd c2925 (by decide)) (fun c2925 => ?_)
  refine lv_iload_n hx hb dX12_readAtom_231 rfl (lv_at hl 0 rfl) ?_
  refine lv_bipush (v := 27) hx hb dX12_readAtom_232 (by decide) ?_
  refine lv_icmp_ne (tgt := 241) hx hb dX12_readAtom_234 (by decide) (fun c2926 => ?_) (fun c2926 => absurd c2926 (by decide))
  refine lv_iconst (v := 0) hx hb dX12_readAtom_241 (by decide) ?_
  refine lv_istore_n (lv' := [(2, .int 0), (1, .int (-1)), (0, .ref Ad0)]) hx hb dX12_readAtom_242 rfl hl (by decide) rfl (fun ls hl => ?_)
  refine lv_iload_n hx hb dX12_readAtom_243 rfl (lv_at hl 0 rfl) ?_
  refine lv_if_ne (tgt := 263) hx hb dX12_readAtom_244 (by decide) (fun c2927 => absurd c2927 (by decide)) (fun c2927 => ?_)
  refine lv_aload_n hx hb dX12_readAtom_247 rfl (lv_at hl 2 rfl) ?_
  have hPc := hP.sub (ws' := [(Ad0, .inr (15, Fs0))]) [0] rfl
  have hDc := hD.sub (ws' := [(Ad0, .inr (15, Fs0))]) [0] (by decide) rfl
  have hKc := hK.sub (tys' := []) [] rfl
  have hFc := va_free (wc := [(Ad0, .inr (15, Fs0))]) hD hS hA [0] rfl
  refine va_calli (va_runV (As := []) (rest := []) ⟨hx, hb, hml, hown, hts⟩ (z_X12_isName l dC dI H.size Ad0 Fs0 (fh_sub o_Fs0.2 [0] rfl) ) (cwV 0 hts g_z_X12_readAtom_z_X12_isName_710 rfl rfl rfl (by decide +kernel) ⟨Nat.le_of_ble_eq_true rfl, Nat.le_of_ble_eq_true rfl⟩) ⟨fun a U g mk q => by obtain ⟨q0, q1, qP, qK, qD⟩ := q; exact ⟨q0, q1, qP, va_K.moved (u := U) (U := U.calling g mk a) (Vm.Alike.refl U.vm) qK, qD⟩, va_recv hK hP (ci := 15) (q0 := 0) rfl rfl, fun U hU hW => ⟨rfl, by rw [hU], by rw [hU]; exact hPc, va_K.moved hW.alike hKc, hDc.weaken (fun _ _ _ _ => trivial)⟩⟩ rfl rfl hl.1 rfl (lv_room (Nat.le_of_ble_eq_true rfl)) dX12_readAtom_248 ⟨Nat.le_of_ble_eq_true rfl, Nat.le_of_ble_eq_true rfl⟩) hS (fun q _ h => hFc q h) hFc (fun r2929 u t H1 locs ht hvm hw hB hz1 hk1 hS => ?_)
  obtain ⟨hP1, hK1, hD1⟩ := hB
  rw [ht] at hP1
  try dsimp only at hw
  obtain ⟨hP, hD⟩ := va_join (wr := []) (w1 := [(Ad0, .inr (15, Fs0))]) hP hD [0] [] rfl rfl (by decide) (by decide) hk1 hFc hP1 hD1
  have hK := hK.sub (tys' := []) [] rfl
  generalize H1 = H at hP hS ⊢
  have hP : va_P (dC, dI) vwCl [(Ad0, .inr (15, Fs0))] H := hP
  have hD : va_D A [(Ad0, .inr (15, Fs0))] := hD
  have er2930 := hw
  subst er2930
  refine lv_if_ne (tgt := 263) hx hb dX12_readAtom_251 (by decide) (fun c2931 => absurd c2931 (by decide)) (fun c2931 => ?_)
  refine lv_aload_n hx hb dX12_readAtom_254 rfl (lv_at hl 2 rfl) ?_
  have hPc := hP.sub (ws' := [(Ad0, .inr (15, Fs0))]) [0] rfl
  have hDc := hD.sub (ws' := [(Ad0, .inr (15, Fs0))]) [0] (by decide) rfl
  have hKc := hK.sub (tys' := []) [] rfl
  have hFc := va_free (wc := [(Ad0, .inr (15, Fs0))]) hD hS hA [0] rfl
  refine va_callv (va_runV (As := []) (rest := []) ⟨hx, hb, hml, hown, hts⟩ (z_X12_wrong l dC dI H.size Ad0 Fs0 (fh_sub o_Fs0.2 [0, 1, 2] rfl) ) (cwV 0 hts g_z_X12_readAtom_z_X12_wrong_664 rfl rfl rfl (by decide +kernel) ⟨Nat.le_of_ble_eq_true rfl, Nat.le_of_ble_eq_true rfl⟩) ⟨fun a U g mk q => by obtain ⟨q0, q1, qP, qK, qD⟩ := q; exact ⟨q0, q1, qP, va_K.moved (u := U) (U := U.calling g mk a) (Vm.Alike.refl U.vm) qK, qD⟩, va_recv hK hP (ci := 15) (q0 := 0) rfl rfl, fun U hU hW => ⟨rfl, by rw [hU], by rw [hU]; exact hPc, va_K.moved hW.alike hKc, hDc.weaken (fun _ _ _ _ => trivial)⟩⟩ rfl rfl hl.1 rfl (lv_room (Nat.le_of_ble_eq_true rfl)) dX12_readAtom_255 ⟨Nat.le_of_ble_eq_true rfl, Nat.le_of_ble_eq_true rfl⟩) hS (fun q _ h => hFc q h) hFc (fun u t H1 locs ht hvm hw hB hz1 hk1 hS => ?_)
  obtain ⟨s2937, rfl⟩ : ∃ z, z = u := ⟨_, rfl⟩
  obtain ⟨hP1, hK1, hD1⟩ := hB
  rw [ht] at hP1
  try dsimp only at hw
  obtain ⟨hP, hD⟩ := va_join (wr := []) (w1 := [(Ad0, .inr (15, s2937))]) hP hD [0] [] rfl rfl (by decide) (by decide) hk1 hFc hP1 hD1
  have hK := hK.sub (tys' := []) [] rfl
  generalize H1 = H at hP hS ⊢
  have hP : va_P (dC, dI) vwCl [(Ad0, .inr (15, s2937))] H := hP
  have hD : va_D A [(Ad0, .inr (15, s2937))] := hD
  have o_s2937 := hw
  have o_s2937 := ow_on o_Fs0 o_s2937 (l' := [(84, .int 0), (83, .int 1), (80, .int 0), (79, .int 0), (80, .int 0), (79, .int 0), (91, .int 120)]) (w' := [84, 83]) rfl rfl
  refine lv_aload_n hx hb dX12_readAtom_258 rfl (lv_at hl 2 rfl) ?_
  refine va_get (D := (dC, dI)) (ci := 15) (v := .int 120) (C := RX12) (T := TX12) (N := 150) hx hb hts (in_z_X12_readAtom_X12) hown hK hP 0 rfl rfl 91 (by decide) (hts (.fieldLink RX12 673 "HeapWorksModel" "nodeBase" "I") (by decide +kernel)) (fun _ h9 => h9) (ow_at o_s2937 6 rfl) dX12_readAtom_259 ?_
  have hP9 := hP.sub (ws' := [(Ad0, .inr (15, s2937))]) [0] rfl
  have hD9 := hD.sub (ws' := [(Ad0, .inr (15, s2937))]) [0] (by decide) rfl
  have hK9 := hK.sub (tys' := []) [] rfl
  exact W.iret (v := 120) hx hb hr (fun t ht hW => ⟨⟨120, s2937, rfl, ⟨rfl, o_s2937⟩, by rw [ht]; exact hP9, va_K.moved hW.alike hK9, hD9⟩, hS.F ht⟩) hS.2.2 dX12_readAtom_262

def l_z_X12_readP : List Cond := [.methodLink RX12 733 yX12_readAtom, .instanceMethod yX12_readAtom, .selects RX12 yX12_readAtom yX12_readAtom, .initialized RX12, .fieldLink RX12 625 "HeapWorksModel" "stop" "I", .code yX12_readAtom cX12_readAtom 5 (some .int), .methodLink RX12 751 yX12_keyAtHand, .instanceMethod yX12_keyAtHand, .selects RX12 yX12_keyAtHand yX12_keyAtHand, .constantLong RX12 754 (40), .methodLink RX12 657 yX12_isSign, .instanceMethod yX12_isSign, .selects RX12 yX12_isSign yX12_isSign, .fieldLink RX12 644 "HeapWorksModel" "kind" "I", .methodLink RX12 710 yX12_isName, .instanceMethod yX12_isName, .selects RX12 yX12_isName yX12_isName, .methodLink RX12 664 yX12_wrong, .instanceMethod yX12_wrong, .selects RX12 yX12_wrong yX12_wrong, .fieldLink RX12 673 "HeapWorksModel" "nodeBase" "I", .code yX12_keyAtHand cX12_keyAtHand 1 (some .int), .code yX12_isSign cX12_isSign 3 (some .boolean), .code yX12_isName cX12_isName 1 (some .boolean), .code yX12_wrong cX12_wrong 1 none, .fieldLink RX12 637 "HeapWorksModel" "from0" "I", .methodLink RX12 653 yX12_fail, .instanceMethod yX12_fail, .selects RX12 yX12_fail yX12_fail, .code yX12_fail cX12_fail 3 none, .fieldLink RX12 628 "HeapWorksModel" "stopAt" "I"]
def w_z_X12_readP : List Cond := .code yX12_readP cX12_readP 4 (some .int) :: (l_z_X12_readP ++ (wsX120))
theorem in_z_X12_readP_X12 : ∀ w ∈ wsX120, w ∈ w_z_X12_readP := fun w h => List.mem_cons_of_mem _ (List.mem_append_right _ (h))
theorem g_z_X12_readP_z_X12_readAtom_733 : GoodIn w_z_X12_readP (wsV RX12 733 RX12 yX12_readAtom w_z_X12_readAtom) := goodIn_app (goodIn_sub (by decide +kernel) (by decide +kernel)) (goodIn_ca (goodIn_sub (by decide +kernel) (by decide +kernel)) (goodIn_in in_z_X12_readP_X12 gd_X12))
set_option maxHeartbeats 4000000 in
set_option maxRecDepth 100000 in
theorem z_X12_readP (l : Launch) (dC : Nat → ClassId) (dI : Nat → Nat → Nat) (sz : Nat) (Ad0 : Nat) (Fs0 : List Value) (k_Fs0 : fh Fs0 150 [(80, .int 0), (79, .int 0), (83, .int 0), (91, .int 120)])  : Met l yX12_readP w_z_X12_readP ({ frames := 3, cells := 0, slots := 0, locals := 66 }) (va_Pc [.ref Ad0] (fun U => U.heap.size = sz ∧ Wd dC dI [] (fun _ => True) [(Ad0, .inr (15, Fs0))] U)) (va_Qi (fun (r : Int32) (u : List Value) => (r = 120 ∧ ow Fs0 (u) 150 [84, 83] [(84, .int 0), (83, .int 1), (80, .int 0), (79, .int 0), (80, .int 0), (79, .int 0), (91, .int 120), (80, .int 0), (79, .int 0), (91, .int 120)])) (fun (u : List Value) t => Wd dC dI [] (va_A [(Ad0, .inr (15, Fs0))] sz) [(Ad0, .inr (15, (u)))] t) (va_A [(Ad0, .inr (15, Fs0))] sz))  0 0 (va_A [(Ad0, .inr (15, Fs0))] sz) := by
  refine Met.ofW (cc := cX12_readP) (maxL := 4) (ret := (some .int)) (by decide) rfl ?_
  intro p e s m args below meth c s₁ B hml hv
  obtain ⟨rfl, hsz, hP, hK, hD0⟩ := hv
  have hx := B.exec
  have hb := B.bytes
  have hr := B.returns
  have hts := atoms_spec (ws := w_z_X12_readP) B.pre
  have hown : s.vm.findClass RX12 = some m.cls := findClass_of_methodNamed B.named
  have hlocks := B.notSynchronized
  subst hsz
  have hD := hD0.self (sz := s.heap.size)
  generalize hAe : va_A [(Ad0, .inr (15, Fs0))] s.heap.size = A at hD ⊢
  have hA : ∀ q : Nat, s.heap.size ≤ q → A q := fun q h => by rw [← hAe]; exact Or.inr h
  have hS : va_S A s.heap s.heap [] := va_S.rf
  have hl := lv_entry ([.ref Ad0]) (n := 4) (Nat.le_of_ble_eq_true rfl)
  rw [lg_entry_eq]
  generalize (lg_sl ([.ref Ad0]) ++ List.replicate (4 - (lg_sl ([.ref Ad0])).length) Slot.unset).toArray = ls at hl ⊢
  have hl : lv_has ls 4 [(0, .ref Ad0)] := hl
  have o_Fs0 := ow_0 k_Fs0
  refine lv_aload_n hx hb dX12_readP_0 rfl (lv_at hl 0 rfl) ?_
  have hPc := hP.sub (ws' := [(Ad0, .inr (15, Fs0))]) [0] rfl
  have hDc := hD.sub (ws' := [(Ad0, .inr (15, Fs0))]) [0] (by decide) rfl
  have hKc := hK.sub (tys' := []) [] rfl
  have hFc := va_free (wc := [(Ad0, .inr (15, Fs0))]) hD hS hA [0] rfl
  refine va_calli (va_runV (As := []) (rest := []) ⟨hx, hb, hml, hown, hts⟩ (z_X12_readAtom l dC dI s.heap.size Ad0 Fs0 (fh_sub o_Fs0.2 [0, 1, 2, 3] rfl) ) (cwV 0 hts g_z_X12_readP_z_X12_readAtom_733 rfl rfl rfl (by decide +kernel) ⟨Nat.le_of_ble_eq_true rfl, Nat.le_of_ble_eq_true rfl⟩) ⟨fun a U g mk q => by obtain ⟨q0, q1, qP, qK, qD⟩ := q; exact ⟨q0, q1, qP, va_K.moved (u := U) (U := U.calling g mk a) (Vm.Alike.refl U.vm) qK, qD⟩, va_recv hK hP (ci := 15) (q0 := 0) rfl rfl, fun U hU hW => ⟨rfl, by rw [hU], by rw [hU]; exact hPc, va_K.moved hW.alike hKc, hDc.weaken (fun _ _ _ _ => trivial)⟩⟩ rfl rfl hl.1 rfl (lv_room (Nat.le_of_ble_eq_true rfl)) dX12_readP_1 ⟨Nat.le_of_ble_eq_true rfl, Nat.le_of_ble_eq_true rfl⟩) hS (fun q _ h => hFc q h) hFc (fun r2969 u t H1 locs ht hvm hw hB hz1 hk1 hS => ?_)
  obtain ⟨s2970, rfl⟩ : ∃ z, z = u := ⟨_, rfl⟩
  obtain ⟨hP1, hK1, hD1⟩ := hB
  rw [ht] at hP1
  try dsimp only at hw
  obtain ⟨hP, hD⟩ := va_join (wr := []) (w1 := [(Ad0, .inr (15, s2970))]) hP hD [0] [] rfl rfl (by decide) (by decide) hk1 hFc hP1 hD1
  have hK := hK.sub (tys' := []) [] rfl
  generalize H1 = H at hP hS ⊢
  have hP : va_P (dC, dI) vwCl [(Ad0, .inr (15, s2970))] H := hP
  have hD : va_D A [(Ad0, .inr (15, s2970))] := hD
  obtain ⟨er2971, o_s2970⟩ := hw
  subst er2971
  have o_s2970 := ow_on o_Fs0 o_s2970 (l' := [(84, .int 0), (83, .int 1), (80, .int 0), (79, .int 0), (80, .int 0), (79, .int 0), (91, .int 120), (80, .int 0), (79, .int 0), (91, .int 120)]) (w' := [84, 83]) rfl rfl
  refine lv_istore_n (lv' := [(1, .int 120), (0, .ref Ad0)]) hx hb dX12_readP_4 rfl hl (by decide) rfl (fun ls hl => ?_)
  refine lv_aload_n hx hb dX12_readP_5 rfl (lv_at hl 1 rfl) ?_
  refine va_get (D := (dC, dI)) (ci := 15) (v := .int 1) (C := RX12) (T := TX12) (N := 150) hx hb hts (in_z_X12_readP_X12) hown hK hP 0 rfl rfl 83 (by decide) (hts (.fieldLink RX12 625 "HeapWorksModel" "stop" "I") (by decide +kernel)) (fun _ h9 => h9) (ow_at o_s2970 1 rfl) dX12_readP_6 ?_
  refine lv_if_ne (tgt := 171) hx hb dX12_readP_9 (by decide) (fun c2972 => ?_) (fun c2972 => absurd c2972 (by decide))
  refine lv_iload_n hx hb dX12_readP_171 rfl (lv_at hl 0 rfl) ?_
  have hP9 := hP.sub (ws' := [(Ad0, .inr (15, s2970))]) [0] rfl
  have hD9 := hD.sub (ws' := [(Ad0, .inr (15, s2970))]) [0] (by decide) rfl
  have hK9 := hK.sub (tys' := []) [] rfl
  exact W.iret (v := 120) hx hb hr (fun t ht hW => ⟨⟨120, s2970, rfl, ⟨rfl, o_s2970⟩, by rw [ht]; exact hP9, va_K.moved hW.alike hK9, hD9⟩, hS.F ht⟩) hS.2.2 dX12_readP_172

def l_z_X12_readTurned : List Cond := [.fieldLink RX12 625 "HeapWorksModel" "stop" "I", .constantLong RX12 719 (45), .methodLink RX12 657 yX12_isSign, .instanceMethod yX12_isSign, .selects RX12 yX12_isSign yX12_isSign, .initialized RX12, .methodLink RX12 730 yX12_readP, .instanceMethod yX12_readP, .selects RX12 yX12_readP yX12_readP, .code yX12_isSign cX12_isSign 3 (some .boolean), .fieldLink RX12 644 "HeapWorksModel" "kind" "I", .code yX12_readP cX12_readP 4 (some .int), .methodLink RX12 733 yX12_readAtom, .instanceMethod yX12_readAtom, .selects RX12 yX12_readAtom yX12_readAtom, .code yX12_readAtom cX12_readAtom 5 (some .int), .methodLink RX12 751 yX12_keyAtHand, .instanceMethod yX12_keyAtHand, .selects RX12 yX12_keyAtHand yX12_keyAtHand, .constantLong RX12 754 (40), .methodLink RX12 710 yX12_isName, .instanceMethod yX12_isName, .selects RX12 yX12_isName yX12_isName, .methodLink RX12 664 yX12_wrong, .instanceMethod yX12_wrong, .selects RX12 yX12_wrong yX12_wrong, .fieldLink RX12 673 "HeapWorksModel" "nodeBase" "I", .code yX12_keyAtHand cX12_keyAtHand 1 (some .int), .code yX12_isName cX12_isName 1 (some .boolean), .code yX12_wrong cX12_wrong 1 none, .fieldLink RX12 637 "HeapWorksModel" "from0" "I", .methodLink RX12 653 yX12_fail, .instanceMethod yX12_fail, .selects RX12 yX12_fail yX12_fail, .code yX12_fail cX12_fail 3 none, .fieldLink RX12 628 "HeapWorksModel" "stopAt" "I"]
def w_z_X12_readTurned : List Cond := .code yX12_readTurned cX12_readTurned 2 (some .int) :: (l_z_X12_readTurned ++ (wsX120))
theorem in_z_X12_readTurned_X12 : ∀ w ∈ wsX120, w ∈ w_z_X12_readTurned := fun w h => List.mem_cons_of_mem _ (List.mem_append_right _ (h))
theorem g_z_X12_readTurned_z_X12_isSign_657 : GoodIn w_z_X12_readTurned (wsV RX12 657 RX12 yX12_isSign w_z_X12_isSign) := goodIn_app (goodIn_sub (by decide +kernel) (by decide +kernel)) (goodIn_ca (goodIn_sub (by decide +kernel) (by decide +kernel)) (goodIn_in in_z_X12_readTurned_X12 gd_X12))
theorem g_z_X12_readTurned_z_X12_readP_730 : GoodIn w_z_X12_readTurned (wsV RX12 730 RX12 yX12_readP w_z_X12_readP) := goodIn_app (goodIn_sub (by decide +kernel) (by decide +kernel)) (goodIn_ca (goodIn_sub (by decide +kernel) (by decide +kernel)) (goodIn_in in_z_X12_readTurned_X12 gd_X12))
set_option maxHeartbeats 4000000 in
set_option maxRecDepth 100000 in
theorem z_X12_readTurned (l : Launch) (dC : Nat → ClassId) (dI : Nat → Nat → Nat) (sz : Nat) (Ad0 : Nat) (Fs0 : List Value) (k_Fs0 : fh Fs0 150 [(80, .int 0), (79, .int 0), (83, .int 0), (91, .int 120)])  : Met l yX12_readTurned w_z_X12_readTurned ({ frames := 4, cells := 0, slots := 0, locals := 89 }) (va_Pc [.ref Ad0] (fun U => U.heap.size = sz ∧ Wd dC dI [] (fun _ => True) [(Ad0, .inr (15, Fs0))] U)) (va_Qi (fun (r : Int32) (u : List Value) => (r = 120 ∧ ow Fs0 (u) 150 [84, 83] [(84, .int 0), (83, .int 1), (80, .int 0), (79, .int 0), (80, .int 0), (79, .int 0), (91, .int 120), (80, .int 0), (79, .int 0), (91, .int 120), (80, .int 0), (79, .int 0), (91, .int 120)])) (fun (u : List Value) t => Wd dC dI [] (va_A [(Ad0, .inr (15, Fs0))] sz) [(Ad0, .inr (15, (u)))] t) (va_A [(Ad0, .inr (15, Fs0))] sz))  0 0 (va_A [(Ad0, .inr (15, Fs0))] sz) := by
  refine Met.ofW (cc := cX12_readTurned) (maxL := 2) (ret := (some .int)) (by decide) rfl ?_
  intro p e s m args below meth c s₁ B hml hv
  obtain ⟨rfl, hsz, hP, hK, hD0⟩ := hv
  have hx := B.exec
  have hb := B.bytes
  have hr := B.returns
  have hts := atoms_spec (ws := w_z_X12_readTurned) B.pre
  have hown : s.vm.findClass RX12 = some m.cls := findClass_of_methodNamed B.named
  have hlocks := B.notSynchronized
  subst hsz
  have hD := hD0.self (sz := s.heap.size)
  generalize hAe : va_A [(Ad0, .inr (15, Fs0))] s.heap.size = A at hD ⊢
  have hA : ∀ q : Nat, s.heap.size ≤ q → A q := fun q h => by rw [← hAe]; exact Or.inr h
  have hS : va_S A s.heap s.heap [] := va_S.rf
  have hl := lv_entry ([.ref Ad0]) (n := 2) (Nat.le_of_ble_eq_true rfl)
  rw [lg_entry_eq]
  generalize (lg_sl ([.ref Ad0]) ++ List.replicate (2 - (lg_sl ([.ref Ad0])).length) Slot.unset).toArray = ls at hl ⊢
  have hl : lv_has ls 2 [(0, .ref Ad0)] := hl
  have o_Fs0 := ow_0 k_Fs0
  refine lv_aload_n hx hb dX12_readTurned_0 rfl (lv_at hl 0 rfl) ?_
  refine va_get (D := (dC, dI)) (ci := 15) (v := .int 0) (C := RX12) (T := TX12) (N := 150) hx hb hts (in_z_X12_readTurned_X12) hown hK hP 0 rfl rfl 83 (by decide) (hts (.fieldLink RX12 625 "HeapWorksModel" "stop" "I") (by decide +kernel)) (fun _ h9 => h9) (ow_at o_Fs0 2 rfl) dX12_readTurned_1 ?_
  refine lv_if_gt (tgt := 17) hx hb dX12_readTurned_4 (by decide) (fun c2976 => absurd c2976 (by decide)) (fun c2976 => ?_)
  refine lv_aload_n hx hb dX12_readTurned_7 rfl (lv_at hl 0 rfl) ?_
  refine lv_ldc2 (v := 45) hx hb hown (hts (.constantLong RX12 719 (45)) (by decide +kernel)) dX12_readTurned_8 ?_
  have hPc := hP.sub (ws' := [(Ad0, .inr (15, Fs0))]) [0] rfl
  have hDc := hD.sub (ws' := [(Ad0, .inr (15, Fs0))]) [0] (by decide) rfl
  have hKc := hK.sub (tys' := []) [] rfl
  have hFc := va_free (wc := [(Ad0, .inr (15, Fs0))]) hD hS hA [0] rfl
  refine va_calli (va_runV (As := [.long 45]) (rest := []) ⟨hx, hb, hml, hown, hts⟩ (z_X12_isSign l dC dI s.heap.size Ad0 Fs0 (fh_sub o_Fs0.2 [0] rfl) ) (cwV 1 hts g_z_X12_readTurned_z_X12_isSign_657 rfl rfl rfl (by decide +kernel) ⟨Nat.le_of_ble_eq_true rfl, Nat.le_of_ble_eq_true rfl⟩) ⟨fun a U g mk q => by obtain ⟨q0, q1, qP, qK, qD⟩ := q; exact ⟨q0, q1, qP, va_K.moved (u := U) (U := U.calling g mk a) (Vm.Alike.refl U.vm) qK, qD⟩, va_recv hK hP (ci := 15) (q0 := 0) rfl rfl, fun U hU hW => ⟨rfl, by rw [hU], by rw [hU]; exact hPc, va_K.moved hW.alike hKc, hDc.weaken (fun _ _ _ _ => trivial)⟩⟩ rfl rfl hl.1 rfl (lv_room (Nat.le_of_ble_eq_true rfl)) dX12_readTurned_11 ⟨Nat.le_of_ble_eq_true rfl, Nat.le_of_ble_eq_true rfl⟩) hS (fun q _ h => hFc q h) hFc (fun r2978 u t H1 locs ht hvm hw hB hz1 hk1 hS => ?_)
  obtain ⟨hP1, hK1, hD1⟩ := hB
  rw [ht] at hP1
  try dsimp only at hw
  obtain ⟨hP, hD⟩ := va_join (wr := []) (w1 := [(Ad0, .inr (15, Fs0))]) hP hD [0] [] rfl rfl (by decide) (by decide) hk1 hFc hP1 hD1
  have hK := hK.sub (tys' := []) [] rfl
  generalize H1 = H at hP hS ⊢
  have hP : va_P (dC, dI) vwCl [(Ad0, .inr (15, Fs0))] H := hP
  have hD : va_D A [(Ad0, .inr (15, Fs0))] := hD
  have er2979 := hw
  subst er2979
  refine lv_if_ne (tgt := 22) hx hb dX12_readTurned_14 (by decide) (fun c2980 => absurd c2980 (by decide)) (fun c2980 => ?_)
  refine lv_aload_n hx hb dX12_readTurned_17 rfl (lv_at hl 0 rfl) ?_
  have hPc := hP.sub (ws' := [(Ad0, .inr (15, Fs0))]) [0] rfl
  have hDc := hD.sub (ws' := [(Ad0, .inr (15, Fs0))]) [0] (by decide) rfl
  have hKc := hK.sub (tys' := []) [] rfl
  have hFc := va_free (wc := [(Ad0, .inr (15, Fs0))]) hD hS hA [0] rfl
  refine va_calli (va_runV (As := []) (rest := []) ⟨hx, hb, hml, hown, hts⟩ (z_X12_readP l dC dI H.size Ad0 Fs0 (fh_sub o_Fs0.2 [0, 1, 2, 3] rfl) ) (cwV 0 hts g_z_X12_readTurned_z_X12_readP_730 rfl rfl rfl (by decide +kernel) ⟨Nat.le_of_ble_eq_true rfl, Nat.le_of_ble_eq_true rfl⟩) ⟨fun a U g mk q => by obtain ⟨q0, q1, qP, qK, qD⟩ := q; exact ⟨q0, q1, qP, va_K.moved (u := U) (U := U.calling g mk a) (Vm.Alike.refl U.vm) qK, qD⟩, va_recv hK hP (ci := 15) (q0 := 0) rfl rfl, fun U hU hW => ⟨rfl, by rw [hU], by rw [hU]; exact hPc, va_K.moved hW.alike hKc, hDc.weaken (fun _ _ _ _ => trivial)⟩⟩ rfl rfl hl.1 rfl (lv_room (Nat.le_of_ble_eq_true rfl)) dX12_readTurned_18 ⟨Nat.le_of_ble_eq_true rfl, Nat.le_of_ble_eq_true rfl⟩) hS (fun q _ h => hFc q h) hFc (fun r3012 u t H1 locs ht hvm hw hB hz1 hk1 hS => ?_)
  obtain ⟨s3013, rfl⟩ : ∃ z, z = u := ⟨_, rfl⟩
  obtain ⟨hP1, hK1, hD1⟩ := hB
  rw [ht] at hP1
  try dsimp only at hw
  obtain ⟨hP, hD⟩ := va_join (wr := []) (w1 := [(Ad0, .inr (15, s3013))]) hP hD [0] [] rfl rfl (by decide) (by decide) hk1 hFc hP1 hD1
  have hK := hK.sub (tys' := []) [] rfl
  generalize H1 = H at hP hS ⊢
  have hP : va_P (dC, dI) vwCl [(Ad0, .inr (15, s3013))] H := hP
  have hD : va_D A [(Ad0, .inr (15, s3013))] := hD
  obtain ⟨er3014, o_s3013⟩ := hw
  subst er3014
  have o_s3013 := ow_on o_Fs0 o_s3013 (l' := [(84, .int 0), (83, .int 1), (80, .int 0), (79, .int 0), (80, .int 0), (79, .int 0), (91, .int 120), (80, .int 0), (79, .int 0), (91, .int 120), (80, .int 0), (79, .int 0), (91, .int 120)]) (w' := [84, 83]) rfl rfl
  have hP9 := hP.sub (ws' := [(Ad0, .inr (15, s3013))]) [0] rfl
  have hD9 := hD.sub (ws' := [(Ad0, .inr (15, s3013))]) [0] (by decide) rfl
  have hK9 := hK.sub (tys' := []) [] rfl
  exact W.iret (v := 120) hx hb hr (fun t ht hW => ⟨⟨120, s3013, rfl, ⟨rfl, o_s3013⟩, by rw [ht]; exact hP9, va_K.moved hW.alike hK9, hD9⟩, hS.F ht⟩) hS.2.2 dX12_readTurned_21

def l_z_X12_readProduct : List Cond := [.methodLink RX12 721 yX12_readTurned, .instanceMethod yX12_readTurned, .selects RX12 yX12_readTurned yX12_readTurned, .initialized RX12, .fieldLink RX12 625 "HeapWorksModel" "stop" "I", .code yX12_readTurned cX12_readTurned 2 (some .int), .constantLong RX12 719 (45), .methodLink RX12 657 yX12_isSign, .instanceMethod yX12_isSign, .selects RX12 yX12_isSign yX12_isSign, .methodLink RX12 730 yX12_readP, .instanceMethod yX12_readP, .selects RX12 yX12_readP yX12_readP, .code yX12_isSign cX12_isSign 3 (some .boolean), .fieldLink RX12 644 "HeapWorksModel" "kind" "I", .code yX12_readP cX12_readP 4 (some .int), .methodLink RX12 733 yX12_readAtom, .instanceMethod yX12_readAtom, .selects RX12 yX12_readAtom yX12_readAtom, .code yX12_readAtom cX12_readAtom 5 (some .int), .methodLink RX12 751 yX12_keyAtHand, .instanceMethod yX12_keyAtHand, .selects RX12 yX12_keyAtHand yX12_keyAtHand, .constantLong RX12 754 (40), .methodLink RX12 710 yX12_isName, .instanceMethod yX12_isName, .selects RX12 yX12_isName yX12_isName, .methodLink RX12 664 yX12_wrong, .instanceMethod yX12_wrong, .selects RX12 yX12_wrong yX12_wrong, .fieldLink RX12 673 "HeapWorksModel" "nodeBase" "I", .code yX12_keyAtHand cX12_keyAtHand 1 (some .int), .code yX12_isName cX12_isName 1 (some .boolean), .code yX12_wrong cX12_wrong 1 none, .fieldLink RX12 637 "HeapWorksModel" "from0" "I", .methodLink RX12 653 yX12_fail, .instanceMethod yX12_fail, .selects RX12 yX12_fail yX12_fail, .code yX12_fail cX12_fail 3 none, .fieldLink RX12 628 "HeapWorksModel" "stopAt" "I"]
def w_z_X12_readProduct : List Cond := .code yX12_readProduct cX12_readProduct 3 (some .int) :: (l_z_X12_readProduct ++ (wsX120))
theorem in_z_X12_readProduct_X12 : ∀ w ∈ wsX120, w ∈ w_z_X12_readProduct := fun w h => List.mem_cons_of_mem _ (List.mem_append_right _ (h))
theorem g_z_X12_readProduct_z_X12_readTurned_721 : GoodIn w_z_X12_readProduct (wsV RX12 721 RX12 yX12_readTurned w_z_X12_readTurned) := goodIn_app (goodIn_sub (by decide +kernel) (by decide +kernel)) (goodIn_ca (goodIn_sub (by decide +kernel) (by decide +kernel)) (goodIn_in in_z_X12_readProduct_X12 gd_X12))
set_option maxHeartbeats 4000000 in
set_option maxRecDepth 100000 in
theorem z_X12_readProduct (l : Launch) (dC : Nat → ClassId) (dI : Nat → Nat → Nat) (sz : Nat) (Ad0 : Nat) (Fs0 : List Value) (k_Fs0 : fh Fs0 150 [(80, .int 0), (79, .int 0), (83, .int 0), (91, .int 120)])  : Met l yX12_readProduct w_z_X12_readProduct ({ frames := 5, cells := 0, slots := 0, locals := 110 }) (va_Pc [.ref Ad0] (fun U => U.heap.size = sz ∧ Wd dC dI [] (fun _ => True) [(Ad0, .inr (15, Fs0))] U)) (va_Qi (fun (r : Int32) (u : List Value) => (r = 120 ∧ ow Fs0 (u) 150 [84, 83] [(84, .int 0), (83, .int 1), (80, .int 0), (79, .int 0), (80, .int 0), (79, .int 0), (91, .int 120), (80, .int 0), (79, .int 0), (91, .int 120), (80, .int 0), (79, .int 0), (91, .int 120), (80, .int 0), (79, .int 0), (91, .int 120)])) (fun (u : List Value) t => Wd dC dI [] (va_A [(Ad0, .inr (15, Fs0))] sz) [(Ad0, .inr (15, (u)))] t) (va_A [(Ad0, .inr (15, Fs0))] sz))  0 0 (va_A [(Ad0, .inr (15, Fs0))] sz) := by
  refine Met.ofW (cc := cX12_readProduct) (maxL := 3) (ret := (some .int)) (by decide) rfl ?_
  intro p e s m args below meth c s₁ B hml hv
  obtain ⟨rfl, hsz, hP, hK, hD0⟩ := hv
  have hx := B.exec
  have hb := B.bytes
  have hr := B.returns
  have hts := atoms_spec (ws := w_z_X12_readProduct) B.pre
  have hown : s.vm.findClass RX12 = some m.cls := findClass_of_methodNamed B.named
  have hlocks := B.notSynchronized
  subst hsz
  have hD := hD0.self (sz := s.heap.size)
  generalize hAe : va_A [(Ad0, .inr (15, Fs0))] s.heap.size = A at hD ⊢
  have hA : ∀ q : Nat, s.heap.size ≤ q → A q := fun q h => by rw [← hAe]; exact Or.inr h
  have hS : va_S A s.heap s.heap [] := va_S.rf
  have hl := lv_entry ([.ref Ad0]) (n := 3) (Nat.le_of_ble_eq_true rfl)
  rw [lg_entry_eq]
  generalize (lg_sl ([.ref Ad0]) ++ List.replicate (3 - (lg_sl ([.ref Ad0])).length) Slot.unset).toArray = ls at hl ⊢
  have hl : lv_has ls 3 [(0, .ref Ad0)] := hl
  have o_Fs0 := ow_0 k_Fs0
  refine lv_aload_n hx hb dX12_readProduct_0 rfl (lv_at hl 0 rfl) ?_
  have hPc := hP.sub (ws' := [(Ad0, .inr (15, Fs0))]) [0] rfl
  have hDc := hD.sub (ws' := [(Ad0, .inr (15, Fs0))]) [0] (by decide) rfl
  have hKc := hK.sub (tys' := []) [] rfl
  have hFc := va_free (wc := [(Ad0, .inr (15, Fs0))]) hD hS hA [0] rfl
  refine va_calli (va_runV (As := []) (rest := []) ⟨hx, hb, hml, hown, hts⟩ (z_X12_readTurned l dC dI s.heap.size Ad0 Fs0 (fh_sub o_Fs0.2 [0, 1, 2, 3] rfl) ) (cwV 0 hts g_z_X12_readProduct_z_X12_readTurned_721 rfl rfl rfl (by decide +kernel) ⟨Nat.le_of_ble_eq_true rfl, Nat.le_of_ble_eq_true rfl⟩) ⟨fun a U g mk q => by obtain ⟨q0, q1, qP, qK, qD⟩ := q; exact ⟨q0, q1, qP, va_K.moved (u := U) (U := U.calling g mk a) (Vm.Alike.refl U.vm) qK, qD⟩, va_recv hK hP (ci := 15) (q0 := 0) rfl rfl, fun U hU hW => ⟨rfl, by rw [hU], by rw [hU]; exact hPc, va_K.moved hW.alike hKc, hDc.weaken (fun _ _ _ _ => trivial)⟩⟩ rfl rfl hl.1 rfl (lv_room (Nat.le_of_ble_eq_true rfl)) dX12_readProduct_1 ⟨Nat.le_of_ble_eq_true rfl, Nat.le_of_ble_eq_true rfl⟩) hS (fun q _ h => hFc q h) hFc (fun r3058 u t H1 locs ht hvm hw hB hz1 hk1 hS => ?_)
  obtain ⟨s3059, rfl⟩ : ∃ z, z = u := ⟨_, rfl⟩
  obtain ⟨hP1, hK1, hD1⟩ := hB
  rw [ht] at hP1
  try dsimp only at hw
  obtain ⟨hP, hD⟩ := va_join (wr := []) (w1 := [(Ad0, .inr (15, s3059))]) hP hD [0] [] rfl rfl (by decide) (by decide) hk1 hFc hP1 hD1
  have hK := hK.sub (tys' := []) [] rfl
  generalize H1 = H at hP hS ⊢
  have hP : va_P (dC, dI) vwCl [(Ad0, .inr (15, s3059))] H := hP
  have hD : va_D A [(Ad0, .inr (15, s3059))] := hD
  obtain ⟨er3060, o_s3059⟩ := hw
  subst er3060
  have o_s3059 := ow_on o_Fs0 o_s3059 (l' := [(84, .int 0), (83, .int 1), (80, .int 0), (79, .int 0), (80, .int 0), (79, .int 0), (91, .int 120), (80, .int 0), (79, .int 0), (91, .int 120), (80, .int 0), (79, .int 0), (91, .int 120), (80, .int 0), (79, .int 0), (91, .int 120)]) (w' := [84, 83]) rfl rfl
  refine lv_istore_n (lv' := [(1, .int 120), (0, .ref Ad0)]) hx hb dX12_readProduct_4 rfl hl (by decide) rfl (fun ls hl => ?_)
  refine lv_aload_n hx hb dX12_readProduct_5 rfl (lv_at hl 1 rfl) ?_
  refine va_get (D := (dC, dI)) (ci := 15) (v := .int 1) (C := RX12) (T := TX12) (N := 150) hx hb hts (in_z_X12_readProduct_X12) hown hK hP 0 rfl rfl 83 (by decide) (hts (.fieldLink RX12 625 "HeapWorksModel" "stop" "I") (by decide +kernel)) (fun _ h9 => h9) (ow_at o_s3059 1 rfl) dX12_readProduct_6 ?_
  refine lv_if_ne (tgt := 105) hx hb dX12_readProduct_9 (by decide) (fun c3061 => ?_) (fun c3061 => absurd c3061 (by decide))
  refine lv_iload_n hx hb dX12_readProduct_105 rfl (lv_at hl 0 rfl) ?_
  have hP9 := hP.sub (ws' := [(Ad0, .inr (15, s3059))]) [0] rfl
  have hD9 := hD.sub (ws' := [(Ad0, .inr (15, s3059))]) [0] (by decide) rfl
  have hK9 := hK.sub (tys' := []) [] rfl
  exact W.iret (v := 120) hx hb hr (fun t ht hW => ⟨⟨120, s3059, rfl, ⟨rfl, o_s3059⟩, by rw [ht]; exact hP9, va_K.moved hW.alike hK9, hD9⟩, hS.F ht⟩) hS.2.2 dX12_readProduct_106
