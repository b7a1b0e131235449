def l_z_X0_encode : List Cond := [.fieldLink RX0 35 "HeapWorks$Archive" "filled" "I", .methodLink RX0 39 yX0_put, .instanceMethod yX0_put, .selects RX0 yX0_put yX0_put, .initialized RX0, .fieldLink RX0 43 "HeapWorks$Picture" "things" "I", .methodLink RX0 46 yX0_putNumber, .instanceMethod yX0_putNumber, .selects RX0 yX0_putNumber yX0_putNumber, .fieldLink RX0 70 "HeapWorks$Picture" "roots" "I", .fieldLink RX0 19 "HeapWorks$Archive" "buffer" "[I", .methodLink RX0 79 Lib.Math.min.name, .static Lib.Math.min.name, .initialized "java/lang/Math", .code Lib.Math.min.name Lib.Math.min.code 2 (some .int), .methodLink RX0 85 yX0_checkOf, .static yX0_checkOf, .code yX0_put cX0_put 2 none, .code yX0_putNumber cX0_putNumber 6 none, .code yX0_checkOf cX0_checkOf 5 (some .int), .constant RX0 91 (16777619)]
def w_z_X0_encode : List Cond := .code yX0_encode cX0_encode 6 (some .int) :: (l_z_X0_encode ++ ((wsX00 ++ wsX50)))
theorem in_z_X0_encode_X0 : ∀ w ∈ wsX00, w ∈ w_z_X0_encode := fun w h => List.mem_cons_of_mem _ (List.mem_append_right _ (List.mem_append_left _ h))
theorem in_z_X0_encode_X5 : ∀ w ∈ wsX50, w ∈ w_z_X0_encode := fun w h => List.mem_cons_of_mem _ (List.mem_append_right _ (List.mem_append_right _ (h)))
theorem g_z_X0_encode_z_X0_put_39 : GoodIn w_z_X0_encode (wsV RX0 39 RX0 yX0_put w_z_X0_put) := goodIn_app (goodIn_r (([.methodLink RX0 39 yX0_put, .instanceMethod yX0_put, .selects RX0 yX0_put yX0_put, .initialized RX0] : List Cond)) [2, 3, 4, 5] rfl (by decide +kernel)) (goodIn_ca (goodIn_r (.code yX0_put cX0_put 2 none :: l_z_X0_put) [18, 1, 11] rfl (by decide +kernel)) (goodIn_in (in_z_X0_encode_X0) gd_X0))
theorem g_z_X0_encode_z_X0_put_1_39 : GoodIn w_z_X0_encode (wsV RX0 39 RX0 yX0_put w_z_X0_put_1) := goodIn_app (goodIn_r (([.methodLink RX0 39 yX0_put, .instanceMethod yX0_put, .selects RX0 yX0_put yX0_put, .initialized RX0] : List Cond)) [2, 3, 4, 5] rfl (by decide +kernel)) (goodIn_ca (goodIn_r (.code yX0_put cX0_put 2 none :: l_z_X0_put_1) [18, 1, 11] rfl (by decide +kernel)) (goodIn_in (in_z_X0_encode_X0) gd_X0))
theorem g_z_X0_encode_z_X0_putNumber_46 : GoodIn w_z_X0_encode (wsV RX0 46 RX0 yX0_putNumber w_z_X0_putNumber) := goodIn_app (goodIn_r (([.methodLink RX0 46 yX0_putNumber, .instanceMethod yX0_putNumber, .selects RX0 yX0_putNumber yX0_putNumber, .initialized RX0] : List Cond)) [7, 8, 9, 5] rfl (by decide +kernel)) (goodIn_ca (goodIn_r (.code yX0_putNumber cX0_putNumber 6 none :: l_z_X0_putNumber) [19, 2, 3, 4, 5, 18, 1, 11] rfl (by decide +kernel)) (goodIn_in (in_z_X0_encode_X0) gd_X0))
theorem g_z_X0_encode_z_X0_putNumber_1_46 : GoodIn w_z_X0_encode (wsV RX0 46 RX0 yX0_putNumber w_z_X0_putNumber_1) := goodIn_app (goodIn_r (([.methodLink RX0 46 yX0_putNumber, .instanceMethod yX0_putNumber, .selects RX0 yX0_putNumber yX0_putNumber, .initialized RX0] : List Cond)) [7, 8, 9, 5] rfl (by decide +kernel)) (goodIn_ca (goodIn_r (.code yX0_putNumber cX0_putNumber 6 none :: l_z_X0_putNumber_1) [19, 2, 3, 4, 5, 18, 1, 11] rfl (by decide +kernel)) (goodIn_in (in_z_X0_encode_X0) gd_X0))
theorem g_z_X0_encode_z_X0_checkOf_85 : GoodIn w_z_X0_encode (wsS RX0 85 yX0_checkOf w_z_X0_checkOf) := goodIn_app (goodIn_r (([.methodLink RX0 85 yX0_checkOf, .static yX0_checkOf, .initialized RX0] : List Cond)) [16, 17, 5] rfl (by decide +kernel)) (goodIn_r (.code yX0_checkOf cX0_checkOf 5 (some .int) :: l_z_X0_checkOf) [20, 21] rfl (by decide +kernel))
theorem g_z_X0_encode_z_X0_put_4_39 : GoodIn w_z_X0_encode (wsV RX0 39 RX0 yX0_put w_z_X0_put_4) := goodIn_app (goodIn_r (([.methodLink RX0 39 yX0_put, .instanceMethod yX0_put, .selects RX0 yX0_put yX0_put, .initialized RX0] : List Cond)) [2, 3, 4, 5] rfl (by decide +kernel)) (goodIn_ca (goodIn_r (.code yX0_put cX0_put 2 none :: l_z_X0_put_4) [18, 1, 11] rfl (by decide +kernel)) (goodIn_in (in_z_X0_encode_X0) gd_X0))
theorem g_z_X0_encode_z_X0_put_5_39 : GoodIn w_z_X0_encode (wsV RX0 39 RX0 yX0_put w_z_X0_put_5) := goodIn_app (goodIn_r (([.methodLink RX0 39 yX0_put, .instanceMethod yX0_put, .selects RX0 yX0_put yX0_put, .initialized RX0] : List Cond)) [2, 3, 4, 5] rfl (by decide +kernel)) (goodIn_ca (goodIn_r (.code yX0_put cX0_put 2 none :: l_z_X0_put_5) [18, 1, 11] rfl (by decide +kernel)) (goodIn_in (in_z_X0_encode_X0) gd_X0))
theorem g_z_X0_encode_z_X0_put_6_39 : GoodIn w_z_X0_encode (wsV RX0 39 RX0 yX0_put w_z_X0_put_6) := goodIn_app (goodIn_r (([.methodLink RX0 39 yX0_put, .instanceMethod yX0_put, .selects RX0 yX0_put yX0_put, .initialized RX0] : List Cond)) [2, 3, 4, 5] rfl (by decide +kernel)) (goodIn_ca (goodIn_r (.code yX0_put cX0_put 2 none :: l_z_X0_put_6) [18, 1, 11] rfl (by decide +kernel)) (goodIn_in (in_z_X0_encode_X0) gd_X0))
theorem g_z_X0_encode_z_X0_put_7_39 : GoodIn w_z_X0_encode (wsV RX0 39 RX0 yX0_put w_z_X0_put_7) := goodIn_app (goodIn_r (([.methodLink RX0 39 yX0_put, .instanceMethod yX0_put, .selects RX0 yX0_put yX0_put, .initialized RX0] : List Cond)) [2, 3, 4, 5] rfl (by decide +kernel)) (goodIn_ca (goodIn_r (.code yX0_put cX0_put 2 none :: l_z_X0_put_7) [18, 1, 11] rfl (by decide +kernel)) (goodIn_in (in_z_X0_encode_X0) gd_X0))
set_option maxHeartbeats 4000000 in
set_option maxRecDepth 100000 in
theorem z_X0_encode (l : Launch) (dC : Nat → ClassId) (dI : Nat → Nat → Nat) (sz : Nat) (Ad0 : Nat) (Fs0 : List Value) (Ad1 : Nat) (Fs1 : List Value) (Ad2 : Nat) (Fa0 : Nat → Int32) (Ka0 : ClassId) (k_Fs0 : fh Fs0 21 [(0, .int 0), (11, .int 0)]) (k_Fs1 : fh Fs1 15 [(1, .ref Ad2)])  : Met l yX0_encode w_z_X0_encode ({ frames := 2, cells := 0, slots := 0, locals := 46 }) (va_Pc [.ref Ad1, .ref Ad0] (fun U => U.heap.size = sz ∧ Wd dC dI [(Ka0, .int)] (fun _ => True) [(Ad0, .inr (8, Fs0)), (Ad1, .inr (3, Fs1)), (Ad2, .inl (Ka0, 4000, .inl Fa0))] U)) (va_Qi (fun (r : Int32) (u : List Value × (Nat → Int32)) => (r = 8 ∧ ow Fs1 (u.1) 15 [2] (([(2, .int 8), (1, .ref Ad2), (1, .ref Ad2), (1, .ref Ad2), (1, .ref Ad2), (1, .ref Ad2), (1, .ref Ad2), (1, .ref Ad2), (1, .ref Ad2), (1, .ref Ad2), (1, .ref Ad2), (1, .ref Ad2), (1, .ref Ad2), (1, .ref Ad2), (1, .ref Ad2), (1, .ref Ad2)] : List (Nat × Value)) ++ (([(1, .ref Ad2), (1, .ref Ad2), (1, .ref Ad2), (1, .ref Ad2), (1, .ref Ad2), (1, .ref Ad2), (1, .ref Ad2), (1, .ref Ad2), (1, .ref Ad2), (1, .ref Ad2), (1, .ref Ad2), (1, .ref Ad2), (1, .ref Ad2), (1, .ref Ad2), (1, .ref Ad2), (1, .ref Ad2)] : List (Nat × Value)) ++ (([(1, .ref Ad2), (1, .ref Ad2), (1, .ref Ad2), (1, .ref Ad2), (1, .ref Ad2), (1, .ref Ad2), (1, .ref Ad2), (1, .ref Ad2), (1, .ref Ad2), (1, .ref Ad2), (1, .ref Ad2), (1, .ref Ad2), (1, .ref Ad2), (1, .ref Ad2), (1, .ref Ad2), (1, .ref Ad2)] : List (Nat × Value)) ++ (([(1, .ref Ad2), (1, .ref Ad2), (1, .ref Ad2), (1, .ref Ad2), (1, .ref Ad2), (1, .ref Ad2), (1, .ref Ad2), (1, .ref Ad2), (1, .ref Ad2), (1, .ref Ad2), (1, .ref Ad2), (1, .ref Ad2), (1, .ref Ad2), (1, .ref Ad2), (1, .ref Ad2), (1, .ref Ad2)] : List (Nat × Value)) ++ (([(1, .ref Ad2), (1, .ref Ad2), (1, .ref Ad2), (1, .ref Ad2), (1, .ref Ad2), (1, .ref Ad2), (1, .ref Ad2), (1, .ref Ad2), (1, .ref Ad2), (1, .ref Ad2), (1, .ref Ad2), (1, .ref Ad2), (1, .ref Ad2), (1, .ref Ad2), (1, .ref Ad2), (1, .ref Ad2)] : List (Nat × Value)) ++ (([(1, .ref Ad2), (1, .ref Ad2), (1, .ref Ad2), (1, .ref Ad2), (1, .ref Ad2), (1, .ref Ad2), (1, .ref Ad2), (1, .ref Ad2), (1, .ref Ad2), (1, .ref Ad2), (1, .ref Ad2), (1, .ref Ad2), (1, .ref Ad2), (1, .ref Ad2), (1, .ref Ad2), (1, .ref Ad2)] : List (Nat × Value)) ++ (([(1, .ref Ad2), (1, .ref Ad2), (1, .ref Ad2), (1, .ref Ad2), (1, .ref Ad2), (1, .ref Ad2), (1, .ref Ad2), (1, .ref Ad2), (1, .ref Ad2), (1, .ref Ad2), (1, .ref Ad2), (1, .ref Ad2), (1, .ref Ad2), (1, .ref Ad2), (1, .ref Ad2), (1, .ref Ad2)] : List (Nat × Value)) ++ (([(1, .ref Ad2), (1, .ref Ad2), (1, .ref Ad2), (1, .ref Ad2), (1, .ref Ad2), (1, .ref Ad2), (1, .ref Ad2), (1, .ref Ad2), (1, .ref Ad2), (1, .ref Ad2), (1, .ref Ad2), (1, .ref Ad2), (1, .ref Ad2), (1, .ref Ad2), (1, .ref Ad2), (1, .ref Ad2)] : List (Nat × Value)) ++ (([(1, .ref Ad2), (1, .ref Ad2), (1, .ref Ad2), (1, .ref Ad2), (1, .ref Ad2), (1, .ref Ad2), (1, .ref Ad2), (1, .ref Ad2), (1, .ref Ad2), (1, .ref Ad2), (1, .ref Ad2), (1, .ref Ad2), (1, .ref Ad2), (1, .ref Ad2), (1, .ref Ad2), (1, .ref Ad2)] : List (Nat × Value)) ++ (([(1, .ref Ad2), (1, .ref Ad2), (1, .ref Ad2), (1, .ref Ad2), (1, .ref Ad2), (1, .ref Ad2), (1, .ref Ad2), (1, .ref Ad2), (1, .ref Ad2), (1, .ref Ad2), (1, .ref Ad2), (1, .ref Ad2), (1, .ref Ad2), (1, .ref Ad2), (1, .ref Ad2), (1, .ref Ad2)] : List (Nat × Value)) ++ (([(1, .ref Ad2), (1, .ref Ad2), (1, .ref Ad2), (1, .ref Ad2), (1, .ref Ad2), (1, .ref Ad2), (1, .ref Ad2), (1, .ref Ad2), (1, .ref Ad2), (1, .ref Ad2), (1, .ref Ad2), (1, .ref Ad2), (1, .ref Ad2), (1, .ref Ad2), (1, .ref Ad2), (1, .ref Ad2)] : List (Nat × Value)) ++ (([(1, .ref Ad2), (1, .ref Ad2), (1, .ref Ad2), (1, .ref Ad2), (1, .ref Ad2), (1, .ref Ad2), (1, .ref Ad2), (1, .ref Ad2), (1, .ref Ad2), (1, .ref Ad2), (1, .ref Ad2), (1, .ref Ad2), (1, .ref Ad2), (1, .ref Ad2), (1, .ref Ad2), (1, .ref Ad2)] : List (Nat × Value)) ++ (([(1, .ref Ad2), (1, .ref Ad2), (1, .ref Ad2), (1, .ref Ad2), (1, .ref Ad2), (1, .ref Ad2), (1, .ref Ad2), (1, .ref Ad2), (1, .ref Ad2), (1, .ref Ad2), (1, .ref Ad2), (1, .ref Ad2), (1, .ref Ad2), (1, .ref Ad2), (1, .ref Ad2), (1, .ref Ad2)] : List (Nat × Value)) ++ (([(1, .ref Ad2), (1, .ref Ad2), (1, .ref Ad2), (1, .ref Ad2), (1, .ref Ad2), (1, .ref Ad2), (1, .ref Ad2), (1, .ref Ad2), (1, .ref Ad2), (1, .ref Ad2), (1, .ref Ad2), (1, .ref Ad2), (1, .ref Ad2), (1, .ref Ad2), (1, .ref Ad2), (1, .ref Ad2)] : List (Nat × Value)) ++ (([(1, .ref Ad2), (1, .ref Ad2), (1, .ref Ad2), (1, .ref Ad2), (1, .ref Ad2), (1, .ref Ad2), (1, .ref Ad2), (1, .ref Ad2), (1, .ref Ad2), (1, .ref Ad2), (1, .ref Ad2), (1, .ref Ad2), (1, .ref Ad2), (1, .ref Ad2), (1, .ref Ad2), (1, .ref Ad2)] : List (Nat × Value)) ++ (([(1, .ref Ad2), (1, .ref Ad2), (1, .ref Ad2), (1, .ref Ad2), (1, .ref Ad2), (1, .ref Ad2), (1, .ref Ad2), (1, .ref Ad2), (1, .ref Ad2), (1, .ref Ad2), (1, .ref Ad2), (1, .ref Ad2), (1, .ref Ad2), (1, .ref Ad2), (1, .ref Ad2), (1, .ref Ad2)] : List (Nat × Value)) ++ (([(1, .ref Ad2), (1, .ref Ad2), (1, .ref Ad2), (1, .ref Ad2), (1, .ref Ad2), (1, .ref Ad2), (1, .ref Ad2), (1, .ref Ad2), (1, .ref Ad2), (1, .ref Ad2), (1, .ref Ad2), (1, .ref Ad2), (1, .ref Ad2), (1, .ref Ad2), (1, .ref Ad2), (1, .ref Ad2)] : List (Nat × Value)) ++ (([(1, .ref Ad2), (1, .ref Ad2), (1, .ref Ad2), (1, .ref Ad2), (1, .ref Ad2), (1, .ref Ad2), (1, .ref Ad2), (1, .ref Ad2), (1, .ref Ad2), (1, .ref Ad2), (1, .ref Ad2), (1, .ref Ad2), (1, .ref Ad2), (1, .ref Ad2), (1, .ref Ad2), (1, .ref Ad2)] : List (Nat × Value)) ++ (([(1, .ref Ad2), (1, .ref Ad2), (1, .ref Ad2), (1, .ref Ad2), (1, .ref Ad2), (1, .ref Ad2), (1, .ref Ad2), (1, .ref Ad2), (1, .ref Ad2), (1, .ref Ad2), (1, .ref Ad2), (1, .ref Ad2), (1, .ref Ad2), (1, .ref Ad2), (1, .ref Ad2), (1, .ref Ad2)] : List (Nat × Value)) ++ (([(1, .ref Ad2), (1, .ref Ad2), (1, .ref Ad2), (1, .ref Ad2), (1, .ref Ad2), (1, .ref Ad2), (1, .ref Ad2), (1, .ref Ad2), (1, .ref Ad2), (1, .ref Ad2), (1, .ref Ad2), (1, .ref Ad2), (1, .ref Ad2), (1, .ref Ad2), (1, .ref Ad2), (1, .ref Ad2)] : List (Nat × Value)) ++ (([(1, .ref Ad2), (1, .ref Ad2), (1, .ref Ad2), (1, .ref Ad2), (1, .ref Ad2), (1, .ref Ad2), (1, .ref Ad2), (1, .ref Ad2), (1, .ref Ad2), (1, .ref Ad2), (1, .ref Ad2), (1, .ref Ad2), (1, .ref Ad2), (1, .ref Ad2), (1, .ref Ad2), (1, .ref Ad2)] : List (Nat × Value)) ++ (([(1, .ref Ad2), (1, .ref Ad2), (1, .ref Ad2), (1, .ref Ad2), (1, .ref Ad2), (1, .ref Ad2), (1, .ref Ad2), (1, .ref Ad2), (1, .ref Ad2), (1, .ref Ad2), (1, .ref Ad2), (1, .ref Ad2), (1, .ref Ad2), (1, .ref Ad2), (1, .ref Ad2), (1, .ref Ad2)] : List (Nat × Value)) ++ (([(1, .ref Ad2), (1, .ref Ad2), (1, .ref Ad2), (1, .ref Ad2), (1, .ref Ad2), (1, .ref Ad2), (1, .ref Ad2), (1, .ref Ad2), (1, .ref Ad2), (1, .ref Ad2), (1, .ref Ad2), (1, .ref Ad2), (1, .ref Ad2), (1, .ref Ad2), (1, .ref Ad2), (1, .ref Ad2)] : List (Nat × Value)) ++ (([(1, .ref Ad2), (1, .ref Ad2), (1, .ref Ad2), (1, .ref Ad2), (1, .ref Ad2), (1, .ref Ad2), (1, .ref Ad2), (1, .ref Ad2), (1, .ref Ad2), (1, .ref Ad2), (1, .ref Ad2), (1, .ref Ad2), (1, .ref Ad2), (1, .ref Ad2), (1, .ref Ad2), (1, .ref Ad2)] : List (Nat × Value)) ++ (([(1, .ref Ad2), (1, .ref Ad2), (1, .ref Ad2), (1, .ref Ad2), (1, .ref Ad2), (1, .ref Ad2), (1, .ref Ad2), (1, .ref Ad2), (1, .ref Ad2), (1, .ref Ad2), (1, .ref Ad2), (1, .ref Ad2), (1, .ref Ad2), (1, .ref Ad2), (1, .ref Ad2), (1, .ref Ad2)] : List (Nat × Value)) ++ (([(1, .ref Ad2), (1, .ref Ad2), (1, .ref Ad2), (1, .ref Ad2), (1, .ref Ad2), (1, .ref Ad2), (1, .ref Ad2), (1, .ref Ad2), (1, .ref Ad2), (1, .ref Ad2), (1, .ref Ad2), (1, .ref Ad2), (1, .ref Ad2), (1, .ref Ad2), (1, .ref Ad2), (1, .ref Ad2)] : List (Nat × Value)) ++ (([(1, .ref Ad2), (1, .ref Ad2), (1, .ref Ad2), (1, .ref Ad2), (1, .ref Ad2), (1, .ref Ad2), (1, .ref Ad2), (1, .ref Ad2), (1, .ref Ad2), (1, .ref Ad2), (1, .ref Ad2), (1, .ref Ad2), (1, .ref Ad2), (1, .ref Ad2), (1, .ref Ad2), (1, .ref Ad2)] : List (Nat × Value)) ++ (([(1, .ref Ad2), (1, .ref Ad2), (1, .ref Ad2), (1, .ref Ad2), (1, .ref Ad2), (1, .ref Ad2), (1, .ref Ad2), (1, .ref Ad2), (1, .ref Ad2), (1, .ref Ad2), (1, .ref Ad2), (1, .ref Ad2), (1, .ref Ad2), (1, .ref Ad2), (1, .ref Ad2), (1, .ref Ad2)] : List (Nat × Value)) ++ (([(1, .ref Ad2), (1, .ref Ad2), (1, .ref Ad2), (1, .ref Ad2), (1, .ref Ad2), (1, .ref Ad2), (1, .ref Ad2), (1, .ref Ad2), (1, .ref Ad2), (1, .ref Ad2), (1, .ref Ad2), (1, .ref Ad2), (1, .ref Ad2), (1, .ref Ad2), (1, .ref Ad2), (1, .ref Ad2)] : List (Nat × Value)) ++ (([(1, .ref Ad2), (1, .ref Ad2), (1, .ref Ad2), (1, .ref Ad2), (1, .ref Ad2), (1, .ref Ad2), (1, .ref Ad2), (1, .ref Ad2), (1, .ref Ad2), (1, .ref Ad2), (1, .ref Ad2), (1, .ref Ad2), (1, .ref Ad2), (1, .ref Ad2), (1, .ref Ad2), (1, .ref Ad2)] : List (Nat × Value)) ++ (([(1, .ref Ad2), (1, .ref Ad2), (1, .ref Ad2), (1, .ref Ad2), (1, .ref Ad2), (1, .ref Ad2), (1, .ref Ad2), (1, .ref Ad2), (1, .ref Ad2), (1, .ref Ad2), (1, .ref Ad2), (1, .ref Ad2), (1, .ref Ad2), (1, .ref Ad2), (1, .ref Ad2), (1, .ref Ad2)] : List (Nat × Value)) ++ (([(1, .ref Ad2), (1, .ref Ad2), (1, .ref Ad2), (1, .ref Ad2), (1, .ref Ad2), (1, .ref Ad2), (1, .ref Ad2), (1, .ref Ad2), (1, .ref Ad2), (1, .ref Ad2), (1, .ref Ad2), (1, .ref Ad2), (1, .ref Ad2), (1, .ref Ad2), (1, .ref Ad2), (1, .ref Ad2)] : List (Nat × Value)) ++ (([(1, .ref Ad2), (1, .ref Ad2), (1, .ref Ad2), (1, .ref Ad2), (1, .ref Ad2), (1, .ref Ad2), (1, .ref Ad2), (1, .ref Ad2), (1, .ref Ad2), (1, .ref Ad2), (1, .ref Ad2), (1, .ref Ad2), (1, .ref Ad2), (1, .ref Ad2), (1, .ref Ad2), (1, .ref Ad2)] : List (Nat × Value)) ++ (([(1, .ref Ad2), (1, .ref Ad2), (1, .ref Ad2), (1, .ref Ad2), (1, .ref Ad2), (1, .ref Ad2), (1, .ref Ad2), (1, .ref Ad2), (1, .ref Ad2), (1, .ref Ad2), (1, .ref Ad2), (1, .ref Ad2), (1, .ref Ad2), (1, .ref Ad2), (1, .ref Ad2), (1, .ref Ad2)] : List (Nat × Value)) ++ (([(1, .ref Ad2), (1, .ref Ad2), (1, .ref Ad2), (1, .ref Ad2), (1, .ref Ad2), (1, .ref Ad2), (1, .ref Ad2), (1, .ref Ad2), (1, .ref Ad2), (1, .ref Ad2), (1, .ref Ad2), (1, .ref Ad2), (1, .ref Ad2), (1, .ref Ad2), (1, .ref Ad2), (1, .ref Ad2)] : List (Nat × Value)) ++ (([(1, .ref Ad2), (1, .ref Ad2), (1, .ref Ad2), (1, .ref Ad2), (1, .ref Ad2), (1, .ref Ad2), (1, .ref Ad2), (1, .ref Ad2), (1, .ref Ad2), (1, .ref Ad2), (1, .ref Ad2), (1, .ref Ad2), (1, .ref Ad2), (1, .ref Ad2), (1, .ref Ad2), (1, .ref Ad2)] : List (Nat × Value)) ++ (([(1, .ref Ad2)] : List (Nat × Value))))))))))))))))))))))))))))))))))))))))) (fun (u : List Value × (Nat → Int32)) t => Wd dC dI [(Ka0, .int)] (va_A [(Ad0, .inr (8, Fs0)), (Ad1, .inr (3, Fs1)), (Ad2, .inl (Ka0, 4000, .inl Fa0))] sz) [(Ad0, .inr (8, Fs0)), (Ad1, .inr (3, (u.1))), (Ad2, .inl (Ka0, 4000, .inl ((u.2))))] t) (va_A [(Ad0, .inr (8, Fs0)), (Ad1, .inr (3, Fs1)), (Ad2, .inl (Ka0, 4000, .inl Fa0))] sz))  0 0 (va_A [(Ad0, .inr (8, Fs0)), (Ad1, .inr (3, Fs1)), (Ad2, .inl (Ka0, 4000, .inl Fa0))] sz) := by
  refine Met.ofW (cc := cX0_encode) (maxL := 6) (ret := (some .int)) (by decide) rfl ?_
  intro p e s m args below meth c s₁ B hml hv
  obtain ⟨rfl, hsz, hP, hK, hD0⟩ := hv
  have hx := B.exec
  have hb := B.bytes
  have hr := B.returns
  have hts := atoms_spec (ws := w_z_X0_encode) B.pre
  have hown : s.vm.findClass RX0 = some m.cls := findClass_of_methodNamed B.named
  have hlocks := B.notSynchronized
  subst hsz
  have hD := hD0.self (sz := s.heap.size)
  generalize hAe : va_A [(Ad0, .inr (8, Fs0)), (Ad1, .inr (3, Fs1)), (Ad2, .inl (Ka0, 4000, .inl Fa0))] s.heap.size = A at hD ⊢
  have hA : ∀ q : Nat, s.heap.size ≤ q → A q := fun q h => by rw [← hAe]; exact Or.inr h
  have hS : va_S A s.heap s.heap [] := va_S.rf
  have hl := lv_entry ([.ref Ad1, .ref Ad0]) (n := 6) (Nat.le_of_ble_eq_true rfl)
  rw [lg_entry_eq]
  generalize (lg_sl ([.ref Ad1, .ref Ad0]) ++ List.replicate (6 - (lg_sl ([.ref Ad1, .ref Ad0])).length) Slot.unset).toArray = ls at hl ⊢
  have hl : lv_has ls 6 [(0, .ref Ad1), (1, .ref Ad0)] := hl
  have o_Fs0 := ow_0 k_Fs0
  have o_Fs1 := ow_0 k_Fs1
  refine lv_aload_n hx hb dX0_encode_0 rfl (lv_at hl 0 rfl) ?_
  refine lv_iconst (v := 0) hx hb dX0_encode_1 (by decide) ?_
  refine va_put (D := (dC, dI)) (ci := 3) (v := .int 0) (ty := .int) (C := RX0) (T := TX0) (N := 15) hx hb hts (in_z_X0_encode_X0) tyX0 tyX0_ok nmX0 hown hK hP hD hS 1 rfl rfl 2 (by decide) (hts (.fieldLink RX0 35 "HeapWorks$Archive" "filled" "I") (by decide +kernel)) (fun _ h9 => h9) rfl (by decide +kernel) rfl rfl (by rw [o_Fs1.2.1]; decide) dX0_encode_2 (fun H locs hP hD hS => ?_)
  have hP : va_P (dC, dI) vwCl [(Ad0, .inr (8, Fs0)), (Ad1, .inr (3, (Fs1.set 2 (.int 0)))), (Ad2, .inl (Ka0, 4000, .inl Fa0))] H := hP
  have hD : va_D A [(Ad0, .inr (8, Fs0)), (Ad1, .inr (3, (Fs1.set 2 (.int 0)))), (Ad2, .inl (Ka0, 4000, .inl Fa0))] := hD
  have o_s101 := ow_set o_Fs1 2 (.int 0) (by decide) (l' := [(2, .int 0), (1, .ref Ad2)]) (w' := [2]) rfl rfl
  generalize (Fs1.set 2 (.int 0)) = s101 at hP hD o_s101
  refine lv_aload_n hx hb dX0_encode_5 rfl (lv_at hl 0 rfl) ?_
  refine lv_bipush (v := 72) hx hb dX0_encode_6 (by decide) ?_
  have hPc := hP.sub (ws' := [(Ad1, .inr (3, s101)), (Ad2, .inl (Ka0, 4000, .inl Fa0))]) [1, 2] rfl
  have hDc := hD.sub (ws' := [(Ad1, .inr (3, s101)), (Ad2, .inl (Ka0, 4000, .inl Fa0))]) [1, 2] (by decide) rfl
  have hKc := hK.sub (tys' := [(Ka0, .int)]) [0] rfl
  have hFc := va_free (wc := [(Ad1, .inr (3, s101)), (Ad2, .inl (Ka0, 4000, .inl Fa0))]) hD hS hA [1, 2] rfl
  refine va_callv (va_runV (As := [.int 72]) (rest := []) ⟨hx, hb, hml, hown, hts⟩ (z_X0_put l dC dI H.size Ad1 s101 Ad2 Fa0 Ka0 (fh_sub o_s101.2 [0, 1] rfl) ) (cwV 1 hts g_z_X0_encode_z_X0_put_39 rfl rfl rfl (by decide +kernel) ⟨Nat.le_of_ble_eq_true rfl, Nat.le_of_ble_eq_true rfl⟩) ⟨fun a U g mk q => by obtain ⟨q0, q1, qP, qK, qD⟩ := q; exact ⟨q0, q1, qP, va_K.moved (u := U) (U := U.calling g mk a) (Vm.Alike.refl U.vm) qK, qD⟩, va_recv hK hP (ci := 3) (q0 := 1) rfl rfl, fun U hU hW => ⟨rfl, by rw [hU], by rw [hU]; exact hPc, va_K.moved hW.alike hKc, hDc.weaken (fun _ _ _ _ => trivial)⟩⟩ rfl rfl hl.1 rfl (lv_room (Nat.le_of_ble_eq_true rfl)) dX0_encode_8 ⟨Nat.le_of_ble_eq_true rfl, Nat.le_of_ble_eq_true rfl⟩) hS (fun q _ h => hFc q h) hFc (fun u t H1 locs ht hvm hw hB hz1 hk1 hS => ?_)
  obtain ⟨s102, f103⟩ := u
  obtain ⟨hP1, hK1, hD1⟩ := hB
  rw [ht] at hP1
  try dsimp only at hw
  obtain ⟨hP, hD⟩ := va_join (wr := [(Ad0, .inr (8, Fs0))]) (w1 := [(Ad1, .inr (3, s102)), (Ad2, .inl (Ka0, 4000, .inl f103))]) hP hD [1, 2] [0] rfl rfl (by decide) (by decide) hk1 hFc hP1 hD1
  have hK := hK.sub (tys' := [(Ka0, .int)]) [0] rfl
  generalize H1 = H at hP hS ⊢
  have hP : va_P (dC, dI) vwCl [(Ad0, .inr (8, Fs0)), (Ad1, .inr (3, s102)), (Ad2, .inl (Ka0, 4000, .inl f103))] H := hP
  have hD : va_D A [(Ad0, .inr (8, Fs0)), (Ad1, .inr (3, s102)), (Ad2, .inl (Ka0, 4000, .inl f103))] := hD
  obtain ⟨o_s102, q104⟩ := hw
  have o_s102 := ow_on o_s101 o_s102 (l' := [(2, .int 1), (1, .ref Ad2), (1, .ref Ad2)]) (w' := [2]) rfl rfl
  refine lv_aload_n hx hb dX0_encode_11 rfl (lv_at hl 0 rfl) ?_
  refine lv_bipush (v := 80) hx hb dX0_encode_12 (by decide) ?_
  have hPc := hP.sub (ws' := [(Ad1, .inr (3, s102)), (Ad2, .inl (Ka0, 4000, .inl f103))]) [1, 2] rfl
  have hDc := hD.sub (ws' := [(Ad1, .inr (3, s102)), (Ad2, .inl (Ka0, 4000, .inl f103))]) [1, 2] (by decide) rfl
  have hKc := hK.sub (tys' := [(Ka0, .int)]) [0] rfl
  have hFc := va_free (wc := [(Ad1, .inr (3, s102)), (Ad2, .inl (Ka0, 4000, .inl f103))]) hD hS hA [1, 2] rfl
  refine va_callv (va_runV (As := [.int 80]) (rest := []) ⟨hx, hb, hml, hown, hts⟩ (z_X0_put_1 l dC dI H.size Ad1 s102 Ad2 f103 Ka0 (fh_sub o_s102.2 [0, 1, 1] rfl) ) (cwV 1 hts g_z_X0_encode_z_X0_put_1_39 rfl rfl rfl (by decide +kernel) ⟨Nat.le_of_ble_eq_true rfl, Nat.le_of_ble_eq_true rfl⟩) ⟨fun a U g mk q => by obtain ⟨q0, q1, qP, qK, qD⟩ := q; exact ⟨q0, q1, qP, va_K.moved (u := U) (U := U.calling g mk a) (Vm.Alike.refl U.vm) qK, qD⟩, va_recv hK hP (ci := 3) (q0 := 1) rfl rfl, fun U hU hW => ⟨rfl, by rw [hU], by rw [hU]; exact hPc, va_K.moved hW.alike hKc, hDc.weaken (fun _ _ _ _ => trivial)⟩⟩ rfl rfl hl.1 rfl (lv_room (Nat.le_of_ble_eq_true rfl)) dX0_encode_14 ⟨Nat.le_of_ble_eq_true rfl, Nat.le_of_ble_eq_true rfl⟩) hS (fun q _ h => hFc q h) hFc (fun u t H1 locs ht hvm hw hB hz1 hk1 hS => ?_)
  obtain ⟨s105, f106⟩ := u
  obtain ⟨hP1, hK1, hD1⟩ := hB
  rw [ht] at hP1
  try dsimp only at hw
  obtain ⟨hP, hD⟩ := va_join (wr := [(Ad0, .inr (8, Fs0))]) (w1 := [(Ad1, .inr (3, s105)), (Ad2, .inl (Ka0, 4000, .inl f106))]) hP hD [1, 2] [0] rfl rfl (by decide) (by decide) hk1 hFc hP1 hD1
  have hK := hK.sub (tys' := [(Ka0, .int)]) [0] rfl
  generalize H1 = H at hP hS ⊢
  have hP : va_P (dC, dI) vwCl [(Ad0, .inr (8, Fs0)), (Ad1, .inr (3, s105)), (Ad2, .inl (Ka0, 4000, .inl f106))] H := hP
  have hD : va_D A [(Ad0, .inr (8, Fs0)), (Ad1, .inr (3, s105)), (Ad2, .inl (Ka0, 4000, .inl f106))] := hD
  obtain ⟨o_s105, q107⟩ := hw
  have o_s105 := ow_on o_s102 o_s105 (l' := [(2, .int 2), (1, .ref Ad2), (1, .ref Ad2), (1, .ref Ad2), (1, .ref Ad2)]) (w' := [2]) rfl rfl
  refine lv_aload_n hx hb dX0_encode_17 rfl (lv_at hl 0 rfl) ?_
  refine lv_aload_n hx hb dX0_encode_18 rfl (lv_at hl 1 rfl) ?_
  refine va_get (D := (dC, dI)) (ci := 8) (v := .int 0) (C := RX5) (T := TX5) (N := 21) hx hb hts (in_z_X0_encode_X5) hown hK hP 0 rfl rfl 0 (by decide) (hts (.fieldLink RX0 43 "HeapWorks$Picture" "things" "I") (by decide +kernel)) (fun _ h9 => h9) (ow_at o_Fs0 0 rfl) dX0_encode_19 ?_
  refine lv_i2l hx hb dX0_encode_22 rfl ?_
  refine lv_topl (fun x108 ex108 => ?_)
  obtain rfl : x108 = 0 := ex108.trans (by decide)
  have hPc := hP.sub (ws' := [(Ad1, .inr (3, s105)), (Ad2, .inl (Ka0, 4000, .inl f106))]) [1, 2] rfl
  have hDc := hD.sub (ws' := [(Ad1, .inr (3, s105)), (Ad2, .inl (Ka0, 4000, .inl f106))]) [1, 2] (by decide) rfl
  have hKc := hK.sub (tys' := [(Ka0, .int)]) [0] rfl
  have hFc := va_free (wc := [(Ad1, .inr (3, s105)), (Ad2, .inl (Ka0, 4000, .inl f106))]) hD hS hA [1, 2] rfl
  refine va_callv (va_runV (As := [.long 0]) (rest := []) ⟨hx, hb, hml, hown, hts⟩ (z_X0_putNumber l dC dI H.size Ad1 s105 Ad2 f106 Ka0 (fh_sub o_s105.2 [0, 1, 1, 1, 1] rfl) ) (cwV 1 hts g_z_X0_encode_z_X0_putNumber_46 rfl rfl rfl (by decide +kernel) ⟨Nat.le_of_ble_eq_true rfl, Nat.le_of_ble_eq_true rfl⟩) ⟨fun a U g mk q => by obtain ⟨q0, q1, qP, qK, qD⟩ := q; exact ⟨q0, q1, qP, va_K.moved (u := U) (U := U.calling g mk a) (Vm.Alike.refl U.vm) qK, qD⟩, va_recv hK hP (ci := 3) (q0 := 1) rfl rfl, fun U hU hW => ⟨rfl, by rw [hU], by rw [hU]; exact hPc, va_K.moved hW.alike hKc, hDc.weaken (fun _ _ _ _ => trivial)⟩⟩ rfl rfl hl.1 rfl (lv_room (Nat.le_of_ble_eq_true rfl)) dX0_encode_23 ⟨Nat.le_of_ble_eq_true rfl, Nat.le_of_ble_eq_true rfl⟩) hS (fun q _ h => hFc q h) hFc (fun u t H1 locs ht hvm hw hB hz1 hk1 hS => ?_)
  obtain ⟨s109, f110⟩ := u
  obtain ⟨hP1, hK1, hD1⟩ := hB
  rw [ht] at hP1
  try dsimp only at hw
  obtain ⟨hP, hD⟩ := va_join (wr := [(Ad0, .inr (8, Fs0))]) (w1 := [(Ad1, .inr (3, s109)), (Ad2, .inl (Ka0, 4000, .inl f110))]) hP hD [1, 2] [0] rfl rfl (by decide) (by decide) hk1 hFc hP1 hD1
  have hK := hK.sub (tys' := [(Ka0, .int)]) [0] rfl
  generalize H1 = H at hP hS ⊢
  have hP : va_P (dC, dI) vwCl [(Ad0, .inr (8, Fs0)), (Ad1, .inr (3, s109)), (Ad2, .inl (Ka0, 4000, .inl f110))] H := hP
  have hD : va_D A [(Ad0, .inr (8, Fs0)), (Ad1, .inr (3, s109)), (Ad2, .inl (Ka0, 4000, .inl f110))] := hD
  obtain ⟨o_s109, q111⟩ := hw
  have o_s109 := ow_on o_s105 o_s109 (l' := [(2, .int 3), (1, .ref Ad2), (1, .ref Ad2), (1, .ref Ad2), (1, .ref Ad2), (1, .ref Ad2), (1, .ref Ad2), (1, .ref Ad2), (1, .ref Ad2), (1, .ref Ad2), (1, .ref Ad2), (1, .ref Ad2), (1, .ref Ad2)]) (w' := [2]) rfl rfl
  refine lv_iconst (v := 0) hx hb dX0_encode_26 (by decide) ?_
  refine lv_istore_n (lv' := [(2, .int 0), (0, .ref Ad1), (1, .ref Ad0)]) hx hb dX0_encode_27 rfl hl (by decide) rfl (fun ls hl => ?_)
  refine lv_iload_n hx hb dX0_encode_28 rfl (lv_at hl 0 rfl) ?_
  refine lv_aload_n hx hb dX0_encode_29 rfl (lv_at hl 2 rfl) ?_
  refine va_get (D := (dC, dI)) (ci := 8) (v := .int 0) (C := RX5) (T := TX5) (N := 21) hx hb hts (in_z_X0_encode_X5) hown hK hP 0 rfl rfl 0 (by decide) (hts (.fieldLink RX0 43 "HeapWorks$Picture" "things" "I") (by decide +kernel)) (fun _ h9 => h9) (ow_at o_Fs0 0 rfl) dX0_encode_30 ?_
  refine lv_icmp_ge (tgt := 138) hx hb dX0_encode_33 (by decide) (fun c112 => ?_) (fun c112 => absurd c112 (by decide))
  refine lv_aload_n hx hb dX0_encode_138 rfl (lv_at hl 1 rfl) ?_
  refine lv_aload_n hx hb dX0_encode_139 rfl (lv_at hl 2 rfl) ?_
  refine va_get (D := (dC, dI)) (ci := 8) (v := .int 0) (C := RX5) (T := TX5) (N := 21) hx hb hts (in_z_X0_encode_X5) hown hK hP 0 rfl rfl 11 (by decide) (hts (.fieldLink RX0 70 "HeapWorks$Picture" "roots" "I") (by decide +kernel)) (fun _ h9 => h9) (ow_at o_Fs0 1 rfl) dX0_encode_140 ?_
  refine lv_i2l hx hb dX0_encode_143 rfl ?_
  refine lv_topl (fun x113 ex113 => ?_)
  obtain rfl : x113 = 0 := ex113.trans (by decide)
  have hPc := hP.sub (ws' := [(Ad1, .inr (3, s109)), (Ad2, .inl (Ka0, 4000, .inl f110))]) [1, 2] rfl
  have hDc := hD.sub (ws' := [(Ad1, .inr (3, s109)), (Ad2, .inl (Ka0, 4000, .inl f110))]) [1, 2] (by decide) rfl
  have hKc := hK.sub (tys' := [(Ka0, .int)]) [0] rfl
  have hFc := va_free (wc := [(Ad1, .inr (3, s109)), (Ad2, .inl (Ka0, 4000, .inl f110))]) hD hS hA [1, 2] rfl
  refine va_callv (va_runV (As := [.long 0]) (rest := []) ⟨hx, hb, hml, hown, hts⟩ (z_X0_putNumber_1 l dC dI H.size Ad1 s109 Ad2 f110 Ka0 (fh_sub o_s109.2 [0, 1, 1, 1, 1, 1, 1, 1, 1, 1, 1, 1, 1] rfl) ) (cwV 1 hts g_z_X0_encode_z_X0_putNumber_1_46 rfl rfl rfl (by decide +kernel) ⟨Nat.le_of_ble_eq_true rfl, Nat.le_of_ble_eq_true rfl⟩) ⟨fun a U g mk q => by obtain ⟨q0, q1, qP, qK, qD⟩ := q; exact ⟨q0, q1, qP, va_K.moved (u := U) (U := U.calling g mk a) (Vm.Alike.refl U.vm) qK, qD⟩, va_recv hK hP (ci := 3) (q0 := 1) rfl rfl, fun U hU hW => ⟨rfl, by rw [hU], by rw [hU]; exact hPc, va_K.moved hW.alike hKc, hDc.weaken (fun _ _ _ _ => trivial)⟩⟩ rfl rfl hl.1 rfl (lv_room (Nat.le_of_ble_eq_true rfl)) dX0_encode_144 ⟨Nat.le_of_ble_eq_true rfl, Nat.le_of_ble_eq_true rfl⟩) hS (fun q _ h => hFc q h) hFc (fun u t H1 locs ht hvm hw hB hz1 hk1 hS => ?_)
  obtain ⟨s114, f115⟩ := u
  obtain ⟨hP1, hK1, hD1⟩ := hB
  rw [ht] at hP1
  try dsimp only at hw
  obtain ⟨hP, hD⟩ := va_join (wr := [(Ad0, .inr (8, Fs0))]) (w1 := [(Ad1, .inr (3, s114)), (Ad2, .inl (Ka0, 4000, .inl f115))]) hP hD [1, 2] [0] rfl rfl (by decide) (by decide) hk1 hFc hP1 hD1
  have hK := hK.sub (tys' := [(Ka0, .int)]) [0] rfl
  generalize H1 = H at hP hS ⊢
  have hP : va_P (dC, dI) vwCl [(Ad0, .inr (8, Fs0)), (Ad1, .inr (3, s114)), (Ad2, .inl (Ka0, 4000, .inl f115))] H := hP
  have hD : va_D A [(Ad0, .inr (8, Fs0)), (Ad1, .inr (3, s114)), (Ad2, .inl (Ka0, 4000, .inl f115))] := hD
  obtain ⟨o_s114, q116⟩ := hw
  have o_s114 := ow_on o_s109 o_s114 (l' := [(2, .int 4), (1, .ref Ad2), (1, .ref Ad2), (1, .ref Ad2), (1, .ref Ad2), (1, .ref Ad2), (1, .ref Ad2), (1, .ref Ad2), (1, .ref Ad2), (1, .ref Ad2), (1, .ref Ad2), (1, .ref Ad2), (1, .ref Ad2), (1, .ref Ad2), (1, .ref Ad2), (1, .ref Ad2), (1, .ref Ad2), (1, .ref Ad2), (1, .ref Ad2), (1, .ref Ad2), (1, .ref Ad2), (1, .ref Ad2), (1, .ref Ad2), (1, .ref Ad2), (1, .ref Ad2), (1, .ref Ad2), (1, .ref Ad2), (1, .ref Ad2), (1, .ref Ad2), (1, .ref Ad2), (1, .ref Ad2), (1, .ref Ad2), (1, .ref Ad2), (1, .ref Ad2), (1, .ref Ad2), (1, .ref Ad2), (1, .ref Ad2)]) (w' := [2]) rfl rfl
  refine lv_iconst (v := 0) hx hb dX0_encode_147 (by decide) ?_
  refine lv_istore_n (lv' := [(2, .int 0), (0, .ref Ad1), (1, .ref Ad0)]) hx hb dX0_encode_148 rfl hl (by decide) rfl (fun ls hl => ?_)
  refine lv_iload_n hx hb dX0_encode_149 rfl (lv_at hl 0 rfl) ?_
  refine lv_aload_n hx hb dX0_encode_150 rfl (lv_at hl 2 rfl) ?_
  refine va_get (D := (dC, dI)) (ci := 8) (v := .int 0) (C := RX5) (T := TX5) (N := 21) hx hb hts (in_z_X0_encode_X5) hown hK hP 0 rfl rfl 11 (by decide) (hts (.fieldLink RX0 70 "HeapWorks$Picture" "roots" "I") (by decide +kernel)) (fun _ h9 => h9) (ow_at o_Fs0 1 rfl) dX0_encode_151 ?_
  refine lv_icmp_ge (tgt := 185) hx hb dX0_encode_154 (by decide) (fun c117 => ?_) (fun c117 => absurd c117 (by decide))
  refine lv_aload_n hx hb dX0_encode_185 rfl (lv_at hl 1 rfl) ?_
  refine va_get (D := (dC, dI)) (ci := 3) (v := .ref Ad2) (C := RX0) (T := TX0) (N := 15) hx hb hts (in_z_X0_encode_X0) hown hK hP 1 rfl rfl 1 (by decide) (hts (.fieldLink RX0 19 "HeapWorks$Archive" "buffer" "[I") (by decide +kernel)) (fun _ h9 => h9) (ow_at o_s114 1 rfl) dX0_encode_186 ?_
  refine lv_iconst (v := 0) hx hb dX0_encode_189 (by decide) ?_
  refine lv_aload_n hx hb dX0_encode_190 rfl (lv_at hl 1 rfl) ?_
  refine va_get (D := (dC, dI)) (ci := 3) (v := .int 4) (C := RX0) (T := TX0) (N := 15) hx hb hts (in_z_X0_encode_X0) hown hK hP 1 rfl rfl 2 (by decide) (hts (.fieldLink RX0 35 "HeapWorks$Archive" "filled" "I") (by decide +kernel)) (fun _ h9 => h9) (ow_at o_s114 0 rfl) dX0_encode_191 ?_
  refine lv_aload_n hx hb dX0_encode_194 rfl (lv_at hl 1 rfl) ?_
  refine va_get (D := (dC, dI)) (ci := 3) (v := .ref Ad2) (C := RX0) (T := TX0) (N := 15) hx hb hts (in_z_X0_encode_X0) hown hK hP 1 rfl rfl 1 (by decide) (hts (.fieldLink RX0 19 "HeapWorks$Archive" "buffer" "[I") (by decide +kernel)) (fun _ h9 => h9) (ow_at o_s114 1 rfl) dX0_encode_195 ?_
  refine va_alen (v := 4000) hx hb hK hP 2 0 rfl rfl (show Int32.ofNat 4000 = 4000 from by decide) dX0_encode_198 ?_
  refine va_mmin hx hb (hml.trans hl.1.symm) hown (hts (.methodLink RX0 79 Lib.Math.min.name) (by decide +kernel)) (hts (.static Lib.Math.min.name) (by decide +kernel)) (hts (.initialized "java/lang/Math") (by decide +kernel)) (hts (.code Lib.Math.min.name Lib.Math.min.code 2 (some .int)) (by decide +kernel)) (Nat.le_of_ble_eq_true rfl) (Nat.le_of_ble_eq_true rfl) (Nat.le_of_ble_eq_true rfl) (Nat.le_of_ble_eq_true rfl) dX0_encode_199 ?_
  refine lv_topi (fun x118 ex118 => ?_)
  have tx118 : x118.toInt = min (4 : Int32).toInt (4000 : Int32).toInt := by rw [ex118]; exact i_min _ _
  obtain rfl : x118 = 4 := (i_eq _ _).mpr (by have bd_x118 := i_bd x118; (try simp only [i_lt, i_le, i_eq, kc_4, kc_4000] at tx118 ⊢); omega)
  have hPc := hP.sub (ws' := [(Ad2, .inl (Ka0, 4000, .inl f115))]) [2] rfl
  have hDc := hD.sub (ws' := [(Ad2, .inl (Ka0, 4000, .inl f115))]) [2] (by decide) rfl
  have hKc := hK.sub (tys' := [(Ka0, .int)]) [0] rfl
  have hFc := va_free (wc := [(Ad2, .inl (Ka0, 4000, .inl f115))]) hD hS hA [2] rfl
  refine va_calli (va_runS (As := [.ref Ad2, .int 0, .int 4]) (rest := []) ⟨hx, hb, hml, hown, hts⟩ (z_X0_checkOf l dC dI H.size Ad2 f115 Ka0  q116) (cwS 3 hts g_z_X0_encode_z_X0_checkOf_85 rfl rfl rfl (by decide +kernel) ⟨Nat.le_of_ble_eq_true rfl, Nat.le_of_ble_eq_true rfl⟩) ⟨fun a U g mk q => by obtain ⟨q0, q1, qP, qK, qD⟩ := q; exact ⟨q0, q1, qP, va_K.moved (u := U) (U := U.calling g mk a) (Vm.Alike.refl U.vm) qK, qD⟩, fun U hU hW => ⟨rfl, by rw [hU], by rw [hU]; exact hPc, va_K.moved hW.alike hKc, hDc.weaken (fun _ _ _ _ => trivial)⟩⟩ rfl rfl hl.1 rfl (lv_room (Nat.le_of_ble_eq_true rfl)) dX0_encode_202 ⟨Nat.le_of_ble_eq_true rfl, Nat.le_of_ble_eq_true rfl⟩) hS (fun q _ h => hFc q h) hFc (fun r119 u t H1 locs ht hvm hw hB hz1 hk1 hS => ?_)
  obtain ⟨hP1, hK1, hD1⟩ := hB
  rw [ht] at hP1
  try dsimp only at hw
  obtain ⟨hP, hD⟩ := va_join (wr := [(Ad0, .inr (8, Fs0)), (Ad1, .inr (3, s114))]) (w1 := [(Ad2, .inl (Ka0, 4000, .inl f115))]) hP hD [2] [0, 1] rfl rfl (by decide) (by decide) hk1 hFc hP1 hD1
  have hK := hK.sub (tys' := [(Ka0, .int)]) [0] rfl
  generalize H1 = H at hP hS ⊢
  have hP : va_P (dC, dI) vwCl [(Ad0, .inr (8, Fs0)), (Ad1, .inr (3, s114)), (Ad2, .inl (Ka0, 4000, .inl f115))] H := hP
  have hD : va_D A [(Ad0, .inr (8, Fs0)), (Ad1, .inr (3, s114)), (Ad2, .inl (Ka0, 4000, .inl f115))] := hD
  refine lv_istore_n (lv' := [(2, .int r119), (0, .ref Ad1), (1, .ref Ad0)]) hx hb dX0_encode_205 rfl hl (by decide) rfl (fun ls hl => ?_)
  refine lv_iconst (v := 0) hx hb dX0_encode_206 (by decide) ?_
  refine lv_istore_n (lv' := [(3, .int 0), (2, .int r119), (0, .ref Ad1), (1, .ref Ad0)]) hx hb dX0_encode_207 rfl hl (by decide) rfl (fun ls hl => ?_)
  refine lv_iload_n hx hb dX0_encode_208 rfl (lv_at hl 0 rfl) ?_
  refine lv_iconst (v := 4) hx hb dX0_encode_209 (by decide) ?_
  refine lv_icmp_ge (tgt := 233) hx hb dX0_encode_210 (by decide) (fun c120 => absurd c120 (by decide)) (fun c120 => ?_)
  refine lv_aload_n hx hb dX0_encode_213 rfl (lv_at hl 2 rfl) ?_
  refine lv_iload_n hx hb dX0_encode_214 rfl (lv_at hl 1 rfl) ?_
  refine lv_bipush (v := 8) hx hb dX0_encode_215 (by decide) ?_
  refine lv_iload_n hx hb dX0_encode_217 rfl (lv_at hl 0 rfl) ?_
  refine lv_imul hx hb dX0_encode_218  ?_
  refine lv_topi (fun x121 ex121 => ?_)
  obtain rfl : x121 = 0 := ex121.trans (by decide)
  refine lv_iushr hx hb dX0_encode_219 rfl ?_
  refine lv_topi (fun x122 ex122 => ?_)
  refine lv_sipush (v := 255) hx hb dX0_encode_220 (by decide) ?_
  refine lv_iand hx hb dX0_encode_223  ?_
  refine lv_topi (fun x123 ex123 => ?_)
  have hPc := hP.sub (ws' := [(Ad1, .inr (3, s114)), (Ad2, .inl (Ka0, 4000, .inl f115))]) [1, 2] rfl
  have hDc := hD.sub (ws' := [(Ad1, .inr (3, s114)), (Ad2, .inl (Ka0, 4000, .inl f115))]) [1, 2] (by decide) rfl
  have hKc := hK.sub (tys' := [(Ka0, .int)]) [0] rfl
  have hFc := va_free (wc := [(Ad1, .inr (3, s114)), (Ad2, .inl (Ka0, 4000, .inl f115))]) hD hS hA [1, 2] rfl
  refine va_callv (va_runV (As := [.int x123]) (rest := []) ⟨hx, hb, hml, hown, hts⟩ (z_X0_put_4 l dC dI H.size Ad1 s114 Ad2 f115 Ka0 x123 (fh_sub o_s114.2 [0, 1, 1, 1, 1, 1, 1, 1, 1, 1, 1, 1, 1, 1, 1, 1, 1, 1, 1, 1, 1, 1, 1, 1, 1, 1, 1, 1, 1, 1, 1, 1, 1, 1, 1, 1, 1] rfl) ) (cwV 1 hts g_z_X0_encode_z_X0_put_4_39 rfl rfl rfl (by decide +kernel) ⟨Nat.le_of_ble_eq_true rfl, Nat.le_of_ble_eq_true rfl⟩) ⟨fun a U g mk q => by obtain ⟨q0, q1, qP, qK, qD⟩ := q; exact ⟨q0, q1, qP, va_K.moved (u := U) (U := U.calling g mk a) (Vm.Alike.refl U.vm) qK, qD⟩, va_recv hK hP (ci := 3) (q0 := 1) rfl rfl, fun U hU hW => ⟨rfl, by rw [hU], by rw [hU]; exact hPc, va_K.moved hW.alike hKc, hDc.weaken (fun _ _ _ _ => trivial)⟩⟩ rfl rfl hl.1 rfl (lv_room (Nat.le_of_ble_eq_true rfl)) dX0_encode_224 ⟨Nat.le_of_ble_eq_true rfl, Nat.le_of_ble_eq_true rfl⟩) hS (fun q _ h => hFc q h) hFc (fun u t H1 locs ht hvm hw hB hz1 hk1 hS => ?_)
  obtain ⟨s124, f125⟩ := u
  obtain ⟨hP1, hK1, hD1⟩ := hB
  rw [ht] at hP1
  try dsimp only at hw
  obtain ⟨hP, hD⟩ := va_join (wr := [(Ad0, .inr (8, Fs0))]) (w1 := [(Ad1, .inr (3, s124)), (Ad2, .inl (Ka0, 4000, .inl f125))]) hP hD [1, 2] [0] rfl rfl (by decide) (by decide) hk1 hFc hP1 hD1
  have hK := hK.sub (tys' := [(Ka0, .int)]) [0] rfl
  generalize H1 = H at hP hS ⊢
  have hP : va_P (dC, dI) vwCl [(Ad0, .inr (8, Fs0)), (Ad1, .inr (3, s124)), (Ad2, .inl (Ka0, 4000, .inl f125))] H := hP
  have hD : va_D A [(Ad0, .inr (8, Fs0)), (Ad1, .inr (3, s124)), (Ad2, .inl (Ka0, 4000, .inl f125))] := hD
  obtain ⟨o_s124, q126⟩ := hw
  have o_s124 := ow_on o_s114 o_s124 (l' := (([(2, .int 5), (1, .ref Ad2), (1, .ref Ad2), (1, .ref Ad2), (1, .ref Ad2), (1, .ref Ad2), (1, .ref Ad2), (1, .ref Ad2), (1, .ref Ad2), (1, .ref Ad2), (1, .ref Ad2), (1, .ref Ad2), (1, .ref Ad2), (1, .ref Ad2), (1, .ref Ad2), (1, .ref Ad2)] : List (Nat × Value)) ++ (([(1, .ref Ad2), (1, .ref Ad2), (1, .ref Ad2), (1, .ref Ad2), (1, .ref Ad2), (1, .ref Ad2), (1, .ref Ad2), (1, .ref Ad2), (1, .ref Ad2), (1, .ref Ad2), (1, .ref Ad2), (1, .ref Ad2), (1, .ref Ad2), (1, .ref Ad2), (1, .ref Ad2), (1, .ref Ad2)] : List (Nat × Value)) ++ (([(1, .ref Ad2), (1, .ref Ad2), (1, .ref Ad2), (1, .ref Ad2), (1, .ref Ad2), (1, .ref Ad2), (1, .ref Ad2), (1, .ref Ad2), (1, .ref Ad2), (1, .ref Ad2), (1, .ref Ad2), (1, .ref Ad2), (1, .ref Ad2), (1, .ref Ad2), (1, .ref Ad2), (1, .ref Ad2)] : List (Nat × Value)) ++ (([(1, .ref Ad2), (1, .ref Ad2), (1, .ref Ad2), (1, .ref Ad2), (1, .ref Ad2), (1, .ref Ad2), (1, .ref Ad2), (1, .ref Ad2), (1, .ref Ad2), (1, .ref Ad2), (1, .ref Ad2), (1, .ref Ad2), (1, .ref Ad2), (1, .ref Ad2), (1, .ref Ad2), (1, .ref Ad2)] : List (Nat × Value)) ++ (([(1, .ref Ad2), (1, .ref Ad2), (1, .ref Ad2), (1, .ref Ad2), (1, .ref Ad2), (1, .ref Ad2), (1, .ref Ad2), (1, .ref Ad2), (1, .ref Ad2)] : List (Nat × Value)))))))) (w' := [2]) rfl rfl
  refine lv_iinc (v := 1) (lv' := [(3, .int 1), (2, .int r119), (0, .ref Ad1), (1, .ref Ad0)]) hx hb dX0_encode_227 hl (k := 0) rfl (by decide) (by decide) rfl (fun ls hl => ?_)
  refine lv_goto (tgt := 208) hx hb dX0_encode_230 (by decide) ?_
  refine lv_iload_n hx hb dX0_encode_208 rfl (lv_at hl 0 rfl) ?_
  refine lv_iconst (v := 4) hx hb dX0_encode_209 (by decide) ?_
  refine lv_icmp_ge (tgt := 233) hx hb dX0_encode_210 (by decide) (fun c127 => absurd c127 (by decide)) (fun c127 => ?_)
  refine lv_aload_n hx hb dX0_encode_213 rfl (lv_at hl 2 rfl) ?_
  refine lv_iload_n hx hb dX0_encode_214 rfl (lv_at hl 1 rfl) ?_
  refine lv_bipush (v := 8) hx hb dX0_encode_215 (by decide) ?_
  refine lv_iload_n hx hb dX0_encode_217 rfl (lv_at hl 0 rfl) ?_
  refine lv_imul hx hb dX0_encode_218  ?_
  refine lv_topi (fun x128 ex128 => ?_)
  obtain rfl : x128 = 8 := ex128.trans (by decide)
  refine lv_iushr hx hb dX0_encode_219 rfl ?_
  refine lv_topi (fun x129 ex129 => ?_)
  refine lv_sipush (v := 255) hx hb dX0_encode_220 (by decide) ?_
  refine lv_iand hx hb dX0_encode_223  ?_
  refine lv_topi (fun x130 ex130 => ?_)
  have hPc := hP.sub (ws' := [(Ad1, .inr (3, s124)), (Ad2, .inl (Ka0, 4000, .inl f125))]) [1, 2] rfl
  have hDc := hD.sub (ws' := [(Ad1, .inr (3, s124)), (Ad2, .inl (Ka0, 4000, .inl f125))]) [1, 2] (by decide) rfl
  have hKc := hK.sub (tys' := [(Ka0, .int)]) [0] rfl
  have hFc := va_free (wc := [(Ad1, .inr (3, s124)), (Ad2, .inl (Ka0, 4000, .inl f125))]) hD hS hA [1, 2] rfl
  refine va_callv (va_runV (As := [.int x130]) (rest := []) ⟨hx, hb, hml, hown, hts⟩ (z_X0_put_5 l dC dI H.size Ad1 s124 Ad2 f125 Ka0 x130 (fh_sub o_s124.2 [0, 1, 1, 1, 1, 1, 1, 1, 1, 1, 1, 1, 1, 1, 1, 1, 1, 1, 1, 1, 1, 1, 1, 1, 1, 1, 1, 1, 1, 1, 1, 1, 1, 1, 1, 1, 1, 1, 1, 1, 1, 1, 1, 1, 1, 1, 1, 1, 1, 1, 1, 1, 1, 1, 1, 1, 1, 1, 1, 1, 1, 1, 1, 1, 1, 1, 1, 1, 1, 1, 1, 1, 1] rfl) ) (cwV 1 hts g_z_X0_encode_z_X0_put_5_39 rfl rfl rfl (by decide +kernel) ⟨Nat.le_of_ble_eq_true rfl, Nat.le_of_ble_eq_true rfl⟩) ⟨fun a U g mk q => by obtain ⟨q0, q1, qP, qK, qD⟩ := q; exact ⟨q0, q1, qP, va_K.moved (u := U) (U := U.calling g mk a) (Vm.Alike.refl U.vm) qK, qD⟩, va_recv hK hP (ci := 3) (q0 := 1) rfl rfl, fun U hU hW => ⟨rfl, by rw [hU], by rw [hU]; exact hPc, va_K.moved hW.alike hKc, hDc.weaken (fun _ _ _ _ => trivial)⟩⟩ rfl rfl hl.1 rfl (lv_room (Nat.le_of_ble_eq_true rfl)) dX0_encode_224 ⟨Nat.le_of_ble_eq_true rfl, Nat.le_of_ble_eq_true rfl⟩) hS (fun q _ h => hFc q h) hFc (fun u t H1 locs ht hvm hw hB hz1 hk1 hS => ?_)
  obtain ⟨s131, f132⟩ := u
  obtain ⟨hP1, hK1, hD1⟩ := hB
  rw [ht] at hP1
  try dsimp only at hw
  obtain ⟨hP, hD⟩ := va_join (wr := [(Ad0, .inr (8, Fs0))]) (w1 := [(Ad1, .inr (3, s131)), (Ad2, .inl (Ka0, 4000, .inl f132))]) hP hD [1, 2] [0] rfl rfl (by decide) (by decide) hk1 hFc hP1 hD1
  have hK := hK.sub (tys' := [(Ka0, .int)]) [0] rfl
  generalize H1 = H at hP hS ⊢
  have hP : va_P (dC, dI) vwCl [(Ad0, .inr (8, Fs0)), (Ad1, .inr (3, s131)), (Ad2, .inl (Ka0, 4000, .inl f132))] H := hP
  have hD : va_D A [(Ad0, .inr (8, Fs0)), (Ad1, .inr (3, s131)), (Ad2, .inl (Ka0, 4000, .inl f132))] := hD
  obtain ⟨o_s131, q133⟩ := hw
  have o_s131 := ow_on o_s124 o_s131 (l' := (([(2, .int 6), (1, .ref Ad2), (1, .ref Ad2), (1, .ref Ad2), (1, .ref Ad2), (1, .ref Ad2), (1, .ref Ad2), (1, .ref Ad2), (1, .ref Ad2), (1, .ref Ad2), (1, .ref Ad2), (1, .ref Ad2), (1, .ref Ad2), (1, .ref Ad2), (1, .ref Ad2), (1, .ref Ad2)] : List (Nat × Value)) ++ (([(1, .ref Ad2), (1, .ref Ad2), (1, .ref Ad2), (1, .ref Ad2), (1, .ref Ad2), (1, .ref Ad2), (1, .ref Ad2), (1, .ref Ad2), (1, .ref Ad2), (1, .ref Ad2), (1, .ref Ad2), (1, .ref Ad2), (1, .ref Ad2), (1, .ref Ad2), (1, .ref Ad2), (1, .ref Ad2)] : List (Nat × Value)) ++ (([(1, .ref Ad2), (1, .ref Ad2), (1, .ref Ad2), (1, .ref Ad2), (1, .ref Ad2), (1, .ref Ad2), (1, .ref Ad2), (1, .ref Ad2), (1, .ref Ad2), (1, .ref Ad2), (1, .ref Ad2), (1, .ref Ad2), (1, .ref Ad2), (1, .ref Ad2), (1, .ref Ad2), (1, .ref Ad2)] : List (Nat × Value)) ++ (([(1, .ref Ad2), (1, .ref Ad2), (1, .ref Ad2), (1, .ref Ad2), (1, .ref Ad2), (1, .ref Ad2), (1, .ref Ad2), (1, .ref Ad2), (1, .ref Ad2), (1, .ref Ad2), (1, .ref Ad2), (1, .ref Ad2), (1, .ref Ad2), (1, .ref Ad2), (1, .ref Ad2), (1, .ref Ad2)] : List (Nat × Value)) ++ (([(1, .ref Ad2), (1, .ref Ad2), (1, .ref Ad2), (1, .ref Ad2), (1, .ref Ad2), (1, .ref Ad2), (1, .ref Ad2), (1, .ref Ad2), (1, .ref Ad2), (1, .ref Ad2), (1, .ref Ad2), (1, .ref Ad2), (1, .ref Ad2), (1, .ref Ad2), (1, .ref Ad2), (1, .ref Ad2)] : List (Nat × Value)) ++ (([(1, .ref Ad2), (1, .ref Ad2), (1, .ref Ad2), (1, .ref Ad2), (1, .ref Ad2), (1, .ref Ad2), (1, .ref Ad2), (1, .ref Ad2), (1, .ref Ad2), (1, .ref Ad2), (1, .ref Ad2), (1, .ref Ad2), (1, .ref Ad2), (1, .ref Ad2), (1, .ref Ad2), (1, .ref Ad2)] : List (Nat × Value)) ++ (([(1, .ref Ad2), (1, .ref Ad2), (1, .ref Ad2), (1, .ref Ad2), (1, .ref Ad2), (1, .ref Ad2), (1, .ref Ad2), (1, .ref Ad2), (1, .ref Ad2), (1, .ref Ad2), (1, .ref Ad2), (1, .ref Ad2), (1, .ref Ad2), (1, .ref Ad2), (1, .ref Ad2), (1, .ref Ad2)] : List (Nat × Value)) ++ (([(1, .ref Ad2), (1, .ref Ad2), (1, .ref Ad2), (1, .ref Ad2), (1, .ref Ad2), (1, .ref Ad2), (1, .ref Ad2), (1, .ref Ad2), (1, .ref Ad2), (1, .ref Ad2), (1, .ref Ad2), (1, .ref Ad2), (1, .ref Ad2), (1, .ref Ad2), (1, .ref Ad2), (1, .ref Ad2)] : List (Nat × Value)) ++ (([(1, .ref Ad2), (1, .ref Ad2), (1, .ref Ad2), (1, .ref Ad2), (1, .ref Ad2), (1, .ref Ad2), (1, .ref Ad2), (1, .ref Ad2), (1, .ref Ad2), (1, .ref Ad2), (1, .ref Ad2), (1, .ref Ad2), (1, .ref Ad2), (1, .ref Ad2), (1, .ref Ad2), (1, .ref Ad2)] : List (Nat × Value)) ++ (([(1, .ref Ad2)] : List (Nat × Value))))))))))))) (w' := [2]) rfl rfl
  refine lv_iinc (v := 2) (lv' := [(3, .int 2), (2, .int r119), (0, .ref Ad1), (1, .ref Ad0)]) hx hb dX0_encode_227 hl (k := 0) rfl (by decide) (by decide) rfl (fun ls hl => ?_)
  refine lv_goto (tgt := 208) hx hb dX0_encode_230 (by decide) ?_
  refine lv_iload_n hx hb dX0_encode_208 rfl (lv_at hl 0 rfl) ?_
  refine lv_iconst (v := 4) hx hb dX0_encode_209 (by decide) ?_
  refine lv_icmp_ge (tgt := 233) hx hb dX0_encode_210 (by decide) (fun c134 => absurd c134 (by decide)) (fun c134 => ?_)
  refine lv_aload_n hx hb dX0_encode_213 rfl (lv_at hl 2 rfl) ?_
  refine lv_iload_n hx hb dX0_encode_214 rfl (lv_at hl 1 rfl) ?_
  refine lv_bipush (v := 8) hx hb dX0_encode_215 (by decide) ?_
  refine lv_iload_n hx hb dX0_encode_217 rfl (lv_at hl 0 rfl) ?_
  refine lv_imul hx hb dX0_encode_218  ?_
  refine lv_topi (fun x135 ex135 => ?_)
  obtain rfl : x135 = 16 := ex135.trans (by decide)
  refine lv_iushr hx hb dX0_encode_219 rfl ?_
  refine lv_topi (fun x136 ex136 => ?_)
  refine lv_sipush (v := 255) hx hb dX0_encode_220 (by decide) ?_
  refine lv_iand hx hb dX0_encode_223  ?_
  refine lv_topi (fun x137 ex137 => ?_)
  have hPc := hP.sub (ws' := [(Ad1, .inr (3, s131)), (Ad2, .inl (Ka0, 4000, .inl f132))]) [1, 2] rfl
  have hDc := hD.sub (ws' := [(Ad1, .inr (3, s131)), (Ad2, .inl (Ka0, 4000, .inl f132))]) [1, 2] (by decide) rfl
  have hKc := hK.sub (tys' := [(Ka0, .int)]) [0] rfl
  have hFc := va_free (wc := [(Ad1, .inr (3, s131)), (Ad2, .inl (Ka0, 4000, .inl f132))]) hD hS hA [1, 2] rfl
  refine va_callv (va_runV (As := [.int x137]) (rest := []) ⟨hx, hb, hml, hown, hts⟩ (z_X0_put_6 l dC dI H.size Ad1 s131 Ad2 f132 Ka0 x137 (fh_sub o_s131.2 [0, 1, 1, 1, 1, 1, 1, 1, 1, 1, 1, 1, 1, 1, 1, 1, 1, 1, 1, 1, 1, 1, 1, 1, 1, 1, 1, 1, 1, 1, 1, 1, 1, 1, 1, 1, 1, 1, 1, 1, 1, 1, 1, 1, 1, 1, 1, 1, 1, 1, 1, 1, 1, 1, 1, 1, 1, 1, 1, 1, 1, 1, 1, 1, 1, 1, 1, 1, 1, 1, 1, 1, 1, 1, 1, 1, 1, 1, 1, 1, 1, 1, 1, 1, 1, 1, 1, 1, 1, 1, 1, 1, 1, 1, 1, 1, 1, 1, 1, 1, 1, 1, 1, 1, 1, 1, 1, 1, 1, 1, 1, 1, 1, 1, 1, 1, 1, 1, 1, 1, 1, 1, 1, 1, 1, 1, 1, 1, 1, 1, 1, 1, 1, 1, 1, 1, 1, 1, 1, 1, 1, 1, 1, 1, 1] rfl) ) (cwV 1 hts g_z_X0_encode_z_X0_put_6_39 rfl rfl rfl (by decide +kernel) ⟨Nat.le_of_ble_eq_true rfl, Nat.le_of_ble_eq_true rfl⟩) ⟨fun a U g mk q => by obtain ⟨q0, q1, qP, qK, qD⟩ := q; exact ⟨q0, q1, qP, va_K.moved (u := U) (U := U.calling g mk a) (Vm.Alike.refl U.vm) qK, qD⟩, va_recv hK hP (ci := 3) (q0 := 1) rfl rfl, fun U hU hW => ⟨rfl, by rw [hU], by rw [hU]; exact hPc, va_K.moved hW.alike hKc, hDc.weaken (fun _ _ _ _ => trivial)⟩⟩ rfl rfl hl.1 rfl (lv_room (Nat.le_of_ble_eq_true rfl)) dX0_encode_224 ⟨Nat.le_of_ble_eq_true rfl, Nat.le_of_ble_eq_true rfl⟩) hS (fun q _ h => hFc q h) hFc (fun u t H1 locs ht hvm hw hB hz1 hk1 hS => ?_)
  obtain ⟨s138, f139⟩ := u
  obtain ⟨hP1, hK1, hD1⟩ := hB
  rw [ht] at hP1
  try dsimp only at hw
  obtain ⟨hP, hD⟩ := va_join (wr := [(Ad0, .inr (8, Fs0))]) (w1 := [(Ad1, .inr (3, s138)), (Ad2, .inl (Ka0, 4000, .inl f139))]) hP hD [1, 2] [0] rfl rfl (by decide) (by decide) hk1 hFc hP1 hD1
  have hK := hK.sub (tys' := [(Ka0, .int)]) [0] rfl
  generalize H1 = H at hP hS ⊢
  have hP : va_P (dC, dI) vwCl [(Ad0, .inr (8, Fs0)), (Ad1, .inr (3, s138)), (Ad2, .inl (Ka0, 4000, .inl f139))] H := hP
  have hD : va_D A [(Ad0, .inr (8, Fs0)), (Ad1, .inr (3, s138)), (Ad2, .inl (Ka0, 4000, .inl f139))] := hD
  obtain ⟨o_s138, q140⟩ := hw
  have o_s138 := ow_on o_s131 o_s138 (l' := (([(2, .int 7), (1, .ref Ad2), (1, .ref Ad2), (1, .ref Ad2), (1, .ref Ad2), (1, .ref Ad2), (1, .ref Ad2), (1, .ref Ad2), (1, .ref Ad2), (1, .ref Ad2), (1, .ref Ad2), (1, .ref Ad2), (1, .ref Ad2), (1, .ref Ad2), (1, .ref Ad2), (1, .ref Ad2)] : List (Nat × Value)) ++ (([(1, .ref Ad2), (1, .ref Ad2), (1, .ref Ad2), (1, .ref Ad2), (1, .ref Ad2), (1, .ref Ad2), (1, .ref Ad2), (1, .ref Ad2), (1, .ref Ad2), (1, .ref Ad2), (1, .ref Ad2), (1, .ref Ad2), (1, .ref Ad2), (1, .ref Ad2), (1, .ref Ad2), (1, .ref Ad2)] : List (Nat × Value)) ++ (([(1, .ref Ad2), (1, .ref Ad2), (1, .ref Ad2), (1, .ref Ad2), (1, .ref Ad2), (1, .ref Ad2), (1, .ref Ad2), (1, .ref Ad2), (1, .ref Ad2), (1, .ref Ad2), (1, .ref Ad2), (1, .ref Ad2), (1, .ref Ad2), (1, .ref Ad2), (1, .ref Ad2), (1, .ref Ad2)] : List (Nat × Value)) ++ (([(1, .ref Ad2), (1, .ref Ad2), (1, .ref Ad2), (1, .ref Ad2), (1, .ref Ad2), (1, .ref Ad2), (1, .ref Ad2), (1, .ref Ad2), (1, .ref Ad2), (1, .ref Ad2), (1, .ref Ad2), (1, .ref Ad2), (1, .ref Ad2), (1, .ref Ad2), (1, .ref Ad2), (1, .ref Ad2)] : List (Nat × Value)) ++ (([(1, .ref Ad2), (1, .ref Ad2), (1, .ref Ad2), (1, .ref Ad2), (1, .ref Ad2), (1, .ref Ad2), (1, .ref Ad2), (1, .ref Ad2), (1, .ref Ad2), (1, .ref Ad2), (1, .ref Ad2), (1, .ref Ad2), (1, .ref Ad2), (1, .ref Ad2), (1, .ref Ad2), (1, .ref Ad2)] : List (Nat × Value)) ++ (([(1, .ref Ad2), (1, .ref Ad2), (1, .ref Ad2), (1, .ref Ad2), (1, .ref Ad2), (1, .ref Ad2), (1, .ref Ad2), (1, .ref Ad2), (1, .ref Ad2), (1, .ref Ad2), (1, .ref Ad2), (1, .ref Ad2), (1, .ref Ad2), (1, .ref Ad2), (1, .ref Ad2), (1, .ref Ad2)] : List (Nat × Value)) ++ (([(1, .ref Ad2), (1, .ref Ad2), (1, .ref Ad2), (1, .ref Ad2), (1, .ref Ad2), (1, .ref Ad2), (1, .ref Ad2), (1, .ref Ad2), (1, .ref Ad2), (1, .ref Ad2), (1, .ref Ad2), (1, .ref Ad2), (1, .ref Ad2), (1, .ref Ad2), (1, .ref Ad2), (1, .ref Ad2)] : List (Nat × Value)) ++ (([(1, .ref Ad2), (1, .ref Ad2), (1, .ref Ad2), (1, .ref Ad2), (1, .ref Ad2), (1, .ref Ad2), (1, .ref Ad2), (1, .ref Ad2), (1, .ref Ad2), (1, .ref Ad2), (1, .ref Ad2), (1, .ref Ad2), (1, .ref Ad2), (1, .ref Ad2), (1, .ref Ad2), (1, .ref Ad2)] : List (Nat × Value)) ++ (([(1, .ref Ad2), (1, .ref Ad2), (1, .ref Ad2), (1, .ref Ad2), (1, .ref Ad2), (1, .ref Ad2), (1, .ref Ad2), (1, .ref Ad2), (1, .ref Ad2), (1, .ref Ad2), (1, .ref Ad2), (1, .ref Ad2), (1, .ref Ad2), (1, .ref Ad2), (1, .ref Ad2), (1, .ref Ad2)] : List (Nat × Value)) ++ (([(1, .ref Ad2), (1, .ref Ad2), (1, .ref Ad2), (1, .ref Ad2), (1, .ref Ad2), (1, .ref Ad2), (1, .ref Ad2), (1, .ref Ad2), (1, .ref Ad2), (1, .ref Ad2), (1, .ref Ad2), (1, .ref Ad2), (1, .ref Ad2), (1, .ref Ad2), (1, .ref Ad2), (1, .ref Ad2)] : List (Nat × Value)) ++ (([(1, .ref Ad2), (1, .ref Ad2), (1, .ref Ad2), (1, .ref Ad2), (1, .ref Ad2), (1, .ref Ad2), (1, .ref Ad2), (1, .ref Ad2), (1, .ref Ad2), (1, .ref Ad2), (1, .ref Ad2), (1, .ref Ad2), (1, .ref Ad2), (1, .ref Ad2), (1, .ref Ad2), (1, .ref Ad2)] : List (Nat × Value)) ++ (([(1, .ref Ad2), (1, .ref Ad2), (1, .ref Ad2), (1, .ref Ad2), (1, .ref Ad2), (1, .ref Ad2), (1, .ref Ad2), (1, .ref Ad2), (1, .ref Ad2), (1, .ref Ad2), (1, .ref Ad2), (1, .ref Ad2), (1, .ref Ad2), (1, .ref Ad2), (1, .ref Ad2), (1, .ref Ad2)] : List (Nat × Value)) ++ (([(1, .ref Ad2), (1, .ref Ad2), (1, .ref Ad2), (1, .ref Ad2), (1, .ref Ad2), (1, .ref Ad2), (1, .ref Ad2), (1, .ref Ad2), (1, .ref Ad2), (1, .ref Ad2), (1, .ref Ad2), (1, .ref Ad2), (1, .ref Ad2), (1, .ref Ad2), (1, .ref Ad2), (1, .ref Ad2)] : List (Nat × Value)) ++ (([(1, .ref Ad2), (1, .ref Ad2), (1, .ref Ad2), (1, .ref Ad2), (1, .ref Ad2), (1, .ref Ad2), (1, .ref Ad2), (1, .ref Ad2), (1, .ref Ad2), (1, .ref Ad2), (1, .ref Ad2), (1, .ref Ad2), (1, .ref Ad2), (1, .ref Ad2), (1, .ref Ad2), (1, .ref Ad2)] : List (Nat × Value)) ++ (([(1, .ref Ad2), (1, .ref Ad2), (1, .ref Ad2), (1, .ref Ad2), (1, .ref Ad2), (1, .ref Ad2), (1, .ref Ad2), (1, .ref Ad2), (1, .ref Ad2), (1, .ref Ad2), (1, .ref Ad2), (1, .ref Ad2), (1, .ref Ad2), (1, .ref Ad2), (1, .ref Ad2), (1, .ref Ad2)] : List (Nat × Value)) ++ (([(1, .ref Ad2), (1, .ref Ad2), (1, .ref Ad2), (1, .ref Ad2), (1, .ref Ad2), (1, .ref Ad2), (1, .ref Ad2), (1, .ref Ad2), (1, .ref Ad2), (1, .ref Ad2), (1, .ref Ad2), (1, .ref Ad2), (1, .ref Ad2), (1, .ref Ad2), (1, .ref Ad2), (1, .ref Ad2)] : List (Nat × Value)) ++ (([(1, .ref Ad2), (1, .ref Ad2), (1, .ref Ad2), (1, .ref Ad2), (1, .ref Ad2), (1, .ref Ad2), (1, .ref Ad2), (1, .ref Ad2), (1, .ref Ad2), (1, .ref Ad2), (1, .ref Ad2), (1, .ref Ad2), (1, .ref Ad2), (1, .ref Ad2), (1, .ref Ad2), (1, .ref Ad2)] : List (Nat × Value)) ++ (([(1, .ref Ad2), (1, .ref Ad2), (1, .ref Ad2), (1, .ref Ad2), (1, .ref Ad2), (1, .ref Ad2), (1, .ref Ad2), (1, .ref Ad2), (1, .ref Ad2), (1, .ref Ad2), (1, .ref Ad2), (1, .ref Ad2), (1, .ref Ad2), (1, .ref Ad2), (1, .ref Ad2), (1, .ref Ad2)] : List (Nat × Value)) ++ (([(1, .ref Ad2)] : List (Nat × Value)))))))))))))))))))))) (w' := [2]) rfl rfl
  refine lv_iinc (v := 3) (lv' := [(3, .int 3), (2, .int r119), (0, .ref Ad1), (1, .ref Ad0)]) hx hb dX0_encode_227 hl (k := 0) rfl (by decide) (by decide) rfl (fun ls hl => ?_)
  refine lv_goto (tgt := 208) hx hb dX0_encode_230 (by decide) ?_
  refine lv_iload_n hx hb dX0_encode_208 rfl (lv_at hl 0 rfl) ?_
  refine lv_iconst (v := 4) hx hb dX0_encode_209 (by decide) ?_
  refine lv_icmp_ge (tgt := 233) hx hb dX0_encode_210 (by decide) (fun c141 => absurd c141 (by decide)) (fun c141 => ?_)
  refine lv_aload_n hx hb dX0_encode_213 rfl (lv_at hl 2 rfl) ?_
  refine lv_iload_n hx hb dX0_encode_214 rfl (lv_at hl 1 rfl) ?_
  refine lv_bipush (v := 8) hx hb dX0_encode_215 (by decide) ?_
  refine lv_iload_n hx hb dX0_encode_217 rfl (lv_at hl 0 rfl) ?_
  refine lv_imul hx hb dX0_encode_218  ?_
  refine lv_topi (fun x142 ex142 => ?_)
  obtain rfl : x142 = 24 := ex142.trans (by decide)
  refine lv_iushr hx hb dX0_encode_219 rfl ?_
  refine lv_topi (fun x143 ex143 => ?_)
  refine lv_sipush (v := 255) hx hb dX0_encode_220 (by decide) ?_
  refine lv_iand hx hb dX0_encode_223  ?_
  refine lv_topi (fun x144 ex144 => ?_)
  have hPc := hP.sub (ws' := [(Ad1, .inr (3, s138)), (Ad2, .inl (Ka0, 4000, .inl f139))]) [1, 2] rfl
  have hDc := hD.sub (ws' := [(Ad1, .inr (3, s138)), (Ad2, .inl (Ka0, 4000, .inl f139))]) [1, 2] (by decide) rfl
  have hKc := hK.sub (tys' := [(Ka0, .int)]) [0] rfl
  have hFc := va_free (wc := [(Ad1, .inr (3, s138)), (Ad2, .inl (Ka0, 4000, .inl f139))]) hD hS hA [1, 2] rfl
  refine va_callv (va_runV (As := [.int x144]) (rest := []) ⟨hx, hb, hml, hown, hts⟩ (z_X0_put_7 l dC dI H.size Ad1 s138 Ad2 f139 Ka0 x144 (fh_sub o_s138.2 [0, 1, 1, 1, 1, 1, 1, 1, 1, 1, 1, 1, 1, 1, 1, 1, 1, 1, 1, 1, 1, 1, 1, 1, 1, 1, 1, 1, 1, 1, 1, 1, 1, 1, 1, 1, 1, 1, 1, 1, 1, 1, 1, 1, 1, 1, 1, 1, 1, 1, 1, 1, 1, 1, 1, 1, 1, 1, 1, 1, 1, 1, 1, 1, 1, 1, 1, 1, 1, 1, 1, 1, 1, 1, 1, 1, 1, 1, 1, 1, 1, 1, 1, 1, 1, 1, 1, 1, 1, 1, 1, 1, 1, 1, 1, 1, 1, 1, 1, 1, 1, 1, 1, 1, 1, 1, 1, 1, 1, 1, 1, 1, 1, 1, 1, 1, 1, 1, 1, 1, 1, 1, 1, 1, 1, 1, 1, 1, 1, 1, 1, 1, 1, 1, 1, 1, 1, 1, 1, 1, 1, 1, 1, 1, 1, 1, 1, 1, 1, 1, 1, 1, 1, 1, 1, 1, 1, 1, 1, 1, 1, 1, 1, 1, 1, 1, 1, 1, 1, 1, 1, 1, 1, 1, 1, 1, 1, 1, 1, 1, 1, 1, 1, 1, 1, 1, 1, 1, 1, 1, 1, 1, 1, 1, 1, 1, 1, 1, 1, 1, 1, 1, 1, 1, 1, 1, 1, 1, 1, 1, 1, 1, 1, 1, 1, 1, 1, 1, 1, 1, 1, 1, 1, 1, 1, 1, 1, 1, 1, 1, 1, 1, 1, 1, 1, 1, 1, 1, 1, 1, 1, 1, 1, 1, 1, 1, 1, 1, 1, 1, 1, 1, 1, 1, 1, 1, 1, 1, 1, 1, 1, 1, 1, 1, 1, 1, 1, 1, 1, 1, 1, 1, 1, 1, 1, 1, 1, 1, 1, 1, 1, 1, 1, 1, 1, 1, 1, 1, 1] rfl) ) (cwV 1 hts g_z_X0_encode_z_X0_put_7_39 rfl rfl rfl (by decide +kernel) ⟨Nat.le_of_ble_eq_true rfl, Nat.le_of_ble_eq_true rfl⟩) ⟨fun a U g mk q => by obtain ⟨q0, q1, qP, qK, qD⟩ := q; exact ⟨q0, q1, qP, va_K.moved (u := U) (U := U.calling g mk a) (Vm.Alike.refl U.vm) qK, qD⟩, va_recv hK hP (ci := 3) (q0 := 1) rfl rfl, fun U hU hW => ⟨rfl, by rw [hU], by rw [hU]; exact hPc, va_K.moved hW.alike hKc, hDc.weaken (fun _ _ _ _ => trivial)⟩⟩ rfl rfl hl.1 rfl (lv_room (Nat.le_of_ble_eq_true rfl)) dX0_encode_224 ⟨Nat.le_of_ble_eq_true rfl, Nat.le_of_ble_eq_true rfl⟩) hS (fun q _ h => hFc q h) hFc (fun u t H1 locs ht hvm hw hB hz1 hk1 hS => ?_)
  obtain ⟨s145, f146⟩ := u
  obtain ⟨hP1, hK1, hD1⟩ := hB
  rw [ht] at hP1
  try dsimp only at hw
  obtain ⟨hP, hD⟩ := va_join (wr := [(Ad0, .inr (8, Fs0))]) (w1 := [(Ad1, .inr (3, s145)), (Ad2, .inl (Ka0, 4000, .inl f146))]) hP hD [1, 2] [0] rfl rfl (by decide) (by decide) hk1 hFc hP1 hD1
  have hK := hK.sub (tys' := [(Ka0, .int)]) [0] rfl
  generalize H1 = H at hP hS ⊢
  have hP : va_P (dC, dI) vwCl [(Ad0, .inr (8, Fs0)), (Ad1, .inr (3, s145)), (Ad2, .inl (Ka0, 4000, .inl f146))] H := hP
  have hD : va_D A [(Ad0, .inr (8, Fs0)), (Ad1, .inr (3, s145)), (Ad2, .inl (Ka0, 4000, .inl f146))] := hD
  obtain ⟨o_s145, q147⟩ := hw
  have o_s145 := ow_on o_s138 o_s145 (l' := (([(2, .int 8), (1, .ref Ad2), (1, .ref Ad2), (1, .ref Ad2), (1, .ref Ad2), (1, .ref Ad2), (1, .ref Ad2), (1, .ref Ad2), (1, .ref Ad2), (1, .ref Ad2), (1, .ref Ad2), (1, .ref Ad2), (1, .ref Ad2), (1, .ref Ad2), (1, .ref Ad2), (1, .ref Ad2)] : List (Nat × Value)) ++ (([(1, .ref Ad2), (1, .ref Ad2), (1, .ref Ad2), (1, .ref Ad2), (1, .ref Ad2), (1, .ref Ad2), (1, .ref Ad2), (1, .ref Ad2), (1, .ref Ad2), (1, .ref Ad2), (1, .ref Ad2), (1, .ref Ad2), (1, .ref Ad2), (1, .ref Ad2), (1, .ref Ad2), (1, .ref Ad2)] : List (Nat × Value)) ++ (([(1, .ref Ad2), (1, .ref Ad2), (1, .ref Ad2), (1, .ref Ad2), (1, .ref Ad2), (1, .ref Ad2), (1, .ref Ad2), (1, .ref Ad2), (1, .ref Ad2), (1, .ref Ad2), (1, .ref Ad2), (1, .ref Ad2), (1, .ref Ad2), (1, .ref Ad2), (1, .ref Ad2), (1, .ref Ad2)] : List (Nat × Value)) ++ (([(1, .ref Ad2), (1, .ref Ad2), (1, .ref Ad2), (1, .ref Ad2), (1, .ref Ad2), (1, .ref Ad2), (1, .ref Ad2), (1, .ref Ad2), (1, .ref Ad2), (1, .ref Ad2), (1, .ref Ad2), (1, .ref Ad2), (1, .ref Ad2), (1, .ref Ad2), (1, .ref Ad2), (1, .ref Ad2)] : List (Nat × Value)) ++ (([(1, .ref Ad2), (1, .ref Ad2), (1, .ref Ad2), (1, .ref Ad2), (1, .ref Ad2), (1, .ref Ad2), (1, .ref Ad2), (1, .ref Ad2), (1, .ref Ad2), (1, .ref Ad2), (1, .ref Ad2), (1, .ref Ad2), (1, .ref Ad2), (1, .ref Ad2), (1, .ref Ad2), (1, .ref Ad2)] : List (Nat × Value)) ++ (([(1, .ref Ad2), (1, .ref Ad2), (1, .ref Ad2), (1, .ref Ad2), (1, .ref Ad2), (1, .ref Ad2), (1, .ref Ad2), (1, .ref Ad2), (1, .ref Ad2), (1, .ref Ad2), (1, .ref Ad2), (1, .ref Ad2), (1, .ref Ad2), (1, .ref Ad2), (1, .ref Ad2), (1, .ref Ad2)] : List (Nat × Value)) ++ (([(1, .ref Ad2), (1, .ref Ad2), (1, .ref Ad2), (1, .ref Ad2), (1, .ref Ad2), (1, .ref Ad2), (1, .ref Ad2), (1, .ref Ad2), (1, .ref Ad2), (1, .ref Ad2), (1, .ref Ad2), (1, .ref Ad2), (1, .ref Ad2), (1, .ref Ad2), (1, .ref Ad2), (1, .ref Ad2)] : List (Nat × Value)) ++ (([(1, .ref Ad2), (1, .ref Ad2), (1, .ref Ad2), (1, .ref Ad2), (1, .ref Ad2), (1, .ref Ad2), (1, .ref Ad2), (1, .ref Ad2), (1, .ref Ad2), (1, .ref Ad2), (1, .ref Ad2), (1, .ref Ad2), (1, .ref Ad2), (1, .ref Ad2), (1, .ref Ad2), (1, .ref Ad2)] : List (Nat × Value)) ++ (([(1, .ref Ad2), (1, .ref Ad2), (1, .ref Ad2), (1, .ref Ad2), (1, .ref Ad2), (1, .ref Ad2), (1, .ref Ad2), (1, .ref Ad2), (1, .ref Ad2), (1, .ref Ad2), (1, .ref Ad2), (1, .ref Ad2), (1, .ref Ad2), (1, .ref Ad2), (1, .ref Ad2), (1, .ref Ad2)] : List (Nat × Value)) ++ (([(1, .ref Ad2), (1, .ref Ad2), (1, .ref Ad2), (1, .ref Ad2), (1, .ref Ad2), (1, .ref Ad2), (1, .ref Ad2), (1, .ref Ad2), (1, .ref Ad2), (1, .ref Ad2), (1, .ref Ad2), (1, .ref Ad2), (1, .ref Ad2), (1, .ref Ad2), (1, .ref Ad2), (1, .ref Ad2)] : List (Nat × Value)) ++ (([(1, .ref Ad2), (1, .ref Ad2), (1, .ref Ad2), (1, .ref Ad2), (1, .ref Ad2), (1, .ref Ad2), (1, .ref Ad2), (1, .ref Ad2), (1, .ref Ad2), (1, .ref Ad2), (1, .ref Ad2), (1, .ref Ad2), (1, .ref Ad2), (1, .ref Ad2), (1, .ref Ad2), (1, .ref Ad2)] : List (Nat × Value)) ++ (([(1, .ref Ad2), (1, .ref Ad2), (1, .ref Ad2), (1, .ref Ad2), (1, .ref Ad2), (1, .ref Ad2), (1, .ref Ad2), (1, .ref Ad2), (1, .ref Ad2), (1, .ref Ad2), (1, .ref Ad2), (1, .ref Ad2), (1, .ref Ad2), (1, .ref Ad2), (1, .ref Ad2), (1, .ref Ad2)] : List (Nat × Value)) ++ (([(1, .ref Ad2), (1, .ref Ad2), (1, .ref Ad2), (1, .ref Ad2), (1, .ref Ad2), (1, .ref Ad2), (1, .ref Ad2), (1, .ref Ad2), (1, .ref Ad2), (1, .ref Ad2), (1, .ref Ad2), (1, .ref Ad2), (1, .ref Ad2), (1, .ref Ad2), (1, .ref Ad2), (1, .ref Ad2)] : List (Nat × Value)) ++ (([(1, .ref Ad2), (1, .ref Ad2), (1, .ref Ad2), (1, .ref Ad2), (1, .ref Ad2), (1, .ref Ad2), (1, .ref Ad2), (1, .ref Ad2), (1, .ref Ad2), (1, .ref Ad2), (1, .ref Ad2), (1, .ref Ad2), (1, .ref Ad2), (1, .ref Ad2), (1, .ref Ad2), (1, .ref Ad2)] : List (Nat × Value)) ++ (([(1, .ref Ad2), (1, .ref Ad2), (1, .ref Ad2), (1, .ref Ad2), (1, .ref Ad2), (1, .ref Ad2), (1, .ref Ad2), (1, .ref Ad2), (1, .ref Ad2), (1, .ref Ad2), (1, .ref Ad2), (1, .ref Ad2), (1, .ref Ad2), (1, .ref Ad2), (1, .ref Ad2), (1, .ref Ad2)] : List (Nat × Value)) ++ (([(1, .ref Ad2), (1, .ref Ad2), (1, .ref Ad2), (1, .ref Ad2), (1, .ref Ad2), (1, .ref Ad2), (1, .ref Ad2), (1, .ref Ad2), (1, .ref Ad2), (1, .ref Ad2), (1, .ref Ad2), (1, .ref Ad2), (1, .ref Ad2), (1, .ref Ad2), (1, .ref Ad2), (1, .ref Ad2)] : List (Nat × Value)) ++ (([(1, .ref Ad2), (1, .ref Ad2), (1, .ref Ad2), (1, .ref Ad2), (1, .ref Ad2), (1, .ref Ad2), (1, .ref Ad2), (1, .ref Ad2), (1, .ref Ad2), (1, .ref Ad2), (1, .ref Ad2), (1, .ref Ad2), (1, .ref Ad2), (1, .ref Ad2), (1, .ref Ad2), (1, .ref Ad2)] : List (Nat × Value)) ++ (([(1, .ref Ad2), (1, .ref Ad2), (1, .ref Ad2), (1, .ref Ad2), (1, .ref Ad2), (1, .ref Ad2), (1, .ref Ad2), (1, .ref Ad2), (1, .ref Ad2), (1, .ref Ad2), (1, .ref Ad2), (1, .ref Ad2), (1, .ref Ad2), (1, .ref Ad2), (1, .ref Ad2), (1, .ref Ad2)] : List (Nat × Value)) ++ (([(1, .ref Ad2), (1, .ref Ad2), (1, .ref Ad2), (1, .ref Ad2), (1, .ref Ad2), (1, .ref Ad2), (1, .ref Ad2), (1, .ref Ad2), (1, .ref Ad2), (1, .ref Ad2), (1, .ref Ad2), (1, .ref Ad2), (1, .ref Ad2), (1, .ref Ad2), (1, .ref Ad2), (1, .ref Ad2)] : List (Nat × Value)) ++ (([(1, .ref Ad2), (1, .ref Ad2), (1, .ref Ad2), (1, .ref Ad2), (1, .ref Ad2), (1, .ref Ad2), (1, .ref Ad2), (1, .ref Ad2), (1, .ref Ad2), (1, .ref Ad2), (1, .ref Ad2), (1, .ref Ad2), (1, .ref Ad2), (1, .ref Ad2), (1, .ref Ad2), (1, .ref Ad2)] : List (Nat × Value)) ++ (([(1, .ref Ad2), (1, .ref Ad2), (1, .ref Ad2), (1, .ref Ad2), (1, .ref Ad2), (1, .ref Ad2), (1, .ref Ad2), (1, .ref Ad2), (1, .ref Ad2), (1, .ref Ad2), (1, .ref Ad2), (1, .ref Ad2), (1, .ref Ad2), (1, .ref Ad2), (1, .ref Ad2), (1, .ref Ad2)] : List (Nat × Value)) ++ (([(1, .ref Ad2), (1, .ref Ad2), (1, .ref Ad2), (1, .ref Ad2), (1, .ref Ad2), (1, .ref Ad2), (1, .ref Ad2), (1, .ref Ad2), (1, .ref Ad2), (1, .ref Ad2), (1, .ref Ad2), (1, .ref Ad2), (1, .ref Ad2), (1, .ref Ad2), (1, .ref Ad2), (1, .ref Ad2)] : List (Nat × Value)) ++ (([(1, .ref Ad2), (1, .ref Ad2), (1, .ref Ad2), (1, .ref Ad2), (1, .ref Ad2), (1, .ref Ad2), (1, .ref Ad2), (1, .ref Ad2), (1, .ref Ad2), (1, .ref Ad2), (1, .ref Ad2), (1, .ref Ad2), (1, .ref Ad2), (1, .ref Ad2), (1, .ref Ad2), (1, .ref Ad2)] : List (Nat × Value)) ++ (([(1, .ref Ad2), (1, .ref Ad2), (1, .ref Ad2), (1, .ref Ad2), (1, .ref Ad2), (1, .ref Ad2), (1, .ref Ad2), (1, .ref Ad2), (1, .ref Ad2), (1, .ref Ad2), (1, .ref Ad2), (1, .ref Ad2), (1, .ref Ad2), (1, .ref Ad2), (1, .ref Ad2), (1, .ref Ad2)] : List (Nat × Value)) ++ (([(1, .ref Ad2), (1, .ref Ad2), (1, .ref Ad2), (1, .ref Ad2), (1, .ref Ad2), (1, .ref Ad2), (1, .ref Ad2), (1, .ref Ad2), (1, .ref Ad2), (1, .ref Ad2), (1, .ref Ad2), (1, .ref Ad2), (1, .ref Ad2), (1, .ref Ad2), (1, .ref Ad2), (1, .ref Ad2)] : List (Nat × Value)) ++ (([(1, .ref Ad2), (1, .ref Ad2), (1, .ref Ad2), (1, .ref Ad2), (1, .ref Ad2), (1, .ref Ad2), (1, .ref Ad2), (1, .ref Ad2), (1, .ref Ad2), (1, .ref Ad2), (1, .ref Ad2), (1, .ref Ad2), (1, .ref Ad2), (1, .ref Ad2), (1, .ref Ad2), (1, .ref Ad2)] : List (Nat × Value)) ++ (([(1, .ref Ad2), (1, .ref Ad2), (1, .ref Ad2), (1, .ref Ad2), (1, .ref Ad2), (1, .ref Ad2), (1, .ref Ad2), (1, .ref Ad2), (1, .ref Ad2), (1, .ref Ad2), (1, .ref Ad2), (1, .ref Ad2), (1, .ref Ad2), (1, .ref Ad2), (1, .ref Ad2), (1, .ref Ad2)] : List (Nat × Value)) ++ (([(1, .ref Ad2), (1, .ref Ad2), (1, .ref Ad2), (1, .ref Ad2), (1, .ref Ad2), (1, .ref Ad2), (1, .ref Ad2), (1, .ref Ad2), (1, .ref Ad2), (1, .ref Ad2), (1, .ref Ad2), (1, .ref Ad2), (1, .ref Ad2), (1, .ref Ad2), (1, .ref Ad2), (1, .ref Ad2)] : List (Nat × Value)) ++ (([(1, .ref Ad2), (1, .ref Ad2), (1, .ref Ad2), (1, .ref Ad2), (1, .ref Ad2), (1, .ref Ad2), (1, .ref Ad2), (1, .ref Ad2), (1, .ref Ad2), (1, .ref Ad2), (1, .ref Ad2), (1, .ref Ad2), (1, .ref Ad2), (1, .ref Ad2), (1, .ref Ad2), (1, .ref Ad2)] : List (Nat × Value)) ++ (([(1, .ref Ad2), (1, .ref Ad2), (1, .ref Ad2), (1, .ref Ad2), (1, .ref Ad2), (1, .ref Ad2), (1, .ref Ad2), (1, .ref Ad2), (1, .ref Ad2), (1, .ref Ad2), (1, .ref Ad2), (1, .ref Ad2), (1, .ref Ad2), (1, .ref Ad2), (1, .ref Ad2), (1, .ref Ad2)] : List (Nat × Value)) ++ (([(1, .ref Ad2), (1, .ref Ad2), (1, .ref Ad2), (1, .ref Ad2), (1, .ref Ad2), (1, .ref Ad2), (1, .ref Ad2), (1, .ref Ad2), (1, .ref Ad2), (1, .ref Ad2), (1, .ref Ad2), (1, .ref Ad2), (1, .ref Ad2), (1, .ref Ad2), (1, .ref Ad2), (1, .ref Ad2)] : List (Nat × Value)) ++ (([(1, .ref Ad2), (1, .ref Ad2), (1, .ref Ad2), (1, .ref Ad2), (1, .ref Ad2), (1, .ref Ad2), (1, .ref Ad2), (1, .ref Ad2), (1, .ref Ad2), (1, .ref Ad2), (1, .ref Ad2), (1, .ref Ad2), (1, .ref Ad2), (1, .ref Ad2), (1, .ref Ad2), (1, .ref Ad2)] : List (Nat × Value)) ++ (([(1, .ref Ad2), (1, .ref Ad2), (1, .ref Ad2), (1, .ref Ad2), (1, .ref Ad2), (1, .ref Ad2), (1, .ref Ad2), (1, .ref Ad2), (1, .ref Ad2), (1, .ref Ad2), (1, .ref Ad2), (1, .ref Ad2), (1, .ref Ad2), (1, .ref Ad2), (1, .ref Ad2), (1, .ref Ad2)] : List (Nat × Value)) ++ (([(1, .ref Ad2), (1, .ref Ad2), (1, .ref Ad2), (1, .ref Ad2), (1, .ref Ad2), (1, .ref Ad2), (1, .ref Ad2), (1, .ref Ad2), (1, .ref Ad2), (1, .ref Ad2), (1, .ref Ad2), (1, .ref Ad2), (1, .ref Ad2), (1, .ref Ad2), (1, .ref Ad2), (1, .ref Ad2)] : List (Nat × Value)) ++ (([(1, .ref Ad2), (1, .ref Ad2), (1, .ref Ad2), (1, .ref Ad2), (1, .ref Ad2), (1, .ref Ad2), (1, .ref Ad2), (1, .ref Ad2), (1, .ref Ad2), (1, .ref Ad2), (1, .ref Ad2), (1, .ref Ad2), (1, .ref Ad2), (1, .ref Ad2), (1, .ref Ad2), (1, .ref Ad2)] : List (Nat × Value)) ++ (([(1, .ref Ad2), (1, .ref Ad2), (1, .ref Ad2), (1, .ref Ad2), (1, .ref Ad2), (1, .ref Ad2), (1, .ref Ad2), (1, .ref Ad2), (1, .ref Ad2), (1, .ref Ad2), (1, .ref Ad2), (1, .ref Ad2), (1, .ref Ad2), (1, .ref Ad2), (1, .ref Ad2), (1, .ref Ad2)] : List (Nat × Value)) ++ (([(1, .ref Ad2)] : List (Nat × Value)))))))))))))))))))))))))))))))))))))))) (w' := [2]) rfl rfl
  refine lv_iinc (v := 4) (lv' := [(3, .int 4), (2, .int r119), (0, .ref Ad1), (1, .ref Ad0)]) hx hb dX0_encode_227 hl (k := 0) rfl (by decide) (by decide) rfl (fun ls hl => ?_)
  refine lv_goto (tgt := 208) hx hb dX0_encode_230 (by decide) ?_
  refine lv_iload_n hx hb dX0_encode_208 rfl (lv_at hl 0 rfl) ?_
  refine lv_iconst (v := 4) hx hb dX0_encode_209 (by decide) ?_
  refine lv_icmp_ge (tgt := 233) hx hb dX0_encode_210 (by decide) (fun c148 => ?_) (fun c148 => absurd c148 (by decide))
  refine lv_aload_n hx hb dX0_encode_233 rfl (lv_at hl 2 rfl) ?_
  refine va_get (D := (dC, dI)) (ci := 3) (v := .int 8) (C := RX0) (T := TX0) (N := 15) hx hb hts (in_z_X0_encode_X0) hown hK hP 1 rfl rfl 2 (by decide) (hts (.fieldLink RX0 35 "HeapWorks$Archive" "filled" "I") (by decide +kernel)) (fun _ h9 => h9) (ow_at o_s145 0 rfl) dX0_encode_234 ?_
  have hP9 := hP.sub (ws' := [(Ad0, .inr (8, Fs0)), (Ad1, .inr (3, s145)), (Ad2, .inl (Ka0, 4000, .inl f146))]) [0, 1, 2] rfl
  have hD9 := hD.sub (ws' := [(Ad0, .inr (8, Fs0)), (Ad1, .inr (3, s145)), (Ad2, .inl (Ka0, 4000, .inl f146))]) [0, 1, 2] (by decide) rfl
  have hK9 := hK.sub (tys' := [(Ka0, .int)]) [0] rfl
  exact W.iret (v := 8) hx hb hr (fun t ht hW => ⟨⟨8, (s145, f146), rfl, ⟨rfl, o_s145⟩, by rw [ht]; exact hP9, va_K.moved hW.alike hK9, hD9⟩, hS.F ht⟩) hS.2.2 dX0_encode_237

def l_z_X11_bytes : List Cond := [.methodLink RX11 353 yX11_needPicture, .static yX11_needPicture, .initialized RX11, .fieldLink RX11 91 "HeapWorks" "archive" "LHeapWorks$Archive;", .fieldLink RX11 41 "HeapWorks" "pictures" "[LHeapWorks$Picture;", .methodLink RX11 501 yX0_encode, .instanceMethod yX0_encode, .selects RX0 yX0_encode yX0_encode, .initialized RX0, .fieldLink RX11 505 "HeapWorks$Archive" "buffer" "[I", .fieldLink RX11 12 "HeapWorks" "tape" "LHeapWorks$Tape;", .fieldLink RX11 113 "HeapWorks$Tape" "bytes" "[I", .methodLink RX11 508 arraycopyName, .native arraycopyName, .static arraycopyName, .initialized "java/lang/System", .fieldLink RX11 110 "HeapWorks$Tape" "size" "I", .code yX11_needPicture cX11_needPicture 1 none, .methodLink RX11 411 yX11_isPicture, .static yX11_isPicture, .classLink RX11 120 "java/lang/IndexOutOfBoundsException", .initialized "java/lang/IndexOutOfBoundsException", .code yX11_isPicture cX11_isPicture 1 (some .boolean), .code yX0_encode cX0_encode 6 (some .int), .fieldLink RX0 35 "HeapWorks$Archive" "filled" "I", .methodLink RX0 39 yX0_put, .instanceMethod yX0_put, .selects RX0 yX0_put yX0_put, .fieldLink RX0 43 "HeapWorks$Picture" "things" "I", .methodLink RX0 46 yX0_putNumber, .instanceMethod yX0_putNumber, .selects RX0 yX0_putNumber yX0_putNumber, .fieldLink RX0 70 "HeapWorks$Picture" "roots" "I", .fieldLink RX0 19 "HeapWorks$Archive" "buffer" "[I", .methodLink RX0 79 Lib.Math.min.name, .static Lib.Math.min.name, .initialized "java/lang/Math", .code Lib.Math.min.name Lib.Math.min.code 2 (some .int), .methodLink RX0 85 yX0_checkOf, .static yX0_checkOf, .code yX0_put cX0_put 2 none, .code yX0_putNumber cX0_putNumber 6 none, .code yX0_checkOf cX0_checkOf 5 (some .int), .constant RX0 91 (16777619)]
def w_z_X11_bytes : List Cond := .code yX11_bytes cX11_bytes 3 (some .int) :: (l_z_X11_bytes ++ ((wsX110 ++ (wsX00 ++ (wsX90 ++ (((vx_at0 RX11 122 "java/lang/IndexOutOfBoundsException" ["java/lang/RuntimeException", "java/lang/Exception"]).filter goodWord) ++ wsX50))))))
theorem in_z_X11_bytes_X11 : ∀ w ∈ wsX110, w ∈ w_z_X11_bytes := fun w h => List.mem_cons_of_mem _ (List.mem_append_right _ (List.mem_append_left _ h))
theorem in_z_X11_bytes_X0 : ∀ w ∈ wsX00, w ∈ w_z_X11_bytes := fun w h => List.mem_cons_of_mem _ (List.mem_append_right _ (List.mem_append_right _ (List.mem_append_left _ h)))
theorem in_z_X11_bytes_X9 : ∀ w ∈ wsX90, w ∈ w_z_X11_bytes := fun w h => List.mem_cons_of_mem _ (List.mem_append_right _ (List.mem_append_right _ (List.mem_append_right _ (List.mem_append_left _ h))))
theorem in_z_X11_bytes_at0_X11_122 : ∀ w ∈ ((vx_at0 RX11 122 "java/lang/IndexOutOfBoundsException" ["java/lang/RuntimeException", "java/lang/Exception"]).filter goodWord), w ∈ w_z_X11_bytes := fun w h => List.mem_cons_of_mem _ (List.mem_append_right _ (List.mem_append_right _ (List.mem_append_right _ (List.mem_append_right _ (List.mem_append_left _ h)))))
theorem in_z_X11_bytes_X5 : ∀ w ∈ wsX50, w ∈ w_z_X11_bytes := fun w h => List.mem_cons_of_mem _ (List.mem_append_right _ (List.mem_append_right _ (List.mem_append_right _ (List.mem_append_right _ (List.mem_append_right _ (h))))))
theorem g_z_X11_bytes_z_X11_needPicture_353 : GoodIn w_z_X11_bytes (wsS RX11 353 yX11_needPicture w_z_X11_needPicture) := goodIn_app (goodIn_r (([.methodLink RX11 353 yX11_needPicture, .static yX11_needPicture, .initialized RX11] : List Cond)) [1, 2, 3] rfl (by decide +kernel)) (goodIn_ca (goodIn_r (.code yX11_needPicture cX11_needPicture 1 none :: l_z_X11_needPicture) [18, 19, 20, 3, 21, 22, 23] rfl (by decide +kernel)) (goodIn_in (in_z_X11_bytes_at0_X11_122) gd_at0_X11_122))
theorem g_z_X11_bytes_z_X0_encode_501 : GoodIn w_z_X11_bytes (wsV RX11 501 RX0 yX0_encode w_z_X0_encode) := goodIn_app (goodIn_r (([.methodLink RX11 501 yX0_encode, .instanceMethod yX0_encode, .selects RX0 yX0_encode yX0_encode, .initialized RX0] : List Cond)) [6, 7, 8, 9] rfl (by decide +kernel)) (goodIn_ca (goodIn_r (.code yX0_encode cX0_encode 6 (some .int) :: l_z_X0_encode) [24, 25, 26, 27, 28, 9, 29, 30, 31, 32, 33, 34, 35, 36, 37, 38, 39, 40, 41, 42, 43, 44] rfl (by decide +kernel)) (goodIn_app (goodIn_in (in_z_X11_bytes_X0) gd_X0) (goodIn_in (in_z_X11_bytes_X5) gd_X5)))
set_option maxHeartbeats 4000000 in
set_option maxRecDepth 100000 in
theorem z_X11_bytes (l : Launch) (dC : Nat → ClassId) (dI : Nat → Nat → Nat) (sz : Nat) (Ad0 : Nat) (Fs0 : List Value) (Ad1 : Nat) (Fs1 : List Value) (Ad2 : Nat) (Fa0 : Nat → Int32) (Ka0 : ClassId) (Ad3 : Nat) (Fa1 : Nat → Option Nat) (Ka1 : ClassId) (Ad4 : Nat) (Fs2 : List Value) (Ad5 : Nat) (Fs3 : List Value) (Ad6 : Nat) (Fa2 : Nat → Int32) (Ka2 : ClassId) (Va0 : Int32) (k_Fs0 : fh Fs0 18 [(0, .ref Ad1), (4, .ref Ad3), (13, .ref Ad5)]) (k_Fs1 : fh Fs1 12 [(0, .ref Ad2)]) (k_Fs2 : fh Fs2 21 [(0, .int 0), (11, .int 0)]) (k_Fs3 : fh Fs3 15 [(1, .ref Ad6)]) (hst : l.stackTraces = false) (hg0 : Fa1 Va0.toNatClampNeg = some Ad4) : vx_Met l yX11_bytes w_z_X11_bytes ({ frames := 8, cells := 1, slots := 6, locals := 160 }) (va_Pc [.ref Ad0, .int Va0] (fun U => U.heap.size = sz ∧ Zz (va_A [(Ad0, .inr (14, Fs0)), (Ad1, .inr (12, Fs1)), (Ad2, .inl (Ka0, 4000, .inl Fa0)), (Ad3, .inl (Ka1, 4, .inr (.inr (.inr (.inr Fa1))))), (Ad4, .inr (8, Fs2)), (Ad5, .inr (3, Fs3)), (Ad6, .inl (Ka2, 4000, .inl Fa2))] sz) U ∧ Wd dC dI [(Ka0, .int), (Ka1, .object "HeapWorks$Picture"), (Ka2, .int)] (fun _ => True) [(Ad0, .inr (14, Fs0)), (Ad1, .inr (12, Fs1)), (Ad2, .inl (Ka0, 4000, .inl Fa0)), (Ad3, .inl (Ka1, 4, .inr (.inr (.inr (.inr Fa1))))), (Ad4, .inr (8, Fs2)), (Ad5, .inr (3, Fs3)), (Ad6, .inl (Ka2, 4000, .inl Fa2))] U)) (va_Qi (fun (r : Int32) (u : List Value × (Nat → Int32) × List Value × (Nat → Int32)) => (¬ Va0 < 0 ∧ ¬ 4 ≤ Va0 ∧ r = 8 ∧ ow Fs1 (u.1) 12 [1] [(1, .int 8), (0, .ref Ad2)] ∧ ow Fs3 (u.2.2.1) 15 [2] (([(2, .int 8), (1, .ref Ad6), (1, .ref Ad6), (1, .ref Ad6), (1, .ref Ad6), (1, .ref Ad6), (1, .ref Ad6), (1, .ref Ad6), (1, .ref Ad6), (1, .ref Ad6), (1, .ref Ad6), (1, .ref Ad6), (1, .ref Ad6), (1, .ref Ad6), (1, .ref Ad6), (1, .ref Ad6)] : List (Nat × Value)) ++ (([(1, .ref Ad6), (1, .ref Ad6), (1, .ref Ad6), (1, .ref Ad6), (1, .ref Ad6), (1, .ref Ad6), (1, .ref Ad6), (1, .ref Ad6), (1, .ref Ad6), (1, .ref Ad6), (1, .ref Ad6), (1, .ref Ad6), (1, .ref Ad6), (1, .ref Ad6), (1, .ref Ad6), (1, .ref Ad6)] : List (Nat × Value)) ++ (([(1, .ref Ad6), (1, .ref Ad6), (1, .ref Ad6), (1, .ref Ad6), (1, .ref Ad6), (1, .ref Ad6), (1, .ref Ad6), (1, .ref Ad6), (1, .ref Ad6), (1, .ref Ad6), (1, .ref Ad6), (1, .ref Ad6), (1, .ref Ad6), (1, .ref Ad6), (1, .ref Ad6), (1, .ref Ad6)] : List (Nat × Value)) ++ (([(1, .ref Ad6), (1, .ref Ad6), (1, .ref Ad6), (1, .ref Ad6), (1, .ref Ad6), (1, .ref Ad6), (1, .ref Ad6), (1, .ref Ad6), (1, .ref Ad6), (1, .ref Ad6), (1, .ref Ad6), (1, .ref Ad6), (1, .ref Ad6), (1, .ref Ad6), (1, .ref Ad6), (1, .ref Ad6)] : List (Nat × Value)) ++ (([(1, .ref Ad6), (1, .ref Ad6), (1, .ref Ad6), (1, .ref Ad6), (1, .ref Ad6), (1, .ref Ad6), (1, .ref Ad6), (1, .ref Ad6), (1, .ref Ad6), (1, .ref Ad6), (1, .ref Ad6), (1, .ref Ad6), (1, .ref Ad6), (1, .ref Ad6), (1, .ref Ad6), (1, .ref Ad6)] : List (Nat × Value)) ++ (([(1, .ref Ad6), (1, .ref Ad6), (1, .ref Ad6), (1, .ref Ad6), (1, .ref Ad6), (1, .ref Ad6), (1, .ref Ad6), (1, .ref Ad6), (1, .ref Ad6), (1, .ref Ad6), (1, .ref Ad6), (1, .ref Ad6), (1, .ref Ad6), (1, .ref Ad6), (1, .ref Ad6), (1, .ref Ad6)] : List (Nat × Value)) ++ (([(1, .ref Ad6), (1, .ref Ad6), (1, .ref Ad6), (1, .ref Ad6), (1, .ref Ad6), (1, .ref Ad6), (1, .ref Ad6), (1, .ref Ad6), (1, .ref Ad6), (1, .ref Ad6), (1, .ref Ad6), (1, .ref Ad6), (1, .ref Ad6), (1, .ref Ad6), (1, .ref Ad6), (1, .ref Ad6)] : List (Nat × Value)) ++ (([(1, .ref Ad6), (1, .ref Ad6), (1, .ref Ad6), (1, .ref Ad6), (1, .ref Ad6), (1, .ref Ad6), (1, .ref Ad6), (1, .ref Ad6), (1, .ref Ad6), (1, .ref Ad6), (1, .ref Ad6), (1, .ref Ad6), (1, .ref Ad6), (1, .ref Ad6), (1, .ref Ad6), (1, .ref Ad6)] : List (Nat × Value)) ++ (([(1, .ref Ad6), (1, .ref Ad6), (1, .ref Ad6), (1, .ref Ad6), (1, .ref Ad6), (1, .ref Ad6), (1, .ref Ad6), (1, .ref Ad6), (1, .ref Ad6), (1, .ref Ad6), (1, .ref Ad6), (1, .ref Ad6), (1, .ref Ad6), (1, .ref Ad6), (1, .ref Ad6), (1, .ref Ad6)] : List (Nat × Value)) ++ (([(1, .ref Ad6), (1, .ref Ad6), (1, .ref Ad6), (1, .ref Ad6), (1, .ref Ad6), (1, .ref Ad6), (1, .ref Ad6), (1, .ref Ad6), (1, .ref Ad6), (1, .ref Ad6), (1, .ref Ad6), (1, .ref Ad6), (1, .ref Ad6), (1, .ref Ad6), (1, .ref Ad6), (1, .ref Ad6)] : List (Nat × Value)) ++ (([(1, .ref Ad6), (1, .ref Ad6), (1, .ref Ad6), (1, .ref Ad6), (1, .ref Ad6), (1, .ref Ad6), (1, .ref Ad6), (1, .ref Ad6), (1, .ref Ad6), (1, .ref Ad6), (1, .ref Ad6), (1, .ref Ad6), (1, .ref Ad6), (1, .ref Ad6), (1, .ref Ad6), (1, .ref Ad6)] : List (Nat × Value)) ++ (([(1, .ref Ad6), (1, .ref Ad6), (1, .ref Ad6), (1, .ref Ad6), (1, .ref Ad6), (1, .ref Ad6), (1, .ref Ad6), (1, .ref Ad6), (1, .ref Ad6), (1, .ref Ad6), (1, .ref Ad6), (1, .ref Ad6), (1, .ref Ad6), (1, .ref Ad6), (1, .ref Ad6), (1, .ref Ad6)] : List (Nat × Value)) ++ (([(1, .ref Ad6), (1, .ref Ad6), (1, .ref Ad6), (1, .ref Ad6), (1, .ref Ad6), (1, .ref Ad6), (1, .ref Ad6), (1, .ref Ad6), (1, .ref Ad6), (1, .ref Ad6), (1, .ref Ad6), (1, .ref Ad6), (1, .ref Ad6), (1, .ref Ad6), (1, .ref Ad6), (1, .ref Ad6)] : List (Nat × Value)) ++ (([(1, .ref Ad6), (1, .ref Ad6), (1, .ref Ad6), (1, .ref Ad6), (1, .ref Ad6), (1, .ref Ad6), (1, .ref Ad6), (1, .ref Ad6), (1, .ref Ad6), (1, .ref Ad6), (1, .ref Ad6), (1, .ref Ad6), (1, .ref Ad6), (1, .ref Ad6), (1, .ref Ad6), (1, .ref Ad6)] : List (Nat × Value)) ++ (([(1, .ref Ad6), (1, .ref Ad6), (1, .ref Ad6), (1, .ref Ad6), (1, .ref Ad6), (1, .ref Ad6), (1, .ref Ad6), (1, .ref Ad6), (1, .ref Ad6), (1, .ref Ad6), (1, .ref Ad6), (1, .ref Ad6), (1, .ref Ad6), (1, .ref Ad6), (1, .ref Ad6), (1, .ref Ad6)] : List (Nat × Value)) ++ (([(1, .ref Ad6), (1, .ref Ad6), (1, .ref Ad6), (1, .ref Ad6), (1, .ref Ad6), (1, .ref Ad6), (1, .ref Ad6), (1, .ref Ad6), (1, .ref Ad6), (1, .ref Ad6), (1, .ref Ad6), (1, .ref Ad6), (1, .ref Ad6), (1, .ref Ad6), (1, .ref Ad6), (1, .ref Ad6)] : List (Nat × Value)) ++ (([(1, .ref Ad6), (1, .ref Ad6), (1, .ref Ad6), (1, .ref Ad6), (1, .ref Ad6), (1, .ref Ad6), (1, .ref Ad6), (1, .ref Ad6), (1, .ref Ad6), (1, .ref Ad6), (1, .ref Ad6), (1, .ref Ad6), (1, .ref Ad6), (1, .ref Ad6), (1, .ref Ad6), (1, .ref Ad6)] : List (Nat × Value)) ++ (([(1, .ref Ad6), (1, .ref Ad6), (1, .ref Ad6), (1, .ref Ad6), (1, .ref Ad6), (1, .ref Ad6), (1, .ref Ad6), (1, .ref Ad6), (1, .ref Ad6), (1, .ref Ad6), (1, .ref Ad6), (1, .ref Ad6), (1, .ref Ad6), (1, .ref Ad6), (1, .ref Ad6), (1, .ref Ad6)] : List (Nat × Value)) ++ (([(1, .ref Ad6), (1, .ref Ad6), (1, .ref Ad6), (1, .ref Ad6), (1, .ref Ad6), (1, .ref Ad6), (1, .ref Ad6), (1, .ref Ad6), (1, .ref Ad6), (1, .ref Ad6), (1, .ref Ad6), (1, .ref Ad6), (1, .ref Ad6), (1, .ref Ad6), (1, .ref Ad6), (1, .ref Ad6)] : List (Nat × Value)) ++ (([(1, .ref Ad6), (1, .ref Ad6), (1, .ref Ad6), (1, .ref Ad6), (1, .ref Ad6), (1, .ref Ad6), (1, .ref Ad6), (1, .ref Ad6), (1, .ref Ad6), (1, .ref Ad6), (1, .ref Ad6), (1, .ref Ad6), (1, .ref Ad6), (1, .ref Ad6), (1, .ref Ad6), (1, .ref Ad6)] : List (Nat × Value)) ++ (([(1, .ref Ad6), (1, .ref Ad6), (1, .ref Ad6), (1, .ref Ad6), (1, .ref Ad6), (1, .ref Ad6), (1, .ref Ad6), (1, .ref Ad6), (1, .ref Ad6), (1, .ref Ad6), (1, .ref Ad6), (1, .ref Ad6), (1, .ref Ad6), (1, .ref Ad6), (1, .ref Ad6), (1, .ref Ad6)] : List (Nat × Value)) ++ (([(1, .ref Ad6), (1, .ref Ad6), (1, .ref Ad6), (1, .ref Ad6), (1, .ref Ad6), (1, .ref Ad6), (1, .ref Ad6), (1, .ref Ad6), (1, .ref Ad6), (1, .ref Ad6), (1, .ref Ad6), (1, .ref Ad6), (1, .ref Ad6), (1, .ref Ad6), (1, .ref Ad6), (1, .ref Ad6)] : List (Nat × Value)) ++ (([(1, .ref Ad6), (1, .ref Ad6), (1, .ref Ad6), (1, .ref Ad6), (1, .ref Ad6), (1, .ref Ad6), (1, .ref Ad6), (1, .ref Ad6), (1, .ref Ad6), (1, .ref Ad6), (1, .ref Ad6), (1, .ref Ad6), (1, .ref Ad6), (1, .ref Ad6), (1, .ref Ad6), (1, .ref Ad6)] : List (Nat × Value)) ++ (([(1, .ref Ad6), (1, .ref Ad6), (1, .ref Ad6), (1, .ref Ad6), (1, .ref Ad6), (1, .ref Ad6), (1, .ref Ad6), (1, .ref Ad6), (1, .ref Ad6), (1, .ref Ad6), (1, .ref Ad6), (1, .ref Ad6), (1, .ref Ad6), (1, .ref Ad6), (1, .ref Ad6), (1, .ref Ad6)] : List (Nat × Value)) ++ (([(1, .ref Ad6), (1, .ref Ad6), (1, .ref Ad6), (1, .ref Ad6), (1, .ref Ad6), (1, .ref Ad6), (1, .ref Ad6), (1, .ref Ad6), (1, .ref Ad6), (1, .ref Ad6), (1, .ref Ad6), (1, .ref Ad6), (1, .ref Ad6), (1, .ref Ad6), (1, .ref Ad6), (1, .ref Ad6)] : List (Nat × Value)) ++ (([(1, .ref Ad6), (1, .ref Ad6), (1, .ref Ad6), (1, .ref Ad6), (1, .ref Ad6), (1, .ref Ad6), (1, .ref Ad6), (1, .ref Ad6), (1, .ref Ad6), (1, .ref Ad6), (1, .ref Ad6), (1, .ref Ad6), (1, .ref Ad6), (1, .ref Ad6), (1, .ref Ad6), (1, .ref Ad6)] : List (Nat × Value)) ++ (([(1, .ref Ad6), (1, .ref Ad6), (1, .ref Ad6), (1, .ref Ad6), (1, .ref Ad6), (1, .ref Ad6), (1, .ref Ad6), (1, .ref Ad6), (1, .ref Ad6), (1, .ref Ad6), (1, .ref Ad6), (1, .ref Ad6), (1, .ref Ad6), (1, .ref Ad6), (1, .ref Ad6), (1, .ref Ad6)] : List (Nat × Value)) ++ (([(1, .ref Ad6), (1, .ref Ad6), (1, .ref Ad6), (1, .ref Ad6), (1, .ref Ad6), (1, .ref Ad6), (1, .ref Ad6), (1, .ref Ad6), (1, .ref Ad6), (1, .ref Ad6), (1, .ref Ad6), (1, .ref Ad6), (1, .ref Ad6), (1, .ref Ad6), (1, .ref Ad6), (1, .ref Ad6)] : List (Nat × Value)) ++ (([(1, .ref Ad6), (1, .ref Ad6), (1, .ref Ad6), (1, .ref Ad6), (1, .ref Ad6), (1, .ref Ad6), (1, .ref Ad6), (1, .ref Ad6), (1, .ref Ad6), (1, .ref Ad6), (1, .ref Ad6), (1, .ref Ad6), (1, .ref Ad6), (1, .ref Ad6), (1, .ref Ad6), (1, .ref Ad6)] : List (Nat × Value)) ++ (([(1, .ref Ad6), (1, .ref Ad6), (1, .ref Ad6), (1, .ref Ad6), (1, .ref Ad6), (1, .ref Ad6), (1, .ref Ad6), (1, .ref Ad6), (1, .ref Ad6), (1, .ref Ad6), (1, .ref Ad6), (1, .ref Ad6), (1, .ref Ad6), (1, .ref Ad6), (1, .ref Ad6), (1, .ref Ad6)] : List (Nat × Value)) ++ (([(1, .ref Ad6), (1, .ref Ad6), (1, .ref Ad6), (1, .ref Ad6), (1, .ref Ad6), (1, .ref Ad6), (1, .ref Ad6), (1, .ref Ad6), (1, .ref Ad6), (1, .ref Ad6), (1, .ref Ad6), (1, .ref Ad6), (1, .ref Ad6), (1, .ref Ad6), (1, .ref Ad6), (1, .ref Ad6)] : List (Nat × Value)) ++ (([(1, .ref Ad6), (1, .ref Ad6), (1, .ref Ad6), (1, .ref Ad6), (1, .ref Ad6), (1, .ref Ad6), (1, .ref Ad6), (1, .ref Ad6), (1, .ref Ad6), (1, .ref Ad6), (1, .ref Ad6), (1, .ref Ad6), (1, .ref Ad6), (1, .ref Ad6), (1, .ref Ad6), (1, .ref Ad6)] : List (Nat × Value)) ++ (([(1, .ref Ad6), (1, .ref Ad6), (1, .ref Ad6), (1, .ref Ad6), (1, .ref Ad6), (1, .ref Ad6), (1, .ref Ad6), (1, .ref Ad6), (1, .ref Ad6), (1, .ref Ad6), (1, .ref Ad6), (1, .ref Ad6), (1, .ref Ad6), (1, .ref Ad6), (1, .ref Ad6), (1, .ref Ad6)] : List (Nat × Value)) ++ (([(1, .ref Ad6), (1, .ref Ad6), (1, .ref Ad6), (1, .ref Ad6), (1, .ref Ad6), (1, .ref Ad6), (1, .ref Ad6), (1, .ref Ad6), (1, .ref Ad6), (1, .ref Ad6), (1, .ref Ad6), (1, .ref Ad6), (1, .ref Ad6), (1, .ref Ad6), (1, .ref Ad6), (1, .ref Ad6)] : List (Nat × Value)) ++ (([(1, .ref Ad6), (1, .ref Ad6), (1, .ref Ad6), (1, .ref Ad6), (1, .ref Ad6), (1, .ref Ad6), (1, .ref Ad6), (1, .ref Ad6), (1, .ref Ad6), (1, .ref Ad6), (1, .ref Ad6), (1, .ref Ad6), (1, .ref Ad6), (1, .ref Ad6), (1, .ref Ad6), (1, .ref Ad6)] : List (Nat × Value)) ++ (([(1, .ref Ad6), (1, .ref Ad6), (1, .ref Ad6), (1, .ref Ad6), (1, .ref Ad6), (1, .ref Ad6), (1, .ref Ad6), (1, .ref Ad6), (1, .ref Ad6), (1, .ref Ad6), (1, .ref Ad6), (1, .ref Ad6), (1, .ref Ad6), (1, .ref Ad6), (1, .ref Ad6), (1, .ref Ad6)] : List (Nat × Value)) ++ (([(1, .ref Ad6), (1, .ref Ad6)] : List (Nat × Value))))))))))))))))))))))))))))))))))))))))) (fun (u : List Value × (Nat → Int32) × List Value × (Nat → Int32)) t => Wd dC dI [(Ka0, .int), (Ka1, .object "HeapWorks$Picture"), (Ka2, .int)] (va_A [(Ad0, .inr (14, Fs0)), (Ad1, .inr (12, Fs1)), (Ad2, .inl (Ka0, 4000, .inl Fa0)), (Ad3, .inl (Ka1, 4, .inr (.inr (.inr (.inr Fa1))))), (Ad4, .inr (8, Fs2)), (Ad5, .inr (3, Fs3)), (Ad6, .inl (Ka2, 4000, .inl Fa2))] sz) [(Ad0, .inr (14, Fs0)), (Ad1, .inr (12, (u.1))), (Ad2, .inl (Ka0, 4000, .inl ((u.2.1)))), (Ad3, .inl (Ka1, 4, .inr (.inr (.inr (.inr Fa1))))), (Ad4, .inr (8, Fs2)), (Ad5, .inr (3, (u.2.2.1))), (Ad6, .inl (Ka2, 4000, .inl ((u.2.2.2))))] t) (va_A [(Ad0, .inr (14, Fs0)), (Ad1, .inr (12, Fs1)), (Ad2, .inl (Ka0, 4000, .inl Fa0)), (Ad3, .inl (Ka1, 4, .inr (.inr (.inr (.inr Fa1))))), (Ad4, .inr (8, Fs2)), (Ad5, .inr (3, Fs3)), (Ad6, .inl (Ka2, 4000, .inl Fa2))] sz)) (vx_X (fun _ : Unit => True) (fun E _ _ => (E = "java/lang/IndexOutOfBoundsException" ∧ Va0 < 0) ∨ (E = "java/lang/IndexOutOfBoundsException" ∧ ¬ Va0 < 0 ∧ 4 ≤ Va0)) (va_A [(Ad0, .inr (14, Fs0)), (Ad1, .inr (12, Fs1)), (Ad2, .inl (Ka0, 4000, .inl Fa0)), (Ad3, .inl (Ka1, 4, .inr (.inr (.inr (.inr Fa1))))), (Ad4, .inr (8, Fs2)), (Ad5, .inr (3, Fs3)), (Ad6, .inl (Ka2, 4000, .inl Fa2))] sz)) 1 6 (va_A [(Ad0, .inr (14, Fs0)), (Ad1, .inr (12, Fs1)), (Ad2, .inl (Ka0, 4000, .inl Fa0)), (Ad3, .inl (Ka1, 4, .inr (.inr (.inr (.inr Fa1))))), (Ad4, .inr (8, Fs2)), (Ad5, .inr (3, Fs3)), (Ad6, .inl (Ka2, 4000, .inl Fa2))] sz) := by
  refine vx_ofW (cc := cX11_bytes) (maxL := 3) (ret := (some .int)) (by decide) rfl ?_
  intro p e s m args below meth c s₁ B hml htab hv
  obtain ⟨rfl, hsz, hZ, hP, hK, hD0⟩ := hv
  have hx := B.exec
  have hb := B.bytes
  have hr := B.returns
  have hts := atoms_spec (ws := w_z_X11_bytes) B.pre
  have hown : s.vm.findClass RX11 = some m.cls := findClass_of_methodNamed B.named
  have hlocks := B.notSynchronized
  subst hsz
  have hD := hD0.self (sz := s.heap.size)
  generalize hAe : va_A [(Ad0, .inr (14, Fs0)), (Ad1, .inr (12, Fs1)), (Ad2, .inl (Ka0, 4000, .inl Fa0)), (Ad3, .inl (Ka1, 4, .inr (.inr (.inr (.inr Fa1))))), (Ad4, .inr (8, Fs2)), (Ad5, .inr (3, Fs3)), (Ad6, .inl (Ka2, 4000, .inl Fa2))] s.heap.size = A at hD hZ ⊢
  have hA : ∀ q : Nat, s.heap.size ≤ q → A q := fun q h => by rw [← hAe]; exact Or.inr h
  have hS : va_S A s.heap s.heap [] := va_S.rf
  have hl := lv_entry ([.ref Ad0, .int Va0]) (n := 3) (Nat.le_of_ble_eq_true rfl)
  rw [lg_entry_eq]
  generalize (lg_sl ([.ref Ad0, .int Va0]) ++ List.replicate (3 - (lg_sl ([.ref Ad0, .int Va0])).length) Slot.unset).toArray = ls at hl ⊢
  have hl : lv_has ls 3 [(0, .ref Ad0), (1, .int Va0)] := hl
  have o_Fs0 := ow_0 k_Fs0
  have o_Fs1 := ow_0 k_Fs1
  have o_Fs2 := ow_0 k_Fs2
  have o_Fs3 := ow_0 k_Fs3
  refine lv_iload_n hx hb dX11_bytes_0 rfl (lv_at hl 1 rfl) ?_
  have hPc := hP.sub (ws' := []) [] rfl
  have hDc := hD.sub (ws' := []) [] (by decide) rfl
  have hKc := hK.sub (tys' := []) [] rfl
  have hFc := va_free (wc := []) hD hS hA [] rfl
  refine vx_callv (vx_runS (As := [.int Va0]) (rest := []) ⟨hx, hb, hml, hown, hts⟩ (z_X11_needPicture l dC dI s.heap.size Va0  hst ) (cwS 1 hts g_z_X11_bytes_z_X11_needPicture_353 rfl rfl rfl (by decide +kernel) ⟨Nat.le_of_ble_eq_true rfl, Nat.le_of_ble_eq_true rfl⟩) ⟨fun a U g mk q => by obtain ⟨q0, q1, qZ, qP, qK, qD⟩ := q; exact ⟨q0, q1, Zz_call qZ, qP, va_K.moved (u := U) (U := U.calling g mk a) (Vm.Alike.refl U.vm) qK, qD⟩, fun U hU hW => ⟨rfl, by rw [hU], Zz_go hZ hS hFc hU hW, by rw [hU]; exact hPc, va_K.moved hW.alike hKc, hDc.weaken (fun _ _ _ _ => trivial)⟩⟩ rfl rfl hl.1 rfl (lv_room (Nat.le_of_ble_eq_true rfl)) dX11_bytes_1 ⟨Nat.le_of_ble_eq_true rfl, Nat.le_of_ble_eq_true rfl⟩) hS (fun q _ h => hFc q h) hFc (fun q _ h => hFc q h) (fun E ce q9 u t H1 locs ht hvm hpx hBX hz1 hk1 hS hce hcv hcl => ?_) (fun u t H1 locs ht hvm hw hB hz1 hk1 hS => ?_)
  · rcases hBX with ⟨rfl, c101⟩ | ⟨rfl, c102, c103⟩
    · exact vx_out (fun x h => (htab x h).elim) hlocks hce hcv hcl (fun t9 ht9 _ => ⟨(), trivial, (Or.inl ⟨rfl, c101⟩), hS.F ht9⟩) hS.2.2 (by decide) (by decide)
    · exact vx_out (fun x h => (htab x h).elim) hlocks hce hcv hcl (fun t9 ht9 _ => ⟨(), trivial, (Or.inr (⟨rfl, c102, c103⟩)), hS.F ht9⟩) hS.2.2 (by decide) (by decide)
  · skip
    obtain ⟨hP1, hK1, hD1⟩ := hB
    rw [ht] at hP1
    try dsimp only at hw
    obtain ⟨hP, hD⟩ := va_join (wr := [(Ad0, .inr (14, Fs0)), (Ad1, .inr (12, Fs1)), (Ad2, .inl (Ka0, 4000, .inl Fa0)), (Ad3, .inl (Ka1, 4, .inr (.inr (.inr (.inr Fa1))))), (Ad4, .inr (8, Fs2)), (Ad5, .inr (3, Fs3)), (Ad6, .inl (Ka2, 4000, .inl Fa2))]) (w1 := []) hP hD [] [0, 1, 2, 3, 4, 5, 6] rfl rfl (by decide) (by decide) hk1 hFc hP1 hD1
    have hK := hK.sub (tys' := [(Ka0, .int), (Ka1, .object "HeapWorks$Picture"), (Ka2, .int)]) [0, 1, 2] rfl
    generalize H1 = H at hP hS ⊢
    refine W.widen (k := 1) (n := 6) (by omega) (by omega) ?_
    have hP : va_P (dC, dI) vwCl [(Ad0, .inr (14, Fs0)), (Ad1, .inr (12, Fs1)), (Ad2, .inl (Ka0, 4000, .inl Fa0)), (Ad3, .inl (Ka1, 4, .inr (.inr (.inr (.inr Fa1))))), (Ad4, .inr (8, Fs2)), (Ad5, .inr (3, Fs3)), (Ad6, .inl (Ka2, 4000, .inl Fa2))] H := hP
    have hD : va_D A [(Ad0, .inr (14, Fs0)), (Ad1, .inr (12, Fs1)), (Ad2, .inl (Ka0, 4000, .inl Fa0)), (Ad3, .inl (Ka1, 4, .inr (.inr (.inr (.inr Fa1))))), (Ad4, .inr (8, Fs2)), (Ad5, .inr (3, Fs3)), (Ad6, .inl (Ka2, 4000, .inl Fa2))] := hD
    obtain ⟨c104, c105⟩ := hw
    refine lv_aload_n hx hb dX11_bytes_4 rfl (lv_at hl 0 rfl) ?_
    refine va_get (D := (dC, dI)) (ci := 14) (v := .ref Ad5) (C := RX11) (T := TX11) (N := 18) hx hb hts (in_z_X11_bytes_X11) hown hK hP 0 rfl rfl 13 (by decide) (hts (.fieldLink RX11 91 "HeapWorks" "archive" "LHeapWorks$Archive;") (by decide +kernel)) (fun _ h9 => h9) (ow_at o_Fs0 2 rfl) dX11_bytes_5 ?_
    refine lv_aload_n hx hb dX11_bytes_8 rfl (lv_at hl 0 rfl) ?_
    refine va_get (D := (dC, dI)) (ci := 14) (v := .ref Ad3) (C := RX11) (T := TX11) (N := 18) hx hb hts (in_z_X11_bytes_X11) hown hK hP 0 rfl rfl 4 (by decide) (hts (.fieldLink RX11 41 "HeapWorks" "pictures" "[LHeapWorks$Picture;") (by decide +kernel)) (fun _ h9 => h9) (ow_at o_Fs0 1 rfl) dX11_bytes_9 ?_
    refine lv_iload_n hx hb dX11_bytes_12 rfl (lv_at hl 1 rfl) ?_
    refine va_aldq hx hb hK hP 3 1 rfl rfl (by rw [vp_in_iff]; (try simp only [i_lt, i_le, i_eq, kc_0, kc_4] at c104 c105); omega) dX11_bytes_13 ?_
    refine W.eq (g2 := F0 m 14 ls (.ref Ad4 :: [.ref Ad5])) (by rw [hg0]; rfl) ?_
    have hPc := hP.sub (ws' := [(Ad4, .inr (8, Fs2)), (Ad5, .inr (3, Fs3)), (Ad6, .inl (Ka2, 4000, .inl Fa2))]) [4, 5, 6] rfl
    have hDc := hD.sub (ws' := [(Ad4, .inr (8, Fs2)), (Ad5, .inr (3, Fs3)), (Ad6, .inl (Ka2, 4000, .inl Fa2))]) [4, 5, 6] (by decide) rfl
    have hKc := hK.sub (tys' := [(Ka2, .int)]) [2] rfl
    have hFc := va_free (wc := [(Ad4, .inr (8, Fs2)), (Ad5, .inr (3, Fs3)), (Ad6, .inl (Ka2, 4000, .inl Fa2))]) hD hS hA [4, 5, 6] rfl
    refine va_calli (va_runV (As := [.ref Ad4]) (rest := []) ⟨hx, hb, hml, hown, hts⟩ (z_X0_encode l dC dI H.size Ad4 Fs2 Ad5 Fs3 Ad6 Fa2 Ka2 (fh_sub o_Fs2.2 [0, 1] rfl) (fh_sub o_Fs3.2 [0] rfl) ) (cwV 1 hts g_z_X11_bytes_z_X0_encode_501 rfl rfl rfl (by decide +kernel) ⟨Nat.le_of_ble_eq_true rfl, Nat.le_of_ble_eq_true rfl⟩) ⟨fun a U g mk q => by obtain ⟨q0, q1, qP, qK, qD⟩ := q; exact ⟨q0, q1, qP, va_K.moved (u := U) (U := U.calling g mk a) (Vm.Alike.refl U.vm) qK, qD⟩, va_recv hK hP (ci := 3) (q0 := 5) rfl rfl, fun U hU hW => ⟨rfl, by rw [hU], by rw [hU]; exact hPc, va_K.moved hW.alike hKc, hDc.weaken (fun _ _ _ _ => trivial)⟩⟩ rfl rfl hl.1 rfl (lv_room (Nat.le_of_ble_eq_true rfl)) dX11_bytes_14 ⟨Nat.le_of_ble_eq_true rfl, Nat.le_of_ble_eq_true rfl⟩) hS (fun q _ h => hFc q h) hFc (fun r106 u t H1 locs ht hvm hw hB hz1 hk1 hS => ?_)
    obtain ⟨s107, f108⟩ := u
    obtain ⟨hP1, hK1, hD1⟩ := hB
    rw [ht] at hP1
    try dsimp only at hw
    obtain ⟨hP, hD⟩ := va_join (wr := [(Ad0, .inr (14, Fs0)), (Ad1, .inr (12, Fs1)), (Ad2, .inl (Ka0, 4000, .inl Fa0)), (Ad3, .inl (Ka1, 4, .inr (.inr (.inr (.inr Fa1)))))]) (w1 := [(Ad4, .inr (8, Fs2)), (Ad5, .inr (3, s107)), (Ad6, .inl (Ka2, 4000, .inl f108))]) hP hD [4, 5, 6] [0, 1, 2, 3] rfl rfl (by decide) (by decide) hk1 hFc hP1 hD1
    have hK := hK.sub (tys' := [(Ka0, .int), (Ka1, .object "HeapWorks$Picture"), (Ka2, .int)]) [0, 1, 2] rfl
    generalize H1 = H at hP hS ⊢
    have hP : va_P (dC, dI) vwCl [(Ad0, .inr (14, Fs0)), (Ad1, .inr (12, Fs1)), (Ad2, .inl (Ka0, 4000, .inl Fa0)), (Ad3, .inl (Ka1, 4, .inr (.inr (.inr (.inr Fa1))))), (Ad4, .inr (8, Fs2)), (Ad5, .inr (3, s107)), (Ad6, .inl (Ka2, 4000, .inl f108))] H := hP
    have hD : va_D A [(Ad0, .inr (14, Fs0)), (Ad1, .inr (12, Fs1)), (Ad2, .inl (Ka0, 4000, .inl Fa0)), (Ad3, .inl (Ka1, 4, .inr (.inr (.inr (.inr Fa1))))), (Ad4, .inr (8, Fs2)), (Ad5, .inr (3, s107)), (Ad6, .inl (Ka2, 4000, .inl f108))] := hD
    obtain ⟨er109, o_s107⟩ := hw
    subst er109
    have o_s107 := ow_on o_Fs3 o_s107 (l' := (([(2, .int 8), (1, .ref Ad6), (1, .ref Ad6), (1, .ref Ad6), (1, .ref Ad6), (1, .ref Ad6), (1, .ref Ad6), (1, .ref Ad6), (1, .ref Ad6), (1, .ref Ad6), (1, .ref Ad6), (1, .ref Ad6), (1, .ref Ad6), (1, .ref Ad6), (1, .ref Ad6), (1, .ref Ad6)] : List (Nat × Value)) ++ (([(1, .ref Ad6), (1, .ref Ad6), (1, .ref Ad6), (1, .ref Ad6), (1, .ref Ad6), (1, .ref Ad6), (1, .ref Ad6), (1, .ref Ad6), (1, .ref Ad6), (1, .ref Ad6), (1, .ref Ad6), (1, .ref Ad6), (1, .ref Ad6), (1, .ref Ad6), (1, .ref Ad6), (1, .ref Ad6)] : List (Nat × Value)) ++ (([(1, .ref Ad6), (1, .ref Ad6), (1, .ref Ad6), (1, .ref Ad6), (1, .ref Ad6), (1, .ref Ad6), (1, .ref Ad6), (1, .ref Ad6), (1, .ref Ad6), (1, .ref Ad6), (1, .ref Ad6), (1, .ref Ad6), (1, .ref Ad6), (1, .ref Ad6), (1, .ref Ad6), (1, .ref Ad6)] : List (Nat × Value)) ++ (([(1, .ref Ad6), (1, .ref Ad6), (1, .ref Ad6), (1, .ref Ad6), (1, .ref Ad6), (1, .ref Ad6), (1, .ref Ad6), (1, .ref Ad6), (1, .ref Ad6), (1, .ref Ad6), (1, .ref Ad6), (1, .ref Ad6), (1, .ref Ad6), (1, .ref Ad6), (1, .ref Ad6), (1, .ref Ad6)] : List (Nat × Value)) ++ (([(1, .ref Ad6), (1, .ref Ad6), (1, .ref Ad6), (1, .ref Ad6), (1, .ref Ad6), (1, .ref Ad6), (1, .ref Ad6), (1, .ref Ad6), (1, .ref Ad6), (1, .ref Ad6), (1, .ref Ad6), (1, .ref Ad6), (1, .ref Ad6), (1, .ref Ad6), (1, .ref Ad6), (1, .ref Ad6)] : List (Nat × Value)) ++ (([(1, .ref Ad6), (1, .ref Ad6), (1, .ref Ad6), (1, .ref Ad6), (1, .ref Ad6), (1, .ref Ad6), (1, .ref Ad6), (1, .ref Ad6), (1, .ref Ad6), (1, .ref Ad6), (1, .ref Ad6), (1, .ref Ad6), (1, .ref Ad6), (1, .ref Ad6), (1, .ref Ad6), (1, .ref Ad6)] : List (Nat × Value)) ++ (([(1, .ref Ad6), (1, .ref Ad6), (1, .ref Ad6), (1, .ref Ad6), (1, .ref Ad6), (1, .ref Ad6), (1, .ref Ad6), (1, .ref Ad6), (1, .ref Ad6), (1, .ref Ad6), (1, .ref Ad6), (1, .ref Ad6), (1, .ref Ad6), (1, .ref Ad6), (1, .ref Ad6), (1, .ref Ad6)] : List (Nat × Value)) ++ (([(1, .ref Ad6), (1, .ref Ad6), (1, .ref Ad6), (1, .ref Ad6), (1, .ref Ad6), (1, .ref Ad6), (1, .ref Ad6), (1, .ref Ad6), (1, .ref Ad6), (1, .ref Ad6), (1, .ref Ad6), (1, .ref Ad6), (1, .ref Ad6), (1, .ref Ad6), (1, .ref Ad6), (1, .ref Ad6)] : List (Nat × Value)) ++ (([(1, .ref Ad6), (1, .ref Ad6), (1, .ref Ad6), (1, .ref Ad6), (1, .ref Ad6), (1, .ref Ad6), (1, .ref Ad6), (1, .ref Ad6), (1, .ref Ad6), (1, .ref Ad6), (1, .ref Ad6), (1, .ref Ad6), (1, .ref Ad6), (1, .ref Ad6), (1, .ref Ad6), (1, .ref Ad6)] : List (Nat × Value)) ++ (([(1, .ref Ad6), (1, .ref Ad6), (1, .ref Ad6), (1, .ref Ad6), (1, .ref Ad6), (1, .ref Ad6), (1, .ref Ad6), (1, .ref Ad6), (1, .ref Ad6), (1, .ref Ad6), (1, .ref Ad6), (1, .ref Ad6), (1, .ref Ad6), (1, .ref Ad6), (1, .ref Ad6), (1, .ref Ad6)] : List (Nat × Value)) ++ (([(1, .ref Ad6), (1, .ref Ad6), (1, .ref Ad6), (1, .ref Ad6), (1, .ref Ad6), (1, .ref Ad6), (1, .ref Ad6), (1, .ref Ad6), (1, .ref Ad6), (1, .ref Ad6), (1, .ref Ad6), (1, .ref Ad6), (1, .ref Ad6), (1, .ref Ad6), (1, .ref Ad6), (1, .ref Ad6)] : List (Nat × Value)) ++ (([(1, .ref Ad6), (1, .ref Ad6), (1, .ref Ad6), (1, .ref Ad6), (1, .ref Ad6), (1, .ref Ad6), (1, .ref Ad6), (1, .ref Ad6), (1, .ref Ad6), (1, .ref Ad6), (1, .ref Ad6), (1, .ref Ad6), (1, .ref Ad6), (1, .ref Ad6), (1, .ref Ad6), (1, .ref Ad6)] : List (Nat × Value)) ++ (([(1, .ref Ad6), (1, .ref Ad6), (1, .ref Ad6), (1, .ref Ad6), (1, .ref Ad6), (1, .ref Ad6), (1, .ref Ad6), (1, .ref Ad6), (1, .ref Ad6), (1, .ref Ad6), (1, .ref Ad6), (1, .ref Ad6), (1, .ref Ad6), (1, .ref Ad6), (1, .ref Ad6), (1, .ref Ad6)] : List (Nat × Value)) ++ (([(1, .ref Ad6), (1, .ref Ad6), (1, .ref Ad6), (1, .ref Ad6), (1, .ref Ad6), (1, .ref Ad6), (1, .ref Ad6), (1, .ref Ad6), (1, .ref Ad6), (1, .ref Ad6), (1, .ref Ad6), (1, .ref Ad6), (1, .ref Ad6), (1, .ref Ad6), (1, .ref Ad6), (1, .ref Ad6)] : List (Nat × Value)) ++ (([(1, .ref Ad6), (1, .ref Ad6), (1, .ref Ad6), (1, .ref Ad6), (1, .ref Ad6), (1, .ref Ad6), (1, .ref Ad6), (1, .ref Ad6), (1, .ref Ad6), (1, .ref Ad6), (1, .ref Ad6), (1, .ref Ad6), (1, .ref Ad6), (1, .ref Ad6), (1, .ref Ad6), (1, .ref Ad6)] : List (Nat × Value)) ++ (([(1, .ref Ad6), (1, .ref Ad6), (1, .ref Ad6), (1, .ref Ad6), (1, .ref Ad6), (1, .ref Ad6), (1, .ref Ad6), (1, .ref Ad6), (1, .ref Ad6), (1, .ref Ad6), (1, .ref Ad6), (1, .ref Ad6), (1, .ref Ad6), (1, .ref Ad6), (1, .ref Ad6), (1, .ref Ad6)] : List (Nat × Value)) ++ (([(1, .ref Ad6), (1, .ref Ad6), (1, .ref Ad6), (1, .ref Ad6), (1, .ref Ad6), (1, .ref Ad6), (1, .ref Ad6), (1, .ref Ad6), (1, .ref Ad6), (1, .ref Ad6), (1, .ref Ad6), (1, .ref Ad6), (1, .ref Ad6), (1, .ref Ad6), (1, .ref Ad6), (1, .ref Ad6)] : List (Nat × Value)) ++ (([(1, .ref Ad6), (1, .ref Ad6), (1, .ref Ad6), (1, .ref Ad6), (1, .ref Ad6), (1, .ref Ad6), (1, .ref Ad6), (1, .ref Ad6), (1, .ref Ad6), (1, .ref Ad6), (1, .ref Ad6), (1, .ref Ad6), (1, .ref Ad6), (1, .ref Ad6), (1, .ref Ad6), (1, .ref Ad6)] : List (Nat × Value)) ++ (([(1, .ref Ad6), (1, .ref Ad6), (1, .ref Ad6), (1, .ref Ad6), (1, .ref Ad6), (1, .ref Ad6), (1, .ref Ad6), (1, .ref Ad6), (1, .ref Ad6), (1, .ref Ad6), (1, .ref Ad6), (1, .ref Ad6), (1, .ref Ad6), (1, .ref Ad6), (1, .ref Ad6), (1, .ref Ad6)] : List (Nat × Value)) ++ (([(1, .ref Ad6), (1, .ref Ad6), (1, .ref Ad6), (1, .ref Ad6), (1, .ref Ad6), (1, .ref Ad6), (1, .ref Ad6), (1, .ref Ad6), (1, .ref Ad6), (1, .ref Ad6), (1, .ref Ad6), (1, .ref Ad6), (1, .ref Ad6), (1, .ref Ad6), (1, .ref Ad6), (1, .ref Ad6)] : List (Nat × Value)) ++ (([(1, .ref Ad6), (1, .ref Ad6), (1, .ref Ad6), (1, .ref Ad6), (1, .ref Ad6), (1, .ref Ad6), (1, .ref Ad6), (1, .ref Ad6), (1, .ref Ad6), (1, .ref Ad6), (1, .ref Ad6), (1, .ref Ad6), (1, .ref Ad6), (1, .ref Ad6), (1, .ref Ad6), (1, .ref Ad6)] : List (Nat × Value)) ++ (([(1, .ref Ad6), (1, .ref Ad6), (1, .ref Ad6), (1, .ref Ad6), (1, .ref Ad6), (1, .ref Ad6), (1, .ref Ad6), (1, .ref Ad6), (1, .ref Ad6), (1, .ref Ad6), (1, .ref Ad6), (1, .ref Ad6), (1, .ref Ad6), (1, .ref Ad6), (1, .ref Ad6), (1, .ref Ad6)] : List (Nat × Value)) ++ (([(1, .ref Ad6), (1, .ref Ad6), (1, .ref Ad6), (1, .ref Ad6), (1, .ref Ad6), (1, .ref Ad6), (1, .ref Ad6), (1, .ref Ad6), (1, .ref Ad6), (1, .ref Ad6), (1, .ref Ad6), (1, .ref Ad6), (1, .ref Ad6), (1, .ref Ad6), (1, .ref Ad6), (1, .ref Ad6)] : List (Nat × Value)) ++ (([(1, .ref Ad6), (1, .ref Ad6), (1, .ref Ad6), (1, .ref Ad6), (1, .ref Ad6), (1, .ref Ad6), (1, .ref Ad6), (1, .ref Ad6), (1, .ref Ad6), (1, .ref Ad6), (1, .ref Ad6), (1, .ref Ad6), (1, .ref Ad6), (1, .ref Ad6), (1, .ref Ad6), (1, .ref Ad6)] : List (Nat × Value)) ++ (([(1, .ref Ad6), (1, .ref Ad6), (1, .ref Ad6), (1, .ref Ad6), (1, .ref Ad6), (1, .ref Ad6), (1, .ref Ad6), (1, .ref Ad6), (1, .ref Ad6), (1, .ref Ad6), (1, .ref Ad6), (1, .ref Ad6), (1, .ref Ad6), (1, .ref Ad6), (1, .ref Ad6), (1, .ref Ad6)] : List (Nat × Value)) ++ (([(1, .ref Ad6), (1, .ref Ad6), (1, .ref Ad6), (1, .ref Ad6), (1, .ref Ad6), (1, .ref Ad6), (1, .ref Ad6), (1, .ref Ad6), (1, .ref Ad6), (1, .ref Ad6), (1, .ref Ad6), (1, .ref Ad6), (1, .ref Ad6), (1, .ref Ad6), (1, .ref Ad6), (1, .ref Ad6)] : List (Nat × Value)) ++ (([(1, .ref Ad6), (1, .ref Ad6), (1, .ref Ad6), (1, .ref Ad6), (1, .ref Ad6), (1, .ref Ad6), (1, .ref Ad6), (1, .ref Ad6), (1, .ref Ad6), (1, .ref Ad6), (1, .ref Ad6), (1, .ref Ad6), (1, .ref Ad6), (1, .ref Ad6), (1, .ref Ad6), (1, .ref Ad6)] : List (Nat × Value)) ++ (([(1, .ref Ad6), (1, .ref Ad6), (1, .ref Ad6), (1, .ref Ad6), (1, .ref Ad6), (1, .ref Ad6), (1, .ref Ad6), (1, .ref Ad6), (1, .ref Ad6), (1, .ref Ad6), (1, .ref Ad6), (1, .ref Ad6), (1, .ref Ad6), (1, .ref Ad6), (1, .ref Ad6), (1, .ref Ad6)] : List (Nat × Value)) ++ (([(1, .ref Ad6), (1, .ref Ad6), (1, .ref Ad6), (1, .ref Ad6), (1, .ref Ad6), (1, .ref Ad6), (1, .ref Ad6), (1, .ref Ad6), (1, .ref Ad6), (1, .ref Ad6), (1, .ref Ad6), (1, .ref Ad6), (1, .ref Ad6), (1, .ref Ad6), (1, .ref Ad6), (1, .ref Ad6)] : List (Nat × Value)) ++ (([(1, .ref Ad6), (1, .ref Ad6), (1, .ref Ad6), (1, .ref Ad6), (1, .ref Ad6), (1, .ref Ad6), (1, .ref Ad6), (1, .ref Ad6), (1, .ref Ad6), (1, .ref Ad6), (1, .ref Ad6), (1, .ref Ad6), (1, .ref Ad6), (1, .ref Ad6), (1, .ref Ad6), (1, .ref Ad6)] : List (Nat × Value)) ++ (([(1, .ref Ad6), (1, .ref Ad6), (1, .ref Ad6), (1, .ref Ad6), (1, .ref Ad6), (1, .ref Ad6), (1, .ref Ad6), (1, .ref Ad6), (1, .ref Ad6), (1, .ref Ad6), (1, .ref Ad6), (1, .ref Ad6), (1, .ref Ad6), (1, .ref Ad6), (1, .ref Ad6), (1, .ref Ad6)] : List (Nat × Value)) ++ (([(1, .ref Ad6), (1, .ref Ad6), (1, .ref Ad6), (1, .ref Ad6), (1, .ref Ad6), (1, .ref Ad6), (1, .ref Ad6), (1, .ref Ad6), (1, .ref Ad6), (1, .ref Ad6), (1, .ref Ad6), (1, .ref Ad6), (1, .ref Ad6), (1, .ref Ad6), (1, .ref Ad6), (1, .ref Ad6)] : List (Nat × Value)) ++ (([(1, .ref Ad6), (1, .ref Ad6), (1, .ref Ad6), (1, .ref Ad6), (1, .ref Ad6), (1, .ref Ad6), (1, .ref Ad6), (1, .ref Ad6), (1, .ref Ad6), (1, .ref Ad6), (1, .ref Ad6), (1, .ref Ad6), (1, .ref Ad6), (1, .ref Ad6), (1, .ref Ad6), (1, .ref Ad6)] : List (Nat × Value)) ++ (([(1, .ref Ad6), (1, .ref Ad6), (1, .ref Ad6), (1, .ref Ad6), (1, .ref Ad6), (1, .ref Ad6), (1, .ref Ad6), (1, .ref Ad6), (1, .ref Ad6), (1, .ref Ad6), (1, .ref Ad6), (1, .ref Ad6), (1, .ref Ad6), (1, .ref Ad6), (1, .ref Ad6), (1, .ref Ad6)] : List (Nat × Value)) ++ (([(1, .ref Ad6), (1, .ref Ad6), (1, .ref Ad6), (1, .ref Ad6), (1, .ref Ad6), (1, .ref Ad6), (1, .ref Ad6), (1, .ref Ad6), (1, .ref Ad6), (1, .ref Ad6), (1, .ref Ad6), (1, .ref Ad6), (1, .ref Ad6), (1, .ref Ad6), (1, .ref Ad6), (1, .ref Ad6)] : List (Nat × Value)) ++ (([(1, .ref Ad6), (1, .ref Ad6), (1, .ref Ad6), (1, .ref Ad6), (1, .ref Ad6), (1, .ref Ad6), (1, .ref Ad6), (1, .ref Ad6), (1, .ref Ad6), (1, .ref Ad6), (1, .ref Ad6), (1, .ref Ad6), (1, .ref Ad6), (1, .ref Ad6), (1, .ref Ad6), (1, .ref Ad6)] : List (Nat × Value)) ++ (([(1, .ref Ad6), (1, .ref Ad6)] : List (Nat × Value)))))))))))))))))))))))))))))))))))))))) (w' := [2]) rfl rfl
    refine lv_istore_n (lv' := [(2, .int 8), (0, .ref Ad0), (1, .int Va0)]) hx hb dX11_bytes_17 rfl hl (by decide) rfl (fun ls hl => ?_)
    refine lv_iload_n hx hb dX11_bytes_18 rfl (lv_at hl 0 rfl) ?_
    refine lv_sipush (v := 4000) hx hb dX11_bytes_19 (by decide) ?_
    refine lv_icmp_le (tgt := 33) hx hb dX11_bytes_22 (by decide) (fun c110 => ?_) (fun c110 => absurd c110 (by decide))
    refine lv_aload_n hx hb dX11_bytes_33 rfl (lv_at hl 1 rfl) ?_
    refine va_get (D := (dC, dI)) (ci := 14) (v := .ref Ad5) (C := RX11) (T := TX11) (N := 18) hx hb hts (in_z_X11_bytes_X11) hown hK hP 0 rfl rfl 13 (by decide) (hts (.fieldLink RX11 91 "HeapWorks" "archive" "LHeapWorks$Archive;") (by decide +kernel)) (fun _ h9 => h9) (ow_at o_Fs0 2 rfl) dX11_bytes_34 ?_
    refine va_get (D := (dC, dI)) (ci := 3) (v := .ref Ad6) (C := RX0) (T := TX0) (N := 15) hx hb hts (in_z_X11_bytes_X0) hown hK hP 5 rfl rfl 1 (by decide) (hts (.fieldLink RX11 505 "HeapWorks$Archive" "buffer" "[I") (by decide +kernel)) (fun _ h9 => h9) (ow_at o_s107 1 rfl) dX11_bytes_37 ?_
    refine lv_iconst (v := 0) hx hb dX11_bytes_40 (by decide) ?_
    refine lv_aload_n hx hb dX11_bytes_41 rfl (lv_at hl 1 rfl) ?_
    refine va_get (D := (dC, dI)) (ci := 14) (v := .ref Ad1) (C := RX11) (T := TX11) (N := 18) hx hb hts (in_z_X11_bytes_X11) hown hK hP 0 rfl rfl 0 (by decide) (hts (.fieldLink RX11 12 "HeapWorks" "tape" "LHeapWorks$Tape;") (by decide +kernel)) (fun _ h9 => h9) (ow_at o_Fs0 0 rfl) dX11_bytes_42 ?_
    refine va_get (D := (dC, dI)) (ci := 12) (v := .ref Ad2) (C := RX9) (T := TX9) (N := 12) hx hb hts (in_z_X11_bytes_X9) hown hK hP 1 rfl rfl 0 (by decide) (hts (.fieldLink RX11 113 "HeapWorks$Tape" "bytes" "[I") (by decide +kernel)) (fun _ h9 => h9) (ow_at o_Fs1 0 rfl) dX11_bytes_45 ?_
    refine lv_iconst (v := 0) hx hb dX11_bytes_48 (by decide) ?_
    refine lv_iload_n hx hb dX11_bytes_49 rfl (lv_at hl 0 rfl) ?_
    refine va_copyi (ty := .int) hx hb (hml.trans hl.1.symm) hown (hts (.methodLink RX11 508 arraycopyName) (by decide +kernel)) (hts (.native arraycopyName) (by decide +kernel)) (hts (.static arraycopyName) (by decide +kernel)) (hts (.initialized "java/lang/System") (by decide +kernel)) hK hP hD hS 6 2 2 0 rfl rfl rfl rfl rfl (by decide) (by decide) (by decide) (by decide) (by decide) (fun _ _ => rfl) (Nat.le_of_ble_eq_true rfl) (Nat.le_of_ble_eq_true rfl) dX11_bytes_50 (fun H locs hP hD hS => ?_)
    have hP : va_P (dC, dI) vwCl [(Ad0, .inr (14, Fs0)), (Ad1, .inr (12, Fs1)), (Ad2, .inl (Ka0, 4000, .inl (va_cpy f108 Fa0 (0 : Int32).toNatClampNeg (0 : Int32).toNatClampNeg (8 : Int32).toNatClampNeg))), (Ad3, .inl (Ka1, 4, .inr (.inr (.inr (.inr Fa1))))), (Ad4, .inr (8, Fs2)), (Ad5, .inr (3, s107)), (Ad6, .inl (Ka2, 4000, .inl f108))] H := hP
    have hD : va_D A [(Ad0, .inr (14, Fs0)), (Ad1, .inr (12, Fs1)), (Ad2, .inl (Ka0, 4000, .inl (va_cpy f108 Fa0 (0 : Int32).toNatClampNeg (0 : Int32).toNatClampNeg (8 : Int32).toNatClampNeg))), (Ad3, .inl (Ka1, 4, .inr (.inr (.inr (.inr Fa1))))), (Ad4, .inr (8, Fs2)), (Ad5, .inr (3, s107)), (Ad6, .inl (Ka2, 4000, .inl f108))] := hD
    generalize va_cpy f108 Fa0 (0 : Int32).toNatClampNeg (0 : Int32).toNatClampNeg (8 : Int32).toNatClampNeg = f111 at hP hD
    refine lv_aload_n hx hb dX11_bytes_53 rfl (lv_at hl 1 rfl) ?_
    refine va_get (D := (dC, dI)) (ci := 14) (v := .ref Ad1) (C := RX11) (T := TX11) (N := 18) hx hb hts (in_z_X11_bytes_X11) hown hK hP 0 rfl rfl 0 (by decide) (hts (.fieldLink RX11 12 "HeapWorks" "tape" "LHeapWorks$Tape;") (by decide +kernel)) (fun _ h9 => h9) (ow_at o_Fs0 0 rfl) dX11_bytes_54 ?_
    refine lv_iload_n hx hb dX11_bytes_57 rfl (lv_at hl 0 rfl) ?_
    refine va_put (D := (dC, dI)) (ci := 12) (v := .int 8) (ty := .int) (C := RX9) (T := TX9) (N := 12) hx hb hts (in_z_X11_bytes_X9) tyX9 tyX9_ok nmX9 hown hK hP hD hS 1 rfl rfl 1 (by decide) (hts (.fieldLink RX11 110 "HeapWorks$Tape" "size" "I") (by decide +kernel)) (fun _ h9 => h9) rfl (by decide +kernel) rfl rfl (by rw [o_Fs1.2.1]; decide) dX11_bytes_58 (fun H locs hP hD hS => ?_)
    have hP : va_P (dC, dI) vwCl [(Ad0, .inr (14, Fs0)), (Ad1, .inr (12, (Fs1.set 1 (.int 8)))), (Ad2, .inl (Ka0, 4000, .inl f111)), (Ad3, .inl (Ka1, 4, .inr (.inr (.inr (.inr Fa1))))), (Ad4, .inr (8, Fs2)), (Ad5, .inr (3, s107)), (Ad6, .inl (Ka2, 4000, .inl f108))] H := hP
    have hD : va_D A [(Ad0, .inr (14, Fs0)), (Ad1, .inr (12, (Fs1.set 1 (.int 8)))), (Ad2, .inl (Ka0, 4000, .inl f111)), (Ad3, .inl (Ka1, 4, .inr (.inr (.inr (.inr Fa1))))), (Ad4, .inr (8, Fs2)), (Ad5, .inr (3, s107)), (Ad6, .inl (Ka2, 4000, .inl f108))] := hD
    have o_s112 := ow_set o_Fs1 1 (.int 8) (by decide) (l' := [(1, .int 8), (0, .ref Ad2)]) (w' := [1]) rfl rfl
    generalize (Fs1.set 1 (.int 8)) = s112 at hP hD o_s112
    refine lv_iload_n hx hb dX11_bytes_61 rfl (lv_at hl 0 rfl) ?_
    have hP9 := hP.sub (ws' := [(Ad0, .inr (14, Fs0)), (Ad1, .inr (12, s112)), (Ad2, .inl (Ka0, 4000, .inl f111)), (Ad3, .inl (Ka1, 4, .inr (.inr (.inr (.inr Fa1))))), (Ad4, .inr (8, Fs2)), (Ad5, .inr (3, s107)), (Ad6, .inl (Ka2, 4000, .inl f108))]) [0, 1, 2, 3, 4, 5, 6] rfl
    have hD9 := hD.sub (ws' := [(Ad0, .inr (14, Fs0)), (Ad1, .inr (12, s112)), (Ad2, .inl (Ka0, 4000, .inl f111)), (Ad3, .inl (Ka1, 4, .inr (.inr (.inr (.inr Fa1))))), (Ad4, .inr (8, Fs2)), (Ad5, .inr (3, s107)), (Ad6, .inl (Ka2, 4000, .inl f108))]) [0, 1, 2, 3, 4, 5, 6] (by decide) rfl
    have hK9 := hK.sub (tys' := [(Ka0, .int), (Ka1, .object "HeapWorks$Picture"), (Ka2, .int)]) [0, 1, 2] rfl
    refine vx_ret ?_
    refine W.widen (k := 1) (n := 6) (by decide) (by decide) ?_
    exact W.iret (v := 8) hx hb hr (fun t ht hW => ⟨⟨8, (s112, f111, s107, f108), rfl, ⟨c104, c105, rfl, o_s112, o_s107⟩, by rw [ht]; exact hP9, va_K.moved hW.alike hK9, hD9⟩, hS.F ht⟩) hS.2.2 dX11_bytes_62

def l_z_X11_letter : List Cond := [.fieldLink RX11 12 "HeapWorks" "tape" "LHeapWorks$Tape;", .fieldLink RX11 110 "HeapWorks$Tape" "size" "I"]
def w_z_X11_letter : List Cond := .code yX11_letter cX11_letter 2 (some .int) :: (l_z_X11_letter ++ ((wsX110 ++ wsX90)))
theorem in_z_X11_letter_X11 : ∀ w ∈ wsX110, w ∈ w_z_X11_letter := fun w h => List.mem_cons_of_mem _ (List.mem_append_right _ (List.mem_append_left _ h))
theorem in_z_X11_letter_X9 : ∀ w ∈ wsX90, w ∈ w_z_X11_letter := fun w h => List.mem_cons_of_mem _ (List.mem_append_right _ (List.mem_append_right _ (h)))
set_option maxHeartbeats 4000000 in
set_option maxRecDepth 100000 in
theorem z_X11_letter (l : Launch) (dC : Nat → ClassId) (dI : Nat → Nat → Nat) (sz : Nat) (Ad0 : Nat) (Fs0 : List Value) (Ad1 : Nat) (Fs1 : List Value) (Va0 : Int32) (k_Fs0 : fh Fs0 18 [(0, .ref Ad1)]) (k_Fs1 : fh Fs1 12 [(1, .int 0)])  : Met l yX11_letter w_z_X11_letter ({ frames := 0, cells := 0, slots := 0, locals := 0 }) (va_Pc [.ref Ad0, .int Va0] (fun U => U.heap.size = sz ∧ Wd dC dI [] (fun _ => True) [(Ad0, .inr (14, Fs0)), (Ad1, .inr (12, Fs1))] U)) (va_Qi (fun (r : Int32) (u : Unit) => (Va0 < 0 ∧ r = (-1)) ∨ (¬ Va0 < 0 ∧ 0 ≤ Va0 ∧ r = (-1))) (fun (u : Unit) t => Wd dC dI [] (va_A [(Ad0, .inr (14, Fs0)), (Ad1, .inr (12, Fs1))] sz) [(Ad0, .inr (14, Fs0)), (Ad1, .inr (12, Fs1))] t) (va_A [(Ad0, .inr (14, Fs0)), (Ad1, .inr (12, Fs1))] sz))  0 0 (va_A [(Ad0, .inr (14, Fs0)), (Ad1, .inr (12, Fs1))] sz) := by
  refine Met.ofW (cc := cX11_letter) (maxL := 2) (ret := (some .int)) (by decide) rfl ?_
  intro p e s m args below meth c s₁ B hml hv
  obtain ⟨rfl, hsz, hP, hK, hD0⟩ := hv
  have hx := B.exec
  have hb := B.bytes
  have hr := B.returns
  have hts := atoms_spec (ws := w_z_X11_letter) B.pre
  have hown : s.vm.findClass RX11 = some m.cls := findClass_of_methodNamed B.named
  have hlocks := B.notSynchronized
  subst hsz
  have hD := hD0.self (sz := s.heap.size)
  generalize hAe : va_A [(Ad0, .inr (14, Fs0)), (Ad1, .inr (12, Fs1))] s.heap.size = A at hD ⊢
  have hA : ∀ q : Nat, s.heap.size ≤ q → A q := fun q h => by rw [← hAe]; exact Or.inr h
  have hS : va_S A s.heap s.heap [] := va_S.rf
  have hl := lv_entry ([.ref Ad0, .int Va0]) (n := 2) (Nat.le_of_ble_eq_true rfl)
  rw [lg_entry_eq]
  generalize (lg_sl ([.ref Ad0, .int Va0]) ++ List.replicate (2 - (lg_sl ([.ref Ad0, .int Va0])).length) Slot.unset).toArray = ls at hl ⊢
  have hl : lv_has ls 2 [(0, .ref Ad0), (1, .int Va0)] := hl
  have o_Fs0 := ow_0 k_Fs0
  have o_Fs1 := ow_0 k_Fs1
  refine lv_iload_n hx hb dX11_letter_0 rfl (lv_at hl 1 rfl) ?_
  refine lv_if_lt (tgt := 27) hx hb dX11_letter_1 (by decide) (fun c101 => ?_) (fun c101 => ?_)
  · skip
    refine lv_iconst (v := (-1)) hx hb dX11_letter_27 (by decide) ?_
    have hP9 := hP.sub (ws' := [(Ad0, .inr (14, Fs0)), (Ad1, .inr (12, Fs1))]) [0, 1] rfl
    have hD9 := hD.sub (ws' := [(Ad0, .inr (14, Fs0)), (Ad1, .inr (12, Fs1))]) [0, 1] (by decide) rfl
    have hK9 := hK.sub (tys' := []) [] rfl
    exact W.iret (v := (-1)) hx hb hr (fun t ht hW => ⟨⟨(-1), (), rfl, (Or.inl ⟨c101, rfl⟩), by rw [ht]; exact hP9, va_K.moved hW.alike hK9, hD9⟩, hS.F ht⟩) hS.2.2 dX11_letter_28
  · skip
    refine lv_iload_n hx hb dX11_letter_4 rfl (lv_at hl 1 rfl) ?_
    refine lv_aload_n hx hb dX11_letter_5 rfl (lv_at hl 0 rfl) ?_
    refine va_get (D := (dC, dI)) (ci := 14) (v := .ref Ad1) (C := RX11) (T := TX11) (N := 18) hx hb hts (in_z_X11_letter_X11) hown hK hP 0 rfl rfl 0 (by decide) (hts (.fieldLink RX11 12 "HeapWorks" "tape" "LHeapWorks$Tape;") (by decide +kernel)) (fun _ h9 => h9) (ow_at o_Fs0 0 rfl) dX11_letter_6 ?_
    refine va_get (D := (dC, dI)) (ci := 12) (v := .int 0) (C := RX9) (T := TX9) (N := 12) hx hb hts (in_z_X11_letter_X9) hown hK hP 1 rfl rfl 1 (by decide) (hts (.fieldLink RX11 110 "HeapWorks$Tape" "size" "I") (by decide +kernel)) (fun _ h9 => h9) (ow_at o_Fs1 0 rfl) dX11_letter_9 ?_
    refine lv_icmp_ge (tgt := 27) hx hb dX11_letter_12 (by decide) (fun c102 => ?_) (fun c102 => (by exfalso; have bd_Va0 := i_bd Va0; (try simp only [i_lt, i_le, i_eq, kc_0] at c101 c102); omega))
    refine lv_iconst (v := (-1)) hx hb dX11_letter_27 (by decide) ?_
    have hP9 := hP.sub (ws' := [(Ad0, .inr (14, Fs0)), (Ad1, .inr (12, Fs1))]) [0, 1] rfl
    have hD9 := hD.sub (ws' := [(Ad0, .inr (14, Fs0)), (Ad1, .inr (12, Fs1))]) [0, 1] (by decide) rfl
    have hK9 := hK.sub (tys' := []) [] rfl
    exact W.iret (v := (-1)) hx hb hr (fun t ht hW => ⟨⟨(-1), (), rfl, (Or.inr (⟨c101, c102, rfl⟩)), by rw [ht]; exact hP9, va_K.moved hW.alike hK9, hD9⟩, hS.F ht⟩) hS.2.2 dX11_letter_28

def l_z_X0_fail : List Cond := [.fieldLink RX0 101 "HeapWorks$Archive" "fault" "I", .fieldLink RX0 92 "HeapWorks$Archive" "begin" "I", .fieldLink RX0 104 "HeapWorks$Archive" "place" "I"]
def w_z_X0_fail : List Cond := .code yX0_fail cX0_fail 3 (some .boolean) :: (l_z_X0_fail ++ (wsX00))
theorem in_z_X0_fail_X0 : ∀ w ∈ wsX00, w ∈ w_z_X0_fail := fun w h => List.mem_cons_of_mem _ (List.mem_append_right _ (h))
set_option maxHeartbeats 4000000 in
set_option maxRecDepth 100000 in
theorem z_X0_fail (l : Launch) (dC : Nat → ClassId) (dI : Nat → Nat → Nat) (sz : Nat) (Ad0 : Nat) (Fs0 : List Value) (k_Fs0 : fh Fs0 15 [(7, .int 0)])  : Met l yX0_fail w_z_X0_fail ({ frames := 0, cells := 0, slots := 0, locals := 0 }) (va_Pc [.ref Ad0, .int 1, .int 0] (fun U => U.heap.size = sz ∧ Wd dC dI [] (fun _ => True) [(Ad0, .inr (3, Fs0))] U)) (va_Qi (fun (r : Int32) (u : List Value) => (r = 0 ∧ ow Fs0 (u) 15 [14, 13] [(14, .int 0), (13, .int 1), (7, .int 0)])) (fun (u : List Value) t => Wd dC dI [] (va_A [(Ad0, .inr (3, Fs0))] sz) [(Ad0, .inr (3, (u)))] t) (va_A [(Ad0, .inr (3, Fs0))] sz))  0 0 (va_A [(Ad0, .inr (3, Fs0))] sz) := by
  refine Met.ofW (cc := cX0_fail) (maxL := 3) (ret := (some .boolean)) (by decide) rfl ?_
  intro p e s m args below meth c s₁ B hml hv
  obtain ⟨rfl, hsz, hP, hK, hD0⟩ := hv
  have hx := B.exec
  have hb := B.bytes
  have hr := B.returns
  have hts := atoms_spec (ws := w_z_X0_fail) B.pre
  have hown : s.vm.findClass RX0 = some m.cls := findClass_of_methodNamed B.named
  have hlocks := B.notSynchronized
  subst hsz
  have hD := hD0.self (sz := s.heap.size)
  generalize hAe : va_A [(Ad0, .inr (3, Fs0))] s.heap.size = A at hD ⊢
  have hA : ∀ q : Nat, s.heap.size ≤ q → A q := fun q h => by rw [← hAe]; exact Or.inr h
  have hS : va_S A s.heap s.heap [] := va_S.rf
  have hl := lv_entry ([.ref Ad0, .int 1, .int 0]) (n := 3) (Nat.le_of_ble_eq_true rfl)
  rw [lg_entry_eq]
  generalize (lg_sl ([.ref Ad0, .int 1, .int 0]) ++ List.replicate (3 - (lg_sl ([.ref Ad0, .int 1, .int 0])).length) Slot.unset).toArray = ls at hl ⊢
  have hl : lv_has ls 3 [(0, .ref Ad0), (1, .int 1), (2, .int 0)] := hl
  have o_Fs0 := ow_0 k_Fs0
  refine lv_aload_n hx hb dX0_fail_0 rfl (lv_at hl 0 rfl) ?_
  refine lv_iload_n hx hb dX0_fail_1 rfl (lv_at hl 1 rfl) ?_
  refine va_put (D := (dC, dI)) (ci := 3) (v := .int 1) (ty := .int) (C := RX0) (T := TX0) (N := 15) hx hb hts (in_z_X0_fail_X0) tyX0 tyX0_ok nmX0 hown hK hP hD hS 0 rfl rfl 13 (by decide) (hts (.fieldLink RX0 101 "HeapWorks$Archive" "fault" "I") (by decide +kernel)) (fun _ h9 => h9) rfl (by decide +kernel) rfl rfl (by rw [o_Fs0.2.1]; decide) dX0_fail_2 (fun H locs hP hD hS => ?_)
  have hP : va_P (dC, dI) vwCl [(Ad0, .inr (3, (Fs0.set 13 (.int 1))))] H := hP
  have hD : va_D A [(Ad0, .inr (3, (Fs0.set 13 (.int 1))))] := hD
  have o_s101 := ow_set o_Fs0 13 (.int 1) (by decide) (l' := [(13, .int 1), (7, .int 0)]) (w' := [13]) rfl rfl
  generalize (Fs0.set 13 (.int 1)) = s101 at hP hD o_s101
  refine lv_aload_n hx hb dX0_fail_5 rfl (lv_at hl 0 rfl) ?_
  refine lv_iload_n hx hb dX0_fail_6 rfl (lv_at hl 2 rfl) ?_
  refine lv_aload_n hx hb dX0_fail_7 rfl (lv_at hl 0 rfl) ?_
  refine va_get (D := (dC, dI)) (ci := 3) (v := .int 0) (C := RX0) (T := TX0) (N := 15) hx hb hts (in_z_X0_fail_X0) hown hK hP 0 rfl rfl 7 (by decide) (hts (.fieldLink RX0 92 "HeapWorks$Archive" "begin" "I") (by decide +kernel)) (fun _ h9 => h9) (ow_at o_s101 1 rfl) dX0_fail_8 ?_
  refine lv_isub hx hb dX0_fail_11  ?_
  refine lv_topi (fun x102 ex102 => ?_)
  obtain rfl : x102 = 0 := ex102.trans (by decide)
  refine va_put (D := (dC, dI)) (ci := 3) (v := .int 0) (ty := .int) (C := RX0) (T := TX0) (N := 15) hx hb hts (in_z_X0_fail_X0) tyX0 tyX0_ok nmX0 hown hK hP hD hS 0 rfl rfl 14 (by decide) (hts (.fieldLink RX0 104 "HeapWorks$Archive" "place" "I") (by decide +kernel)) (fun _ h9 => h9) rfl (by decide +kernel) rfl rfl (by rw [o_s101.2.1]; decide) dX0_fail_12 (fun H locs hP hD hS => ?_)
  have hP : va_P (dC, dI) vwCl [(Ad0, .inr (3, (s101.set 14 (.int 0))))] H := hP
  have hD : va_D A [(Ad0, .inr (3, (s101.set 14 (.int 0))))] := hD
  have o_s103 := ow_set o_s101 14 (.int 0) (by decide) (l' := [(14, .int 0), (13, .int 1), (7, .int 0)]) (w' := [14, 13]) rfl rfl
  generalize (s101.set 14 (.int 0)) = s103 at hP hD o_s103
  refine lv_iconst (v := 0) hx hb dX0_fail_15 (by decide) ?_
  have hP9 := hP.sub (ws' := [(Ad0, .inr (3, s103))]) [0] rfl
  have hD9 := hD.sub (ws' := [(Ad0, .inr (3, s103))]) [0] (by decide) rfl
  have hK9 := hK.sub (tys' := []) [] rfl
  exact W.zret (v := 0) hx hb hr rfl (fun t ht hW => ⟨⟨0, s103, rfl, ⟨rfl, o_s103⟩, by rw [ht]; exact hP9, va_K.moved hW.alike hK9, hD9⟩, hS.F ht⟩) hS.2.2 dX0_fail_16

def l_z_X0_readMarks : List Cond := [.fieldLink RX0 98 "HeapWorks$Archive" "at" "I", .fieldLink RX0 95 "HeapWorks$Archive" "limit" "I", .methodLink RX0 130 yX0_fail, .instanceMethod yX0_fail, .selects RX0 yX0_fail yX0_fail, .initialized RX0, .code yX0_fail cX0_fail 3 (some .boolean), .fieldLink RX0 101 "HeapWorks$Archive" "fault" "I", .fieldLink RX0 92 "HeapWorks$Archive" "begin" "I", .fieldLink RX0 104 "HeapWorks$Archive" "place" "I"]
def w_z_X0_readMarks : List Cond := .code yX0_readMarks cX0_readMarks 2 (some .boolean) :: (l_z_X0_readMarks ++ (wsX00))
theorem in_z_X0_readMarks_X0 : ∀ w ∈ wsX00, w ∈ w_z_X0_readMarks := fun w h => List.mem_cons_of_mem _ (List.mem_append_right _ (h))
theorem g_z_X0_readMarks_z_X0_fail_130 : GoodIn w_z_X0_readMarks (wsV RX0 130 RX0 yX0_fail w_z_X0_fail) := goodIn_app (goodIn_r (([.methodLink RX0 130 yX0_fail, .instanceMethod yX0_fail, .selects RX0 yX0_fail yX0_fail, .initialized RX0] : List Cond)) [3, 4, 5, 6] rfl (by decide +kernel)) (goodIn_ca (goodIn_r (.code yX0_fail cX0_fail 3 (some .boolean) :: l_z_X0_fail) [7, 8, 9, 10] rfl (by decide +kernel)) (goodIn_in (in_z_X0_readMarks_X0) gd_X0))
set_option maxHeartbeats 4000000 in
set_option maxRecDepth 100000 in
theorem z_X0_readMarks (l : Launch) (dC : Nat → ClassId) (dI : Nat → Nat → Nat) (sz : Nat) (Ad0 : Nat) (Fs0 : List Value) (k_Fs0 : fh Fs0 15 [(9, .int 0), (8, .int 0), (7, .int 0)])  : Met l yX0_readMarks w_z_X0_readMarks ({ frames := 1, cells := 0, slots := 0, locals := 22 }) (va_Pc [.ref Ad0] (fun U => U.heap.size = sz ∧ Wd dC dI [] (fun _ => True) [(Ad0, .inr (3, Fs0))] U)) (va_Qi (fun (r : Int32) (u : List Value) => (r = 0 ∧ ow Fs0 (u) 15 [14, 13] [(14, .int 0), (13, .int 1), (7, .int 0), (9, .int 0), (8, .int 0), (7, .int 0)])) (fun (u : List Value) t => Wd dC dI [] (va_A [(Ad0, .inr (3, Fs0))] sz) [(Ad0, .inr (3, (u)))] t) (va_A [(Ad0, .inr (3, Fs0))] sz))  0 0 (va_A [(Ad0, .inr (3, Fs0))] sz) := by
  refine Met.ofW (cc := cX0_readMarks) (maxL := 2) (ret := (some .boolean)) (by decide) rfl ?_
  intro p e s m args below meth c s₁ B hml hv
  obtain ⟨rfl, hsz, hP, hK, hD0⟩ := hv
  have hx := B.exec
  have hb := B.bytes
  have hr := B.returns
  have hts := atoms_spec (ws := w_z_X0_readMarks) B.pre
  have hown : s.vm.findClass RX0 = some m.cls := findClass_of_methodNamed B.named
  have hlocks := B.notSynchronized
  subst hsz
  have hD := hD0.self (sz := s.heap.size)
  generalize hAe : va_A [(Ad0, .inr (3, Fs0))] s.heap.size = A at hD ⊢
  have hA : ∀ q : Nat, s.heap.size ≤ q → A q := fun q h => by rw [← hAe]; exact Or.inr h
  have hS : va_S A s.heap s.heap [] := va_S.rf
  have hl := lv_entry ([.ref Ad0]) (n := 2) (Nat.le_of_ble_eq_true rfl)
  rw [lg_entry_eq]
  generalize (lg_sl ([.ref Ad0]) ++ List.replicate (2 - (lg_sl ([.ref Ad0])).length) Slot.unset).toArray = ls at hl ⊢
  have hl : lv_has ls 2 [(0, .ref Ad0)] := hl
  have o_Fs0 := ow_0 k_Fs0
  refine lv_iconst (v := 0) hx hb dX0_readMarks_0 (by decide) ?_
  refine lv_istore_n (lv' := [(1, .int 0), (0, .ref Ad0)]) hx hb dX0_readMarks_1 rfl hl (by decide) rfl (fun ls hl => ?_)
  refine lv_iload_n hx hb dX0_readMarks_2 rfl (lv_at hl 0 rfl) ?_
  refine lv_iconst (v := 2) hx hb dX0_readMarks_3 (by decide) ?_
  refine lv_icmp_ge (tgt := 77) hx hb dX0_readMarks_4 (by decide) (fun c101 => absurd c101 (by decide)) (fun c101 => ?_)
  refine lv_aload_n hx hb dX0_readMarks_7 rfl (lv_at hl 1 rfl) ?_
  refine va_get (D := (dC, dI)) (ci := 3) (v := .int 0) (C := RX0) (T := TX0) (N := 15) hx hb hts (in_z_X0_readMarks_X0) hown hK hP 0 rfl rfl 9 (by decide) (hts (.fieldLink RX0 98 "HeapWorks$Archive" "at" "I") (by decide +kernel)) (fun _ h9 => h9) (ow_at o_Fs0 0 rfl) dX0_readMarks_8 ?_
  refine lv_aload_n hx hb dX0_readMarks_11 rfl (lv_at hl 1 rfl) ?_
  refine va_get (D := (dC, dI)) (ci := 3) (v := .int 0) (C := RX0) (T := TX0) (N := 15) hx hb hts (in_z_X0_readMarks_X0) hown hK hP 0 rfl rfl 8 (by decide) (hts (.fieldLink RX0 95 "HeapWorks$Archive" "limit" "I") (by decide +kernel)) (fun _ h9 => h9) (ow_at o_Fs0 1 rfl) dX0_readMarks_12 ?_
  refine lv_icmp_lt (tgt := 28) hx hb dX0_readMarks_15 (by decide) (fun c102 => absurd c102 (by decide)) (fun c102 => ?_)
  refine lv_aload_n hx hb dX0_readMarks_18 rfl (lv_at hl 1 rfl) ?_
  refine lv_iconst (v := 1) hx hb dX0_readMarks_19 (by decide) ?_
  refine lv_aload_n hx hb dX0_readMarks_20 rfl (lv_at hl 1 rfl) ?_
  refine va_get (D := (dC, dI)) (ci := 3) (v := .int 0) (C := RX0) (T := TX0) (N := 15) hx hb hts (in_z_X0_readMarks_X0) hown hK hP 0 rfl rfl 8 (by decide) (hts (.fieldLink RX0 95 "HeapWorks$Archive" "limit" "I") (by decide +kernel)) (fun _ h9 => h9) (ow_at o_Fs0 1 rfl) dX0_readMarks_21 ?_
  have hPc := hP.sub (ws' := [(Ad0, .inr (3, Fs0))]) [0] rfl
  have hDc := hD.sub (ws' := [(Ad0, .inr (3, Fs0))]) [0] (by decide) rfl
  have hKc := hK.sub (tys' := []) [] rfl
  have hFc := va_free (wc := [(Ad0, .inr (3, Fs0))]) hD hS hA [0] rfl
  refine va_calli (va_runV (As := [.int 1, .int 0]) (rest := []) ⟨hx, hb, hml, hown, hts⟩ (z_X0_fail l dC dI s.heap.size Ad0 Fs0 (fh_sub o_Fs0.2 [2] rfl) ) (cwV 2 hts g_z_X0_readMarks_z_X0_fail_130 rfl rfl rfl (by decide +kernel) ⟨Nat.le_of_ble_eq_true rfl, Nat.le_of_ble_eq_true rfl⟩) ⟨fun a U g mk q => by obtain ⟨q0, q1, qP, qK, qD⟩ := q; exact ⟨q0, q1, qP, va_K.moved (u := U) (U := U.calling g mk a) (Vm.Alike.refl U.vm) qK, qD⟩, va_recv hK hP (ci := 3) (q0 := 0) rfl rfl, fun U hU hW => ⟨rfl, by rw [hU], by rw [hU]; exact hPc, va_K.moved hW.alike hKc, hDc.weaken (fun _ _ _ _ => trivial)⟩⟩ rfl rfl hl.1 rfl (lv_room (Nat.le_of_ble_eq_true rfl)) dX0_readMarks_24 ⟨Nat.le_of_ble_eq_true rfl, Nat.le_of_ble_eq_true rfl⟩) hS (fun q _ h => hFc q h) hFc (fun r103 u t H1 locs ht hvm hw hB hz1 hk1 hS => ?_)
  obtain ⟨s104, rfl⟩ : ∃ z, z = u := ⟨_, rfl⟩
  obtain ⟨hP1, hK1, hD1⟩ := hB
  rw [ht] at hP1
  try dsimp only at hw
  obtain ⟨hP, hD⟩ := va_join (wr := []) (w1 := [(Ad0, .inr (3, s104))]) hP hD [0] [] rfl rfl (by decide) (by decide) hk1 hFc hP1 hD1
  have hK := hK.sub (tys' := []) [] rfl
  generalize H1 = H at hP hS ⊢
  have hP : va_P (dC, dI) vwCl [(Ad0, .inr (3, s104))] H := hP
  have hD : va_D A [(Ad0, .inr (3, s104))] := hD
  obtain ⟨er105, o_s104⟩ := hw
  subst er105
  have o_s104 := ow_on o_Fs0 o_s104 (l' := [(14, .int 0), (13, .int 1), (7, .int 0), (9, .int 0), (8, .int 0), (7, .int 0)]) (w' := [14, 13]) rfl rfl
  have hP9 := hP.sub (ws' := [(Ad0, .inr (3, s104))]) [0] rfl
  have hD9 := hD.sub (ws' := [(Ad0, .inr (3, s104))]) [0] (by decide) rfl
  have hK9 := hK.sub (tys' := []) [] rfl
  exact W.zret (v := 0) hx hb hr rfl (fun t ht hW => ⟨⟨0, s104, rfl, ⟨rfl, o_s104⟩, by rw [ht]; exact hP9, va_K.moved hW.alike hK9, hD9⟩, hS.F ht⟩) hS.2.2 dX0_readMarks_27

def l_z_X0_decode : List Cond := [.fieldLink RX0 26 "HeapWorks$Archive" "source" "[I", .fieldLink RX0 92 "HeapWorks$Archive" "begin" "I", .fieldLink RX0 95 "HeapWorks$Archive" "limit" "I", .fieldLink RX0 98 "HeapWorks$Archive" "at" "I", .fieldLink RX0 101 "HeapWorks$Archive" "fault" "I", .fieldLink RX0 104 "HeapWorks$Archive" "place" "I", .methodLink RX0 107 yX5_forget, .instanceMethod yX5_forget, .selects RX5 yX5_forget yX5_forget, .initialized RX5, .methodLink RX0 110 yX0_readMarks, .instanceMethod yX0_readMarks, .selects RX0 yX0_readMarks yX0_readMarks, .initialized RX0, .code yX5_forget cX5_forget 2 none, .fieldLink RX5 82 "HeapWorks$Picture" "things" "I", .fieldLink RX5 86 "HeapWorks$Picture" "roots" "I", .fieldLink RX5 89 "HeapWorks$Picture" "lostCount" "I", .fieldLink RX5 78 "HeapWorks$Picture" "shape" "LHeapWorks$Shape;", .fieldLink RX5 92 "HeapWorks$Shape" "known" "I", .code yX0_readMarks cX0_readMarks 2 (some .boolean), .methodLink RX0 130 yX0_fail, .instanceMethod yX0_fail, .selects RX0 yX0_fail yX0_fail, .code yX0_fail cX0_fail 3 (some .boolean)]
def w_z_X0_decode : List Cond := .code yX0_decode cX0_decode 5 (some .boolean) :: (l_z_X0_decode ++ ((wsX00 ++ (wsX50 ++ wsX80))))
theorem in_z_X0_decode_X0 : ∀ w ∈ wsX00, w ∈ w_z_X0_decode := fun w h => List.mem_cons_of_mem _ (List.mem_append_right _ (List.mem_append_left _ h))
theorem in_z_X0_decode_X5 : ∀ w ∈ wsX50, w ∈ w_z_X0_decode := fun w h => List.mem_cons_of_mem _ (List.mem_append_right _ (List.mem_append_right _ (List.mem_append_left _ h)))
theorem in_z_X0_decode_X8 : ∀ w ∈ wsX80, w ∈ w_z_X0_decode := fun w h => List.mem_cons_of_mem _ (List.mem_append_right _ (List.mem_append_right _ (List.mem_append_right _ (h))))
theorem g_z_X0_decode_z_X5_forget_107 : GoodIn w_z_X0_decode (wsV RX0 107 RX5 yX5_forget w_z_X5_forget) := goodIn_app (goodIn_r (([.methodLink RX0 107 yX5_forget, .instanceMethod yX5_forget, .selects RX5 yX5_forget yX5_forget, .initialized RX5] : List Cond)) [7, 8, 9, 10] rfl (by decide +kernel)) (goodIn_ca (goodIn_r (.code yX5_forget cX5_forget 2 none :: l_z_X5_forget) [15, 16, 17, 18, 19, 20] rfl (by decide +kernel)) (goodIn_app (goodIn_in (in_z_X0_decode_X5) gd_X5) (goodIn_in (in_z_X0_decode_X8) gd_X8)))
theorem g_z_X0_decode_z_X0_readMarks_110 : GoodIn w_z_X0_decode (wsV RX0 110 RX0 yX0_readMarks w_z_X0_readMarks) := goodIn_app (goodIn_r (([.methodLink RX0 110 yX0_readMarks, .instanceMethod yX0_readMarks, .selects RX0 yX0_readMarks yX0_readMarks, .initialized RX0] : List Cond)) [11, 12, 13, 14] rfl (by decide +kernel)) (goodIn_ca (goodIn_r (.code yX0_readMarks cX0_readMarks 2 (some .boolean) :: l_z_X0_readMarks) [21, 4, 3, 22, 23, 24, 14, 25, 5, 2, 6] rfl (by decide +kernel)) (goodIn_in (in_z_X0_decode_X0) gd_X0))
set_option maxHeartbeats 4000000 in
set_option maxRecDepth 100000 in
theorem z_X0_decode (l : Launch) (dC : Nat → ClassId) (dI : Nat → Nat → Nat) (sz : Nat) (Ad0 : Nat) (Fs0 : List Value) (Ad1 : Nat) (Fs1 : List Value) (Ad2 : Nat) (Fs2 : List Value) (Br0 : Nat) (k_Fs0 : fh Fs0 21 [(0, .int 0), (20, .ref Ad1)]) (k_Fs1 : fh Fs1 18 []) (k_Fs2 : fh Fs2 15 [])  : Met l yX0_decode w_z_X0_decode ({ frames := 2, cells := 0, slots := 0, locals := 43 }) (va_Pc [.ref Ad2, .ref Br0, .int 0, .int 0, .ref Ad0] (fun U => U.heap.size = sz ∧ Wd dC dI [] (fun _ => True) [(Ad0, .inr (8, Fs0)), (Ad1, .inr (11, Fs1)), (Ad2, .inr (3, Fs2))] U)) (va_Qi (fun (r : Int32) (u : List Value × List Value × List Value) => (r = 0 ∧ ow Fs0 (u.1) 21 [16, 11, 0] [(16, .int 0), (11, .int 0), (0, .int 0), (20, .ref Ad1), (20, .ref Ad1)] ∧ ow Fs1 (u.2.1) 18 [1] [(1, .int 0)] ∧ ow Fs2 (u.2.2) 15 [14, 13, 9, 8, 7, 6] [(14, .int 0), (13, .int 1), (7, .int 0), (9, .int 0), (8, .int 0), (7, .int 0), (9, .int 0), (8, .int 0), (7, .int 0), (6, .ref Br0)])) (fun (u : List Value × List Value × List Value) t => Wd dC dI [] (va_A [(Ad0, .inr (8, Fs0)), (Ad1, .inr (11, Fs1)), (Ad2, .inr (3, Fs2))] sz) [(Ad0, .inr (8, (u.1))), (Ad1, .inr (11, (u.2.1))), (Ad2, .inr (3, (u.2.2)))] t) (va_A [(Ad0, .inr (8, Fs0)), (Ad1, .inr (11, Fs1)), (Ad2, .inr (3, Fs2))] sz))  0 0 (va_A [(Ad0, .inr (8, Fs0)), (Ad1, .inr (11, Fs1)), (Ad2, .inr (3, Fs2))] sz) := by
  refine Met.ofW (cc := cX0_decode) (maxL := 5) (ret := (some .boolean)) (by decide) rfl ?_
  intro p e s m args below meth c s₁ B hml hv
  obtain ⟨rfl, hsz, hP, hK, hD0⟩ := hv
  have hx := B.exec
  have hb := B.bytes
  have hr := B.returns
  have hts := atoms_spec (ws := w_z_X0_decode) B.pre
  have hown : s.vm.findClass RX0 = some m.cls := findClass_of_methodNamed B.named
  have hlocks := B.notSynchronized
  subst hsz
  have hD := hD0.self (sz := s.heap.size)
  generalize hAe : va_A [(Ad0, .inr (8, Fs0)), (Ad1, .inr (11, Fs1)), (Ad2, .inr (3, Fs2))] s.heap.size = A at hD ⊢
  have hA : ∀ q : Nat, s.heap.size ≤ q → A q := fun q h => by rw [← hAe]; exact Or.inr h
  have hS : va_S A s.heap s.heap [] := va_S.rf
  have hl := lv_entry ([.ref Ad2, .ref Br0, .int 0, .int 0, .ref Ad0]) (n := 5) (Nat.le_of_ble_eq_true rfl)
  rw [lg_entry_eq]
  generalize (lg_sl ([.ref Ad2, .ref Br0, .int 0, .int 0, .ref Ad0]) ++ List.replicate (5 - (lg_sl ([.ref Ad2, .ref Br0, .int 0, .int 0, .ref Ad0])).length) Slot.unset).toArray = ls at hl ⊢
  have hl : lv_has ls 5 [(0, .ref Ad2), (1, .ref Br0), (2, .int 0), (3, .int 0), (4, .ref Ad0)] := hl
  have o_Fs0 := ow_0 k_Fs0
  have o_Fs1 := ow_0 k_Fs1
  have o_Fs2 := ow_0 k_Fs2
  refine lv_aload_n hx hb dX0_decode_0 rfl (lv_at hl 0 rfl) ?_
  refine lv_aload_n hx hb dX0_decode_1 rfl (lv_at hl 1 rfl) ?_
  refine va_put (D := (dC, dI)) (ci := 3) (v := .ref Br0) (ty := .array .int) (C := RX0) (T := TX0) (N := 15) hx hb hts (in_z_X0_decode_X0) tyX0 tyX0_ok nmX0 hown hK hP hD hS 2 rfl rfl 6 (by decide) (hts (.fieldLink RX0 26 "HeapWorks$Archive" "source" "[I") (by decide +kernel)) (fun _ h9 => h9) rfl (by decide +kernel) rfl rfl (by rw [o_Fs2.2.1]; decide) dX0_decode_2 (fun H locs hP hD hS => ?_)
  have hP : va_P (dC, dI) vwCl [(Ad0, .inr (8, Fs0)), (Ad1, .inr (11, Fs1)), (Ad2, .inr (3, (Fs2.set 6 (.ref Br0))))] H := hP
  have hD : va_D A [(Ad0, .inr (8, Fs0)), (Ad1, .inr (11, Fs1)), (Ad2, .inr (3, (Fs2.set 6 (.ref Br0))))] := hD
  have o_s101 := ow_set o_Fs2 6 (.ref Br0) (by decide) (l' := [(6, .ref Br0)]) (w' := [6]) rfl rfl
  generalize (Fs2.set 6 (.ref Br0)) = s101 at hP hD o_s101
  refine lv_aload_n hx hb dX0_decode_5 rfl (lv_at hl 0 rfl) ?_
  refine lv_iload_n hx hb dX0_decode_6 rfl (lv_at hl 2 rfl) ?_
  refine va_put (D := (dC, dI)) (ci := 3) (v := .int 0) (ty := .int) (C := RX0) (T := TX0) (N := 15) hx hb hts (in_z_X0_decode_X0) tyX0 tyX0_ok nmX0 hown hK hP hD hS 2 rfl rfl 7 (by decide) (hts (.fieldLink RX0 92 "HeapWorks$Archive" "begin" "I") (by decide +kernel)) (fun _ h9 => h9) rfl (by decide +kernel) rfl rfl (by rw [o_s101.2.1]; decide) dX0_decode_7 (fun H locs hP hD hS => ?_)
  have hP : va_P (dC, dI) vwCl [(Ad0, .inr (8, Fs0)), (Ad1, .inr (11, Fs1)), (Ad2, .inr (3, (s101.set 7 (.int 0))))] H := hP
  have hD : va_D A [(Ad0, .inr (8, Fs0)), (Ad1, .inr (11, Fs1)), (Ad2, .inr (3, (s101.set 7 (.int 0))))] := hD
  have o_s102 := ow_set o_s101 7 (.int 0) (by decide) (l' := [(7, .int 0), (6, .ref Br0)]) (w' := [7, 6]) rfl rfl
  generalize (s101.set 7 (.int 0)) = s102 at hP hD o_s102
  refine lv_aload_n hx hb dX0_decode_10 rfl (lv_at hl 0 rfl) ?_
  refine lv_iload_n hx hb dX0_decode_11 rfl (lv_at hl 3 rfl) ?_
  refine va_put (D := (dC, dI)) (ci := 3) (v := .int 0) (ty := .int) (C := RX0) (T := TX0) (N := 15) hx hb hts (in_z_X0_decode_X0) tyX0 tyX0_ok nmX0 hown hK hP hD hS 2 rfl rfl 8 (by decide) (hts (.fieldLink RX0 95 "HeapWorks$Archive" "limit" "I") (by decide +kernel)) (fun _ h9 => h9) rfl (by decide +kernel) rfl rfl (by rw [o_s102.2.1]; decide) dX0_decode_12 (fun H locs hP hD hS => ?_)
  have hP : va_P (dC, dI) vwCl [(Ad0, .inr (8, Fs0)), (Ad1, .inr (11, Fs1)), (Ad2, .inr (3, (s102.set 8 (.int 0))))] H := hP
  have hD : va_D A [(Ad0, .inr (8, Fs0)), (Ad1, .inr (11, Fs1)), (Ad2, .inr (3, (s102.set 8 (.int 0))))] := hD
  have o_s103 := ow_set o_s102 8 (.int 0) (by decide) (l' := [(8, .int 0), (7, .int 0), (6, .ref Br0)]) (w' := [8, 7, 6]) rfl rfl
  generalize (s102.set 8 (.int 0)) = s103 at hP hD o_s103
  refine lv_aload_n hx hb dX0_decode_15 rfl (lv_at hl 0 rfl) ?_
  refine lv_iload_n hx hb dX0_decode_16 rfl (lv_at hl 2 rfl) ?_
  refine va_put (D := (dC, dI)) (ci := 3) (v := .int 0) (ty := .int) (C := RX0) (T := TX0) (N := 15) hx hb hts (in_z_X0_decode_X0) tyX0 tyX0_ok nmX0 hown hK hP hD hS 2 rfl rfl 9 (by decide) (hts (.fieldLink RX0 98 "HeapWorks$Archive" "at" "I") (by decide +kernel)) (fun _ h9 => h9) rfl (by decide +kernel) rfl rfl (by rw [o_s103.2.1]; decide) dX0_decode_17 (fun H locs hP hD hS => ?_)
  have hP : va_P (dC, dI) vwCl [(Ad0, .inr (8, Fs0)), (Ad1, .inr (11, Fs1)), (Ad2, .inr (3, (s103.set 9 (.int 0))))] H := hP
  have hD : va_D A [(Ad0, .inr (8, Fs0)), (Ad1, .inr (11, Fs1)), (Ad2, .inr (3, (s103.set 9 (.int 0))))] := hD
  have o_s104 := ow_set o_s103 9 (.int 0) (by decide) (l' := [(9, .int 0), (8, .int 0), (7, .int 0), (6, .ref Br0)]) (w' := [9, 8, 7, 6]) rfl rfl
  generalize (s103.set 9 (.int 0)) = s104 at hP hD o_s104
  refine lv_aload_n hx hb dX0_decode_20 rfl (lv_at hl 0 rfl) ?_
  refine lv_iconst (v := 0) hx hb dX0_decode_21 (by decide) ?_
  refine va_put (D := (dC, dI)) (ci := 3) (v := .int 0) (ty := .int) (C := RX0) (T := TX0) (N := 15) hx hb hts (in_z_X0_decode_X0) tyX0 tyX0_ok nmX0 hown hK hP hD hS 2 rfl rfl 13 (by decide) (hts (.fieldLink RX0 101 "HeapWorks$Archive" "fault" "I") (by decide +kernel)) (fun _ h9 => h9) rfl (by decide +kernel) rfl rfl (by rw [o_s104.2.1]; decide) dX0_decode_22 (fun H locs hP hD hS => ?_)
  have hP : va_P (dC, dI) vwCl [(Ad0, .inr (8, Fs0)), (Ad1, .inr (11, Fs1)), (Ad2, .inr (3, (s104.set 13 (.int 0))))] H := hP
  have hD : va_D A [(Ad0, .inr (8, Fs0)), (Ad1, .inr (11, Fs1)), (Ad2, .inr (3, (s104.set 13 (.int 0))))] := hD
  have o_s105 := ow_set o_s104 13 (.int 0) (by decide) (l' := [(13, .int 0), (9, .int 0), (8, .int 0), (7, .int 0), (6, .ref Br0)]) (w' := [13, 9, 8, 7, 6]) rfl rfl
  generalize (s104.set 13 (.int 0)) = s105 at hP hD o_s105
  refine lv_aload_n hx hb dX0_decode_25 rfl (lv_at hl 0 rfl) ?_
  refine lv_iconst (v := (-1)) hx hb dX0_decode_26 (by decide) ?_
  refine va_put (D := (dC, dI)) (ci := 3) (v := .int (-1)) (ty := .int) (C := RX0) (T := TX0) (N := 15) hx hb hts (in_z_X0_decode_X0) tyX0 tyX0_ok nmX0 hown hK hP hD hS 2 rfl rfl 14 (by decide) (hts (.fieldLink RX0 104 "HeapWorks$Archive" "place" "I") (by decide +kernel)) (fun _ h9 => h9) rfl (by decide +kernel) rfl rfl (by rw [o_s105.2.1]; decide) dX0_decode_27 (fun H locs hP hD hS => ?_)
  have hP : va_P (dC, dI) vwCl [(Ad0, .inr (8, Fs0)), (Ad1, .inr (11, Fs1)), (Ad2, .inr (3, (s105.set 14 (.int (-1)))))] H := hP
  have hD : va_D A [(Ad0, .inr (8, Fs0)), (Ad1, .inr (11, Fs1)), (Ad2, .inr (3, (s105.set 14 (.int (-1)))))] := hD
  have o_s106 := ow_set o_s105 14 (.int (-1)) (by decide) (l' := [(14, .int (-1)), (13, .int 0), (9, .int 0), (8, .int 0), (7, .int 0), (6, .ref Br0)]) (w' := [14, 13, 9, 8, 7, 6]) rfl rfl
  generalize (s105.set 14 (.int (-1))) = s106 at hP hD o_s106
  refine lv_aload hx hb dX0_decode_30 (lv_at hl 4 rfl) ?_
  have hPc := hP.sub (ws' := [(Ad0, .inr (8, Fs0)), (Ad1, .inr (11, Fs1))]) [0, 1] rfl
  have hDc := hD.sub (ws' := [(Ad0, .inr (8, Fs0)), (Ad1, .inr (11, Fs1))]) [0, 1] (by decide) rfl
  have hKc := hK.sub (tys' := []) [] rfl
  have hFc := va_free (wc := [(Ad0, .inr (8, Fs0)), (Ad1, .inr (11, Fs1))]) hD hS hA [0, 1] rfl
  refine va_callv (va_runV (As := []) (rest := []) ⟨hx, hb, hml, hown, hts⟩ (z_X5_forget l dC dI H.size Ad0 Fs0 Ad1 Fs1 (fh_sub o_Fs0.2 [0, 1] rfl) (fh_sub o_Fs1.2 [] rfl) ) (cwV 0 hts g_z_X0_decode_z_X5_forget_107 rfl rfl rfl (by decide +kernel) ⟨Nat.le_of_ble_eq_true rfl, Nat.le_of_ble_eq_true rfl⟩) ⟨fun a U g mk q => by obtain ⟨q0, q1, qP, qK, qD⟩ := q; exact ⟨q0, q1, qP, va_K.moved (u := U) (U := U.calling g mk a) (Vm.Alike.refl U.vm) qK, qD⟩, va_recv hK hP (ci := 8) (q0 := 0) rfl rfl, fun U hU hW => ⟨rfl, by rw [hU], by rw [hU]; exact hPc, va_K.moved hW.alike hKc, hDc.weaken (fun _ _ _ _ => trivial)⟩⟩ rfl rfl hl.1 rfl (lv_room (Nat.le_of_ble_eq_true rfl)) dX0_decode_32 ⟨Nat.le_of_ble_eq_true rfl, Nat.le_of_ble_eq_true rfl⟩) hS (fun q _ h => hFc q h) hFc (fun u t H1 locs ht hvm hw hB hz1 hk1 hS => ?_)
  obtain ⟨s107, s108⟩ := u
  obtain ⟨hP1, hK1, hD1⟩ := hB
  rw [ht] at hP1
  try dsimp only at hw
  obtain ⟨hP, hD⟩ := va_join (wr := [(Ad2, .inr (3, s106))]) (w1 := [(Ad0, .inr (8, s107)), (Ad1, .inr (11, s108))]) hP hD [0, 1] [2] rfl rfl (by decide) (by decide) hk1 hFc hP1 hD1
  have hK := hK.sub (tys' := []) [] rfl
  generalize H1 = H at hP hS ⊢
  have hP : va_P (dC, dI) vwCl [(Ad2, .inr (3, s106)), (Ad0, .inr (8, s107)), (Ad1, .inr (11, s108))] H := hP
  have hD : va_D A [(Ad2, .inr (3, s106)), (Ad0, .inr (8, s107)), (Ad1, .inr (11, s108))] := hD
  obtain ⟨o_s107, o_s108⟩ := hw
  have o_s107 := ow_on o_Fs0 o_s107 (l' := [(16, .int 0), (11, .int 0), (0, .int 0), (20, .ref Ad1), (20, .ref Ad1)]) (w' := [16, 11, 0]) rfl rfl
  have o_s108 := ow_on o_Fs1 o_s108 (l' := [(1, .int 0)]) (w' := [1]) rfl rfl
  refine lv_aload_n hx hb dX0_decode_35 rfl (lv_at hl 0 rfl) ?_
  have hPc := hP.sub (ws' := [(Ad2, .inr (3, s106))]) [0] rfl
  have hDc := hD.sub (ws' := [(Ad2, .inr (3, s106))]) [0] (by decide) rfl
  have hKc := hK.sub (tys' := []) [] rfl
  have hFc := va_free (wc := [(Ad2, .inr (3, s106))]) hD hS hA [0] rfl
  refine va_calli (va_runV (As := []) (rest := []) ⟨hx, hb, hml, hown, hts⟩ (z_X0_readMarks l dC dI H.size Ad2 s106 (fh_sub o_s106.2 [2, 3, 4] rfl) ) (cwV 0 hts g_z_X0_decode_z_X0_readMarks_110 rfl rfl rfl (by decide +kernel) ⟨Nat.le_of_ble_eq_true rfl, Nat.le_of_ble_eq_true rfl⟩) ⟨fun a U g mk q => by obtain ⟨q0, q1, qP, qK, qD⟩ := q; exact ⟨q0, q1, qP, va_K.moved (u := U) (U := U.calling g mk a) (Vm.Alike.refl U.vm) qK, qD⟩, va_recv hK hP (ci := 3) (q0 := 0) rfl rfl, fun U hU hW => ⟨rfl, by rw [hU], by rw [hU]; exact hPc, va_K.moved hW.alike hKc, hDc.weaken (fun _ _ _ _ => trivial)⟩⟩ rfl rfl hl.1 rfl (lv_room (Nat.le_of_ble_eq_true rfl)) dX0_decode_36 ⟨Nat.le_of_ble_eq_true rfl, Nat.le_of_ble_eq_true rfl⟩) hS (fun q _ h => hFc q h) hFc (fun r109 u t H1 locs ht hvm hw hB hz1 hk1 hS => ?_)
  obtain ⟨s110, rfl⟩ : ∃ z, z = u := ⟨_, rfl⟩
  obtain ⟨hP1, hK1, hD1⟩ := hB
  rw [ht] at hP1
  try dsimp only at hw
  obtain ⟨hP, hD⟩ := va_join (wr := [(Ad0, .inr (8, s107)), (Ad1, .inr (11, s108))]) (w1 := [(Ad2, .inr (3, s110))]) hP hD [0] [1, 2] rfl rfl (by decide) (by decide) hk1 hFc hP1 hD1
  have hK := hK.sub (tys' := []) [] rfl
  generalize H1 = H at hP hS ⊢
  have hP : va_P (dC, dI) vwCl [(Ad0, .inr (8, s107)), (Ad1, .inr (11, s108)), (Ad2, .inr (3, s110))] H := hP
  have hD : va_D A [(Ad0, .inr (8, s107)), (Ad1, .inr (11, s108)), (Ad2, .inr (3, s110))] := hD
  obtain ⟨er111, o_s110⟩ := hw
  subst er111
  have o_s110 := ow_on o_s106 o_s110 (l' := [(14, .int 0), (13, .int 1), (7, .int 0), (9, .int 0), (8, .int 0), (7, .int 0), (9, .int 0), (8, .int 0), (7, .int 0), (6, .ref Br0)]) (w' := [14, 13, 9, 8, 7, 6]) rfl rfl
  refine lv_if_eq (tgt := 89) hx hb dX0_decode_39 (by decide) (fun c112 => ?_) (fun c112 => absurd c112 (by decide))
  refine lv_iconst (v := 0) hx hb dX0_decode_89 (by decide) ?_
  have hP9 := hP.sub (ws' := [(Ad0, .inr (8, s107)), (Ad1, .inr (11, s108)), (Ad2, .inr (3, s110))]) [0, 1, 2] rfl
  have hD9 := hD.sub (ws' := [(Ad0, .inr (8, s107)), (Ad1, .inr (11, s108)), (Ad2, .inr (3, s110))]) [0, 1, 2] (by decide) rfl
  have hK9 := hK.sub (tys' := []) [] rfl
  exact W.zret (v := 0) hx hb hr rfl (fun t ht hW => ⟨⟨0, (s107, s108, s110), rfl, ⟨rfl, o_s107, o_s108, o_s110⟩, by rw [ht]; exact hP9, va_K.moved hW.alike hK9, hD9⟩, hS.F ht⟩) hS.2.2 dX0_decode_90

def l_z_X11_load : List Cond := [.methodLink RX11 353 yX11_needPicture, .static yX11_needPicture, .initialized RX11, .fieldLink RX11 91 "HeapWorks" "archive" "LHeapWorks$Archive;", .fieldLink RX11 12 "HeapWorks" "tape" "LHeapWorks$Tape;", .fieldLink RX11 113 "HeapWorks$Tape" "bytes" "[I", .fieldLink RX11 110 "HeapWorks$Tape" "size" "I", .fieldLink RX11 46 "HeapWorks" "spare" "LHeapWorks$Picture;", .methodLink RX11 514 yX0_decode, .instanceMethod yX0_decode, .selects RX0 yX0_decode yX0_decode, .initialized RX0, .fieldLink RX11 518 "HeapWorks$Archive" "fault" "I", .fieldLink RX11 519 "HeapWorks$Archive" "place" "I", .methodLink RX11 339 yX11_tellFault, .instanceMethod yX11_tellFault, .selects RX11 yX11_tellFault yX11_tellFault, .classLink RX11 127 "java/lang/IllegalArgumentException", .initialized "java/lang/IllegalArgumentException", .code yX11_needPicture cX11_needPicture 1 none, .methodLink RX11 411 yX11_isPicture, .static yX11_isPicture, .classLink RX11 120 "java/lang/IndexOutOfBoundsException", .initialized "java/lang/IndexOutOfBoundsException", .code yX11_isPicture cX11_isPicture 1 (some .boolean), .code yX0_decode cX0_decode 5 (some .boolean), .fieldLink RX0 26 "HeapWorks$Archive" "source" "[I", .fieldLink RX0 92 "HeapWorks$Archive" "begin" "I", .fieldLink RX0 95 "HeapWorks$Archive" "limit" "I", .fieldLink RX0 98 "HeapWorks$Archive" "at" "I", .fieldLink RX0 101 "HeapWorks$Archive" "fault" "I", .fieldLink RX0 104 "HeapWorks$Archive" "place" "I", .methodLink RX0 107 yX5_forget, .instanceMethod yX5_forget, .selects RX5 yX5_forget yX5_forget, .initialized RX5, .methodLink RX0 110 yX0_readMarks, .instanceMethod yX0_readMarks, .selects RX0 yX0_readMarks yX0_readMarks, .code yX5_forget cX5_forget 2 none, .fieldLink RX5 82 "HeapWorks$Picture" "things" "I", .fieldLink RX5 86 "HeapWorks$Picture" "roots" "I", .fieldLink RX5 89 "HeapWorks$Picture" "lostCount" "I", .fieldLink RX5 78 "HeapWorks$Picture" "shape" "LHeapWorks$Shape;", .fieldLink RX5 92 "HeapWorks$Shape" "known" "I", .code yX0_readMarks cX0_readMarks 2 (some .boolean), .methodLink RX0 130 yX0_fail, .instanceMethod yX0_fail, .selects RX0 yX0_fail yX0_fail, .code yX0_fail cX0_fail 3 (some .boolean), .code yX11_tellFault cX11_tellFault 3 none, .fieldLink RX11 469 "HeapWorks" "faultCode" "I", .fieldLink RX11 98 "HeapWorks" "faultPlace" "I"]
def w_z_X11_load : List Cond := .code yX11_load cX11_load 4 (some .int) :: (l_z_X11_load ++ ((wsX110 ++ (wsX90 ++ (wsX00 ++ (((vx_at0 RX11 129 "java/lang/IllegalArgumentException" ["java/lang/RuntimeException", "java/lang/Exception"]).filter goodWord) ++ (((vx_at0 RX11 122 "java/lang/IndexOutOfBoundsException" ["java/lang/RuntimeException", "java/lang/Exception"]).filter goodWord) ++ (wsX50 ++ wsX80))))))))
theorem in_z_X11_load_X11 : ∀ w ∈ wsX110, w ∈ w_z_X11_load := fun w h => List.mem_cons_of_mem _ (List.mem_append_right _ (List.mem_append_left _ h))
theorem in_z_X11_load_X9 : ∀ w ∈ wsX90, w ∈ w_z_X11_load := fun w h => List.mem_cons_of_mem _ (List.mem_append_right _ (List.mem_append_right _ (List.mem_append_left _ h)))
theorem in_z_X11_load_X0 : ∀ w ∈ wsX00, w ∈ w_z_X11_load := fun w h => List.mem_cons_of_mem _ (List.mem_append_right _ (List.mem_append_right _ (List.mem_append_right _ (List.mem_append_left _ h))))
theorem in_z_X11_load_at0_X11_129 : ∀ w ∈ ((vx_at0 RX11 129 "java/lang/IllegalArgumentException" ["java/lang/RuntimeException", "java/lang/Exception"]).filter goodWord), w ∈ w_z_X11_load := fun w h => List.mem_cons_of_mem _ (List.mem_append_right _ (List.mem_append_right _ (List.mem_append_right _ (List.mem_append_right _ (List.mem_append_left _ h)))))
theorem in_z_X11_load_at0_X11_122 : ∀ w ∈ ((vx_at0 RX11 122 "java/lang/IndexOutOfBoundsException" ["java/lang/RuntimeException", "java/lang/Exception"]).filter goodWord), w ∈ w_z_X11_load := fun w h => List.mem_cons_of_mem _ (List.mem_append_right _ (List.mem_append_right _ (List.mem_append_right _ (List.mem_append_right _ (List.mem_append_right _ (List.mem_append_left _ h))))))
theorem in_z_X11_load_X5 : ∀ w ∈ wsX50, w ∈ w_z_X11_load := fun w h => List.mem_cons_of_mem _ (List.mem_append_right _ (List.mem_append_right _ (List.mem_append_right _ (List.mem_append_right _ (List.mem_append_right _ (List.mem_append_right _ (List.mem_append_left _ h)))))))
theorem in_z_X11_load_X8 : ∀ w ∈ wsX80, w ∈ w_z_X11_load := fun w h => List.mem_cons_of_mem _ (List.mem_append_right _ (List.mem_append_right _ (List.mem_append_right _ (List.mem_append_right _ (List.mem_append_right _ (List.mem_append_right _ (List.mem_append_right _ (h))))))))
theorem g_z_X11_load_z_X11_needPicture_353 : GoodIn w_z_X11_load (wsS RX11 353 yX11_needPicture w_z_X11_needPicture) := goodIn_app (goodIn_r (([.methodLink RX11 353 yX11_needPicture, .static yX11_needPicture, .initialized RX11] : List Cond)) [1, 2, 3] rfl (by decide +kernel)) (goodIn_ca (goodIn_r (.code yX11_needPicture cX11_needPicture 1 none :: l_z_X11_needPicture) [20, 21, 22, 3, 23, 24, 25] rfl (by decide +kernel)) (goodIn_in (in_z_X11_load_at0_X11_122) gd_at0_X11_122))
theorem g_z_X11_load_z_X0_decode_514 : GoodIn w_z_X11_load (wsV RX11 514 RX0 yX0_decode w_z_X0_decode) := goodIn_app (goodIn_r (([.methodLink RX11 514 yX0_decode, .instanceMethod yX0_decode, .selects RX0 yX0_decode yX0_decode, .initialized RX0] : List Cond)) [9, 10, 11, 12] rfl (by decide +kernel)) (goodIn_ca (goodIn_r (.code yX0_decode cX0_decode 5 (some .boolean) :: l_z_X0_decode) [26, 27, 28, 29, 30, 31, 32, 33, 34, 35, 36, 37, 38, 39, 12, 40, 41, 42, 43, 44, 45, 46, 47, 48, 49, 50] rfl (by decide +kernel)) (goodIn_app (goodIn_in (in_z_X11_load_X0) gd_X0) (goodIn_app (goodIn_in (in_z_X11_load_X5) gd_X5) (goodIn_in (in_z_X11_load_X8) gd_X8))))
theorem g_z_X11_load_z_X11_tellFault_339 : GoodIn w_z_X11_load (wsV RX11 339 RX11 yX11_tellFault w_z_X11_tellFault) := goodIn_app (goodIn_r (([.methodLink RX11 339 yX11_tellFault, .instanceMethod yX11_tellFault, .selects RX11 yX11_tellFault yX11_tellFault, .initialized RX11] : List Cond)) [15, 16, 17, 3] rfl (by decide +kernel)) (goodIn_ca (goodIn_r (.code yX11_tellFault cX11_tellFault 3 none :: l_z_X11_tellFault) [51, 52, 53] rfl (by decide +kernel)) (goodIn_in (in_z_X11_load_X11) gd_X11))
set_option maxHeartbeats 4000000 in
set_option maxRecDepth 100000 in
theorem z_X11_load (l : Launch) (dC : Nat → ClassId) (dI : Nat → Nat → Nat) (sz : Nat) (Ad0 : Nat) (Fs0 : List Value) (Ad1 : Nat) (Fs1 : List Value) (Ad2 : Nat) (Fs2 : List Value) (Ad3 : Nat) (Fs3 : List Value) (Ad4 : Nat) (Fs4 : List Value) (Va0 : Int32) (Br0 : Nat) (k_Fs0 : fh Fs0 18 [(0, .ref Ad1), (5, .ref Ad2), (13, .ref Ad4)]) (k_Fs1 : fh Fs1 12 [(0, .ref Br0), (1, .int 0)]) (k_Fs2 : fh Fs2 21 [(0, .int 0), (20, .ref Ad3)]) (k_Fs3 : fh Fs3 18 []) (k_Fs4 : fh Fs4 15 []) (hst : l.stackTraces = false)  : vx_Met l yX11_load w_z_X11_load ({ frames := 8, cells := 2, slots := 12, locals := 160 }) (va_Pc [.ref Ad0, .int Va0] (fun U => U.heap.size = sz ∧ Zz (va_A [(Ad0, .inr (14, Fs0)), (Ad1, .inr (12, Fs1)), (Ad2, .inr (8, Fs2)), (Ad3, .inr (11, Fs3)), (Ad4, .inr (3, Fs4))] sz) U ∧ Wd dC dI [] (fun _ => True) [(Ad0, .inr (14, Fs0)), (Ad1, .inr (12, Fs1)), (Ad2, .inr (8, Fs2)), (Ad3, .inr (11, Fs3)), (Ad4, .inr (3, Fs4))] U)) (va_Qi (fun (r : Int32) (u : Unit) => False) (fun (u : Unit) t => Wd dC dI [] (va_A [(Ad0, .inr (14, Fs0)), (Ad1, .inr (12, Fs1)), (Ad2, .inr (8, Fs2)), (Ad3, .inr (11, Fs3)), (Ad4, .inr (3, Fs4))] sz) [(Ad0, .inr (14, Fs0)), (Ad1, .inr (12, Fs1)), (Ad2, .inr (8, Fs2)), (Ad3, .inr (11, Fs3)), (Ad4, .inr (3, Fs4))] t) (va_A [(Ad0, .inr (14, Fs0)), (Ad1, .inr (12, Fs1)), (Ad2, .inr (8, Fs2)), (Ad3, .inr (11, Fs3)), (Ad4, .inr (3, Fs4))] sz)) (vx_X (fun _ : Unit => True) (fun E _ _ => (E = "java/lang/IndexOutOfBoundsException" ∧ Va0 < 0) ∨ (E = "java/lang/IndexOutOfBoundsException" ∧ ¬ Va0 < 0 ∧ 4 ≤ Va0) ∨ (E = "java/lang/IllegalArgumentException" ∧ ¬ Va0 < 0 ∧ ¬ 4 ≤ Va0)) (va_A [(Ad0, .inr (14, Fs0)), (Ad1, .inr (12, Fs1)), (Ad2, .inr (8, Fs2)), (Ad3, .inr (11, Fs3)), (Ad4, .inr (3, Fs4))] sz)) 2 12 (va_A [(Ad0, .inr (14, Fs0)), (Ad1, .inr (12, Fs1)), (Ad2, .inr (8, Fs2)), (Ad3, .inr (11, Fs3)), (Ad4, .inr (3, Fs4))] sz) := by
  refine vx_ofW (cc := cX11_load) (maxL := 4) (ret := (some .int)) (by decide) rfl ?_
  intro p e s m args below meth c s₁ B hml htab hv
  obtain ⟨rfl, hsz, hZ, hP, hK, hD0⟩ := hv
  have hx := B.exec
  have hb := B.bytes
  have hr := B.returns
  have hts := atoms_spec (ws := w_z_X11_load) B.pre
  have hown : s.vm.findClass RX11 = some m.cls := findClass_of_methodNamed B.named
  have hlocks := B.notSynchronized
  subst hsz
  have hD := hD0.self (sz := s.heap.size)
  generalize hAe : va_A [(Ad0, .inr (14, Fs0)), (Ad1, .inr (12, Fs1)), (Ad2, .inr (8, Fs2)), (Ad3, .inr (11, Fs3)), (Ad4, .inr (3, Fs4))] s.heap.size = A at hD hZ ⊢
  have hA : ∀ q : Nat, s.heap.size ≤ q → A q := fun q h => by rw [← hAe]; exact Or.inr h
  have hS : va_S A s.heap s.heap [] := va_S.rf
  have hl := lv_entry ([.ref Ad0, .int Va0]) (n := 4) (Nat.le_of_ble_eq_true rfl)
  rw [lg_entry_eq]
  generalize (lg_sl ([.ref Ad0, .int Va0]) ++ List.replicate (4 - (lg_sl ([.ref Ad0, .int Va0])).length) Slot.unset).toArray = ls at hl ⊢
  have hl : lv_has ls 4 [(0, .ref Ad0), (1, .int Va0)] := hl
  have o_Fs0 := ow_0 k_Fs0
  have o_Fs1 := ow_0 k_Fs1
  have o_Fs2 := ow_0 k_Fs2
  have o_Fs3 := ow_0 k_Fs3
  have o_Fs4 := ow_0 k_Fs4
  refine lv_iload_n hx hb dX11_load_0 rfl (lv_at hl 1 rfl) ?_
  have hPc := hP.sub (ws' := []) [] rfl
  have hDc := hD.sub (ws' := []) [] (by decide) rfl
  have hKc := hK.sub (tys' := []) [] rfl
  have hFc := va_free (wc := []) hD hS hA [] rfl
  refine vx_callv (vx_runS (As := [.int Va0]) (rest := []) ⟨hx, hb, hml, hown, hts⟩ (z_X11_needPicture l dC dI s.heap.size Va0  hst ) (cwS 1 hts g_z_X11_load_z_X11_needPicture_353 rfl rfl rfl (by decide +kernel) ⟨Nat.le_of_ble_eq_true rfl, Nat.le_of_ble_eq_true rfl⟩) ⟨fun a U g mk q => by obtain ⟨q0, q1, qZ, qP, qK, qD⟩ := q; exact ⟨q0, q1, Zz_call qZ, qP, va_K.moved (u := U) (U := U.calling g mk a) (Vm.Alike.refl U.vm) qK, qD⟩, fun U hU hW => ⟨rfl, by rw [hU], Zz_go hZ hS hFc hU hW, by rw [hU]; exact hPc, va_K.moved hW.alike hKc, hDc.weaken (fun _ _ _ _ => trivial)⟩⟩ rfl rfl hl.1 rfl (lv_room (Nat.le_of_ble_eq_true rfl)) dX11_load_1 ⟨Nat.le_of_ble_eq_true rfl, Nat.le_of_ble_eq_true rfl⟩) hS (fun q _ h => hFc q h) hFc (fun q _ h => hFc q h) (fun E ce q9 u t H1 locs ht hvm hpx hBX hz1 hk1 hS hce hcv hcl => ?_) (fun u t H1 locs ht hvm hw hB hz1 hk1 hS => ?_)
  · rcases hBX with ⟨rfl, c101⟩ | ⟨rfl, c102, c103⟩
    · exact vx_out (fun x h => (htab x h).elim) hlocks hce hcv hcl (fun t9 ht9 _ => ⟨(), trivial, (Or.inl ⟨rfl, c101⟩), hS.F ht9⟩) hS.2.2 (by decide) (by decide)
    · exact vx_out (fun x h => (htab x h).elim) hlocks hce hcv hcl (fun t9 ht9 _ => ⟨(), trivial, (Or.inr (Or.inl ⟨rfl, c102, c103⟩)), hS.F ht9⟩) hS.2.2 (by decide) (by decide)
  · skip
    obtain ⟨hP1, hK1, hD1⟩ := hB
    rw [ht] at hP1
    try dsimp only at hw
    obtain ⟨hP, hD⟩ := va_join (wr := [(Ad0, .inr (14, Fs0)), (Ad1, .inr (12, Fs1)), (Ad2, .inr (8, Fs2)), (Ad3, .inr (11, Fs3)), (Ad4, .inr (3, Fs4))]) (w1 := []) hP hD [] [0, 1, 2, 3, 4] rfl rfl (by decide) (by decide) hk1 hFc hP1 hD1
    have hK := hK.sub (tys' := []) [] rfl
    generalize H1 = H at hP hS ⊢
    refine W.widen (k := 1) (n := 6) (by omega) (by omega) ?_
    have hP : va_P (dC, dI) vwCl [(Ad0, .inr (14, Fs0)), (Ad1, .inr (12, Fs1)), (Ad2, .inr (8, Fs2)), (Ad3, .inr (11, Fs3)), (Ad4, .inr (3, Fs4))] H := hP
    have hD : va_D A [(Ad0, .inr (14, Fs0)), (Ad1, .inr (12, Fs1)), (Ad2, .inr (8, Fs2)), (Ad3, .inr (11, Fs3)), (Ad4, .inr (3, Fs4))] := hD
    obtain ⟨c104, c105⟩ := hw
    refine lv_aload_n hx hb dX11_load_4 rfl (lv_at hl 0 rfl) ?_
    refine va_get (D := (dC, dI)) (ci := 14) (v := .ref Ad4) (C := RX11) (T := TX11) (N := 18) hx hb hts (in_z_X11_load_X11) hown hK hP 0 rfl rfl 13 (by decide) (hts (.fieldLink RX11 91 "HeapWorks" "archive" "LHeapWorks$Archive;") (by decide +kernel)) (fun _ h9 => h9) (ow_at o_Fs0 2 rfl) dX11_load_5 ?_
    refine lv_aload_n hx hb dX11_load_8 rfl (lv_at hl 0 rfl) ?_
    refine va_get (D := (dC, dI)) (ci := 14) (v := .ref Ad1) (C := RX11) (T := TX11) (N := 18) hx hb hts (in_z_X11_load_X11) hown hK hP 0 rfl rfl 0 (by decide) (hts (.fieldLink RX11 12 "HeapWorks" "tape" "LHeapWorks$Tape;") (by decide +kernel)) (fun _ h9 => h9) (ow_at o_Fs0 0 rfl) dX11_load_9 ?_
    refine va_get (D := (dC, dI)) (ci := 12) (v := .ref Br0) (C := RX9) (T := TX9) (N := 12) hx hb hts (in_z_X11_load_X9) hown hK hP 1 rfl rfl 0 (by decide) (hts (.fieldLink RX11 113 "HeapWorks$Tape" "bytes" "[I") (by decide +kernel)) (fun _ h9 => h9) (ow_at o_Fs1 0 rfl) dX11_load_12 ?_
    refine lv_iconst (v := 0) hx hb dX11_load_15 (by decide) ?_
    refine lv_aload_n hx hb dX11_load_16 rfl (lv_at hl 0 rfl) ?_
    refine va_get (D := (dC, dI)) (ci := 14) (v := .ref Ad1) (C := RX11) (T := TX11) (N := 18) hx hb hts (in_z_X11_load_X11) hown hK hP 0 rfl rfl 0 (by decide) (hts (.fieldLink RX11 12 "HeapWorks" "tape" "LHeapWorks$Tape;") (by decide +kernel)) (fun _ h9 => h9) (ow_at o_Fs0 0 rfl) dX11_load_17 ?_
    refine va_get (D := (dC, dI)) (ci := 12) (v := .int 0) (C := RX9) (T := TX9) (N := 12) hx hb hts (in_z_X11_load_X9) hown hK hP 1 rfl rfl 1 (by decide) (hts (.fieldLink RX11 110 "HeapWorks$Tape" "size" "I") (by decide +kernel)) (fun _ h9 => h9) (ow_at o_Fs1 1 rfl) dX11_load_20 ?_
    refine lv_aload_n hx hb dX11_load_23 rfl (lv_at hl 0 rfl) ?_
    refine va_get (D := (dC, dI)) (ci := 14) (v := .ref Ad2) (C := RX11) (T := TX11) (N := 18) hx hb hts (in_z_X11_load_X11) hown hK hP 0 rfl rfl 5 (by decide) (hts (.fieldLink RX11 46 "HeapWorks" "spare" "LHeapWorks$Picture;") (by decide +kernel)) (fun _ h9 => h9) (ow_at o_Fs0 1 rfl) dX11_load_24 ?_
    have hPc := hP.sub (ws' := [(Ad2, .inr (8, Fs2)), (Ad3, .inr (11, Fs3)), (Ad4, .inr (3, Fs4))]) [2, 3, 4] rfl
    have hDc := hD.sub (ws' := [(Ad2, .inr (8, Fs2)), (Ad3, .inr (11, Fs3)), (Ad4, .inr (3, Fs4))]) [2, 3, 4] (by decide) rfl
    have hKc := hK.sub (tys' := []) [] rfl
    have hFc := va_free (wc := [(Ad2, .inr (8, Fs2)), (Ad3, .inr (11, Fs3)), (Ad4, .inr (3, Fs4))]) hD hS hA [2, 3, 4] rfl
    refine va_calli (va_runV (As := [.ref Br0, .int 0, .int 0, .ref Ad2]) (rest := []) ⟨hx, hb, hml, hown, hts⟩ (z_X0_decode l dC dI H.size Ad2 Fs2 Ad3 Fs3 Ad4 Fs4 Br0 (fh_sub o_Fs2.2 [0, 1] rfl) (fh_sub o_Fs3.2 [] rfl) (fh_sub o_Fs4.2 [] rfl) ) (cwV 4 hts g_z_X11_load_z_X0_decode_514 rfl rfl rfl (by decide +kernel) ⟨Nat.le_of_ble_eq_true rfl, Nat.le_of_ble_eq_true rfl⟩) ⟨fun a U g mk q => by obtain ⟨q0, q1, qP, qK, qD⟩ := q; exact ⟨q0, q1, qP, va_K.moved (u := U) (U := U.calling g mk a) (Vm.Alike.refl U.vm) qK, qD⟩, va_recv hK hP (ci := 3) (q0 := 4) rfl rfl, fun U hU hW => ⟨rfl, by rw [hU], by rw [hU]; exact hPc, va_K.moved hW.alike hKc, hDc.weaken (fun _ _ _ _ => trivial)⟩⟩ rfl rfl hl.1 rfl (lv_room (Nat.le_of_ble_eq_true rfl)) dX11_load_27 ⟨Nat.le_of_ble_eq_true rfl, Nat.le_of_ble_eq_true rfl⟩) hS (fun q _ h => hFc q h) hFc (fun r106 u t H1 locs ht hvm hw hB hz1 hk1 hS => ?_)
    obtain ⟨s107, s108, s109⟩ := u
    obtain ⟨hP1, hK1, hD1⟩ := hB
    rw [ht] at hP1
    try dsimp only at hw
    obtain ⟨hP, hD⟩ := va_join (wr := [(Ad0, .inr (14, Fs0)), (Ad1, .inr (12, Fs1))]) (w1 := [(Ad2, .inr (8, s107)), (Ad3, .inr (11, s108)), (Ad4, .inr (3, s109))]) hP hD [2, 3, 4] [0, 1] rfl rfl (by decide) (by decide) hk1 hFc hP1 hD1
    have hK := hK.sub (tys' := []) [] rfl
    generalize H1 = H at hP hS ⊢
    have hP : va_P (dC, dI) vwCl [(Ad0, .inr (14, Fs0)), (Ad1, .inr (12, Fs1)), (Ad2, .inr (8, s107)), (Ad3, .inr (11, s108)), (Ad4, .inr (3, s109))] H := hP
    have hD : va_D A [(Ad0, .inr (14, Fs0)), (Ad1, .inr (12, Fs1)), (Ad2, .inr (8, s107)), (Ad3, .inr (11, s108)), (Ad4, .inr (3, s109))] := hD
    obtain ⟨er110, o_s107, o_s108, o_s109⟩ := hw
    subst er110
    have o_s107 := ow_on o_Fs2 o_s107 (l' := [(16, .int 0), (11, .int 0), (0, .int 0), (20, .ref Ad3), (20, .ref Ad3), (20, .ref Ad3)]) (w' := [16, 11, 0]) rfl rfl
    have o_s108 := ow_on o_Fs3 o_s108 (l' := [(1, .int 0)]) (w' := [1]) rfl rfl
    have o_s109 := ow_on o_Fs4 o_s109 (l' := [(14, .int 0), (13, .int 1), (7, .int 0), (9, .int 0), (8, .int 0), (7, .int 0), (9, .int 0), (8, .int 0), (7, .int 0), (6, .ref Br0)]) (w' := [14, 13, 9, 8, 7, 6]) rfl rfl
    refine lv_istore_n (lv' := [(2, .int 0), (0, .ref Ad0), (1, .int Va0)]) hx hb dX11_load_30 rfl hl (by decide) rfl (fun ls hl => ?_)
    refine lv_aload_n hx hb dX11_load_31 rfl (lv_at hl 1 rfl) ?_
    refine lv_aload_n hx hb dX11_load_32 rfl (lv_at hl 1 rfl) ?_
    refine va_get (D := (dC, dI)) (ci := 14) (v := .ref Ad4) (C := RX11) (T := TX11) (N := 18) hx hb hts (in_z_X11_load_X11) hown hK hP 0 rfl rfl 13 (by decide) (hts (.fieldLink RX11 91 "HeapWorks" "archive" "LHeapWorks$Archive;") (by decide +kernel)) (fun _ h9 => h9) (ow_at o_Fs0 2 rfl) dX11_load_33 ?_
    refine va_get (D := (dC, dI)) (ci := 3) (v := .int 1) (C := RX0) (T := TX0) (N := 15) hx hb hts (in_z_X11_load_X0) hown hK hP 4 rfl rfl 13 (by decide) (hts (.fieldLink RX11 518 "HeapWorks$Archive" "fault" "I") (by decide +kernel)) (fun _ h9 => h9) (ow_at o_s109 1 rfl) dX11_load_36 ?_
    refine lv_aload_n hx hb dX11_load_39 rfl (lv_at hl 1 rfl) ?_
    refine va_get (D := (dC, dI)) (ci := 14) (v := .ref Ad4) (C := RX11) (T := TX11) (N := 18) hx hb hts (in_z_X11_load_X11) hown hK hP 0 rfl rfl 13 (by decide) (hts (.fieldLink RX11 91 "HeapWorks" "archive" "LHeapWorks$Archive;") (by decide +kernel)) (fun _ h9 => h9) (ow_at o_Fs0 2 rfl) dX11_load_40 ?_
    refine va_get (D := (dC, dI)) (ci := 3) (v := .int 0) (C := RX0) (T := TX0) (N := 15) hx hb hts (in_z_X11_load_X0) hown hK hP 4 rfl rfl 14 (by decide) (hts (.fieldLink RX11 519 "HeapWorks$Archive" "place" "I") (by decide +kernel)) (fun _ h9 => h9) (ow_at o_s109 0 rfl) dX11_load_43 ?_
    have hPc := hP.sub (ws' := [(Ad0, .inr (14, Fs0))]) [0] rfl
    have hDc := hD.sub (ws' := [(Ad0, .inr (14, Fs0))]) [0] (by decide) rfl
    have hKc := hK.sub (tys' := []) [] rfl
    have hFc := va_free (wc := [(Ad0, .inr (14, Fs0))]) hD hS hA [0] rfl
    refine va_callv (va_runV (As := [.int 1, .int 0]) (rest := []) ⟨hx, hb, hml, hown, hts⟩ (z_X11_tellFault l dC dI H.size Ad0 Fs0 (fh_sub o_Fs0.2 [] rfl) ) (cwV 2 hts g_z_X11_load_z_X11_tellFault_339 rfl rfl rfl (by decide +kernel) ⟨Nat.le_of_ble_eq_true rfl, Nat.le_of_ble_eq_true rfl⟩) ⟨fun a U g mk q => by obtain ⟨q0, q1, qP, qK, qD⟩ := q; exact ⟨q0, q1, qP, va_K.moved (u := U) (U := U.calling g mk a) (Vm.Alike.refl U.vm) qK, qD⟩, va_recv hK hP (ci := 14) (q0 := 0) rfl rfl, fun U hU hW => ⟨rfl, by rw [hU], by rw [hU]; exact hPc, va_K.moved hW.alike hKc, hDc.weaken (fun _ _ _ _ => trivial)⟩⟩ rfl rfl hl.1 rfl (lv_room (Nat.le_of_ble_eq_true rfl)) dX11_load_46 ⟨Nat.le_of_ble_eq_true rfl, Nat.le_of_ble_eq_true rfl⟩) hS (fun q _ h => hFc q h) hFc (fun u t H1 locs ht hvm hw hB hz1 hk1 hS => ?_)
    obtain ⟨s111, rfl⟩ : ∃ z, z = u := ⟨_, rfl⟩
    obtain ⟨hP1, hK1, hD1⟩ := hB
    rw [ht] at hP1
    try dsimp only at hw
    obtain ⟨hP, hD⟩ := va_join (wr := [(Ad1, .inr (12, Fs1)), (Ad2, .inr (8, s107)), (Ad3, .inr (11, s108)), (Ad4, .inr (3, s109))]) (w1 := [(Ad0, .inr (14, s111))]) hP hD [0] [1, 2, 3, 4] rfl rfl (by decide) (by decide) hk1 hFc hP1 hD1
    have hK := hK.sub (tys' := []) [] rfl
    generalize H1 = H at hP hS ⊢
    have hP : va_P (dC, dI) vwCl [(Ad1, .inr (12, Fs1)), (Ad2, .inr (8, s107)), (Ad3, .inr (11, s108)), (Ad4, .inr (3, s109)), (Ad0, .inr (14, s111))] H := hP
    have hD : va_D A [(Ad1, .inr (12, Fs1)), (Ad2, .inr (8, s107)), (Ad3, .inr (11, s108)), (Ad4, .inr (3, s109)), (Ad0, .inr (14, s111))] := hD
    have o_s111 := hw
    have o_s111 := ow_on o_Fs0 o_s111 (l' := [(17, .int 0), (16, .int 1), (0, .ref Ad1), (5, .ref Ad2), (13, .ref Ad4)]) (w' := [17, 16]) rfl rfl
    refine lv_iload_n hx hb dX11_load_49 rfl (lv_at hl 0 rfl) ?_
    refine lv_if_ne (tgt := 61) hx hb dX11_load_50 (by decide) (fun c112 => absurd c112 (by decide)) (fun c112 => ?_)
    exact vx_throw0 (names := ["java/lang/RuntimeException", "java/lang/Exception"]) hx hb hst hown (by decide +kernel) (by decide +kernel) (hts (.classLink RX11 127 "java/lang/IllegalArgumentException") (by decide +kernel)) (hts (.initialized "java/lang/IllegalArgumentException") (by decide +kernel)) (vx_hat (B := xB "java/lang/IllegalArgumentException") (fun w h => hts w ((in_z_X11_load_at0_X11_129) w h)) (by decide +kernel) (Zz_xB hZ (by decide))) (by decide +kernel) hZ.1 hZ.2.1 hS (hl.1.trans hml.symm) dX11_load_53 dX11_load_56 dX11_load_57 dX11_load_60 (fun x h => (htab x h).elim) (by decide) (Nat.le_of_ble_eq_true rfl) (Nat.le_of_ble_eq_true rfl) (Nat.le_of_ble_eq_true rfl) hlocks (fun t _ h1 h2 => ⟨(), trivial, (Or.inr (Or.inr (⟨rfl, c104, c105⟩))), xx_F hS h1 h2⟩) hS.2.2 (by decide) (by decide)

