def Xs0 (ad : Nat → Nat) (A : Nat → Prop) (U : State) : Prop := vk_R RX9 31 "all own things thing where get and or not null true false is in count sum most least some each size kept depth length class slots held from it " (ad 903) U ∧ va_O "java/lang/String" (ad 903) A U U.heap ∧ va_OF "java/lang/String" "coder" "B" (.int (Ii 0)) (ad 903) A U U.heap ∧ va_OF "java/lang/String" "value" "[B" (.ref (ad 904)) (ad 903) A U U.heap ∧ va_T .byte (ad 904) 143 (fun j => .int (Ii (sb0 j))) A U U.heap
theorem Xs0_go {ad : Nat → Nat} {A B : Nat → Prop} {s U : State} {H : Heap} {locs : List Loc} (h : Xs0 ad A s) (hS : va_S A s.heap H locs) (hB : ∀ q, B q → A q) (hU : U.heap = H) (hW : s.WarmedH U.vm) : Xs0 ad B U := by
  obtain ⟨h1, h2, h3, h4, h5⟩ := h
  refine ⟨vk_R.warm hW h1, ?_, ?_, ?_, ?_⟩
  · rw [hU]; exact va_O.moved hW.alike ((h2.kept hS.2.1).narrow hB)
  · rw [hU]; exact va_OF.moved hW.alike ((h3.kept hS.2.1).narrow hB)
  · rw [hU]; exact va_OF.moved hW.alike ((h4.kept hS.2.1).narrow hB)
  · rw [hU]; exact va_T.moved hW.alike ((h5.kept hS.2.1).narrow hB)
theorem Xs0_call {ad : Nat → Nat} {A : Nat → Prop} {U : State} {g : JFrame} {mk : MethodId} {a : Array Value} (h : Xs0 ad A U) : Xs0 ad A (U.calling g mk a) := by
  obtain ⟨h1, h2, h3, h4, h5⟩ := h
  exact ⟨vk_R.same (u := U) (U := U.calling g mk a) rfl h1, va_O.moved (u := U) (U := U.calling g mk a) (Vm.Alike.refl U.vm) h2, va_OF.moved (u := U) (U := U.calling g mk a) (Vm.Alike.refl U.vm) h3, va_OF.moved (u := U) (U := U.calling g mk a) (Vm.Alike.refl U.vm) h4, va_T.moved (u := U) (U := U.calling g mk a) (Vm.Alike.refl U.vm) h5⟩
def Xs1 (ad : Nat → Nat) (A : Nat → Prop) (U : State) : Prop := vk_R RX7 15 "if" (ad 905) U ∧ va_O "java/lang/String" (ad 905) A U U.heap ∧ va_OF "java/lang/String" "coder" "B" (.int (Ii 0)) (ad 905) A U U.heap ∧ va_OF "java/lang/String" "value" "[B" (.ref (ad 906)) (ad 905) A U U.heap ∧ va_T .byte (ad 906) 2 (fun j => .int (Ii (sb1 j))) A U U.heap
theorem Xs1_go {ad : Nat → Nat} {A B : Nat → Prop} {s U : State} {H : Heap} {locs : List Loc} (h : Xs1 ad A s) (hS : va_S A s.heap H locs) (hB : ∀ q, B q → A q) (hU : U.heap = H) (hW : s.WarmedH U.vm) : Xs1 ad B U := by
  obtain ⟨h1, h2, h3, h4, h5⟩ := h
  refine ⟨vk_R.warm hW h1, ?_, ?_, ?_, ?_⟩
  · rw [hU]; exact va_O.moved hW.alike ((h2.kept hS.2.1).narrow hB)
  · rw [hU]; exact va_OF.moved hW.alike ((h3.kept hS.2.1).narrow hB)
  · rw [hU]; exact va_OF.moved hW.alike ((h4.kept hS.2.1).narrow hB)
  · rw [hU]; exact va_T.moved hW.alike ((h5.kept hS.2.1).narrow hB)
theorem Xs1_call {ad : Nat → Nat} {A : Nat → Prop} {U : State} {g : JFrame} {mk : MethodId} {a : Array Value} (h : Xs1 ad A U) : Xs1 ad A (U.calling g mk a) := by
  obtain ⟨h1, h2, h3, h4, h5⟩ := h
  exact ⟨vk_R.same (u := U) (U := U.calling g mk a) rfl h1, va_O.moved (u := U) (U := U.calling g mk a) (Vm.Alike.refl U.vm) h2, va_OF.moved (u := U) (U := U.calling g mk a) (Vm.Alike.refl U.vm) h3, va_OF.moved (u := U) (U := U.calling g mk a) (Vm.Alike.refl U.vm) h4, va_T.moved (u := U) (U := U.calling g mk a) (Vm.Alike.refl U.vm) h5⟩
def Xs2 (ad : Nat → Nat) (A : Nat → Prop) (U : State) : Prop := vk_R RX7 27 "link" (ad 907) U ∧ va_O "java/lang/String" (ad 907) A U U.heap ∧ va_OF "java/lang/String" "coder" "B" (.int (Ii 0)) (ad 907) A U U.heap ∧ va_OF "java/lang/String" "value" "[B" (.ref (ad 908)) (ad 907) A U U.heap ∧ va_T .byte (ad 908) 4 (fun j => .int (Ii (sb2 j))) A U U.heap
theorem Xs2_go {ad : Nat → Nat} {A B : Nat → Prop} {s U : State} {H : Heap} {locs : List Loc} (h : Xs2 ad A s) (hS : va_S A s.heap H locs) (hB : ∀ q, B q → A q) (hU : U.heap = H) (hW : s.WarmedH U.vm) : Xs2 ad B U := by
  obtain ⟨h1, h2, h3, h4, h5⟩ := h
  refine ⟨vk_R.warm hW h1, ?_, ?_, ?_, ?_⟩
  · rw [hU]; exact va_O.moved hW.alike ((h2.kept hS.2.1).narrow hB)
  · rw [hU]; exact va_OF.moved hW.alike ((h3.kept hS.2.1).narrow hB)
  · rw [hU]; exact va_OF.moved hW.alike ((h4.kept hS.2.1).narrow hB)
  · rw [hU]; exact va_T.moved hW.alike ((h5.kept hS.2.1).narrow hB)
theorem Xs2_call {ad : Nat → Nat} {A : Nat → Prop} {U : State} {g : JFrame} {mk : MethodId} {a : Array Value} (h : Xs2 ad A U) : Xs2 ad A (U.calling g mk a) := by
  obtain ⟨h1, h2, h3, h4, h5⟩ := h
  exact ⟨vk_R.same (u := U) (U := U.calling g mk a) rfl h1, va_O.moved (u := U) (U := U.calling g mk a) (Vm.Alike.refl U.vm) h2, va_OF.moved (u := U) (U := U.calling g mk a) (Vm.Alike.refl U.vm) h3, va_OF.moved (u := U) (U := U.calling g mk a) (Vm.Alike.refl U.vm) h4, va_T.moved (u := U) (U := U.calling g mk a) (Vm.Alike.refl U.vm) h5⟩
/-- none of the four classes catches another -/
def Yy (U : State) : Prop := ∀ E ∈ xE, ∀ F ∈ xE, E ≠ F → va_Nc E F U
theorem Yy_go {s U : State} (h : Yy s) (hW : s.WarmedH U.vm) : Yy U := fun E hE F hF hn => va_Nc.moved hW.alike (h E hE F hF hn)
theorem Yy_call {U : State} {g : JFrame} {mk : MethodId} {a : Array Value} (h : Yy U) : Yy (U.calling g mk a) := fun E hE F hF hn => va_Nc.moved (u := U) (U := U.calling g mk a) (Vm.Alike.refl U.vm) (h E hE F hF hn)
/-- all that is known of the law's start, and stays: xs is the script, of L ints -/
def XtB (ad : Nat → Nat) (xs : Nat → Int) (L : Nat) (A : Nat → Prop) (U : State) : Prop := XtC ad A U ∧ Yy U ∧ Xs0 ad A U ∧ Xs1 ad A U ∧ Xs2 ad A U ∧ va_Zq "jdk/internal/util/Preconditions" "SIOOBE_FORMATTER" "Ljava/util/function/BiFunction;" A U U.heap ∧ va_AO "HeapWorks$Picture" U ∧ va_AO "HeapWorks$Program" U ∧ va_T .int (ad 910) L (fun j => .int (Ii (xs j))) A U U.heap
theorem XtB_ok (ad : Nat → Nat) (xs : Nat → Int) (L : Nat) : jX (XtB ad xs L) := by
  refine ⟨fun A B s U H locs h hS hB hU hW => ?_, fun A U g mk a h => ?_⟩
  · obtain ⟨h1, h2, h3, h4, h5, h6, h7, h8, h9⟩ := h
    refine ⟨(XtC_ok ad).1 A B s U H locs h1 hS hB hU hW, Yy_go h2 hW, Xs0_go h3 hS hB hU hW, Xs1_go h4 hS hB hU hW, Xs2_go h5 hS hB hU hW, ?_, va_AO.moved hW.alike h7, va_AO.moved hW.alike h8, ?_⟩
    · rw [hU]; exact va_Zq.moved hW.alike ((h6.kept hS.2.1).narrow hB)
    · rw [hU]; exact va_T.moved hW.alike ((h9.kept hS.2.1).narrow hB)
  · obtain ⟨h1, h2, h3, h4, h5, h6, h7, h8, h9⟩ := h
    exact ⟨(XtC_ok ad).2 A U g mk a h1, Yy_call h2, Xs0_call h3, Xs1_call h4, Xs2_call h5, va_Zq.moved (u := U) (U := U.calling g mk a) (Vm.Alike.refl U.vm) h6, va_AO.moved (u := U) (U := U.calling g mk a) (Vm.Alike.refl U.vm) h7, va_AO.moved (u := U) (U := U.calling g mk a) (Vm.Alike.refl U.vm) h8, va_T.moved (u := U) (U := U.calling g mk a) (Vm.Alike.refl U.vm) h9⟩
theorem XtB_C {ad : Nat → Nat} {xs : Nat → Int} {L : Nat} {A B : Nat → Prop} {U : State} (hB : ∀ q, B q → A q) (h : XtB ad xs L A U) : XtC ad B U := (XtC_ok ad).1 A B U U U.heap [] h.1 va_S.rf hB rfl (State.WarmedH.refl U)
theorem XtB0_s1 {ad : Nat → Nat} {xs : Nat → Int} {L : Nat} : ∀ A U, XtB ad xs L A U → vk_R RX9 31 "all own things thing where get and or not null true false is in count sum most least some each size kept depth length class slots held from it " (ad 903) U := fun _ _ h => h.2.2.1.1
theorem XtB0_s0 {ad : Nat → Nat} {xs : Nat → Int} {L : Nat} : ∀ A U, XtB ad xs L A U → va_O "java/lang/String" (ad 903) A U U.heap := fun _ _ h => h.2.2.1.2.1
theorem XtB0_s2 {ad : Nat → Nat} {xs : Nat → Int} {L : Nat} : ∀ A U, XtB ad xs L A U → va_OF "java/lang/String" "coder" "B" (.int (Ii 0)) (ad 903) A U U.heap := fun _ _ h => h.2.2.1.2.2.1
theorem XtB0_s3 {ad : Nat → Nat} {xs : Nat → Int} {L : Nat} : ∀ A U, XtB ad xs L A U → va_OF "java/lang/String" "value" "[B" (.ref (ad 904)) (ad 903) A U U.heap := fun _ _ h => h.2.2.1.2.2.2.1
theorem XtB0_s4 {ad : Nat → Nat} {xs : Nat → Int} {L : Nat} : ∀ A U, XtB ad xs L A U → va_T .byte (ad 904) 143 (fun j => .int (Ii (sb0 j))) A U U.heap := fun _ _ h => h.2.2.1.2.2.2.2
theorem XtB1_s1 {ad : Nat → Nat} {xs : Nat → Int} {L : Nat} : ∀ A U, XtB ad xs L A U → vk_R RX7 15 "if" (ad 905) U := fun _ _ h => h.2.2.2.1.1
theorem XtB1_s0 {ad : Nat → Nat} {xs : Nat → Int} {L : Nat} : ∀ A U, XtB ad xs L A U → va_O "java/lang/String" (ad 905) A U U.heap := fun _ _ h => h.2.2.2.1.2.1
theorem XtB1_s2 {ad : Nat → Nat} {xs : Nat → Int} {L : Nat} : ∀ A U, XtB ad xs L A U → va_OF "java/lang/String" "coder" "B" (.int (Ii 0)) (ad 905) A U U.heap := fun _ _ h => h.2.2.2.1.2.2.1
theorem XtB1_s3 {ad : Nat → Nat} {xs : Nat → Int} {L : Nat} : ∀ A U, XtB ad xs L A U → va_OF "java/lang/String" "value" "[B" (.ref (ad 906)) (ad 905) A U U.heap := fun _ _ h => h.2.2.2.1.2.2.2.1
theorem XtB1_s4 {ad : Nat → Nat} {xs : Nat → Int} {L : Nat} : ∀ A U, XtB ad xs L A U → va_T .byte (ad 906) 2 (fun j => .int (Ii (sb1 j))) A U U.heap := fun _ _ h => h.2.2.2.1.2.2.2.2
theorem XtB2_s1 {ad : Nat → Nat} {xs : Nat → Int} {L : Nat} : ∀ A U, XtB ad xs L A U → vk_R RX7 27 "link" (ad 907) U := fun _ _ h => h.2.2.2.2.1.1
theorem XtB2_s0 {ad : Nat → Nat} {xs : Nat → Int} {L : Nat} : ∀ A U, XtB ad xs L A U → va_O "java/lang/String" (ad 907) A U U.heap := fun _ _ h => h.2.2.2.2.1.2.1
theorem XtB2_s2 {ad : Nat → Nat} {xs : Nat → Int} {L : Nat} : ∀ A U, XtB ad xs L A U → va_OF "java/lang/String" "coder" "B" (.int (Ii 0)) (ad 907) A U U.heap := fun _ _ h => h.2.2.2.2.1.2.2.1
theorem XtB2_s3 {ad : Nat → Nat} {xs : Nat → Int} {L : Nat} : ∀ A U, XtB ad xs L A U → va_OF "java/lang/String" "value" "[B" (.ref (ad 908)) (ad 907) A U U.heap := fun _ _ h => h.2.2.2.2.1.2.2.2.1
theorem XtB2_s4 {ad : Nat → Nat} {xs : Nat → Int} {L : Nat} : ∀ A U, XtB ad xs L A U → va_T .byte (ad 908) 4 (fun j => .int (Ii (sb2 j))) A U U.heap := fun _ _ h => h.2.2.2.2.1.2.2.2.2
theorem XtB_cs {ad : Nat → Nat} {xs : Nat → Int} {L : Nat} : ∀ A U, XtB ad xs L A U → va_Z "java/lang/String" "COMPACT_STRINGS" "Z" (.int (Ii 1)) A U U.heap := fun _ _ h => XtC_cs _ _ h.1
theorem XtB_fm {ad : Nat → Nat} {xs : Nat → Int} {L : Nat} : ∀ A U, XtB ad xs L A U → va_Zq "jdk/internal/util/Preconditions" "SIOOBE_FORMATTER" "Ljava/util/function/BiFunction;" A U U.heap := fun _ _ h => h.2.2.2.2.2.1
theorem XtB_sc {ad : Nat → Nat} {xs : Nat → Int} {L : Nat} : ∀ A U, XtB ad xs L A U → va_T .int (ad 910) L (fun j => .int (Ii (xs j))) A U U.heap := fun _ _ h => h.2.2.2.2.2.2.2.2
