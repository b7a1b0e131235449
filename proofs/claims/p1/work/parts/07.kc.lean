/-! what the constructors need of the start: the three texts, String's and Preconditions' statics, the classes of the two rows of objects -/
def sByt : List (List Int32) := [[97, 108, 108, 32, 111, 119, 110, 32, 116, 104, 105, 110, 103, 115, 32, 116, 104, 105, 110, 103, 32, 119, 104, 101, 114, 101, 32, 103, 101, 116, 32, 97, 110, 100, 32, 111, 114, 32, 110, 111, 116, 32, 110, 117, 108, 108, 32, 116, 114, 117, 101, 32, 102, 97, 108, 115, 101, 32, 105, 115, 32, 105, 110, 32, 99, 111, 117, 110, 116, 32, 115, 117, 109, 32, 109, 111, 115, 116, 32, 108, 101, 97, 115, 116, 32, 115, 111, 109, 101, 32, 101, 97, 99, 104, 32, 115, 105, 122, 101, 32, 107, 101, 112, 116, 32, 100, 101, 112, 116, 104, 32, 108, 101, 110, 103, 116, 104, 32, 99, 108, 97, 115, 115, 32, 115, 108, 111, 116, 115, 32, 104, 101, 108, 100, 32, 102, 114, 111, 109, 32, 105, 116, 32], [105, 102], [108, 105, 110, 107]]
def sLen : List Nat := [143, 2, 4]
def Kc (adK adV : Nat → Nat) (A : Nat → Prop) (U : State) : Prop := vk_S 3 sLen sByt adK adV A U U.heap ∧ vk_R RX9 31 "all own things thing where get and or not null true false is in count sum most least some each size kept depth length class slots held from it " (adK 0) U ∧ vk_R RX7 15 "if" (adK 1) U ∧ vk_R RX7 27 "link" (adK 2) U ∧ va_Z "java/lang/String" "COMPACT_STRINGS" "Z" (.int 1) A U U.heap ∧ va_Zq "jdk/internal/util/Preconditions" "SIOOBE_FORMATTER" "Ljava/util/function/BiFunction;" A U U.heap ∧ va_AO "HeapWorks$Picture" U ∧ va_AO "HeapWorks$Program" U
theorem Kc_go {adK adV : Nat → Nat} {A B : Nat → Prop} {s U : State} {H : Heap} {locs : List Loc} (h : Kc adK adV A s) (hS : va_S A s.heap H locs) (hB : ∀ q, B q → A q) (hU : U.heap = H) (hW : s.WarmedH U.vm) : Kc adK adV B U := by
  obtain ⟨h1, h2, h3, h4, h5, h6, h7, h8⟩ := h
  refine ⟨?_, vk_R.warm hW h2, vk_R.warm hW h3, vk_R.warm hW h4, ?_, ?_, va_AO.moved hW.alike h7, va_AO.moved hW.alike h8⟩
  · rw [hU]; exact vk_S.moved hW.alike ((h1.kept hS.2.1).narrow hB)
  · rw [hU]; exact va_Z.moved hW.alike ((h5.kept hS.2.1).narrow hB)
  · rw [hU]; exact va_Zq.moved hW.alike ((h6.kept hS.2.1).narrow hB)
theorem Kc_call {adK adV : Nat → Nat} {A : Nat → Prop} {U : State} {g : JFrame} {mk : MethodId} {a : Array Value} (h : Kc adK adV A U) : Kc adK adV A (U.calling g mk a) := by
  obtain ⟨h1, h2, h3, h4, h5, h6, h7, h8⟩ := h
  exact ⟨vk_S.moved (u := U) (U := U.calling g mk a) (Vm.Alike.refl U.vm) h1, vk_R.same (u := U) (U := U.calling g mk a) rfl h2, vk_R.same (u := U) (U := U.calling g mk a) rfl h3, vk_R.same (u := U) (U := U.calling g mk a) rfl h4, va_Z.moved (u := U) (U := U.calling g mk a) (Vm.Alike.refl U.vm) h5, va_Zq.moved (u := U) (U := U.calling g mk a) (Vm.Alike.refl U.vm) h6, va_AO.moved (u := U) (U := U.calling g mk a) (Vm.Alike.refl U.vm) h7, va_AO.moved (u := U) (U := U.calling g mk a) (Vm.Alike.refl U.vm) h8⟩
/-! new rows of numbers hold 0 -/
theorem na_I (n : Nat) (cA : ClassId) : vp_cell cA (n, .inl (fun _ : Nat => (0 : Int32))) = arrV cA n (fun _ => defaultValue .int) := rfl
theorem na_Z (n : Nat) (cA : ClassId) : vp_cell cA (n, .inl (fun _ : Nat => (0 : Int32))) = arrV cA n (fun _ => defaultValue .boolean) := rfl
theorem na_B (n : Nat) (cA : ClassId) : vp_cell cA (n, .inl (fun _ : Nat => (0 : Int32))) = arrV cA n (fun _ => defaultValue .byte) := rfl
theorem na_J (n : Nat) (cA : ClassId) : vp_cell cA (n, .inr (.inl (fun _ : Nat => (0 : Int64)))) = arrV cA n (fun _ => defaultValue .long) := rfl
