/-! what a throw needs of the start: the two rows of Throwable's own, outside A -/
def xE : List String := ["java/lang/IndexOutOfBoundsException", "java/lang/IllegalArgumentException", "java/lang/IllegalStateException", "java/util/NoSuchElementException"]
def xY : List String := ["java/lang/RuntimeException", "java/lang/Exception", Bundle.tN]
def Zz (A : Nat → Prop) (U : State) : Prop := vx_Zq Bundle.tN "UNASSIGNED_STACK" Bundle.steD A U U.heap ∧ vx_Zq Bundle.tN "SUPPRESSED_SENTINEL" Bundle.listD A U U.heap ∧ (∀ E ∈ xE, va_Nw (.castable E E) U) ∧ ∀ Y ∈ xY, va_Nw (.declares (Bundle.init0 Y)) U
/-- the words of a throw that don't stand in a method's own list -/
def xB (E : String) : List Cond := [.castable E E, .declares (Bundle.init0 "java/lang/RuntimeException"), .declares (Bundle.init0 "java/lang/Exception"), .declares (Bundle.init0 Bundle.tN)]
theorem Zz_xB {A : Nat → Prop} {U : State} {args : Array Value} (h : Zz A U) {E : String} (hE : E ∈ xE) : ∀ w ∈ xB E, w.before args U = true :=
  vx_c (va_Nw.use rfl (h.2.2.1 E hE)) (vx_c (va_Nw.use rfl (h.2.2.2 _ (by decide))) (vx_c (va_Nw.use rfl (h.2.2.2 _ (by decide))) (vx_c (va_Nw.use rfl (h.2.2.2 _ (by decide))) vx_n)))
theorem Zz_go {A B : Nat → Prop} {s U : State} {H : Heap} {locs : List Loc} (h : Zz A s) (hS : va_S A s.heap H locs) (hB : ∀ q, B q → A q) (hU : U.heap = H) (hW : s.WarmedH U.vm) : Zz B U := by
  obtain ⟨h1, h2, h3, h4⟩ := h
  refine ⟨?_, ?_, fun E hE => va_Nw.warmC hW (h3 E hE), fun Y hY => va_Nw.warmD hW (h4 Y hY)⟩
  · rw [hU]; exact vx_Zq.moved hW.alike ((h1.kept hS.2.1).narrow hB)
  · rw [hU]; exact vx_Zq.moved hW.alike ((h2.kept hS.2.1).narrow hB)
theorem Zz_call {A : Nat → Prop} {U : State} {g : JFrame} {mk : MethodId} {a : Array Value} (h : Zz A U) : Zz A (U.calling g mk a) :=
  ⟨vx_Zq.moved (u := U) (U := U.calling g mk a) (Vm.Alike.refl U.vm) h.1, vx_Zq.moved (u := U) (U := U.calling g mk a) (Vm.Alike.refl U.vm) h.2.1, fun E hE => va_Nw.same (u := U) (U := U.calling g mk a) rfl rfl (h.2.2.1 E hE), fun Y hY => va_Nw.same (u := U) (U := U.calling g mk a) rfl rfl (h.2.2.2 Y hY)⟩
theorem xx_F {A : Nat → Prop} {s t : State} {H : Heap} {locs : List Loc} (hS : va_S A s.heap H locs) (h1 : H.size ≤ t.heap.size) (h2 : ∀ q : Nat, q < H.size → t.heap[q]? = H[q]?) : va_F A s t :=
  ⟨Nat.le_trans hS.1 h1, fun q hq hn => (h2 q (Nat.lt_of_lt_of_le hq hS.1)).trans (hS.2.1 q hq hn)⟩
theorem i_cl {x : Int32} (h : 0 ≤ x.toInt) : (x.toNatClampNeg : Int) = x.toInt := by
  rw [show x.toNatClampNeg = x.toInt.toNat from rfl]; omega
theorem i_min (x y : Int32) : (if y < x then y else x).toInt = min x.toInt y.toInt := by
  by_cases h : y < x
  · rw [if_pos h]; rw [i_lt] at h; omega
  · rw [if_neg h]; rw [i_lt] at h; omega
theorem i_max (x y : Int32) : (if x < y then y else x).toInt = max x.toInt y.toInt := by
  by_cases h : x < y
  · rw [if_pos h]; rw [i_lt] at h; omega
  · rw [if_neg h]; rw [i_lt] at h; omega
