/-! what is known of an object's fields, and the world of a contract -/
/-- the list of fields has n places, and these hold these values -/
def fh (fs : List Value) (n : Nat) (l : List (Nat × Value)) : Prop := fs.length = n ∧ ∀ q ∈ l, fs[q.1]? = some q.2
/-- fs came out of fs0 by writes at the places w alone, and of it l is known -/
def ow (fs0 fs : List Value) (n : Nat) (w : List Nat) (l : List (Nat × Value)) : Prop := (∀ j, j ∉ w → fs[j]? = fs0[j]?) ∧ fh fs n l
theorem ow_0 {fs : List Value} {n : Nat} {l : List (Nat × Value)} (h : fh fs n l) : ow fs fs n [] l := ⟨fun _ _ => rfl, h⟩
theorem ow_at {fs0 fs : List Value} {n : Nat} {w : List Nat} {l : List (Nat × Value)} (h : ow fs0 fs n w l) (k : Nat) {i : Nat} {v : Value} (hk : l[k]? = some (i, v)) : fs[i]? = some v := h.2.2 (i, v) (List.mem_of_getElem? hk)
theorem fh_at {fs : List Value} {n : Nat} {l : List (Nat × Value)} (h : fh fs n l) (k : Nat) {i : Nat} {v : Value} (hk : l[k]? = some (i, v)) : fs[i]? = some v := h.2 (i, v) (List.mem_of_getElem? hk)
theorem ow_set {fs0 fs : List Value} {n : Nat} {w w' : List Nat} {l l' : List (Nat × Value)} (h : ow fs0 fs n w l) (i : Nat) (v : Value) (hi : i < n) (hl : (i, v) :: l.filter (fun q => !(q.1 == i)) = l') (hw : i :: w.filter (fun q => !(q == i)) = w') : ow fs0 (fs.set i v) n w' l' := by
  subst hl; subst hw
  obtain ⟨h1, h2, h3⟩ := h
  refine ⟨fun j hj => ?_, by rw [List.length_set]; exact h2, fun q hq => ?_⟩
  · have hne : i ≠ j := fun e => hj (by rw [e]; exact List.mem_cons_self)
    rw [List.getElem?_set_ne hne]
    refine h1 j (fun hm => hj (List.mem_cons_of_mem _ (List.mem_filter.mpr ⟨hm, ?_⟩)))
    simpa using fun e => hne e.symm
  · rcases List.mem_cons.mp hq with rfl | hq
    · rw [List.getElem?_set_self (by rw [h2]; exact hi)]
    · obtain ⟨hm, hf⟩ := List.mem_filter.mp hq
      have hne : i ≠ q.1 := fun e => by simp [e] at hf
      rw [List.getElem?_set_ne hne]
      exact h3 q hm
/-- of what a caller knew, all that a callee did not write stands -/
theorem fh_on {fs fs' : List Value} {n : Nat} {w : List Nat} {l l1 l' : List (Nat × Value)} (h : fh fs n l) (o : ow fs fs' n w l1) (hl : l1 ++ l.filter (fun q => !(w.contains q.1)) = l') : fh fs' n l' := by
  subst hl
  refine ⟨o.2.1, fun q hq => ?_⟩
  rcases List.mem_append.mp hq with hq | hq
  · exact o.2.2 q hq
  · obtain ⟨hm, hf⟩ := List.mem_filter.mp hq
    rw [o.1 q.1 (fun hw => by simp [hw] at hf)]
    exact h.2 q hm
theorem ow_on {fs0 fs fs' : List Value} {n : Nat} {w w1 w' : List Nat} {l l1 l' : List (Nat × Value)} (h : ow fs0 fs n w l) (o : ow fs fs' n w1 l1) (hl : l1 ++ l.filter (fun q => !(w1.contains q.1)) = l') (hw : w1 ++ w.filter (fun q => !(w1.contains q)) = w') : ow fs0 fs' n w' l' := by
  refine ⟨fun j hj => ?_, fh_on h.2 o hl⟩
  subst hw
  have hj1 : j ∉ w1 := fun e => hj (List.mem_append_left _ e)
  rw [o.1 j hj1]
  refine h.1 j (fun hm => hj (List.mem_append_right _ (List.mem_filter.mpr ⟨hm, ?_⟩)))
  simpa using hj1
theorem ow_sub {fs0 fs : List Value} {n : Nat} {w : List Nat} {l l' : List (Nat × Value)} (h : ow fs0 fs n w l) (ps : List Nat) (hs : ps.filterMap (fun i => l[i]?) = l') : ow fs0 fs n w l' := by
  subst hs
  refine ⟨h.1, h.2.1, fun q hq => ?_⟩
  obtain ⟨i, -, hi⟩ := List.mem_filterMap.mp hq
  exact h.2.2 q (List.mem_of_getElem? hi)
theorem fh_sub {fs : List Value} {n : Nat} {l l' : List (Nat × Value)} (h : fh fs n l) (ps : List Nat) (hs : ps.filterMap (fun i => l[i]?) = l') : fh fs n l' := (ow_sub (ow_0 h) ps hs).2
/-- written at more places than said -/
theorem ow_w {fs0 fs : List Value} {n : Nat} {w w' : List Nat} {l : List (Nat × Value)} (h : ow fs0 fs n w l) (hw : ∀ j ∈ w, j ∈ w') : ow fs0 fs n w' l := ⟨fun j hj => h.1 j (fun e => hj (hw j e)), h.2⟩
abbrev tyL (cy : Nat → ClassId) : List (ClassId × FieldType) := [(cy 0, .byte), (cy 1, .int), (cy 2, .long), (cy 3, .boolean), (cy 4, .object "HeapWorks$Picture"), (cy 5, .object "HeapWorks$Program")]
/-- the world of a contract: the heap holds the cells, the classes are known, the cells are apart and lie in A -/
abbrev Wdm (dC : Nat → ClassId) (dI : Nat → Nat → Nat) (tys : List (ClassId × FieldType)) (A : Nat → Prop) (ws : va_W) (t : State) : Prop := va_P (dC, dI) vwCl ws t.heap ∧ va_K (dC, dI) vwCl tys t ∧ va_D A ws
abbrev Wc (dC : Nat → ClassId) (dI : Nat → Nat → Nat) (cy : Nat → ClassId) (A : Nat → Prop) (ws : va_W) (t : State) : Prop := Wdm dC dI (tyL cy) A ws t
/-! numbers -/
theorem i_lt (a b : Int32) : a < b ↔ a.toInt < b.toInt := Int32.lt_iff_toInt_lt
theorem i_le (a b : Int32) : a ≤ b ↔ a.toInt ≤ b.toInt := Int32.le_iff_toInt_le
theorem i_eq (a b : Int32) : a = b ↔ a.toInt = b.toInt := Int32.toInt_inj.symm
theorem in_of {i : Int32} {n N : Nat} (h0 : ¬ i < 0) (h1 : i < nI n) (hn : n ≤ N) (hN : N < 2 ^ 31) : vp_in i N := by
  rw [vp_in_iff]
  rw [i_lt] at h0 h1
  rw [nI_toInt (by omega)] at h1
  rw [show (0 : Int32).toInt = 0 from rfl] at h0
  omega
theorem kn_ne {f : Nat → Int32} {k j : Nat} {x : Int32} (h : j ≠ k) : upd f k x j = f j := pk_un h
theorem kn_neL {f : Nat → Int64} {k j : Nat} {x : Int64} (h : j ≠ k) : vp_updL f k x j = f j := pk_uLn h
theorem az_up {f : Nat → Int32} {k : Nat} {x : Int32} (h : ∀ j, f j = 0) (hx : x = 0) : ∀ j, upd f k x j = 0 := fun j => by
  by_cases e : j = k
  · rw [e]; exact pk_us.trans hx
  · rw [pk_un e]; exact h j
theorem az_upL {f : Nat → Int64} {k : Nat} {x : Int64} (h : ∀ j, f j = 0) (hx : x = 0) : ∀ j, vp_updL f k x j = 0 := fun j => by
  by_cases e : j = k
  · rw [e]; exact pk_uLs.trans hx
  · rw [pk_uLn e]; exact h j
theorem i_bd (x : Int32) : -2147483648 ≤ x.toInt ∧ x.toInt ≤ 2147483647 := by
  have h1 := Int32.le_toInt x; have h2 := Int32.toInt_lt x; omega
theorem i_add {x y : Int32} (h1 : -2147483648 ≤ x.toInt + y.toInt) (h2 : x.toInt + y.toInt ≤ 2147483647) : (x + y).toInt = x.toInt + y.toInt := by
  rw [Int32.toInt_add]; exact Int.bmod_eq_of_le (by omega) (by omega)
theorem i_sub {x y : Int32} (h1 : -2147483648 ≤ x.toInt - y.toInt) (h2 : x.toInt - y.toInt ≤ 2147483647) : (x - y).toInt = x.toInt - y.toInt := by
  rw [Int32.toInt_sub]; exact Int.bmod_eq_of_le (by omega) (by omega)
theorem goodIn_in {big ws : List Cond} (hm : ∀ w ∈ ws, w ∈ big) (h : ws.all goodWord = true) : GoodIn big ws := goodIn_sub hm h
theorem gd_X0 : wsX00.all goodWord = true := by decide +kernel
theorem gd_X1 : wsX10.all goodWord = true := by decide +kernel
theorem gd_X2 : wsX20.all goodWord = true := by decide +kernel
theorem gd_X3 : wsX30.all goodWord = true := by decide +kernel
theorem gd_X4 : wsX40.all goodWord = true := by decide +kernel
theorem gd_X5 : wsX50.all goodWord = true := by decide +kernel
theorem gd_X6 : wsX60.all goodWord = true := by decide +kernel
theorem gd_X7 : wsX70.all goodWord = true := by decide +kernel
theorem gd_X8 : wsX80.all goodWord = true := by decide +kernel
theorem gd_X9 : wsX90.all goodWord = true := by decide +kernel
theorem gd_X10 : wsX100.all goodWord = true := by decide +kernel
theorem gd_X11 : wsX110.all goodWord = true := by decide +kernel
theorem gd_X12 : wsX120.all goodWord = true := by decide +kernel
