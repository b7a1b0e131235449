theorem lenC : ksC.length = 286 := by decide +kernel
theorem ri_kC {c : Nat} {k : Nat × Nat} (h : ksC[c]? = some k) : ri_ (c : Int) := by
  have h1 := (List.getElem?_eq_some_iff.mp h).1
  have e := lenC
  unfold ri_; omega
