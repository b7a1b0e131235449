theorem jSl_390 : jSl ftB ksK (0 + 390) - jSl ftB ksK 0 = 571359 := by decide +kernel
theorem jSl_b {i : Nat} (h : i ≤ 390) : jSl ftB ksK (0 + i) - jSl ftB ksK 0 ≤ room_1.slots := by
  have h1 : jSl ftB ksK (0 + i) - jSl ftB ksK 0 ≤ jSl ftB ksK (0 + 390) - jSl ftB ksK 0 := jSl_m (by omega)
  have h2 : room_1.slots = 7293034 := rfl
  rw [jSl_390] at h1; omega
theorem Ii_rg (x : Int32) : ri_ x.toInt := by
  have h1 := Int32.le_toInt x; have h2 := Int32.toInt_lt x
  unfold ri_; omega
/-! what the Statement gives of the start -/
def sByt : List (List Int32) := [[97, 108, 108, 32, 111, 119, 110, 32, 116, 104, 105, 110, 103, 115, 32, 116, 104, 105, 110, 103, 32, 119, 104, 101, 114, 101, 32, 103, 101, 116, 32, 97, 110, 100, 32, 111, 114, 32, 110, 111, 116, 32, 110, 117, 108, 108, 32, 116, 114, 117, 101, 32, 102, 97, 108, 115, 101, 32, 105, 115, 32, 105, 110, 32, 99, 111, 117, 110, 116, 32, 115, 117, 109, 32, 109, 111, 115, 116, 32, 108, 101, 97, 115, 116, 32, 115, 111, 109, 101, 32, 101, 97, 99, 104, 32, 115, 105, 122, 101, 32, 107, 101, 112, 116, 32, 100, 101, 112, 116, 104, 32, 108, 101, 110, 103, 116, 104, 32, 99, 108, 97, 115, 115, 32, 115, 108, 111, 116, 115, 32, 104, 101, 108, 100, 32, 102, 114, 111, 109, 32, 105, 116, 32], [105, 102], [108, 105, 110, 107], [40, 41, 91, 93, 44, 58, 59, 46, 61, 60, 62, 43, 45, 42, 47, 37]]
def sLen : List Nat := [143, 2, 4, 16]
def tmS : Nat → Term := fun i => match i with | 0 => .string RX9 31 | 1 => .string RX7 15 | 2 => .string RX7 27 | _ => .string RX9 111
theorem fLr {a b c : Cond} (h : c ∈ flatC a) : c ∈ flatC (.and a b) := by show c ∈ flatC a ++ flatC b; exact List.mem_append_left _ h
theorem fRr {a b c : Cond} (h : c ∈ flatC b) : c ∈ flatC (.and a b) := by show c ∈ flatC a ++ flatC b; exact List.mem_append_right _ h
theorem fe {c d : Cond} (h : flatC d = [c]) : c ∈ flatC d := by rw [h]; exact List.mem_singleton.mpr rfl
def elS (i j : Nat) : Cond := Cond.eq (.elem (.field (tmS i) "java/lang/String" "value" "[B") (.int (Int32.ofNat j))) (.int ((sByt.getD i []).getD j 0))
def elW (j : Nat) : Cond := Cond.eq (.elem (.static "HeapWorks$Types" "WIDTH" "[I") (.int (Int32.ofNat j))) (.int (([1, 1, 2, 4, 8, 4] : List Int32).getD j 0))
set_option maxHeartbeats 4000000 in
set_option maxRecDepth 100000 in
theorem elS_0 : ∀ w ∈ (List.range 143).map (elS 0), w ∈ flatC (Jvm.Cond.and given_1 narrow_1) := (gm_c (fRr (fRr (fLr (fLr (fLr (fLr (fRr (fLr (fLr (fLr (fe rfl))))))))))) (gm_c (fRr (fRr (fLr (fLr (fLr (fLr (fRr (fLr (fLr (fRr (fe rfl))))))))))) (gm_c (fRr (fRr (fLr (fLr (fLr (fLr (fRr (fLr (fRr (fLr (fe rfl))))))))))) (gm_c (fRr (fRr (fLr (fLr (fLr (fLr (fRr (fLr (fRr (fRr (fe rfl))))))))))) (gm_c (fRr (fRr (fLr (fLr (fLr (fLr (fRr (fRr (fLr (fLr (fe rfl))))))))))) (gm_c (fRr (fRr (fLr (fLr (fLr (fLr (fRr (fRr (fLr (fRr (fe rfl))))))))))) (gm_c (fRr (fRr (fLr (fLr (fLr (fLr (fRr (fRr (fRr (fLr (fe rfl))))))))))) (gm_c (fRr (fRr (fLr (fLr (fLr (fLr (fRr (fRr (fRr (fRr (fLr (fe rfl)))))))))))) (gm_c (fRr (fRr (fLr (fLr (fLr (fLr (fRr (fRr (fRr (fRr (fRr (fe rfl)))))))))))) (gm_c (fRr (fRr (fLr (fLr (fLr (fRr (fLr (fLr (fLr (fLr (fe rfl))))))))))) (gm_c (fRr (fRr (fLr (fLr (fLr (fRr (fLr (fLr (fLr (fRr (fe rfl))))))))))) (gm_c (fRr (fRr (fLr (fLr (fLr (fRr (fLr (fLr (fRr (fLr (fe rfl))))))))))) (gm_c (fRr (fRr (fLr (fLr (fLr (fRr (fLr (fLr (fRr (fRr (fe rfl))))))))))) (gm_c (fRr (fRr (fLr (fLr (fLr (fRr (fLr (fRr (fLr (fLr (fe rfl))))))))))) (gm_c (fRr (fRr (fLr (fLr (fLr (fRr (fLr (fRr (fLr (fRr (fe rfl))))))))))) (gm_c (fRr (fRr (fLr (fLr (fLr (fRr (fLr (fRr (fRr (fLr (fe rfl))))))))))) (gm_c (fRr (fRr (fLr (fLr (fLr (fRr (fLr (fRr (fRr (fRr (fLr (fe rfl)))))))))))) (gm_c (fRr (fRr (fLr (fLr (fLr (fRr (fLr (fRr (fRr (fRr (fRr (fe rfl)))))))))))) (gm_c (fRr (fRr (fLr (fLr (fLr (fRr (fRr (fLr (fLr (fLr (fe rfl))))))))))) (gm_c (fRr (fRr (fLr (fLr (fLr (fRr (fRr (fLr (fLr (fRr (fe rfl))))))))))) (gm_c (fRr (fRr (fLr (fLr (fLr (fRr (fRr (fLr (fRr (fLr (fe rfl))))))))))) (gm_c (fRr (fRr (fLr (fLr (fLr (fRr (fRr (fLr (fRr (fRr (fe rfl))))))))))) (gm_c (fRr (fRr (fLr (fLr (fLr (fRr (fRr (fRr (fLr (fLr (fe rfl))))))))))) (gm_c (fRr (fRr (fLr (fLr (fLr (fRr (fRr (fRr (fLr (fRr (fe rfl))))))))))) (gm_c (fRr (fRr (fLr (fLr (fLr (fRr (fRr (fRr (fRr (fLr (fe rfl))))))))))) (gm_c (fRr (fRr (fLr (fLr (fLr (fRr (fRr (fRr (fRr (fRr (fLr (fe rfl)))))))))))) (gm_c (fRr (fRr (fLr (fLr (fLr (fRr (fRr (fRr (fRr (fRr (fRr (fe rfl)))))))))))) (gm_c (fRr (fRr (fLr (fLr (fRr (fLr (fLr (fLr (fLr (fLr (fe rfl))))))))))) (gm_c (fRr (fRr (fLr (fLr (fRr (fLr (fLr (fLr (fLr (fRr (fe rfl))))))))))) (gm_c (fRr (fRr (fLr (fLr (fRr (fLr (fLr (fLr (fRr (fLr (fe rfl))))))))))) (gm_c (fRr (fRr (fLr (fLr (fRr (fLr (fLr (fLr (fRr (fRr (fe rfl))))))))))) (gm_c (fRr (fRr (fLr (fLr (fRr (fLr (fLr (fRr (fLr (fLr (fe rfl))))))))))) (gm_c (fRr (fRr (fLr (fLr (fRr (fLr (fLr (fRr (fLr (fRr (fe rfl))))))))))) (gm_c (fRr (fRr (fLr (fLr (fRr (fLr (fLr (fRr (fRr (fLr (fe rfl))))))))))) (gm_c (fRr (fRr (fLr (fLr (fRr (fLr (fLr (fRr (fRr (fRr (fLr (fe rfl)))))))))))) (gm_c (fRr (fRr (fLr (fLr (fRr (fLr (fLr (fRr (fRr (fRr (fRr (fe rfl)))))))))))) (gm_c (fRr (fRr (fLr (fLr (fRr (fLr (fRr (fLr (fLr (fLr (fe rfl))))))))))) (gm_c (fRr (fRr (fLr (fLr (fRr (fLr (fRr (fLr (fLr (fRr (fe rfl))))))))))) (gm_c (fRr (fRr (fLr (fLr (fRr (fLr (fRr (fLr (fRr (fLr (fe rfl))))))))))) (gm_c (fRr (fRr (fLr (fLr (fRr (fLr (fRr (fLr (fRr (fRr (fe rfl))))))))))) (gm_c (fRr (fRr (fLr (fLr (fRr (fLr (fRr (fRr (fLr (fLr (fe rfl))))))))))) (gm_c (fRr (fRr (fLr (fLr (fRr (fLr (fRr (fRr (fLr (fRr (fe rfl))))))))))) (gm_c (fRr (fRr (fLr (fLr (fRr (fLr (fRr (fRr (fRr (fLr (fe rfl))))))))))) (gm_c (fRr (fRr (fLr (fLr (fRr (fLr (fRr (fRr (fRr (fRr (fLr (fe rfl)))))))))))) (gm_c (fRr (fRr (fLr (fLr (fRr (fLr (fRr (fRr (fRr (fRr (fRr (fe rfl)))))))))))) (gm_c (fRr (fRr (fLr (fLr (fRr (fRr (fLr (fLr (fLr (fLr (fe rfl))))))))))) (gm_c (fRr (fRr (fLr (fLr (fRr (fRr (fLr (fLr (fLr (fRr (fe rfl))))))))))) (gm_c (fRr (fRr (fLr (fLr (fRr (fRr (fLr (fLr (fRr (fLr (fe rfl))))))))))) (gm_c (fRr (fRr (fLr (fLr (fRr (fRr (fLr (fLr (fRr (fRr (fe rfl))))))))))) (gm_c (fRr (fRr (fLr (fLr (fRr (fRr (fLr (fRr (fLr (fLr (fe rfl))))))))))) (gm_c (fRr (fRr (fLr (fLr (fRr (fRr (fLr (fRr (fLr (fRr (fe rfl))))))))))) (gm_c (fRr (fRr (fLr (fLr (fRr (fRr (fLr (fRr (fRr (fLr (fe rfl))))))))))) (gm_c (fRr (fRr (fLr (fLr (fRr (fRr (fLr (fRr (fRr (fRr (fLr (fe rfl)))))))))))) (gm_c (fRr (fRr (fLr (fLr (fRr (fRr (fLr (fRr (fRr (fRr (fRr (fe rfl)))))))))))) (gm_c (fRr (fRr (fLr (fLr (fRr (fRr (fRr (fLr (fLr (fLr (fe rfl))))))))))) (gm_c (fRr (fRr (fLr (fLr (fRr (fRr (fRr (fLr (fLr (fRr (fe rfl))))))))))) (gm_c (fRr (fRr (fLr (fLr (fRr (fRr (fRr (fLr (fRr (fLr (fe rfl))))))))))) (gm_c (fRr (fRr (fLr (fLr (fRr (fRr (fRr (fLr (fRr (fRr (fLr (fe rfl)))))))))))) (gm_c (fRr (fRr (fLr (fLr (fRr (fRr (fRr (fLr (fRr (fRr (fRr (fe rfl)))))))))))) (gm_c (fRr (fRr (fLr (fLr (fRr (fRr (fRr (fRr (fLr (fLr (fe rfl))))))))))) (gm_c (fRr (fRr (fLr (fLr (fRr (fRr (fRr (fRr (fLr (fRr (fe rfl))))))))))) (gm_c (fRr (fRr (fLr (fLr (fRr (fRr (fRr (fRr (fRr (fLr (fe rfl))))))))))) (gm_c (fRr (fRr (fLr (fLr (fRr (fRr (fRr (fRr (fRr (fRr (fLr (fe rfl)))))))))))) (gm_c (fRr (fRr (fLr (fLr (fRr (fRr (fRr (fRr (fRr (fRr (fRr (fe rfl)))))))))))) (gm_c (fRr (fRr (fLr (fRr (fLr (fLr (fLr (fLr (fLr (fLr (fe rfl))))))))))) (gm_c (fRr (fRr (fLr (fRr (fLr (fLr (fLr (fLr (fLr (fRr (fe rfl))))))))))) (gm_c (fRr (fRr (fLr (fRr (fLr (fLr (fLr (fLr (fRr (fLr (fe rfl))))))))))) (gm_c (fRr (fRr (fLr (fRr (fLr (fLr (fLr (fLr (fRr (fRr (fe rfl))))))))))) (gm_c (fRr (fRr (fLr (fRr (fLr (fLr (fLr (fRr (fLr (fLr (fe rfl))))))))))) (gm_c (fRr (fRr (fLr (fRr (fLr (fLr (fLr (fRr (fLr (fRr (fe rfl))))))))))) (gm_c (fRr (fRr (fLr (fRr (fLr (fLr (fLr (fRr (fRr (fLr (fe rfl))))))))))) (gm_c (fRr (fRr (fLr (fRr (fLr (fLr (fLr (fRr (fRr (fRr (fLr (fe rfl)))))))))))) (gm_c (fRr (fRr (fLr (fRr (fLr (fLr (fLr (fRr (fRr (fRr (fRr (fe rfl)))))))))))) (gm_c (fRr (fRr (fLr (fRr (fLr (fLr (fRr (fLr (fLr (fLr (fe rfl))))))))))) (gm_c (fRr (fRr (fLr (fRr (fLr (fLr (fRr (fLr (fLr (fRr (fe rfl))))))))))) (gm_c (fRr (fRr (fLr (fRr (fLr (fLr (fRr (fLr (fRr (fLr (fe rfl))))))))))) (gm_c (fRr (fRr (fLr (fRr (fLr (fLr (fRr (fLr (fRr (fRr (fe rfl))))))))))) (gm_c (fRr (fRr (fLr (fRr (fLr (fLr (fRr (fRr (fLr (fLr (fe rfl))))))))))) (gm_c (fRr (fRr (fLr (fRr (fLr (fLr (fRr (fRr (fLr (fRr (fe rfl))))))))))) (gm_c (fRr (fRr (fLr (fRr (fLr (fLr (fRr (fRr (fRr (fLr (fe rfl))))))))))) (gm_c (fRr (fRr (fLr (fRr (fLr (fLr (fRr (fRr (fRr (fRr (fLr (fe rfl)))))))))))) (gm_c (fRr (fRr (fLr (fRr (fLr (fLr (fRr (fRr (fRr (fRr (fRr (fe rfl)))))))))))) (gm_c (fRr (fRr (fLr (fRr (fLr (fRr (fLr (fLr (fLr (fLr (fe rfl))))))))))) (gm_c (fRr (fRr (fLr (fRr (fLr (fRr (fLr (fLr (fLr (fRr (fe rfl))))))))))) (gm_c (fRr (fRr (fLr (fRr (fLr (fRr (fLr (fLr (fRr (fLr (fe rfl))))))))))) (gm_c (fRr (fRr (fLr (fRr (fLr (fRr (fLr (fLr (fRr (fRr (fe rfl))))))))))) (gm_c (fRr (fRr (fLr (fRr (fLr (fRr (fLr (fRr (fLr (fLr (fe rfl))))))))))) (gm_c (fRr (fRr (fLr (fRr (fLr (fRr (fLr (fRr (fLr (fRr (fe rfl))))))))))) (gm_c (fRr (fRr (fLr (fRr (fLr (fRr (fLr (fRr (fRr (fLr (fe rfl))))))))))) (gm_c (fRr (fRr (fLr (fRr (fLr (fRr (fLr (fRr (fRr (fRr (fLr (fe rfl)))))))))))) (gm_c (fRr (fRr (fLr (fRr (fLr (fRr (fLr (fRr (fRr (fRr (fRr (fe rfl)))))))))))) (gm_c (fRr (fRr (fLr (fRr (fLr (fRr (fRr (fLr (fLr (fLr (fe rfl))))))))))) (gm_c (fRr (fRr (fLr (fRr (fLr (fRr (fRr (fLr (fLr (fRr (fe rfl))))))))))) (gm_c (fRr (fRr (fLr (fRr (fLr (fRr (fRr (fLr (fRr (fLr (fe rfl))))))))))) (gm_c (fRr (fRr (fLr (fRr (fLr (fRr (fRr (fLr (fRr (fRr (fLr (fe rfl)))))))))))) (gm_c (fRr (fRr (fLr (fRr (fLr (fRr (fRr (fLr (fRr (fRr (fRr (fe rfl)))))))))))) (gm_c (fRr (fRr (fLr (fRr (fLr (fRr (fRr (fRr (fLr (fLr (fe rfl))))))))))) (gm_c (fRr (fRr (fLr (fRr (fLr (fRr (fRr (fRr (fLr (fRr (fe rfl))))))))))) (gm_c (fRr (fRr (fLr (fRr (fLr (fRr (fRr (fRr (fRr (fLr (fe rfl))))))))))) (gm_c (fRr (fRr (fLr (fRr (fLr (fRr (fRr (fRr (fRr (fRr (fLr (fe rfl)))))))))))) (gm_c (fRr (fRr (fLr (fRr (fLr (fRr (fRr (fRr (fRr (fRr (fRr (fe rfl)))))))))))) (gm_c (fRr (fRr (fLr (fRr (fRr (fLr (fLr (fLr (fLr (fLr (fe rfl))))))))))) (gm_c (fRr (fRr (fLr (fRr (fRr (fLr (fLr (fLr (fLr (fRr (fe rfl))))))))))) (gm_c (fRr (fRr (fLr (fRr (fRr (fLr (fLr (fLr (fRr (fLr (fe rfl))))))))))) (gm_c (fRr (fRr (fLr (fRr (fRr (fLr (fLr (fLr (fRr (fRr (fe rfl))))))))))) (gm_c (fRr (fRr (fLr (fRr (fRr (fLr (fLr (fRr (fLr (fLr (fe rfl))))))))))) (gm_c (fRr (fRr (fLr (fRr (fRr (fLr (fLr (fRr (fLr (fRr (fe rfl))))))))))) (gm_c (fRr (fRr (fLr (fRr (fRr (fLr (fLr (fRr (fRr (fLr (fe rfl))))))))))) (gm_c (fRr (fRr (fLr (fRr (fRr (fLr (fLr (fRr (fRr (fRr (fLr (fe rfl)))))))))))) (gm_c (fRr (fRr (fLr (fRr (fRr (fLr (fLr (fRr (fRr (fRr (fRr (fe rfl)))))))))))) (gm_c (fRr (fRr (fLr (fRr (fRr (fLr (fRr (fLr (fLr (fLr (fe rfl))))))))))) (gm_c (fRr (fRr (fLr (fRr (fRr (fLr (fRr (fLr (fLr (fRr (fe rfl))))))))))) (gm_c (fRr (fRr (fLr (fRr (fRr (fLr (fRr (fLr (fRr (fLr (fe rfl))))))))))) (gm_c (fRr (fRr (fLr (fRr (fRr (fLr (fRr (fLr (fRr (fRr (fe rfl))))))))))) (gm_c (fRr (fRr (fLr (fRr (fRr (fLr (fRr (fRr (fLr (fLr (fe rfl))))))))))) (gm_c (fRr (fRr (fLr (fRr (fRr (fLr (fRr (fRr (fLr (fRr (fe rfl))))))))))) (gm_c (fRr (fRr (fLr (fRr (fRr (fLr (fRr (fRr (fRr (fLr (fe rfl))))))))))) (gm_c (fRr (fRr (fLr (fRr (fRr (fLr (fRr (fRr (fRr (fRr (fLr (fe rfl)))))))))))) (gm_c (fRr (fRr (fLr (fRr (fRr (fLr (fRr (fRr (fRr (fRr (fRr (fe rfl)))))))))))) (gm_c (fRr (fRr (fLr (fRr (fRr (fRr (fLr (fLr (fLr (fLr (fe rfl))))))))))) (gm_c (fRr (fRr (fLr (fRr (fRr (fRr (fLr (fLr (fLr (fRr (fe rfl))))))))))) (gm_c (fRr (fRr (fLr (fRr (fRr (fRr (fLr (fLr (fRr (fLr (fe rfl))))))))))) (gm_c (fRr (fRr (fLr (fRr (fRr (fRr (fLr (fLr (fRr (fRr (fe rfl))))))))))) (gm_c (fRr (fRr (fLr (fRr (fRr (fRr (fLr (fRr (fLr (fLr (fe rfl))))))))))) (gm_c (fRr (fRr (fLr (fRr (fRr (fRr (fLr (fRr (fLr (fRr (fe rfl))))))))))) (gm_c (fRr (fRr (fLr (fRr (fRr (fRr (fLr (fRr (fRr (fLr (fe rfl))))))))))) (gm_c (fRr (fRr (fLr (fRr (fRr (fRr (fLr (fRr (fRr (fRr (fLr (fe rfl)))))))))))) (gm_c (fRr (fRr (fLr (fRr (fRr (fRr (fLr (fRr (fRr (fRr (fRr (fe rfl)))))))))))) (gm_c (fRr (fRr (fLr (fRr (fRr (fRr (fRr (fLr (fLr (fLr (fe rfl))))))))))) (gm_c (fRr (fRr (fLr (fRr (fRr (fRr (fRr (fLr (fLr (fRr (fe rfl))))))))))) (gm_c (fRr (fRr (fLr (fRr (fRr (fRr (fRr (fLr (fRr (fLr (fe rfl))))))))))) (gm_c (fRr (fRr (fLr (fRr (fRr (fRr (fRr (fLr (fRr (fRr (fLr (fe rfl)))))))))))) (gm_c (fRr (fRr (fLr (fRr (fRr (fRr (fRr (fLr (fRr (fRr (fRr (fe rfl)))))))))))) (gm_c (fRr (fRr (fLr (fRr (fRr (fRr (fRr (fRr (fLr (fLr (fe rfl))))))))))) (gm_c (fRr (fRr (fLr (fRr (fRr (fRr (fRr (fRr (fLr (fRr (fe rfl))))))))))) (gm_c (fRr (fRr (fLr (fRr (fRr (fRr (fRr (fRr (fRr (fLr (fe rfl))))))))))) (gm_c (fRr (fRr (fLr (fRr (fRr (fRr (fRr (fRr (fRr (fRr (fLr (fe rfl)))))))))))) (gm_c (fRr (fRr (fLr (fRr (fRr (fRr (fRr (fRr (fRr (fRr (fRr (fe rfl)))))))))))) (gm_c (fRr (fRr (fRr (fLr (fLr (fLr (fLr (fLr (fLr (fLr (fe rfl))))))))))) (gm_c (fRr (fRr (fRr (fLr (fLr (fLr (fLr (fLr (fLr (fRr (fe rfl))))))))))) (gm_c (fRr (fRr (fRr (fLr (fLr (fLr (fLr (fLr (fRr (fLr (fe rfl))))))))))) (gm_c (fRr (fRr (fRr (fLr (fLr (fLr (fLr (fLr (fRr (fRr (fe rfl))))))))))) (gm_c (fRr (fRr (fRr (fLr (fLr (fLr (fLr (fRr (fLr (fLr (fe rfl))))))))))) gm_nil)))))))))))))))))))))))))))))))))))))))))))))))))))))))))))))))))))))))))))))))))))))))))))))))))))))))))))))))))))))))))))))))))))))))))))))))
set_option maxHeartbeats 4000000 in
set_option maxRecDepth 100000 in
theorem elS_1 : ∀ w ∈ (List.range 2).map (elS 1), w ∈ flatC (Jvm.Cond.and given_1 narrow_1) := (gm_c (fRr (fRr (fRr (fLr (fLr (fLr (fRr (fLr (fLr (fLr (fe rfl))))))))))) (gm_c (fRr (fRr (fRr (fLr (fLr (fLr (fRr (fLr (fLr (fRr (fe rfl))))))))))) gm_nil))
set_option maxHeartbeats 4000000 in
set_option maxRecDepth 100000 in
theorem elS_2 : ∀ w ∈ (List.range 4).map (elS 2), w ∈ flatC (Jvm.Cond.and given_1 narrow_1) := (gm_c (fRr (fRr (fRr (fLr (fLr (fLr (fRr (fRr (fRr (fRr (fLr (fe rfl)))))))))))) (gm_c (fRr (fRr (fRr (fLr (fLr (fLr (fRr (fRr (fRr (fRr (fRr (fe rfl)))))))))))) (gm_c (fRr (fRr (fRr (fLr (fLr (fRr (fLr (fLr (fLr (fLr (fe rfl))))))))))) (gm_c (fRr (fRr (fRr (fLr (fLr (fRr (fLr (fLr (fLr (fRr (fe rfl))))))))))) gm_nil))))
set_option maxHeartbeats 4000000 in
set_option maxRecDepth 100000 in
theorem elS_3 : ∀ w ∈ (List.range 16).map (elS 3), w ∈ flatC (Jvm.Cond.and given_1 narrow_1) := (gm_c (fRr (fRr (fRr (fRr (fRr (fLr (fRr (fLr (fRr (fRr (fe rfl))))))))))) (gm_c (fRr (fRr (fRr (fRr (fRr (fLr (fRr (fRr (fLr (fLr (fe rfl))))))))))) (gm_c (fRr (fRr (fRr (fRr (fRr (fLr (fRr (fRr (fLr (fRr (fe rfl))))))))))) (gm_c (fRr (fRr (fRr (fRr (fRr (fLr (fRr (fRr (fRr (fLr (fe rfl))))))))))) (gm_c (fRr (fRr (fRr (fRr (fRr (fLr (fRr (fRr (fRr (fRr (fLr (fe rfl)))))))))))) (gm_c (fRr (fRr (fRr (fRr (fRr (fLr (fRr (fRr (fRr (fRr (fRr (fe rfl)))))))))))) (gm_c (fRr (fRr (fRr (fRr (fRr (fRr (fLr (fLr (fLr (fLr (fe rfl))))))))))) (gm_c (fRr (fRr (fRr (fRr (fRr (fRr (fLr (fLr (fLr (fRr (fe rfl))))))))))) (gm_c (fRr (fRr (fRr (fRr (fRr (fRr (fLr (fLr (fRr (fLr (fe rfl))))))))))) (gm_c (fRr (fRr (fRr (fRr (fRr (fRr (fLr (fLr (fRr (fRr (fe rfl))))))))))) (gm_c (fRr (fRr (fRr (fRr (fRr (fRr (fLr (fRr (fLr (fLr (fe rfl))))))))))) (gm_c (fRr (fRr (fRr (fRr (fRr (fRr (fLr (fRr (fLr (fRr (fe rfl))))))))))) (gm_c (fRr (fRr (fRr (fRr (fRr (fRr (fLr (fRr (fRr (fLr (fe rfl))))))))))) (gm_c (fRr (fRr (fRr (fRr (fRr (fRr (fLr (fRr (fRr (fRr (fLr (fe rfl)))))))))))) (gm_c (fRr (fRr (fRr (fRr (fRr (fRr (fLr (fRr (fRr (fRr (fRr (fe rfl)))))))))))) (gm_c (fRr (fRr (fRr (fRr (fRr (fRr (fRr (fLr (fLr (fLr (fe rfl))))))))))) gm_nil))))))))))))))))
set_option maxHeartbeats 4000000 in
set_option maxRecDepth 100000 in
theorem elW_0 : ∀ w ∈ (List.range 6).map elW, w ∈ flatC (Jvm.Cond.and given_1 narrow_1) := (gm_c (fRr (fLr (fLr (fLr (fLr (fLr (fRr (fLr (fLr (fRr (fe rfl))))))))))) (gm_c (fRr (fLr (fLr (fLr (fLr (fLr (fRr (fLr (fRr (fLr (fe rfl))))))))))) (gm_c (fRr (fLr (fLr (fLr (fLr (fLr (fRr (fLr (fRr (fRr (fe rfl))))))))))) (gm_c (fRr (fLr (fLr (fLr (fLr (fLr (fRr (fRr (fLr (fLr (fe rfl))))))))))) (gm_c (fRr (fLr (fLr (fLr (fLr (fLr (fRr (fRr (fLr (fRr (fe rfl))))))))))) (gm_c (fRr (fLr (fLr (fLr (fLr (fLr (fRr (fRr (fRr (fLr (fe rfl))))))))))) gm_nil))))))
theorem st_el : ∀ i : Nat, i < 4 → ∀ j : Nat, j < sLen.getD i 0 → elS i j ∈ flatC (Jvm.Cond.and given_1 narrow_1) := by
  intro i hi j hj
  match i, hi, hj with
  | 0, _, hj => exact elS_0 _ (List.mem_map.mpr ⟨j, List.mem_range.mpr hj, rfl⟩)
  | 1, _, hj => exact elS_1 _ (List.mem_map.mpr ⟨j, List.mem_range.mpr hj, rfl⟩)
  | 2, _, hj => exact elS_2 _ (List.mem_map.mpr ⟨j, List.mem_range.mpr hj, rfl⟩)
  | 3, _, hj => exact elS_3 _ (List.mem_map.mpr ⟨j, List.mem_range.mpr hj, rfl⟩)
set_option maxHeartbeats 4000000 in
set_option maxRecDepth 20000 in
theorem st_ct : ∀ E ∈ xE, Cond.castable E E ∈ lw_tbl := by decide +kernel
set_option maxHeartbeats 4000000 in
set_option maxRecDepth 20000 in
theorem st_dc : ∀ Y ∈ xY, Cond.declares (Bundle.init0 Y) ∈ lw_tbl := by decide +kernel
set_option maxHeartbeats 4000000 in
set_option maxRecDepth 20000 in
theorem st_nc : ∀ E ∈ xE, ∀ G ∈ xE, E ≠ G → Cond.not (.castable E G) ∈ flatC (Jvm.Cond.and given_1 narrow_1) := by decide +kernel
set_option maxHeartbeats 4000000 in
set_option maxRecDepth 20000 in
theorem st_ex : ∀ i : Nat, i < 4 → Cond.exactly (tmS i) "java/lang/String" ∈ flatC (Jvm.Cond.and given_1 narrow_1) := by decide +kernel
set_option maxHeartbeats 4000000 in
set_option maxRecDepth 20000 in
theorem st_co : ∀ i : Nat, i < 4 → Cond.eq (.field (tmS i) "java/lang/String" "coder" "B") (.int 0) ∈ flatC (Jvm.Cond.and given_1 narrow_1) := by decide +kernel
set_option maxHeartbeats 4000000 in
set_option maxRecDepth 20000 in
theorem st_ar : ∀ i : Nat, i < 4 → Cond.arrayOf (.field (tmS i) "java/lang/String" "value" "[B") .byte ∈ flatC (Jvm.Cond.and given_1 narrow_1) := by decide +kernel
set_option maxHeartbeats 4000000 in
set_option maxRecDepth 20000 in
theorem st_le : ∀ i : Nat, i < 4 → Cond.eq (.length (.field (tmS i) "java/lang/String" "value" "[B")) (.int (Int32.ofNat (sLen.getD i 0))) ∈ flatC (Jvm.Cond.and given_1 narrow_1) := by decide +kernel
set_option maxHeartbeats 4000000 in
set_option maxRecDepth 20000 in
theorem st_ne : ∀ i : Nat, i < 4 → ∀ j : Nat, j < 4 → i ≠ j → Cond.not (Cond.eq (tmS i) (tmS j)) ∈ flatC (Jvm.Cond.and given_1 narrow_1) ∨ Cond.not (Cond.eq (tmS j) (tmS i)) ∈ flatC (Jvm.Cond.and given_1 narrow_1) := by decide +kernel
set_option maxHeartbeats 4000000 in
set_option maxRecDepth 20000 in
theorem st_wa : Cond.arrayOf (.static "HeapWorks$Types" "WIDTH" "[I") .int ∈ flatC (Jvm.Cond.and given_1 narrow_1) := by decide +kernel
set_option maxHeartbeats 4000000 in
set_option maxRecDepth 20000 in
theorem st_wl : Cond.eq (.length (.static "HeapWorks$Types" "WIDTH" "[I")) (.int (Int32.ofNat 6)) ∈ flatC (Jvm.Cond.and given_1 narrow_1) := by decide +kernel
theorem sby_0 : (fun j : Nat => Value.int ((sByt.getD 0 []).getD j 0)) = fun j => Value.int (Ii (sb0 j)) := by
  funext j
  congr 1
  by_cases h : j < 143
  · have h9 : ∀ k, k < 143 → ((sByt.getD 0 []).getD k 0 = Ii (sb0 k)) := by decide
    exact h9 j h
  · have e1 : (sByt.getD 0 []).getD j 0 = 0 := by
      rw [List.getD_eq_getElem?_getD, List.getElem?_eq_none (by show 143 ≤ j; omega)]; rfl
    have e2 : sb0 j = 0 := by
      unfold sb0
      rw [List.getD_eq_getElem?_getD, List.getElem?_eq_none (by show 143 ≤ j; omega)]; rfl
    rw [e1, e2]; rfl
theorem sby_1 : (fun j : Nat => Value.int ((sByt.getD 1 []).getD j 0)) = fun j => Value.int (Ii (sb1 j)) := by
  funext j
  congr 1
  by_cases h : j < 2
  · have h9 : ∀ k, k < 2 → ((sByt.getD 1 []).getD k 0 = Ii (sb1 k)) := by decide
    exact h9 j h
  · have e1 : (sByt.getD 1 []).getD j 0 = 0 := by
      rw [List.getD_eq_getElem?_getD, List.getElem?_eq_none (by show 2 ≤ j; omega)]; rfl
    have e2 : sb1 j = 0 := by
      unfold sb1
      rw [List.getD_eq_getElem?_getD, List.getElem?_eq_none (by show 2 ≤ j; omega)]; rfl
    rw [e1, e2]; rfl
theorem sby_2 : (fun j : Nat => Value.int ((sByt.getD 2 []).getD j 0)) = fun j => Value.int (Ii (sb2 j)) := by
  funext j
  congr 1
  by_cases h : j < 4
  · have h9 : ∀ k, k < 4 → ((sByt.getD 2 []).getD k 0 = Ii (sb2 k)) := by decide
    exact h9 j h
  · have e1 : (sByt.getD 2 []).getD j 0 = 0 := by
      rw [List.getD_eq_getElem?_getD, List.getElem?_eq_none (by show 4 ≤ j; omega)]; rfl
    have e2 : sb2 j = 0 := by
      unfold sb2
      rw [List.getD_eq_getElem?_getD, List.getElem?_eq_none (by show 4 ≤ j; omega)]; rfl
    rw [e1, e2]; rfl
theorem sby_3 : (fun j : Nat => Value.int ((sByt.getD 3 []).getD j 0)) = fun j => Value.int (Ii (sgb j)) := by
  funext j
  congr 1
  by_cases h : j < 16
  · have h9 : ∀ k, k < 16 → ((sByt.getD 3 []).getD k 0 = Ii (sgb k)) := by decide
    exact h9 j h
  · have e1 : (sByt.getD 3 []).getD j 0 = 0 := by
      rw [List.getD_eq_getElem?_getD, List.getElem?_eq_none (by show 16 ≤ j; omega)]; rfl
    have e2 : sgb j = 0 := by
      unfold sgb
      rw [List.getD_eq_getElem?_getD, List.getElem?_eq_none (by show 16 ≤ j; omega)]; rfl
    rw [e1, e2]; rfl
theorem arr_K {s : State} {args : Array Value} {ty : FieldType} (hp : va_RA s = fun c t => va_RA s c t) (h : (Cond.arrayClass ty).before args s = true) : ∃ c : ClassId, ArrOfT s c ty ∧ s.vm.findClass ("[" ++ ty.toString) = some c := by
  obtain ⟨c, k, comp, h1, h2, h3⟩ := Cond.arrayClass_spec h
  exact ⟨c, fun n z => ⟨fun k h => (by cases h), k, h2, comp, h3⟩, h1⟩
theorem arr_O {s : State} {C : String} (h : va_AO C s) : ∃ c : ClassId, ArrOfT s c (.object C) ∧ va_RA s c (.object C) := by
  obtain ⟨comp, c, k, h1, -, h3, h4, h5⟩ := Cond.arrayOver_spec h
  exact ⟨c, fun n z => ⟨fun k h => (by cases h), k, h3, comp, h4⟩, k, comp, h3, h4, h1, h5⟩
