theorem ji2b_b (x : Int) : -128 ≤ ji2b x ∧ ji2b x ≤ 127 := by unfold ji2b; rw [Int8.toInt_toInt32]; have h1 := Int8.le_toInt (Ii x).toInt8; have h2 := Int8.toInt_lt (Ii x).toInt8; omega
