/-! the key words' codes -/
def kwC : List Int := [113062, 171112, 49971890285, 780810785, 831126303, 137198, 113182, 2668, 166510, 10680742, 12241887, 544107359, 2285, 2280, 497482286, 187367, 10394478, 645774190, 11966943, 8238946, 11943199, 9829038, 511617954, 41332906914, 496614253, 765107117, 9042334, 8571495, 2286]
def kwR : List Int := [149925, 206186, 56281030021, 940592939, 173306, 150043, 3267, 201719, 12731655, 14220590, 671070119, 2890, 2885, 627347315, 221935, 12458243, 766544429, 13958132, 10401281, 13935137, 11918270, 640580327, 48295502054, 626518108, 878621113, 11167861, 10719562, 2891, 893349682]
def kwW : List (List Int) := [[97, 108, 108], [111, 119, 110], [116, 104, 105, 110, 103, 115], [116, 104, 105, 110, 103], [119, 104, 101, 114, 101], [103, 101, 116], [97, 110, 100], [111, 114], [110, 111, 116], [110, 117, 108, 108], [116, 114, 117, 101], [102, 97, 108, 115, 101], [105, 115], [105, 110], [99, 111, 117, 110, 116], [115, 117, 109], [109, 111, 115, 116], [108, 101, 97, 115, 116], [115, 111, 109, 101], [101, 97, 99, 104], [115, 105, 122, 101], [107, 101, 112, 116], [100, 101, 112, 116, 104], [108, 101, 110, 103, 116, 104], [99, 108, 97, 115, 115], [115, 108, 111, 116, 115], [104, 101, 108, 100], [102, 114, 111, 109], [105, 116]]
def frW (f : Int → Int → Int) (w : List Int) : Int := fr f (fun i => w.getD i.toNat 0) 0 0 w.length
theorem nr_W (w : List Int) (hl : w.length ≤ 10) (hw : ∀ i : Nat, i < w.length → 97 ≤ w.getD i 0 ∧ w.getD i 0 ≤ 122) : nr (frW f64 w) (frW f63 w) := ⟨fun i => w.getD i.toNat 0, w.length, hl, fun i a b => Or.inl (Or.inr (hw i.toNat (by omega))), rfl, rfl⟩
theorem kw_ok : ∀ k : Fin 29, (kwW.getD k.val []).length ≤ 10 ∧ (∀ i : Fin 10, i.val < (kwW.getD k.val []).length → 97 ≤ (kwW.getD k.val []).getD i.val 0 ∧ (kwW.getD k.val []).getD i.val 0 ≤ 122) ∧ frW f64 (kwW.getD k.val []) = kwC.getD k.val 0 ∧ frW f63 (kwW.getD k.val []) = kwR.getD (kp (k.val : Int)).toNat 0 := by decide +kernel
theorem kw_d : ∀ i j : Fin 29, kwR.getD i.val 0 = kwR.getD j.val 0 → i = j := by decide +kernel
theorem kw_n : ∀ i : Fin 29, kwC.getD i.val 0 ≠ 2272 ∧ kwC.getD i.val 0 ≠ 10107429 := by decide +kernel
theorem key_ok {C R : MM} (hC : ∀ k : Nat, k < 29 → C 7 k = kwC.getD k 0) (hR : ∀ k : Nat, k < 29 → R 3 k = kwR.getD k 0) (h1 : C 261 1 = 2272) (h2 : C 261 2 = 10107429) : Rkey C R ∧ Kd R ∧ nr (C 261 1) 2877 ∧ nr (C 261 2) 12184058 ∧ KWn C := by
  refine ⟨fun k a b => ?_, fun i j a b c d e => ?_, ?_, ?_, fun x a b => ?_⟩
  · obtain ⟨m, rfl⟩ : ∃ m : Nat, k = m := ⟨k.toNat, by omega⟩
    obtain ⟨q1, q2, q3, q4⟩ := kw_ok ⟨m, by omega⟩
    simp only at q1 q2 q3 q4
    have kb : 0 ≤ kp (m : Int) ∧ kp (m : Int) < 29 := by unfold kp; split <;> (try split) <;> omega
    have r := hR (kp (m : Int)).toNat (by omega)
    rw [show (((kp (m : Int)).toNat : Nat) : Int) = kp (m : Int) from by omega] at r
    rw [hC m (by omega), r, ← q3, ← q4]
    exact nr_W _ q1 (fun i hi => q2 ⟨i, by omega⟩ hi)
  · obtain ⟨i', rfl⟩ : ∃ m : Nat, i = m := ⟨i.toNat, by omega⟩
    obtain ⟨j', rfl⟩ : ∃ m : Nat, j = m := ⟨j.toNat, by omega⟩
    rw [hR i' (by omega), hR j' (by omega)] at e
    have := kw_d ⟨i', by omega⟩ ⟨j', by omega⟩ e
    have := congrArg Fin.val this
    simp only at this
    omega
  · rw [h1, show (2272 : Int) = frW f64 [105, 102] from by decide +kernel, show (2877 : Int) = frW f63 [105, 102] from by decide +kernel]
    exact nr_W _ (by decide) (by decide)
  · rw [h2, show (10107429 : Int) = frW f64 [108, 105, 110, 107] from by decide +kernel, show (12184058 : Int) = frW f63 [108, 105, 110, 107] from by decide +kernel]
    exact nr_W _ (by decide) (by decide)
  · obtain ⟨m, rfl⟩ : ∃ m : Nat, x = m := ⟨x.toNat, by omega⟩
    rw [hC m (by omega), h1, h2]
    exact kw_n ⟨m, by omega⟩
