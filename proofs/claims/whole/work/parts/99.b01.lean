/-! pictures: lists of what was met, and how -/
def mx (L : List Int) (X : List (Int × Int)) (v f s : Int) : List (Int × Int) := if v < 0 ∨ v ∈ L then X else X ++ [(f, s)]
theorem xg_app {X : List (Int × Int)} {e : Int × Int} {k : Nat} (h : k < X.length) : (X ++ [e]).getD k (0, 0) = X.getD k (0, 0) := by
  rw [List.getD_eq_getElem?_getD, List.getD_eq_getElem?_getD, List.getElem?_append_left h]
theorem xg_last {X : List (Int × Int)} {e : Int × Int} : (X ++ [e]).getD X.length (0, 0) = e := by
  rw [List.getD_eq_getElem?_getD, List.getElem?_append_right (Nat.le_refl _)]
  simp
theorem mt_eq {L : List Int} {v : Int} (h : v < 0 ∨ v ∈ L) : mt L v = L := by unfold mt; rw [if_pos h]
theorem mx_eq {L : List Int} {X : List (Int × Int)} {v f s : Int} (h : v < 0 ∨ v ∈ L) : mx L X v f s = X := by unfold mx; rw [if_pos h]
theorem mx_new {L : List Int} {X : List (Int × Int)} {v f s : Int} (h : ¬ (v < 0 ∨ v ∈ L)) : mx L X v f s = X ++ [(f, s)] := by unfold mx; rw [if_neg h]
theorem mx_len {L : List Int} {X : List (Int × Int)} {v f s : Int} (h : X.length = L.length) : (mx L X v f s).length = (mt L v).length := by
  by_cases z : v < 0 ∨ v ∈ L
  · rw [mt_eq z, mx_eq z, h]
  · unfold mt mx
    rw [if_neg z, if_neg z, List.length_append, List.length_append, h]; rfl
theorem mx_gD {L : List Int} {X : List (Int × Int)} {v f s : Int} {k : Nat} (h : k < X.length) : (mx L X v f s).getD k (0, 0) = X.getD k (0, 0) := by
  unfold mx
  by_cases z : v < 0 ∨ v ∈ L
  · rw [if_pos z]
  · rw [if_neg z]; exact xg_app h
theorem ix_mt {L : List Int} {v o : Int} (h : o ∈ L) : ix (mt L v) o = ix L o := by
  by_cases z : v < 0 ∨ v ∈ L
  · rw [mt_eq z]
  · have hv : v ∉ L := fun q => z (Or.inr q)
    unfold mt
    rw [if_neg z, ix_app hv, if_neg (fun e => hv (by rw [← e]; exact h))]
theorem sL_mt {C : MM} {L : List Int} {v : Int} (k : Nat) (h : k ≤ L.length) : sL C (mt L v) k = sL C L k := by
  induction k with
  | zero => rfl
  | succ k ih =>
    show sL C (mt L v) k + ln C ((mt L v).getD k 0) = sL C L k + ln C (L.getD k 0)
    rw [ih (by omega), mt_gD (by omega)]
theorem nf_app {C : MM} {L : List Int} {v : Int} (hv : v ∉ L) (v0 : 0 ≤ v) (n : Nat) : nf C (L ++ [v]) n = nf C L n + (if v < n then ln C v else 0) := by
  induction n with
  | zero => rw [if_neg (by omega)]; rfl
  | succ n ih =>
    show nf C (L ++ [v]) n + (if (n : Int) ∈ L ++ [v] then ln C n else 0) = nf C L n + (if (n : Int) ∈ L then ln C n else 0) + _
    rw [ih]
    by_cases e : (n : Int) = v
    · rw [if_pos (List.mem_append_right _ (List.mem_singleton.mpr e)), if_neg (by omega), if_neg (by rw [e]; exact hv), if_pos (by omega), e]
    · by_cases z : (n : Int) ∈ L
      · rw [if_pos (List.mem_append_left _ z), if_pos z]
        by_cases y : v < (n : Int)
        · rw [if_pos y, if_pos (by omega)]; omega
        · rw [if_neg y, if_neg (by omega)]; omega
      · have z2 : ¬ (n : Int) ∈ L ++ [v] := fun q => by
          rw [List.mem_append, List.mem_singleton] at q
          rcases q with q | q
          · exact z q
          · exact e q
        rw [if_neg z2, if_neg z]
        by_cases y : v < (n : Int)
        · rw [if_pos y, if_pos (by omega)]; omega
        · rw [if_neg y, if_neg (by omega)]
def sN (C : MM) (L : List Int) : Prop := sL C L L.length = nf C L (C 26 1).toNat
theorem sN_mt {C : MM} {L : List Int} {v : Int} (h : sN C L) (hv : v < C 26 1) : sN C (mt L v) := by
  by_cases z : v < 0 ∨ v ∈ L
  · rw [mt_eq z]; exact h
  · have hn : v ∉ L := fun q => z (Or.inr q)
    have h0 : 0 ≤ v := by omega
    have em := mt_new h0 hn
    unfold sN
    rw [em, nf_app hn h0, if_pos (by omega), ← h, List.length_append]
    show sL C (L ++ [v]) (L.length + 1) = _
    show sL C (L ++ [v]) L.length + ln C ((L ++ [v]).getD L.length 0) = _
    rw [gD_last, ← em, sL_mt _ (Nat.le_refl _)]
theorem sN_nil (C : MM) : sN C [] := by
  unfold sN
  show (0 : Int) = nf C [] (C 26 1).toNat
  generalize (C 26 1).toNat = n
  induction n with
  | zero => rfl
  | succ n ih =>
    show (0 : Int) = nf C [] n + (if (n : Int) ∈ [] then ln C n else 0)
    rw [← ih, if_neg (by simp)]; rfl
theorem sN_fm {C : MM} {f : Nat → Int} {L : List Int} (h : sN C L) (k : Nat) (hf : ∀ j, j < k → f j < C 26 1) : sN C (fm f k L) := by
  induction k with
  | zero => exact h
  | succ k ih => exact sN_mt (ih fun j hj => hf j (by omega)) (hf k (by omega))
/-- all slots of what is met are no more than the heap has -/
theorem sN_le {C R R0 : MM} (hY : Rty C R0) (hH : Rhp C R) {L : List Int} (h : sN C L) (hL : ∀ o ∈ L, hOk C o) : sL C L L.length ≤ 4000 := by
  have hnn : ∀ o : Int, 0 ≤ o → o < ((C 26 1).toNat : Nat) → C 27 o ≠ -1 → 0 ≤ ln C o := fun o a b c => (hp_at hY hH ⟨a, by omega, c⟩).1
  have := nf_le hnn (fun o ho => (hL o ho).2.2) (C 26 1).toNat (Nat.le_refl _)
  have h6 := hH.2.2.2.2.2.1
  have h7 := hH.2.2.2.2.2.2.1
  unfold sN at h
  omega
/-- where a picture's value comes from -/
def pv (C : MM) (L : List Int) (o : Int) (k : Nat) : Int := if kA C (C 27 o) k = 5 ∧ C 30 (C 29 o + k) ≠ -1 then ix L (C 30 (C 29 o + k)) else C 30 (C 29 o + k)
theorem pv_mt {C : MM} {L : List Int} {v o : Int} {k : Nat} (h : 0 ≤ slk C o k → slk C o k ∈ L) (h0 : slk C o k = -1 ∨ 0 ≤ slk C o k) : pv C (mt L v) o k = pv C L o k := by
  unfold pv
  unfold slk at h h0
  by_cases z : kA C (C 27 o) k = 5
  · rw [if_pos z] at h h0
    by_cases z2 : C 30 (C 29 o + k) = -1
    · rw [if_neg (fun q => q.2 z2), if_neg (fun q => q.2 z2)]
    · rw [if_pos ⟨z, z2⟩, if_pos ⟨z, z2⟩, ix_mt (h (by omega))]
  · rw [if_neg (fun q => z q.1), if_neg (fun q => z q.1)]
/-- the roots: their numbers and what they link to -/
def rT (C : MM) : Nat → List (Int × Int)
  | 0 => []
  | k + 1 => rT C k ++ [((k : Int), C 33 k)]
def nS (C : MM) : Nat → Int
  | 0 => 0
  | f + 1 => nS C f + (if C 21 f = 0 then 0 else if C 19 f = 5 then 1 else 0)
def rS (C : MM) : Nat → List (Int × Int)
  | 0 => rT C (C 26 11).toNat
  | f + 1 => if stv C f = -1 then rS C f else rS C f ++ [(C 26 11 + nS C f, stv C f)]
theorem rT_len (C : MM) (k : Nat) : (rT C k).length = k := by
  induction k with
  | zero => rfl
  | succ k ih =>
    show (rT C k ++ [((k : Int), C 33 k)]).length = k + 1
    rw [List.length_append, ih]; rfl
theorem nS_bd (C : MM) (f : Nat) : 0 ≤ nS C f ∧ nS C f ≤ f := by
  induction f with
  | zero => exact ⟨Int.le_refl _, Int.le_refl _⟩
  | succ f ih =>
    show 0 ≤ nS C f + (if C 21 f = 0 then 0 else if C 19 f = 5 then 1 else 0) ∧ nS C f + (if C 21 f = 0 then 0 else if C 19 f = 5 then 1 else 0) ≤ _
    by_cases z : C 21 f = 0
    · rw [if_pos z]; omega
    · rw [if_neg z]
      by_cases z2 : C 19 f = 5
      · rw [if_pos z2]; omega
      · rw [if_neg z2]; omega
theorem rS_len (C : MM) (f : Nat) : ((rS C f).length : Int) ≤ (C 26 11).toNat + nS C f ∧ (C 26 11).toNat ≤ (rS C f).length := by
  induction f with
  | zero =>
    show ((rT C (C 26 11).toNat).length : Int) ≤ (C 26 11).toNat + 0 ∧ _ ≤ (rT C (C 26 11).toNat).length
    rw [rT_len]; omega
  | succ f ih =>
    show ((if stv C f = -1 then rS C f else rS C f ++ [(C 26 11 + nS C f, stv C f)]).length : Int) ≤ (C 26 11).toNat + (nS C f + (if C 21 f = 0 then 0 else if C 19 f = 5 then 1 else 0)) ∧ _ ≤ (if stv C f = -1 then rS C f else rS C f ++ [(C 26 11 + nS C f, stv C f)]).length
    by_cases z : stv C f = -1
    · rw [if_pos z]
      by_cases y : C 21 f = 0
      · rw [if_pos y]; omega
      · rw [if_neg y]
        by_cases y2 : C 19 f = 5
        · rw [if_pos y2]; omega
        · rw [if_neg y2]; omega
    · rw [if_neg z, List.length_append]
      unfold stv at z
      by_cases y : C 21 f = 0
      · rw [if_pos y] at z; exact absurd rfl z
      · rw [if_neg y] at z
        by_cases y2 : C 19 f = 5
        · rw [if_neg y, if_pos y2]
          simp; omega
        · rw [if_neg y2] at z; exact absurd rfl z
