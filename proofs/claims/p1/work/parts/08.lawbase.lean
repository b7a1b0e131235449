/-! what the law's walk needs beside: nothing known of any cell, the classes that don't catch, a row of references past its end -/
theorem P0 {D : va_G} {cl : List vw_C} {H : Heap} : va_P D cl [] H := fun k q h => by simp at h
theorem D0 {A : Nat → Prop} : va_D A [] := ⟨fun i j p q h => by simp at h, fun k q h => by simp at h⟩
/-- none of the four classes catches another -/
def Yy (U : State) : Prop := ∀ E ∈ xE, ∀ F ∈ xE, E ≠ F → va_Nc E F U
theorem Yy_go {s U : State} (h : Yy s) (hW : s.WarmedH U.vm) : Yy U := fun E hE F hF hn => va_Nc.moved hW.alike (h E hE F hF hn)
theorem Yy_call {U : State} {g : JFrame} {mk : MethodId} {a : Array Value} (h : Yy U) : Yy (U.calling g mk a) := fun E hE F hF hn => va_Nc.moved (u := U) (U := U.calling g mk a) (Vm.Alike.refl U.vm) (h E hE F hF hn)
theorem gq_cell {k : ClassId} {n : Nat} {g g' : Nat → Option Nat} (hg : ∀ j, j < n → g' j = g j) : vp_cell k (n, .inr (.inr (.inr (.inr g')))) = vp_cell k (n, .inr (.inr (.inr (.inr g)))) := by
  show arrV k n (fun j => va_rf (g' j)) = arrV k n (fun j => va_rf (g j))
  unfold arrV
  have h : (fun j : Fin n => va_rf (g' j.val)) = (fun j : Fin n => va_rf (g j.val)) := funext fun j => by rw [hg j.val j.isLt]
  rw [h]
/-- past its end a row of references may be said to hold anything -/
theorem gq_set {D : va_G} {cl : List vw_C} {ws : va_W} {H : Heap} (h : va_P D cl ws H) (i : Nat) {q n : Nat} {k : ClassId} {g g' : Nat → Option Nat} (hi : ws[i]? = some (q, .inl (k, n, .inr (.inr (.inr (.inr g)))))) (hg : ∀ j, j < n → g' j = g j) : va_P D cl (ws.set i (q, .inl (k, n, .inr (.inr (.inr (.inr g')))))) H := by
  intro j x hx
  by_cases e : i = j
  · subst e
    have hlt : i < ws.length := (List.getElem?_eq_some_iff.mp hi).1
    rw [List.getElem?_set_self hlt] at hx
    cases hx
    have h0 : H[q]? = some (vp_cell k (n, .inr (.inr (.inr (.inr g))))) := h i _ hi
    show H[q]? = some (vp_cell k (n, .inr (.inr (.inr (.inr g')))))
    rw [gq_cell hg]; exact h0
  · rw [List.getElem?_set_ne e] at hx
    exact h j x hx
theorem gq_setD {A : Nat → Prop} {ws : va_W} (h : va_D A ws) (i : Nat) {q : Nat} {x y : va_E} (hi : ws[i]? = some (q, x)) : va_D A (ws.set i (q, y)) := by
  have hlt : i < ws.length := (List.getElem?_eq_some_iff.mp hi).1
  have ad : ∀ (j : Nat) (p : Nat × va_E), (ws.set i (q, y))[j]? = some p → ∃ p', ws[j]? = some p' ∧ p'.1 = p.1 := by
    intro j p hp
    by_cases e : i = j
    · subst e
      rw [List.getElem?_set_self hlt] at hp
      cases hp
      exact ⟨_, hi, rfl⟩
    · rw [List.getElem?_set_ne e] at hp
      exact ⟨p, hp, rfl⟩
  refine ⟨fun a b p r hp hr hpr => ?_, fun a p hp => ?_⟩
  · obtain ⟨p', h1, h2⟩ := ad a p hp
    obtain ⟨r', h3, h4⟩ := ad b r hr
    exact h.1 a b p' r' h1 h3 (by rw [h2, h4]; exact hpr)
  · obtain ⟨p', h1, h2⟩ := ad a p hp
    rw [← h2]; exact h.2 a p' h1
/-- the row of references that holds a past its four places -/
def gq4 (g : Nat → Option Nat) (a : Nat) : Nat → Option Nat := fun j => if j < 4 then g j else some a
theorem gq4_in {g : Nat → Option Nat} {a : Nat} : ∀ j, j < 4 → gq4 g a j = g j := fun j h => if_pos h
theorem gp_else {g : Nat → Option Nat} {a : Nat} {x : Int32} (h0 : g (0 : Int32).toNatClampNeg = some a) (n1 : ¬ x = 1) (n2 : ¬ x = 2) (n3 : ¬ x = 3) : gq4 g a x.toNatClampNeg = some a := by
  unfold gq4
  rw [i_eq] at n1 n2 n3
  rw [show (1 : Int32).toInt = 1 from rfl] at n1
  rw [show (2 : Int32).toInt = 2 from rfl] at n2
  rw [show (3 : Int32).toInt = 3 from rfl] at n3
  have hx : x.toNatClampNeg = x.toInt.toNat := rfl
  by_cases h : x.toInt ≤ 0
  · have e : x.toNatClampNeg = 0 := by omega
    rw [e, if_pos (by decide)]; exact h0
  · rw [if_neg (by omega)]
