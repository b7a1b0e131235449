/-! a question is read: the class's state, and what its small steps do -/
def Fpc (c : Nat) (C0 C : MM) : Prop := 211 ≤ c ∧ (∀ k, k ≠ 1 → (k < c ∨ c + 7 < k) → C k = C0 k) ∧ (∀ i, i ∉ ([8, 9, 10, 11] : List Int) → C 1 i = C0 1 i) ∧ ∀ i, (i < 5 ∨ 18 < i ∨ i = 14 ∨ i = 15 ∨ i = 17) → C c i = C0 c i
def Wd (C0 : MM) (k : Nat) (C : MM) : Prop := C 1 9 = C0 4 k ∧ C 1 10 = C0 5 k ∧ C 1 11 = C0 6 k ∧ C 1 8 = if C0 4 k = 0 then (k : Int) else k + 1
/-- nodes n, nests q, folds fo, it, scopes s, waits w, steps st -/
def Fl (c : Nat) (n q fo it s w st : Int) (C : MM) : Prop := C c 10 = n ∧ C c 11 = q ∧ C c 12 = fo ∧ C c 13 = it ∧ C c 16 = s ∧ C c 18 = w ∧ C c 5 = st
def Rwc (c : Nat) (s w : Int) (nm sf wq : Int → Int) (C : MM) : Prop := (∀ i, 0 ≤ i → i < s → C (c + 5) i = nm i ∧ C (c + 6) i = sf i) ∧ ∀ i, 0 ≤ i → i < w → C (c + 7) i = wq i
def Us (c : Nat) (st : Int) (C : MM) : Prop := (C c 8 = 0 ∨ C c 8 = 1) ∧ (C c 9 = 0 ∨ C c 9 = 1 ∧ C c 8 = 1) ∧ C c 6 = 0 ∧ ∀ i, 0 ≤ i → i < st → (C (c + 1) i = 31 ∨ C (c + 1) i = 8 → C c 8 = 1) ∧ (C (c + 1) i = 8 → C c 9 = 1)
def SC (c : Nat) (C0 : MM) (k : Nat) (n q fo it s w st : Int) (nm sf wq : Int → Int) (C : MM) : Prop := Fpc c C0 C ∧ Wd C0 k C ∧ Fl c n q fo it s w st C ∧ Rwc c s w nm sf wq C ∧ Us c st C
/-- what a fault leaves -/
def CF (c : Nat) (C0 : MM) (f pl : Int) (C : MM) : Prop := Fpc c C0 C ∧ C c 6 = f ∧ C c 7 = pl
theorem Fpc_u {c : Nat} {C0 C : MM} (h : Fpc c C0 C) {j : Nat} (j0 : 0 < j) (j7 : j ≤ 7) (i v : Int) : Fpc c C0 (ux_ C (c + j) i v) := by
  obtain ⟨h0, h1, h2, h3⟩ := h
  refine ⟨h0, fun k a b => ?_, fun x hx => ?_, fun x hx => ?_⟩
  · rw [ux_g _ _ _ (by omega)]; exact h1 k a b
  · rw [ux_c _ _ _ _ (by omega)]; exact h2 x hx
  · rw [ux_c _ _ _ _ (by omega)]; exact h3 x hx
theorem Fpc_0 {c : Nat} {C0 C : MM} (h : Fpc c C0 C) {i : Int} (v : Int) (hi : 5 ≤ i ∧ i ≤ 18 ∧ i ≠ 14 ∧ i ≠ 15 ∧ i ≠ 17) : Fpc c C0 (ux_ C c i v) := by
  obtain ⟨h0, h1, h2, h3⟩ := h
  refine ⟨h0, fun k a b => ?_, fun x hx => ?_, fun x hx => ?_⟩
  · rw [ux_g _ _ _ (by omega)]; exact h1 k a b
  · rw [ux_c _ _ _ _ (by omega)]; exact h2 x hx
  · rw [ux_i _ _ _ (by omega)]; exact h3 x hx
theorem Wd_u {c : Nat} {C0 C : MM} {k : Nat} (h : Wd C0 k C) (c0 : 211 ≤ c) (j : Nat) (i v : Int) : Wd C0 k (ux_ C (c + j) i v) := by
  unfold Wd at h ⊢
  rw [ux_c _ _ _ _ (by omega), ux_c _ _ _ _ (by omega), ux_c _ _ _ _ (by omega), ux_c _ _ _ _ (by omega)]
  exact h
theorem Fl_u {c : Nat} {n q fo it s w st : Int} {C : MM} (h : Fl c n q fo it s w st C) {j : Nat} (j0 : 0 < j) (i v : Int) : Fl c n q fo it s w st (ux_ C (c + j) i v) := by
  unfold Fl at h ⊢
  rw [ux_g _ _ _ (by omega)]
  exact h
theorem c_fail {c : Nat} {C0 C : MM} {k : Nat} {n q fo it s w st : Int} {nm sf wq : Int → Int} (h : SC c C0 k n q fo it s w st nm sf wq C) {Q : Int → MM → Prop} {f : Int} (hq : ∀ C', CF c C0 f (C0 5 k) C' → Q 0 C') : w_X6_fail c Q f C := by
  unfold w_X6_fail
  intro M1 e1 v2 e2 _ M3 e3
  refine hq M3 ⟨?_, ?_, ?_⟩
  · rw [e3, e1]; exact Fpc_0 (Fpc_0 h.1 _ (by omega)) _ (by omega)
  · rw [e3, e1, ux_i _ _ _ (by decide), ux_s]
  · rw [e3, ux_s, e2, e1, ux_c _ _ _ _ (by have := h.1.1; omega)]; exact h.2.1.2.1
theorem c_addN {c : Nat} {C0 C : MM} {k : Nat} {n q fo it s w st : Int} {nm sf wq : Int → Int} (h : SC c C0 k n q fo it s w st nm sf wq C) {Q : Int → MM → Prop} (n0 : 0 ≤ n) (n1 : n ≤ 120) (h1 : n < 120 → ∀ C', SC c C0 k (n + 1) q fo it s w st nm sf wq C' → (∀ j, 0 < j → C' (c + j) = C (c + j)) → Q 1 C') (h0 : n = 120 → ∀ C', CF c C0 4 (C0 5 k) C' → Q 0 C') : w_X6_addNode c Q C := by
  obtain ⟨hF, hW, ⟨f1, f2, f3, f4, f5, f6, f7⟩, hR, hU⟩ := id h
  have c0 := hF.1
  unfold w_X6_addNode
  intro v1 e1 _
  refine ⟨fun z v3 e3 _ => ⟨by unfold ri_; omega, fun M5 e5 => h1 (by omega) M5 ⟨?_, ?_, ?_, ?_, ?_⟩ (fun j j0 => by rw [e5]; exact ux_g _ _ _ (by omega))⟩, fun z => c_fail h (fun C' hC _ => h0 (by omega) C' hC)⟩
  · rw [e5]; exact Fpc_0 hF _ (by omega)
  · rw [e5]; exact Wd_u (j := 0) hW c0 _ _
  · unfold Fl
    rw [e5, ux_s, ux_i _ _ _ (by decide), ux_i _ _ _ (by decide), ux_i _ _ _ (by decide), ux_i _ _ _ (by decide), ux_i _ _ _ (by decide), ux_i _ _ _ (by decide)]
    exact ⟨by omega, f2, f3, f4, f5, f6, f7⟩
  · unfold Rwc
    rw [e5, ux_g _ _ _ (by omega), ux_g _ _ _ (by omega), ux_g _ _ _ (by omega)]
    exact hR
  · unfold Us
    rw [e5, ux_i _ _ _ (by decide), ux_i _ _ _ (by decide), ux_i _ _ _ (by decide), ux_g _ _ _ (by omega)]
    exact hU
/-- the nests become another number -/
theorem SC_nest {c : Nat} {C0 C : MM} {k : Nat} {n q fo it s w st : Int} {nm sf wq : Int → Int} (h : SC c C0 k n q fo it s w st nm sf wq C) (v : Int) : SC c C0 k n v fo it s w st nm sf wq (ux_ C c 11 v) := by
  obtain ⟨hF, hW, ⟨f1, f2, f3, f4, f5, f6, f7⟩, hR, hU⟩ := id h
  have c0 := hF.1
  refine ⟨Fpc_0 hF _ (by omega), Wd_u (j := 0) hW c0 _ _, ?_, ?_, ?_⟩
  · unfold Fl
    rw [ux_s, ux_i _ _ _ (by decide), ux_i _ _ _ (by decide), ux_i _ _ _ (by decide), ux_i _ _ _ (by decide), ux_i _ _ _ (by decide), ux_i _ _ _ (by decide)]
    exact ⟨f1, rfl, f3, f4, f5, f6, f7⟩
  · unfold Rwc
    rw [ux_g _ _ _ (by omega), ux_g _ _ _ (by omega), ux_g _ _ _ (by omega)]
    exact hR
  · unfold Us
    rw [ux_i _ _ _ (by decide), ux_i _ _ _ (by decide), ux_i _ _ _ (by decide), ux_g _ _ _ (by omega)]
    exact hU
theorem SC_folds {c : Nat} {C0 C : MM} {k : Nat} {n q fo it s w st : Int} {nm sf wq : Int → Int} (h : SC c C0 k n q fo it s w st nm sf wq C) (v : Int) : SC c C0 k n q v it s w st nm sf wq (ux_ C c 12 v) := by
  obtain ⟨hF, hW, ⟨f1, f2, f3, f4, f5, f6, f7⟩, hR, hU⟩ := id h
  have c0 := hF.1
  refine ⟨Fpc_0 hF _ (by omega), Wd_u (j := 0) hW c0 _ _, ?_, ?_, ?_⟩
  · unfold Fl
    rw [ux_s, ux_i _ _ _ (by decide), ux_i _ _ _ (by decide), ux_i _ _ _ (by decide), ux_i _ _ _ (by decide), ux_i _ _ _ (by decide), ux_i _ _ _ (by decide)]
    exact ⟨f1, f2, rfl, f4, f5, f6, f7⟩
  · unfold Rwc
    rw [ux_g _ _ _ (by omega), ux_g _ _ _ (by omega), ux_g _ _ _ (by omega)]
    exact hR
  · unfold Us
    rw [ux_i _ _ _ (by decide), ux_i _ _ _ (by decide), ux_i _ _ _ (by decide), ux_g _ _ _ (by omega)]
    exact hU
theorem SC_it {c : Nat} {C0 C : MM} {k : Nat} {n q fo it s w st : Int} {nm sf wq : Int → Int} (h : SC c C0 k n q fo it s w st nm sf wq C) (v : Int) : SC c C0 k n q fo v s w st nm sf wq (ux_ C c 13 v) := by
  obtain ⟨hF, hW, ⟨f1, f2, f3, f4, f5, f6, f7⟩, hR, hU⟩ := id h
  have c0 := hF.1
  refine ⟨Fpc_0 hF _ (by omega), Wd_u (j := 0) hW c0 _ _, ?_, ?_, ?_⟩
  · unfold Fl
    rw [ux_s, ux_i _ _ _ (by decide), ux_i _ _ _ (by decide), ux_i _ _ _ (by decide), ux_i _ _ _ (by decide), ux_i _ _ _ (by decide), ux_i _ _ _ (by decide)]
    exact ⟨f1, f2, f3, rfl, f5, f6, f7⟩
  · unfold Rwc
    rw [ux_g _ _ _ (by omega), ux_g _ _ _ (by omega), ux_g _ _ _ (by omega)]
    exact hR
  · unfold Us
    rw [ux_i _ _ _ (by decide), ux_i _ _ _ (by decide), ux_i _ _ _ (by decide), ux_g _ _ _ (by omega)]
    exact hU
theorem c_addQ {c : Nat} {C0 C : MM} {k : Nat} {n q fo it s w st : Int} {nm sf wq : Int → Int} (h : SC c C0 k n q fo it s w st nm sf wq C) {Q : Int → MM → Prop} (n0 : 0 ≤ q) (n1 : q ≤ 10) (h1 : q < 10 → ∀ C', SC c C0 k n (q + 1) fo it s w st nm sf wq C' → (∀ j, 0 < j → C' (c + j) = C (c + j)) → Q 1 C') (h0 : q = 10 → ∀ C', CF c C0 4 (C0 5 k) C' → Q 0 C') : w_X6_addNest c Q C := by
  have f2 := h.2.2.1.2.1
  unfold w_X6_addNest
  intro v1 e1 _
  refine ⟨fun z v3 e3 _ => ⟨by unfold ri_; omega, fun M5 e5 => h1 (by omega) M5 ?_ (fun j j0 => by rw [e5]; exact ux_g _ _ _ (by omega))⟩, fun z => c_fail h (fun C' hC _ => h0 (by omega) C' hC)⟩
  rw [e5, e3, f2]
  exact SC_nest h _
theorem Wd_next {C0 C : MM} {k : Nat} {c : Nat} {E : Nat → Int} {L : Nat} (hT : TKS C0 E L) (hF : Fpc c C0 C) (hW : Wd C0 k C) (hk : k ≤ L) : PCw C E L k := by
  have e : ∀ j, j = 2 ∨ j = 4 ∨ j = 5 ∨ j = 6 ∨ j = 7 → C j = C0 j := fun j hj => hF.2.1 j (by omega) (by have := hF.1; omega)
  refine ⟨TKS_e hT (hF.2.2.1 1 (by decide)) (e 2 (by omega)) (e 7 (by omega)) (e 4 (by omega)) (e 5 (by omega)) (e 6 (by omega)), hk, ?_, ?_, ?_, ?_⟩
  · rw [e 4 (by omega)]; exact hW.1
  · rw [e 5 (by omega)]; exact hW.2.1
  · rw [e 6 (by omega)]; exact hW.2.2.1
  · rw [e 4 (by omega)]; exact hW.2.2.2
theorem c_next {c : Nat} {C0 C : MM} {k : Nat} {n q fo it s w st : Int} {nm sf wq : Int → Int} {E : Nat → Int} {L : Nat} (hT : TKS C0 E L) (h : SC c C0 k n q fo it s w st nm sf wq C) (hk : k ≤ L) (hw : C0 4 k ≠ 0) {Q : Int → MM → Prop} (hq : ∀ C', SC c C0 (k + 1) n q fo it s w st nm sf wq C' → (∀ j, 0 < j → C' (c + j) = C (c + j)) → Q 0 C') : w_X9_nextWord Q C := by
  obtain ⟨hF, hW, hL, hR, hU⟩ := id h
  have c0 := hF.1
  refine p_next (Wd_next hT hF hW hk) (by rw [hF.2.1 4 (by omega) (by omega)]; exact hw) fun M' fw hP => hq M' ⟨⟨c0, fun j a b => ?_, fun i hi => ?_, fun i hi => ?_⟩, ?_, ?_, ?_, ?_⟩ (fun j _ => fw.1 _ (by omega))
  · rw [fw.1 j a]; exact hF.2.1 j a b
  · rw [fw.2 i hi]; exact hF.2.2.1 i hi
  · rw [fw.1 c (by omega)]; exact hF.2.2.2 i hi
  · have e : ∀ j, j = 4 ∨ j = 5 ∨ j = 6 → M' j = C0 j := fun j hj => by rw [fw.1 j (by omega)]; exact hF.2.1 j (by omega) (by omega)
    obtain ⟨-, -, p1, p2, p3, p4⟩ := hP
    rw [e 4 (by omega)] at p1 p4
    rw [e 5 (by omega)] at p2
    rw [e 6 (by omega)] at p3
    exact ⟨p1, p2, p3, p4⟩
  · unfold Fl; rw [fw.1 c (by omega)]; exact hL
  · unfold Rwc; rw [fw.1 _ (by omega), fw.1 _ (by omega), fw.1 _ (by omega)]; exact hR
  · unfold Us; rw [fw.1 _ (by omega), fw.1 _ (by omega)]; exact hU
theorem c_refuse {c : Nat} {C0 C : MM} {k : Nat} {n q fo it s w st : Int} {nm sf wq : Int → Int} (h : SC c C0 k n q fo it s w st nm sf wq C) {Q : Int → MM → Prop} (hq : ∀ C', CF c C0 (if C0 4 k = 1 then 2 else 1) (C0 5 k) C' → Q 0 C') : w_X6_refuse c Q C := by
  unfold w_X6_refuse w_X6_refuse_b17
  intro v1 e1 _
  rw [h.2.1.1] at e1
  refine ⟨fun z => c_fail h (fun C' hC _ => hq C' ?_), fun z => c_fail h (fun C' hC _ => hq C' ?_)⟩
  · rw [if_neg (by omega)]; exact hC
  · rw [if_pos (by omega)]; exact hC
theorem c_pass {c : Nat} {C0 C : MM} {k : Nat} {n q fo it s w st : Int} {nm sf wq : Int → Int} {E : Nat → Int} {L : Nat} (hT : TKS C0 E L) (h : SC c C0 k n q fo it s w st nm sf wq C) (hk : k ≤ L) {Q : Int → MM → Prop} {x : Int} (x0 : x ≠ 0) (h1 : C0 4 k = x → ∀ C', SC c C0 (k + 1) n q fo it s w st nm sf wq C' → (∀ j, 0 < j → C' (c + j) = C (c + j)) → Q 1 C') (h0 : C0 4 k ≠ x → ∀ C', CF c C0 (if C0 4 k = 1 then 2 else 1) (C0 5 k) C' → Q 0 C') : w_X6_pass c Q x C := by
  unfold w_X6_pass
  intro v1 e1 _
  rw [h.2.1.1] at e1
  exact ⟨fun z => c_next hT h hk (by omega) (fun C' a b => h1 (by omega) C' a b), fun z => c_refuse h (fun C' hC _ => h0 (by omega) C' hC)⟩
/-- the code's rows, with a step at st -/
theorem c_emit {c : Nat} {C0 C : MM} {k : Nat} {n q fo it s w st : Int} {nm sf wq : Int → Int} (h : SC c C0 k n q fo it s w st nm sf wq C) {Q : Int → MM → Prop} {p1 p2 p3 p4 : Int} (s0 : 0 ≤ st) (s1 : st < 499) (hq : ∀ C', SC c C0 k n q fo it s w (st + 1) nm sf wq C' → (∀ j i, 0 < j → i ≠ st → C' (c + j) i = C (c + j) i) → C' (c + 1) st = p1 → C' (c + 2) st = p2 → C' (c + 3) st = p3 → C' (c + 4) st = p4 → Q st C') : w_X6_emit c Q p1 p2 p3 p4 C := by
  obtain ⟨hF, hW, ⟨f1, f2, f3, f4, f5, f6, f7⟩, hR, hU⟩ := id h
  have c0 := hF.1
  unfold w_X6_emit
  intro v1 e1 _
  have mn : min v1 499 = st := by omega
  rw [mn]
  refine ⟨s0, by omega, fun M2 e2 => ⟨s0, by omega, fun M3 e3 => ⟨s0, by omega, fun M4 e4 => ⟨s0, by omega, fun M5 e5 => ⟨by unfold ri_; omega, fun M7 e7 => ?_⟩⟩⟩⟩⟩
  have o : ∀ j i, 0 < j → i ≠ st → M7 (c + j) i = C (c + j) i := fun j i a b => by
    rw [e7, ux_c _ _ _ _ (by omega), e5, e4, e3, e2]
    unfold ux_
    rw [if_neg (fun y => b y.2), if_neg (fun y => b y.2), if_neg (fun y => b y.2), if_neg (fun y => b y.2)]
  have o5 : ∀ j, 4 < j → M7 (c + j) = C (c + j) := fun j a => by rw [e7, ux_g _ _ _ (by omega), e5, ux_g _ _ _ (by omega), e4, ux_g _ _ _ (by omega), e3, ux_g _ _ _ (by omega), e2, ux_g _ _ _ (by omega)]
  have r1 : M7 (c + 1) st = p1 := by rw [e7, ux_c _ _ _ _ (by omega), e5, ux_c _ _ _ _ (by omega), e4, ux_c _ _ _ _ (by omega), e3, ux_c _ _ _ _ (by omega), e2, ux_s]
  have r2 : M7 (c + 2) st = p2 := by rw [e7, ux_c _ _ _ _ (by omega), e5, ux_c _ _ _ _ (by omega), e4, ux_c _ _ _ _ (by omega), e3, ux_s]
  have r3 : M7 (c + 3) st = p3 := by rw [e7, ux_c _ _ _ _ (by omega), e5, ux_c _ _ _ _ (by omega), e4, ux_s]
  have r4 : M7 (c + 4) st = p4 := by rw [e7, ux_c _ _ _ _ (by omega), e5, ux_s]
  have hF7 : Fpc c C0 M7 := by rw [e7, e5, e4, e3, e2]; exact Fpc_0 (Fpc_u (Fpc_u (Fpc_u (Fpc_u hF (by omega) (by omega) _ _) (by omega) (by omega) _ _) (by omega) (by omega) _ _) (by omega) (by omega) _ _) _ (by omega)
  have z7 : ∀ i, i ≠ 5 → M7 c i = C c i := fun i hi => by rw [e7, ux_i _ _ _ hi, e5, ux_c _ _ _ _ (by omega), e4, ux_c _ _ _ _ (by omega), e3, ux_c _ _ _ _ (by omega), e2, ux_c _ _ _ _ (by omega)]
  have z5 : M7 c 5 = st + 1 := by rw [e7, ux_s]
  have w7 : M7 1 = C 1 := by rw [e7, ux_g _ _ _ (by omega), e5, ux_g _ _ _ (by omega), e4, ux_g _ _ _ (by omega), e3, ux_g _ _ _ (by omega), e2, ux_g _ _ _ (by omega)]
  -- behind the flags
  have fin : ∀ N, Fpc c C0 N → (∀ j, j ≠ c → N j = M7 j) → (∀ i, i ≠ 8 → i ≠ 9 → N c i = M7 c i) → (N c 8 = 0 ∨ N c 8 = 1) → (N c 9 = 0 ∨ N c 9 = 1 ∧ N c 8 = 1) → (C c 8 = 1 → N c 8 = 1) → (C c 9 = 1 → N c 9 = 1) → (p1 = 31 ∨ p1 = 8 → N c 8 = 1) → (p1 = 8 → N c 9 = 1) → Q st N := fun N hN on oi g8 g9 k8 k9 m8 m9 => by
    have r : ∀ j, 0 < j → N (c + j) = M7 (c + j) := fun j a => on _ (by omega)
    refine hq N ⟨hN, ?_, ?_, ?_, g8, g9, by rw [oi 6 (by decide) (by decide), z7 6 (by decide)]; exact hU.2.2.1, fun i i0 i1 => ?_⟩ (fun j i a b => by rw [r j a]; exact o j i a b) (by rw [r 1 (by omega)]; exact r1) (by rw [r 2 (by omega)]; exact r2) (by rw [r 3 (by omega)]; exact r3) (by rw [r 4 (by omega)]; exact r4)
    · unfold Wd; rw [on 1 (by omega), w7]; exact hW
    · unfold Fl
      rw [oi 10 (by decide) (by decide), oi 11 (by decide) (by decide), oi 12 (by decide) (by decide), oi 13 (by decide) (by decide), oi 16 (by decide) (by decide), oi 18 (by decide) (by decide), oi 5 (by decide) (by decide), z7 10 (by decide), z7 11 (by decide), z7 12 (by decide), z7 13 (by decide), z7 16 (by decide), z7 18 (by decide), z5]
      exact ⟨f1, f2, f3, f4, f5, f6, rfl⟩
    · unfold Rwc
      rw [r 5 (by omega), r 6 (by omega), r 7 (by omega), o5 5 (by omega), o5 6 (by omega), o5 7 (by omega)]
      exact hR
    · rw [r 1 (by omega)]
      by_cases y : i = st
      · rw [y, r1]; exact ⟨m8, m9⟩
      · rw [o 1 i (by omega) y]
        obtain ⟨u1, u2⟩ := hU.2.2.2 i i0 (by omega)
        exact ⟨fun a => k8 (u1 a), fun a => k9 (u2 a)⟩
  have u8 := hU.1
  have u9 := hU.2.1
  rw [← z7 8 (by decide)] at u8
  rw [← z7 9 (by decide), ← z7 8 (by decide)] at u9
  have b65 : (p1 = 31 ∨ p1 = 8) → w_X6_emit_b65 c Q p1 st M7 := fun hp => by
    unfold w_X6_emit_b65 w_X6_emit_b70
    intro N1 g1
    have a8 : N1 c 8 = 1 := by rw [g1, ux_s]
    have a9 : N1 c 9 = M7 c 9 := by rw [g1, ux_i _ _ _ (by decide)]
    refine ⟨fun z => fin N1 (by rw [g1]; exact Fpc_0 hF7 _ (by omega)) (fun j hj => by rw [g1]; exact ux_g _ _ _ hj) (fun i a _ => by rw [g1, ux_i _ _ _ a]) (Or.inr a8) (by rw [a9]; exact u9.imp id (fun y => ⟨y.1, a8⟩)) (fun _ => a8) (fun y => by rw [a9, z7 9 (by decide)]; exact y) (fun _ => a8) (fun y => absurd y z), fun z N2 g2 => ?_⟩
    have b8 : N2 c 8 = 1 := by rw [g2, ux_i _ _ _ (by decide)]; exact a8
    have b9 : N2 c 9 = 1 := by rw [g2, ux_s]
    exact fin N2 (by rw [g2, g1]; exact Fpc_0 (Fpc_0 hF7 _ (by omega)) _ (by omega)) (fun j hj => by rw [g2, g1, ux_g _ _ _ hj, ux_g _ _ _ hj]) (fun i a b => by rw [g2, g1, ux_i _ _ _ b, ux_i _ _ _ a]) (Or.inr b8) (Or.inr ⟨b9, b8⟩) (fun _ => b8) (fun _ => b9) (fun _ => b8) (fun _ => b9)
  refine ⟨fun z => b65 (Or.inl z), fun z => ⟨fun z2 => ?_, fun z2 => b65 (Or.inr z2)⟩⟩
  unfold w_X6_emit_b70
  exact ⟨fun _ => fin M7 hF7 (fun _ _ => rfl) (fun _ _ _ => rfl) u8 u9 (fun y => by rw [z7 8 (by decide)]; exact y) (fun y => by rw [z7 9 (by decide)]; exact y) (fun y => by omega) (fun y => absurd y z2), fun y => absurd y z2⟩
/-- a step's target is written -/
theorem SC_tgt {c : Nat} {C0 C : MM} {k : Nat} {n q fo it s w st : Int} {nm sf wq : Int → Int} (h : SC c C0 k n q fo it s w st nm sf wq C) (i v : Int) : SC c C0 k n q fo it s w st nm sf wq (ux_ C (c + 3) i v) := by
  obtain ⟨hF, hW, hL, hR, hU⟩ := id h
  have c0 := hF.1
  refine ⟨Fpc_u hF (by omega) (by omega) _ _, Wd_u hW c0 _ _ _, Fl_u hL (by omega) _ _, ?_, ?_⟩
  · unfold Rwc
    rw [ux_g _ _ _ (by omega), ux_g _ _ _ (by omega), ux_g _ _ _ (by omega)]
    exact hR
  · unfold Us
    rw [ux_g _ _ _ (by omega), ux_g _ _ _ (by omega)]
    exact hU
