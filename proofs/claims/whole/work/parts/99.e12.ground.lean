/-! a world of rows of whole numbers: cell c is an array or an object by its kind; what it holds is M c -/
def jrv (ad : Nat → Nat) (x : Int) : Option Nat := if x < 0 then none else some (ad x.toNat)
/-- a field: 0 an int, 1 a long, 2 a boolean, 3 a reference that may change, 4 and 5 one that doesn't (by distance, by number) -/
def jfv (ad : Nat → Nat) (c : Nat) (r : Int → Int) (i : Nat) (d : Nat × Nat) : Value := match d.1 with
  | 0 => .int (Ii (r i))
  | 1 => .long (Ll (r i))
  | 2 => .int (Ii (r i))
  | 3 => va_rf (jrv ad (r i))
  | 4 => .ref (ad (c + d.2))
  | _ => .ref (ad d.2)
def jce (cy : Nat → ClassId) (ad : Nat → Nat) (ft : Nat → List (Nat × Nat)) (k : Nat × Nat) (c : Nat) (r : Int → Int) : va_E := match k.1 with
  | 0 => .inl (cy 1, k.2, .inl (fun j => Ii (r (j : Int))))
  | 1 => .inl (cy 2, k.2, .inr (.inl (fun j => Ll (r (j : Int)))))
  | 2 => .inl (cy 3, k.2, .inl (fun j => Ii (r (j : Int))))
  | 3 => .inl (cy 0, k.2, .inl (fun j => Ii (r (j : Int))))
  | 4 => .inl (cy 4, k.2, .inr (.inr (.inr (.inr (fun j => jrv ad (r (j : Int)))))))
  | 5 => .inl (cy 5, k.2, .inr (.inr (.inr (.inr (fun j => jrv ad (r (j : Int)))))))
  | _ => .inr (k.2, (ft k.2).mapIdx (jfv ad c r))
def jcs (cy : Nat → ClassId) (ad : Nat → Nat) (ft : Nat → List (Nat × Nat)) (ks : List (Nat × Nat)) (M : MM) : va_W := ks.mapIdx (fun c k => (ad c, jce cy ad ft k c (M c)))
/-- what a place may hold: 0 an int, 1 a long, 2 zero or one, 3 a byte -/
def jrg (so : Nat) (x : Int) : Prop := match so with
  | 0 => ri_ x
  | 1 => rl_ x
  | 2 => x = 0 ∨ x = 1
  | _ => -128 ≤ x ∧ x ≤ 127
def jso (ft : Nat → List (Nat × Nat)) (ks : List (Nat × Nat)) (c : Nat) (i : Int) : Nat := match ks[c]? with
  | none => 0
  | some k => match k.1 with
    | 0 => 0
    | 1 => 1
    | 2 => 2
    | 3 => 3
    | 4 => 0
    | 5 => 0
    | _ => match (ft k.2)[i.toNat]? with
      | none => 0
      | some d => match d.1 with
        | 0 => 0
        | 1 => 1
        | 2 => 2
        | _ => 0
def jRg (ft : Nat → List (Nat × Nat)) (ks : List (Nat × Nat)) (M : MM) : Prop := ∀ c i, jrg (jso ft ks c i) (M c i)
section JA
variable {cy : Nat → ClassId} {ad : Nat → Nat} {ft : Nat → List (Nat × Nat)} {ks : List (Nat × Nat)} {M : MM}
theorem jcs_at {c : Nat} {k : Nat × Nat} (h : ks[c]? = some k) : (jcs cy ad ft ks M)[c]? = some (ad c, jce cy ad ft k c (M c)) := by
  unfold jcs
  rw [List.getElem?_mapIdx, h]
  rfl
theorem jcs_set {c : Nat} {k : Nat × Nat} (h : ks[c]? = some k) (r : Int → Int) : (jcs cy ad ft ks M).set c (ad c, jce cy ad ft k c r) = jcs cy ad ft ks (fun c' => if c' = c then r else M c') := by
  apply List.ext_getElem?
  intro j
  have hlen : c < ks.length := (List.getElem?_eq_some_iff.mp h).1
  unfold jcs
  rw [List.getElem?_set, List.getElem?_mapIdx, List.getElem?_mapIdx, List.length_mapIdx]
  by_cases e : c = j
  · subst e
    rw [if_pos rfl, if_pos hlen, h]
    simp
  · rw [if_neg e]
    cases hj : ks[j]? with
    | none => rfl
    | some q =>
      simp only [Option.map_some]
      rw [if_neg (fun z => e z.symm)]
theorem ux_row {c : Nat} {i v : Int} : ux_ M c i v = fun c' => if c' = c then (fun i' => if i' = i then v else M c i') else M c' := by
  funext c' i'
  unfold ux_
  by_cases e : c' = c
  · subst e
    rw [if_pos rfl]
    by_cases e2 : i' = i
    · simp [e2]
    · simp [e2]
  · simp [e]
theorem jRg_up {c : Nat} {i v : Int} (h : jRg ft ks M) (hv : jrg (jso ft ks c i) v) : jRg ft ks (ux_ M c i v) := by
  intro c' i'
  unfold ux_
  by_cases e : c' = c ∧ i' = i
  · rw [if_pos e, e.1, e.2]
    exact hv
  · rw [if_neg e]
    exact h c' i'
theorem jso_a {c n so : Nat} {i : Int} (h : ks[c]? = some (so, n)) (hs : so < 4) : jso ft ks c i = so := by
  unfold jso
  rw [h]
  rcases so with _ | _ | _ | _ | so
  · rfl
  · rfl
  · rfl
  · rfl
  · omega
theorem jso_q {c n so : Nat} {i : Int} (h : ks[c]? = some (so, n)) (hs : so = 4 ∨ so = 5) : jso ft ks c i = 0 := by
  unfold jso
  rw [h]
  rcases hs with rfl | rfl
  · rfl
  · rfl
theorem jso_f {c ci f so e : Nat} (h : ks[c]? = some (6, ci)) (hf : (ft ci)[f]? = some (so, e)) (hs : so < 3) : jso ft ks c (f : Int) = so := by
  unfold jso
  rw [h]
  show (match (ft ci)[(f : Int).toNat]? with | none => 0 | some d => match d.1 with | 0 => 0 | 1 => 1 | 2 => 2 | _ => 0) = so
  rw [show (f : Int).toNat = f from by omega, hf]
  rcases so with _ | _ | _ | so
  · rfl
  · rfl
  · rfl
  · omega
theorem jso_fq {c ci f e : Nat} (h : ks[c]? = some (6, ci)) (hf : (ft ci)[f]? = some (3, e)) : jso ft ks c (f : Int) = 0 := by
  unfold jso
  rw [h]
  show (match (ft ci)[(f : Int).toNat]? with | none => 0 | some d => match d.1 with | 0 => 0 | 1 => 1 | 2 => 2 | _ => 0) = 0
  rw [show (f : Int).toNat = f from by omega, hf]
  rfl
/-- an array's row behind a store -/
theorem jup_i {c : Nat} {i x : Int} (h : ri_ i) (h0 : 0 ≤ i) : upd (fun j => Ii (M c (j : Int))) (Ii i).toNatClampNeg (Ii x) = fun j : Nat => Ii ((fun i' => if i' = i then x else M c i') (j : Int)) := by
  funext j
  have hc := Ii_cl h h0
  unfold upd
  by_cases e : j = (Ii i).toNatClampNeg
  · rw [if_pos e]
    show _ = Ii (if (j : Int) = i then x else M c j)
    rw [if_pos (by omega)]
  · rw [if_neg e]
    show _ = Ii (if (j : Int) = i then x else M c j)
    rw [if_neg (by omega)]
theorem jup_l {c : Nat} {i x : Int} (h : ri_ i) (h0 : 0 ≤ i) : vp_updL (fun j => Ll (M c (j : Int))) (Ii i).toNatClampNeg (Ll x) = fun j : Nat => Ll ((fun i' => if i' = i then x else M c i') (j : Int)) := by
  funext j
  have hc := Ii_cl h h0
  unfold vp_updL
  by_cases e : j = (Ii i).toNatClampNeg
  · rw [if_pos e]
    show _ = Ll (if (j : Int) = i then x else M c j)
    rw [if_pos (by omega)]
  · rw [if_neg e]
    show _ = Ll (if (j : Int) = i then x else M c j)
    rw [if_neg (by omega)]
theorem jup_q {c : Nat} {i : Int} {v : Nat} (h : ri_ i) (h0 : 0 ≤ i) : va_up (fun j => jrv ad (M c (j : Int))) (Ii i).toNatClampNeg (some (ad v)) = fun j : Nat => jrv ad ((fun i' => if i' = i then (v : Int) else M c i') (j : Int)) := by
  funext j
  have hc := Ii_cl h h0
  unfold va_up
  by_cases e : j = (Ii i).toNatClampNeg
  · rw [if_pos e]
    show _ = jrv ad (if (j : Int) = i then (v : Int) else M c j)
    rw [if_pos (by omega)]
    unfold jrv
    rw [if_neg (by omega)]
    rfl
  · rw [if_neg e]
    show _ = jrv ad (if (j : Int) = i then (v : Int) else M c j)
    rw [if_neg (by omega)]
theorem jfs_set {c ci f : Nat} {d : Nat × Nat} {v : Int} {w : Value} (hf : (ft ci)[f]? = some d) (hw : jfv ad c (fun i' => if i' = (f : Int) then v else M c i') f d = w) : ((ft ci).mapIdx (jfv ad c (M c))).set f w = (ft ci).mapIdx (jfv ad c (fun i' => if i' = (f : Int) then v else M c i')) := by
  apply List.ext_getElem?
  intro j
  have hlen : f < (ft ci).length := (List.getElem?_eq_some_iff.mp hf).1
  rw [List.getElem?_set, List.getElem?_mapIdx, List.getElem?_mapIdx, List.length_mapIdx]
  by_cases e : f = j
  · subst e
    rw [if_pos rfl, if_pos hlen, hf]
    simp [hw]
  · rw [if_neg e]
    cases hj : (ft ci)[j]? with
    | none => rfl
    | some q =>
      simp only [Option.map_some]
      congr 1
      unfold jfv
      have e2 : ¬ (j : Int) = (f : Int) := by omega
      simp [e2]
end JA
theorem jcp_eq {M : MM} {a b : Nat} {sp dp n : Int} : jcp M a b sp dp n = fun c' => if c' = b then (fun i' => if dp ≤ i' ∧ i' < dp + n then M a (sp + (i' - dp)) else M b i') else M c' := by
  funext c i
  unfold jcp
  by_cases e : c = b
  · subst e
    simp
  · simp [e]
theorem jcp_row {M : MM} {a b : Nat} {sp dp n : Int} (gs : ri_ sp) (gd : ri_ dp) (gn : ri_ n) (h1 : 0 ≤ sp) (h2 : 0 ≤ dp) (h3 : 0 ≤ n) : va_cpy (fun j => Ii (M a (j : Int))) (fun j => Ii (M b (j : Int))) (Ii sp).toNatClampNeg (Ii dp).toNatClampNeg (Ii n).toNatClampNeg = fun j : Nat => Ii ((fun i' => if dp ≤ i' ∧ i' < dp + n then M a (sp + (i' - dp)) else M b i') (j : Int)) := by
  have e1 := Ii_cl gs h1; have e2 := Ii_cl gd h2; have e3 := Ii_cl gn h3
  funext j
  unfold va_cpy
  by_cases z : (Ii dp).toNatClampNeg ≤ j ∧ j < (Ii dp).toNatClampNeg + (Ii n).toNatClampNeg
  · rw [if_pos z]
    show Ii (M a (((Ii sp).toNatClampNeg + (j - (Ii dp).toNatClampNeg) : Nat) : Int)) = Ii (if dp ≤ (j : Int) ∧ (j : Int) < dp + n then M a (sp + ((j : Int) - dp)) else M b j)
    rw [if_pos (by omega), show (((Ii sp).toNatClampNeg + (j - (Ii dp).toNatClampNeg) : Nat) : Int) = sp + ((j : Int) - dp) from by omega]
  · rw [if_neg z]
    show _ = Ii (if dp ≤ (j : Int) ∧ (j : Int) < dp + n then _ else _)
    rw [if_neg (by omega)]
theorem jcp_rowL {M : MM} {a b : Nat} {sp dp n : Int} (gs : ri_ sp) (gd : ri_ dp) (gn : ri_ n) (h1 : 0 ≤ sp) (h2 : 0 ≤ dp) (h3 : 0 ≤ n) : va_cpy (fun j => Ll (M a (j : Int))) (fun j => Ll (M b (j : Int))) (Ii sp).toNatClampNeg (Ii dp).toNatClampNeg (Ii n).toNatClampNeg = fun j : Nat => Ll ((fun i' => if dp ≤ i' ∧ i' < dp + n then M a (sp + (i' - dp)) else M b i') (j : Int)) := by
  have e1 := Ii_cl gs h1; have e2 := Ii_cl gd h2; have e3 := Ii_cl gn h3
  funext j
  unfold va_cpy
  by_cases z : (Ii dp).toNatClampNeg ≤ j ∧ j < (Ii dp).toNatClampNeg + (Ii n).toNatClampNeg
  · rw [if_pos z]
    show Ll (M a (((Ii sp).toNatClampNeg + (j - (Ii dp).toNatClampNeg) : Nat) : Int)) = Ll (if dp ≤ (j : Int) ∧ (j : Int) < dp + n then M a (sp + ((j : Int) - dp)) else M b j)
    rw [if_pos (by omega), show (((Ii sp).toNatClampNeg + (j - (Ii dp).toNatClampNeg) : Nat) : Int) = sp + ((j : Int) - dp) from by omega]
  · rw [if_neg z]
    show _ = Ll (if dp ≤ (j : Int) ∧ (j : Int) < dp + n then _ else _)
    rw [if_neg (by omega)]
theorem jRg_cp {ft : Nat → List (Nat × Nat)} {ks : List (Nat × Nat)} {M : MM} {a b na nb so : Nat} {sp dp n : Int} (h : jRg ft ks M) (ha : ks[a]? = some (so, na)) (hb : ks[b]? = some (so, nb)) (hs : so < 4) : jRg ft ks (jcp M a b sp dp n) := by
  intro c i
  unfold jcp
  by_cases e : c = b ∧ dp ≤ i ∧ i < dp + n
  · rw [if_pos e, e.1, jso_a hb hs]
    have g := h a (sp + (i - dp))
    rw [jso_a ha hs] at g
    exact g
  · rw [if_neg e]
    exact h c i
/-- the cells' addresses, and what is made later -/
def jA (ad : Nat → Nat) (n sz : Nat) : Nat → Prop := fun q => (∃ k, k < n ∧ q = ad k) ∨ sz ≤ q
def jIn (ad : Nat → Nat) (n : Nat) : Prop := ∀ i j, i < n → j < n → ad i = ad j → i = j
theorem jcs_D {cy : Nat → ClassId} {ad : Nat → Nat} {ft : Nat → List (Nat × Nat)} {ks : List (Nat × Nat)} {sz : Nat} (h : jIn ad ks.length) (M : MM) : va_D (jA ad ks.length sz) (jcs cy ad ft ks M) := by
  have g : ∀ (k : Nat) (q : Nat × va_E), (jcs cy ad ft ks M)[k]? = some q → k < ks.length ∧ q.1 = ad k := by
    intro k q hq
    unfold jcs at hq
    rw [List.getElem?_mapIdx] at hq
    cases hk : ks[k]? with
    | none => rw [hk] at hq; cases hq
    | some z =>
      rw [hk] at hq
      simp only [Option.map_some, Option.some.injEq] at hq
      exact ⟨(List.getElem?_eq_some_iff.mp hk).1, by rw [← hq]⟩
  refine ⟨fun i j p q hp hq e => ?_, fun k q hq => ?_⟩
  · obtain ⟨h1, e1⟩ := g i p hp
    obtain ⟨h2, e2⟩ := g j q hq
    exact h i j h1 h2 (by rw [← e1, ← e2]; exact e)
  · obtain ⟨h1, e1⟩ := g k q hq
    exact Or.inl ⟨k, h1, e1⟩
def jTy (tys : List (ClassId × FieldType)) (cy : Nat → ClassId) : Prop := tys[0]? = some (cy 0, .byte) ∧ tys[1]? = some (cy 1, .int) ∧ tys[2]? = some (cy 2, .long) ∧ tys[3]? = some (cy 3, .boolean)
def jWo (D : va_G) (cl : List vw_C) (tys : List (ClassId × FieldType)) (cy : Nat → ClassId) (ad : Nat → Nat) (ft : Nat → List (Nat × Nat)) (ks : List (Nat × Nat)) (M : MM) (t : State) : Prop := va_P D cl (jcs cy ad ft ks M) t.heap ∧ va_K D cl tys t
/-- what a method answers: 0 nothing, 1 an int, 2 a long, 3 a boolean -/
def jrt (rk : Nat) : Option FieldType := match rk with
  | 0 => none
  | 1 => some .int
  | 2 => some .long
  | 3 => some .boolean
  | _ => some .byte
def jQ (D : va_G) (cl : List vw_C) (tys : List (ClassId × FieldType)) (cy : Nat → ClassId) (ad : Nat → Nat) (ft : Nat → List (Nat × Nat)) (ks : List (Nat × Nat)) (rk : Nat) (post : Int → MM → Prop) (A : Nat → Prop) : Array Value → State → Outcome → State → Prop := match rk with
  | 0 => va_Qv (fun (u : MM) => jRg ft ks u ∧ post 0 u) (fun u t => jWo D cl tys cy ad ft ks u t) A
  | 1 => va_Qi (fun r (u : Int × MM) => (r = Ii u.1 ∧ ri_ u.1) ∧ jRg ft ks u.2 ∧ post u.1 u.2) (fun u t => jWo D cl tys cy ad ft ks u.2 t) A
  | 2 => va_Ql (fun r (u : Int × MM) => (r = Ll u.1 ∧ rl_ u.1) ∧ jRg ft ks u.2 ∧ post u.1 u.2) (fun u t => jWo D cl tys cy ad ft ks u.2 t) A
  | 3 => va_Qi (fun r (u : Int × MM) => (r = Ii u.1 ∧ (u.1 = 0 ∨ u.1 = 1)) ∧ jRg ft ks u.2 ∧ post u.1 u.2) (fun u t => jWo D cl tys cy ad ft ks u.2 t) A
  | _ => va_Qi (fun r (u : Int × MM) => (r = Ii u.1 ∧ (-128 ≤ u.1 ∧ u.1 ≤ 127)) ∧ jRg ft ks u.2 ∧ post u.1 u.2) (fun u t => jWo D cl tys cy ad ft ks u.2 t) A
/-- a method's contract: whatever its predicate Wp says before, holds behind -/
def jCN (l : Launch) (D : va_G) (cl : List vw_C) (tys : List (ClassId × FieldType)) (cy : Nat → ClassId) (ad : Nat → Nat) (ft : Nat → List (Nat × Nat)) (ks : List (Nat × Nat)) (Xt : (Nat → Prop) → State → Prop) (y : MethodName) (ws : List Cond) (rm : Room) (rk : Nat) (Wp : (Int → MM → Prop) → List Value → MM → Prop) : Prop :=
  ∀ (post : Int → MM → Prop) (av : List Value) (M : MM) (sz : Nat), jRg ft ks M → Wp post av M →
    Met l y ws rm (va_Pc av (fun U => U.heap.size = sz ∧ Xt (jA ad ks.length sz) U ∧ jWo D cl tys cy ad ft ks M U)) (jQ D cl tys cy ad ft ks rk post (jA ad ks.length sz)) 0 0 (jA ad ks.length sz)
/-- what else is known of the start, and stays -/
def jX (Xt : (Nat → Prop) → State → Prop) : Prop := (∀ (A B : Nat → Prop) (s U : State) (H : Heap) (locs : List Loc), Xt A s → va_S A s.heap H locs → (∀ q, B q → A q) → U.heap = H → s.WarmedH U.vm → Xt B U) ∧ ∀ (A : Nat → Prop) (U : State) (g : JFrame) (mk : MethodId) (a : Array Value), Xt A U → Xt A (U.calling g mk a)
/-- J judges the places of one method's body, under all that is fixed there -/
def jOk (l : Launch) (D : va_G) (cl : List vw_C) (tys : List (ClassId × FieldType)) (cy : Nat → ClassId) (ad : Nat → Nat) (ft : Nat → List (Nat × Nat)) (ks : List (Nat × Nat)) (Xt : (Nat → Prop) → State → Prop) (Om : List Cond) (own : String) (cc : ByteArray) (nL rk : Nat) (rm : Room) (post : Int → MM → Prop) (J : Nat → List (Nat × Value) → List Value → MM → Prop) : Prop :=
  ∃ (p : Program) (e : Env) (s : State) (m : MethodId) (args : Array Value) (below : List Frame) (meth : Method) (c : Code) (ts : List Cond) (c0 s0 : Nat) (Qs : State → Prop),
    p.tables.exec = Jvm.exec ∧ c.code = cc ∧ c.maxLocals = nL ∧ s.vm.findClass own = some m.cls ∧ (∀ w ∈ Om, w.before args s = true) ∧ va_K D cl tys s ∧ jTy tys cy ∧ jIn ad ks.length ∧ GoodIn Om Om ∧ c0 ≤ rm.cells ∧ s0 ≤ rm.slots ∧ jX Xt ∧ Xt (jA ad ks.length s.heap.size) s ∧
    (J = fun pc lv st M => jRg ft ks M → ∀ (H : Heap) (locs : List Loc) (ls : Array Slot), va_P D cl (jcs cy ad ft ks M) H → va_S (jA ad ks.length s.heap.size) s.heap H locs → lv_has ls nL lv →
      W p l e (headSpec ts rm).room s m args below meth c H locs c0 s0 Qs (F0 m pc ls st)) ∧
    (rk = 0 → ∀ pc lv M, decode cc pc = .ok (.return_, 1) → post 0 M → J pc lv [] M) ∧
    (rk = 1 → ∀ pc lv M x, ri_ x → decode cc pc = .ok (.ireturn, 1) → post x M → J pc lv [.int (Ii x)] M) ∧
    (rk = 2 → ∀ pc lv M x, rl_ x → decode cc pc = .ok (.lreturn, 1) → post x M → J pc lv [.long (Ll x)] M) ∧
    (rk = 3 → ∀ pc lv M x, (x = 0 ∨ x = 1) → decode cc pc = .ok (.ireturn, 1) → post x M → J pc lv [.int (Ii x)] M) ∧
    (rk = 4 → ∀ pc lv M x, (-128 ≤ x ∧ x ≤ 127) → decode cc pc = .ok (.ireturn, 1) → post x M → J pc lv [.int (Ii x)] M)

section JB
variable {l : Launch} {D : va_G} {cl : List vw_C} {tys : List (ClassId × FieldType)} {cy : Nat → ClassId} {ad : Nat → Nat} {ft : Nat → List (Nat × Nat)} {ks : List (Nat × Nat)} {Xt : (Nat → Prop) → State → Prop} {Om : List Cond} {own : String} {cc : ByteArray} {nL rk : Nat} {rm : Room} {post : Int → MM → Prop} {J : Nat → List (Nat × Value) → List Value → MM → Prop}
variable {pc : Nat} {lv : List (Nat × Value)} {st : List Value} {M : MM}
theorem j_iload_n (h : jOk l D cl tys cy ad ft ks Xt Om own cc nL rk rm post J) {i : Nat} {q : Fin 4} {x : Int32} (hd : decode cc pc = .ok (.iload_n q, 1)) (hi : (q : Nat) = i) (k : Nat) (hk : lv[k]? = some (i, .int x)) (n : J (pc + 1) lv (.int x :: st) M) : J pc lv st M := by
  obtain ⟨p, e, s, m, args, below, meth, c, ts, c0_, s0_, Qs, hx, hb, hml, hown, hts, hK, hty, hin, hgo, hrc, hrs, hXc, hXt, rfl, hr0, hr1, hr2, hr3, hr4⟩ := h
  intro hR H locs ls hP hS hl
  exact lv_iload_n hx hb hd hi (lv_at hl k hk) (n hR H locs ls hP hS hl)
theorem j_iload (h : jOk l D cl tys cy ad ft ks Xt Om own cc nL rk rm post J) {i : Nat} {x : Int32} (hd : decode cc pc = .ok (.iload i, 2)) (k : Nat) (hk : lv[k]? = some (i, .int x)) (n : J (pc + 2) lv (.int x :: st) M) : J pc lv st M := by
  obtain ⟨p, e, s, m, args, below, meth, c, ts, c0_, s0_, Qs, hx, hb, hml, hown, hts, hK, hty, hin, hgo, hrc, hrs, hXc, hXt, rfl, hr0, hr1, hr2, hr3, hr4⟩ := h
  intro hR H locs ls hP hS hl
  exact lv_iload hx hb hd (lv_at hl k hk) (n hR H locs ls hP hS hl)
theorem j_istore_n (h : jOk l D cl tys cy ad ft ks Xt Om own cc nL rk rm post J) {i : Nat} {q : Fin 4} {x : Int32} {lv' : List (Nat × Value)} (hd : decode cc pc = .ok (.istore_n q, 1)) (hi : (q : Nat) = i) (hn : i < nL) (hl' : (i, Value.int x) :: lv.filter (fun q => !(q.1 == i) && !(q.1 + 1 == i && q.2.category == 2)) = lv') (n : J (pc + 1) lv' st M) : J pc lv (.int x :: st) M := by
  obtain ⟨p, e, s, m, args, below, meth, c, ts, c0_, s0_, Qs, hx, hb, hml, hown, hts, hK, hty, hin, hgo, hrc, hrs, hXc, hXt, rfl, hr0, hr1, hr2, hr3, hr4⟩ := h
  intro hR H locs ls hP hS hl
  exact lv_istore_n hx hb hd hi hl hn hl' (fun ls hl => n hR H locs ls hP hS hl)
theorem j_istore (h : jOk l D cl tys cy ad ft ks Xt Om own cc nL rk rm post J) {i : Nat} {x : Int32} {lv' : List (Nat × Value)} (hd : decode cc pc = .ok (.istore i, 2)) (hn : i < nL) (hl' : (i, Value.int x) :: lv.filter (fun q => !(q.1 == i) && !(q.1 + 1 == i && q.2.category == 2)) = lv') (n : J (pc + 2) lv' st M) : J pc lv (.int x :: st) M := by
  obtain ⟨p, e, s, m, args, below, meth, c, ts, c0_, s0_, Qs, hx, hb, hml, hown, hts, hK, hty, hin, hgo, hrc, hrs, hXc, hXt, rfl, hr0, hr1, hr2, hr3, hr4⟩ := h
  intro hR H locs ls hP hS hl
  exact lv_istore hx hb hd hl hn hl' (fun ls hl => n hR H locs ls hP hS hl)
theorem j_lload_n (h : jOk l D cl tys cy ad ft ks Xt Om own cc nL rk rm post J) {i : Nat} {q : Fin 4} {x : Int64} (hd : decode cc pc = .ok (.lload_n q, 1)) (hi : (q : Nat) = i) (k : Nat) (hk : lv[k]? = some (i, .long x)) (n : J (pc + 1) lv (.long x :: st) M) : J pc lv st M := by
  obtain ⟨p, e, s, m, args, below, meth, c, ts, c0_, s0_, Qs, hx, hb, hml, hown, hts, hK, hty, hin, hgo, hrc, hrs, hXc, hXt, rfl, hr0, hr1, hr2, hr3, hr4⟩ := h
  intro hR H locs ls hP hS hl
  exact lv_lload_n hx hb hd hi (lv_at hl k hk) (n hR H locs ls hP hS hl)
theorem j_lload (h : jOk l D cl tys cy ad ft ks Xt Om own cc nL rk rm post J) {i : Nat} {x : Int64} (hd : decode cc pc = .ok (.lload i, 2)) (k : Nat) (hk : lv[k]? = some (i, .long x)) (n : J (pc + 2) lv (.long x :: st) M) : J pc lv st M := by
  obtain ⟨p, e, s, m, args, below, meth, c, ts, c0_, s0_, Qs, hx, hb, hml, hown, hts, hK, hty, hin, hgo, hrc, hrs, hXc, hXt, rfl, hr0, hr1, hr2, hr3, hr4⟩ := h
  intro hR H locs ls hP hS hl
  exact lv_lload hx hb hd (lv_at hl k hk) (n hR H locs ls hP hS hl)
theorem j_lstore_n (h : jOk l D cl tys cy ad ft ks Xt Om own cc nL rk rm post J) {i : Nat} {q : Fin 4} {x : Int64} {lv' : List (Nat × Value)} (hd : decode cc pc = .ok (.lstore_n q, 1)) (hi : (q : Nat) = i) (hn : i + 1 < nL) (hl' : (i, Value.long x) :: lv.filter (fun q => !(q.1 == i) && (!(q.1 == i + 1) && !(q.1 + 1 == i && q.2.category == 2))) = lv') (n : J (pc + 1) lv' st M) : J pc lv (.long x :: st) M := by
  obtain ⟨p, e, s, m, args, below, meth, c, ts, c0_, s0_, Qs, hx, hb, hml, hown, hts, hK, hty, hin, hgo, hrc, hrs, hXc, hXt, rfl, hr0, hr1, hr2, hr3, hr4⟩ := h
  intro hR H locs ls hP hS hl
  exact lv_lstore_n hx hb hd hi hl hn hl' (fun ls hl => n hR H locs ls hP hS hl)
theorem j_lstore (h : jOk l D cl tys cy ad ft ks Xt Om own cc nL rk rm post J) {i : Nat} {x : Int64} {lv' : List (Nat × Value)} (hd : decode cc pc = .ok (.lstore i, 2)) (hn : i + 1 < nL) (hl' : (i, Value.long x) :: lv.filter (fun q => !(q.1 == i) && (!(q.1 == i + 1) && !(q.1 + 1 == i && q.2.category == 2))) = lv') (n : J (pc + 2) lv' st M) : J pc lv (.long x :: st) M := by
  obtain ⟨p, e, s, m, args, below, meth, c, ts, c0_, s0_, Qs, hx, hb, hml, hown, hts, hK, hty, hin, hgo, hrc, hrs, hXc, hXt, rfl, hr0, hr1, hr2, hr3, hr4⟩ := h
  intro hR H locs ls hP hS hl
  exact lv_lstore hx hb hd hl hn hl' (fun ls hl => n hR H locs ls hP hS hl)
theorem j_aload_n (h : jOk l D cl tys cy ad ft ks Xt Om own cc nL rk rm post J) {i : Nat} {q : Fin 4} {x : Nat} (hd : decode cc pc = .ok (.aload_n q, 1)) (hi : (q : Nat) = i) (k : Nat) (hk : lv[k]? = some (i, .ref x)) (n : J (pc + 1) lv (.ref x :: st) M) : J pc lv st M := by
  obtain ⟨p, e, s, m, args, below, meth, c, ts, c0_, s0_, Qs, hx, hb, hml, hown, hts, hK, hty, hin, hgo, hrc, hrs, hXc, hXt, rfl, hr0, hr1, hr2, hr3, hr4⟩ := h
  intro hR H locs ls hP hS hl
  exact lv_aload_n hx hb hd hi (lv_at hl k hk) (n hR H locs ls hP hS hl)
theorem j_aload (h : jOk l D cl tys cy ad ft ks Xt Om own cc nL rk rm post J) {i : Nat} {x : Nat} (hd : decode cc pc = .ok (.aload i, 2)) (k : Nat) (hk : lv[k]? = some (i, .ref x)) (n : J (pc + 2) lv (.ref x :: st) M) : J pc lv st M := by
  obtain ⟨p, e, s, m, args, below, meth, c, ts, c0_, s0_, Qs, hx, hb, hml, hown, hts, hK, hty, hin, hgo, hrc, hrs, hXc, hXt, rfl, hr0, hr1, hr2, hr3, hr4⟩ := h
  intro hR H locs ls hP hS hl
  exact lv_aload hx hb hd (lv_at hl k hk) (n hR H locs ls hP hS hl)
theorem j_astore_n (h : jOk l D cl tys cy ad ft ks Xt Om own cc nL rk rm post J) {i : Nat} {q : Fin 4} {x : Nat} {lv' : List (Nat × Value)} (hd : decode cc pc = .ok (.astore_n q, 1)) (hi : (q : Nat) = i) (hn : i < nL) (hl' : (i, Value.ref x) :: lv.filter (fun q => !(q.1 == i) && !(q.1 + 1 == i && q.2.category == 2)) = lv') (n : J (pc + 1) lv' st M) : J pc lv (.ref x :: st) M := by
  obtain ⟨p, e, s, m, args, below, meth, c, ts, c0_, s0_, Qs, hx, hb, hml, hown, hts, hK, hty, hin, hgo, hrc, hrs, hXc, hXt, rfl, hr0, hr1, hr2, hr3, hr4⟩ := h
  intro hR H locs ls hP hS hl
  exact lv_astore_n hx hb hd hi hl hn hl' (fun ls hl => n hR H locs ls hP hS hl)
theorem j_astore (h : jOk l D cl tys cy ad ft ks Xt Om own cc nL rk rm post J) {i : Nat} {x : Nat} {lv' : List (Nat × Value)} (hd : decode cc pc = .ok (.astore i, 2)) (hn : i < nL) (hl' : (i, Value.ref x) :: lv.filter (fun q => !(q.1 == i) && !(q.1 + 1 == i && q.2.category == 2)) = lv') (n : J (pc + 2) lv' st M) : J pc lv (.ref x :: st) M := by
  obtain ⟨p, e, s, m, args, below, meth, c, ts, c0_, s0_, Qs, hx, hb, hml, hown, hts, hK, hty, hin, hgo, hrc, hrs, hXc, hXt, rfl, hr0, hr1, hr2, hr3, hr4⟩ := h
  intro hR H locs ls hP hS hl
  exact lv_astore hx hb hd hl hn hl' (fun ls hl => n hR H locs ls hP hS hl)
theorem j_iconst (h : jOk l D cl tys cy ad ft ks Xt Om own cc nL rk rm post J) {n : Int} (hd : decode cc pc = .ok (.iconst n, 1)) (k : J (pc + 1) lv (.int (Ii n) :: st) M) : J pc lv st M := by
  obtain ⟨p, e, s, m, args, below, meth, c, ts, c0_, s0_, Qs, hx, hb, hml, hown, hts, hK, hty, hin, hgo, hrc, hrs, hXc, hXt, rfl, hr0, hr1, hr2, hr3, hr4⟩ := h
  intro hR H locs ls hP hS hl
  exact lv_iconst hx hb hd rfl (k hR H locs ls hP hS hl)
theorem j_bipush (h : jOk l D cl tys cy ad ft ks Xt Om own cc nL rk rm post J) {n : Int} (hd : decode cc pc = .ok (.bipush n, 2)) (hn : (Int8.ofInt n).toInt32 = Ii n) (k : J (pc + 2) lv (.int (Ii n) :: st) M) : J pc lv st M := by
  obtain ⟨p, e, s, m, args, below, meth, c, ts, c0_, s0_, Qs, hx, hb, hml, hown, hts, hK, hty, hin, hgo, hrc, hrs, hXc, hXt, rfl, hr0, hr1, hr2, hr3, hr4⟩ := h
  intro hR H locs ls hP hS hl
  exact lv_bipush hx hb hd hn (k hR H locs ls hP hS hl)
theorem j_sipush (h : jOk l D cl tys cy ad ft ks Xt Om own cc nL rk rm post J) {n : Int} (hd : decode cc pc = .ok (.sipush n, 3)) (hn : (Int16.ofInt n).toInt32 = Ii n) (k : J (pc + 3) lv (.int (Ii n) :: st) M) : J pc lv st M := by
  obtain ⟨p, e, s, m, args, below, meth, c, ts, c0_, s0_, Qs, hx, hb, hml, hown, hts, hK, hty, hin, hgo, hrc, hrs, hXc, hXt, rfl, hr0, hr1, hr2, hr3, hr4⟩ := h
  intro hR H locs ls hP hS hl
  exact lv_sipush hx hb hd hn (k hR H locs ls hP hS hl)
theorem j_lconst (h : jOk l D cl tys cy ad ft ks Xt Om own cc nL rk rm post J) {n : Fin 2} {x : Int} (hd : decode cc pc = .ok (.lconst n, 1)) (hn : Int64.ofNat (n : Nat) = Ll x) (k : J (pc + 1) lv (.long (Ll x) :: st) M) : J pc lv st M := by
  obtain ⟨p, e, s, m, args, below, meth, c, ts, c0_, s0_, Qs, hx, hb, hml, hown, hts, hK, hty, hin, hgo, hrc, hrs, hXc, hXt, rfl, hr0, hr1, hr2, hr3, hr4⟩ := h
  intro hR H locs ls hP hS hl
  exact lv_lconst hx hb hd hn (k hR H locs ls hP hS hl)
theorem j_ldc (h : jOk l D cl tys cy ad ft ks Xt Om own cc nL rk rm post J) {i : Nat} {v : Int32} (x : Int) (hw : Cond.constant own i v ∈ Om) (hv : v = Ii x) (hd : decode cc pc = .ok (.ldc i, 2)) (k : J (pc + 2) lv (.int (Ii x) :: st) M) : J pc lv st M := by
  obtain ⟨p, e, s, m, args, below, meth, c, ts, c0_, s0_, Qs, hx, hb, hml, hown, hts, hK, hty, hin, hgo, hrc, hrs, hXc, hXt, rfl, hr0, hr1, hr2, hr3, hr4⟩ := h
  intro hR H locs ls hP hS hl
  subst hv; exact lv_ldc hx hb hown (hts _ hw) hd (k hR H locs ls hP hS hl)
theorem j_ldcw (h : jOk l D cl tys cy ad ft ks Xt Om own cc nL rk rm post J) {i : Nat} {v : Int32} (x : Int) (hw : Cond.constant own i v ∈ Om) (hv : v = Ii x) (hd : decode cc pc = .ok (.ldc_w i, 3)) (k : J (pc + 3) lv (.int (Ii x) :: st) M) : J pc lv st M := by
  obtain ⟨p, e, s, m, args, below, meth, c, ts, c0_, s0_, Qs, hx, hb, hml, hown, hts, hK, hty, hin, hgo, hrc, hrs, hXc, hXt, rfl, hr0, hr1, hr2, hr3, hr4⟩ := h
  intro hR H locs ls hP hS hl
  subst hv; exact lv_ldcw hx hb hown (hts _ hw) hd (k hR H locs ls hP hS hl)
theorem j_ldc2 (h : jOk l D cl tys cy ad ft ks Xt Om own cc nL rk rm post J) {i : Nat} {v : Int64} (x : Int) (hw : Cond.constantLong own i v ∈ Om) (hv : v = Ll x) (hd : decode cc pc = .ok (.ldc2_w i, 3)) (k : J (pc + 3) lv (.long (Ll x) :: st) M) : J pc lv st M := by
  obtain ⟨p, e, s, m, args, below, meth, c, ts, c0_, s0_, Qs, hx, hb, hml, hown, hts, hK, hty, hin, hgo, hrc, hrs, hXc, hXt, rfl, hr0, hr1, hr2, hr3, hr4⟩ := h
  intro hR H locs ls hP hS hl
  subst hv; exact lv_ldc2 hx hb hown (hts _ hw) hd (k hR H locs ls hP hS hl)
theorem j_null (h : jOk l D cl tys cy ad ft ks Xt Om own cc nL rk rm post J) (hd : decode cc pc = .ok (.aconst_null, 1)) (k : J (pc + 1) lv (.null :: st) M) : J pc lv st M := by
  obtain ⟨p, e, s, m, args, below, meth, c, ts, c0_, s0_, Qs, hx, hb, hml, hown, hts, hK, hty, hin, hgo, hrc, hrs, hXc, hXt, rfl, hr0, hr1, hr2, hr3, hr4⟩ := h
  intro hR H locs ls hP hS hl
  exact lv_null hx hb hd (k hR H locs ls hP hS hl)
theorem j_dup (h : jOk l D cl tys cy ad ft ks Xt Om own cc nL rk rm post J) {v : Value} (hd : decode cc pc = .ok (.dup, 1)) (hv : v.category = 1) (k : J (pc + 1) lv (v :: v :: st) M) : J pc lv (v :: st) M := by
  obtain ⟨p, e, s, m, args, below, meth, c, ts, c0_, s0_, Qs, hx, hb, hml, hown, hts, hK, hty, hin, hgo, hrc, hrs, hXc, hXt, rfl, hr0, hr1, hr2, hr3, hr4⟩ := h
  intro hR H locs ls hP hS hl
  exact lv_dup hx hb hd hv (k hR H locs ls hP hS hl)
theorem j_pop (h : jOk l D cl tys cy ad ft ks Xt Om own cc nL rk rm post J) {v : Value} (hd : decode cc pc = .ok (.pop, 1)) (hv : v.category = 1) (k : J (pc + 1) lv st M) : J pc lv (v :: st) M := by
  obtain ⟨p, e, s, m, args, below, meth, c, ts, c0_, s0_, Qs, hx, hb, hml, hown, hts, hK, hty, hin, hgo, hrc, hrs, hXc, hXt, rfl, hr0, hr1, hr2, hr3, hr4⟩ := h
  intro hR H locs ls hP hS hl
  exact lv_pop hx hb hd hv (k hR H locs ls hP hS hl)
theorem j_dup_x1 (h : jOk l D cl tys cy ad ft ks Xt Om own cc nL rk rm post J) {v u : Value} (hd : decode cc pc = .ok (.dup_x1, 1)) (hv : v.category = 1) (hu : u.category = 1) (k : J (pc + 1) lv (v :: u :: v :: st) M) : J pc lv (v :: u :: st) M := by
  obtain ⟨p, e, s, m, args, below, meth, c, ts, c0_, s0_, Qs, hx, hb, hml, hown, hts, hK, hty, hin, hgo, hrc, hrs, hXc, hXt, rfl, hr0, hr1, hr2, hr3, hr4⟩ := h
  intro hR H locs ls hP hS hl
  exact lv_dup_x1 hx hb hd hv hu (k hR H locs ls hP hS hl)
theorem j_dup2_11 (h : jOk l D cl tys cy ad ft ks Xt Om own cc nL rk rm post J) {v u : Value} (hd : decode cc pc = .ok (.dup2, 1)) (hv : v.category = 1) (hu : u.category = 1) (k : J (pc + 1) lv (v :: u :: v :: u :: st) M) : J pc lv (v :: u :: st) M := by
  obtain ⟨p, e, s, m, args, below, meth, c, ts, c0_, s0_, Qs, hx, hb, hml, hown, hts, hK, hty, hin, hgo, hrc, hrs, hXc, hXt, rfl, hr0, hr1, hr2, hr3, hr4⟩ := h
  intro hR H locs ls hP hS hl
  exact lv_dup2_11 hx hb hd hv hu (k hR H locs ls hP hS hl)
theorem j_dup2_2 (h : jOk l D cl tys cy ad ft ks Xt Om own cc nL rk rm post J) {v : Value} (hd : decode cc pc = .ok (.dup2, 1)) (hv : v.category = 2) (k : J (pc + 1) lv (v :: v :: st) M) : J pc lv (v :: st) M := by
  obtain ⟨p, e, s, m, args, below, meth, c, ts, c0_, s0_, Qs, hx, hb, hml, hown, hts, hK, hty, hin, hgo, hrc, hrs, hXc, hXt, rfl, hr0, hr1, hr2, hr3, hr4⟩ := h
  intro hR H locs ls hP hS hl
  exact lv_dup2_2 hx hb hd hv (k hR H locs ls hP hS hl)
theorem j_iinc (h : jOk l D cl tys cy ad ft ks Xt Om own cc nL rk rm post J) {i k : Nat} {n x : Int} {lv' : List (Nat × Value)} (hd : decode cc pc = .ok (.iinc i n, 3)) (hk : lv[k]? = some (i, .int (Ii x))) (hn : i < nL) (hl' : (i, Value.int (Ii (x + n))) :: lv.filter (fun q => !(q.1 == i) && !(q.1 + 1 == i && q.2.category == 2)) = lv') (k : J (pc + 3) lv' st M) : J pc lv st M := by
  obtain ⟨p, e, s, m, args, below, meth, c, ts, c0_, s0_, Qs, hx, hb, hml, hown, hts, hK, hty, hin, hgo, hrc, hrs, hXc, hXt, rfl, hr0, hr1, hr2, hr3, hr4⟩ := h
  intro hR H locs ls hP hS hl
  exact lv_iinc hx hb hd hl hk (Ii_add x n) hn hl' (fun ls hl => k hR H locs ls hP hS hl)
theorem j_iadd (h : jOk l D cl tys cy ad ft ks Xt Om own cc nL rk rm post J) {x y : Int} (hd : decode cc pc = .ok (.iadd, 1)) (k : J (pc + 1) lv (.int (Ii (x + y)) :: st) M) : J pc lv (.int (Ii y) :: .int (Ii x) :: st) M := by
  obtain ⟨p, e, s, m, args, below, meth, c, ts, c0_, s0_, Qs, hx, hb, hml, hown, hts, hK, hty, hin, hgo, hrc, hrs, hXc, hXt, rfl, hr0, hr1, hr2, hr3, hr4⟩ := h
  intro hR H locs ls hP hS hl
  refine lv_iadd hx hb hd ?_; rw [Ii_add]; exact k hR H locs ls hP hS hl
theorem j_iaddw (h : jOk l D cl tys cy ad ft ks Xt Om own cc nL rk rm post J) {x y : Int} (hd : decode cc pc = .ok (.iadd, 1)) (k : J (pc + 1) lv (.int (Ii (w32 (x + y))) :: st) M) : J pc lv (.int (Ii y) :: .int (Ii x) :: st) M := by
  obtain ⟨p, e, s, m, args, below, meth, c, ts, c0_, s0_, Qs, hx, hb, hml, hown, hts, hK, hty, hin, hgo, hrc, hrs, hXc, hXt, rfl, hr0, hr1, hr2, hr3, hr4⟩ := h
  intro hR H locs ls hP hS hl
  refine lv_iadd hx hb hd ?_; rw [Ii_add, ← Ii_w]; exact k hR H locs ls hP hS hl
theorem j_ladd (h : jOk l D cl tys cy ad ft ks Xt Om own cc nL rk rm post J) {x y : Int} (hd : decode cc pc = .ok (.ladd, 1)) (k : J (pc + 1) lv (.long (Ll (x + y)) :: st) M) : J pc lv (.long (Ll y) :: .long (Ll x) :: st) M := by
  obtain ⟨p, e, s, m, args, below, meth, c, ts, c0_, s0_, Qs, hx, hb, hml, hown, hts, hK, hty, hin, hgo, hrc, hrs, hXc, hXt, rfl, hr0, hr1, hr2, hr3, hr4⟩ := h
  intro hR H locs ls hP hS hl
  refine lv_ladd hx hb hd ?_; rw [Ll_add]; exact k hR H locs ls hP hS hl
theorem j_laddw (h : jOk l D cl tys cy ad ft ks Xt Om own cc nL rk rm post J) {x y : Int} (hd : decode cc pc = .ok (.ladd, 1)) (k : J (pc + 1) lv (.long (Ll (w64 (x + y))) :: st) M) : J pc lv (.long (Ll y) :: .long (Ll x) :: st) M := by
  obtain ⟨p, e, s, m, args, below, meth, c, ts, c0_, s0_, Qs, hx, hb, hml, hown, hts, hK, hty, hin, hgo, hrc, hrs, hXc, hXt, rfl, hr0, hr1, hr2, hr3, hr4⟩ := h
  intro hR H locs ls hP hS hl
  refine lv_ladd hx hb hd ?_; rw [Ll_add, ← Ll_w]; exact k hR H locs ls hP hS hl
theorem j_isub (h : jOk l D cl tys cy ad ft ks Xt Om own cc nL rk rm post J) {x y : Int} (hd : decode cc pc = .ok (.isub, 1)) (k : J (pc + 1) lv (.int (Ii (x - y)) :: st) M) : J pc lv (.int (Ii y) :: .int (Ii x) :: st) M := by
  obtain ⟨p, e, s, m, args, below, meth, c, ts, c0_, s0_, Qs, hx, hb, hml, hown, hts, hK, hty, hin, hgo, hrc, hrs, hXc, hXt, rfl, hr0, hr1, hr2, hr3, hr4⟩ := h
  intro hR H locs ls hP hS hl
  refine lv_isub hx hb hd ?_; rw [Ii_sub]; exact k hR H locs ls hP hS hl
theorem j_isubw (h : jOk l D cl tys cy ad ft ks Xt Om own cc nL rk rm post J) {x y : Int} (hd : decode cc pc = .ok (.isub, 1)) (k : J (pc + 1) lv (.int (Ii (w32 (x - y))) :: st) M) : J pc lv (.int (Ii y) :: .int (Ii x) :: st) M := by
  obtain ⟨p, e, s, m, args, below, meth, c, ts, c0_, s0_, Qs, hx, hb, hml, hown, hts, hK, hty, hin, hgo, hrc, hrs, hXc, hXt, rfl, hr0, hr1, hr2, hr3, hr4⟩ := h
  intro hR H locs ls hP hS hl
  refine lv_isub hx hb hd ?_; rw [Ii_sub, ← Ii_w]; exact k hR H locs ls hP hS hl
theorem j_lsub (h : jOk l D cl tys cy ad ft ks Xt Om own cc nL rk rm post J) {x y : Int} (hd : decode cc pc = .ok (.lsub, 1)) (k : J (pc + 1) lv (.long (Ll (x - y)) :: st) M) : J pc lv (.long (Ll y) :: .long (Ll x) :: st) M := by
  obtain ⟨p, e, s, m, args, below, meth, c, ts, c0_, s0_, Qs, hx, hb, hml, hown, hts, hK, hty, hin, hgo, hrc, hrs, hXc, hXt, rfl, hr0, hr1, hr2, hr3, hr4⟩ := h
  intro hR H locs ls hP hS hl
  refine lv_lsub hx hb hd ?_; rw [Ll_sub]; exact k hR H locs ls hP hS hl
theorem j_lsubw (h : jOk l D cl tys cy ad ft ks Xt Om own cc nL rk rm post J) {x y : Int} (hd : decode cc pc = .ok (.lsub, 1)) (k : J (pc + 1) lv (.long (Ll (w64 (x - y))) :: st) M) : J pc lv (.long (Ll y) :: .long (Ll x) :: st) M := by
  obtain ⟨p, e, s, m, args, below, meth, c, ts, c0_, s0_, Qs, hx, hb, hml, hown, hts, hK, hty, hin, hgo, hrc, hrs, hXc, hXt, rfl, hr0, hr1, hr2, hr3, hr4⟩ := h
  intro hR H locs ls hP hS hl
  refine lv_lsub hx hb hd ?_; rw [Ll_sub, ← Ll_w]; exact k hR H locs ls hP hS hl
theorem j_imul (h : jOk l D cl tys cy ad ft ks Xt Om own cc nL rk rm post J) {x y : Int} (hd : decode cc pc = .ok (.imul, 1)) (k : J (pc + 1) lv (.int (Ii (x * y)) :: st) M) : J pc lv (.int (Ii y) :: .int (Ii x) :: st) M := by
  obtain ⟨p, e, s, m, args, below, meth, c, ts, c0_, s0_, Qs, hx, hb, hml, hown, hts, hK, hty, hin, hgo, hrc, hrs, hXc, hXt, rfl, hr0, hr1, hr2, hr3, hr4⟩ := h
  intro hR H locs ls hP hS hl
  refine lv_imul hx hb hd ?_; rw [Ii_mul]; exact k hR H locs ls hP hS hl
theorem j_imulw (h : jOk l D cl tys cy ad ft ks Xt Om own cc nL rk rm post J) {x y : Int} (hd : decode cc pc = .ok (.imul, 1)) (k : J (pc + 1) lv (.int (Ii (w32 (x * y))) :: st) M) : J pc lv (.int (Ii y) :: .int (Ii x) :: st) M := by
  obtain ⟨p, e, s, m, args, below, meth, c, ts, c0_, s0_, Qs, hx, hb, hml, hown, hts, hK, hty, hin, hgo, hrc, hrs, hXc, hXt, rfl, hr0, hr1, hr2, hr3, hr4⟩ := h
  intro hR H locs ls hP hS hl
  refine lv_imul hx hb hd ?_; rw [Ii_mul, ← Ii_w]; exact k hR H locs ls hP hS hl
theorem j_lmul (h : jOk l D cl tys cy ad ft ks Xt Om own cc nL rk rm post J) {x y : Int} (hd : decode cc pc = .ok (.lmul, 1)) (k : J (pc + 1) lv (.long (Ll (x * y)) :: st) M) : J pc lv (.long (Ll y) :: .long (Ll x) :: st) M := by
  obtain ⟨p, e, s, m, args, below, meth, c, ts, c0_, s0_, Qs, hx, hb, hml, hown, hts, hK, hty, hin, hgo, hrc, hrs, hXc, hXt, rfl, hr0, hr1, hr2, hr3, hr4⟩ := h
  intro hR H locs ls hP hS hl
  refine lv_lmul hx hb hd ?_; rw [Ll_mul]; exact k hR H locs ls hP hS hl
theorem j_lmulw (h : jOk l D cl tys cy ad ft ks Xt Om own cc nL rk rm post J) {x y : Int} (hd : decode cc pc = .ok (.lmul, 1)) (k : J (pc + 1) lv (.long (Ll (w64 (x * y))) :: st) M) : J pc lv (.long (Ll y) :: .long (Ll x) :: st) M := by
  obtain ⟨p, e, s, m, args, below, meth, c, ts, c0_, s0_, Qs, hx, hb, hml, hown, hts, hK, hty, hin, hgo, hrc, hrs, hXc, hXt, rfl, hr0, hr1, hr2, hr3, hr4⟩ := h
  intro hR H locs ls hP hS hl
  refine lv_lmul hx hb hd ?_; rw [Ll_mul, ← Ll_w]; exact k hR H locs ls hP hS hl
theorem j_idiv (h : jOk l D cl tys cy ad ft ks Xt Om own cc nL rk rm post J) {x y : Int} (gx : ri_ x) (gy : ri_ y) (hy : ¬ y = 0) (hd : decode cc pc = .ok (.idiv, 1)) (k : J (pc + 1) lv (.int (Ii (x.tdiv y)) :: st) M) : J pc lv (.int (Ii y) :: .int (Ii x) :: st) M := by
  obtain ⟨p, e, s, m, args, below, meth, c, ts, c0_, s0_, Qs, hx, hb, hml, hown, hts, hK, hty, hin, hgo, hrc, hrs, hXc, hXt, rfl, hr0, hr1, hr2, hr3, hr4⟩ := h
  intro hR H locs ls hP hS hl
  refine lv_idiv hx hb hd (fun z => hy ((Ii_eq gy (by unfold ri_; omega)).mp (z.trans (show (0 : Int32) = Ii 0 from rfl)))) ?_; rw [Ii_div gx gy]; exact k hR H locs ls hP hS hl
theorem j_irem (h : jOk l D cl tys cy ad ft ks Xt Om own cc nL rk rm post J) {x y : Int} (gx : ri_ x) (gy : ri_ y) (hy : ¬ y = 0) (hd : decode cc pc = .ok (.irem, 1)) (k : J (pc + 1) lv (.int (Ii (x - x.tdiv y * y)) :: st) M) : J pc lv (.int (Ii y) :: .int (Ii x) :: st) M := by
  obtain ⟨p, e, s, m, args, below, meth, c, ts, c0_, s0_, Qs, hx, hb, hml, hown, hts, hK, hty, hin, hgo, hrc, hrs, hXc, hXt, rfl, hr0, hr1, hr2, hr3, hr4⟩ := h
  intro hR H locs ls hP hS hl
  refine lv_irem hx hb hd (fun z => hy ((Ii_eq gy (by unfold ri_; omega)).mp (z.trans (show (0 : Int32) = Ii 0 from rfl)))) ?_; rw [Ii_div gx gy, Ii_mul, Ii_sub]; exact k hR H locs ls hP hS hl
theorem j_ldiv (h : jOk l D cl tys cy ad ft ks Xt Om own cc nL rk rm post J) {x y : Int} (gx : rl_ x) (gy : rl_ y) (hy : ¬ y = 0) (hd : decode cc pc = .ok (.ldiv, 1)) (k : J (pc + 1) lv (.long (Ll (w64 (x.tdiv y))) :: st) M) : J pc lv (.long (Ll y) :: .long (Ll x) :: st) M := by
  obtain ⟨p, e, s, m, args, below, meth, c, ts, c0_, s0_, Qs, hx, hb, hml, hown, hts, hK, hty, hin, hgo, hrc, hrs, hXc, hXt, rfl, hr0, hr1, hr2, hr3, hr4⟩ := h
  intro hR H locs ls hP hS hl
  refine lv_ldiv hx hb hd (fun z => hy ((Ll_eq gy (by unfold rl_; omega)).mp (z.trans (show (0 : Int64) = Ll 0 from rfl)))) ?_; rw [Ll_div gx gy, ← Ll_w]; exact k hR H locs ls hP hS hl
theorem j_lrem (h : jOk l D cl tys cy ad ft ks Xt Om own cc nL rk rm post J) {x y : Int} (gx : rl_ x) (gy : rl_ y) (hy : ¬ y = 0) (hd : decode cc pc = .ok (.lrem, 1)) (k : J (pc + 1) lv (.long (Ll (w64 (x - x.tdiv y * y))) :: st) M) : J pc lv (.long (Ll y) :: .long (Ll x) :: st) M := by
  obtain ⟨p, e, s, m, args, below, meth, c, ts, c0_, s0_, Qs, hx, hb, hml, hown, hts, hK, hty, hin, hgo, hrc, hrs, hXc, hXt, rfl, hr0, hr1, hr2, hr3, hr4⟩ := h
  intro hR H locs ls hP hS hl
  refine lv_lrem hx hb hd (fun z => hy ((Ll_eq gy (by unfold rl_; omega)).mp (z.trans (show (0 : Int64) = Ll 0 from rfl)))) ?_; rw [Ll_div gx gy, Ll_mul, Ll_sub, ← Ll_w]; exact k hR H locs ls hP hS hl
theorem j_iand (h : jOk l D cl tys cy ad ft ks Xt Om own cc nL rk rm post J) {x y : Int} (hd : decode cc pc = .ok (.iand, 1)) (k : J (pc + 1) lv (.int (Ii (jand x y)) :: st) M) : J pc lv (.int (Ii y) :: .int (Ii x) :: st) M := by
  obtain ⟨p, e, s, m, args, below, meth, c, ts, c0_, s0_, Qs, hx, hb, hml, hown, hts, hK, hty, hin, hgo, hrc, hrs, hXc, hXt, rfl, hr0, hr1, hr2, hr3, hr4⟩ := h
  intro hR H locs ls hP hS hl
  refine lv_iand hx hb hd ?_; unfold jand at k; rw [Ii_of] at k; exact k hR H locs ls hP hS hl
theorem j_ior (h : jOk l D cl tys cy ad ft ks Xt Om own cc nL rk rm post J) {x y : Int} (hd : decode cc pc = .ok (.ior, 1)) (k : J (pc + 1) lv (.int (Ii (jor x y)) :: st) M) : J pc lv (.int (Ii y) :: .int (Ii x) :: st) M := by
  obtain ⟨p, e, s, m, args, below, meth, c, ts, c0_, s0_, Qs, hx, hb, hml, hown, hts, hK, hty, hin, hgo, hrc, hrs, hXc, hXt, rfl, hr0, hr1, hr2, hr3, hr4⟩ := h
  intro hR H locs ls hP hS hl
  refine lv_ior hx hb hd ?_; unfold jor at k; rw [Ii_of] at k; exact k hR H locs ls hP hS hl
theorem j_ixor (h : jOk l D cl tys cy ad ft ks Xt Om own cc nL rk rm post J) {x y : Int} (hd : decode cc pc = .ok (.ixor, 1)) (k : J (pc + 1) lv (.int (Ii (jxor x y)) :: st) M) : J pc lv (.int (Ii y) :: .int (Ii x) :: st) M := by
  obtain ⟨p, e, s, m, args, below, meth, c, ts, c0_, s0_, Qs, hx, hb, hml, hown, hts, hK, hty, hin, hgo, hrc, hrs, hXc, hXt, rfl, hr0, hr1, hr2, hr3, hr4⟩ := h
  intro hR H locs ls hP hS hl
  refine lv_ixor hx hb hd ?_; unfold jxor at k; rw [Ii_of] at k; exact k hR H locs ls hP hS hl
theorem j_ishl (h : jOk l D cl tys cy ad ft ks Xt Om own cc nL rk rm post J) {x y : Int} (hd : decode cc pc = .ok (.ishl, 1)) (k : J (pc + 1) lv (.int (Ii (jshl x y)) :: st) M) : J pc lv (.int (Ii y) :: .int (Ii x) :: st) M := by
  obtain ⟨p, e, s, m, args, below, meth, c, ts, c0_, s0_, Qs, hx, hb, hml, hown, hts, hK, hty, hin, hgo, hrc, hrs, hXc, hXt, rfl, hr0, hr1, hr2, hr3, hr4⟩ := h
  intro hR H locs ls hP hS hl
  refine lv_ishl hx hb hd ?_; unfold jshl at k; rw [Ii_of] at k; exact k hR H locs ls hP hS hl
theorem j_ishr (h : jOk l D cl tys cy ad ft ks Xt Om own cc nL rk rm post J) {x y : Int} (hd : decode cc pc = .ok (.ishr, 1)) (k : J (pc + 1) lv (.int (Ii (jshr x y)) :: st) M) : J pc lv (.int (Ii y) :: .int (Ii x) :: st) M := by
  obtain ⟨p, e, s, m, args, below, meth, c, ts, c0_, s0_, Qs, hx, hb, hml, hown, hts, hK, hty, hin, hgo, hrc, hrs, hXc, hXt, rfl, hr0, hr1, hr2, hr3, hr4⟩ := h
  intro hR H locs ls hP hS hl
  refine lv_ishr hx hb hd ?_; unfold jshr at k; rw [Ii_of] at k; exact k hR H locs ls hP hS hl
theorem j_land (h : jOk l D cl tys cy ad ft ks Xt Om own cc nL rk rm post J) {x y : Int} (hd : decode cc pc = .ok (.land, 1)) (k : J (pc + 1) lv (.long (Ll (jland x y)) :: st) M) : J pc lv (.long (Ll y) :: .long (Ll x) :: st) M := by
  obtain ⟨p, e, s, m, args, below, meth, c, ts, c0_, s0_, Qs, hx, hb, hml, hown, hts, hK, hty, hin, hgo, hrc, hrs, hXc, hXt, rfl, hr0, hr1, hr2, hr3, hr4⟩ := h
  intro hR H locs ls hP hS hl
  refine lv_land hx hb hd ?_; unfold jland at k; rw [Ll_of] at k; exact k hR H locs ls hP hS hl
theorem j_lor (h : jOk l D cl tys cy ad ft ks Xt Om own cc nL rk rm post J) {x y : Int} (hd : decode cc pc = .ok (.lor, 1)) (k : J (pc + 1) lv (.long (Ll (jlor x y)) :: st) M) : J pc lv (.long (Ll y) :: .long (Ll x) :: st) M := by
  obtain ⟨p, e, s, m, args, below, meth, c, ts, c0_, s0_, Qs, hx, hb, hml, hown, hts, hK, hty, hin, hgo, hrc, hrs, hXc, hXt, rfl, hr0, hr1, hr2, hr3, hr4⟩ := h
  intro hR H locs ls hP hS hl
  refine lv_lor hx hb hd ?_; unfold jlor at k; rw [Ll_of] at k; exact k hR H locs ls hP hS hl
theorem j_lxor (h : jOk l D cl tys cy ad ft ks Xt Om own cc nL rk rm post J) {x y : Int} (hd : decode cc pc = .ok (.lxor, 1)) (k : J (pc + 1) lv (.long (Ll (jlxor x y)) :: st) M) : J pc lv (.long (Ll y) :: .long (Ll x) :: st) M := by
  obtain ⟨p, e, s, m, args, below, meth, c, ts, c0_, s0_, Qs, hx, hb, hml, hown, hts, hK, hty, hin, hgo, hrc, hrs, hXc, hXt, rfl, hr0, hr1, hr2, hr3, hr4⟩ := h
  intro hR H locs ls hP hS hl
  refine lv_lxor hx hb hd ?_; unfold jlxor at k; rw [Ll_of] at k; exact k hR H locs ls hP hS hl
theorem j_iushr (h : jOk l D cl tys cy ad ft ks Xt Om own cc nL rk rm post J) {x y : Int} (hd : decode cc pc = .ok (.iushr, 1)) (k : J (pc + 1) lv (.int (Ii (jushr x y)) :: st) M) : J pc lv (.int (Ii y) :: .int (Ii x) :: st) M := by
  obtain ⟨p, e, s, m, args, below, meth, c, ts, c0_, s0_, Qs, hx, hb, hml, hown, hts, hK, hty, hin, hgo, hrc, hrs, hXc, hXt, rfl, hr0, hr1, hr2, hr3, hr4⟩ := h
  intro hR H locs ls hP hS hl
  refine lv_iushr hx hb hd (show _ = Ii (jushr x y) from (Ii_of _).symm) ?_; skip; exact k hR H locs ls hP hS hl
theorem j_lshl (h : jOk l D cl tys cy ad ft ks Xt Om own cc nL rk rm post J) {x y : Int} (hd : decode cc pc = .ok (.lshl, 1)) (k : J (pc + 1) lv (.long (Ll (jlshl x y)) :: st) M) : J pc lv (.int (Ii y) :: .long (Ll x) :: st) M := by
  obtain ⟨p, e, s, m, args, below, meth, c, ts, c0_, s0_, Qs, hx, hb, hml, hown, hts, hK, hty, hin, hgo, hrc, hrs, hXc, hXt, rfl, hr0, hr1, hr2, hr3, hr4⟩ := h
  intro hR H locs ls hP hS hl
  exact lv_lshl hx hb hd (show _ = Ll (jlshl x y) from (Ll_of _).symm) (k hR H locs ls hP hS hl)
theorem j_lshr (h : jOk l D cl tys cy ad ft ks Xt Om own cc nL rk rm post J) {x y : Int} (hd : decode cc pc = .ok (.lshr, 1)) (k : J (pc + 1) lv (.long (Ll (jlshr x y)) :: st) M) : J pc lv (.int (Ii y) :: .long (Ll x) :: st) M := by
  obtain ⟨p, e, s, m, args, below, meth, c, ts, c0_, s0_, Qs, hx, hb, hml, hown, hts, hK, hty, hin, hgo, hrc, hrs, hXc, hXt, rfl, hr0, hr1, hr2, hr3, hr4⟩ := h
  intro hR H locs ls hP hS hl
  exact lv_lshr hx hb hd (show _ = Ll (jlshr x y) from (Ll_of _).symm) (k hR H locs ls hP hS hl)
theorem j_lushr (h : jOk l D cl tys cy ad ft ks Xt Om own cc nL rk rm post J) {x y : Int} (hd : decode cc pc = .ok (.lushr, 1)) (k : J (pc + 1) lv (.long (Ll (jlushr x y)) :: st) M) : J pc lv (.int (Ii y) :: .long (Ll x) :: st) M := by
  obtain ⟨p, e, s, m, args, below, meth, c, ts, c0_, s0_, Qs, hx, hb, hml, hown, hts, hK, hty, hin, hgo, hrc, hrs, hXc, hXt, rfl, hr0, hr1, hr2, hr3, hr4⟩ := h
  intro hR H locs ls hP hS hl
  exact lv_lushr hx hb hd (show _ = Ll (jlushr x y) from (Ll_of _).symm) (k hR H locs ls hP hS hl)
theorem j_ineg (h : jOk l D cl tys cy ad ft ks Xt Om own cc nL rk rm post J) {x : Int} (hd : decode cc pc = .ok (.ineg, 1)) (k : J (pc + 1) lv (.int (Ii (-x)) :: st) M) : J pc lv (.int (Ii x) :: st) M := by
  obtain ⟨p, e, s, m, args, below, meth, c, ts, c0_, s0_, Qs, hx, hb, hml, hown, hts, hK, hty, hin, hgo, hrc, hrs, hXc, hXt, rfl, hr0, hr1, hr2, hr3, hr4⟩ := h
  intro hR H locs ls hP hS hl
  refine lv_ineg hx hb hd ?_; rw [Ii_neg]; exact k hR H locs ls hP hS hl
theorem j_lnegw (h : jOk l D cl tys cy ad ft ks Xt Om own cc nL rk rm post J) {x : Int} (hd : decode cc pc = .ok (.lneg, 1)) (k : J (pc + 1) lv (.long (Ll (w64 (-x))) :: st) M) : J pc lv (.long (Ll x) :: st) M := by
  obtain ⟨p, e, s, m, args, below, meth, c, ts, c0_, s0_, Qs, hx, hb, hml, hown, hts, hK, hty, hin, hgo, hrc, hrs, hXc, hXt, rfl, hr0, hr1, hr2, hr3, hr4⟩ := h
  intro hR H locs ls hP hS hl
  refine lv_lneg hx hb hd ?_; rw [Ll_neg, ← Ll_w]; exact k hR H locs ls hP hS hl
theorem j_i2l (h : jOk l D cl tys cy ad ft ks Xt Om own cc nL rk rm post J) {x : Int} (gx : ri_ x) (hd : decode cc pc = .ok (.i2l, 1)) (k : J (pc + 1) lv (.long (Ll x) :: st) M) : J pc lv (.int (Ii x) :: st) M := by
  obtain ⟨p, e, s, m, args, below, meth, c, ts, c0_, s0_, Qs, hx, hb, hml, hown, hts, hK, hty, hin, hgo, hrc, hrs, hXc, hXt, rfl, hr0, hr1, hr2, hr3, hr4⟩ := h
  intro hR H locs ls hP hS hl
  exact lv_i2l hx hb hd (Ii_toL gx) (k hR H locs ls hP hS hl)
theorem j_l2i (h : jOk l D cl tys cy ad ft ks Xt Om own cc nL rk rm post J) {x : Int} (hd : decode cc pc = .ok (.l2i, 1)) (k : J (pc + 1) lv (.int (Ii x) :: st) M) : J pc lv (.long (Ll x) :: st) M := by
  obtain ⟨p, e, s, m, args, below, meth, c, ts, c0_, s0_, Qs, hx, hb, hml, hown, hts, hK, hty, hin, hgo, hrc, hrs, hXc, hXt, rfl, hr0, hr1, hr2, hr3, hr4⟩ := h
  intro hR H locs ls hP hS hl
  exact lv_l2i hx hb hd (Ll_toI x) (k hR H locs ls hP hS hl)
theorem j_l2iw (h : jOk l D cl tys cy ad ft ks Xt Om own cc nL rk rm post J) {x : Int} (hd : decode cc pc = .ok (.l2i, 1)) (k : J (pc + 1) lv (.int (Ii (w32 x)) :: st) M) : J pc lv (.long (Ll x) :: st) M := by
  obtain ⟨p, e, s, m, args, below, meth, c, ts, c0_, s0_, Qs, hx, hb, hml, hown, hts, hK, hty, hin, hgo, hrc, hrs, hXc, hXt, rfl, hr0, hr1, hr2, hr3, hr4⟩ := h
  intro hR H locs ls hP hS hl
  exact lv_l2i hx hb hd ((Ll_toI x).trans (Ii_w x).symm) (k hR H locs ls hP hS hl)
theorem j_i2b (h : jOk l D cl tys cy ad ft ks Xt Om own cc nL rk rm post J) {x : Int} (hd : decode cc pc = .ok (.i2b, 1)) (k : J (pc + 1) lv (.int (Ii (ji2b x)) :: st) M) : J pc lv (.int (Ii x) :: st) M := by
  obtain ⟨p, e, s, m, args, below, meth, c, ts, c0_, s0_, Qs, hx, hb, hml, hown, hts, hK, hty, hin, hgo, hrc, hrs, hXc, hXt, rfl, hr0, hr1, hr2, hr3, hr4⟩ := h
  intro hR H locs ls hP hS hl
  exact lv_i2b hx hb hd (show _ = Ii (ji2b x) from (Ii_of _).symm) (k hR H locs ls hP hS hl)
theorem j_i2c (h : jOk l D cl tys cy ad ft ks Xt Om own cc nL rk rm post J) {x : Int} (hd : decode cc pc = .ok (.i2c, 1)) (k : J (pc + 1) lv (.int (Ii (ji2c x)) :: st) M) : J pc lv (.int (Ii x) :: st) M := by
  obtain ⟨p, e, s, m, args, below, meth, c, ts, c0_, s0_, Qs, hx, hb, hml, hown, hts, hK, hty, hin, hgo, hrc, hrs, hXc, hXt, rfl, hr0, hr1, hr2, hr3, hr4⟩ := h
  intro hR H locs ls hP hS hl
  exact lv_i2c hx hb hd (show _ = Ii (ji2c x) from (Ii_of _).symm) (k hR H locs ls hP hS hl)
theorem j_goto (h : jOk l D cl tys cy ad ft ks Xt Om own cc nL rk rm post J) {off : Int} (tgt : Nat) (hd : decode cc pc = .ok (.goto off, 3)) (ht : (pc : Int) + off = (tgt : Int)) (k : J tgt lv st M) : J pc lv st M := by
  obtain ⟨p, e, s, m, args, below, meth, c, ts, c0_, s0_, Qs, hx, hb, hml, hown, hts, hK, hty, hin, hgo, hrc, hrs, hXc, hXt, rfl, hr0, hr1, hr2, hr3, hr4⟩ := h
  intro hR H locs ls hP hS hl
  exact lv_goto hx hb hd ht (k hR H locs ls hP hS hl)
theorem j_icmp_eq (h : jOk l D cl tys cy ad ft ks Xt Om own cc nL rk rm post J) {x y off : Int} (tgt : Nat) (gx : ri_ x) (gy : ri_ y) (hd : decode cc pc = .ok (.if_icmp .eq off, 3)) (ht : (pc : Int) + off = (tgt : Int)) (kt : x = y → J tgt lv st M) (kf : ¬ x = y → J (pc + 3) lv st M) : J pc lv (.int (Ii y) :: .int (Ii x) :: st) M := by
  obtain ⟨p, e, s, m, args, below, meth, c, ts, c0_, s0_, Qs, hx, hb, hml, hown, hts, hK, hty, hin, hgo, hrc, hrs, hXc, hXt, rfl, hr0, hr1, hr2, hr3, hr4⟩ := h
  intro hR H locs ls hP hS hl
  exact lv_icmp_eq hx hb hd ht (fun z => kt ((Ii_eq gx gy).mp z) hR H locs ls hP hS hl) (fun z => kf (fun q => z ((Ii_eq gx gy).mpr q)) hR H locs ls hP hS hl)
theorem j_if_eq (h : jOk l D cl tys cy ad ft ks Xt Om own cc nL rk rm post J) {x off : Int} (tgt : Nat) (gx : ri_ x) (hd : decode cc pc = .ok (.ifCond .eq off, 3)) (ht : (pc : Int) + off = (tgt : Int)) (kt : x = 0 → J tgt lv st M) (kf : ¬ x = 0 → J (pc + 3) lv st M) : J pc lv (.int (Ii x) :: st) M := by
  obtain ⟨p, e, s, m, args, below, meth, c, ts, c0_, s0_, Qs, hx, hb, hml, hown, hts, hK, hty, hin, hgo, hrc, hrs, hXc, hXt, rfl, hr0, hr1, hr2, hr3, hr4⟩ := h
  intro hR H locs ls hP hS hl
  exact lv_if_eq hx hb hd ht (fun z => kt ((Ii_eq gx ri_0).mp z) hR H locs ls hP hS hl) (fun z => kf (fun q => z ((Ii_eq gx ri_0).mpr q)) hR H locs ls hP hS hl)
theorem j_lcmp_eq (h : jOk l D cl tys cy ad ft ks Xt Om own cc nL rk rm post J) {x y off : Int} (tgt : Nat) (gx : rl_ x) (gy : rl_ y) (hd : decode cc pc = .ok (.lcmp, 1)) (hd2 : decode cc (pc + 1) = .ok (.ifCond .eq off, 3)) (ht : ((pc + 1 : Nat) : Int) + off = (tgt : Int)) (kt : x = y → J tgt lv st M) (kf : ¬ x = y → J (pc + 4) lv st M) : J pc lv (.long (Ll y) :: .long (Ll x) :: st) M := by
  obtain ⟨p, e, s, m, args, below, meth, c, ts, c0_, s0_, Qs, hx, hb, hml, hown, hts, hK, hty, hin, hgo, hrc, hrs, hXc, hXt, rfl, hr0, hr1, hr2, hr3, hr4⟩ := h
  intro hR H locs ls hP hS hl
  exact W.lcmp hx hb hd (lv_if_eq hx hb hd2 ht (fun z => kt ((Ll_eq gx gy).mp ((lg_cmp_eq _ _).mp z)) hR H locs ls hP hS hl) (fun z => kf (fun q => z ((lg_cmp_eq _ _).mpr ((Ll_eq gx gy).mpr q))) hR H locs ls hP hS hl))
theorem j_icmp_ne (h : jOk l D cl tys cy ad ft ks Xt Om own cc nL rk rm post J) {x y off : Int} (tgt : Nat) (gx : ri_ x) (gy : ri_ y) (hd : decode cc pc = .ok (.if_icmp .ne off, 3)) (ht : (pc : Int) + off = (tgt : Int)) (kt : ¬ x = y → J tgt lv st M) (kf : x = y → J (pc + 3) lv st M) : J pc lv (.int (Ii y) :: .int (Ii x) :: st) M := by
  obtain ⟨p, e, s, m, args, below, meth, c, ts, c0_, s0_, Qs, hx, hb, hml, hown, hts, hK, hty, hin, hgo, hrc, hrs, hXc, hXt, rfl, hr0, hr1, hr2, hr3, hr4⟩ := h
  intro hR H locs ls hP hS hl
  exact lv_icmp_ne hx hb hd ht (fun z => kt (fun q => z ((Ii_eq gx gy).mpr q)) hR H locs ls hP hS hl) (fun z => kf ((Ii_eq gx gy).mp z) hR H locs ls hP hS hl)
theorem j_if_ne (h : jOk l D cl tys cy ad ft ks Xt Om own cc nL rk rm post J) {x off : Int} (tgt : Nat) (gx : ri_ x) (hd : decode cc pc = .ok (.ifCond .ne off, 3)) (ht : (pc : Int) + off = (tgt : Int)) (kt : ¬ x = 0 → J tgt lv st M) (kf : x = 0 → J (pc + 3) lv st M) : J pc lv (.int (Ii x) :: st) M := by
  obtain ⟨p, e, s, m, args, below, meth, c, ts, c0_, s0_, Qs, hx, hb, hml, hown, hts, hK, hty, hin, hgo, hrc, hrs, hXc, hXt, rfl, hr0, hr1, hr2, hr3, hr4⟩ := h
  intro hR H locs ls hP hS hl
  exact lv_if_ne hx hb hd ht (fun z => kt (fun q => z ((Ii_eq gx ri_0).mpr q)) hR H locs ls hP hS hl) (fun z => kf ((Ii_eq gx ri_0).mp z) hR H locs ls hP hS hl)
theorem j_lcmp_ne (h : jOk l D cl tys cy ad ft ks Xt Om own cc nL rk rm post J) {x y off : Int} (tgt : Nat) (gx : rl_ x) (gy : rl_ y) (hd : decode cc pc = .ok (.lcmp, 1)) (hd2 : decode cc (pc + 1) = .ok (.ifCond .ne off, 3)) (ht : ((pc + 1 : Nat) : Int) + off = (tgt : Int)) (kt : ¬ x = y → J tgt lv st M) (kf : x = y → J (pc + 4) lv st M) : J pc lv (.long (Ll y) :: .long (Ll x) :: st) M := by
  obtain ⟨p, e, s, m, args, below, meth, c, ts, c0_, s0_, Qs, hx, hb, hml, hown, hts, hK, hty, hin, hgo, hrc, hrs, hXc, hXt, rfl, hr0, hr1, hr2, hr3, hr4⟩ := h
  intro hR H locs ls hP hS hl
  exact W.lcmp hx hb hd (lv_if_ne hx hb hd2 ht (fun z => kt (fun q => z ((lg_cmp_eq _ _).mpr ((Ll_eq gx gy).mpr q))) hR H locs ls hP hS hl) (fun z => kf ((Ll_eq gx gy).mp ((lg_cmp_eq _ _).mp z)) hR H locs ls hP hS hl))
theorem j_icmp_lt (h : jOk l D cl tys cy ad ft ks Xt Om own cc nL rk rm post J) {x y off : Int} (tgt : Nat) (gx : ri_ x) (gy : ri_ y) (hd : decode cc pc = .ok (.if_icmp .lt off, 3)) (ht : (pc : Int) + off = (tgt : Int)) (kt : x < y → J tgt lv st M) (kf : ¬ x < y → J (pc + 3) lv st M) : J pc lv (.int (Ii y) :: .int (Ii x) :: st) M := by
  obtain ⟨p, e, s, m, args, below, meth, c, ts, c0_, s0_, Qs, hx, hb, hml, hown, hts, hK, hty, hin, hgo, hrc, hrs, hXc, hXt, rfl, hr0, hr1, hr2, hr3, hr4⟩ := h
  intro hR H locs ls hP hS hl
  exact lv_icmp_lt hx hb hd ht (fun z => kt ((Ii_lt gx gy).mp z) hR H locs ls hP hS hl) (fun z => kf (fun q => z ((Ii_lt gx gy).mpr q)) hR H locs ls hP hS hl)
theorem j_if_lt (h : jOk l D cl tys cy ad ft ks Xt Om own cc nL rk rm post J) {x off : Int} (tgt : Nat) (gx : ri_ x) (hd : decode cc pc = .ok (.ifCond .lt off, 3)) (ht : (pc : Int) + off = (tgt : Int)) (kt : x < 0 → J tgt lv st M) (kf : ¬ x < 0 → J (pc + 3) lv st M) : J pc lv (.int (Ii x) :: st) M := by
  obtain ⟨p, e, s, m, args, below, meth, c, ts, c0_, s0_, Qs, hx, hb, hml, hown, hts, hK, hty, hin, hgo, hrc, hrs, hXc, hXt, rfl, hr0, hr1, hr2, hr3, hr4⟩ := h
  intro hR H locs ls hP hS hl
  exact lv_if_lt hx hb hd ht (fun z => kt ((Ii_lt gx ri_0).mp z) hR H locs ls hP hS hl) (fun z => kf (fun q => z ((Ii_lt gx ri_0).mpr q)) hR H locs ls hP hS hl)
theorem j_lcmp_lt (h : jOk l D cl tys cy ad ft ks Xt Om own cc nL rk rm post J) {x y off : Int} (tgt : Nat) (gx : rl_ x) (gy : rl_ y) (hd : decode cc pc = .ok (.lcmp, 1)) (hd2 : decode cc (pc + 1) = .ok (.ifCond .lt off, 3)) (ht : ((pc + 1 : Nat) : Int) + off = (tgt : Int)) (kt : x < y → J tgt lv st M) (kf : ¬ x < y → J (pc + 4) lv st M) : J pc lv (.long (Ll y) :: .long (Ll x) :: st) M := by
  obtain ⟨p, e, s, m, args, below, meth, c, ts, c0_, s0_, Qs, hx, hb, hml, hown, hts, hK, hty, hin, hgo, hrc, hrs, hXc, hXt, rfl, hr0, hr1, hr2, hr3, hr4⟩ := h
  intro hR H locs ls hP hS hl
  exact W.lcmp hx hb hd (lv_if_lt hx hb hd2 ht (fun z => kt ((Ll_lt gx gy).mp ((lg_cmp_lt _ _).mp z)) hR H locs ls hP hS hl) (fun z => kf (fun q => z ((lg_cmp_lt _ _).mpr ((Ll_lt gx gy).mpr q))) hR H locs ls hP hS hl))
theorem j_icmp_ge (h : jOk l D cl tys cy ad ft ks Xt Om own cc nL rk rm post J) {x y off : Int} (tgt : Nat) (gx : ri_ x) (gy : ri_ y) (hd : decode cc pc = .ok (.if_icmp .ge off, 3)) (ht : (pc : Int) + off = (tgt : Int)) (kt : y ≤ x → J tgt lv st M) (kf : ¬ y ≤ x → J (pc + 3) lv st M) : J pc lv (.int (Ii y) :: .int (Ii x) :: st) M := by
  obtain ⟨p, e, s, m, args, below, meth, c, ts, c0_, s0_, Qs, hx, hb, hml, hown, hts, hK, hty, hin, hgo, hrc, hrs, hXc, hXt, rfl, hr0, hr1, hr2, hr3, hr4⟩ := h
  intro hR H locs ls hP hS hl
  exact lv_icmp_ge hx hb hd ht (fun z => kt ((Ii_le gy gx).mp z) hR H locs ls hP hS hl) (fun z => kf (fun q => z ((Ii_le gy gx).mpr q)) hR H locs ls hP hS hl)
theorem j_if_ge (h : jOk l D cl tys cy ad ft ks Xt Om own cc nL rk rm post J) {x off : Int} (tgt : Nat) (gx : ri_ x) (hd : decode cc pc = .ok (.ifCond .ge off, 3)) (ht : (pc : Int) + off = (tgt : Int)) (kt : 0 ≤ x → J tgt lv st M) (kf : ¬ 0 ≤ x → J (pc + 3) lv st M) : J pc lv (.int (Ii x) :: st) M := by
  obtain ⟨p, e, s, m, args, below, meth, c, ts, c0_, s0_, Qs, hx, hb, hml, hown, hts, hK, hty, hin, hgo, hrc, hrs, hXc, hXt, rfl, hr0, hr1, hr2, hr3, hr4⟩ := h
  intro hR H locs ls hP hS hl
  exact lv_if_ge hx hb hd ht (fun z => kt ((Ii_le ri_0 gx).mp z) hR H locs ls hP hS hl) (fun z => kf (fun q => z ((Ii_le ri_0 gx).mpr q)) hR H locs ls hP hS hl)
theorem j_lcmp_ge (h : jOk l D cl tys cy ad ft ks Xt Om own cc nL rk rm post J) {x y off : Int} (tgt : Nat) (gx : rl_ x) (gy : rl_ y) (hd : decode cc pc = .ok (.lcmp, 1)) (hd2 : decode cc (pc + 1) = .ok (.ifCond .ge off, 3)) (ht : ((pc + 1 : Nat) : Int) + off = (tgt : Int)) (kt : y ≤ x → J tgt lv st M) (kf : ¬ y ≤ x → J (pc + 4) lv st M) : J pc lv (.long (Ll y) :: .long (Ll x) :: st) M := by
  obtain ⟨p, e, s, m, args, below, meth, c, ts, c0_, s0_, Qs, hx, hb, hml, hown, hts, hK, hty, hin, hgo, hrc, hrs, hXc, hXt, rfl, hr0, hr1, hr2, hr3, hr4⟩ := h
  intro hR H locs ls hP hS hl
  exact W.lcmp hx hb hd (lv_if_ge hx hb hd2 ht (fun z => kt ((Ll_le gy gx).mp ((lg_cmp_ge _ _).mp z)) hR H locs ls hP hS hl) (fun z => kf (fun q => z ((lg_cmp_ge _ _).mpr ((Ll_le gy gx).mpr q))) hR H locs ls hP hS hl))
theorem j_icmp_gt (h : jOk l D cl tys cy ad ft ks Xt Om own cc nL rk rm post J) {x y off : Int} (tgt : Nat) (gx : ri_ x) (gy : ri_ y) (hd : decode cc pc = .ok (.if_icmp .gt off, 3)) (ht : (pc : Int) + off = (tgt : Int)) (kt : y < x → J tgt lv st M) (kf : ¬ y < x → J (pc + 3) lv st M) : J pc lv (.int (Ii y) :: .int (Ii x) :: st) M := by
  obtain ⟨p, e, s, m, args, below, meth, c, ts, c0_, s0_, Qs, hx, hb, hml, hown, hts, hK, hty, hin, hgo, hrc, hrs, hXc, hXt, rfl, hr0, hr1, hr2, hr3, hr4⟩ := h
  intro hR H locs ls hP hS hl
  exact lv_icmp_gt hx hb hd ht (fun z => kt ((Ii_lt gy gx).mp z) hR H locs ls hP hS hl) (fun z => kf (fun q => z ((Ii_lt gy gx).mpr q)) hR H locs ls hP hS hl)
theorem j_if_gt (h : jOk l D cl tys cy ad ft ks Xt Om own cc nL rk rm post J) {x off : Int} (tgt : Nat) (gx : ri_ x) (hd : decode cc pc = .ok (.ifCond .gt off, 3)) (ht : (pc : Int) + off = (tgt : Int)) (kt : 0 < x → J tgt lv st M) (kf : ¬ 0 < x → J (pc + 3) lv st M) : J pc lv (.int (Ii x) :: st) M := by
  obtain ⟨p, e, s, m, args, below, meth, c, ts, c0_, s0_, Qs, hx, hb, hml, hown, hts, hK, hty, hin, hgo, hrc, hrs, hXc, hXt, rfl, hr0, hr1, hr2, hr3, hr4⟩ := h
  intro hR H locs ls hP hS hl
  exact lv_if_gt hx hb hd ht (fun z => kt ((Ii_lt ri_0 gx).mp z) hR H locs ls hP hS hl) (fun z => kf (fun q => z ((Ii_lt ri_0 gx).mpr q)) hR H locs ls hP hS hl)
theorem j_lcmp_gt (h : jOk l D cl tys cy ad ft ks Xt Om own cc nL rk rm post J) {x y off : Int} (tgt : Nat) (gx : rl_ x) (gy : rl_ y) (hd : decode cc pc = .ok (.lcmp, 1)) (hd2 : decode cc (pc + 1) = .ok (.ifCond .gt off, 3)) (ht : ((pc + 1 : Nat) : Int) + off = (tgt : Int)) (kt : y < x → J tgt lv st M) (kf : ¬ y < x → J (pc + 4) lv st M) : J pc lv (.long (Ll y) :: .long (Ll x) :: st) M := by
  obtain ⟨p, e, s, m, args, below, meth, c, ts, c0_, s0_, Qs, hx, hb, hml, hown, hts, hK, hty, hin, hgo, hrc, hrs, hXc, hXt, rfl, hr0, hr1, hr2, hr3, hr4⟩ := h
  intro hR H locs ls hP hS hl
  exact W.lcmp hx hb hd (lv_if_gt hx hb hd2 ht (fun z => kt ((Ll_lt gy gx).mp ((lg_cmp_gt _ _).mp z)) hR H locs ls hP hS hl) (fun z => kf (fun q => z ((lg_cmp_gt _ _).mpr ((Ll_lt gy gx).mpr q))) hR H locs ls hP hS hl))
theorem j_icmp_le (h : jOk l D cl tys cy ad ft ks Xt Om own cc nL rk rm post J) {x y off : Int} (tgt : Nat) (gx : ri_ x) (gy : ri_ y) (hd : decode cc pc = .ok (.if_icmp .le off, 3)) (ht : (pc : Int) + off = (tgt : Int)) (kt : x ≤ y → J tgt lv st M) (kf : ¬ x ≤ y → J (pc + 3) lv st M) : J pc lv (.int (Ii y) :: .int (Ii x) :: st) M := by
  obtain ⟨p, e, s, m, args, below, meth, c, ts, c0_, s0_, Qs, hx, hb, hml, hown, hts, hK, hty, hin, hgo, hrc, hrs, hXc, hXt, rfl, hr0, hr1, hr2, hr3, hr4⟩ := h
  intro hR H locs ls hP hS hl
  exact lv_icmp_le hx hb hd ht (fun z => kt ((Ii_le gx gy).mp z) hR H locs ls hP hS hl) (fun z => kf (fun q => z ((Ii_le gx gy).mpr q)) hR H locs ls hP hS hl)
theorem j_if_le (h : jOk l D cl tys cy ad ft ks Xt Om own cc nL rk rm post J) {x off : Int} (tgt : Nat) (gx : ri_ x) (hd : decode cc pc = .ok (.ifCond .le off, 3)) (ht : (pc : Int) + off = (tgt : Int)) (kt : x ≤ 0 → J tgt lv st M) (kf : ¬ x ≤ 0 → J (pc + 3) lv st M) : J pc lv (.int (Ii x) :: st) M := by
  obtain ⟨p, e, s, m, args, below, meth, c, ts, c0_, s0_, Qs, hx, hb, hml, hown, hts, hK, hty, hin, hgo, hrc, hrs, hXc, hXt, rfl, hr0, hr1, hr2, hr3, hr4⟩ := h
  intro hR H locs ls hP hS hl
  exact lv_if_le hx hb hd ht (fun z => kt ((Ii_le gx ri_0).mp z) hR H locs ls hP hS hl) (fun z => kf (fun q => z ((Ii_le gx ri_0).mpr q)) hR H locs ls hP hS hl)
theorem j_lcmp_le (h : jOk l D cl tys cy ad ft ks Xt Om own cc nL rk rm post J) {x y off : Int} (tgt : Nat) (gx : rl_ x) (gy : rl_ y) (hd : decode cc pc = .ok (.lcmp, 1)) (hd2 : decode cc (pc + 1) = .ok (.ifCond .le off, 3)) (ht : ((pc + 1 : Nat) : Int) + off = (tgt : Int)) (kt : x ≤ y → J tgt lv st M) (kf : ¬ x ≤ y → J (pc + 4) lv st M) : J pc lv (.long (Ll y) :: .long (Ll x) :: st) M := by
  obtain ⟨p, e, s, m, args, below, meth, c, ts, c0_, s0_, Qs, hx, hb, hml, hown, hts, hK, hty, hin, hgo, hrc, hrs, hXc, hXt, rfl, hr0, hr1, hr2, hr3, hr4⟩ := h
  intro hR H locs ls hP hS hl
  exact W.lcmp hx hb hd (lv_if_le hx hb hd2 ht (fun z => kt ((Ll_le gx gy).mp ((lg_cmp_le _ _).mp z)) hR H locs ls hP hS hl) (fun z => kf (fun q => z ((lg_cmp_le _ _).mpr ((Ll_le gx gy).mpr q))) hR H locs ls hP hS hl))
theorem j_lcmpv (h : jOk l D cl tys cy ad ft ks Xt Om own cc nL rk rm post J) {x y : Int} (hd : decode cc pc = .ok (.lcmp, 1)) (k : J (pc + 1) lv (.int (Ii ((lg_cmp (Ll x) (Ll y)).toInt)) :: st) M) : J pc lv (.long (Ll y) :: .long (Ll x) :: st) M := by
  obtain ⟨p, e, s, m, args, below, meth, c, ts, c0_, s0_, Qs, hx, hb, hml, hown, hts, hK, hty, hin, hgo, hrc, hrs, hXc, hXt, rfl, hr0, hr1, hr2, hr3, hr4⟩ := h
  intro hR H locs ls hP hS hl
  rw [Ii_of] at k; exact W.lcmp hx hb hd (k hR H locs ls hP hS hl)
theorem j_tabIn (h : jOk l D cl tys cy ad ft ks Xt Om own cc nL rk rm post J) {dflt lo hi : Int} {offs : Array Int} {len : Nat} {x : Int} (off : Int) (tgt : Nat) (gx : ri_ x) (hd : decode cc pc = .ok (.tableswitch dflt lo hi offs, len)) (h1 : lo ≤ x) (h2 : x ≤ hi) (ho : offs[(x - lo).toNat]? = some off) (ht : (pc : Int) + off = (tgt : Int)) (k : J tgt lv st M) : J pc lv (.int (Ii x) :: st) M := by
  obtain ⟨p, e, s, m, args, below, meth, c, ts, c0_, s0_, Qs, hx, hb, hml, hown, hts, hK, hty, hin, hgo, hrc, hrs, hXc, hXt, rfl, hr0, hr1, hr2, hr3, hr4⟩ := h
  intro hR H locs ls hP hS hl
  exact lv_tableIn hx hb hd (by rw [Ii_toInt gx]; omega) (by rw [Ii_toInt gx]; omega) (by rw [Ii_toInt gx]; exact ho) ht (k hR H locs ls hP hS hl)
theorem j_tabOut (h : jOk l D cl tys cy ad ft ks Xt Om own cc nL rk rm post J) {dflt lo hi : Int} {offs : Array Int} {len : Nat} {x : Int} (tgt : Nat) (gx : ri_ x) (hd : decode cc pc = .ok (.tableswitch dflt lo hi offs, len)) (h1 : x < lo ∨ hi < x) (ht : (pc : Int) + dflt = (tgt : Int)) (k : J tgt lv st M) : J pc lv (.int (Ii x) :: st) M := by
  obtain ⟨p, e, s, m, args, below, meth, c, ts, c0_, s0_, Qs, hx, hb, hml, hown, hts, hK, hty, hin, hgo, hrc, hrs, hXc, hXt, rfl, hr0, hr1, hr2, hr3, hr4⟩ := h
  intro hR H locs ls hP hS hl
  exact lv_tableOut hx hb hd (by rw [Ii_toInt gx]; exact h1) ht (k hR H locs ls hP hS hl)
theorem j_look (h : jOk l D cl tys cy ad ft ks Xt Om own cc nL rk rm post J) {dflt : Int} {ps : Array (Int × Int)} {len : Nat} {x : Int} (off : Int) (tgt : Nat) (gx : ri_ x) (hd : decode cc pc = .ok (.lookupswitch dflt ps, len)) (hp : (ps.toList.zip (ps.toList.drop 1)).all (fun (a, next) => a.1 < next.1) = true) (ho : Op.lookupswitch.offset ps.toList dflt x = off) (ht : (pc : Int) + off = (tgt : Int)) (k : J tgt lv st M) : J pc lv (.int (Ii x) :: st) M := by
  obtain ⟨p, e, s, m, args, below, meth, c, ts, c0_, s0_, Qs, hx, hb, hml, hown, hts, hK, hty, hin, hgo, hrc, hrs, hXc, hXt, rfl, hr0, hr1, hr2, hr3, hr4⟩ := h
  intro hR H locs ls hP hS hl
  exact lv_lookup hx hb hd hp (by rw [Ii_toInt gx]; exact ho) ht (k hR H locs ls hP hS hl)
end JB
def jFL (cl : List vw_C) (Om : List Cond) (own : String) (idx ci f : Nat) : Prop := ∃ (C : String) (T : u_T) (N : Nat), cl[ci]? = some (C, T, N) ∧ (∀ w ∈ u_ws C T N, w ∈ Om) ∧ f < N ∧ Cond.fieldLink own idx (T f).1 (T f).2.1 (T f).2.2.1 ∈ Om
def jFP (cl : List vw_C) (Om : List Cond) (own : String) (idx ci f : Nat) (ty : FieldType) : Prop := ∃ (C : String) (T : u_T) (N : Nat) (ty0 : Nat → FieldType), cl[ci]? = some (C, T, N) ∧ (∀ w ∈ u_ws C T N, w ∈ Om) ∧ f < N ∧ Cond.fieldLink own idx (T f).1 (T f).2.1 (T f).2.2.1 ∈ Om ∧
  (∀ k, k < N → parseFieldDescriptor (T k).2.2.1 = some (ty0 k)) ∧ (∀ a, a < N → ∀ b, b < N → a ≠ b → (T a).2.1 ≠ (T b).2.1) ∧ (T f).2.2.2 = false ∧ parseFieldDescriptor (T f).2.2.1 = some ty
theorem jz_nar {x : Int} (h : x = 0 ∨ x = 1) : narrow .boolean (.int (Ii x)) = .int (Ii x) ∧ fits .boolean (.int (Ii x)) = true ∧ vp_nar .boolean (Ii x) = Ii x := by
  rcases h with rfl | rfl
  · exact ⟨by decide, by decide, by decide⟩
  · exact ⟨by decide, by decide, by decide⟩
theorem jz_ri {x : Int} (h : x = 0 ∨ x = 1) : ri_ x := by unfold ri_; omega
theorem jb_ri {x : Int} (h : -128 ≤ x ∧ x ≤ 127) : ri_ x := by unfold ri_; omega
theorem jb_nar {x : Int} (h : -128 ≤ x ∧ x ≤ 127) : vp_nar .byte (Ii x) = Ii x := by
  rw [vp_nar_byte]
  apply Int32.toInt_inj.mp
  rw [Int8.toInt_toInt32, Int32.toInt_toInt8, Ii_toInt (jb_ri h)]
  exact Int.bmod_eq_of_le (by omega) (by omega)
theorem jnat {n k : Nat} (h : n + 20 ≤ k) : n + (nativeFrameWords "java/lang/System" "arraycopy" 5 + 11) ≤ k := by
  have e9 : nativeFrameWords "java/lang/System" "arraycopy" 5 = 7 := by decide
  omega
theorem jb_narr {x : Int} (h : -128 ≤ x ∧ x ≤ 127) : narrow .byte (.int (Ii x)) = .int (Ii x) := by
  have e := jb_nar h
  rw [vp_nar_byte] at e
  show Value.int _ = _
  rw [e]
section JC
variable {l : Launch} {D : va_G} {cl : List vw_C} {tys : List (ClassId × FieldType)} {cy : Nat → ClassId} {ad : Nat → Nat} {ft : Nat → List (Nat × Nat)} {ks : List (Nat × Nat)} {Xt : (Nat → Prop) → State → Prop} {Om : List Cond} {own : String} {cc : ByteArray} {nL rk : Nat} {rm : Room} {post : Int → MM → Prop} {J : Nat → List (Nat × Value) → List Value → MM → Prop}
variable {pc : Nat} {lv : List (Nat × Value)} {st : List Value} {M : MM}
theorem j_gi (h : jOk l D cl tys cy ad ft ks Xt Om own cc nL rk rm post J) {c0 ci f idx : Nat} {fi : Int} (hk : ks[c0]? = some (6, ci)) (hf : (ft ci)[f]? = some (0, 0)) (he : (f : Int) = fi) (hL : jFL cl Om own idx ci f) (hd : decode cc pc = .ok (.getfield idx, 3)) (k : ∀ v, v = M c0 fi → ri_ v → J (pc + 3) lv (.int (Ii v) :: st) M) : J pc lv (.ref (ad c0) :: st) M := by
  obtain ⟨p, e, s, m, args, below, meth, c, ts, c0_, s0_, Qs, hx, hb, hml, hown, hts, hK, hty, hin, hgo, hrc, hrs, hXc, hXt, rfl, hr0, hr1, hr2, hr3, hr4⟩ := h
  intro hR H locs ls hP hS hl
  subst he; have g9 := hR c0 (f : Int); rw [jso_f hk hf (by decide)] at g9; obtain ⟨C, T, N, hc, hw, hfN, hlk2⟩ := hL; exact va_get hx hb hts hw hown hK hP c0 (jcs_at hk) hc f hfN (hts _ hlk2) (fun _ h9 => h9) (show _ = some (.int (Ii (M c0 (f : Int)))) from by rw [List.getElem?_mapIdx, hf]; rfl) hd (k _ rfl g9 hR H locs ls hP hS hl)
theorem j_gl (h : jOk l D cl tys cy ad ft ks Xt Om own cc nL rk rm post J) {c0 ci f idx : Nat} {fi : Int} (hk : ks[c0]? = some (6, ci)) (hf : (ft ci)[f]? = some (1, 0)) (he : (f : Int) = fi) (hL : jFL cl Om own idx ci f) (hd : decode cc pc = .ok (.getfield idx, 3)) (k : ∀ v, v = M c0 fi → rl_ v → J (pc + 3) lv (.long (Ll v) :: st) M) : J pc lv (.ref (ad c0) :: st) M := by
  obtain ⟨p, e, s, m, args, below, meth, c, ts, c0_, s0_, Qs, hx, hb, hml, hown, hts, hK, hty, hin, hgo, hrc, hrs, hXc, hXt, rfl, hr0, hr1, hr2, hr3, hr4⟩ := h
  intro hR H locs ls hP hS hl
  subst he; have g9 := hR c0 (f : Int); rw [jso_f hk hf (by decide)] at g9; obtain ⟨C, T, N, hc, hw, hfN, hlk2⟩ := hL; exact va_get hx hb hts hw hown hK hP c0 (jcs_at hk) hc f hfN (hts _ hlk2) (fun _ h9 => h9) (show _ = some (.long (Ll (M c0 (f : Int)))) from by rw [List.getElem?_mapIdx, hf]; rfl) hd (k _ rfl g9 hR H locs ls hP hS hl)
theorem j_gz (h : jOk l D cl tys cy ad ft ks Xt Om own cc nL rk rm post J) {c0 ci f idx : Nat} {fi : Int} (hk : ks[c0]? = some (6, ci)) (hf : (ft ci)[f]? = some (2, 0)) (he : (f : Int) = fi) (hL : jFL cl Om own idx ci f) (hd : decode cc pc = .ok (.getfield idx, 3)) (k : ∀ v, v = M c0 fi → (v = 0 ∨ v = 1) → J (pc + 3) lv (.int (Ii v) :: st) M) : J pc lv (.ref (ad c0) :: st) M := by
  obtain ⟨p, e, s, m, args, below, meth, c, ts, c0_, s0_, Qs, hx, hb, hml, hown, hts, hK, hty, hin, hgo, hrc, hrs, hXc, hXt, rfl, hr0, hr1, hr2, hr3, hr4⟩ := h
  intro hR H locs ls hP hS hl
  subst he; have g9 := hR c0 (f : Int); rw [jso_f hk hf (by decide)] at g9; obtain ⟨C, T, N, hc, hw, hfN, hlk2⟩ := hL; exact va_get hx hb hts hw hown hK hP c0 (jcs_at hk) hc f hfN (hts _ hlk2) (fun _ h9 => h9) (show _ = some (.int (Ii (M c0 (f : Int)))) from by rw [List.getElem?_mapIdx, hf]; rfl) hd (k _ rfl g9 hR H locs ls hP hS hl)
theorem j_gr (h : jOk l D cl tys cy ad ft ks Xt Om own cc nL rk rm post J) {c0 ci f d idx e : Nat} (hk : ks[c0]? = some (6, ci)) (hf : (ft ci)[f]? = some (4, d)) (hL : jFL cl Om own idx ci f) (hd : decode cc pc = .ok (.getfield idx, 3)) (hce : c0 + d = e) (k : J (pc + 3) lv (.ref (ad e) :: st) M) : J pc lv (.ref (ad c0) :: st) M := by
  obtain ⟨p, e, s, m, args, below, meth, c, ts, c0_, s0_, Qs, hx, hb, hml, hown, hts, hK, hty, hin, hgo, hrc, hrs, hXc, hXt, rfl, hr0, hr1, hr2, hr3, hr4⟩ := h
  intro hR H locs ls hP hS hl
  subst hce; obtain ⟨C, T, N, hc, hw, hfN, hlk2⟩ := hL; exact va_get hx hb hts hw hown hK hP c0 (jcs_at hk) hc f hfN (hts _ hlk2) (fun _ h9 => h9) (show _ = some (.ref (ad (c0 + d))) from by rw [List.getElem?_mapIdx, hf]; rfl) hd (k hR H locs ls hP hS hl)
theorem j_ga (h : jOk l D cl tys cy ad ft ks Xt Om own cc nL rk rm post J) {c0 ci f d idx : Nat} (hk : ks[c0]? = some (6, ci)) (hf : (ft ci)[f]? = some (5, d)) (hL : jFL cl Om own idx ci f) (hd : decode cc pc = .ok (.getfield idx, 3)) (k : J (pc + 3) lv (.ref (ad d) :: st) M) : J pc lv (.ref (ad c0) :: st) M := by
  obtain ⟨p, e, s, m, args, below, meth, c, ts, c0_, s0_, Qs, hx, hb, hml, hown, hts, hK, hty, hin, hgo, hrc, hrs, hXc, hXt, rfl, hr0, hr1, hr2, hr3, hr4⟩ := h
  intro hR H locs ls hP hS hl
  obtain ⟨C, T, N, hc, hw, hfN, hlk2⟩ := hL; exact va_get hx hb hts hw hown hK hP c0 (jcs_at hk) hc f hfN (hts _ hlk2) (fun _ h9 => h9) (show _ = some (.ref (ad d)) from by rw [List.getElem?_mapIdx, hf]; rfl) hd (k hR H locs ls hP hS hl)
theorem j_gq (h : jOk l D cl tys cy ad ft ks Xt Om own cc nL rk rm post J) {c0 ci f idx : Nat} {v : Nat} {fi : Int} (hk : ks[c0]? = some (6, ci)) (hf : (ft ci)[f]? = some (3, 0)) (he : (f : Int) = fi) (hL : jFL cl Om own idx ci f) (hd : decode cc pc = .ok (.getfield idx, 3)) (hv : M c0 fi = (v : Int)) (k : J (pc + 3) lv (.ref (ad v) :: st) M) : J pc lv (.ref (ad c0) :: st) M := by
  obtain ⟨p, e, s, m, args, below, meth, c, ts, c0_, s0_, Qs, hx, hb, hml, hown, hts, hK, hty, hin, hgo, hrc, hrs, hXc, hXt, rfl, hr0, hr1, hr2, hr3, hr4⟩ := h
  intro hR H locs ls hP hS hl
  subst he; have e9 : va_rf (jrv ad (M c0 (f : Int))) = .ref (ad v) := by
    rw [hv]; unfold jrv; rw [if_neg (by omega)]; rfl
  obtain ⟨C, T, N, hc, hw, hfN, hlk2⟩ := hL; exact va_get hx hb hts hw hown hK hP c0 (jcs_at hk) hc f hfN (hts _ hlk2) (fun _ h9 => h9) (show _ = some (va_rf (jrv ad (M c0 (f : Int)))) from by rw [List.getElem?_mapIdx, hf]; rfl) hd (by rw [e9]; exact k hR H locs ls hP hS hl)
theorem j_pi (h : jOk l D cl tys cy ad ft ks Xt Om own cc nL rk rm post J) {c0 ci f idx : Nat} {x : Int} (gx : ri_ x) {fi : Int} (hk : ks[c0]? = some (6, ci)) (hf : (ft ci)[f]? = some (0, 0)) (he : (f : Int) = fi) (hL : jFP cl Om own idx ci f .int) (hd : decode cc pc = .ok (.putfield idx, 3)) (k : ∀ M1, M1 = ux_ M c0 fi x → J (pc + 3) lv st M1) : J pc lv (.int (Ii x) :: .ref (ad c0) :: st) M := by
  obtain ⟨p, e, s, m, args, below, meth, c, ts, c0_, s0_, Qs, hx, hb, hml, hown, hts, hK, hty, hin, hgo, hrc, hrs, hXc, hXt, rfl, hr0, hr1, hr2, hr3, hr4⟩ := h
  intro hR H locs ls hP hS hl
  subst he; obtain ⟨C, T, N, ty0, hc, hw, hfN, hlk2, h5, h6, h7, h8⟩ := hL; refine va_put hx hb hts hw ty0 h5 h6 hown hK hP (jcs_D hin M) hS c0 (jcs_at hk) hc f hfN (hts _ hlk2) (fun _ h9 => h9) h7 h8 rfl rfl (by rw [List.length_mapIdx]; exact (List.getElem?_eq_some_iff.mp hf).1) hd (fun H locs hP hD hS => ?_)
  rw [jfs_set (M := M) (v := x) hf (show jfv ad c0 _ f _ = _ from by unfold jfv; simp)] at hP
  rw [show (Sum.inr (ci, (ft ci).mapIdx (jfv ad c0 (fun i' => if i' = (f : Int) then x else M c0 i'))) : va_E) = jce cy ad ft (6, ci) c0 (fun i' => if i' = (f : Int) then x else M c0 i') from rfl, jcs_set hk, ← ux_row] at hP
  exact k _ rfl (jRg_up hR (by rw [jso_f hk hf (by decide)]; exact gx)) H locs ls hP hS hl
theorem j_pl (h : jOk l D cl tys cy ad ft ks Xt Om own cc nL rk rm post J) {c0 ci f idx : Nat} {x : Int} (gx : rl_ x) {fi : Int} (hk : ks[c0]? = some (6, ci)) (hf : (ft ci)[f]? = some (1, 0)) (he : (f : Int) = fi) (hL : jFP cl Om own idx ci f .long) (hd : decode cc pc = .ok (.putfield idx, 3)) (k : ∀ M1, M1 = ux_ M c0 fi x → J (pc + 3) lv st M1) : J pc lv (.long (Ll x) :: .ref (ad c0) :: st) M := by
  obtain ⟨p, e, s, m, args, below, meth, c, ts, c0_, s0_, Qs, hx, hb, hml, hown, hts, hK, hty, hin, hgo, hrc, hrs, hXc, hXt, rfl, hr0, hr1, hr2, hr3, hr4⟩ := h
  intro hR H locs ls hP hS hl
  subst he; obtain ⟨C, T, N, ty0, hc, hw, hfN, hlk2, h5, h6, h7, h8⟩ := hL; refine va_put hx hb hts hw ty0 h5 h6 hown hK hP (jcs_D hin M) hS c0 (jcs_at hk) hc f hfN (hts _ hlk2) (fun _ h9 => h9) h7 h8 rfl rfl (by rw [List.length_mapIdx]; exact (List.getElem?_eq_some_iff.mp hf).1) hd (fun H locs hP hD hS => ?_)
  rw [jfs_set (M := M) (v := x) hf (show jfv ad c0 _ f _ = _ from by unfold jfv; simp)] at hP
  rw [show (Sum.inr (ci, (ft ci).mapIdx (jfv ad c0 (fun i' => if i' = (f : Int) then x else M c0 i'))) : va_E) = jce cy ad ft (6, ci) c0 (fun i' => if i' = (f : Int) then x else M c0 i') from rfl, jcs_set hk, ← ux_row] at hP
  exact k _ rfl (jRg_up hR (by rw [jso_f hk hf (by decide)]; exact gx)) H locs ls hP hS hl
theorem j_pz (h : jOk l D cl tys cy ad ft ks Xt Om own cc nL rk rm post J) {c0 ci f idx : Nat} {x : Int} (gx : (x = 0 ∨ x = 1)) {fi : Int} (hk : ks[c0]? = some (6, ci)) (hf : (ft ci)[f]? = some (2, 0)) (he : (f : Int) = fi) (hL : jFP cl Om own idx ci f .boolean) (hd : decode cc pc = .ok (.putfield idx, 3)) (k : ∀ M1, M1 = ux_ M c0 fi x → J (pc + 3) lv st M1) : J pc lv (.int (Ii x) :: .ref (ad c0) :: st) M := by
  obtain ⟨p, e, s, m, args, below, meth, c, ts, c0_, s0_, Qs, hx, hb, hml, hown, hts, hK, hty, hin, hgo, hrc, hrs, hXc, hXt, rfl, hr0, hr1, hr2, hr3, hr4⟩ := h
  intro hR H locs ls hP hS hl
  subst he; obtain ⟨C, T, N, ty0, hc, hw, hfN, hlk2, h5, h6, h7, h8⟩ := hL; refine va_put hx hb hts hw ty0 h5 h6 hown hK hP (jcs_D hin M) hS c0 (jcs_at hk) hc f hfN (hts _ hlk2) (fun _ h9 => h9) h7 h8 (jz_nar gx).1 (jz_nar gx).2.1 (by rw [List.length_mapIdx]; exact (List.getElem?_eq_some_iff.mp hf).1) hd (fun H locs hP hD hS => ?_)
  rw [jfs_set (M := M) (v := x) hf (show jfv ad c0 _ f _ = _ from by unfold jfv; simp)] at hP
  rw [show (Sum.inr (ci, (ft ci).mapIdx (jfv ad c0 (fun i' => if i' = (f : Int) then x else M c0 i'))) : va_E) = jce cy ad ft (6, ci) c0 (fun i' => if i' = (f : Int) then x else M c0 i') from rfl, jcs_set hk, ← ux_row] at hP
  exact k _ rfl (jRg_up hR (by rw [jso_f hk hf (by decide)]; exact gx)) H locs ls hP hS hl
theorem j_pq (h : jOk l D cl tys cy ad ft ks Xt Om own cc nL rk rm post J) {c0 ci f idx v : Nat} {nm : String} (gv : ri_ (v : Int)) {fi : Int} (hk : ks[c0]? = some (6, ci)) (hf : (ft ci)[f]? = some (3, 0)) (he : (f : Int) = fi) (hL : jFP cl Om own idx ci f (.object nm)) (hd : decode cc pc = .ok (.putfield idx, 3)) (k : ∀ M1, M1 = ux_ M c0 fi (v : Int) → J (pc + 3) lv st M1) : J pc lv (.ref (ad v) :: .ref (ad c0) :: st) M := by
  obtain ⟨p, e, s, m, args, below, meth, c, ts, c0_, s0_, Qs, hx, hb, hml, hown, hts, hK, hty, hin, hgo, hrc, hrs, hXc, hXt, rfl, hr0, hr1, hr2, hr3, hr4⟩ := h
  intro hR H locs ls hP hS hl
  subst he; obtain ⟨C, T, N, ty0, hc, hw, hfN, hlk2, h5, h6, h7, h8⟩ := hL; refine va_put hx hb hts hw ty0 h5 h6 hown hK hP (jcs_D hin M) hS c0 (jcs_at hk) hc f hfN (hts _ hlk2) (fun _ h9 => h9) h7 h8 rfl rfl (by rw [List.length_mapIdx]; exact (List.getElem?_eq_some_iff.mp hf).1) hd (fun H locs hP hD hS => ?_)
  rw [jfs_set (M := M) (v := (v : Int)) hf (show jfv ad c0 _ f _ = _ from by unfold jfv jrv; simp; rfl)] at hP
  rw [show (Sum.inr (ci, (ft ci).mapIdx (jfv ad c0 (fun i' => if i' = (f : Int) then (v : Int) else M c0 i'))) : va_E) = jce cy ad ft (6, ci) c0 (fun i' => if i' = (f : Int) then (v : Int) else M c0 i') from rfl, jcs_set hk, ← ux_row] at hP
  exact k _ rfl (jRg_up hR (by rw [jso_fq hk hf]; exact gv)) H locs ls hP hS hl
theorem j_pqa (h : jOk l D cl tys cy ad ft ks Xt Om own cc nL rk rm post J) {c0 ci f idx v : Nat} {nm : FieldType} (gv : ri_ (v : Int)) {fi : Int} (hk : ks[c0]? = some (6, ci)) (hf : (ft ci)[f]? = some (3, 0)) (he : (f : Int) = fi) (hL : jFP cl Om own idx ci f (.array nm)) (hd : decode cc pc = .ok (.putfield idx, 3)) (k : ∀ M1, M1 = ux_ M c0 fi (v : Int) → J (pc + 3) lv st M1) : J pc lv (.ref (ad v) :: .ref (ad c0) :: st) M := by
  obtain ⟨p, e, s, m, args, below, meth, c, ts, c0_, s0_, Qs, hx, hb, hml, hown, hts, hK, hty, hin, hgo, hrc, hrs, hXc, hXt, rfl, hr0, hr1, hr2, hr3, hr4⟩ := h
  intro hR H locs ls hP hS hl
  subst he; obtain ⟨C, T, N, ty0, hc, hw, hfN, hlk2, h5, h6, h7, h8⟩ := hL; refine va_put hx hb hts hw ty0 h5 h6 hown hK hP (jcs_D hin M) hS c0 (jcs_at hk) hc f hfN (hts _ hlk2) (fun _ h9 => h9) h7 h8 rfl rfl (by rw [List.length_mapIdx]; exact (List.getElem?_eq_some_iff.mp hf).1) hd (fun H locs hP hD hS => ?_)
  rw [jfs_set (M := M) (v := (v : Int)) hf (show jfv ad c0 _ f _ = _ from by unfold jfv jrv; simp; rfl)] at hP
  rw [show (Sum.inr (ci, (ft ci).mapIdx (jfv ad c0 (fun i' => if i' = (f : Int) then (v : Int) else M c0 i'))) : va_E) = jce cy ad ft (6, ci) c0 (fun i' => if i' = (f : Int) then (v : Int) else M c0 i') from rfl, jcs_set hk, ← ux_row] at hP
  exact k _ rfl (jRg_up hR (by rw [jso_fq hk hf]; exact gv)) H locs ls hP hS hl
theorem j_iald (h : jOk l D cl tys cy ad ft ks Xt Om own cc nL rk rm post J) {c0 n : Nat} {i : Int} (gi : ri_ i) (hk : ks[c0]? = some (0, n)) (h0 : 0 ≤ i) (h1 : i < (n : Int)) (hd : decode cc pc = .ok (.iaload, 1)) (k : ∀ v, v = M c0 i → ri_ v → J (pc + 1) lv (.int (Ii v) :: st) M) : J pc lv (.int (Ii i) :: .ref (ad c0) :: st) M := by
  obtain ⟨p, e, s, m, args, below, meth, c, ts, c0_, s0_, Qs, hx, hb, hml, hown, hts, hK, hty, hin, hgo, hrc, hrs, hXc, hXt, rfl, hr0, hr1, hr2, hr3, hr4⟩ := h
  intro hR H locs ls hP hS hl
  have g9 := hR c0 i; rw [jso_a hk (by decide)] at g9; refine va_iald hx hb hK hP c0 1 (jcs_at hk) hty.2.1 (Ii_in gi h0 h1) hd ?_
  show W _ _ _ _ _ _ _ _ _ _ _ _ _ _ _ (F0 _ _ _ (.int (Ii (M c0 (((Ii i).toNatClampNeg : Nat) : Int))) :: st))
  rw [Ii_cl gi h0]
  exact k _ rfl g9 hR H locs ls hP hS hl
theorem j_iast (h : jOk l D cl tys cy ad ft ks Xt Om own cc nL rk rm post J) {c0 n : Nat} {i x : Int} (gi : ri_ i) (gx : ri_ x) (hk : ks[c0]? = some (0, n)) (h0 : 0 ≤ i) (h1 : i < (n : Int)) (hd : decode cc pc = .ok (.iastore, 1)) (k : ∀ M1, M1 = ux_ M c0 i x → J (pc + 1) lv st M1) : J pc lv (.int (Ii x) :: .int (Ii i) :: .ref (ad c0) :: st) M := by
  obtain ⟨p, e, s, m, args, below, meth, c, ts, c0_, s0_, Qs, hx, hb, hml, hown, hts, hK, hty, hin, hgo, hrc, hrs, hXc, hXt, rfl, hr0, hr1, hr2, hr3, hr4⟩ := h
  intro hR H locs ls hP hS hl
  refine va_iast hx hb hK hP (jcs_D hin M) hS c0 1 (jcs_at hk) hty.2.1 (Ii_in gi h0 h1) hd (fun H locs hP hD hS => ?_)
  rw [jup_i gi h0] at hP
  rw [show (Sum.inl (cy 1, n, .inl (fun j => Ii ((fun i' => if i' = i then x else M c0 i') (j : Int)))) : va_E) = jce cy ad ft (0, n) c0 (fun i' => if i' = i then x else M c0 i') from rfl, jcs_set hk, ← ux_row] at hP
  exact k _ rfl (jRg_up hR (by rw [jso_a hk (by decide)]; exact gx)) H locs ls hP hS hl
theorem j_lald (h : jOk l D cl tys cy ad ft ks Xt Om own cc nL rk rm post J) {c0 n : Nat} {i : Int} (gi : ri_ i) (hk : ks[c0]? = some (1, n)) (h0 : 0 ≤ i) (h1 : i < (n : Int)) (hd : decode cc pc = .ok (.laload, 1)) (k : ∀ v, v = M c0 i → rl_ v → J (pc + 1) lv (.long (Ll v) :: st) M) : J pc lv (.int (Ii i) :: .ref (ad c0) :: st) M := by
  obtain ⟨p, e, s, m, args, below, meth, c, ts, c0_, s0_, Qs, hx, hb, hml, hown, hts, hK, hty, hin, hgo, hrc, hrs, hXc, hXt, rfl, hr0, hr1, hr2, hr3, hr4⟩ := h
  intro hR H locs ls hP hS hl
  have g9 := hR c0 i; rw [jso_a hk (by decide)] at g9; refine va_lald hx hb hK hP c0 2 (jcs_at hk) hty.2.2.1 (Ii_in gi h0 h1) hd ?_
  show W _ _ _ _ _ _ _ _ _ _ _ _ _ _ _ (F0 _ _ _ (.long (Ll (M c0 (((Ii i).toNatClampNeg : Nat) : Int))) :: st))
  rw [Ii_cl gi h0]
  exact k _ rfl g9 hR H locs ls hP hS hl
theorem j_last (h : jOk l D cl tys cy ad ft ks Xt Om own cc nL rk rm post J) {c0 n : Nat} {i x : Int} (gi : ri_ i) (gx : rl_ x) (hk : ks[c0]? = some (1, n)) (h0 : 0 ≤ i) (h1 : i < (n : Int)) (hd : decode cc pc = .ok (.lastore, 1)) (k : ∀ M1, M1 = ux_ M c0 i x → J (pc + 1) lv st M1) : J pc lv (.long (Ll x) :: .int (Ii i) :: .ref (ad c0) :: st) M := by
  obtain ⟨p, e, s, m, args, below, meth, c, ts, c0_, s0_, Qs, hx, hb, hml, hown, hts, hK, hty, hin, hgo, hrc, hrs, hXc, hXt, rfl, hr0, hr1, hr2, hr3, hr4⟩ := h
  intro hR H locs ls hP hS hl
  refine va_last hx hb hK hP (jcs_D hin M) hS c0 2 (jcs_at hk) hty.2.2.1 (Ii_in gi h0 h1) hd (fun H locs hP hD hS => ?_)
  rw [jup_l gi h0] at hP
  rw [show (Sum.inl (cy 2, n, .inr (.inl (fun j => Ll ((fun i' => if i' = i then x else M c0 i') (j : Int))))) : va_E) = jce cy ad ft (1, n) c0 (fun i' => if i' = i then x else M c0 i') from rfl, jcs_set hk, ← ux_row] at hP
  exact k _ rfl (jRg_up hR (by rw [jso_a hk (by decide)]; exact gx)) H locs ls hP hS hl
theorem j_zald (h : jOk l D cl tys cy ad ft ks Xt Om own cc nL rk rm post J) {c0 n : Nat} {i : Int} (gi : ri_ i) (hk : ks[c0]? = some (2, n)) (h0 : 0 ≤ i) (h1 : i < (n : Int)) (hd : decode cc pc = .ok (.baload, 1)) (k : ∀ v, v = M c0 i → (v = 0 ∨ v = 1) → J (pc + 1) lv (.int (Ii v) :: st) M) : J pc lv (.int (Ii i) :: .ref (ad c0) :: st) M := by
  obtain ⟨p, e, s, m, args, below, meth, c, ts, c0_, s0_, Qs, hx, hb, hml, hown, hts, hK, hty, hin, hgo, hrc, hrs, hXc, hXt, rfl, hr0, hr1, hr2, hr3, hr4⟩ := h
  intro hR H locs ls hP hS hl
  have g9 := hR c0 i; rw [jso_a hk (by decide)] at g9; refine va_zald hx hb hK hP c0 3 (jcs_at hk) hty.2.2.2 (Ii_in gi h0 h1) hd ?_
  show W _ _ _ _ _ _ _ _ _ _ _ _ _ _ _ (F0 _ _ _ (.int (Ii (M c0 (((Ii i).toNatClampNeg : Nat) : Int))) :: st))
  rw [Ii_cl gi h0]
  exact k _ rfl g9 hR H locs ls hP hS hl
theorem j_zast (h : jOk l D cl tys cy ad ft ks Xt Om own cc nL rk rm post J) {c0 n : Nat} {i x : Int} (gi : ri_ i) (gx : (x = 0 ∨ x = 1)) (hk : ks[c0]? = some (2, n)) (h0 : 0 ≤ i) (h1 : i < (n : Int)) (hd : decode cc pc = .ok (.bastore, 1)) (k : ∀ M1, M1 = ux_ M c0 i x → J (pc + 1) lv st M1) : J pc lv (.int (Ii x) :: .int (Ii i) :: .ref (ad c0) :: st) M := by
  obtain ⟨p, e, s, m, args, below, meth, c, ts, c0_, s0_, Qs, hx, hb, hml, hown, hts, hK, hty, hin, hgo, hrc, hrs, hXc, hXt, rfl, hr0, hr1, hr2, hr3, hr4⟩ := h
  intro hR H locs ls hP hS hl
  refine va_zast hx hb hK hP (jcs_D hin M) hS c0 3 (jcs_at hk) hty.2.2.2 (Ii_in gi h0 h1) hd (fun H locs hP hD hS => ?_)
  rw [(jz_nar gx).2.2] at hP; rw [jup_i gi h0] at hP
  rw [show (Sum.inl (cy 3, n, .inl (fun j => Ii ((fun i' => if i' = i then x else M c0 i') (j : Int)))) : va_E) = jce cy ad ft (2, n) c0 (fun i' => if i' = i then x else M c0 i') from rfl, jcs_set hk, ← ux_row] at hP
  exact k _ rfl (jRg_up hR (by rw [jso_a hk (by decide)]; exact gx)) H locs ls hP hS hl
theorem j_bald (h : jOk l D cl tys cy ad ft ks Xt Om own cc nL rk rm post J) {c0 n : Nat} {i : Int} (gi : ri_ i) (hk : ks[c0]? = some (3, n)) (h0 : 0 ≤ i) (h1 : i < (n : Int)) (hd : decode cc pc = .ok (.baload, 1)) (k : ∀ v, v = M c0 i → (-128 ≤ v ∧ v ≤ 127) → J (pc + 1) lv (.int (Ii v) :: st) M) : J pc lv (.int (Ii i) :: .ref (ad c0) :: st) M := by
  obtain ⟨p, e, s, m, args, below, meth, c, ts, c0_, s0_, Qs, hx, hb, hml, hown, hts, hK, hty, hin, hgo, hrc, hrs, hXc, hXt, rfl, hr0, hr1, hr2, hr3, hr4⟩ := h
  intro hR H locs ls hP hS hl
  have g9 := hR c0 i; rw [jso_a hk (by decide)] at g9; refine va_bald hx hb hK hP c0 0 (jcs_at hk) hty.1 (Ii_in gi h0 h1) hd ?_
  show W _ _ _ _ _ _ _ _ _ _ _ _ _ _ _ (F0 _ _ _ (.int (Ii (M c0 (((Ii i).toNatClampNeg : Nat) : Int))) :: st))
  rw [Ii_cl gi h0]
  exact k _ rfl g9 hR H locs ls hP hS hl
theorem j_bast (h : jOk l D cl tys cy ad ft ks Xt Om own cc nL rk rm post J) {c0 n : Nat} {i x : Int} (gi : ri_ i) (gx : (-128 ≤ x ∧ x ≤ 127)) (hk : ks[c0]? = some (3, n)) (h0 : 0 ≤ i) (h1 : i < (n : Int)) (hd : decode cc pc = .ok (.bastore, 1)) (k : ∀ M1, M1 = ux_ M c0 i x → J (pc + 1) lv st M1) : J pc lv (.int (Ii x) :: .int (Ii i) :: .ref (ad c0) :: st) M := by
  obtain ⟨p, e, s, m, args, below, meth, c, ts, c0_, s0_, Qs, hx, hb, hml, hown, hts, hK, hty, hin, hgo, hrc, hrs, hXc, hXt, rfl, hr0, hr1, hr2, hr3, hr4⟩ := h
  intro hR H locs ls hP hS hl
  refine va_bast hx hb hK hP (jcs_D hin M) hS c0 0 (jcs_at hk) hty.1 (Ii_in gi h0 h1) hd (fun H locs hP hD hS => ?_)
  rw [jb_nar gx] at hP; rw [jup_i gi h0] at hP
  rw [show (Sum.inl (cy 0, n, .inl (fun j => Ii ((fun i' => if i' = i then x else M c0 i') (j : Int)))) : va_E) = jce cy ad ft (3, n) c0 (fun i' => if i' = i then x else M c0 i') from rfl, jcs_set hk, ← ux_row] at hP
  exact k _ rfl (jRg_up hR (by rw [jso_a hk (by decide)]; exact gx)) H locs ls hP hS hl
theorem j_aald4 (h : jOk l D cl tys cy ad ft ks Xt Om own cc nL rk rm post J) {c0 n v : Nat} {i : Int} {Cn : String} (gi : ri_ i) (hk : ks[c0]? = some (4, n)) (ht : tys[4]? = some (cy 4, .object Cn)) (h0 : 0 ≤ i) (h1 : i < (n : Int)) (hv : M c0 i = (v : Int)) (hd : decode cc pc = .ok (.aaload, 1)) (k : J (pc + 1) lv (.ref (ad v) :: st) M) : J pc lv (.int (Ii i) :: .ref (ad c0) :: st) M := by
  obtain ⟨p, e, s, m, args, below, meth, c, ts, c0_, s0_, Qs, hx, hb, hml, hown, hts, hK, hty, hin, hgo, hrc, hrs, hXc, hXt, rfl, hr0, hr1, hr2, hr3, hr4⟩ := h
  intro hR H locs ls hP hS hl
  refine va_aldq hx hb hK hP c0 4 (jcs_at hk) ht (Ii_in gi h0 h1) hd ?_
  show W _ _ _ _ _ _ _ _ _ _ _ _ _ _ _ (F0 _ _ _ (va_rf (jrv ad (M c0 (((Ii i).toNatClampNeg : Nat) : Int))) :: st))
  rw [Ii_cl gi h0, hv, show va_rf (jrv ad (v : Int)) = .ref (ad v) from by unfold jrv; rw [if_neg (by omega)]; rfl]
  exact k hR H locs ls hP hS hl
theorem j_aald5 (h : jOk l D cl tys cy ad ft ks Xt Om own cc nL rk rm post J) {c0 n v : Nat} {i : Int} {Cn : String} (gi : ri_ i) (hk : ks[c0]? = some (5, n)) (ht : tys[5]? = some (cy 5, .object Cn)) (h0 : 0 ≤ i) (h1 : i < (n : Int)) (hv : M c0 i = (v : Int)) (hd : decode cc pc = .ok (.aaload, 1)) (k : J (pc + 1) lv (.ref (ad v) :: st) M) : J pc lv (.int (Ii i) :: .ref (ad c0) :: st) M := by
  obtain ⟨p, e, s, m, args, below, meth, c, ts, c0_, s0_, Qs, hx, hb, hml, hown, hts, hK, hty, hin, hgo, hrc, hrs, hXc, hXt, rfl, hr0, hr1, hr2, hr3, hr4⟩ := h
  intro hR H locs ls hP hS hl
  refine va_aldq hx hb hK hP c0 5 (jcs_at hk) ht (Ii_in gi h0 h1) hd ?_
  show W _ _ _ _ _ _ _ _ _ _ _ _ _ _ _ (F0 _ _ _ (va_rf (jrv ad (M c0 (((Ii i).toNatClampNeg : Nat) : Int))) :: st))
  rw [Ii_cl gi h0, hv, show va_rf (jrv ad (v : Int)) = .ref (ad v) from by unfold jrv; rw [if_neg (by omega)]; rfl]
  exact k hR H locs ls hP hS hl
theorem j_aast4 (h : jOk l D cl tys cy ad ft ks Xt Om own cc nL rk rm post J) {c0 n v ci : Nat} {i : Int} {q9 : vw_C} (gi : ri_ i) (gv : ri_ (v : Int)) (hk : ks[c0]? = some (4, n)) (hv : ks[v]? = some (6, ci)) (hc : cl[ci]? = some q9) (ht : tys[4]? = some (cy 4, .object q9.1)) (h0 : 0 ≤ i) (h1 : i < (n : Int)) (hd : decode cc pc = .ok (.aastore, 1)) (k : ∀ M1, M1 = ux_ M c0 i (v : Int) → J (pc + 1) lv st M1) : J pc lv (.ref (ad v) :: .int (Ii i) :: .ref (ad c0) :: st) M := by
  obtain ⟨p, e, s, m, args, below, meth, c, ts, c0_, s0_, Qs, hx, hb, hml, hown, hts, hK, hty, hin, hgo, hrc, hrs, hXc, hXt, rfl, hr0, hr1, hr2, hr3, hr4⟩ := h
  intro hR H locs ls hP hS hl
  refine va_astq hx hb hK hP (jcs_D hin M) hS c0 4 v ci (jcs_at hk) ht (jcs_at hv) hc (Ii_in gi h0 h1) hd (fun H locs hP hD hS => ?_)
  rw [jup_q gi h0] at hP
  rw [show (Sum.inl (cy 4, n, .inr (.inr (.inr (.inr (fun j => jrv ad ((fun i' => if i' = i then (v : Int) else M c0 i') (j : Int))))))) : va_E) = jce cy ad ft (4, n) c0 (fun i' => if i' = i then (v : Int) else M c0 i') from rfl, jcs_set hk, ← ux_row] at hP
  exact k _ rfl (jRg_up hR (by rw [jso_q hk (Or.inl rfl)]; exact gv)) H locs ls hP hS hl
theorem j_alen0 (h : jOk l D cl tys cy ad ft ks Xt Om own cc nL rk rm post J) {c0 n : Nat} (hk : ks[c0]? = some (0, n)) (hd : decode cc pc = .ok (.arraylength, 1)) (k : J (pc + 1) lv (.int (Ii (n : Int)) :: st) M) : J pc lv (.ref (ad c0) :: st) M := by
  obtain ⟨p, e, s, m, args, below, meth, c, ts, c0_, s0_, Qs, hx, hb, hml, hown, hts, hK, hty, hin, hgo, hrc, hrs, hXc, hXt, rfl, hr0, hr1, hr2, hr3, hr4⟩ := h
  intro hR H locs ls hP hS hl
  exact va_alen hx hb hK hP c0 1 (jcs_at hk) hty.2.1 (show Int32.ofNat n = Ii (n : Int) from rfl) hd (k hR H locs ls hP hS hl)
theorem j_alen1 (h : jOk l D cl tys cy ad ft ks Xt Om own cc nL rk rm post J) {c0 n : Nat} (hk : ks[c0]? = some (1, n)) (hd : decode cc pc = .ok (.arraylength, 1)) (k : J (pc + 1) lv (.int (Ii (n : Int)) :: st) M) : J pc lv (.ref (ad c0) :: st) M := by
  obtain ⟨p, e, s, m, args, below, meth, c, ts, c0_, s0_, Qs, hx, hb, hml, hown, hts, hK, hty, hin, hgo, hrc, hrs, hXc, hXt, rfl, hr0, hr1, hr2, hr3, hr4⟩ := h
  intro hR H locs ls hP hS hl
  exact va_alen hx hb hK hP c0 2 (jcs_at hk) hty.2.2.1 (show Int32.ofNat n = Ii (n : Int) from rfl) hd (k hR H locs ls hP hS hl)
theorem j_alen2 (h : jOk l D cl tys cy ad ft ks Xt Om own cc nL rk rm post J) {c0 n : Nat} (hk : ks[c0]? = some (2, n)) (hd : decode cc pc = .ok (.arraylength, 1)) (k : J (pc + 1) lv (.int (Ii (n : Int)) :: st) M) : J pc lv (.ref (ad c0) :: st) M := by
  obtain ⟨p, e, s, m, args, below, meth, c, ts, c0_, s0_, Qs, hx, hb, hml, hown, hts, hK, hty, hin, hgo, hrc, hrs, hXc, hXt, rfl, hr0, hr1, hr2, hr3, hr4⟩ := h
  intro hR H locs ls hP hS hl
  exact va_alen hx hb hK hP c0 3 (jcs_at hk) hty.2.2.2 (show Int32.ofNat n = Ii (n : Int) from rfl) hd (k hR H locs ls hP hS hl)
theorem j_alen3 (h : jOk l D cl tys cy ad ft ks Xt Om own cc nL rk rm post J) {c0 n : Nat} (hk : ks[c0]? = some (3, n)) (hd : decode cc pc = .ok (.arraylength, 1)) (k : J (pc + 1) lv (.int (Ii (n : Int)) :: st) M) : J pc lv (.ref (ad c0) :: st) M := by
  obtain ⟨p, e, s, m, args, below, meth, c, ts, c0_, s0_, Qs, hx, hb, hml, hown, hts, hK, hty, hin, hgo, hrc, hrs, hXc, hXt, rfl, hr0, hr1, hr2, hr3, hr4⟩ := h
  intro hR H locs ls hP hS hl
  exact va_alen hx hb hK hP c0 0 (jcs_at hk) hty.1 (show Int32.ofNat n = Ii (n : Int) from rfl) hd (k hR H locs ls hP hS hl)
theorem j_sub (h : jOk l D cl tys cy ad ft ks Xt Om own cc nL rk rm post J) {lv' : List (Nat × Value)} (ps : List Nat) (hs : lv_pick lv ps = lv') (k : J pc lv' st M) : J pc lv st M := by
  obtain ⟨p, e, s, m, args, below, meth, c, ts, c0_, s0_, Qs, hx, hb, hml, hown, hts, hK, hty, hin, hgo, hrc, hrs, hXc, hXt, rfl, hr0, hr1, hr2, hr3, hr4⟩ := h
  intro hR H locs ls hP hS hl
  exact k hR H locs ls hP hS (lv_sub hl ps hs)
theorem j_mmax (h : jOk l D cl tys cy ad ft ks Xt Om own cc nL rk rm post J) {x y : Int} {idx : Nat} (gx : ri_ x) (gy : ri_ y) (hm : Cond.methodLink own idx Lib.Math.max.name ∈ Om ∧ Cond.static Lib.Math.max.name ∈ Om ∧ Cond.initialized "java/lang/Math" ∈ Om ∧ Cond.code Lib.Math.max.name Lib.Math.max.code 2 (some .int) ∈ Om) (hR1 : 1 ≤ rm.frames ∧ (st.map fun v => v.category).sum + 13 ≤ rm.locals) (hd : decode cc pc = .ok (.invokestatic idx, 3)) (k : J (pc + 3) lv (.int (Ii (max x y)) :: st) M) : J pc lv (.int (Ii y) :: .int (Ii x) :: st) M := by
  obtain ⟨p, e, s, m, args, below, meth, c, ts, c0_, s0_, Qs, hx, hb, hml, hown, hts, hK, hty, hin, hgo, hrc, hrs, hXc, hXt, rfl, hr0, hr1, hr2, hr3, hr4⟩ := h
  intro hR H locs ls hP hS hl
  refine va_mmax hx hb (hml.trans hl.1.symm) hown (hts _ hm.1) (hts _ hm.2.1) (hts _ hm.2.2.1) (hts _ hm.2.2.2) hR1.1 hR1.2 hrc hrs hd ?_
  rw [show (if Ii x < Ii y then Ii y else Ii x) = Ii (max x y) from by
    by_cases z : x < y
    · rw [if_pos ((Ii_lt gx gy).mpr z), show max x y = y from by omega]
    · rw [if_neg (fun q => z ((Ii_lt gx gy).mp q)), show max x y = x from by omega]]
  exact k hR H locs ls hP hS hl
theorem j_mmin (h : jOk l D cl tys cy ad ft ks Xt Om own cc nL rk rm post J) {x y : Int} {idx : Nat} (gx : ri_ x) (gy : ri_ y) (hm : Cond.methodLink own idx Lib.Math.min.name ∈ Om ∧ Cond.static Lib.Math.min.name ∈ Om ∧ Cond.initialized "java/lang/Math" ∈ Om ∧ Cond.code Lib.Math.min.name Lib.Math.min.code 2 (some .int) ∈ Om) (hR1 : 1 ≤ rm.frames ∧ (st.map fun v => v.category).sum + 13 ≤ rm.locals) (hd : decode cc pc = .ok (.invokestatic idx, 3)) (k : J (pc + 3) lv (.int (Ii (min x y)) :: st) M) : J pc lv (.int (Ii y) :: .int (Ii x) :: st) M := by
  obtain ⟨p, e, s, m, args, below, meth, c, ts, c0_, s0_, Qs, hx, hb, hml, hown, hts, hK, hty, hin, hgo, hrc, hrs, hXc, hXt, rfl, hr0, hr1, hr2, hr3, hr4⟩ := h
  intro hR H locs ls hP hS hl
  refine va_mmin hx hb (hml.trans hl.1.symm) hown (hts _ hm.1) (hts _ hm.2.1) (hts _ hm.2.2.1) (hts _ hm.2.2.2) hR1.1 hR1.2 hrc hrs hd ?_
  rw [show (if Ii y < Ii x then Ii y else Ii x) = Ii (min x y) from by
    by_cases z : y < x
    · rw [if_pos ((Ii_lt gy gx).mpr z), show min x y = y from by omega]
    · rw [if_neg (fun q => z ((Ii_lt gy gx).mp q)), show min x y = x from by omega]]
  exact k hR H locs ls hP hS hl
theorem j_iret (h : jOk l D cl tys cy ad ft ks Xt Om own cc nL rk rm post J) {x : Int} (hrk : rk = 1) (gx : ri_ x) (hd : decode cc pc = .ok (.ireturn, 1)) (hq : post x M) : J pc lv [.int (Ii x)] M := by
  obtain ⟨p, e, s, m, args, below, meth, c, ts, c0_, s0_, Qs, hx, hb, hml, hown, hts, hK, hty, hin, hgo, hrc, hrs, hXc, hXt, hJ, hr0, hr1, hr2, hr3, hr4⟩ := h
  exact hr1 hrk _ _ _ _ gx hd hq
theorem j_zret (h : jOk l D cl tys cy ad ft ks Xt Om own cc nL rk rm post J) {x : Int} (hrk : rk = 3) (gx : x = 0 ∨ x = 1) (hd : decode cc pc = .ok (.ireturn, 1)) (hq : post x M) : J pc lv [.int (Ii x)] M := by
  obtain ⟨p, e, s, m, args, below, meth, c, ts, c0_, s0_, Qs, hx, hb, hml, hown, hts, hK, hty, hin, hgo, hrc, hrs, hXc, hXt, hJ, hr0, hr1, hr2, hr3, hr4⟩ := h
  exact hr3 hrk _ _ _ _ gx hd hq
theorem j_lret (h : jOk l D cl tys cy ad ft ks Xt Om own cc nL rk rm post J) {x : Int} (hrk : rk = 2) (gx : rl_ x) (hd : decode cc pc = .ok (.lreturn, 1)) (hq : post x M) : J pc lv [.long (Ll x)] M := by
  obtain ⟨p, e, s, m, args, below, meth, c, ts, c0_, s0_, Qs, hx, hb, hml, hown, hts, hK, hty, hin, hgo, hrc, hrs, hXc, hXt, hJ, hr0, hr1, hr2, hr3, hr4⟩ := h
  exact hr2 hrk _ _ _ _ gx hd hq
theorem j_vret (h : jOk l D cl tys cy ad ft ks Xt Om own cc nL rk rm post J) (hrk : rk = 0) (hd : decode cc pc = .ok (.return_, 1)) (hq : post 0 M) : J pc lv [] M := by
  obtain ⟨p, e, s, m, args, below, meth, c, ts, c0_, s0_, Qs, hx, hb, hml, hown, hts, hK, hty, hin, hgo, hrc, hrs, hXc, hXt, hJ, hr0, hr1, hr2, hr3, hr4⟩ := h
  exact hr0 hrk _ _ _ hd hq
theorem j_bret (h : jOk l D cl tys cy ad ft ks Xt Om own cc nL rk rm post J) {x : Int} (hrk : rk = 4) (gx : -128 ≤ x ∧ x ≤ 127) (hd : decode cc pc = .ok (.ireturn, 1)) (hq : post x M) : J pc lv [.int (Ii x)] M := by
  obtain ⟨p, e, s, m, args, below, meth, c, ts, c0_, s0_, Qs, hx, hb, hml, hown, hts, hK, hty, hin, hgo, hrc, hrs, hXc, hXt, hJ, hr0, hr1, hr2, hr3, hr4⟩ := h
  exact hr4 hrk _ _ _ _ gx hd hq
theorem j_gs (h : jOk l D cl tys cy ad ft ks Xt Om own cc nL rk rm post J) {C n dd : String} {idx : Nat} {v : Value} (hz : ∀ A U, Xt A U → va_Z C n dd v A U U.heap) (hw : Cond.fieldLink own idx C n dd ∈ Om) (hd : decode cc pc = .ok (.getstatic idx, 3)) (k : J (pc + 3) lv (v :: st) M) : J pc lv st M := by
  obtain ⟨p, e, s, m, args, below, meth, c, ts, c0_, s0_, Qs, hx, hb, hml, hown, hts, hK, hty, hin, hgo, hrc, hrs, hXc, hXt, rfl, hr0, hr1, hr2, hr3, hr4⟩ := h
  intro hR H locs ls hP hS hl
  exact va_gets hx hb (hz _ _ hXt) hS hown (hts _ hw) (fun _ h9 => h9) hd (k hR H locs ls hP hS hl)
theorem j_ti (h : jOk l D cl tys cy ad ft ks Xt Om own cc nL rk rm post J) {t N : Nat} {f : Nat → Int} {i : Int} (ht : ∀ A U, Xt A U → va_T .int t N (fun j => .int (Ii (f j))) A U U.heap) (gi : ri_ i) (h0 : 0 ≤ i) (h1 : i < (N : Int)) (hd : decode cc pc = .ok (.iaload, 1)) (k : J (pc + 1) lv (.int (Ii (f i.toNat)) :: st) M) : J pc lv (.int (Ii i) :: .ref t :: st) M := by
  obtain ⟨p, e, s, m, args, below, meth, c, ts, c0_, s0_, Qs, hx, hb, hml, hown, hts, hK, hty, hin, hgo, hrc, hrs, hXc, hXt, rfl, hr0, hr1, hr2, hr3, hr4⟩ := h
  intro hR H locs ls hP hS hl
  refine va_ti hx hb (ht _ _ hXt) hS (Ii_in gi h0 h1) (v := .int (Ii (f i.toNat))) ?_ hd (k hR H locs ls hP hS hl)
  show Value.int (Ii (f ((Ii i).toInt.toNat))) = _
  rw [Ii_toInt gi]
theorem j_ldcS (h : jOk l D cl tys cy ad ft ks Xt Om own cc nL rk rm post J) {idx q : Nat} {tx : String} (hz : ∀ A U, Xt A U → vk_R own idx tx q U) (hd : decode cc pc = .ok (.ldc idx, 2)) (k : J (pc + 2) lv (.ref q :: st) M) : J pc lv st M := by
  obtain ⟨p, e, s, m, args, below, meth, c, ts, c0_, s0_, Qs, hx, hb, hml, hown, hts, hK, hty, hin, hgo, hrc, hrs, hXc, hXt, rfl, hr0, hr1, hr2, hr3, hr4⟩ := h
  intro hR H locs ls hP hS hl
  exact va_ldcS hx hb hown (hz _ _ hXt) hd (k hR H locs ls hP hS hl)
theorem j_gsf (h : jOk l D cl tys cy ad ft ks Xt Om own cc nL rk rm post J) {oo n dd : String} {idx q : Nat} {v : Value} (hz : ∀ A U, Xt A U → va_OF oo n dd v q A U U.heap) (hw : Cond.fieldLink own idx oo n dd ∈ Om) (hd : decode cc pc = .ok (.getfield idx, 3)) (k : J (pc + 3) lv (v :: st) M) : J pc lv (.ref q :: st) M := by
  obtain ⟨p, e, s, m, args, below, meth, c, ts, c0_, s0_, Qs, hx, hb, hml, hown, hts, hK, hty, hin, hgo, hrc, hrs, hXc, hXt, rfl, hr0, hr1, hr2, hr3, hr4⟩ := h
  intro hR H locs ls hP hS hl
  exact vk_getf hx hb (hz _ _ hXt) hS hown (hts _ hw) (fun _ h9 => h9) hd (k hR H locs ls hP hS hl)
theorem j_tb (h : jOk l D cl tys cy ad ft ks Xt Om own cc nL rk rm post J) {t N : Nat} {f : Nat → Int} {i : Int} (ht : ∀ A U, Xt A U → va_T .byte t N (fun j => .int (Ii (f j))) A U U.heap) (gi : ri_ i) (h0 : 0 ≤ i) (h1 : i < (N : Int)) (hd : decode cc pc = .ok (.baload, 1)) (k : J (pc + 1) lv (.int (Ii (f i.toNat)) :: st) M) : J pc lv (.int (Ii i) :: .ref t :: st) M := by
  obtain ⟨p, e, s, m, args, below, meth, c, ts, c0_, s0_, Qs, hx, hb, hml, hown, hts, hK, hty, hin, hgo, hrc, hrs, hXc, hXt, rfl, hr0, hr1, hr2, hr3, hr4⟩ := h
  intro hR H locs ls hP hS hl
  refine va_tb hx hb (ht _ _ hXt) hS (Ii_in gi h0 h1) (v := .int (Ii (f i.toNat))) ?_ hd (k hR H locs ls hP hS hl)
  show Value.int (Ii (f ((Ii i).toInt.toNat))) = _
  rw [Ii_toInt gi]
theorem j_tlen (h : jOk l D cl tys cy ad ft ks Xt Om own cc nL rk rm post J) {t N : Nat} {ty : FieldType} {f : Nat → Value} (ht : ∀ A U, Xt A U → va_T ty t N f A U U.heap) (hd : decode cc pc = .ok (.arraylength, 1)) (k : J (pc + 1) lv (.int (Ii (N : Int)) :: st) M) : J pc lv (.ref t :: st) M := by
  obtain ⟨p, e, s, m, args, below, meth, c, ts, c0_, s0_, Qs, hx, hb, hml, hown, hts, hK, hty, hin, hgo, hrc, hrs, hXc, hXt, rfl, hr0, hr1, hr2, hr3, hr4⟩ := h
  intro hR H locs ls hP hS hl
  exact va_tlen hx hb (ht _ _ hXt) hS (show Int32.ofNat N = Ii (N : Int) from rfl) hd (k hR H locs ls hP hS hl)
theorem j_copyi (h : jOk l D cl tys cy ad ft ks Xt Om own cc nL rk rm post J) {a b na nb idx : Nat} {sp dp n : Int} (gs : ri_ sp) (gd : ri_ dp) (gn : ri_ n) (ha : ks[a]? = some (0, na)) (hb2 : ks[b]? = some (0, nb)) (h1 : 0 ≤ sp) (h2 : 0 ≤ dp) (h3 : 0 ≤ n) (h4 : sp + n ≤ (na : Int)) (h5 : dp + n ≤ (nb : Int)) (hm : Cond.methodLink own idx arraycopyName ∈ Om ∧ Cond.native arraycopyName ∈ Om ∧ Cond.static arraycopyName ∈ Om ∧ Cond.initialized "java/lang/System" ∈ Om) (hR1 : 1 ≤ rm.frames ∧ (st.map fun v => v.category).sum + 20 ≤ rm.locals) (hd : decode cc pc = .ok (.invokestatic idx, 3)) (k : ∀ M1, M1 = jcp M a b sp dp n → J (pc + 3) lv st M1) : J pc lv (.int (Ii n) :: .int (Ii dp) :: .ref (ad b) :: .int (Ii sp) :: .ref (ad a) :: st) M := by
  obtain ⟨p, e, s, m, args, below, meth, c, ts, c0_, s0_, Qs, hx, hb, hml, hown, hts, hK, hty, hin, hgo, hrc, hrs, hXc, hXt, rfl, hr0, hr1, hr2, hr3, hr4⟩ := h
  intro hR H locs ls hP hS hl
  have e1 := Ii_cl gs h1; have e2 := Ii_cl gd h2; have e3 := Ii_cl gn h3
  refine va_copyi (ty := .int) hx hb (hml.trans hl.1.symm) hown (hts _ hm.1) (hts _ hm.2.1) (hts _ hm.2.2.1) (hts _ hm.2.2.2) hK hP (jcs_D hin M) hS a b 1 1 (jcs_at ha) (jcs_at hb2) hty.2.1 hty.2.1 rfl (fun z => by rw [show (0 : Int32) = Ii 0 from rfl, Ii_lt gs ri_0] at z; omega) (fun z => by rw [show (0 : Int32) = Ii 0 from rfl, Ii_lt gd ri_0] at z; omega) (fun z => by rw [show (0 : Int32) = Ii 0 from rfl, Ii_lt gn ri_0] at z; omega) (by omega) (by omega) (fun _ _ => rfl) hR1.1 (jnat hR1.2) hd (fun H locs hP hD hS => ?_)
  rw [jcp_row (M := M) (a := a) (b := b) gs gd gn h1 h2 h3] at hP
  rw [show (Sum.inl (cy 1, nb, .inl (fun j => Ii ((fun i' => if dp ≤ i' ∧ i' < dp + n then M a (sp + (i' - dp)) else M b i') (j : Int)))) : va_E) = jce cy ad ft (0, nb) b (fun i' => if dp ≤ i' ∧ i' < dp + n then M a (sp + (i' - dp)) else M b i') from rfl, jcs_set hb2, ← jcp_eq] at hP
  exact k _ rfl (jRg_cp hR ha hb2 (by decide)) H locs ls hP hS hl
theorem j_copyl (h : jOk l D cl tys cy ad ft ks Xt Om own cc nL rk rm post J) {a b na nb idx : Nat} {sp dp n : Int} (gs : ri_ sp) (gd : ri_ dp) (gn : ri_ n) (ha : ks[a]? = some (1, na)) (hb2 : ks[b]? = some (1, nb)) (h1 : 0 ≤ sp) (h2 : 0 ≤ dp) (h3 : 0 ≤ n) (h4 : sp + n ≤ (na : Int)) (h5 : dp + n ≤ (nb : Int)) (hm : Cond.methodLink own idx arraycopyName ∈ Om ∧ Cond.native arraycopyName ∈ Om ∧ Cond.static arraycopyName ∈ Om ∧ Cond.initialized "java/lang/System" ∈ Om) (hR1 : 1 ≤ rm.frames ∧ (st.map fun v => v.category).sum + 20 ≤ rm.locals) (hd : decode cc pc = .ok (.invokestatic idx, 3)) (k : ∀ M1, M1 = jcp M a b sp dp n → J (pc + 3) lv st M1) : J pc lv (.int (Ii n) :: .int (Ii dp) :: .ref (ad b) :: .int (Ii sp) :: .ref (ad a) :: st) M := by
  obtain ⟨p, e, s, m, args, below, meth, c, ts, c0_, s0_, Qs, hx, hb, hml, hown, hts, hK, hty, hin, hgo, hrc, hrs, hXc, hXt, rfl, hr0, hr1, hr2, hr3, hr4⟩ := h
  intro hR H locs ls hP hS hl
  have e1 := Ii_cl gs h1; have e2 := Ii_cl gd h2; have e3 := Ii_cl gn h3
  refine va_copyl (ty := .long) hx hb (hml.trans hl.1.symm) hown (hts _ hm.1) (hts _ hm.2.1) (hts _ hm.2.2.1) (hts _ hm.2.2.2) hK hP (jcs_D hin M) hS a b 2 2 (jcs_at ha) (jcs_at hb2) hty.2.2.1 hty.2.2.1 rfl (fun z => by rw [show (0 : Int32) = Ii 0 from rfl, Ii_lt gs ri_0] at z; omega) (fun z => by rw [show (0 : Int32) = Ii 0 from rfl, Ii_lt gd ri_0] at z; omega) (fun z => by rw [show (0 : Int32) = Ii 0 from rfl, Ii_lt gn ri_0] at z; omega) (by omega) (by omega) (fun _ _ => rfl) hR1.1 (jnat hR1.2) hd (fun H locs hP hD hS => ?_)
  rw [jcp_rowL (M := M) (a := a) (b := b) gs gd gn h1 h2 h3] at hP
  rw [show (Sum.inl (cy 2, nb, .inr (.inl (fun j => Ll ((fun i' => if dp ≤ i' ∧ i' < dp + n then M a (sp + (i' - dp)) else M b i') (j : Int))))) : va_E) = jce cy ad ft (1, nb) b (fun i' => if dp ≤ i' ∧ i' < dp + n then M a (sp + (i' - dp)) else M b i') from rfl, jcs_set hb2, ← jcp_eq] at hP
  exact k _ rfl (jRg_cp hR ha hb2 (by decide)) H locs ls hP hS hl
theorem j_callVv (h : jOk l D cl tys cy ad ft ks Xt Om own cc nL rk rm post J) {y : MethodName} {bytes : ByteArray} {maxL n idx : Nat} {ws : List Cond} {rm1 : Room} {Wp : (Int → MM → Prop) → List Value → MM → Prop} {P : Int → MM → Prop} (hM : jCN l D cl tys cy ad ft ks Xt y ws rm1 0 Wp) (hw : ws = Cond.code y bytes maxL (jrt 0) :: Om) (hcd : Cond.code y bytes maxL (jrt 0) ∈ Om) (hR1 : rm1.cells = 0 ∧ rm1.slots = 0 ∧ rm1.frames + 1 ≤ rm.frames ∧ 8 + (maxL + 11) + rm1.locals ≤ rm.locals) {C : String} {c0 ci : Nat} {q9 : vw_C} (As : List Value) (hm : Cond.methodLink own idx y ∈ Om ∧ Cond.instanceMethod y ∈ Om ∧ Cond.selects C y y ∈ Om ∧ Cond.initialized C ∈ Om) (hdc : y.cls = C ∧ y.cls ≠ "java/lang/invoke/MethodHandle" ∧ y.cls ≠ "java/lang/invoke/VarHandle" ∧ (parseMethodDescriptor y.desc).map (fun d => d.parameters.length) = some n) (hk : ks[c0]? = some (6, ci)) (hc : cl[ci]? = some q9) (hq9 : q9.1 = C) (hn : As.length = n) (hsum : (st.map fun v => v.category).sum ≤ 8) (hd : decode cc pc = .ok (.invokevirtual idx, 3)) (hF : Wp P (.ref (ad c0) :: As) M) (k : ∀ M1, P 0 M1 → J (pc + 3) lv st M1) : J pc lv (As.reverse ++ .ref (ad c0) :: st) M := by
  obtain ⟨p, e, s, m, args, below, meth, c, ts, c0_, s0_, Qs, hx, hb, hml, hown, hts, hK, hty, hin, hgo, hrc, hrs, hXc, hXt, rfl, hr0, hr1, hr2, hr3, hr4⟩ := h
  intro hR H locs ls hP hS hl
  have hgw : GoodIn Om (wsV own idx C y ws) := by
    intro w h9
    unfold wsV at h9
    rcases List.mem_append.mp h9 with h9 | h9
    · simp only [List.mem_cons, List.not_mem_nil, or_false] at h9
      rcases h9 with rfl | rfl | rfl | rfl
      · exact hgo _ hm.1
      · exact hgo _ hm.2.1
      · exact hgo _ hm.2.2.1
      · exact hgo _ hm.2.2.2
    · rw [hw] at h9
      rcases List.mem_cons.mp h9 with rfl | h9
      · exact hgo _ hcd
      · exact hgo _ h9
  have hrcv : ∃ cell : Cell, H[ad c0]? = some cell ∧ cell.vm.isStatics = false ∧ s.vm.findClass C = some cell.cls := by rw [← hq9]; exact va_recv hK hP hc (jcs_at hk)
  have hA : ∀ q, jA ad ks.length H.size q → jA ad ks.length s.heap.size q := fun q z => by
    rcases z with z | z
    · exact Or.inl z
    · exact Or.inr (Nat.le_trans hS.1 z)
  refine va_callv (va_runV (As := As) (rest := st) ⟨hx, hb, hml, hown, hts⟩ (hM P _ M H.size hR hF) (cwV n hts hgw hw hR1.1 hR1.2.1 hdc hR1.2.2) ⟨(fun a U g mk q => by obtain ⟨q0, q1, qX, qP, qK⟩ := q; exact ⟨q0, q1, hXc.2 _ _ _ _ _ qX, qP, va_K.moved (u := U) (U := U.calling g mk a) (Vm.Alike.refl U.vm) qK⟩), hrcv, (fun U hU hW => ⟨rfl, by rw [hU], hXc.1 _ _ _ _ _ _ hXt hS hA hU hW, by rw [hU]; exact hP, va_K.moved hW.alike hK⟩)⟩ rfl hn hl.1 rfl (lv_room hsum) hd ⟨hrc, hrs⟩) hS (fun q _ z => hA q z) hA (fun u t H1 locs ht hvm hw2 hB hz1 hk1 hS => ?_)
  obtain ⟨qR, qp⟩ := hw2
  exact k u qp qR H1 locs ls (by rw [← ht]; exact hB.1) hS hl
theorem j_callVi (h : jOk l D cl tys cy ad ft ks Xt Om own cc nL rk rm post J) {y : MethodName} {bytes : ByteArray} {maxL n idx : Nat} {ws : List Cond} {rm1 : Room} {Wp : (Int → MM → Prop) → List Value → MM → Prop} {P : Int → MM → Prop} (hM : jCN l D cl tys cy ad ft ks Xt y ws rm1 1 Wp) (hw : ws = Cond.code y bytes maxL (jrt 1) :: Om) (hcd : Cond.code y bytes maxL (jrt 1) ∈ Om) (hR1 : rm1.cells = 0 ∧ rm1.slots = 0 ∧ rm1.frames + 1 ≤ rm.frames ∧ 8 + (maxL + 11) + rm1.locals ≤ rm.locals) {C : String} {c0 ci : Nat} {q9 : vw_C} (As : List Value) (hm : Cond.methodLink own idx y ∈ Om ∧ Cond.instanceMethod y ∈ Om ∧ Cond.selects C y y ∈ Om ∧ Cond.initialized C ∈ Om) (hdc : y.cls = C ∧ y.cls ≠ "java/lang/invoke/MethodHandle" ∧ y.cls ≠ "java/lang/invoke/VarHandle" ∧ (parseMethodDescriptor y.desc).map (fun d => d.parameters.length) = some n) (hk : ks[c0]? = some (6, ci)) (hc : cl[ci]? = some q9) (hq9 : q9.1 = C) (hn : As.length = n) (hsum : (st.map fun v => v.category).sum ≤ 8) (hd : decode cc pc = .ok (.invokevirtual idx, 3)) (hF : Wp P (.ref (ad c0) :: As) M) (k : ∀ r M1, ri_ r → P r M1 → J (pc + 3) lv (.int (Ii r) :: st) M1) : J pc lv (As.reverse ++ .ref (ad c0) :: st) M := by
  obtain ⟨p, e, s, m, args, below, meth, c, ts, c0_, s0_, Qs, hx, hb, hml, hown, hts, hK, hty, hin, hgo, hrc, hrs, hXc, hXt, rfl, hr0, hr1, hr2, hr3, hr4⟩ := h
  intro hR H locs ls hP hS hl
  have hgw : GoodIn Om (wsV own idx C y ws) := by
    intro w h9
    unfold wsV at h9
    rcases List.mem_append.mp h9 with h9 | h9
    · simp only [List.mem_cons, List.not_mem_nil, or_false] at h9
      rcases h9 with rfl | rfl | rfl | rfl
      · exact hgo _ hm.1
      · exact hgo _ hm.2.1
      · exact hgo _ hm.2.2.1
      · exact hgo _ hm.2.2.2
    · rw [hw] at h9
      rcases List.mem_cons.mp h9 with rfl | h9
      · exact hgo _ hcd
      · exact hgo _ h9
  have hrcv : ∃ cell : Cell, H[ad c0]? = some cell ∧ cell.vm.isStatics = false ∧ s.vm.findClass C = some cell.cls := by rw [← hq9]; exact va_recv hK hP hc (jcs_at hk)
  have hA : ∀ q, jA ad ks.length H.size q → jA ad ks.length s.heap.size q := fun q z => by
    rcases z with z | z
    · exact Or.inl z
    · exact Or.inr (Nat.le_trans hS.1 z)
  refine va_calli (va_runV (As := As) (rest := st) ⟨hx, hb, hml, hown, hts⟩ (hM P _ M H.size hR hF) (cwV n hts hgw hw hR1.1 hR1.2.1 hdc hR1.2.2) ⟨(fun a U g mk q => by obtain ⟨q0, q1, qX, qP, qK⟩ := q; exact ⟨q0, q1, hXc.2 _ _ _ _ _ qX, qP, va_K.moved (u := U) (U := U.calling g mk a) (Vm.Alike.refl U.vm) qK⟩), hrcv, (fun U hU hW => ⟨rfl, by rw [hU], hXc.1 _ _ _ _ _ _ hXt hS hA hU hW, by rw [hU]; exact hP, va_K.moved hW.alike hK⟩)⟩ rfl hn hl.1 rfl (lv_room hsum) hd ⟨hrc, hrs⟩) hS (fun q _ z => hA q z) hA (fun r u t H1 locs ht hvm hw2 hB hz1 hk1 hS => ?_)
  obtain ⟨r9, M1⟩ := u
  obtain ⟨⟨rfl, qg⟩, qR, qp⟩ := hw2
  exact k r9 M1 qg qp qR H1 locs ls (by rw [← ht]; exact hB.1) hS hl
theorem j_callVl (h : jOk l D cl tys cy ad ft ks Xt Om own cc nL rk rm post J) {y : MethodName} {bytes : ByteArray} {maxL n idx : Nat} {ws : List Cond} {rm1 : Room} {Wp : (Int → MM → Prop) → List Value → MM → Prop} {P : Int → MM → Prop} (hM : jCN l D cl tys cy ad ft ks Xt y ws rm1 2 Wp) (hw : ws = Cond.code y bytes maxL (jrt 2) :: Om) (hcd : Cond.code y bytes maxL (jrt 2) ∈ Om) (hR1 : rm1.cells = 0 ∧ rm1.slots = 0 ∧ rm1.frames + 1 ≤ rm.frames ∧ 8 + (maxL + 11) + rm1.locals ≤ rm.locals) {C : String} {c0 ci : Nat} {q9 : vw_C} (As : List Value) (hm : Cond.methodLink own idx y ∈ Om ∧ Cond.instanceMethod y ∈ Om ∧ Cond.selects C y y ∈ Om ∧ Cond.initialized C ∈ Om) (hdc : y.cls = C ∧ y.cls ≠ "java/lang/invoke/MethodHandle" ∧ y.cls ≠ "java/lang/invoke/VarHandle" ∧ (parseMethodDescriptor y.desc).map (fun d => d.parameters.length) = some n) (hk : ks[c0]? = some (6, ci)) (hc : cl[ci]? = some q9) (hq9 : q9.1 = C) (hn : As.length = n) (hsum : (st.map fun v => v.category).sum ≤ 8) (hd : decode cc pc = .ok (.invokevirtual idx, 3)) (hF : Wp P (.ref (ad c0) :: As) M) (k : ∀ r M1, rl_ r → P r M1 → J (pc + 3) lv (.long (Ll r) :: st) M1) : J pc lv (As.reverse ++ .ref (ad c0) :: st) M := by
  obtain ⟨p, e, s, m, args, below, meth, c, ts, c0_, s0_, Qs, hx, hb, hml, hown, hts, hK, hty, hin, hgo, hrc, hrs, hXc, hXt, rfl, hr0, hr1, hr2, hr3, hr4⟩ := h
  intro hR H locs ls hP hS hl
  have hgw : GoodIn Om (wsV own idx C y ws) := by
    intro w h9
    unfold wsV at h9
    rcases List.mem_append.mp h9 with h9 | h9
    · simp only [List.mem_cons, List.not_mem_nil, or_false] at h9
      rcases h9 with rfl | rfl | rfl | rfl
      · exact hgo _ hm.1
      · exact hgo _ hm.2.1
      · exact hgo _ hm.2.2.1
      · exact hgo _ hm.2.2.2
    · rw [hw] at h9
      rcases List.mem_cons.mp h9 with rfl | h9
      · exact hgo _ hcd
      · exact hgo _ h9
  have hrcv : ∃ cell : Cell, H[ad c0]? = some cell ∧ cell.vm.isStatics = false ∧ s.vm.findClass C = some cell.cls := by rw [← hq9]; exact va_recv hK hP hc (jcs_at hk)
  have hA : ∀ q, jA ad ks.length H.size q → jA ad ks.length s.heap.size q := fun q z => by
    rcases z with z | z
    · exact Or.inl z
    · exact Or.inr (Nat.le_trans hS.1 z)
  refine va_calll (va_runV (As := As) (rest := st) ⟨hx, hb, hml, hown, hts⟩ (hM P _ M H.size hR hF) (cwV n hts hgw hw hR1.1 hR1.2.1 hdc hR1.2.2) ⟨(fun a U g mk q => by obtain ⟨q0, q1, qX, qP, qK⟩ := q; exact ⟨q0, q1, hXc.2 _ _ _ _ _ qX, qP, va_K.moved (u := U) (U := U.calling g mk a) (Vm.Alike.refl U.vm) qK⟩), hrcv, (fun U hU hW => ⟨rfl, by rw [hU], hXc.1 _ _ _ _ _ _ hXt hS hA hU hW, by rw [hU]; exact hP, va_K.moved hW.alike hK⟩)⟩ rfl hn hl.1 rfl (lv_room hsum) hd ⟨hrc, hrs⟩) hS (fun q _ z => hA q z) hA (fun r u t H1 locs ht hvm hw2 hB hz1 hk1 hS => ?_)
  obtain ⟨r9, M1⟩ := u
  obtain ⟨⟨rfl, qg⟩, qR, qp⟩ := hw2
  exact k r9 M1 qg qp qR H1 locs ls (by rw [← ht]; exact hB.1) hS hl
theorem j_callVz (h : jOk l D cl tys cy ad ft ks Xt Om own cc nL rk rm post J) {y : MethodName} {bytes : ByteArray} {maxL n idx : Nat} {ws : List Cond} {rm1 : Room} {Wp : (Int → MM → Prop) → List Value → MM → Prop} {P : Int → MM → Prop} (hM : jCN l D cl tys cy ad ft ks Xt y ws rm1 3 Wp) (hw : ws = Cond.code y bytes maxL (jrt 3) :: Om) (hcd : Cond.code y bytes maxL (jrt 3) ∈ Om) (hR1 : rm1.cells = 0 ∧ rm1.slots = 0 ∧ rm1.frames + 1 ≤ rm.frames ∧ 8 + (maxL + 11) + rm1.locals ≤ rm.locals) {C : String} {c0 ci : Nat} {q9 : vw_C} (As : List Value) (hm : Cond.methodLink own idx y ∈ Om ∧ Cond.instanceMethod y ∈ Om ∧ Cond.selects C y y ∈ Om ∧ Cond.initialized C ∈ Om) (hdc : y.cls = C ∧ y.cls ≠ "java/lang/invoke/MethodHandle" ∧ y.cls ≠ "java/lang/invoke/VarHandle" ∧ (parseMethodDescriptor y.desc).map (fun d => d.parameters.length) = some n) (hk : ks[c0]? = some (6, ci)) (hc : cl[ci]? = some q9) (hq9 : q9.1 = C) (hn : As.length = n) (hsum : (st.map fun v => v.category).sum ≤ 8) (hd : decode cc pc = .ok (.invokevirtual idx, 3)) (hF : Wp P (.ref (ad c0) :: As) M) (k : ∀ r M1, (r = 0 ∨ r = 1) → P r M1 → J (pc + 3) lv (.int (Ii r) :: st) M1) : J pc lv (As.reverse ++ .ref (ad c0) :: st) M := by
  obtain ⟨p, e, s, m, args, below, meth, c, ts, c0_, s0_, Qs, hx, hb, hml, hown, hts, hK, hty, hin, hgo, hrc, hrs, hXc, hXt, rfl, hr0, hr1, hr2, hr3, hr4⟩ := h
  intro hR H locs ls hP hS hl
  have hgw : GoodIn Om (wsV own idx C y ws) := by
    intro w h9
    unfold wsV at h9
    rcases List.mem_append.mp h9 with h9 | h9
    · simp only [List.mem_cons, List.not_mem_nil, or_false] at h9
      rcases h9 with rfl | rfl | rfl | rfl
      · exact hgo _ hm.1
      · exact hgo _ hm.2.1
      · exact hgo _ hm.2.2.1
      · exact hgo _ hm.2.2.2
    · rw [hw] at h9
      rcases List.mem_cons.mp h9 with rfl | h9
      · exact hgo _ hcd
      · exact hgo _ h9
  have hrcv : ∃ cell : Cell, H[ad c0]? = some cell ∧ cell.vm.isStatics = false ∧ s.vm.findClass C = some cell.cls := by rw [← hq9]; exact va_recv hK hP hc (jcs_at hk)
  have hA : ∀ q, jA ad ks.length H.size q → jA ad ks.length s.heap.size q := fun q z => by
    rcases z with z | z
    · exact Or.inl z
    · exact Or.inr (Nat.le_trans hS.1 z)
  refine va_calli (va_runV (As := As) (rest := st) ⟨hx, hb, hml, hown, hts⟩ (hM P _ M H.size hR hF) (cwV n hts hgw hw hR1.1 hR1.2.1 hdc hR1.2.2) ⟨(fun a U g mk q => by obtain ⟨q0, q1, qX, qP, qK⟩ := q; exact ⟨q0, q1, hXc.2 _ _ _ _ _ qX, qP, va_K.moved (u := U) (U := U.calling g mk a) (Vm.Alike.refl U.vm) qK⟩), hrcv, (fun U hU hW => ⟨rfl, by rw [hU], hXc.1 _ _ _ _ _ _ hXt hS hA hU hW, by rw [hU]; exact hP, va_K.moved hW.alike hK⟩)⟩ rfl hn hl.1 rfl (lv_room hsum) hd ⟨hrc, hrs⟩) hS (fun q _ z => hA q z) hA (fun r u t H1 locs ht hvm hw2 hB hz1 hk1 hS => ?_)
  obtain ⟨r9, M1⟩ := u
  obtain ⟨⟨rfl, qg⟩, qR, qp⟩ := hw2
  exact k r9 M1 qg qp qR H1 locs ls (by rw [← ht]; exact hB.1) hS hl
theorem j_callVb (h : jOk l D cl tys cy ad ft ks Xt Om own cc nL rk rm post J) {y : MethodName} {bytes : ByteArray} {maxL n idx : Nat} {ws : List Cond} {rm1 : Room} {Wp : (Int → MM → Prop) → List Value → MM → Prop} {P : Int → MM → Prop} (hM : jCN l D cl tys cy ad ft ks Xt y ws rm1 4 Wp) (hw : ws = Cond.code y bytes maxL (jrt 4) :: Om) (hcd : Cond.code y bytes maxL (jrt 4) ∈ Om) (hR1 : rm1.cells = 0 ∧ rm1.slots = 0 ∧ rm1.frames + 1 ≤ rm.frames ∧ 8 + (maxL + 11) + rm1.locals ≤ rm.locals) {C : String} {c0 ci : Nat} {q9 : vw_C} (As : List Value) (hm : Cond.methodLink own idx y ∈ Om ∧ Cond.instanceMethod y ∈ Om ∧ Cond.selects C y y ∈ Om ∧ Cond.initialized C ∈ Om) (hdc : y.cls = C ∧ y.cls ≠ "java/lang/invoke/MethodHandle" ∧ y.cls ≠ "java/lang/invoke/VarHandle" ∧ (parseMethodDescriptor y.desc).map (fun d => d.parameters.length) = some n) (hk : ks[c0]? = some (6, ci)) (hc : cl[ci]? = some q9) (hq9 : q9.1 = C) (hn : As.length = n) (hsum : (st.map fun v => v.category).sum ≤ 8) (hd : decode cc pc = .ok (.invokevirtual idx, 3)) (hF : Wp P (.ref (ad c0) :: As) M) (k : ∀ r M1, (-128 ≤ r ∧ r ≤ 127) → P r M1 → J (pc + 3) lv (.int (Ii r) :: st) M1) : J pc lv (As.reverse ++ .ref (ad c0) :: st) M := by
  obtain ⟨p, e, s, m, args, below, meth, c, ts, c0_, s0_, Qs, hx, hb, hml, hown, hts, hK, hty, hin, hgo, hrc, hrs, hXc, hXt, rfl, hr0, hr1, hr2, hr3, hr4⟩ := h
  intro hR H locs ls hP hS hl
  have hgw : GoodIn Om (wsV own idx C y ws) := by
    intro w h9
    unfold wsV at h9
    rcases List.mem_append.mp h9 with h9 | h9
    · simp only [List.mem_cons, List.not_mem_nil, or_false] at h9
      rcases h9 with rfl | rfl | rfl | rfl
      · exact hgo _ hm.1
      · exact hgo _ hm.2.1
      · exact hgo _ hm.2.2.1
      · exact hgo _ hm.2.2.2
    · rw [hw] at h9
      rcases List.mem_cons.mp h9 with rfl | h9
      · exact hgo _ hcd
      · exact hgo _ h9
  have hrcv : ∃ cell : Cell, H[ad c0]? = some cell ∧ cell.vm.isStatics = false ∧ s.vm.findClass C = some cell.cls := by rw [← hq9]; exact va_recv hK hP hc (jcs_at hk)
  have hA : ∀ q, jA ad ks.length H.size q → jA ad ks.length s.heap.size q := fun q z => by
    rcases z with z | z
    · exact Or.inl z
    · exact Or.inr (Nat.le_trans hS.1 z)
  refine va_calli (va_runV (As := As) (rest := st) ⟨hx, hb, hml, hown, hts⟩ (hM P _ M H.size hR hF) (cwV n hts hgw hw hR1.1 hR1.2.1 hdc hR1.2.2) ⟨(fun a U g mk q => by obtain ⟨q0, q1, qX, qP, qK⟩ := q; exact ⟨q0, q1, hXc.2 _ _ _ _ _ qX, qP, va_K.moved (u := U) (U := U.calling g mk a) (Vm.Alike.refl U.vm) qK⟩), hrcv, (fun U hU hW => ⟨rfl, by rw [hU], hXc.1 _ _ _ _ _ _ hXt hS hA hU hW, by rw [hU]; exact hP, va_K.moved hW.alike hK⟩)⟩ rfl hn hl.1 rfl (lv_room hsum) hd ⟨hrc, hrs⟩) hS (fun q _ z => hA q z) hA (fun r u t H1 locs ht hvm hw2 hB hz1 hk1 hS => ?_)
  obtain ⟨r9, M1⟩ := u
  obtain ⟨⟨rfl, qg⟩, qR, qp⟩ := hw2
  exact k r9 M1 qg qp qR H1 locs ls (by rw [← ht]; exact hB.1) hS hl
theorem j_callSv (h : jOk l D cl tys cy ad ft ks Xt Om own cc nL rk rm post J) {y : MethodName} {bytes : ByteArray} {maxL n idx : Nat} {ws : List Cond} {rm1 : Room} {Wp : (Int → MM → Prop) → List Value → MM → Prop} {P : Int → MM → Prop} (hM : jCN l D cl tys cy ad ft ks Xt y ws rm1 0 Wp) (hw : ws = Cond.code y bytes maxL (jrt 0) :: Om) (hcd : Cond.code y bytes maxL (jrt 0) ∈ Om) (hR1 : rm1.cells = 0 ∧ rm1.slots = 0 ∧ rm1.frames + 1 ≤ rm.frames ∧ 8 + (maxL + 11) + rm1.locals ≤ rm.locals) (As : List Value) (hm : Cond.methodLink own idx y ∈ Om ∧ Cond.static y ∈ Om ∧ Cond.initialized y.cls ∈ Om) (hdc : y.cls ≠ "java/lang/invoke/MethodHandle" ∧ y.cls ≠ "java/lang/invoke/VarHandle" ∧ (parseMethodDescriptor y.desc).map (fun d => d.parameters.length) = some n) (hn : As.length = n) (hsum : (st.map fun v => v.category).sum ≤ 8) (hd : decode cc pc = .ok (.invokestatic idx, 3)) (hF : Wp P As M) (k : ∀ M1, P 0 M1 → J (pc + 3) lv st M1) : J pc lv (As.reverse ++ st) M := by
  obtain ⟨p, e, s, m, args, below, meth, c, ts, c0_, s0_, Qs, hx, hb, hml, hown, hts, hK, hty, hin, hgo, hrc, hrs, hXc, hXt, rfl, hr0, hr1, hr2, hr3, hr4⟩ := h
  intro hR H locs ls hP hS hl
  have hgw : GoodIn Om ws := by
    intro w h9
    rw [hw] at h9
    rcases List.mem_cons.mp h9 with rfl | h9
    · exact hgo _ hcd
    · exact hgo _ h9
  have hA : ∀ q, jA ad ks.length H.size q → jA ad ks.length s.heap.size q := fun q z => by
    rcases z with z | z
    · exact Or.inl z
    · exact Or.inr (Nat.le_trans hS.1 z)
  refine va_callv (va_runS (As := As) (rest := st) ⟨hx, hb, hml, hown, hts⟩ (hM P _ M H.size hR hF) ⟨callB_of n hts hgw hw hR1.1 hR1.2.1 (hts _ hm.2.2) (hts _ hm.1) hdc hR1.2.2, hts _ hm.2.1⟩ ⟨(fun a U g mk q => by obtain ⟨q0, q1, qX, qP, qK⟩ := q; exact ⟨q0, q1, hXc.2 _ _ _ _ _ qX, qP, va_K.moved (u := U) (U := U.calling g mk a) (Vm.Alike.refl U.vm) qK⟩), (fun U hU hW => ⟨rfl, by rw [hU], hXc.1 _ _ _ _ _ _ hXt hS hA hU hW, by rw [hU]; exact hP, va_K.moved hW.alike hK⟩)⟩ rfl hn hl.1 rfl (lv_room hsum) hd ⟨hrc, hrs⟩) hS (fun q _ z => hA q z) hA (fun u t H1 locs ht hvm hw2 hB hz1 hk1 hS => ?_)
  obtain ⟨qR, qp⟩ := hw2
  exact k u qp qR H1 locs ls (by rw [← ht]; exact hB.1) hS hl
theorem j_callSi (h : jOk l D cl tys cy ad ft ks Xt Om own cc nL rk rm post J) {y : MethodName} {bytes : ByteArray} {maxL n idx : Nat} {ws : List Cond} {rm1 : Room} {Wp : (Int → MM → Prop) → List Value → MM → Prop} {P : Int → MM → Prop} (hM : jCN l D cl tys cy ad ft ks Xt y ws rm1 1 Wp) (hw : ws = Cond.code y bytes maxL (jrt 1) :: Om) (hcd : Cond.code y bytes maxL (jrt 1) ∈ Om) (hR1 : rm1.cells = 0 ∧ rm1.slots = 0 ∧ rm1.frames + 1 ≤ rm.frames ∧ 8 + (maxL + 11) + rm1.locals ≤ rm.locals) (As : List Value) (hm : Cond.methodLink own idx y ∈ Om ∧ Cond.static y ∈ Om ∧ Cond.initialized y.cls ∈ Om) (hdc : y.cls ≠ "java/lang/invoke/MethodHandle" ∧ y.cls ≠ "java/lang/invoke/VarHandle" ∧ (parseMethodDescriptor y.desc).map (fun d => d.parameters.length) = some n) (hn : As.length = n) (hsum : (st.map fun v => v.category).sum ≤ 8) (hd : decode cc pc = .ok (.invokestatic idx, 3)) (hF : Wp P As M) (k : ∀ r M1, ri_ r → P r M1 → J (pc + 3) lv (.int (Ii r) :: st) M1) : J pc lv (As.reverse ++ st) M := by
  obtain ⟨p, e, s, m, args, below, meth, c, ts, c0_, s0_, Qs, hx, hb, hml, hown, hts, hK, hty, hin, hgo, hrc, hrs, hXc, hXt, rfl, hr0, hr1, hr2, hr3, hr4⟩ := h
  intro hR H locs ls hP hS hl
  have hgw : GoodIn Om ws := by
    intro w h9
    rw [hw] at h9
    rcases List.mem_cons.mp h9 with rfl | h9
    · exact hgo _ hcd
    · exact hgo _ h9
  have hA : ∀ q, jA ad ks.length H.size q → jA ad ks.length s.heap.size q := fun q z => by
    rcases z with z | z
    · exact Or.inl z
    · exact Or.inr (Nat.le_trans hS.1 z)
  refine va_calli (va_runS (As := As) (rest := st) ⟨hx, hb, hml, hown, hts⟩ (hM P _ M H.size hR hF) ⟨callB_of n hts hgw hw hR1.1 hR1.2.1 (hts _ hm.2.2) (hts _ hm.1) hdc hR1.2.2, hts _ hm.2.1⟩ ⟨(fun a U g mk q => by obtain ⟨q0, q1, qX, qP, qK⟩ := q; exact ⟨q0, q1, hXc.2 _ _ _ _ _ qX, qP, va_K.moved (u := U) (U := U.calling g mk a) (Vm.Alike.refl U.vm) qK⟩), (fun U hU hW => ⟨rfl, by rw [hU], hXc.1 _ _ _ _ _ _ hXt hS hA hU hW, by rw [hU]; exact hP, va_K.moved hW.alike hK⟩)⟩ rfl hn hl.1 rfl (lv_room hsum) hd ⟨hrc, hrs⟩) hS (fun q _ z => hA q z) hA (fun r u t H1 locs ht hvm hw2 hB hz1 hk1 hS => ?_)
  obtain ⟨r9, M1⟩ := u
  obtain ⟨⟨rfl, qg⟩, qR, qp⟩ := hw2
  exact k r9 M1 qg qp qR H1 locs ls (by rw [← ht]; exact hB.1) hS hl
theorem j_callSl (h : jOk l D cl tys cy ad ft ks Xt Om own cc nL rk rm post J) {y : MethodName} {bytes : ByteArray} {maxL n idx : Nat} {ws : List Cond} {rm1 : Room} {Wp : (Int → MM → Prop) → List Value → MM → Prop} {P : Int → MM → Prop} (hM : jCN l D cl tys cy ad ft ks Xt y ws rm1 2 Wp) (hw : ws = Cond.code y bytes maxL (jrt 2) :: Om) (hcd : Cond.code y bytes maxL (jrt 2) ∈ Om) (hR1 : rm1.cells = 0 ∧ rm1.slots = 0 ∧ rm1.frames + 1 ≤ rm.frames ∧ 8 + (maxL + 11) + rm1.locals ≤ rm.locals) (As : List Value) (hm : Cond.methodLink own idx y ∈ Om ∧ Cond.static y ∈ Om ∧ Cond.initialized y.cls ∈ Om) (hdc : y.cls ≠ "java/lang/invoke/MethodHandle" ∧ y.cls ≠ "java/lang/invoke/VarHandle" ∧ (parseMethodDescriptor y.desc).map (fun d => d.parameters.length) = some n) (hn : As.length = n) (hsum : (st.map fun v => v.category).sum ≤ 8) (hd : decode cc pc = .ok (.invokestatic idx, 3)) (hF : Wp P As M) (k : ∀ r M1, rl_ r → P r M1 → J (pc + 3) lv (.long (Ll r) :: st) M1) : J pc lv (As.reverse ++ st) M := by
  obtain ⟨p, e, s, m, args, below, meth, c, ts, c0_, s0_, Qs, hx, hb, hml, hown, hts, hK, hty, hin, hgo, hrc, hrs, hXc, hXt, rfl, hr0, hr1, hr2, hr3, hr4⟩ := h
  intro hR H locs ls hP hS hl
  have hgw : GoodIn Om ws := by
    intro w h9
    rw [hw] at h9
    rcases List.mem_cons.mp h9 with rfl | h9
    · exact hgo _ hcd
    · exact hgo _ h9
  have hA : ∀ q, jA ad ks.length H.size q → jA ad ks.length s.heap.size q := fun q z => by
    rcases z with z | z
    · exact Or.inl z
    · exact Or.inr (Nat.le_trans hS.1 z)
  refine va_calll (va_runS (As := As) (rest := st) ⟨hx, hb, hml, hown, hts⟩ (hM P _ M H.size hR hF) ⟨callB_of n hts hgw hw hR1.1 hR1.2.1 (hts _ hm.2.2) (hts _ hm.1) hdc hR1.2.2, hts _ hm.2.1⟩ ⟨(fun a U g mk q => by obtain ⟨q0, q1, qX, qP, qK⟩ := q; exact ⟨q0, q1, hXc.2 _ _ _ _ _ qX, qP, va_K.moved (u := U) (U := U.calling g mk a) (Vm.Alike.refl U.vm) qK⟩), (fun U hU hW => ⟨rfl, by rw [hU], hXc.1 _ _ _ _ _ _ hXt hS hA hU hW, by rw [hU]; exact hP, va_K.moved hW.alike hK⟩)⟩ rfl hn hl.1 rfl (lv_room hsum) hd ⟨hrc, hrs⟩) hS (fun q _ z => hA q z) hA (fun r u t H1 locs ht hvm hw2 hB hz1 hk1 hS => ?_)
  obtain ⟨r9, M1⟩ := u
  obtain ⟨⟨rfl, qg⟩, qR, qp⟩ := hw2
  exact k r9 M1 qg qp qR H1 locs ls (by rw [← ht]; exact hB.1) hS hl
theorem j_callSz (h : jOk l D cl tys cy ad ft ks Xt Om own cc nL rk rm post J) {y : MethodName} {bytes : ByteArray} {maxL n idx : Nat} {ws : List Cond} {rm1 : Room} {Wp : (Int → MM → Prop) → List Value → MM → Prop} {P : Int → MM → Prop} (hM : jCN l D cl tys cy ad ft ks Xt y ws rm1 3 Wp) (hw : ws = Cond.code y bytes maxL (jrt 3) :: Om) (hcd : Cond.code y bytes maxL (jrt 3) ∈ Om) (hR1 : rm1.cells = 0 ∧ rm1.slots = 0 ∧ rm1.frames + 1 ≤ rm.frames ∧ 8 + (maxL + 11) + rm1.locals ≤ rm.locals) (As : List Value) (hm : Cond.methodLink own idx y ∈ Om ∧ Cond.static y ∈ Om ∧ Cond.initialized y.cls ∈ Om) (hdc : y.cls ≠ "java/lang/invoke/MethodHandle" ∧ y.cls ≠ "java/lang/invoke/VarHandle" ∧ (parseMethodDescriptor y.desc).map (fun d => d.parameters.length) = some n) (hn : As.length = n) (hsum : (st.map fun v => v.category).sum ≤ 8) (hd : decode cc pc = .ok (.invokestatic idx, 3)) (hF : Wp P As M) (k : ∀ r M1, (r = 0 ∨ r = 1) → P r M1 → J (pc + 3) lv (.int (Ii r) :: st) M1) : J pc lv (As.reverse ++ st) M := by
  obtain ⟨p, e, s, m, args, below, meth, c, ts, c0_, s0_, Qs, hx, hb, hml, hown, hts, hK, hty, hin, hgo, hrc, hrs, hXc, hXt, rfl, hr0, hr1, hr2, hr3, hr4⟩ := h
  intro hR H locs ls hP hS hl
  have hgw : GoodIn Om ws := by
    intro w h9
    rw [hw] at h9
    rcases List.mem_cons.mp h9 with rfl | h9
    · exact hgo _ hcd
    · exact hgo _ h9
  have hA : ∀ q, jA ad ks.length H.size q → jA ad ks.length s.heap.size q := fun q z => by
    rcases z with z | z
    · exact Or.inl z
    · exact Or.inr (Nat.le_trans hS.1 z)
  refine va_calli (va_runS (As := As) (rest := st) ⟨hx, hb, hml, hown, hts⟩ (hM P _ M H.size hR hF) ⟨callB_of n hts hgw hw hR1.1 hR1.2.1 (hts _ hm.2.2) (hts _ hm.1) hdc hR1.2.2, hts _ hm.2.1⟩ ⟨(fun a U g mk q => by obtain ⟨q0, q1, qX, qP, qK⟩ := q; exact ⟨q0, q1, hXc.2 _ _ _ _ _ qX, qP, va_K.moved (u := U) (U := U.calling g mk a) (Vm.Alike.refl U.vm) qK⟩), (fun U hU hW => ⟨rfl, by rw [hU], hXc.1 _ _ _ _ _ _ hXt hS hA hU hW, by rw [hU]; exact hP, va_K.moved hW.alike hK⟩)⟩ rfl hn hl.1 rfl (lv_room hsum) hd ⟨hrc, hrs⟩) hS (fun q _ z => hA q z) hA (fun r u t H1 locs ht hvm hw2 hB hz1 hk1 hS => ?_)
  obtain ⟨r9, M1⟩ := u
  obtain ⟨⟨rfl, qg⟩, qR, qp⟩ := hw2
  exact k r9 M1 qg qp qR H1 locs ls (by rw [← ht]; exact hB.1) hS hl
theorem j_callSb (h : jOk l D cl tys cy ad ft ks Xt Om own cc nL rk rm post J) {y : MethodName} {bytes : ByteArray} {maxL n idx : Nat} {ws : List Cond} {rm1 : Room} {Wp : (Int → MM → Prop) → List Value → MM → Prop} {P : Int → MM → Prop} (hM : jCN l D cl tys cy ad ft ks Xt y ws rm1 4 Wp) (hw : ws = Cond.code y bytes maxL (jrt 4) :: Om) (hcd : Cond.code y bytes maxL (jrt 4) ∈ Om) (hR1 : rm1.cells = 0 ∧ rm1.slots = 0 ∧ rm1.frames + 1 ≤ rm.frames ∧ 8 + (maxL + 11) + rm1.locals ≤ rm.locals) (As : List Value) (hm : Cond.methodLink own idx y ∈ Om ∧ Cond.static y ∈ Om ∧ Cond.initialized y.cls ∈ Om) (hdc : y.cls ≠ "java/lang/invoke/MethodHandle" ∧ y.cls ≠ "java/lang/invoke/VarHandle" ∧ (parseMethodDescriptor y.desc).map (fun d => d.parameters.length) = some n) (hn : As.length = n) (hsum : (st.map fun v => v.category).sum ≤ 8) (hd : decode cc pc = .ok (.invokestatic idx, 3)) (hF : Wp P As M) (k : ∀ r M1, (-128 ≤ r ∧ r ≤ 127) → P r M1 → J (pc + 3) lv (.int (Ii r) :: st) M1) : J pc lv (As.reverse ++ st) M := by
  obtain ⟨p, e, s, m, args, below, meth, c, ts, c0_, s0_, Qs, hx, hb, hml, hown, hts, hK, hty, hin, hgo, hrc, hrs, hXc, hXt, rfl, hr0, hr1, hr2, hr3, hr4⟩ := h
  intro hR H locs ls hP hS hl
  have hgw : GoodIn Om ws := by
    intro w h9
    rw [hw] at h9
    rcases List.mem_cons.mp h9 with rfl | h9
    · exact hgo _ hcd
    · exact hgo _ h9
  have hA : ∀ q, jA ad ks.length H.size q → jA ad ks.length s.heap.size q := fun q z => by
    rcases z with z | z
    · exact Or.inl z
    · exact Or.inr (Nat.le_trans hS.1 z)
  refine va_calli (va_runS (As := As) (rest := st) ⟨hx, hb, hml, hown, hts⟩ (hM P _ M H.size hR hF) ⟨callB_of n hts hgw hw hR1.1 hR1.2.1 (hts _ hm.2.2) (hts _ hm.1) hdc hR1.2.2, hts _ hm.2.1⟩ ⟨(fun a U g mk q => by obtain ⟨q0, q1, qX, qP, qK⟩ := q; exact ⟨q0, q1, hXc.2 _ _ _ _ _ qX, qP, va_K.moved (u := U) (U := U.calling g mk a) (Vm.Alike.refl U.vm) qK⟩), (fun U hU hW => ⟨rfl, by rw [hU], hXc.1 _ _ _ _ _ _ hXt hS hA hU hW, by rw [hU]; exact hP, va_K.moved hW.alike hK⟩)⟩ rfl hn hl.1 rfl (lv_room hsum) hd ⟨hrc, hrs⟩) hS (fun q _ z => hA q z) hA (fun r u t H1 locs ht hvm hw2 hB hz1 hk1 hS => ?_)
  obtain ⟨r9, M1⟩ := u
  obtain ⟨⟨rfl, qg⟩, qR, qp⟩ := hw2
  exact k r9 M1 qg qp qR H1 locs ls (by rw [← ht]; exact hB.1) hS hl
theorem j_callTv (h : jOk l D cl tys cy ad ft ks Xt Om own cc nL rk rm post J) {y : MethodName} {bytes : ByteArray} {maxL n idx : Nat} {ws : List Cond} {rm1 : Room} {Wp : (Int → MM → Prop) → List Value → MM → Prop} {P : Int → MM → Prop} (hM : jCN l D cl tys cy ad ft ks Xt y ws rm1 0 Wp) (hw : ws = Cond.code y bytes maxL (jrt 0) :: Om) (hcd : Cond.code y bytes maxL (jrt 0) ∈ Om) (hR1 : rm1.cells = 0 ∧ rm1.slots = 0 ∧ rm1.frames + 1 ≤ rm.frames ∧ 8 + (maxL + 11) + rm1.locals ≤ rm.locals) {C : String} {q : Nat} (As : List Value) (hm : Cond.methodLink own idx y ∈ Om ∧ Cond.instanceMethod y ∈ Om ∧ Cond.selects C y y ∈ Om ∧ Cond.initialized C ∈ Om) (hdc : y.cls = C ∧ y.cls ≠ "java/lang/invoke/MethodHandle" ∧ y.cls ≠ "java/lang/invoke/VarHandle" ∧ (parseMethodDescriptor y.desc).map (fun d => d.parameters.length) = some n) (hz : ∀ A U, Xt A U → va_O C q A U U.heap) (hn : As.length = n) (hsum : (st.map fun v => v.category).sum ≤ 8) (hd : decode cc pc = .ok (.invokevirtual idx, 3)) (hF : Wp P (.ref q :: As) M) (k : ∀ M1, P 0 M1 → J (pc + 3) lv st M1) : J pc lv (As.reverse ++ .ref q :: st) M := by
  obtain ⟨p, e, s, m, args, below, meth, c, ts, c0_, s0_, Qs, hx, hb, hml, hown, hts, hK, hty, hin, hgo, hrc, hrs, hXc, hXt, rfl, hr0, hr1, hr2, hr3, hr4⟩ := h
  intro hR H locs ls hP hS hl
  have hgw : GoodIn Om (wsV own idx C y ws) := by
    intro w h9
    unfold wsV at h9
    rcases List.mem_append.mp h9 with h9 | h9
    · simp only [List.mem_cons, List.not_mem_nil, or_false] at h9
      rcases h9 with rfl | rfl | rfl | rfl
      · exact hgo _ hm.1
      · exact hgo _ hm.2.1
      · exact hgo _ hm.2.2.1
      · exact hgo _ hm.2.2.2
    · rw [hw] at h9
      rcases List.mem_cons.mp h9 with rfl | h9
      · exact hgo _ hcd
      · exact hgo _ h9
  have hrcv : ∃ cell : Cell, H[q]? = some cell ∧ cell.vm.isStatics = false ∧ s.vm.findClass C = some cell.cls := by
    obtain ⟨cell, h1, h2, h3, -⟩ := (hz _ _ hXt).kept hS.2.1
    exact ⟨cell, h1, h2, h3⟩
  have hA : ∀ q, jA ad ks.length H.size q → jA ad ks.length s.heap.size q := fun q z => by
    rcases z with z | z
    · exact Or.inl z
    · exact Or.inr (Nat.le_trans hS.1 z)
  refine va_callv (va_runV (As := As) (rest := st) ⟨hx, hb, hml, hown, hts⟩ (hM P _ M H.size hR hF) (cwV n hts hgw hw hR1.1 hR1.2.1 hdc hR1.2.2) ⟨(fun a U g mk q => by obtain ⟨q0, q1, qX, qP, qK⟩ := q; exact ⟨q0, q1, hXc.2 _ _ _ _ _ qX, qP, va_K.moved (u := U) (U := U.calling g mk a) (Vm.Alike.refl U.vm) qK⟩), hrcv, (fun U hU hW => ⟨rfl, by rw [hU], hXc.1 _ _ _ _ _ _ hXt hS hA hU hW, by rw [hU]; exact hP, va_K.moved hW.alike hK⟩)⟩ rfl hn hl.1 rfl (lv_room hsum) hd ⟨hrc, hrs⟩) hS (fun q _ z => hA q z) hA (fun u t H1 locs ht hvm hw2 hB hz1 hk1 hS => ?_)
  obtain ⟨qR, qp⟩ := hw2
  exact k u qp qR H1 locs ls (by rw [← ht]; exact hB.1) hS hl
theorem j_callTi (h : jOk l D cl tys cy ad ft ks Xt Om own cc nL rk rm post J) {y : MethodName} {bytes : ByteArray} {maxL n idx : Nat} {ws : List Cond} {rm1 : Room} {Wp : (Int → MM → Prop) → List Value → MM → Prop} {P : Int → MM → Prop} (hM : jCN l D cl tys cy ad ft ks Xt y ws rm1 1 Wp) (hw : ws = Cond.code y bytes maxL (jrt 1) :: Om) (hcd : Cond.code y bytes maxL (jrt 1) ∈ Om) (hR1 : rm1.cells = 0 ∧ rm1.slots = 0 ∧ rm1.frames + 1 ≤ rm.frames ∧ 8 + (maxL + 11) + rm1.locals ≤ rm.locals) {C : String} {q : Nat} (As : List Value) (hm : Cond.methodLink own idx y ∈ Om ∧ Cond.instanceMethod y ∈ Om ∧ Cond.selects C y y ∈ Om ∧ Cond.initialized C ∈ Om) (hdc : y.cls = C ∧ y.cls ≠ "java/lang/invoke/MethodHandle" ∧ y.cls ≠ "java/lang/invoke/VarHandle" ∧ (parseMethodDescriptor y.desc).map (fun d => d.parameters.length) = some n) (hz : ∀ A U, Xt A U → va_O C q A U U.heap) (hn : As.length = n) (hsum : (st.map fun v => v.category).sum ≤ 8) (hd : decode cc pc = .ok (.invokevirtual idx, 3)) (hF : Wp P (.ref q :: As) M) (k : ∀ r M1, ri_ r → P r M1 → J (pc + 3) lv (.int (Ii r) :: st) M1) : J pc lv (As.reverse ++ .ref q :: st) M := by
  obtain ⟨p, e, s, m, args, below, meth, c, ts, c0_, s0_, Qs, hx, hb, hml, hown, hts, hK, hty, hin, hgo, hrc, hrs, hXc, hXt, rfl, hr0, hr1, hr2, hr3, hr4⟩ := h
  intro hR H locs ls hP hS hl
  have hgw : GoodIn Om (wsV own idx C y ws) := by
    intro w h9
    unfold wsV at h9
    rcases List.mem_append.mp h9 with h9 | h9
    · simp only [List.mem_cons, List.not_mem_nil, or_false] at h9
      rcases h9 with rfl | rfl | rfl | rfl
      · exact hgo _ hm.1
      · exact hgo _ hm.2.1
      · exact hgo _ hm.2.2.1
      · exact hgo _ hm.2.2.2
    · rw [hw] at h9
      rcases List.mem_cons.mp h9 with rfl | h9
      · exact hgo _ hcd
      · exact hgo _ h9
  have hrcv : ∃ cell : Cell, H[q]? = some cell ∧ cell.vm.isStatics = false ∧ s.vm.findClass C = some cell.cls := by
    obtain ⟨cell, h1, h2, h3, -⟩ := (hz _ _ hXt).kept hS.2.1
    exact ⟨cell, h1, h2, h3⟩
  have hA : ∀ q, jA ad ks.length H.size q → jA ad ks.length s.heap.size q := fun q z => by
    rcases z with z | z
    · exact Or.inl z
    · exact Or.inr (Nat.le_trans hS.1 z)
  refine va_calli (va_runV (As := As) (rest := st) ⟨hx, hb, hml, hown, hts⟩ (hM P _ M H.size hR hF) (cwV n hts hgw hw hR1.1 hR1.2.1 hdc hR1.2.2) ⟨(fun a U g mk q => by obtain ⟨q0, q1, qX, qP, qK⟩ := q; exact ⟨q0, q1, hXc.2 _ _ _ _ _ qX, qP, va_K.moved (u := U) (U := U.calling g mk a) (Vm.Alike.refl U.vm) qK⟩), hrcv, (fun U hU hW => ⟨rfl, by rw [hU], hXc.1 _ _ _ _ _ _ hXt hS hA hU hW, by rw [hU]; exact hP, va_K.moved hW.alike hK⟩)⟩ rfl hn hl.1 rfl (lv_room hsum) hd ⟨hrc, hrs⟩) hS (fun q _ z => hA q z) hA (fun r u t H1 locs ht hvm hw2 hB hz1 hk1 hS => ?_)
  obtain ⟨r9, M1⟩ := u
  obtain ⟨⟨rfl, qg⟩, qR, qp⟩ := hw2
  exact k r9 M1 qg qp qR H1 locs ls (by rw [← ht]; exact hB.1) hS hl
theorem j_callTl (h : jOk l D cl tys cy ad ft ks Xt Om own cc nL rk rm post J) {y : MethodName} {bytes : ByteArray} {maxL n idx : Nat} {ws : List Cond} {rm1 : Room} {Wp : (Int → MM → Prop) → List Value → MM → Prop} {P : Int → MM → Prop} (hM : jCN l D cl tys cy ad ft ks Xt y ws rm1 2 Wp) (hw : ws = Cond.code y bytes maxL (jrt 2) :: Om) (hcd : Cond.code y bytes maxL (jrt 2) ∈ Om) (hR1 : rm1.cells = 0 ∧ rm1.slots = 0 ∧ rm1.frames + 1 ≤ rm.frames ∧ 8 + (maxL + 11) + rm1.locals ≤ rm.locals) {C : String} {q : Nat} (As : List Value) (hm : Cond.methodLink own idx y ∈ Om ∧ Cond.instanceMethod y ∈ Om ∧ Cond.selects C y y ∈ Om ∧ Cond.initialized C ∈ Om) (hdc : y.cls = C ∧ y.cls ≠ "java/lang/invoke/MethodHandle" ∧ y.cls ≠ "java/lang/invoke/VarHandle" ∧ (parseMethodDescriptor y.desc).map (fun d => d.parameters.length) = some n) (hz : ∀ A U, Xt A U → va_O C q A U U.heap) (hn : As.length = n) (hsum : (st.map fun v => v.category).sum ≤ 8) (hd : decode cc pc = .ok (.invokevirtual idx, 3)) (hF : Wp P (.ref q :: As) M) (k : ∀ r M1, rl_ r → P r M1 → J (pc + 3) lv (.long (Ll r) :: st) M1) : J pc lv (As.reverse ++ .ref q :: st) M := by
  obtain ⟨p, e, s, m, args, below, meth, c, ts, c0_, s0_, Qs, hx, hb, hml, hown, hts, hK, hty, hin, hgo, hrc, hrs, hXc, hXt, rfl, hr0, hr1, hr2, hr3, hr4⟩ := h
  intro hR H locs ls hP hS hl
  have hgw : GoodIn Om (wsV own idx C y ws) := by
    intro w h9
    unfold wsV at h9
    rcases List.mem_append.mp h9 with h9 | h9
    · simp only [List.mem_cons, List.not_mem_nil, or_false] at h9
      rcases h9 with rfl | rfl | rfl | rfl
      · exact hgo _ hm.1
      · exact hgo _ hm.2.1
      · exact hgo _ hm.2.2.1
      · exact hgo _ hm.2.2.2
    · rw [hw] at h9
      rcases List.mem_cons.mp h9 with rfl | h9
      · exact hgo _ hcd
      · exact hgo _ h9
  have hrcv : ∃ cell : Cell, H[q]? = some cell ∧ cell.vm.isStatics = false ∧ s.vm.findClass C = some cell.cls := by
    obtain ⟨cell, h1, h2, h3, -⟩ := (hz _ _ hXt).kept hS.2.1
    exact ⟨cell, h1, h2, h3⟩
  have hA : ∀ q, jA ad ks.length H.size q → jA ad ks.length s.heap.size q := fun q z => by
    rcases z with z | z
    · exact Or.inl z
    · exact Or.inr (Nat.le_trans hS.1 z)
  refine va_calll (va_runV (As := As) (rest := st) ⟨hx, hb, hml, hown, hts⟩ (hM P _ M H.size hR hF) (cwV n hts hgw hw hR1.1 hR1.2.1 hdc hR1.2.2) ⟨(fun a U g mk q => by obtain ⟨q0, q1, qX, qP, qK⟩ := q; exact ⟨q0, q1, hXc.2 _ _ _ _ _ qX, qP, va_K.moved (u := U) (U := U.calling g mk a) (Vm.Alike.refl U.vm) qK⟩), hrcv, (fun U hU hW => ⟨rfl, by rw [hU], hXc.1 _ _ _ _ _ _ hXt hS hA hU hW, by rw [hU]; exact hP, va_K.moved hW.alike hK⟩)⟩ rfl hn hl.1 rfl (lv_room hsum) hd ⟨hrc, hrs⟩) hS (fun q _ z => hA q z) hA (fun r u t H1 locs ht hvm hw2 hB hz1 hk1 hS => ?_)
  obtain ⟨r9, M1⟩ := u
  obtain ⟨⟨rfl, qg⟩, qR, qp⟩ := hw2
  exact k r9 M1 qg qp qR H1 locs ls (by rw [← ht]; exact hB.1) hS hl
theorem j_callTz (h : jOk l D cl tys cy ad ft ks Xt Om own cc nL rk rm post J) {y : MethodName} {bytes : ByteArray} {maxL n idx : Nat} {ws : List Cond} {rm1 : Room} {Wp : (Int → MM → Prop) → List Value → MM → Prop} {P : Int → MM → Prop} (hM : jCN l D cl tys cy ad ft ks Xt y ws rm1 3 Wp) (hw : ws = Cond.code y bytes maxL (jrt 3) :: Om) (hcd : Cond.code y bytes maxL (jrt 3) ∈ Om) (hR1 : rm1.cells = 0 ∧ rm1.slots = 0 ∧ rm1.frames + 1 ≤ rm.frames ∧ 8 + (maxL + 11) + rm1.locals ≤ rm.locals) {C : String} {q : Nat} (As : List Value) (hm : Cond.methodLink own idx y ∈ Om ∧ Cond.instanceMethod y ∈ Om ∧ Cond.selects C y y ∈ Om ∧ Cond.initialized C ∈ Om) (hdc : y.cls = C ∧ y.cls ≠ "java/lang/invoke/MethodHandle" ∧ y.cls ≠ "java/lang/invoke/VarHandle" ∧ (parseMethodDescriptor y.desc).map (fun d => d.parameters.length) = some n) (hz : ∀ A U, Xt A U → va_O C q A U U.heap) (hn : As.length = n) (hsum : (st.map fun v => v.category).sum ≤ 8) (hd : decode cc pc = .ok (.invokevirtual idx, 3)) (hF : Wp P (.ref q :: As) M) (k : ∀ r M1, (r = 0 ∨ r = 1) → P r M1 → J (pc + 3) lv (.int (Ii r) :: st) M1) : J pc lv (As.reverse ++ .ref q :: st) M := by
  obtain ⟨p, e, s, m, args, below, meth, c, ts, c0_, s0_, Qs, hx, hb, hml, hown, hts, hK, hty, hin, hgo, hrc, hrs, hXc, hXt, rfl, hr0, hr1, hr2, hr3, hr4⟩ := h
  intro hR H locs ls hP hS hl
  have hgw : GoodIn Om (wsV own idx C y ws) := by
    intro w h9
    unfold wsV at h9
    rcases List.mem_append.mp h9 with h9 | h9
    · simp only [List.mem_cons, List.not_mem_nil, or_false] at h9
      rcases h9 with rfl | rfl | rfl | rfl
      · exact hgo _ hm.1
      · exact hgo _ hm.2.1
      · exact hgo _ hm.2.2.1
      · exact hgo _ hm.2.2.2
    · rw [hw] at h9
      rcases List.mem_cons.mp h9 with rfl | h9
      · exact hgo _ hcd
      · exact hgo _ h9
  have hrcv : ∃ cell : Cell, H[q]? = some cell ∧ cell.vm.isStatics = false ∧ s.vm.findClass C = some cell.cls := by
    obtain ⟨cell, h1, h2, h3, -⟩ := (hz _ _ hXt).kept hS.2.1
    exact ⟨cell, h1, h2, h3⟩
  have hA : ∀ q, jA ad ks.length H.size q → jA ad ks.length s.heap.size q := fun q z => by
    rcases z with z | z
    · exact Or.inl z
    · exact Or.inr (Nat.le_trans hS.1 z)
  refine va_calli (va_runV (As := As) (rest := st) ⟨hx, hb, hml, hown, hts⟩ (hM P _ M H.size hR hF) (cwV n hts hgw hw hR1.1 hR1.2.1 hdc hR1.2.2) ⟨(fun a U g mk q => by obtain ⟨q0, q1, qX, qP, qK⟩ := q; exact ⟨q0, q1, hXc.2 _ _ _ _ _ qX, qP, va_K.moved (u := U) (U := U.calling g mk a) (Vm.Alike.refl U.vm) qK⟩), hrcv, (fun U hU hW => ⟨rfl, by rw [hU], hXc.1 _ _ _ _ _ _ hXt hS hA hU hW, by rw [hU]; exact hP, va_K.moved hW.alike hK⟩)⟩ rfl hn hl.1 rfl (lv_room hsum) hd ⟨hrc, hrs⟩) hS (fun q _ z => hA q z) hA (fun r u t H1 locs ht hvm hw2 hB hz1 hk1 hS => ?_)
  obtain ⟨r9, M1⟩ := u
  obtain ⟨⟨rfl, qg⟩, qR, qp⟩ := hw2
  exact k r9 M1 qg qp qR H1 locs ls (by rw [← ht]; exact hB.1) hS hl
theorem j_callTb (h : jOk l D cl tys cy ad ft ks Xt Om own cc nL rk rm post J) {y : MethodName} {bytes : ByteArray} {maxL n idx : Nat} {ws : List Cond} {rm1 : Room} {Wp : (Int → MM → Prop) → List Value → MM → Prop} {P : Int → MM → Prop} (hM : jCN l D cl tys cy ad ft ks Xt y ws rm1 4 Wp) (hw : ws = Cond.code y bytes maxL (jrt 4) :: Om) (hcd : Cond.code y bytes maxL (jrt 4) ∈ Om) (hR1 : rm1.cells = 0 ∧ rm1.slots = 0 ∧ rm1.frames + 1 ≤ rm.frames ∧ 8 + (maxL + 11) + rm1.locals ≤ rm.locals) {C : String} {q : Nat} (As : List Value) (hm : Cond.methodLink own idx y ∈ Om ∧ Cond.instanceMethod y ∈ Om ∧ Cond.selects C y y ∈ Om ∧ Cond.initialized C ∈ Om) (hdc : y.cls = C ∧ y.cls ≠ "java/lang/invoke/MethodHandle" ∧ y.cls ≠ "java/lang/invoke/VarHandle" ∧ (parseMethodDescriptor y.desc).map (fun d => d.parameters.length) = some n) (hz : ∀ A U, Xt A U → va_O C q A U U.heap) (hn : As.length = n) (hsum : (st.map fun v => v.category).sum ≤ 8) (hd : decode cc pc = .ok (.invokevirtual idx, 3)) (hF : Wp P (.ref q :: As) M) (k : ∀ r M1, (-128 ≤ r ∧ r ≤ 127) → P r M1 → J (pc + 3) lv (.int (Ii r) :: st) M1) : J pc lv (As.reverse ++ .ref q :: st) M := by
  obtain ⟨p, e, s, m, args, below, meth, c, ts, c0_, s0_, Qs, hx, hb, hml, hown, hts, hK, hty, hin, hgo, hrc, hrs, hXc, hXt, rfl, hr0, hr1, hr2, hr3, hr4⟩ := h
  intro hR H locs ls hP hS hl
  have hgw : GoodIn Om (wsV own idx C y ws) := by
    intro w h9
    unfold wsV at h9
    rcases List.mem_append.mp h9 with h9 | h9
    · simp only [List.mem_cons, List.not_mem_nil, or_false] at h9
      rcases h9 with rfl | rfl | rfl | rfl
      · exact hgo _ hm.1
      · exact hgo _ hm.2.1
      · exact hgo _ hm.2.2.1
      · exact hgo _ hm.2.2.2
    · rw [hw] at h9
      rcases List.mem_cons.mp h9 with rfl | h9
      · exact hgo _ hcd
      · exact hgo _ h9
  have hrcv : ∃ cell : Cell, H[q]? = some cell ∧ cell.vm.isStatics = false ∧ s.vm.findClass C = some cell.cls := by
    obtain ⟨cell, h1, h2, h3, -⟩ := (hz _ _ hXt).kept hS.2.1
    exact ⟨cell, h1, h2, h3⟩
  have hA : ∀ q, jA ad ks.length H.size q → jA ad ks.length s.heap.size q := fun q z => by
    rcases z with z | z
    · exact Or.inl z
    · exact Or.inr (Nat.le_trans hS.1 z)
  refine va_calli (va_runV (As := As) (rest := st) ⟨hx, hb, hml, hown, hts⟩ (hM P _ M H.size hR hF) (cwV n hts hgw hw hR1.1 hR1.2.1 hdc hR1.2.2) ⟨(fun a U g mk q => by obtain ⟨q0, q1, qX, qP, qK⟩ := q; exact ⟨q0, q1, hXc.2 _ _ _ _ _ qX, qP, va_K.moved (u := U) (U := U.calling g mk a) (Vm.Alike.refl U.vm) qK⟩), hrcv, (fun U hU hW => ⟨rfl, by rw [hU], hXc.1 _ _ _ _ _ _ hXt hS hA hU hW, by rw [hU]; exact hP, va_K.moved hW.alike hK⟩)⟩ rfl hn hl.1 rfl (lv_room hsum) hd ⟨hrc, hrs⟩) hS (fun q _ z => hA q z) hA (fun r u t H1 locs ht hvm hw2 hB hz1 hk1 hS => ?_)
  obtain ⟨r9, M1⟩ := u
  obtain ⟨⟨rfl, qg⟩, qR, qp⟩ := hw2
  exact k r9 M1 qg qp qR H1 locs ls (by rw [← ht]; exact hB.1) hS hl
end JC
/-- a contract out of a walk by J -/
theorem jCN_of {l : Launch} {D : va_G} {cl : List vw_C} {tys : List (ClassId × FieldType)} {cy : Nat → ClassId} {ad : Nat → Nat} {ft : Nat → List (Nat × Nat)} {ks : List (Nat × Nat)} {Xt : (Nat → Prop) → State → Prop} {Om : List Cond} {own : String} {cc : ByteArray} {nL rk : Nat} {rm : Room} {y : MethodName} {Wp : (Int → MM → Prop) → List Value → MM → Prop}
    (hty : jTy tys cy) (hin : jIn ad ks.length) (hXc : jX Xt) (hgo : GoodIn Om Om) (hy : plainName y.cls = true) (ho : y.cls = own)
    (body : ∀ post av M, Wp post av M → (lg_sl av).length ≤ nL ∧ ∀ J, jOk l D cl tys cy ad ft ks Xt Om own cc nL rk rm post J → J 0 (lv_args 0 av) [] M) :
    jCN l D cl tys cy ad ft ks Xt y (Cond.code y cc nL (jrt rk) :: Om) rm rk Wp := by
  intro post av M sz hR hF
  obtain ⟨hlen, hJ⟩ := body post av M hF
  refine Met.ofW (cc := cc) (maxL := nL) (ret := jrt rk) hy rfl ?_
  intro p e s m args below meth c s₁ B hml hv
  obtain ⟨rfl, hsz, hXt, hP, hK⟩ := hv
  have hx := B.exec
  have hb := B.bytes
  have hr := B.returns
  have hlk := B.notSynchronized
  have hts := atoms_spec (ws := Cond.code y cc nL (jrt rk) :: Om) B.pre
  have hown : s.vm.findClass own = some m.cls := by rw [← ho]; exact findClass_of_methodNamed B.named
  subst hsz
  have hl := lv_entry av (n := nL) hlen
  rw [lg_entry_eq]
  refine hJ _ ⟨p, e, s, m, av.toArray, below, meth, c, Cond.code y cc nL (jrt rk) :: Om, 0, 0, _, hx, hb, hml, hown, fun w h => hts w (List.mem_cons_of_mem _ h), hK, hty, hin, hgo, Nat.zero_le _, Nat.zero_le _, hXc, hXt, rfl, ?_, ?_, ?_, ?_, ?_⟩ hR s.heap [] _ hP va_S.rf hl
  · intro hrk pc lv M hd hq hR H locs ls hP hS hl
    subst hrk
    exact W.vret hx hb hr (fun t ht hW => ⟨⟨M, rfl, ⟨hR, hq⟩, by rw [ht]; exact hP, va_K.moved hW.alike hK⟩, hS.F ht⟩) hS.2.2 hd
  · intro hrk pc lv M x gx hd hq hR H locs ls hP hS hl
    subst hrk
    exact W.iret hx hb hr (fun t ht hW => ⟨⟨_, (x, M), rfl, ⟨⟨rfl, gx⟩, hR, hq⟩, by rw [ht]; exact hP, va_K.moved hW.alike hK⟩, hS.F ht⟩) hS.2.2 hd
  · intro hrk pc lv M x gx hd hq hR H locs ls hP hS hl
    subst hrk
    exact W.lret hx hb hr (fun t ht hW => ⟨⟨_, (x, M), rfl, ⟨⟨rfl, gx⟩, hR, hq⟩, by rw [ht]; exact hP, va_K.moved hW.alike hK⟩, hS.F ht⟩) hS.2.2 hd
  · intro hrk pc lv M x gx hd hq hR H locs ls hP hS hl
    subst hrk
    exact W.zret hx hb hr (jz_nar gx).1 (fun t ht hW => ⟨⟨_, (x, M), rfl, ⟨⟨rfl, gx⟩, hR, hq⟩, by rw [ht]; exact hP, va_K.moved hW.alike hK⟩, hS.F ht⟩) hS.2.2 hd
  · intro hrk pc lv M x gx hd hq hR H locs ls hP hS hl
    subst hrk
    exact W.zret hx hb hr (jb_narr gx) (fun t ht hW => ⟨⟨_, (x, M), rfl, ⟨⟨rfl, gx⟩, hR, hq⟩, by rw [ht]; exact hP, va_K.moved hW.alike hK⟩, hS.F ht⟩) hS.2.2 hd
