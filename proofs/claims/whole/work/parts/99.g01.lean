/-! constructors: a world that grows, cell n at b0 + n -/
def jdf (ft : Nat → List (Nat × Nat)) (k : Nat × Nat) (i : Int) : Int := match k.1 with
  | 0 => 0
  | 1 => 0
  | 2 => 0
  | 3 => 0
  | 4 => -1
  | 5 => -1
  | _ => match (ft k.2)[i.toNat]? with
    | none => 0
    | some d => if d.1 = 3 then -1 else 0
def jSz (ft : Nat → List (Nat × Nat)) (k : Nat × Nat) : Nat := if k.1 < 6 then k.2 else (ft k.2).length
def jSl (ft : Nat → List (Nat × Nat)) (ks : List (Nat × Nat)) (n : Nat) : Nat := ((ks.take n).map (jSz ft)).sum
/-- cells from n on are as if new -/
def jFr (ft : Nat → List (Nat × Nat)) (ks : List (Nat × Nat)) (n : Nat) (M : MM) : Prop := ∀ (c : Nat) (k : Nat × Nat), n ≤ c → ks[c]? = some k → M c = jdf ft k
theorem jFr_up {ft : Nat → List (Nat × Nat)} {ks : List (Nat × Nat)} {n c : Nat} {M : MM} {i v : Int} (h : jFr ft ks n M) (hc : c < n) : jFr ft ks n (ux_ M c i v) := fun c' k a b => by
  have : ux_ M c i v c' = M c' := funext fun j => by unfold ux_; rw [if_neg (by omega)]
  rw [this]; exact h c' k a b
theorem jFr_w {ft : Nat → List (Nat × Nat)} {ks : List (Nat × Nat)} {n n' : Nat} {M : MM} (h : jFr ft ks n M) (hn : n ≤ n') : jFr ft ks n' M := fun c k a b => h c k (by omega) b
theorem jSl_s {ft : Nat → List (Nat × Nat)} {ks : List (Nat × Nat)} {n : Nat} {k : Nat × Nat} (h : ks[n]? = some k) : jSl ft ks (n + 1) = jSl ft ks n + jSz ft k := by
  unfold jSl
  rw [List.take_succ, h]
  simp
theorem jSl_1 {ft : Nat → List (Nat × Nat)} {ks : List (Nat × Nat)} (n : Nat) : jSl ft ks n ≤ jSl ft ks (n + 1) := by
  cases h : ks[n]? with
  | none =>
    unfold jSl
    rw [List.take_succ, h]
    simp
  | some k => rw [jSl_s h]; omega
theorem jSl_le {ft : Nat → List (Nat × Nat)} {ks : List (Nat × Nat)} (a d : Nat) : jSl ft ks a ≤ jSl ft ks (a + d) := by
  induction d with
  | zero => exact Nat.le_refl _
  | succ d ih => exact Nat.le_trans ih (jSl_1 _)
theorem jSl_m {ft : Nat → List (Nat × Nat)} {ks : List (Nat × Nat)} {a b c : Nat} (h : a ≤ b) : jSl ft ks a - c ≤ jSl ft ks b - c := by
  have := jSl_le (ft := ft) (ks := ks) a (b - a)
  rw [show a + (b - a) = b from by omega] at this
  omega
theorem jFr_fl {ft : Nat → List (Nat × Nat)} {ks : List (Nat × Nat)} {n c : Nat} {M : MM} {f t v : Int} (h : jFr ft ks n M) (hc : c < n) : jFr ft ks n (filled M c f t v) := fun c' k a b => by
  have : filled M c f t v c' = M c' := funext fun j => by unfold filled; rw [if_neg (by omega)]
  rw [this]; exact h c' k a b
theorem tkk {ks : List (Nat × Nat)} {n c : Nat} {k : Nat × Nat} (h : ks[c]? = some k) (hn : c < n) : (ks.take n)[c]? = some k := by
  rw [List.getElem?_take_of_lt hn]; exact h
theorem tkl {ks : List (Nat × Nat)} {n : Nat} (h : n ≤ ks.length) : (ks.take n).length = n := by rw [List.length_take]; omega
theorem jso_e {ft : Nat → List (Nat × Nat)} {ks ks' : List (Nat × Nat)} {c : Nat} {i : Int} (h : ks[c]? = ks'[c]?) : jso ft ks c i = jso ft ks' c i := by unfold jso; rw [h]
theorem jdf_rg {ft : Nat → List (Nat × Nat)} {ks : List (Nat × Nat)} {n : Nat} {k : Nat × Nat} (h : ks[n]? = some k) (i : Int) : jrg (jso ft ks n i) (jdf ft k i) := by
  unfold jso jdf
  rw [h]
  obtain ⟨k1, k2⟩ := k
  match k1 with
  | 0 => show ri_ 0; unfold ri_; omega
  | 1 => show rl_ 0; unfold rl_; omega
  | 2 => exact Or.inl rfl
  | 3 => show -128 ≤ (0 : Int) ∧ (0 : Int) ≤ 127; omega
  | 4 => show ri_ (-1); unfold ri_; omega
  | 5 => show ri_ (-1); unfold ri_; omega
  | k1 + 6 =>
    simp only
    cases (ft k2)[i.toNat]? with
    | none => show ri_ 0; unfold ri_; omega
    | some d =>
      obtain ⟨d1, d2⟩ := d
      match d1 with
      | 0 => show ri_ 0; unfold ri_; omega
      | 1 => show rl_ 0; unfold rl_; omega
      | 2 => exact Or.inl rfl
      | 3 => show ri_ (-1); unfold ri_; omega
      | d1 + 4 =>
        show ri_ (if d1 + 4 = 3 then -1 else 0)
        rw [if_neg (by omega)]; unfold ri_; omega
theorem jRg_grow {ft : Nat → List (Nat × Nat)} {ks : List (Nat × Nat)} {n : Nat} {k : Nat × Nat} {M : MM} (h : jRg ft (ks.take n) M) (hk : ks[n]? = some k) (hm : M n = jdf ft k) : jRg ft (ks.take (n + 1)) M := by
  intro c i
  by_cases e : c = n
  · subst e
    rw [hm]
    exact jdf_rg (tkk hk (by omega)) i
  · have : jso ft (ks.take (n + 1)) c i = jso ft (ks.take n) c i := by
      apply jso_e
      by_cases z : c < n
      · rw [List.getElem?_take_of_lt z, List.getElem?_take_of_lt (by omega)]
      · rw [List.getElem?_eq_none_iff.mpr (by rw [List.length_take]; omega), List.getElem?_eq_none_iff.mpr (by rw [List.length_take]; omega)]
    rw [this]; exact h c i
theorem jcs_grow {cy : Nat → ClassId} {ad : Nat → Nat} {ft : Nat → List (Nat × Nat)} {ks : List (Nat × Nat)} {n : Nat} {k : Nat × Nat} {M : MM} (hk : ks[n]? = some k) : jcs cy ad ft (ks.take (n + 1)) M = jcs cy ad ft (ks.take n) M ++ [(ad n, jce cy ad ft k n (M n))] := by
  have hl : n < ks.length := (List.getElem?_eq_some_iff.mp hk).1
  unfold jcs
  rw [List.take_succ, hk]
  show List.mapIdx _ (ks.take n ++ [k]) = _
  rw [List.mapIdx_concat, List.length_take, Nat.min_eq_left (by omega)]
theorem jA_b {ad : Nat → Nat} {b0 n sz : Nat} (had : ∀ k, k < n → ad k = b0 + k) (h1 : b0 ≤ sz) (h2 : sz ≤ b0 + n) : jA ad n sz = fun q => b0 ≤ q := by
  funext q
  apply propext
  constructor
  · intro h
    rcases h with ⟨k, hk, rfl⟩ | h
    · rw [had k hk]; omega
    · omega
  · intro h
    by_cases z : q < b0 + n
    · exact Or.inl ⟨q - b0, by omega, by rw [had _ (by omega)]; omega⟩
    · exact Or.inr (by omega)
theorem jIn_b {ad : Nat → Nat} {b0 n : Nat} (had : ∀ k, k < n → ad k = b0 + k) : jIn ad n := fun i j hi hj e => by rw [had i hi, had j hj] at e; omega
def jJ (p : Program) (l : Launch) (e : Env) (s : State) (m : MethodId) (args : Array Value) (below : List Frame) (meth : Method) (c : Code) (rm : Room) (D : va_G) (cl : List vw_C) (cy : Nat → ClassId) (ad : Nat → Nat) (ft : Nat → List (Nat × Nat)) (ks : List (Nat × Nat)) (nL b0 n0 : Nat) (Qs : State → Prop) (i pc : Nat) (lv : List (Nat × Value)) (st : List Value) (M : MM) : Prop :=
  jRg ft (ks.take (n0 + i)) M → ∀ (H : Heap) (locs : List Loc) (ls : Array Slot), va_P D cl (jcs cy ad ft (ks.take (n0 + i)) M) H → va_S (fun q => b0 ≤ q) s.heap H locs → lv_has ls nL lv →
    W p l e rm s m args below meth c H locs i (jSl ft ks (n0 + i) - jSl ft ks n0) Qs (F0 m pc ls st)
/-- a constructor's contract: n0 cells stand (the last its object), k more come -/
def jKN (l : Launch) (D : va_G) (cl : List vw_C) (tys : List (ClassId × FieldType)) (cy : Nat → ClassId) (ad : Nat → Nat) (ft : Nat → List (Nat × Nat)) (ks : List (Nat × Nat)) (Xt : (Nat → Prop) → State → Prop) (y : MethodName) (ws : List Cond) (rm : Room) (b0 n0 k : Nat) (Wp : (MM → Prop) → List Value → MM → Prop) : Prop :=
  ∀ (post : MM → Prop) (av : List Value) (M : MM), jRg ft (ks.take n0) M → Wp post av M →
    Met l y ws rm (va_Pc av (fun U => U.heap.size = b0 + n0 ∧ Xt (fun q => b0 ≤ q) U ∧ jWo D cl tys cy ad ft (ks.take n0) M U)) (va_Qv (fun u : MM => jRg ft (ks.take (n0 + k)) u ∧ post u) (fun u t => jWo D cl tys cy ad ft (ks.take (n0 + k)) u t) (fun q => b0 ≤ q)) k (jSl ft ks (n0 + k) - jSl ft ks n0) (fun q => b0 ≤ q)
def jFPF (cl : List vw_C) (Om : List Cond) (own : String) (idx ci f : Nat) (ty : FieldType) : Prop := ∃ (C : String) (T : u_T) (N : Nat) (ty0 : Nat → FieldType), cl[ci]? = some (C, T, N) ∧ (∀ w ∈ u_ws C T N, w ∈ Om) ∧ f < N ∧ Cond.fieldLink own idx (T f).1 (T f).2.1 (T f).2.2.1 ∈ Om ∧
  (∀ k, k < N → parseFieldDescriptor (T k).2.2.1 = some (ty0 k)) ∧ (∀ a, a < N → ∀ b, b < N → a ≠ b → (T a).2.1 ≠ (T b).2.1) ∧ (T f).2.2.2 = true ∧ (T f).1 = own ∧ parseFieldDescriptor (T f).2.2.1 = some ty
def jFd (d : Option (Nat × Nat)) (t : FieldType) : Bool := match d, t with
  | some (0, _), .int => true
  | some (1, _), .long => true
  | some (2, _), .boolean => true
  | some (3, _), .object _ => true
  | some (3, _), .array _ => true
  | _, _ => false
/-- what 'new' needs of the words -/
def jNC (cl : List vw_C) (Om : List Cond) (ft : Nat → List (Nat × Nat)) (own : String) (idx ci : Nat) : Prop := ∃ (C : String) (T : u_T) (N : Nat) (ty : Nat → FieldType), cl[ci]? = some (C, T, N) ∧ (∀ w ∈ u_ws C T N, w ∈ Om) ∧ (∀ k, k < N → parseFieldDescriptor (T k).2.2.1 = some (ty k)) ∧ Cond.classLink own idx C ∈ Om ∧ Cond.instantiable C N ∈ Om ∧ Cond.initialized C ∈ Om ∧ (ft ci).length = N ∧ ∀ j, j < N → jFd ((ft ci)[j]?) (ty j) = true
theorem jFd_v {ad : Nat → Nat} {n : Nat} {k : Nat × Nat} {ft : Nat → List (Nat × Nat)} {j : Nat} {t : FieldType} (h6 : k.1 = 6) (h : jFd ((ft k.2)[j]?) t = true) : defaultValue t = vp_V ((ft k.2).mapIdx (jfv ad n (jdf ft k))) j := by
  unfold vp_V
  obtain ⟨k1, k2⟩ := k
  simp only at h6
  subst h6
  cases hd : (ft k2)[j]? with
  | none => rw [hd] at h; simp [jFd] at h
  | some d =>
    rw [hd] at h
    show defaultValue t = (List.mapIdx (jfv ad n (jdf ft (6, k2))) (ft k2)).getD j Value.null
    rw [List.getD_eq_getElem?_getD, List.getElem?_mapIdx, hd]
    have hj : jdf ft (6, k2) (j : Int) = if d.1 = 3 then -1 else 0 := by
      unfold jdf
      simp only
      rw [show (j : Int).toNat = j from by omega, hd]
    obtain ⟨d1, d2⟩ := d
    simp only [Option.map_some, Option.getD_some]
    unfold jfv
    rw [hj]
    match d1, t, h with
    | 0, .int, _ => rfl
    | 1, .long, _ => rfl
    | 2, .boolean, _ => rfl
    | 3, .object _, _ => rfl
    | 3, .array _, _ => rfl
