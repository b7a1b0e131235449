/-! methods that throw -/
def jXQ (D : va_G) (cl : List vw_C) (tys : List (ClassId × FieldType)) (cy : Nat → ClassId) (ad : Nat → Nat) (ft : Nat → List (Nat × Nat)) (ks : List (Nat × Nat)) (xpost : String → MM → Prop) (A : Nat → Prop) : String → State → State → Prop := vx_X (fun u : MM => jRg ft ks u) (fun E u t => xpost E u ∧ jWo D cl tys cy ad ft ks u t) A
def jXN (l : Launch) (D : va_G) (cl : List vw_C) (tys : List (ClassId × FieldType)) (cy : Nat → ClassId) (ad : Nat → Nat) (ft : Nat → List (Nat × Nat)) (ks : List (Nat × Nat)) (Xt : (Nat → Prop) → State → Prop) (y : MethodName) (ws : List Cond) (rm : Room) (rk mc ms : Nat) (ns : List String) (Wp : (Int → MM → Prop) → (String → MM → Prop) → List Value → MM → Prop) : Prop :=
  ∀ (post : Int → MM → Prop) (xpost : String → MM → Prop) (av : List Value) (M : MM) (sz : Nat), jRg ft ks M → Wp post xpost av M →
    vx_Met l y ws rm (va_Pc av (fun U => U.heap.size = sz ∧ Xt (jA ad ks.length sz) U ∧ jWo D cl tys cy ad ft ks M U)) (jQ D cl tys cy ad ft ks rk post (jA ad ks.length sz)) (jXQ D cl tys cy ad ft ks (fun E u => E ∈ ns ∧ xpost E u) (jA ad ks.length sz)) mc ms (jA ad ks.length sz)
/-- what a throw of a new exception needs of the words -/
def jTw (Om : List Cond) (own : String) (rm : Room) (ik ic : Nat) (cls : String) (names : List String) : Prop := Bundle.fit cls = true ∧ (∀ n ∈ names, Bundle.fit n = true) ∧ Cond.classLink own ik cls ∈ Om ∧ Cond.initialized cls ∈ Om ∧ (∀ w ∈ (vx_at0 own ic cls names).filter goodWord, w ∈ Om) ∧ (∀ w ∈ (vx_at0 own ic cls names).filter (fun w => !goodWord w), w ∈ xB cls) ∧ cls ∈ xE ∧ (∀ w ∈ Cond.classLink own ik cls :: Cond.initialized cls :: vx_at0 own ic cls names, vx_ot w = true) ∧ names.length + 3 < rm.frames ∧ 13 * (names.length + 1) + 42 ≤ rm.locals
def jTh (own : String) (cc : ByteArray) (Om : List Cond) (rm : Room) (ns : List String) (xpost : String → MM → Prop) (J : Nat → List (Nat × Value) → List Value → MM → Prop) : Prop :=
  ∀ (pc ik ic : Nat) (cls : String) (names : List String) (lv : List (Nat × Value)) (M : MM), cls ∈ ns → jTw Om own rm ik ic cls names → decode cc pc = .ok (.new ik, 3) → decode cc (pc + 3) = .ok (.dup, 1) → decode cc (pc + 4) = .ok (.invokespecial ic, 3) → decode cc (pc + 7) = .ok (.athrow, 1) → xpost cls M → J pc lv [] M
/-- a call of a static method that throws, out of J0; behind it J1 goes on -/
def jTc (l : Launch) (D : va_G) (cl : List vw_C) (tys : List (ClassId × FieldType)) (cy : Nat → ClassId) (ad : Nat → Nat) (ft : Nat → List (Nat × Nat)) (ks : List (Nat × Nat)) (Xt : (Nat → Prop) → State → Prop) (Om : List Cond) (own : String) (cc : ByteArray) (rm : Room) (ns : List String) (xpost : String → MM → Prop) (J0 J1 : Nat → List (Nat × Value) → List Value → MM → Prop) : Prop :=
  ∀ (y : MethodName) (bytes : ByteArray) (maxL n idx pc : Nat) (ws : List Cond) (rm1 : Room) (ns1 : List String) (Wp : (Int → MM → Prop) → (String → MM → Prop) → List Value → MM → Prop) (P : Int → MM → Prop) (PX : String → MM → Prop) (As st : List Value) (lv : List (Nat × Value)) (M : MM),
    jXN l D cl tys cy ad ft ks Xt y ws rm1 0 1 6 ns1 Wp → ws = Cond.code y bytes maxL none :: Om → Cond.code y bytes maxL none ∈ Om → (rm1.cells = 1 ∧ rm1.slots = 6 ∧ rm1.frames + 1 ≤ rm.frames ∧ 8 + (maxL + 11) + rm1.locals ≤ rm.locals) →
    (Cond.methodLink own idx y ∈ Om ∧ Cond.static y ∈ Om ∧ Cond.initialized y.cls ∈ Om) → (y.cls ≠ "java/lang/invoke/MethodHandle" ∧ y.cls ≠ "java/lang/invoke/VarHandle" ∧ (parseMethodDescriptor y.desc).map (fun d => d.parameters.length) = some n) → As.length = n → (st.map fun v => v.category).sum ≤ 8 → decode cc pc = .ok (.invokestatic idx, 3) → Wp P PX As M →
    (∀ E M1, E ∈ ns1 → PX E M1 → E ∈ ns ∧ xpost E M1) → (∀ M1, P 0 M1 → J1 (pc + 3) lv st M1) → J0 pc lv (As.reverse ++ st) M
section JX
variable {l : Launch} {D : va_G} {cl : List vw_C} {tys : List (ClassId × FieldType)} {cy : Nat → ClassId} {ad : Nat → Nat} {ft : Nat → List (Nat × Nat)} {ks : List (Nat × Nat)} {Xt : (Nat → Prop) → State → Prop} {Om : List Cond} {own : String} {cc : ByteArray} {nL rk : Nat} {rm : Room}
theorem jP_ext {M : MM} {H H1 : Heap} (hP : va_P D cl (jcs cy ad ft ks M) H) (h : ∀ q : Nat, q < H.size → H1[q]? = H[q]?) : va_P D cl (jcs cy ad ft ks M) H1 := fun k q hq => (hP k q hq).kept (h q.1 (hP k q hq).lt)
theorem jx_j {p : Program} {e : Env} {s : State} {m : MethodId} {args : Array Value} {below : List Frame} {meth : Method} {c : Code} {ts : List Cond} {c0 s0 mc ms : Nat} {ns : List String} {post : Int → MM → Prop} {xpost : String → MM → Prop} {J : Nat → List (Nat × Value) → List Value → MM → Prop}
    (hst : l.stackTraces = false) (hZ : ∀ A U, Xt A U → Zz A U) (hx : p.tables.exec = Jvm.exec) (hb : c.code = cc) (hml : c.maxLocals = nL) (hown : s.vm.findClass own = some m.cls) (hts : ∀ w ∈ Om, w.before args s = true) (hK : va_K D cl tys s) (hty : jTy tys cy) (hin : jIn ad ks.length) (hgo : GoodIn Om Om) (hr : meth.sig.returnType = jrt rk) (hlk : meth.locks = false) (htab : ∀ x ∈ c.exceptionTable.toList, False) (hXc : jX Xt) (hXt : Xt (jA ad ks.length s.heap.size) s)
    (hc0 : c0 + 1 ≤ mc) (hs0 : s0 + 6 ≤ ms) (hmc : mc ≤ rm.cells) (hms : ms ≤ rm.slots)
    (hJ : J = fun pc lv st M => jRg ft ks M → ∀ (H : Heap) (locs : List Loc) (ls : Array Slot), va_P D cl (jcs cy ad ft ks M) H → va_S (jA ad ks.length s.heap.size) s.heap H locs → lv_has ls nL lv →
      W p l e (headSpec ts rm).room s m args below meth c H locs c0 s0 (vx_MQ below (jQ D cl tys cy ad ft ks rk post (jA ad ks.length s.heap.size)) (jXQ D cl tys cy ad ft ks (fun E u => E ∈ ns ∧ xpost E u) (jA ad ks.length s.heap.size)) args s mc ms (jA ad ks.length s.heap.size)) (F0 m pc ls st)) :
    jOk l D cl tys cy ad ft ks Xt Om own cc nL rk rm post J ∧ jTh own cc Om rm ns xpost J := by
  subst hJ
  refine ⟨⟨p, e, s, m, args, below, meth, c, ts, c0, s0, _, hx, hb, hml, hown, hts, hK, hty, hin, hgo, by omega, by omega, hXc, hXt, rfl, ?_, ?_, ?_, ?_, ?_⟩, ?_⟩
  · intro hrk pc lv M hd hq hR H locs ls hP hS hl
    subst hrk
    exact vx_ret (W.widen (k := mc) (n := ms) (by omega) (by omega) (W.vret hx hb hr (fun t ht hW => ⟨⟨M, rfl, ⟨hR, hq⟩, by rw [ht]; exact hP, va_K.moved hW.alike hK⟩, hS.F ht⟩) hS.2.2 hd))
  · intro hrk pc lv M x gx hd hq hR H locs ls hP hS hl
    subst hrk
    exact vx_ret (W.widen (k := mc) (n := ms) (by omega) (by omega) (W.iret hx hb hr (fun t ht hW => ⟨⟨_, (x, M), rfl, ⟨⟨rfl, gx⟩, hR, hq⟩, by rw [ht]; exact hP, va_K.moved hW.alike hK⟩, hS.F ht⟩) hS.2.2 hd))
  · intro hrk pc lv M x gx hd hq hR H locs ls hP hS hl
    subst hrk
    exact vx_ret (W.widen (k := mc) (n := ms) (by omega) (by omega) (W.lret hx hb hr (fun t ht hW => ⟨⟨_, (x, M), rfl, ⟨⟨rfl, gx⟩, hR, hq⟩, by rw [ht]; exact hP, va_K.moved hW.alike hK⟩, hS.F ht⟩) hS.2.2 hd))
  · intro hrk pc lv M x gx hd hq hR H locs ls hP hS hl
    subst hrk
    exact vx_ret (W.widen (k := mc) (n := ms) (by omega) (by omega) (W.zret hx hb hr (jz_nar gx).1 (fun t ht hW => ⟨⟨_, (x, M), rfl, ⟨⟨rfl, gx⟩, hR, hq⟩, by rw [ht]; exact hP, va_K.moved hW.alike hK⟩, hS.F ht⟩) hS.2.2 hd))
  · intro hrk pc lv M x gx hd hq hR H locs ls hP hS hl
    subst hrk
    exact vx_ret (W.widen (k := mc) (n := ms) (by omega) (by omega) (W.zret hx hb hr (jb_narr gx) (fun t ht hW => ⟨⟨_, (x, M), rfl, ⟨⟨rfl, gx⟩, hR, hq⟩, by rw [ht]; exact hP, va_K.moved hW.alike hK⟩, hS.F ht⟩) hS.2.2 hd))
  · intro pc ik ic cls names lv M hns hw d0 d3 d4 d7 hq hR H locs ls hP hS hl
    obtain ⟨w1, w2, w3, w4, w5, w6, w7, w8, w9, w10⟩ := hw
    have hz := hZ _ _ hXt
    exact vx_throw0 hx hb hst hown w1 w2 (hts _ w3) (hts _ w4) (vx_hat (fun w h => hts w (w5 w h)) w6 (Zz_xB hz w7)) w8 hz.1 hz.2.1 hS (hl.1.trans hml.symm) d0 d3 d4 d7 (fun x h => (htab x h).elim) w9 (by show ([] : List Nat).sum + _ ≤ rm.locals; simp; omega) (by show c0 + 1 ≤ rm.cells; omega) (by show s0 + 6 ≤ rm.slots; omega) hlk (fun t ha h1 h2 => ⟨M, hR, ⟨⟨hns, hq⟩, jP_ext hP h2, va_K.moved ha hK⟩, xx_F hS h1 h2⟩) hS.2.2 hc0 hs0
theorem jXN_of {y : MethodName} {Wp : (Int → MM → Prop) → (String → MM → Prop) → List Value → MM → Prop} (k : Nat) (ns : List String)
    (hst : l.stackTraces = false) (hZ : ∀ A U, Xt A U → Zz A U) (hty : jTy tys cy) (hin : jIn ad ks.length) (hXc : jX Xt) (hgo : GoodIn Om Om) (hy : plainName y.cls = true) (ho : y.cls = own) (hrm : rm.cells = k + 1 ∧ rm.slots = 6 * (k + 1))
    (body : ∀ post xpost av M, Wp post xpost av M → (lg_sl av).length ≤ nL ∧ ∀ J : Nat → Nat → List (Nat × Value) → List Value → MM → Prop, (∀ i, i ≤ k → jOk l D cl tys cy ad ft ks Xt Om own cc nL rk rm post (J i)) → (∀ i, i ≤ k → jTh own cc Om rm ns xpost (J i)) → (∀ i, i < k → jTc l D cl tys cy ad ft ks Xt Om own cc rm ns xpost (J i) (J (i + 1))) → J 0 0 (lv_args 0 av) [] M) :
    jXN l D cl tys cy ad ft ks Xt y (Cond.code y cc nL (jrt rk) :: Om) rm rk (k + 1) (6 * (k + 1)) ns Wp := by
  intro post xpost av M sz hR hF
  obtain ⟨hlen, hJ⟩ := body post xpost av M hF
  refine vx_ofW (cc := cc) (maxL := nL) (ret := jrt rk) hy rfl ?_
  intro p e s m args below meth c s₁ B hml htab hv
  obtain ⟨rfl, hsz, hXt, hP, hK⟩ := hv
  have hts := atoms_spec (ws := Cond.code y cc nL (jrt rk) :: Om) B.pre
  have hown : s.vm.findClass own = some m.cls := by rw [← ho]; exact findClass_of_methodNamed B.named
  have hOm : ∀ w ∈ Om, w.before av.toArray s = true := fun w h => hts w (List.mem_cons_of_mem _ h)
  subst hsz
  have hl := lv_entry av (n := nL) hlen
  rw [lg_entry_eq]
  have hj := fun (i : Nat) (h1 : i ≤ k) => jx_j (l := l) (D := D) (cl := cl) (tys := tys) (cy := cy) (ad := ad) (ft := ft) (ks := ks) (Xt := Xt) (Om := Om) (own := own) (cc := cc) (nL := nL) (rk := rk) (rm := rm) (p := p) (e := e) (s := s) (m := m) (args := av.toArray) (below := below) (meth := meth) (c := c) (ts := Cond.code y cc nL (jrt rk) :: Om) (c0 := i) (s0 := 6 * i) (mc := k + 1) (ms := 6 * (k + 1)) (ns := ns) (post := post) (xpost := xpost) hst hZ B.exec B.bytes hml hown hOm hK hty hin hgo B.returns B.notSynchronized htab hXc hXt (by omega) (by omega) (by omega) (by omega) rfl
  refine hJ (fun i => _) (fun i h => (hj i h).1) (fun i h => (hj i h).2) ?_ hR s.heap [] _ hP va_S.rf hl
  intro i hik y1 bytes maxL n idx pc ws1 rm1 ns1 Wp1 P PX As st lv M hM hw hcd hR1 hm hdc hn hsum hd hF hPX kk hR H locs ls hP hS hl
  have hgw : GoodIn Om ws1 := by
    intro w h9
    rw [hw] at h9
    rcases List.mem_cons.mp h9 with rfl | h9
    · exact hgo _ hcd
    · exact hgo _ h9
  have hA : ∀ q, jA ad ks.length H.size q → jA ad ks.length s.heap.size q := fun q z => by
    rcases z with z | z
    · exact Or.inl z
    · exact Or.inr (Nat.le_trans hS.1 z)
  refine vx_callv (vx_runS (As := As) (rest := st) ⟨B.exec, B.bytes, hml, hown, hOm⟩ (hM P PX _ M H.size hR hF) ⟨callB_of n hOm hgw hw hR1.1 hR1.2.1 (hOm _ hm.2.2) (hOm _ hm.1) hdc hR1.2.2, hOm _ hm.2.1⟩ ⟨(fun a U g mk q => by obtain ⟨q0, q1, qX, qP, qK⟩ := q; exact ⟨q0, q1, hXc.2 _ _ _ _ _ qX, qP, va_K.moved (u := U) (U := U.calling g mk a) (Vm.Alike.refl U.vm) qK⟩), (fun U hU hW => ⟨rfl, by rw [hU], hXc.1 _ _ _ _ _ _ hXt hS hA hU hW, by rw [hU]; exact hP, va_K.moved hW.alike hK⟩)⟩ rfl hn hl.1 rfl (lv_room hsum) hd ⟨by show i + 1 ≤ rm.cells; omega, by show 6 * i + 6 ≤ rm.slots; omega⟩) hS (fun q _ z => hA q z) hA (fun q _ z => hA q z) (fun E ce q9 u t H1 locs ht hvm hpx hBX hz1 hk1 hS hce hcv hcl => ?_) (fun u t H1 locs ht hvm hw2 hB hz1 hk1 hS => ?_)
  · exact vx_out (fun x h => (htab x h).elim) B.notSynchronized hce hcv hcl (fun t9 ht9 ha9 => ⟨u, hpx, ⟨hPX E u hBX.1.1 hBX.1.2, by rw [ht9, ← ht]; exact hBX.2.1, va_K.moved ha9 hK⟩, hS.F ht9⟩) hS.2.2 (by omega) (by omega)
  · obtain ⟨qR, qp⟩ := hw2
    have h6 : 6 * i + 6 = 6 * (i + 1) := by omega
    rw [h6]
    exact kk u qp qR H1 locs ls (by rw [← ht]; exact hB.1) hS hl
end JX
