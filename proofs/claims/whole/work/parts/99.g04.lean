/-! methods that catch -/
def jCat (Om : List Cond) (own : String) (hh : List (Nat × Nat × Nat × Nat)) (pc : Nat) (E : String) (K : Nat → Prop) : Prop := ∃ (pre : List ExceptionTableEntry) (x : ExceptionTableEntry) (suf : List ExceptionTableEntry), tableOf hh = pre ++ x :: suf ∧ (∀ z ∈ pre, z.catchType ≠ 0 ∧ ∃ nm : String, Cond.classLink own z.catchType nm ∈ Om ∧ nm ∈ xE ∧ E ≠ nm) ∧ covers x pc = true ∧ x.catchType ≠ 0 ∧ Cond.classLink own x.catchType E ∈ Om ∧ E ∈ xE ∧ K x.handlerPc
/-- a call of a method that throws, out of J0; behind it J1 goes on, in a handler too -/
def jTvv (l : Launch) (D : va_G) (cl : List vw_C) (tys : List (ClassId × FieldType)) (cy : Nat → ClassId) (ad : Nat → Nat) (ft : Nat → List (Nat × Nat)) (ks : List (Nat × Nat)) (Xt : (Nat → Prop) → State → Prop) (Om : List Cond) (own : String) (cc : ByteArray) (rm : Room) (hh : List (Nat × Nat × Nat × Nat)) (mc ms : Nat) (J0 J1 : Nat → List (Nat × Value) → List Value → MM → Prop) : Prop :=
  ∀ (y : MethodName) (bytes : ByteArray) (maxL n idx pc c0 ci : Nat) (ws : List Cond) (rm1 : Room) (ns1 : List String) (C : String) (q9 : vw_C) (Wp : (Int → MM → Prop) → (String → MM → Prop) → List Value → MM → Prop) (P : Int → MM → Prop) (PX : String → MM → Prop) (As st : List Value) (lv : List (Nat × Value)) (M : MM),
    jXN l D cl tys cy ad ft ks Xt y ws rm1 0 mc ms ns1 Wp → ws = Cond.code y bytes maxL (jrt 0) :: Om → Cond.code y bytes maxL (jrt 0) ∈ Om → (rm1.cells = mc ∧ rm1.slots = ms ∧ rm1.frames + 1 ≤ rm.frames ∧ 8 + (maxL + 11) + rm1.locals ≤ rm.locals) →
    (Cond.methodLink own idx y ∈ Om ∧ Cond.instanceMethod y ∈ Om ∧ Cond.selects C y y ∈ Om ∧ Cond.initialized C ∈ Om) → (y.cls = C ∧ y.cls ≠ "java/lang/invoke/MethodHandle" ∧ y.cls ≠ "java/lang/invoke/VarHandle" ∧ (parseMethodDescriptor y.desc).map (fun d => d.parameters.length) = some n) → ks[c0]? = some (6, ci) → cl[ci]? = some q9 → q9.1 = C → As.length = n → (st.map fun v => v.category).sum ≤ 8 → decode cc pc = .ok (.invokevirtual idx, 3) → Wp P PX (.ref (ad c0) :: As) M →
    (∀ E M1, E ∈ ns1 → PX E M1 → jCat Om own hh pc E (fun h => ∀ q, J1 h lv [.ref q] M1)) → (∀ M1, P 0 M1 → J1 (pc + 3) lv st M1) → J0 pc lv (As.reverse ++ .ref (ad c0) :: st) M
/-- a call of a method that throws, out of J0; behind it J1 goes on, in a handler too -/
def jTvi (l : Launch) (D : va_G) (cl : List vw_C) (tys : List (ClassId × FieldType)) (cy : Nat → ClassId) (ad : Nat → Nat) (ft : Nat → List (Nat × Nat)) (ks : List (Nat × Nat)) (Xt : (Nat → Prop) → State → Prop) (Om : List Cond) (own : String) (cc : ByteArray) (rm : Room) (hh : List (Nat × Nat × Nat × Nat)) (mc ms : Nat) (J0 J1 : Nat → List (Nat × Value) → List Value → MM → Prop) : Prop :=
  ∀ (y : MethodName) (bytes : ByteArray) (maxL n idx pc c0 ci : Nat) (ws : List Cond) (rm1 : Room) (ns1 : List String) (C : String) (q9 : vw_C) (Wp : (Int → MM → Prop) → (String → MM → Prop) → List Value → MM → Prop) (P : Int → MM → Prop) (PX : String → MM → Prop) (As st : List Value) (lv : List (Nat × Value)) (M : MM),
    jXN l D cl tys cy ad ft ks Xt y ws rm1 1 mc ms ns1 Wp → ws = Cond.code y bytes maxL (jrt 1) :: Om → Cond.code y bytes maxL (jrt 1) ∈ Om → (rm1.cells = mc ∧ rm1.slots = ms ∧ rm1.frames + 1 ≤ rm.frames ∧ 8 + (maxL + 11) + rm1.locals ≤ rm.locals) →
    (Cond.methodLink own idx y ∈ Om ∧ Cond.instanceMethod y ∈ Om ∧ Cond.selects C y y ∈ Om ∧ Cond.initialized C ∈ Om) → (y.cls = C ∧ y.cls ≠ "java/lang/invoke/MethodHandle" ∧ y.cls ≠ "java/lang/invoke/VarHandle" ∧ (parseMethodDescriptor y.desc).map (fun d => d.parameters.length) = some n) → ks[c0]? = some (6, ci) → cl[ci]? = some q9 → q9.1 = C → As.length = n → (st.map fun v => v.category).sum ≤ 8 → decode cc pc = .ok (.invokevirtual idx, 3) → Wp P PX (.ref (ad c0) :: As) M →
    (∀ E M1, E ∈ ns1 → PX E M1 → jCat Om own hh pc E (fun h => ∀ q, J1 h lv [.ref q] M1)) → (∀ r M1, ri_ r → P r M1 → J1 (pc + 3) lv (.int (Ii r) :: st) M1) → J0 pc lv (As.reverse ++ .ref (ad c0) :: st) M
/-- a call of a method that throws, out of J0; behind it J1 goes on, in a handler too -/
def jTvl (l : Launch) (D : va_G) (cl : List vw_C) (tys : List (ClassId × FieldType)) (cy : Nat → ClassId) (ad : Nat → Nat) (ft : Nat → List (Nat × Nat)) (ks : List (Nat × Nat)) (Xt : (Nat → Prop) → State → Prop) (Om : List Cond) (own : String) (cc : ByteArray) (rm : Room) (hh : List (Nat × Nat × Nat × Nat)) (mc ms : Nat) (J0 J1 : Nat → List (Nat × Value) → List Value → MM → Prop) : Prop :=
  ∀ (y : MethodName) (bytes : ByteArray) (maxL n idx pc c0 ci : Nat) (ws : List Cond) (rm1 : Room) (ns1 : List String) (C : String) (q9 : vw_C) (Wp : (Int → MM → Prop) → (String → MM → Prop) → List Value → MM → Prop) (P : Int → MM → Prop) (PX : String → MM → Prop) (As st : List Value) (lv : List (Nat × Value)) (M : MM),
    jXN l D cl tys cy ad ft ks Xt y ws rm1 2 mc ms ns1 Wp → ws = Cond.code y bytes maxL (jrt 2) :: Om → Cond.code y bytes maxL (jrt 2) ∈ Om → (rm1.cells = mc ∧ rm1.slots = ms ∧ rm1.frames + 1 ≤ rm.frames ∧ 8 + (maxL + 11) + rm1.locals ≤ rm.locals) →
    (Cond.methodLink own idx y ∈ Om ∧ Cond.instanceMethod y ∈ Om ∧ Cond.selects C y y ∈ Om ∧ Cond.initialized C ∈ Om) → (y.cls = C ∧ y.cls ≠ "java/lang/invoke/MethodHandle" ∧ y.cls ≠ "java/lang/invoke/VarHandle" ∧ (parseMethodDescriptor y.desc).map (fun d => d.parameters.length) = some n) → ks[c0]? = some (6, ci) → cl[ci]? = some q9 → q9.1 = C → As.length = n → (st.map fun v => v.category).sum ≤ 8 → decode cc pc = .ok (.invokevirtual idx, 3) → Wp P PX (.ref (ad c0) :: As) M →
    (∀ E M1, E ∈ ns1 → PX E M1 → jCat Om own hh pc E (fun h => ∀ q, J1 h lv [.ref q] M1)) → (∀ r M1, rl_ r → P r M1 → J1 (pc + 3) lv (.long (Ll r) :: st) M1) → J0 pc lv (As.reverse ++ .ref (ad c0) :: st) M
/-- a call of a method that throws, out of J0; behind it J1 goes on, in a handler too -/
def jTvz (l : Launch) (D : va_G) (cl : List vw_C) (tys : List (ClassId × FieldType)) (cy : Nat → ClassId) (ad : Nat → Nat) (ft : Nat → List (Nat × Nat)) (ks : List (Nat × Nat)) (Xt : (Nat → Prop) → State → Prop) (Om : List Cond) (own : String) (cc : ByteArray) (rm : Room) (hh : List (Nat × Nat × Nat × Nat)) (mc ms : Nat) (J0 J1 : Nat → List (Nat × Value) → List Value → MM → Prop) : Prop :=
  ∀ (y : MethodName) (bytes : ByteArray) (maxL n idx pc c0 ci : Nat) (ws : List Cond) (rm1 : Room) (ns1 : List String) (C : String) (q9 : vw_C) (Wp : (Int → MM → Prop) → (String → MM → Prop) → List Value → MM → Prop) (P : Int → MM → Prop) (PX : String → MM → Prop) (As st : List Value) (lv : List (Nat × Value)) (M : MM),
    jXN l D cl tys cy ad ft ks Xt y ws rm1 3 mc ms ns1 Wp → ws = Cond.code y bytes maxL (jrt 3) :: Om → Cond.code y bytes maxL (jrt 3) ∈ Om → (rm1.cells = mc ∧ rm1.slots = ms ∧ rm1.frames + 1 ≤ rm.frames ∧ 8 + (maxL + 11) + rm1.locals ≤ rm.locals) →
    (Cond.methodLink own idx y ∈ Om ∧ Cond.instanceMethod y ∈ Om ∧ Cond.selects C y y ∈ Om ∧ Cond.initialized C ∈ Om) → (y.cls = C ∧ y.cls ≠ "java/lang/invoke/MethodHandle" ∧ y.cls ≠ "java/lang/invoke/VarHandle" ∧ (parseMethodDescriptor y.desc).map (fun d => d.parameters.length) = some n) → ks[c0]? = some (6, ci) → cl[ci]? = some q9 → q9.1 = C → As.length = n → (st.map fun v => v.category).sum ≤ 8 → decode cc pc = .ok (.invokevirtual idx, 3) → Wp P PX (.ref (ad c0) :: As) M →
    (∀ E M1, E ∈ ns1 → PX E M1 → jCat Om own hh pc E (fun h => ∀ q, J1 h lv [.ref q] M1)) → (∀ r M1, (r = 0 ∨ r = 1) → P r M1 → J1 (pc + 3) lv (.int (Ii r) :: st) M1) → J0 pc lv (As.reverse ++ .ref (ad c0) :: st) M
section JH
variable {l : Launch} {D : va_G} {cl : List vw_C} {tys : List (ClassId × FieldType)} {cy : Nat → ClassId} {ad : Nat → Nat} {ft : Nat → List (Nat × Nat)} {ks : List (Nat × Nat)} {Xt : (Nat → Prop) → State → Prop} {Om : List Cond} {own : String} {cc : ByteArray} {nL : Nat} {rm : Room} {hh : List (Nat × Nat × Nat × Nat)} {mc ms : Nat}
theorem jh_j {p : Program} {e : Env} {s : State} {m : MethodId} {args : Array Value} {below : List Frame} {meth : Method} {c : Code} {ts : List Cond} {c0 s0 : Nat} {post : Int → MM → Prop} {xpost : String → MM → Prop} {J : Nat → List (Nat × Value) → List Value → MM → Prop}
    (hx : p.tables.exec = Jvm.exec) (hb : c.code = cc) (hml : c.maxLocals = nL) (hown : s.vm.findClass own = some m.cls) (hts : ∀ w ∈ Om, w.before args s = true) (hK : va_K D cl tys s) (hty : jTy tys cy) (hin : jIn ad ks.length) (hgo : GoodIn Om Om) (hr : meth.sig.returnType = jrt 1) (hlk : meth.locks = false) (hXc : jX Xt) (hXt : Xt (jA ad ks.length s.heap.size) s)
    (hc0 : c0 ≤ mc) (hs0 : s0 ≤ ms) (hmc : mc ≤ rm.cells) (hms : ms ≤ rm.slots)
    (hJ : J = fun pc lv st M => jRg ft ks M → ∀ (H : Heap) (locs : List Loc) (ls : Array Slot), va_P D cl (jcs cy ad ft ks M) H → va_S (jA ad ks.length s.heap.size) s.heap H locs → lv_has ls nL lv →
      W p l e (headSpec ts rm).room s m args below meth c H locs c0 s0 (vx_MQ below (jQ D cl tys cy ad ft ks 1 post (jA ad ks.length s.heap.size)) (jXQ D cl tys cy ad ft ks (fun E u => E ∈ ([] : List String) ∧ xpost E u) (jA ad ks.length s.heap.size)) args s mc ms (jA ad ks.length s.heap.size)) (F0 m pc ls st)) :
    jOk l D cl tys cy ad ft ks Xt Om own cc nL 1 rm post J := by
  subst hJ
  refine ⟨p, e, s, m, args, below, meth, c, ts, c0, s0, _, hx, hb, hml, hown, hts, hK, hty, hin, hgo, by omega, by omega, hXc, hXt, rfl, fun z => ?_, ?_, fun z => ?_, fun z => ?_, fun z => ?_⟩
  · omega
  · intro hrk pc lv M x gx hd hq hR H locs ls hP hS hl
    exact vx_ret (W.widen (k := mc) (n := ms) (by omega) (by omega) (W.iret hx hb hr (fun t ht hW => ⟨⟨_, (x, M), rfl, ⟨⟨rfl, gx⟩, hR, hq⟩, by rw [ht]; exact hP, va_K.moved hW.alike hK⟩, hS.F ht⟩) hS.2.2 hd))
  · omega
  · omega
  · omega
theorem jh_vv {p : Program} {e : Env} {s : State} {m : MethodId} {args : Array Value} {below : List Frame} {meth : Method} {c : Code} {ts : List Cond} {Qs : State → Prop} {J0 J1 : Nat → List (Nat × Value) → List Value → MM → Prop}
    (hY : ∀ A U, Xt A U → Yy U) (hZ : ∀ A U, Xt A U → Zz A U) (hx : p.tables.exec = Jvm.exec) (hb : c.code = cc) (hml : c.maxLocals = nL) (hown : s.vm.findClass own = some m.cls) (hts : ∀ w ∈ Om, w.before args s = true) (hK : va_K D cl tys s) (hgo : GoodIn Om Om) (htb : c.exceptionTable.toList = tableOf hh) (hXc : jX Xt) (hXt : Xt (jA ad ks.length s.heap.size) s) (hmc : mc ≤ rm.cells) (hms : ms ≤ rm.slots)
    (hJ0 : J0 = fun pc lv st M => jRg ft ks M → ∀ (H : Heap) (locs : List Loc) (ls : Array Slot), va_P D cl (jcs cy ad ft ks M) H → va_S (jA ad ks.length s.heap.size) s.heap H locs → lv_has ls nL lv → W p l e (headSpec ts rm).room s m args below meth c H locs 0 0 Qs (F0 m pc ls st))
    (hJ1 : J1 = fun pc lv st M => jRg ft ks M → ∀ (H : Heap) (locs : List Loc) (ls : Array Slot), va_P D cl (jcs cy ad ft ks M) H → va_S (jA ad ks.length s.heap.size) s.heap H locs → lv_has ls nL lv → W p l e (headSpec ts rm).room s m args below meth c H locs mc ms Qs (F0 m pc ls st)) : jTvv l D cl tys cy ad ft ks Xt Om own cc rm hh mc ms J0 J1 := by
  subst hJ0; subst hJ1
  intro y bytes maxL n idx pc c0 ci ws rm1 ns1 C q9 Wp P PX As st lv M hM hw hcd hR1 hm hdc hk hc hq9 hn hsum hd hF hPX k hR H locs ls hP hS hl
  have hgw : GoodIn Om (wsV own idx C y ws) := by
    intro w h9
    unfold wsV at h9
    rcases List.mem_append.mp h9 with h9 | h9
    · simp only [List.mem_cons, List.not_mem_nil, or_false] at h9
      rcases h9 with rfl | rfl | rfl | rfl
      · exact hgo _ hm.1
      · exact hgo _ hm.2.1
      · exact hgo _ hm.2.2.1
      · exact hgo _ hm.2.2.2
    · rw [hw] at h9
      rcases List.mem_cons.mp h9 with rfl | h9
      · exact hgo _ hcd
      · exact hgo _ h9
  have hrcv : ∃ cell : Cell, H[ad c0]? = some cell ∧ cell.vm.isStatics = false ∧ s.vm.findClass C = some cell.cls := by rw [← hq9]; exact va_recv hK hP hc (jcs_at hk)
  have hA : ∀ q, jA ad ks.length H.size q → jA ad ks.length s.heap.size q := fun q z => by
    rcases z with z | z
    · exact Or.inl z
    · exact Or.inr (Nat.le_trans hS.1 z)
  refine vx_callv (vx_runV (As := As) (rest := st) ⟨hx, hb, hml, hown, hts⟩ (hM P PX _ M H.size hR hF) (cwV n hts hgw hw hR1.1 hR1.2.1 hdc hR1.2.2) ⟨(fun a U g mk q => by obtain ⟨q0, q1, qX, qP, qK⟩ := q; exact ⟨q0, q1, hXc.2 _ _ _ _ _ qX, qP, va_K.moved (u := U) (U := U.calling g mk a) (Vm.Alike.refl U.vm) qK⟩), hrcv, (fun U hU hW => ⟨rfl, by rw [hU], hXc.1 _ _ _ _ _ _ hXt hS hA hU hW, by rw [hU]; exact hP, va_K.moved hW.alike hK⟩)⟩ rfl hn hl.1 rfl (lv_room hsum) hd ⟨by show 0 + mc ≤ rm.cells; omega, by show 0 + ms ≤ rm.slots; omega⟩) hS (fun q _ z => hA q z) hA (fun q _ z => hA q z) (fun E ce q9 u t H1 locs ht hvm hpx hBX hz1 hk1 hS hce hcv hcl => ?_) (fun u t H1 locs ht hvm hw2 hB hz1 hk1 hS => ?_)
  · obtain ⟨pre, x, suf, e1, e2, e3, e4, e5, e6, e7⟩ := hPX E u hBX.1.1 hBX.1.2
    refine vx_catch (own := own) (name := E) (E := E) hown pre x suf (htb.trans e1) (fun z hz => ?_) e3 e4 (hts _ e5) (va_Nw.use rfl ((hZ _ _ hXt).2.2.1 E e6)) hce hcv hcl ?_
    · obtain ⟨z1, nm, z2, z3, z4⟩ := e2 z hz
      exact Or.inr ⟨z1, nm, hts _ z2, hY _ _ hXt E e6 nm z3 z4⟩
    · have h9 := e7 q9 hpx H1 locs ls (by rw [← ht]; exact hBX.2.1) hS hl
      rw [Nat.zero_add, Nat.zero_add]
      exact h9
  · rw [Nat.zero_add, Nat.zero_add]
    obtain ⟨qR, qp⟩ := hw2
    exact k u qp qR H1 locs ls (by rw [← ht]; exact hB.1) hS hl
theorem jh_vi {p : Program} {e : Env} {s : State} {m : MethodId} {args : Array Value} {below : List Frame} {meth : Method} {c : Code} {ts : List Cond} {Qs : State → Prop} {J0 J1 : Nat → List (Nat × Value) → List Value → MM → Prop}
    (hY : ∀ A U, Xt A U → Yy U) (hZ : ∀ A U, Xt A U → Zz A U) (hx : p.tables.exec = Jvm.exec) (hb : c.code = cc) (hml : c.maxLocals = nL) (hown : s.vm.findClass own = some m.cls) (hts : ∀ w ∈ Om, w.before args s = true) (hK : va_K D cl tys s) (hgo : GoodIn Om Om) (htb : c.exceptionTable.toList = tableOf hh) (hXc : jX Xt) (hXt : Xt (jA ad ks.length s.heap.size) s) (hmc : mc ≤ rm.cells) (hms : ms ≤ rm.slots)
    (hJ0 : J0 = fun pc lv st M => jRg ft ks M → ∀ (H : Heap) (locs : List Loc) (ls : Array Slot), va_P D cl (jcs cy ad ft ks M) H → va_S (jA ad ks.length s.heap.size) s.heap H locs → lv_has ls nL lv → W p l e (headSpec ts rm).room s m args below meth c H locs 0 0 Qs (F0 m pc ls st))
    (hJ1 : J1 = fun pc lv st M => jRg ft ks M → ∀ (H : Heap) (locs : List Loc) (ls : Array Slot), va_P D cl (jcs cy ad ft ks M) H → va_S (jA ad ks.length s.heap.size) s.heap H locs → lv_has ls nL lv → W p l e (headSpec ts rm).room s m args below meth c H locs mc ms Qs (F0 m pc ls st)) : jTvi l D cl tys cy ad ft ks Xt Om own cc rm hh mc ms J0 J1 := by
  subst hJ0; subst hJ1
  intro y bytes maxL n idx pc c0 ci ws rm1 ns1 C q9 Wp P PX As st lv M hM hw hcd hR1 hm hdc hk hc hq9 hn hsum hd hF hPX k hR H locs ls hP hS hl
  have hgw : GoodIn Om (wsV own idx C y ws) := by
    intro w h9
    unfold wsV at h9
    rcases List.mem_append.mp h9 with h9 | h9
    · simp only [List.mem_cons, List.not_mem_nil, or_false] at h9
      rcases h9 with rfl | rfl | rfl | rfl
      · exact hgo _ hm.1
      · exact hgo _ hm.2.1
      · exact hgo _ hm.2.2.1
      · exact hgo _ hm.2.2.2
    · rw [hw] at h9
      rcases List.mem_cons.mp h9 with rfl | h9
      · exact hgo _ hcd
      · exact hgo _ h9
  have hrcv : ∃ cell : Cell, H[ad c0]? = some cell ∧ cell.vm.isStatics = false ∧ s.vm.findClass C = some cell.cls := by rw [← hq9]; exact va_recv hK hP hc (jcs_at hk)
  have hA : ∀ q, jA ad ks.length H.size q → jA ad ks.length s.heap.size q := fun q z => by
    rcases z with z | z
    · exact Or.inl z
    · exact Or.inr (Nat.le_trans hS.1 z)
  refine vx_calli (vx_runV (As := As) (rest := st) ⟨hx, hb, hml, hown, hts⟩ (hM P PX _ M H.size hR hF) (cwV n hts hgw hw hR1.1 hR1.2.1 hdc hR1.2.2) ⟨(fun a U g mk q => by obtain ⟨q0, q1, qX, qP, qK⟩ := q; exact ⟨q0, q1, hXc.2 _ _ _ _ _ qX, qP, va_K.moved (u := U) (U := U.calling g mk a) (Vm.Alike.refl U.vm) qK⟩), hrcv, (fun U hU hW => ⟨rfl, by rw [hU], hXc.1 _ _ _ _ _ _ hXt hS hA hU hW, by rw [hU]; exact hP, va_K.moved hW.alike hK⟩)⟩ rfl hn hl.1 rfl (lv_room hsum) hd ⟨by show 0 + mc ≤ rm.cells; omega, by show 0 + ms ≤ rm.slots; omega⟩) hS (fun q _ z => hA q z) hA (fun q _ z => hA q z) (fun E ce q9 u t H1 locs ht hvm hpx hBX hz1 hk1 hS hce hcv hcl => ?_) (fun r u t H1 locs ht hvm hw2 hB hz1 hk1 hS => ?_)
  · obtain ⟨pre, x, suf, e1, e2, e3, e4, e5, e6, e7⟩ := hPX E u hBX.1.1 hBX.1.2
    refine vx_catch (own := own) (name := E) (E := E) hown pre x suf (htb.trans e1) (fun z hz => ?_) e3 e4 (hts _ e5) (va_Nw.use rfl ((hZ _ _ hXt).2.2.1 E e6)) hce hcv hcl ?_
    · obtain ⟨z1, nm, z2, z3, z4⟩ := e2 z hz
      exact Or.inr ⟨z1, nm, hts _ z2, hY _ _ hXt E e6 nm z3 z4⟩
    · have h9 := e7 q9 hpx H1 locs ls (by rw [← ht]; exact hBX.2.1) hS hl
      rw [Nat.zero_add, Nat.zero_add]
      exact h9
  · rw [Nat.zero_add, Nat.zero_add]
    obtain ⟨r9, M1⟩ := u
    obtain ⟨⟨rfl, qg⟩, qR, qp⟩ := hw2
    exact k r9 M1 qg qp qR H1 locs ls (by rw [← ht]; exact hB.1) hS hl
theorem jh_vl {p : Program} {e : Env} {s : State} {m : MethodId} {args : Array Value} {below : List Frame} {meth : Method} {c : Code} {ts : List Cond} {Qs : State → Prop} {J0 J1 : Nat → List (Nat × Value) → List Value → MM → Prop}
    (hY : ∀ A U, Xt A U → Yy U) (hZ : ∀ A U, Xt A U → Zz A U) (hx : p.tables.exec = Jvm.exec) (hb : c.code = cc) (hml : c.maxLocals = nL) (hown : s.vm.findClass own = some m.cls) (hts : ∀ w ∈ Om, w.before args s = true) (hK : va_K D cl tys s) (hgo : GoodIn Om Om) (htb : c.exceptionTable.toList = tableOf hh) (hXc : jX Xt) (hXt : Xt (jA ad ks.length s.heap.size) s) (hmc : mc ≤ rm.cells) (hms : ms ≤ rm.slots)
    (hJ0 : J0 = fun pc lv st M => jRg ft ks M → ∀ (H : Heap) (locs : List Loc) (ls : Array Slot), va_P D cl (jcs cy ad ft ks M) H → va_S (jA ad ks.length s.heap.size) s.heap H locs → lv_has ls nL lv → W p l e (headSpec ts rm).room s m args below meth c H locs 0 0 Qs (F0 m pc ls st))
    (hJ1 : J1 = fun pc lv st M => jRg ft ks M → ∀ (H : Heap) (locs : List Loc) (ls : Array Slot), va_P D cl (jcs cy ad ft ks M) H → va_S (jA ad ks.length s.heap.size) s.heap H locs → lv_has ls nL lv → W p l e (headSpec ts rm).room s m args below meth c H locs mc ms Qs (F0 m pc ls st)) : jTvl l D cl tys cy ad ft ks Xt Om own cc rm hh mc ms J0 J1 := by
  subst hJ0; subst hJ1
  intro y bytes maxL n idx pc c0 ci ws rm1 ns1 C q9 Wp P PX As st lv M hM hw hcd hR1 hm hdc hk hc hq9 hn hsum hd hF hPX k hR H locs ls hP hS hl
  have hgw : GoodIn Om (wsV own idx C y ws) := by
    intro w h9
    unfold wsV at h9
    rcases List.mem_append.mp h9 with h9 | h9
    · simp only [List.mem_cons, List.not_mem_nil, or_false] at h9
      rcases h9 with rfl | rfl | rfl | rfl
      · exact hgo _ hm.1
      · exact hgo _ hm.2.1
      · exact hgo _ hm.2.2.1
      · exact hgo _ hm.2.2.2
    · rw [hw] at h9
      rcases List.mem_cons.mp h9 with rfl | h9
      · exact hgo _ hcd
      · exact hgo _ h9
  have hrcv : ∃ cell : Cell, H[ad c0]? = some cell ∧ cell.vm.isStatics = false ∧ s.vm.findClass C = some cell.cls := by rw [← hq9]; exact va_recv hK hP hc (jcs_at hk)
  have hA : ∀ q, jA ad ks.length H.size q → jA ad ks.length s.heap.size q := fun q z => by
    rcases z with z | z
    · exact Or.inl z
    · exact Or.inr (Nat.le_trans hS.1 z)
  refine vx_calll (vx_runV (As := As) (rest := st) ⟨hx, hb, hml, hown, hts⟩ (hM P PX _ M H.size hR hF) (cwV n hts hgw hw hR1.1 hR1.2.1 hdc hR1.2.2) ⟨(fun a U g mk q => by obtain ⟨q0, q1, qX, qP, qK⟩ := q; exact ⟨q0, q1, hXc.2 _ _ _ _ _ qX, qP, va_K.moved (u := U) (U := U.calling g mk a) (Vm.Alike.refl U.vm) qK⟩), hrcv, (fun U hU hW => ⟨rfl, by rw [hU], hXc.1 _ _ _ _ _ _ hXt hS hA hU hW, by rw [hU]; exact hP, va_K.moved hW.alike hK⟩)⟩ rfl hn hl.1 rfl (lv_room hsum) hd ⟨by show 0 + mc ≤ rm.cells; omega, by show 0 + ms ≤ rm.slots; omega⟩) hS (fun q _ z => hA q z) hA (fun q _ z => hA q z) (fun E ce q9 u t H1 locs ht hvm hpx hBX hz1 hk1 hS hce hcv hcl => ?_) (fun r u t H1 locs ht hvm hw2 hB hz1 hk1 hS => ?_)
  · obtain ⟨pre, x, suf, e1, e2, e3, e4, e5, e6, e7⟩ := hPX E u hBX.1.1 hBX.1.2
    refine vx_catch (own := own) (name := E) (E := E) hown pre x suf (htb.trans e1) (fun z hz => ?_) e3 e4 (hts _ e5) (va_Nw.use rfl ((hZ _ _ hXt).2.2.1 E e6)) hce hcv hcl ?_
    · obtain ⟨z1, nm, z2, z3, z4⟩ := e2 z hz
      exact Or.inr ⟨z1, nm, hts _ z2, hY _ _ hXt E e6 nm z3 z4⟩
    · have h9 := e7 q9 hpx H1 locs ls (by rw [← ht]; exact hBX.2.1) hS hl
      rw [Nat.zero_add, Nat.zero_add]
      exact h9
  · rw [Nat.zero_add, Nat.zero_add]
    obtain ⟨r9, M1⟩ := u
    obtain ⟨⟨rfl, qg⟩, qR, qp⟩ := hw2
    exact k r9 M1 qg qp qR H1 locs ls (by rw [← ht]; exact hB.1) hS hl
theorem jh_vz {p : Program} {e : Env} {s : State} {m : MethodId} {args : Array Value} {below : List Frame} {meth : Method} {c : Code} {ts : List Cond} {Qs : State → Prop} {J0 J1 : Nat → List (Nat × Value) → List Value → MM → Prop}
    (hY : ∀ A U, Xt A U → Yy U) (hZ : ∀ A U, Xt A U → Zz A U) (hx : p.tables.exec = Jvm.exec) (hb : c.code = cc) (hml : c.maxLocals = nL) (hown : s.vm.findClass own = some m.cls) (hts : ∀ w ∈ Om, w.before args s = true) (hK : va_K D cl tys s) (hgo : GoodIn Om Om) (htb : c.exceptionTable.toList = tableOf hh) (hXc : jX Xt) (hXt : Xt (jA ad ks.length s.heap.size) s) (hmc : mc ≤ rm.cells) (hms : ms ≤ rm.slots)
    (hJ0 : J0 = fun pc lv st M => jRg ft ks M → ∀ (H : Heap) (locs : List Loc) (ls : Array Slot), va_P D cl (jcs cy ad ft ks M) H → va_S (jA ad ks.length s.heap.size) s.heap H locs → lv_has ls nL lv → W p l e (headSpec ts rm).room s m args below meth c H locs 0 0 Qs (F0 m pc ls st))
    (hJ1 : J1 = fun pc lv st M => jRg ft ks M → ∀ (H : Heap) (locs : List Loc) (ls : Array Slot), va_P D cl (jcs cy ad ft ks M) H → va_S (jA ad ks.length s.heap.size) s.heap H locs → lv_has ls nL lv → W p l e (headSpec ts rm).room s m args below meth c H locs mc ms Qs (F0 m pc ls st)) : jTvz l D cl tys cy ad ft ks Xt Om own cc rm hh mc ms J0 J1 := by
  subst hJ0; subst hJ1
  intro y bytes maxL n idx pc c0 ci ws rm1 ns1 C q9 Wp P PX As st lv M hM hw hcd hR1 hm hdc hk hc hq9 hn hsum hd hF hPX k hR H locs ls hP hS hl
  have hgw : GoodIn Om (wsV own idx C y ws) := by
    intro w h9
    unfold wsV at h9
    rcases List.mem_append.mp h9 with h9 | h9
    · simp only [List.mem_cons, List.not_mem_nil, or_false] at h9
      rcases h9 with rfl | rfl | rfl | rfl
      · exact hgo _ hm.1
      · exact hgo _ hm.2.1
      · exact hgo _ hm.2.2.1
      · exact hgo _ hm.2.2.2
    · rw [hw] at h9
      rcases List.mem_cons.mp h9 with rfl | h9
      · exact hgo _ hcd
      · exact hgo _ h9
  have hrcv : ∃ cell : Cell, H[ad c0]? = some cell ∧ cell.vm.isStatics = false ∧ s.vm.findClass C = some cell.cls := by rw [← hq9]; exact va_recv hK hP hc (jcs_at hk)
  have hA : ∀ q, jA ad ks.length H.size q → jA ad ks.length s.heap.size q := fun q z => by
    rcases z with z | z
    · exact Or.inl z
    · exact Or.inr (Nat.le_trans hS.1 z)
  refine vx_calli (vx_runV (As := As) (rest := st) ⟨hx, hb, hml, hown, hts⟩ (hM P PX _ M H.size hR hF) (cwV n hts hgw hw hR1.1 hR1.2.1 hdc hR1.2.2) ⟨(fun a U g mk q => by obtain ⟨q0, q1, qX, qP, qK⟩ := q; exact ⟨q0, q1, hXc.2 _ _ _ _ _ qX, qP, va_K.moved (u := U) (U := U.calling g mk a) (Vm.Alike.refl U.vm) qK⟩), hrcv, (fun U hU hW => ⟨rfl, by rw [hU], hXc.1 _ _ _ _ _ _ hXt hS hA hU hW, by rw [hU]; exact hP, va_K.moved hW.alike hK⟩)⟩ rfl hn hl.1 rfl (lv_room hsum) hd ⟨by show 0 + mc ≤ rm.cells; omega, by show 0 + ms ≤ rm.slots; omega⟩) hS (fun q _ z => hA q z) hA (fun q _ z => hA q z) (fun E ce q9 u t H1 locs ht hvm hpx hBX hz1 hk1 hS hce hcv hcl => ?_) (fun r u t H1 locs ht hvm hw2 hB hz1 hk1 hS => ?_)
  · obtain ⟨pre, x, suf, e1, e2, e3, e4, e5, e6, e7⟩ := hPX E u hBX.1.1 hBX.1.2
    refine vx_catch (own := own) (name := E) (E := E) hown pre x suf (htb.trans e1) (fun z hz => ?_) e3 e4 (hts _ e5) (va_Nw.use rfl ((hZ _ _ hXt).2.2.1 E e6)) hce hcv hcl ?_
    · obtain ⟨z1, nm, z2, z3, z4⟩ := e2 z hz
      exact Or.inr ⟨z1, nm, hts _ z2, hY _ _ hXt E e6 nm z3 z4⟩
    · have h9 := e7 q9 hpx H1 locs ls (by rw [← ht]; exact hBX.2.1) hS hl
      rw [Nat.zero_add, Nat.zero_add]
      exact h9
  · rw [Nat.zero_add, Nat.zero_add]
    obtain ⟨r9, M1⟩ := u
    obtain ⟨⟨rfl, qg⟩, qR, qp⟩ := hw2
    exact k r9 M1 qg qp qR H1 locs ls (by rw [← ht]; exact hB.1) hS hl
/-- a wrapper's contract out of a walk by J0 and J1 -/
theorem jHN_of {y : MethodName} {WL : (Int → MM → Prop) → List Value → MM → Prop}
    (hY : ∀ A U, Xt A U → Yy U) (hZ : ∀ A U, Xt A U → Zz A U) (hty : jTy tys cy) (hin : jIn ad ks.length) (hXc : jX Xt) (hgo : GoodIn Om Om) (hy : plainName y.cls = true) (ho : y.cls = own) (hrm : rm.cells = mc ∧ rm.slots = ms)
    (body : ∀ post av M, WL post av M → (lg_sl av).length ≤ nL ∧ ∀ J0 J1 : Nat → List (Nat × Value) → List Value → MM → Prop, jOk l D cl tys cy ad ft ks Xt Om own cc nL 1 rm post J0 → jOk l D cl tys cy ad ft ks Xt Om own cc nL 1 rm post J1 → jTvv l D cl tys cy ad ft ks Xt Om own cc rm hh mc ms J0 J1 → jTvi l D cl tys cy ad ft ks Xt Om own cc rm hh mc ms J0 J1 → jTvl l D cl tys cy ad ft ks Xt Om own cc rm hh mc ms J0 J1 → jTvz l D cl tys cy ad ft ks Xt Om own cc rm hh mc ms J0 J1 → J0 0 (lv_args 0 av) [] M) :
    jXN l D cl tys cy ad ft ks Xt y (Cond.codeWith y cc nL (jrt 1) hh :: Om) rm 1 mc ms [] (fun post _ av M => WL post av M) := by
  intro post xpost av M sz hR hF
  obtain ⟨hlen, hJ⟩ := body post av M hF
  refine vx_ofWH (cc := cc) (maxL := nL) (ret := jrt 1) hy rfl ?_
  intro p e s m args below meth c s₁ B hml hv
  obtain ⟨rfl, hsz, hXt, hP, hK⟩ := hv
  have hts := atoms_spec (ws := Cond.codeWith y cc nL (jrt 1) hh :: Om) B.pre
  have hown : s.vm.findClass own = some m.cls := by rw [← ho]; exact findClass_of_methodNamed B.named
  have hOm : ∀ w ∈ Om, w.before av.toArray s = true := fun w h => hts w (List.mem_cons_of_mem _ h)
  have htb := vx_table (x := y) B (hts _ List.mem_cons_self)
  subst hsz
  have hl := lv_entry av (n := nL) hlen
  rw [lg_entry_eq]
  have a1 : mc ≤ rm.cells := by omega
  have a2 : ms ≤ rm.slots := by omega
  exact hJ _ _ (jh_j (ts := Cond.codeWith y cc nL (jrt 1) hh :: Om) (c0 := 0) (s0 := 0) (mc := mc) (ms := ms) (xpost := xpost) B.exec B.bytes hml hown hOm hK hty hin hgo B.returns B.notSynchronized hXc hXt (Nat.zero_le _) (Nat.zero_le _) a1 a2 rfl) (jh_j (ts := Cond.codeWith y cc nL (jrt 1) hh :: Om) (c0 := mc) (s0 := ms) (mc := mc) (ms := ms) (xpost := xpost) B.exec B.bytes hml hown hOm hK hty hin hgo B.returns B.notSynchronized hXc hXt (Nat.le_refl _) (Nat.le_refl _) a1 a2 rfl)
    (jh_vv hY hZ B.exec B.bytes hml hown hOm hK hgo htb hXc hXt a1 a2 rfl rfl) (jh_vi hY hZ B.exec B.bytes hml hown hOm hK hgo htb hXc hXt a1 a2 rfl rfl) (jh_vl hY hZ B.exec B.bytes hml hown hOm hK hgo htb hXc hXt a1 a2 rfl rfl) (jh_vz hY hZ B.exec B.bytes hml hown hOm hK hgo htb hXc hXt a1 a2 rfl rfl) hR s.heap [] _ hP va_S.rf hl
end JH
