/-- what the walk of a constructor may use -/
def jKc (p : Program) (l : Launch) (e : Env) (s : State) (m : MethodId) (args : Array Value) (below : List Frame) (meth : Method) (c : Code) (D : va_G) (cl : List vw_C) (tys : List (ClassId × FieldType)) (cy : Nat → ClassId) (ad : Nat → Nat) (ks : List (Nat × Nat)) (Xt : (Nat → Prop) → State → Prop) (Om : List Cond) (own : String) (cc : ByteArray) (nL b0 n0 : Nat) : Prop :=
  p.tables.exec = Jvm.exec ∧ c.code = cc ∧ c.maxLocals = nL ∧ s.vm.findClass own = some m.cls ∧ (∀ w ∈ Om, w.before args s = true) ∧ va_K D cl tys s ∧ jTy tys cy ∧ (∀ k, k < ks.length → ad k = b0 + k) ∧ GoodIn Om Om ∧ jX Xt ∧ Xt (fun q => b0 ≤ q) s ∧ s.heap.size = b0 + n0
theorem kj_ok {l : Launch} {D : va_G} {cl : List vw_C} {tys : List (ClassId × FieldType)} {cy : Nat → ClassId} {ad : Nat → Nat} {ft : Nat → List (Nat × Nat)} {ks : List (Nat × Nat)} {Xt : (Nat → Prop) → State → Prop} {Om : List Cond} {own : String} {cc : ByteArray} {nL : Nat} {rm : Room} {p : Program} {e : Env} {s : State} {m : MethodId} {args : Array Value} {below : List Frame} {meth : Method} {c : Code} {b0 n0 : Nat} {Qs : State → Prop} (hc : jKc p l e s m args below meth c D cl tys cy ad ks Xt Om own cc nL b0 n0) {i rk : Nat} {post : Int → MM → Prop} (h0 : n0 + i ≤ ks.length) (hic : i ≤ rm.cells) (his : jSl ft ks (n0 + i) - jSl ft ks n0 ≤ rm.slots)
    (h5 : rk = 5 ∨ (rk = 0 ∧ ∀ pc lv M, decode cc pc = .ok (.return_, 1) → post 0 M → jJ p l e s m args below meth c rm D cl cy ad ft ks nL b0 n0 Qs i pc lv [] M)) :
    jOk l D cl tys cy ad ft (ks.take (n0 + i)) Xt Om own cc nL rk rm post (jJ p l e s m args below meth c rm D cl cy ad ft ks nL b0 n0 Qs i) := by
  obtain ⟨hx, hb, hml, hown, hts, hK, hty, had, hgo, hXc, hXt, hs⟩ := hc
  have eA : jA ad (ks.take (n0 + i)).length s.heap.size = fun q => b0 ≤ q := by rw [tkl h0]; exact jA_b (fun k hk => had k (by omega)) (by omega) (by omega)
  refine ⟨p, e, s, m, args, below, meth, c, [], i, jSl ft ks (n0 + i) - jSl ft ks n0, Qs, hx, hb, hml, hown, hts, hK, hty, by rw [tkl h0]; exact jIn_b (fun k hk => had k (by omega)), hgo, hic, his, hXc, by rw [eA]; exact hXt, by rw [eA]; rfl, fun z pc lv M hd hq => ?_, fun z => ?_, fun z => ?_, fun z => ?_, fun z => ?_⟩
  · rcases h5 with h5 | h5
    · omega
    · exact h5.2 pc lv M hd hq
  · omega
  · omega
  · omega
  · omega
theorem jKN_of {l : Launch} {D : va_G} {cl : List vw_C} {tys : List (ClassId × FieldType)} {cy : Nat → ClassId} {ad : Nat → Nat} {ft : Nat → List (Nat × Nat)} {ks : List (Nat × Nat)} {Xt : (Nat → Prop) → State → Prop} {Om : List Cond} {own : String} {cc : ByteArray} {nL : Nat} {rm : Room} {y : MethodName} {b0 n0 k : Nat} {Wp : (MM → Prop) → List Value → MM → Prop}
    (hty : jTy tys cy) (had : ∀ k, k < ks.length → ad k = b0 + k) (hXc : jX Xt) (hgo : GoodIn Om Om) (hy : plainName y.cls = true) (ho : y.cls = own) (hnm : y.name = "<init>")
    (body : ∀ post av M, Wp post av M → (lg_sl av).length ≤ nL ∧ ∀ (p : Program) (e : Env) (s : State) (m : MethodId) (below : List Frame) (meth : Method) (c : Code) (Qs : State → Prop), jKc p l e s m av.toArray below meth c D cl tys cy ad ks Xt Om own cc nL b0 n0 → meth.name = "<init>" →
      (∀ pc lv M, decode cc pc = .ok (.return_, 1) → post M → jJ p l e s m av.toArray below meth c rm D cl cy ad ft ks nL b0 n0 Qs k pc lv [] M) → jJ p l e s m av.toArray below meth c rm D cl cy ad ft ks nL b0 n0 Qs 0 0 (lv_args 0 av) [] M) :
    jKN l D cl tys cy ad ft ks Xt y (Cond.code y cc nL none :: Om) rm b0 n0 k Wp := by
  intro post av M hR hF
  obtain ⟨hlen, hJ⟩ := body post av M hF
  refine Met.ofW (cc := cc) (maxL := nL) (ret := none) hy rfl ?_
  intro p e s m args below meth c s₁ B hml hv
  obtain ⟨rfl, hsz, hXt, hP, hK⟩ := hv
  have hx := B.exec
  have hb := B.bytes
  have hr := B.returns
  have hlk := B.notSynchronized
  have hts := atoms_spec (ws := Cond.code y cc nL none :: Om) B.pre
  have hown : s.vm.findClass own = some m.cls := by rw [← ho]; exact findClass_of_methodNamed B.named
  have hmn : meth.name = "<init>" := by rw [← hnm]; exact (name_of_methodNamed B.named B.method).1
  have hl := lv_entry av (n := nL) hlen
  rw [lg_entry_eq]
  have h9 := hJ p e s m below meth c (MQ below (va_Qv (fun u : MM => jRg ft (ks.take (n0 + k)) u ∧ post u) (fun u t => jWo D cl tys cy ad ft (ks.take (n0 + k)) u t) (fun q => b0 ≤ q)) av.toArray s k (jSl ft ks (n0 + k) - jSl ft ks n0) (fun q => b0 ≤ q)) ⟨hx, hb, hml, hown, fun w h => hts w (List.mem_cons_of_mem _ h), hK, hty, had, hgo, hXc, hXt, hsz⟩ hmn ?_
  · have h8 := h9 hR s.heap [] _ hP va_S.rf hl
    rw [show jSl ft ks (n0 + 0) - jSl ft ks n0 = 0 from by simp] at h8
    exact h8
  · intro pc lv M hd hq hR H locs ls hP hS hl
    exact W.vret hx hb hr (fun t ht hW => ⟨⟨M, rfl, ⟨hR, hq⟩, by rw [ht]; exact hP, va_K.moved hW.alike hK⟩, hS.F ht⟩) hS.2.2 hd
