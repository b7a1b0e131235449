/-! rows of the ground for constructors -/
section JCK
variable {l : Launch} {D : va_G} {cl : List vw_C} {tys : List (ClassId × FieldType)} {cy : Nat → ClassId} {ad : Nat → Nat} {ft : Nat → List (Nat × Nat)} {ks : List (Nat × Nat)} {Xt : (Nat → Prop) → State → Prop} {Om : List Cond} {own : String} {cc : ByteArray} {nL rk : Nat} {rm : Room} {post : Int → MM → Prop} {J : Nat → List (Nat × Value) → List Value → MM → Prop}
variable {pc : Nat} {lv : List (Nat × Value)} {st : List Value} {M : MM}
theorem j_callSc (h : jOk l D cl tys cy ad ft ks Xt Om own cc nL rk rm post J) {y : MethodName} {bytes : ByteArray} {maxL n idx : Nat} {ws : List Cond} {rm1 : Room} {Wp : (Int → MM → Prop) → List Value → MM → Prop} {P : Int → MM → Prop} (hM : jCN l D cl tys cy ad ft ks Xt y ws rm1 1 Wp) (hw : ws = Cond.code y bytes maxL (some .char) :: Om) (hcd : Cond.code y bytes maxL (some .char) ∈ Om) (hR1 : rm1.cells = 0 ∧ rm1.slots = 0 ∧ rm1.frames + 1 ≤ rm.frames ∧ 8 + (maxL + 11) + rm1.locals ≤ rm.locals) (As : List Value) (hm : Cond.methodLink own idx y ∈ Om ∧ Cond.static y ∈ Om ∧ Cond.initialized y.cls ∈ Om) (hdc : y.cls ≠ "java/lang/invoke/MethodHandle" ∧ y.cls ≠ "java/lang/invoke/VarHandle" ∧ (parseMethodDescriptor y.desc).map (fun d => d.parameters.length) = some n) (hn : As.length = n) (hsum : (st.map fun v => v.category).sum ≤ 8) (hd : decode cc pc = .ok (.invokestatic idx, 3)) (hF : Wp P As M) (k : ∀ r M1, ri_ r → P r M1 → J (pc + 3) lv (.int (Ii r) :: st) M1) : J pc lv (As.reverse ++ st) M := by
  obtain ⟨p, e, s, m, args, below, meth, c, ts, c0_, s0_, Qs, hx, hb, hml, hown, hts, hK, hty, hin, hgo, hrc, hrs, hXc, hXt, rfl, hr0, hr1, hr2, hr3, hr4⟩ := h
  intro hR H locs ls hP hS hl
  have hgw : GoodIn Om ws := by
    intro w h9
    rw [hw] at h9
    rcases List.mem_cons.mp h9 with rfl | h9
    · exact hgo _ hcd
    · exact hgo _ h9
  have hA : ∀ q, jA ad ks.length H.size q → jA ad ks.length s.heap.size q := fun q z => by
    rcases z with z | z
    · exact Or.inl z
    · exact Or.inr (Nat.le_trans hS.1 z)
  refine va_calli (va_runS (As := As) (rest := st) ⟨hx, hb, hml, hown, hts⟩ (hM P _ M H.size hR hF) ⟨callB_of n hts hgw hw hR1.1 hR1.2.1 (hts _ hm.2.2) (hts _ hm.1) hdc hR1.2.2, hts _ hm.2.1⟩ ⟨(fun a U g mk q => by obtain ⟨q0, q1, qX, qP, qK⟩ := q; exact ⟨q0, q1, hXc.2 _ _ _ _ _ qX, qP, va_K.moved (u := U) (U := U.calling g mk a) (Vm.Alike.refl U.vm) qK⟩), (fun U hU hW => ⟨rfl, by rw [hU], hXc.1 _ _ _ _ _ _ hXt hS hA hU hW, by rw [hU]; exact hP, va_K.moved hW.alike hK⟩)⟩ rfl hn hl.1 rfl (lv_room hsum) hd ⟨hrc, hrs⟩) hS (fun q _ z => hA q z) hA (fun r u t H1 locs ht hvm hw2 hB hz1 hk1 hS => ?_)
  obtain ⟨r9, M1⟩ := u
  obtain ⟨⟨rfl, qg⟩, qR, qp⟩ := hw2
  exact k r9 M1 qg qp qR H1 locs ls (by rw [← ht]; exact hB.1) hS hl
theorem j_callTc (h : jOk l D cl tys cy ad ft ks Xt Om own cc nL rk rm post J) {y : MethodName} {bytes : ByteArray} {maxL n idx : Nat} {ws : List Cond} {rm1 : Room} {Wp : (Int → MM → Prop) → List Value → MM → Prop} {P : Int → MM → Prop} (hM : jCN l D cl tys cy ad ft ks Xt y ws rm1 1 Wp) (hw : ws = Cond.code y bytes maxL (some .char) :: Om) (hcd : Cond.code y bytes maxL (some .char) ∈ Om) (hR1 : rm1.cells = 0 ∧ rm1.slots = 0 ∧ rm1.frames + 1 ≤ rm.frames ∧ 8 + (maxL + 11) + rm1.locals ≤ rm.locals) {C : String} {q : Nat} (As : List Value) (hm : Cond.methodLink own idx y ∈ Om ∧ Cond.instanceMethod y ∈ Om ∧ Cond.selects C y y ∈ Om ∧ Cond.initialized C ∈ Om) (hdc : y.cls = C ∧ y.cls ≠ "java/lang/invoke/MethodHandle" ∧ y.cls ≠ "java/lang/invoke/VarHandle" ∧ (parseMethodDescriptor y.desc).map (fun d => d.parameters.length) = some n) (hz : ∀ A U, Xt A U → va_O C q A U U.heap) (hn : As.length = n) (hsum : (st.map fun v => v.category).sum ≤ 8) (hd : decode cc pc = .ok (.invokevirtual idx, 3)) (hF : Wp P (.ref q :: As) M) (k : ∀ r M1, ri_ r → P r M1 → J (pc + 3) lv (.int (Ii r) :: st) M1) : J pc lv (As.reverse ++ .ref q :: st) M := by
  obtain ⟨p, e, s, m, args, below, meth, c, ts, c0_, s0_, Qs, hx, hb, hml, hown, hts, hK, hty, hin, hgo, hrc, hrs, hXc, hXt, rfl, hr0, hr1, hr2, hr3, hr4⟩ := h
  intro hR H locs ls hP hS hl
  have hgw : GoodIn Om (wsV own idx C y ws) := by
    intro w h9
    unfold wsV at h9
    rcases List.mem_append.mp h9 with h9 | h9
    · simp only [List.mem_cons, List.not_mem_nil, or_false] at h9
      rcases h9 with rfl | rfl | rfl | rfl
      · exact hgo _ hm.1
      · exact hgo _ hm.2.1
      · exact hgo _ hm.2.2.1
      · exact hgo _ hm.2.2.2
    · rw [hw] at h9
      rcases List.mem_cons.mp h9 with rfl | h9
      · exact hgo _ hcd
      · exact hgo _ h9
  have hrcv : ∃ cell : Cell, H[q]? = some cell ∧ cell.vm.isStatics = false ∧ s.vm.findClass C = some cell.cls := by
    obtain ⟨cell, h1, h2, h3, -⟩ := (hz _ _ hXt).kept hS.2.1
    exact ⟨cell, h1, h2, h3⟩
  have hA : ∀ q, jA ad ks.length H.size q → jA ad ks.length s.heap.size q := fun q z => by
    rcases z with z | z
    · exact Or.inl z
    · exact Or.inr (Nat.le_trans hS.1 z)
  refine va_calli (va_runV (As := As) (rest := st) ⟨hx, hb, hml, hown, hts⟩ (hM P _ M H.size hR hF) (cwV n hts hgw hw hR1.1 hR1.2.1 hdc hR1.2.2) ⟨(fun a U g mk q => by obtain ⟨q0, q1, qX, qP, qK⟩ := q; exact ⟨q0, q1, hXc.2 _ _ _ _ _ qX, qP, va_K.moved (u := U) (U := U.calling g mk a) (Vm.Alike.refl U.vm) qK⟩), hrcv, (fun U hU hW => ⟨rfl, by rw [hU], hXc.1 _ _ _ _ _ _ hXt hS hA hU hW, by rw [hU]; exact hP, va_K.moved hW.alike hK⟩)⟩ rfl hn hl.1 rfl (lv_room hsum) hd ⟨hrc, hrs⟩) hS (fun q _ z => hA q z) hA (fun r u t H1 locs ht hvm hw2 hB hz1 hk1 hS => ?_)
  obtain ⟨r9, M1⟩ := u
  obtain ⟨⟨rfl, qg⟩, qR, qp⟩ := hw2
  exact k r9 M1 qg qp qR H1 locs ls (by rw [← ht]; exact hB.1) hS hl
theorem j_callVc (h : jOk l D cl tys cy ad ft ks Xt Om own cc nL rk rm post J) {y : MethodName} {bytes : ByteArray} {maxL n idx : Nat} {ws : List Cond} {rm1 : Room} {Wp : (Int → MM → Prop) → List Value → MM → Prop} {P : Int → MM → Prop} (hM : jCN l D cl tys cy ad ft ks Xt y ws rm1 1 Wp) (hw : ws = Cond.code y bytes maxL (some .char) :: Om) (hcd : Cond.code y bytes maxL (some .char) ∈ Om) (hR1 : rm1.cells = 0 ∧ rm1.slots = 0 ∧ rm1.frames + 1 ≤ rm.frames ∧ 8 + (maxL + 11) + rm1.locals ≤ rm.locals) {C : String} {c0 ci : Nat} {q9 : vw_C} (As : List Value) (hm : Cond.methodLink own idx y ∈ Om ∧ Cond.instanceMethod y ∈ Om ∧ Cond.selects C y y ∈ Om ∧ Cond.initialized C ∈ Om) (hdc : y.cls = C ∧ y.cls ≠ "java/lang/invoke/MethodHandle" ∧ y.cls ≠ "java/lang/invoke/VarHandle" ∧ (parseMethodDescriptor y.desc).map (fun d => d.parameters.length) = some n) (hk : ks[c0]? = some (6, ci)) (hc : cl[ci]? = some q9) (hq9 : q9.1 = C) (hn : As.length = n) (hsum : (st.map fun v => v.category).sum ≤ 8) (hd : decode cc pc = .ok (.invokevirtual idx, 3)) (hF : Wp P (.ref (ad c0) :: As) M) (k : ∀ r M1, ri_ r → P r M1 → J (pc + 3) lv (.int (Ii r) :: st) M1) : J pc lv (As.reverse ++ .ref (ad c0) :: st) M := by
  obtain ⟨p, e, s, m, args, below, meth, c, ts, c0_, s0_, Qs, hx, hb, hml, hown, hts, hK, hty, hin, hgo, hrc, hrs, hXc, hXt, rfl, hr0, hr1, hr2, hr3, hr4⟩ := h
  intro hR H locs ls hP hS hl
  have hgw : GoodIn Om (wsV own idx C y ws) := by
    intro w h9
    unfold wsV at h9
    rcases List.mem_append.mp h9 with h9 | h9
    · simp only [List.mem_cons, List.not_mem_nil, or_false] at h9
      rcases h9 with rfl | rfl | rfl | rfl
      · exact hgo _ hm.1
      · exact hgo _ hm.2.1
      · exact hgo _ hm.2.2.1
      · exact hgo _ hm.2.2.2
    · rw [hw] at h9
      rcases List.mem_cons.mp h9 with rfl | h9
      · exact hgo _ hcd
      · exact hgo _ h9
  have hrcv : ∃ cell : Cell, H[ad c0]? = some cell ∧ cell.vm.isStatics = false ∧ s.vm.findClass C = some cell.cls := by rw [← hq9]; exact va_recv hK hP hc (jcs_at hk)
  have hA : ∀ q, jA ad ks.length H.size q → jA ad ks.length s.heap.size q := fun q z => by
    rcases z with z | z
    · exact Or.inl z
    · exact Or.inr (Nat.le_trans hS.1 z)
  refine va_calli (va_runV (As := As) (rest := st) ⟨hx, hb, hml, hown, hts⟩ (hM P _ M H.size hR hF) (cwV n hts hgw hw hR1.1 hR1.2.1 hdc hR1.2.2) ⟨(fun a U g mk q => by obtain ⟨q0, q1, qX, qP, qK⟩ := q; exact ⟨q0, q1, hXc.2 _ _ _ _ _ qX, qP, va_K.moved (u := U) (U := U.calling g mk a) (Vm.Alike.refl U.vm) qK⟩), hrcv, (fun U hU hW => ⟨rfl, by rw [hU], hXc.1 _ _ _ _ _ _ hXt hS hA hU hW, by rw [hU]; exact hP, va_K.moved hW.alike hK⟩)⟩ rfl hn hl.1 rfl (lv_room hsum) hd ⟨hrc, hrs⟩) hS (fun q _ z => hA q z) hA (fun r u t H1 locs ht hvm hw2 hB hz1 hk1 hS => ?_)
  obtain ⟨r9, M1⟩ := u
  obtain ⟨⟨rfl, qg⟩, qR, qp⟩ := hw2
  exact k r9 M1 qg qp qR H1 locs ls (by rw [← ht]; exact hB.1) hS hl
theorem j_aast5 (h : jOk l D cl tys cy ad ft ks Xt Om own cc nL rk rm post J) {c0 n v ci : Nat} {i : Int} {q9 : vw_C} (gi : ri_ i) (gv : ri_ (v : Int)) (hk : ks[c0]? = some (5, n)) (hv : ks[v]? = some (6, ci)) (hc : cl[ci]? = some q9) (ht : tys[5]? = some (cy 5, .object q9.1)) (h0 : 0 ≤ i) (h1 : i < (n : Int)) (hd : decode cc pc = .ok (.aastore, 1)) (k : ∀ M1, M1 = ux_ M c0 i (v : Int) → J (pc + 1) lv st M1) : J pc lv (.ref (ad v) :: .int (Ii i) :: .ref (ad c0) :: st) M := by
  obtain ⟨p, e, s, m, args, below, meth, c, ts, c0_, s0_, Qs, hx, hb, hml, hown, hts, hK, hty, hin, hgo, hrc, hrs, hXc, hXt, rfl, hr0, hr1, hr2, hr3, hr4⟩ := h
  intro hR H locs ls hP hS hl
  refine va_astq hx hb hK hP (jcs_D hin M) hS c0 5 v ci (jcs_at hk) ht (jcs_at hv) hc (Ii_in gi h0 h1) hd (fun H locs hP hD hS => ?_)
  rw [jup_q gi h0] at hP
  rw [show (Sum.inl (cy 5, n, .inr (.inr (.inr (.inr (fun j => jrv ad ((fun i' => if i' = i then (v : Int) else M c0 i') (j : Int))))))) : va_E) = jce cy ad ft (5, n) c0 (fun i' => if i' = i then (v : Int) else M c0 i') from rfl, jcs_set hk, ← ux_row] at hP
  exact k _ rfl (jRg_up hR (by rw [jso_q hk (Or.inr rfl)]; exact gv)) H locs ls hP hS hl
theorem j_gsq (h : jOk l D cl tys cy ad ft ks Xt Om own cc nL rk rm post J) {C n dd : String} {idx : Nat} (hz : ∀ A U, Xt A U → va_Zq C n dd A U U.heap) (hw : Cond.fieldLink own idx C n dd ∈ Om) (hd : decode cc pc = .ok (.getstatic idx, 3)) (k0 : J (pc + 3) lv (.null :: st) M) (k1 : ∀ t : Nat, J (pc + 3) lv (.ref t :: st) M) : J pc lv st M := by
  obtain ⟨p, e, s, m, args, below, meth, c, ts, c0_, s0_, Qs, hx, hb, hml, hown, hts, hK, hty, hin, hgo, hrc, hrs, hXc, hXt, rfl, hr0, hr1, hr2, hr3, hr4⟩ := h
  intro hR H locs ls hP hS hl
  rcases hz _ _ hXt with h9 | ⟨t, h9⟩
  · exact va_gets hx hb h9 hS hown (hts _ hw) (fun _ h9 => h9) hd (k0 hR H locs ls hP hS hl)
  · exact va_gets hx hb h9 hS hown (hts _ hw) (fun _ h9 => h9) hd (k1 t hR H locs ls hP hS hl)
end JCK
theorem jc_nar {x : Int} (h : 0 ≤ x ∧ x ≤ 65535) : narrow .char (.int (Ii x)) = .int (Ii x) := by
  obtain ⟨n, rfl⟩ : ∃ n : Nat, x = (n : Int) := ⟨x.toNat, by omega⟩
  rw [show Ii (n : Int) = nI n from rfl]
  exact (pk_charN (by omega)).1
theorem jCN_ofC {l : Launch} {D : va_G} {cl : List vw_C} {tys : List (ClassId × FieldType)} {cy : Nat → ClassId} {ad : Nat → Nat} {ft : Nat → List (Nat × Nat)} {ks : List (Nat × Nat)} {Xt : (Nat → Prop) → State → Prop} {Om : List Cond} {own : String} {cc : ByteArray} {nL : Nat} {rm : Room} {y : MethodName} {Wp : (Int → MM → Prop) → List Value → MM → Prop}
    (hty : jTy tys cy) (hin : jIn ad ks.length) (hXc : jX Xt) (hgo : GoodIn Om Om) (hy : plainName y.cls = true) (ho : y.cls = own)
    (body : ∀ post av M, Wp post av M → (lg_sl av).length ≤ nL ∧ ∀ J, jOk l D cl tys cy ad ft ks Xt Om own cc nL 1 rm (fun x M => (0 ≤ x ∧ x ≤ 65535) ∧ post x M) J → J 0 (lv_args 0 av) [] M) :
    jCN l D cl tys cy ad ft ks Xt y (Cond.code y cc nL (some .char) :: Om) rm 1 Wp := by
  intro post av M sz hR hF
  obtain ⟨hlen, hJ⟩ := body post av M hF
  refine Met.ofW (cc := cc) (maxL := nL) (ret := some .char) hy rfl ?_
  intro p e s m args below meth c s₁ B hml hv
  obtain ⟨rfl, hsz, hXt, hP, hK⟩ := hv
  have hx := B.exec
  have hb := B.bytes
  have hr := B.returns
  have hlk := B.notSynchronized
  have hts := atoms_spec (ws := Cond.code y cc nL (some .char) :: Om) B.pre
  have hown : s.vm.findClass own = some m.cls := by rw [← ho]; exact findClass_of_methodNamed B.named
  subst hsz
  have hl := lv_entry av (n := nL) hlen
  rw [lg_entry_eq]
  refine hJ _ ⟨p, e, s, m, av.toArray, below, meth, c, Cond.code y cc nL (some .char) :: Om, 0, 0, _, hx, hb, hml, hown, fun w h => hts w (List.mem_cons_of_mem _ h), hK, hty, hin, hgo, Nat.zero_le _, Nat.zero_le _, hXc, hXt, rfl, ?_, ?_, ?_, ?_, ?_⟩ hR s.heap [] _ hP va_S.rf hl
  · intro hrk; omega
  · intro hrk pc lv M x gx hd hq hR H locs ls hP hS hl
    exact W.zret hx hb hr (jc_nar hq.1) (fun t ht hW => ⟨⟨_, (x, M), rfl, ⟨⟨rfl, gx⟩, hR, hq.2⟩, by rw [ht]; exact hP, va_K.moved hW.alike hK⟩, hS.F ht⟩) hS.2.2 hd
  · intro hrk; omega
  · intro hrk; omega
  · intro hrk; omega
