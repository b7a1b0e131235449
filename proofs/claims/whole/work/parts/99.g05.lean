/-! the law: lifted contracts, calls of wrappers, what stands between two calls -/
theorem jIn_w {ad : Nat → Nat} (h : jIn ad ksK.length) : jIn ad ksC.length := fun i j hi hj e => h i j (by rw [lnC] at hi; rw [lnK]; omega) (by rw [lnC] at hj; rw [lnK]; omega) e
theorem jIn_R {ad : Nat → Nat} (h : jIn ad ksK.length) : jIn (fun c => ad (286 + c)) ksR.length := fun i j hi hj e => by
  have := h (286 + i) (286 + j) (by rw [lnR] at hi; rw [lnK]; omega) (by rw [lnR] at hj; rw [lnK]; omega) e
  omega
theorem lfC {l : Launch} {D : va_G} {cy : Nat → ClassId} {ad : Nat → Nat} {xs : Nat → Int} {L : Nat} {y : MethodName} {ws : List Cond} {rm : Room} {rk : Nat} {Wp : (Int → MM → Prop) → List Value → MM → Prop} (hin : jIn ad ksK.length) (h : jCN l D vwCl (tyC cy) cy ad ftC ksC (XtC ad) y ws rm rk Wp) : jCN l D vwCl (tyC cy) cy ad ftJ ksK (XtB ad xs L) y ws rm rk (fun Q av M => ∃ (C : MM) (Q0 : Int → MM → Prop), (∀ c, c < 286 → C c = M c) ∧ jRg ftC ksC C ∧ Wp Q0 av C ∧ ∀ r C', jRg ftC ksC C' → Q0 r C' → Q r (jUp 286 C' M)) := by
  have h9 := jCN_C (tys' := tyC cy) (Xt' := XtB ad xs L) fstJ hin (fun sz U q => XtB_C (jA_w (by rw [lnC, lnK]; decide)) q) (fun _ q => q) h
  rw [lnC] at h9
  exact h9
theorem lfX {l : Launch} {D : va_G} {cy : Nat → ClassId} {ad : Nat → Nat} {xs : Nat → Int} {L : Nat} {y : MethodName} {ws : List Cond} {rm : Room} {rk mc ms : Nat} {ns : List String} {Wp : (Int → MM → Prop) → (String → MM → Prop) → List Value → MM → Prop} (hin : jIn ad ksK.length) (h : jXN l D vwCl (tyC cy) cy ad ftC ksC (XtC ad) y ws rm rk mc ms ns Wp) : jXN l D vwCl (tyC cy) cy ad ftJ ksK (XtB ad xs L) y ws rm rk mc ms ns (fun Q X av M => ∃ (C : MM) (Q0 : Int → MM → Prop) (X0 : String → MM → Prop), (∀ c, c < 286 → C c = M c) ∧ jRg ftC ksC C ∧ Wp Q0 X0 av C ∧ (∀ r C', jRg ftC ksC C' → Q0 r C' → Q r (jUp 286 C' M)) ∧ ∀ E C', jRg ftC ksC C' → E ∈ ns → X0 E C' → X E (jUp 286 C' M)) := by
  have h9 := jXN_C (tys' := tyC cy) (Xt' := XtB ad xs L) fstJ hin (fun sz U q => XtB_C (jA_w (by rw [lnC, lnK]; decide)) q) (fun _ q => q) h
  rw [lnC] at h9
  exact h9
theorem lfR {l : Launch} {D : va_G} {cy : Nat → ClassId} {ad : Nat → Nat} {xs : Nat → Int} {L : Nat} {y : MethodName} {ws : List Cond} {rm : Room} {rk : Nat} {Wp : (Int → MM → Prop) → List Value → MM → Prop} (hin : jIn ad ksK.length) (h : jCN l D vwCl (tyR cy) cy (fun c => ad (286 + c)) ftR ksR (XtR (fun c => ad (286 + c))) y ws rm rk Wp) : jCN l D vwCl (tyC cy) cy ad ftJ ksK (XtB ad xs L) y ws rm rk (fun Q av M => ∃ (C : MM) (Q0 : Int → MM → Prop), (∀ c, c < 103 → C c = M (286 + c)) ∧ jRg ftR ksR C ∧ Wp Q0 av C ∧ ∀ r C', jRg ftR ksR C' → Q0 r C' → Q r (jUpO 286 103 C' M)) := by
  have h9 := jCN_R (tys' := tyC cy) (Xt' := XtB ad xs L) ofsJ hin (fun sz U q => trivial) (fun _ q => q.sub [0, 1, 2, 3] rfl) h
  rw [lnR] at h9
  exact h9
def jTs (l : Launch) (D : va_G) (cl : List vw_C) (tys : List (ClassId × FieldType)) (cy : Nat → ClassId) (ad : Nat → Nat) (ft : Nat → List (Nat × Nat)) (ks : List (Nat × Nat)) (Xt : (Nat → Prop) → State → Prop) (Om : List Cond) (own : String) (cc : ByteArray) (rm : Room) (mc ms : Nat) (J0 J1 : Nat → List (Nat × Value) → List Value → MM → Prop) : Prop :=
  ∀ (y : MethodName) (bytes : ByteArray) (maxL n idx pc : Nat) (hh : List (Nat × Nat × Nat × Nat)) (ws : List Cond) (rm1 : Room) (WL : (Int → MM → Prop) → List Value → MM → Prop) (P : Int → MM → Prop) (As st : List Value) (lv : List (Nat × Value)) (M : MM),
    jXN l D cl tys cy ad ft ks Xt y ws rm1 1 mc ms [] (fun post _ av M => WL post av M) → ws = Cond.codeWith y bytes maxL (some .int) hh :: Om → Cond.codeWith y bytes maxL (some .int) hh ∈ Om → (rm1.cells = mc ∧ rm1.slots = ms ∧ rm1.frames + 1 ≤ rm.frames ∧ 8 + (maxL + 11) + rm1.locals ≤ rm.locals) →
    (Cond.methodLink own idx y ∈ Om ∧ Cond.static y ∈ Om ∧ Cond.initialized y.cls ∈ Om) → (y.cls ≠ "java/lang/invoke/MethodHandle" ∧ y.cls ≠ "java/lang/invoke/VarHandle" ∧ (parseMethodDescriptor y.desc).map (fun d => d.parameters.length) = some n) → As.length = n → (st.map fun v => v.category).sum ≤ 8 → decode cc pc = .ok (.invokestatic idx, 3) → WL P As M → (∀ r M1, ri_ r → P r M1 → J1 (pc + 3) lv (.int (Ii r) :: st) M1) → J0 pc lv (As.reverse ++ st) M
theorem jl_s {l : Launch} {D : va_G} {cl : List vw_C} {tys : List (ClassId × FieldType)} {cy : Nat → ClassId} {ad : Nat → Nat} {ft : Nat → List (Nat × Nat)} {ks : List (Nat × Nat)} {Xt : (Nat → Prop) → State → Prop} {Om : List Cond} {own : String} {cc : ByteArray} {nL : Nat} {rm : Room} {p : Program} {e : Env} {s : State} {m : MethodId} {args : Array Value} {below : List Frame} {meth : Method} {c : Code} {ts : List Cond} {c0 s0 mc ms : Nat} {Qs : State → Prop} {J0 J1 : Nat → List (Nat × Value) → List Value → MM → Prop}
    (hx : p.tables.exec = Jvm.exec) (hb : c.code = cc) (hml : c.maxLocals = nL) (hown : s.vm.findClass own = some m.cls) (hts : ∀ w ∈ Om, w.before args s = true) (hK : va_K D cl tys s) (hgo : GoodIn Om Om) (hXc : jX Xt) (hXt : Xt (jA ad ks.length s.heap.size) s) (hmc : c0 + mc ≤ rm.cells) (hms : s0 + ms ≤ rm.slots)
    (hJ0 : J0 = fun pc lv st M => jRg ft ks M → ∀ (H : Heap) (locs : List Loc) (ls : Array Slot), va_P D cl (jcs cy ad ft ks M) H → va_S (jA ad ks.length s.heap.size) s.heap H locs → lv_has ls nL lv → W p l e (headSpec ts rm).room s m args below meth c H locs c0 s0 Qs (F0 m pc ls st))
    (hJ1 : J1 = fun pc lv st M => jRg ft ks M → ∀ (H : Heap) (locs : List Loc) (ls : Array Slot), va_P D cl (jcs cy ad ft ks M) H → va_S (jA ad ks.length s.heap.size) s.heap H locs → lv_has ls nL lv → W p l e (headSpec ts rm).room s m args below meth c H locs (c0 + mc) (s0 + ms) Qs (F0 m pc ls st)) : jTs l D cl tys cy ad ft ks Xt Om own cc rm mc ms J0 J1 := by
  subst hJ0; subst hJ1
  intro y bytes maxL n idx pc hh ws rm1 WL P As st lv M hM hw hcd hR1 hm hdc hn hsum hd hF k hR H locs ls hP hS hl
  have hgw : GoodIn Om (va_wsS own idx y ws) := by
    intro w h9
    unfold va_wsS at h9
    rcases List.mem_append.mp h9 with h9 | h9
    · simp only [List.mem_cons, List.not_mem_nil, or_false] at h9
      rcases h9 with rfl | rfl | rfl
      · exact hgo _ hm.1
      · exact hgo _ hm.2.1
      · exact hgo _ hm.2.2
    · rw [hw] at h9
      rcases List.mem_cons.mp h9 with rfl | h9
      · exact hgo _ hcd
      · exact hgo _ h9
  have hA : ∀ q, jA ad ks.length H.size q → jA ad ks.length s.heap.size q := fun q z => by
    rcases z with z | z
    · exact Or.inl z
    · exact Or.inr (Nat.le_trans hS.1 z)
  refine vx_calli (vx_runSX (As := As) (rest := st) ⟨hx, hb, hml, hown, hts⟩ (hM P (fun _ _ => False) _ M H.size hR hF) (vx_cwSW n hts hgw hw hR1.1 hR1.2.1 hdc hR1.2.2) ⟨(fun a U g mk q => by obtain ⟨q0, q1, qX, qP, qK⟩ := q; exact ⟨q0, q1, hXc.2 _ _ _ _ _ qX, qP, va_K.moved (u := U) (U := U.calling g mk a) (Vm.Alike.refl U.vm) qK⟩), (fun U hU hW => ⟨rfl, by rw [hU], hXc.1 _ _ _ _ _ _ hXt hS hA hU hW, by rw [hU]; exact hP, va_K.moved hW.alike hK⟩)⟩ rfl hn hl.1 rfl (lv_room hsum) hd ⟨hmc, hms⟩) hS (fun q _ z => hA q z) hA (fun q _ z => hA q z) (fun E ce q9 u t H1 locs ht hvm hpx hBX hz1 hk1 hS hce hcv hcl => absurd hBX.1.1 List.not_mem_nil) (fun r u t H1 locs ht hvm hw2 hB hz1 hk1 hS => ?_)
  obtain ⟨r9, M1⟩ := u
  obtain ⟨⟨rfl, qg⟩, qR, qp⟩ := hw2
  exact k r9 M1 qg qp qR H1 locs ls (by rw [← ht]; exact hB.1) hS hl
/-- what stands between two calls of the law -/
def InvL (n : Nat) (M : MM) : Prop := ∃ C R : MM, Ral (n : Int) C R ∧ jRg ftC ksC C ∧ jRg ftR ksR R ∧ (∀ c, c < 286 → C c = M c) ∧ ∀ c, c < 103 → R c = M (286 + c)
theorem InvL_n {n : Nat} {C R M : MM} (h : Ral ((n : Int) + 1) C R) (hC : jRg ftC ksC C) (hR : jRg ftR ksR R) (c : ∀ c, c < 286 → C c = M c) (r : ∀ c, c < 103 → R c = M (286 + c)) : InvL (n + 1) M := ⟨C, R, by rw [show (((n + 1 : Nat) : Nat) : Int) = (n : Int) + 1 from by omega]; exact h, hC, hR, c, r⟩
theorem jUp_R {R C' M : MM} (h : ∀ c, c < 103 → R c = M (286 + c)) : ∀ c, c < 103 → R c = (jUp 286 C' M) (286 + c) := fun c hc => by
  unfold jUp; rw [if_neg (by omega)]; exact h c hc
theorem jUp_U {R C' M : MM} {r : Int} (h : ∀ c, c < 103 → R c = M (286 + c)) : ∀ c, c < 103 → R c = (ux_ (jUp 286 C' M) 389 0 r) (286 + c) := fun c hc => by
  rw [ux_g _ _ _ (by omega)]; exact jUp_R h c hc
theorem jUpO_R {R' M : MM} {c : Nat} (hc : c < 103) : R' c = (jUpO 286 103 R' M) (286 + c) := by
  unfold jUpO; rw [if_pos (by omega), show 286 + c - 286 = c from by omega]
theorem jUpO_lo {C' R' M : MM} {c : Nat} (hc : c < 286) : C' c = (jUpO 286 103 R' (jUp 286 C' M)) c := by
  unfold jUpO jUp; rw [if_neg (by omega), if_pos hc]
theorem jUpO_lu {C' R' M : MM} {r : Int} {c : Nat} (hc : c < 286) : C' c = (jUpO 286 103 R' (ux_ (jUp 286 C' M) 389 0 r)) c := by
  have e : (jUpO 286 103 R' (ux_ (jUp 286 C' M) 389 0 r)) c = (ux_ (jUp 286 C' M) 389 0 r) c := by unfold jUpO; rw [if_neg (by omega)]
  rw [e, ux_g _ _ _ (by omega)]
  unfold jUp; rw [if_pos hc]
theorem jUpO_i {R' M : MM} : jUpO 286 103 R' (jUpO 286 103 R' M) = jUpO 286 103 R' M := by
  funext c
  unfold jUpO
  by_cases h : 286 ≤ c ∧ c < 286 + 103
  · rw [if_pos h, if_pos h]
  · rw [if_neg h]
theorem jUpO_o {R' M : MM} {i : Int} (c : Nat) (h : 389 ≤ c) : (jUpO 286 103 R' M) c i = M c i := by
  unfold jUpO; rw [if_neg (by omega)]
