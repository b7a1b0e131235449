theorem na_I (n : Nat) (cA : ClassId) : vp_cell cA (n, .inl (fun _ : Nat => (0 : Int32))) = arrV cA n (fun _ => defaultValue .int) := rfl
theorem na_Z (n : Nat) (cA : ClassId) : vp_cell cA (n, .inl (fun _ : Nat => (0 : Int32))) = arrV cA n (fun _ => defaultValue .boolean) := rfl
theorem na_B (n : Nat) (cA : ClassId) : vp_cell cA (n, .inl (fun _ : Nat => (0 : Int32))) = arrV cA n (fun _ => defaultValue .byte) := rfl
theorem na_J (n : Nat) (cA : ClassId) : vp_cell cA (n, .inr (.inl (fun _ : Nat => (0 : Int64)))) = arrV cA n (fun _ => defaultValue .long) := rfl
section KJ
variable {p : Program} {l : Launch} {e : Env} {s : State} {m : MethodId} {args : Array Value} {below : List Frame} {meth : Method} {c : Code} {rm : Room} {D : va_G} {cl : List vw_C} {tys : List (ClassId × FieldType)} {cy : Nat → ClassId} {ad : Nat → Nat} {ft : Nat → List (Nat × Nat)} {ks : List (Nat × Nat)} {nL b0 n0 : Nat} {Qs : State → Prop} {cc : ByteArray} {own : String} {Om : List Cond} {Xt : (Nat → Prop) → State → Prop}
theorem kj_sz (had : ∀ k, k < ks.length → ad k = b0 + k) (hs : s.heap.size = b0 + n0) {i : Nat} (hi : n0 + i ≤ ks.length) {H : Heap} {locs : List Loc} {M : MM} (hP : va_P D cl (jcs cy ad ft (ks.take (n0 + i)) M) H) (hS : va_S (fun q => b0 ≤ q) s.heap H locs) (h1 : H.size ≤ s.heap.size + i) : H.size = b0 + (n0 + i) := by
  have h2 := hS.1
  by_cases z : n0 + i = 0
  · omega
  · have hl : n0 + i - 1 < ks.length := by omega
    have h3 := (hP (n0 + i - 1) _ (jcs_at (tkk (List.getElem?_eq_getElem hl) (by omega)))).lt
    simp only at h3
    rw [had _ hl] at h3
    omega
theorem kj_grow (had : ∀ k, k < ks.length → ad k = b0 + k) {i : Nat} {kd : Nat × Nat} {M : MM} {H H1 : Heap} {locs : List Loc} (hk : ks[n0 + i]? = some kd) (hfr : jFr ft ks (n0 + i) M) (hR : jRg ft (ks.take (n0 + i)) M) (hP : va_P D cl (jcs cy ad ft (ks.take (n0 + i)) M) H) (hS : va_S (fun q => b0 ≤ q) s.heap H locs) (hat : va_at D cl (ad (n0 + i), jce cy ad ft kd (n0 + i) (M (n0 + i))) H1) (z1 : H.size ≤ H1.size) (o1 : ∀ q : Nat, q < H.size → H1[q]? = H[q]?) : jRg ft (ks.take (n0 + (i + 1))) M ∧ va_P D cl (jcs cy ad ft (ks.take (n0 + (i + 1))) M) H1 ∧ va_S (fun q => b0 ≤ q) s.heap H1 locs := by
  refine ⟨jRg_grow hR hk (hfr _ _ (Nat.le_refl _) hk), ?_, ⟨Nat.le_trans hS.1 z1, fun q a b => (o1 q (Nat.lt_of_lt_of_le a hS.1)).trans (hS.2.1 q a b), hS.2.2⟩⟩
  rw [show n0 + (i + 1) = n0 + i + 1 from rfl, jcs_grow hk]
  refine (hP.kept (fun k x hx => o1 x.1 (hP k x hx).lt)).app (fun k x hx => ?_)
  have hz : k < 1 := (List.getElem?_eq_some_iff.mp hx).1
  rw [show k = 0 by omega] at hx
  cases hx
  exact hat
theorem kj_ai (hx : p.tables.exec = Jvm.exec) (hb : c.code = cc) (hts : ∀ w ∈ Om, w.before args s = true) (hK : va_K D cl tys s) (had : ∀ k, k < ks.length → ad k = b0 + k) (hs : s.heap.size = b0 + n0) (hty : tys[1]? = some (cy 1, .int)) {i N pc n i1 : Nat} {x : Int} {lv : List (Nat × Value)} {st : List Value} {M : MM} (hn : n0 + i = n) (hi1 : i + 1 = i1) (hk : ks[n]? = some (0, N)) (hx1 : x = (N : Int)) (hN : N ≤ 1000000) (hw : Cond.arrayClass .int ∈ Om) (hd : decode cc pc = .ok (.newarray .int, 2)) (hic : i1 ≤ rm.cells) (his : jSl ft ks (n0 + i1) - jSl ft ks n0 ≤ rm.slots) (hfr : jFr ft ks n M) (k : jJ p l e s m args below meth c rm D cl cy ad ft ks nL b0 n0 Qs i1 (pc + 2) lv (.ref (ad n) :: st) M) : jJ p l e s m args below meth c rm D cl cy ad ft ks nL b0 n0 Qs i pc lv (.int (Ii x) :: st) M := by
  subst hn; subst hi1
  intro hR H locs ls hP hS hl T hT X
  subst hx1
  have hlt : n0 + i < ks.length := (List.getElem?_eq_some_iff.mp hk).1
  have h0 : n0 + i ≤ ks.length := by omega
  have hsz := kj_sz had hs h0 hP hS (by rw [← hT]; exact X.heapSize)
  have gN : ri_ (N : Int) := by unfold ri_; omega
  have hc : (Ii (N : Int)).toNatClampNeg = N := by have := Ii_cl gN (by omega); omega
  have hsl := jSl_s (ft := ft) hk
  have hsz1 : jSz ft (0, N) = N := rfl
  rw [hsz1] at hsl
  have hle := jSl_le (ft := ft) (ks := ks) n0 i
  rw [show n0 + (i + 1) = n0 + i + 1 from rfl, hsl] at his
  have hW0 : W p l e rm s m args below meth c H locs i (jSl ft ks (n0 + i) - jSl ft ks n0) Qs (F0 m pc ls (.int (Ii (N : Int)) :: st)) := by
    refine va_newaK (N := N) hx hb (atype := .int) (hts _ hw) rfl hd rfl (fun z => by rw [show (0 : Int32) = Ii 0 from rfl, Ii_lt gN ri_0] at z; omega) hc (by show N * 4 ≤ 536870912; omega) hic (by omega) hsz (fun H1 cA e1 z1 o1 hAr hNm => ?_)
    have h9 : s.vm.findClass ("[" ++ FieldType.int.toString) = some (cy 1) := (hK.2 1 _ hty).2
    have ecA : cA = cy 1 := Option.some.inj (hNm.symm.trans h9)
    subst ecA
    have hm := hfr _ _ (Nat.le_refl _) hk
    have hat : va_at D cl (ad (n0 + i), jce cy ad ft (0, N) (n0 + i) (M (n0 + i))) H1 := by
      rw [had _ hlt, hm]
      show H1[b0 + (n0 + i)]? = some (vp_cell (cy 1) (N, .inl (fun j : Nat => Ii (jdf ft (0, N) (j : Int)))))
      rw [show (fun j : Nat => Ii (jdf ft (0, N) (j : Int))) = fun _ => (0 : Int32) from funext fun _ => rfl, na_I]
      exact e1
    obtain ⟨r1, r2, r3⟩ := kj_grow had hk hfr hR hP hS hat (by omega) (fun q hq => o1 q (by omega))
    have hW := k r1 H1 locs ls r2 r3 hl
    rw [had _ hlt, show n0 + (i + 1) = n0 + i + 1 from rfl, hsl, show jSl ft ks (n0 + i) + N - jSl ft ks n0 = jSl ft ks (n0 + i) - jSl ft ks n0 + N from by omega] at hW
    exact hW
  exact hW0 T hT X
theorem kj_al (hx : p.tables.exec = Jvm.exec) (hb : c.code = cc) (hts : ∀ w ∈ Om, w.before args s = true) (hK : va_K D cl tys s) (had : ∀ k, k < ks.length → ad k = b0 + k) (hs : s.heap.size = b0 + n0) (hty : tys[2]? = some (cy 2, .long)) {i N pc n i1 : Nat} {x : Int} {lv : List (Nat × Value)} {st : List Value} {M : MM} (hn : n0 + i = n) (hi1 : i + 1 = i1) (hk : ks[n]? = some (1, N)) (hx1 : x = (N : Int)) (hN : N ≤ 1000000) (hw : Cond.arrayClass .long ∈ Om) (hd : decode cc pc = .ok (.newarray .long, 2)) (hic : i1 ≤ rm.cells) (his : jSl ft ks (n0 + i1) - jSl ft ks n0 ≤ rm.slots) (hfr : jFr ft ks n M) (k : jJ p l e s m args below meth c rm D cl cy ad ft ks nL b0 n0 Qs i1 (pc + 2) lv (.ref (ad n) :: st) M) : jJ p l e s m args below meth c rm D cl cy ad ft ks nL b0 n0 Qs i pc lv (.int (Ii x) :: st) M := by
  subst hn; subst hi1
  intro hR H locs ls hP hS hl T hT X
  subst hx1
  have hlt : n0 + i < ks.length := (List.getElem?_eq_some_iff.mp hk).1
  have h0 : n0 + i ≤ ks.length := by omega
  have hsz := kj_sz had hs h0 hP hS (by rw [← hT]; exact X.heapSize)
  have gN : ri_ (N : Int) := by unfold ri_; omega
  have hc : (Ii (N : Int)).toNatClampNeg = N := by have := Ii_cl gN (by omega); omega
  have hsl := jSl_s (ft := ft) hk
  have hsz1 : jSz ft (1, N) = N := rfl
  rw [hsz1] at hsl
  have hle := jSl_le (ft := ft) (ks := ks) n0 i
  rw [show n0 + (i + 1) = n0 + i + 1 from rfl, hsl] at his
  have hW0 : W p l e rm s m args below meth c H locs i (jSl ft ks (n0 + i) - jSl ft ks n0) Qs (F0 m pc ls (.int (Ii (N : Int)) :: st)) := by
    refine va_newaK (N := N) hx hb (atype := .long) (hts _ hw) rfl hd rfl (fun z => by rw [show (0 : Int32) = Ii 0 from rfl, Ii_lt gN ri_0] at z; omega) hc (by show N * 8 ≤ 536870912; omega) hic (by omega) hsz (fun H1 cA e1 z1 o1 hAr hNm => ?_)
    have h9 : s.vm.findClass ("[" ++ FieldType.long.toString) = some (cy 2) := (hK.2 2 _ hty).2
    have ecA : cA = cy 2 := Option.some.inj (hNm.symm.trans h9)
    subst ecA
    have hm := hfr _ _ (Nat.le_refl _) hk
    have hat : va_at D cl (ad (n0 + i), jce cy ad ft (1, N) (n0 + i) (M (n0 + i))) H1 := by
      rw [had _ hlt, hm]
      show H1[b0 + (n0 + i)]? = some (vp_cell (cy 2) (N, .inr (.inl (fun j : Nat => Ll (jdf ft (1, N) (j : Int))))))
      rw [show (fun j : Nat => Ll (jdf ft (1, N) (j : Int))) = fun _ => (0 : Int64) from funext fun _ => rfl, na_J]
      exact e1
    obtain ⟨r1, r2, r3⟩ := kj_grow had hk hfr hR hP hS hat (by omega) (fun q hq => o1 q (by omega))
    have hW := k r1 H1 locs ls r2 r3 hl
    rw [had _ hlt, show n0 + (i + 1) = n0 + i + 1 from rfl, hsl, show jSl ft ks (n0 + i) + N - jSl ft ks n0 = jSl ft ks (n0 + i) - jSl ft ks n0 + N from by omega] at hW
    exact hW
  exact hW0 T hT X
theorem kj_az (hx : p.tables.exec = Jvm.exec) (hb : c.code = cc) (hts : ∀ w ∈ Om, w.before args s = true) (hK : va_K D cl tys s) (had : ∀ k, k < ks.length → ad k = b0 + k) (hs : s.heap.size = b0 + n0) (hty : tys[3]? = some (cy 3, .boolean)) {i N pc n i1 : Nat} {x : Int} {lv : List (Nat × Value)} {st : List Value} {M : MM} (hn : n0 + i = n) (hi1 : i + 1 = i1) (hk : ks[n]? = some (2, N)) (hx1 : x = (N : Int)) (hN : N ≤ 1000000) (hw : Cond.arrayClass .boolean ∈ Om) (hd : decode cc pc = .ok (.newarray .boolean, 2)) (hic : i1 ≤ rm.cells) (his : jSl ft ks (n0 + i1) - jSl ft ks n0 ≤ rm.slots) (hfr : jFr ft ks n M) (k : jJ p l e s m args below meth c rm D cl cy ad ft ks nL b0 n0 Qs i1 (pc + 2) lv (.ref (ad n) :: st) M) : jJ p l e s m args below meth c rm D cl cy ad ft ks nL b0 n0 Qs i pc lv (.int (Ii x) :: st) M := by
  subst hn; subst hi1
  intro hR H locs ls hP hS hl T hT X
  subst hx1
  have hlt : n0 + i < ks.length := (List.getElem?_eq_some_iff.mp hk).1
  have h0 : n0 + i ≤ ks.length := by omega
  have hsz := kj_sz had hs h0 hP hS (by rw [← hT]; exact X.heapSize)
  have gN : ri_ (N : Int) := by unfold ri_; omega
  have hc : (Ii (N : Int)).toNatClampNeg = N := by have := Ii_cl gN (by omega); omega
  have hsl := jSl_s (ft := ft) hk
  have hsz1 : jSz ft (2, N) = N := rfl
  rw [hsz1] at hsl
  have hle := jSl_le (ft := ft) (ks := ks) n0 i
  rw [show n0 + (i + 1) = n0 + i + 1 from rfl, hsl] at his
  have hW0 : W p l e rm s m args below meth c H locs i (jSl ft ks (n0 + i) - jSl ft ks n0) Qs (F0 m pc ls (.int (Ii (N : Int)) :: st)) := by
    refine va_newaK (N := N) hx hb (atype := .boolean) (hts _ hw) rfl hd rfl (fun z => by rw [show (0 : Int32) = Ii 0 from rfl, Ii_lt gN ri_0] at z; omega) hc (by show N * 1 ≤ 536870912; omega) hic (by omega) hsz (fun H1 cA e1 z1 o1 hAr hNm => ?_)
    have h9 : s.vm.findClass ("[" ++ FieldType.boolean.toString) = some (cy 3) := (hK.2 3 _ hty).2
    have ecA : cA = cy 3 := Option.some.inj (hNm.symm.trans h9)
    subst ecA
    have hm := hfr _ _ (Nat.le_refl _) hk
    have hat : va_at D cl (ad (n0 + i), jce cy ad ft (2, N) (n0 + i) (M (n0 + i))) H1 := by
      rw [had _ hlt, hm]
      show H1[b0 + (n0 + i)]? = some (vp_cell (cy 3) (N, .inl (fun j : Nat => Ii (jdf ft (2, N) (j : Int)))))
      rw [show (fun j : Nat => Ii (jdf ft (2, N) (j : Int))) = fun _ => (0 : Int32) from funext fun _ => rfl, na_Z]
      exact e1
    obtain ⟨r1, r2, r3⟩ := kj_grow had hk hfr hR hP hS hat (by omega) (fun q hq => o1 q (by omega))
    have hW := k r1 H1 locs ls r2 r3 hl
    rw [had _ hlt, show n0 + (i + 1) = n0 + i + 1 from rfl, hsl, show jSl ft ks (n0 + i) + N - jSl ft ks n0 = jSl ft ks (n0 + i) - jSl ft ks n0 + N from by omega] at hW
    exact hW
  exact hW0 T hT X
theorem kj_ab (hx : p.tables.exec = Jvm.exec) (hb : c.code = cc) (hts : ∀ w ∈ Om, w.before args s = true) (hK : va_K D cl tys s) (had : ∀ k, k < ks.length → ad k = b0 + k) (hs : s.heap.size = b0 + n0) (hty : tys[0]? = some (cy 0, .byte)) {i N pc n i1 : Nat} {x : Int} {lv : List (Nat × Value)} {st : List Value} {M : MM} (hn : n0 + i = n) (hi1 : i + 1 = i1) (hk : ks[n]? = some (3, N)) (hx1 : x = (N : Int)) (hN : N ≤ 1000000) (hw : Cond.arrayClass .byte ∈ Om) (hd : decode cc pc = .ok (.newarray .byte, 2)) (hic : i1 ≤ rm.cells) (his : jSl ft ks (n0 + i1) - jSl ft ks n0 ≤ rm.slots) (hfr : jFr ft ks n M) (k : jJ p l e s m args below meth c rm D cl cy ad ft ks nL b0 n0 Qs i1 (pc + 2) lv (.ref (ad n) :: st) M) : jJ p l e s m args below meth c rm D cl cy ad ft ks nL b0 n0 Qs i pc lv (.int (Ii x) :: st) M := by
  subst hn; subst hi1
  intro hR H locs ls hP hS hl T hT X
  subst hx1
  have hlt : n0 + i < ks.length := (List.getElem?_eq_some_iff.mp hk).1
  have h0 : n0 + i ≤ ks.length := by omega
  have hsz := kj_sz had hs h0 hP hS (by rw [← hT]; exact X.heapSize)
  have gN : ri_ (N : Int) := by unfold ri_; omega
  have hc : (Ii (N : Int)).toNatClampNeg = N := by have := Ii_cl gN (by omega); omega
  have hsl := jSl_s (ft := ft) hk
  have hsz1 : jSz ft (3, N) = N := rfl
  rw [hsz1] at hsl
  have hle := jSl_le (ft := ft) (ks := ks) n0 i
  rw [show n0 + (i + 1) = n0 + i + 1 from rfl, hsl] at his
  have hW0 : W p l e rm s m args below meth c H locs i (jSl ft ks (n0 + i) - jSl ft ks n0) Qs (F0 m pc ls (.int (Ii (N : Int)) :: st)) := by
    refine va_newaK (N := N) hx hb (atype := .byte) (hts _ hw) rfl hd rfl (fun z => by rw [show (0 : Int32) = Ii 0 from rfl, Ii_lt gN ri_0] at z; omega) hc (by show N * 1 ≤ 536870912; omega) hic (by omega) hsz (fun H1 cA e1 z1 o1 hAr hNm => ?_)
    have h9 : s.vm.findClass ("[" ++ FieldType.byte.toString) = some (cy 0) := (hK.2 0 _ hty).2
    have ecA : cA = cy 0 := Option.some.inj (hNm.symm.trans h9)
    subst ecA
    have hm := hfr _ _ (Nat.le_refl _) hk
    have hat : va_at D cl (ad (n0 + i), jce cy ad ft (3, N) (n0 + i) (M (n0 + i))) H1 := by
      rw [had _ hlt, hm]
      show H1[b0 + (n0 + i)]? = some (vp_cell (cy 0) (N, .inl (fun j : Nat => Ii (jdf ft (3, N) (j : Int)))))
      rw [show (fun j : Nat => Ii (jdf ft (3, N) (j : Int))) = fun _ => (0 : Int32) from funext fun _ => rfl, na_B]
      exact e1
    obtain ⟨r1, r2, r3⟩ := kj_grow had hk hfr hR hP hS hat (by omega) (fun q hq => o1 q (by omega))
    have hW := k r1 H1 locs ls r2 r3 hl
    rw [had _ hlt, show n0 + (i + 1) = n0 + i + 1 from rfl, hsl, show jSl ft ks (n0 + i) + N - jSl ft ks n0 = jSl ft ks (n0 + i) - jSl ft ks n0 + N from by omega] at hW
    exact hW
  exact hW0 T hT X
theorem kj_q4 (hx : p.tables.exec = Jvm.exec) (hb : c.code = cc) (hts : ∀ w ∈ Om, w.before args s = true) (hK : va_K D cl tys s) (had : ∀ k, k < ks.length → ad k = b0 + k) (hs : s.heap.size = b0 + n0) (hown : s.vm.findClass own = some m.cls) (hao : va_AO "HeapWorks$Picture" s) (hty : tys[4]? = some (cy 4, .object "HeapWorks$Picture")) {i N pc idx n i1 : Nat} {x : Int} {lv : List (Nat × Value)} {st : List Value} {M : MM} (hn : n0 + i = n) (hi1 : i + 1 = i1) (hk : ks[n]? = some (4, N)) (hx1 : x = (N : Int)) (hN : N ≤ 1000000) (hw : Cond.classLink own idx "HeapWorks$Picture" ∈ Om) (hd : decode cc pc = .ok (.anewarray idx, 3)) (hic : i1 ≤ rm.cells) (his : jSl ft ks (n0 + i1) - jSl ft ks n0 ≤ rm.slots) (hfr : jFr ft ks n M) (k : jJ p l e s m args below meth c rm D cl cy ad ft ks nL b0 n0 Qs i1 (pc + 3) lv (.ref (ad n) :: st) M) : jJ p l e s m args below meth c rm D cl cy ad ft ks nL b0 n0 Qs i pc lv (.int (Ii x) :: st) M := by
  subst hn; subst hi1
  intro hR H locs ls hP hS hl T hT X
  subst hx1
  have hlt : n0 + i < ks.length := (List.getElem?_eq_some_iff.mp hk).1
  have h0 : n0 + i ≤ ks.length := by omega
  have hsz := kj_sz had hs h0 hP hS (by rw [← hT]; exact X.heapSize)
  have gN : ri_ (N : Int) := by unfold ri_; omega
  have hc : (Ii (N : Int)).toNatClampNeg = N := by have := Ii_cl gN (by omega); omega
  have hsl := jSl_s (ft := ft) hk
  have hsz1 : jSz ft (4, N) = N := rfl
  rw [hsz1] at hsl
  have hle := jSl_le (ft := ft) (ks := ks) n0 i
  rw [show n0 + (i + 1) = n0 + i + 1 from rfl, hsl] at his
  have hW0 : W p l e rm s m args below meth c H locs i (jSl ft ks (n0 + i) - jSl ft ks n0) Qs (F0 m pc ls (.int (Ii (N : Int)) :: st)) := by
    refine W.anew hx hb hown (hts _ hw) (va_AO.use hao) rfl hd rfl (fun z => by rw [show (0 : Int32) = Ii 0 from rfl, Ii_lt gN ri_0] at z; omega) (by rw [hc]; omega) hic (by rw [hc]; omega) (fun cA kA comp f1 f2 f3 f4 => ?_)
    rw [hc]
    generalize hH1 : H.push ({ cls := cA, slots := Array.replicate N .null, vm := .none } : Cell) = H1
    have z1 : H1.size = H.size + 1 := by rw [← hH1, Array.size_push]
    have e1 : H1[H.size]? = some (arrV cA N (fun _ => .null)) := by rw [← hH1, Array.getElem?_push_size, ← arrV_new]
    have o1 : ∀ q : Nat, q < H.size → H1[q]? = H[q]? := fun q hq => by rw [← hH1, Array.getElem?_push, if_neg (Nat.ne_of_lt hq)]
    obtain ⟨kA9, comp9, g1, g2, g3, g4⟩ := (hK.2 4 _ hty).2
    have ecA : cA = cy 4 := Option.some.inj (f1.symm.trans g4)
    subst ecA
    have hm := hfr _ _ (Nat.le_refl _) hk
    have hat : va_at D cl (ad (n0 + i), jce cy ad ft (4, N) (n0 + i) (M (n0 + i))) H1 := by
      rw [had _ hlt, hm, ← hsz]
      show H1[H.size]? = some (vp_cell (cy 4) (N, .inr (.inr (.inr (.inr (fun j : Nat => jrv ad (jdf ft (4, N) (j : Int))))))))
      rw [vp_cell_q]
      exact e1
    obtain ⟨r1, r2, r3⟩ := kj_grow had hk hfr hR hP hS hat (by omega) o1
    have hW := k r1 H1 locs ls r2 r3 hl
    rw [had _ hlt, ← hsz, show n0 + (i + 1) = n0 + i + 1 from rfl, hsl, show jSl ft ks (n0 + i) + N - jSl ft ks n0 = jSl ft ks (n0 + i) - jSl ft ks n0 + N from by omega] at hW
    exact hW
  exact hW0 T hT X
theorem kj_q5 (hx : p.tables.exec = Jvm.exec) (hb : c.code = cc) (hts : ∀ w ∈ Om, w.before args s = true) (hK : va_K D cl tys s) (had : ∀ k, k < ks.length → ad k = b0 + k) (hs : s.heap.size = b0 + n0) (hown : s.vm.findClass own = some m.cls) (hao : va_AO "HeapWorks$Program" s) (hty : tys[5]? = some (cy 5, .object "HeapWorks$Program")) {i N pc idx n i1 : Nat} {x : Int} {lv : List (Nat × Value)} {st : List Value} {M : MM} (hn : n0 + i = n) (hi1 : i + 1 = i1) (hk : ks[n]? = some (5, N)) (hx1 : x = (N : Int)) (hN : N ≤ 1000000) (hw : Cond.classLink own idx "HeapWorks$Program" ∈ Om) (hd : decode cc pc = .ok (.anewarray idx, 3)) (hic : i1 ≤ rm.cells) (his : jSl ft ks (n0 + i1) - jSl ft ks n0 ≤ rm.slots) (hfr : jFr ft ks n M) (k : jJ p l e s m args below meth c rm D cl cy ad ft ks nL b0 n0 Qs i1 (pc + 3) lv (.ref (ad n) :: st) M) : jJ p l e s m args below meth c rm D cl cy ad ft ks nL b0 n0 Qs i pc lv (.int (Ii x) :: st) M := by
  subst hn; subst hi1
  intro hR H locs ls hP hS hl T hT X
  subst hx1
  have hlt : n0 + i < ks.length := (List.getElem?_eq_some_iff.mp hk).1
  have h0 : n0 + i ≤ ks.length := by omega
  have hsz := kj_sz had hs h0 hP hS (by rw [← hT]; exact X.heapSize)
  have gN : ri_ (N : Int) := by unfold ri_; omega
  have hc : (Ii (N : Int)).toNatClampNeg = N := by have := Ii_cl gN (by omega); omega
  have hsl := jSl_s (ft := ft) hk
  have hsz1 : jSz ft (5, N) = N := rfl
  rw [hsz1] at hsl
  have hle := jSl_le (ft := ft) (ks := ks) n0 i
  rw [show n0 + (i + 1) = n0 + i + 1 from rfl, hsl] at his
  have hW0 : W p l e rm s m args below meth c H locs i (jSl ft ks (n0 + i) - jSl ft ks n0) Qs (F0 m pc ls (.int (Ii (N : Int)) :: st)) := by
    refine W.anew hx hb hown (hts _ hw) (va_AO.use hao) rfl hd rfl (fun z => by rw [show (0 : Int32) = Ii 0 from rfl, Ii_lt gN ri_0] at z; omega) (by rw [hc]; omega) hic (by rw [hc]; omega) (fun cA kA comp f1 f2 f3 f4 => ?_)
    rw [hc]
    generalize hH1 : H.push ({ cls := cA, slots := Array.replicate N .null, vm := .none } : Cell) = H1
    have z1 : H1.size = H.size + 1 := by rw [← hH1, Array.size_push]
    have e1 : H1[H.size]? = some (arrV cA N (fun _ => .null)) := by rw [← hH1, Array.getElem?_push_size, ← arrV_new]
    have o1 : ∀ q : Nat, q < H.size → H1[q]? = H[q]? := fun q hq => by rw [← hH1, Array.getElem?_push, if_neg (Nat.ne_of_lt hq)]
    obtain ⟨kA9, comp9, g1, g2, g3, g4⟩ := (hK.2 5 _ hty).2
    have ecA : cA = cy 5 := Option.some.inj (f1.symm.trans g4)
    subst ecA
    have hm := hfr _ _ (Nat.le_refl _) hk
    have hat : va_at D cl (ad (n0 + i), jce cy ad ft (5, N) (n0 + i) (M (n0 + i))) H1 := by
      rw [had _ hlt, hm, ← hsz]
      show H1[H.size]? = some (vp_cell (cy 5) (N, .inr (.inr (.inr (.inr (fun j : Nat => jrv ad (jdf ft (5, N) (j : Int))))))))
      rw [vp_cell_q]
      exact e1
    obtain ⟨r1, r2, r3⟩ := kj_grow had hk hfr hR hP hS hat (by omega) o1
    have hW := k r1 H1 locs ls r2 r3 hl
    rw [had _ hlt, ← hsz, show n0 + (i + 1) = n0 + i + 1 from rfl, hsl, show jSl ft ks (n0 + i) + N - jSl ft ks n0 = jSl ft ks (n0 + i) - jSl ft ks n0 + N from by omega] at hW
    exact hW
  exact hW0 T hT X
theorem kj_new (hx : p.tables.exec = Jvm.exec) (hb : c.code = cc) (hts : ∀ w ∈ Om, w.before args s = true) (hK : va_K D cl tys s) (had : ∀ k, k < ks.length → ad k = b0 + k) (hs : s.heap.size = b0 + n0) (hown : s.vm.findClass own = some m.cls) {i ci pc idx n i1 : Nat} {lv : List (Nat × Value)} {st : List Value} {M : MM} (hn : n0 + i = n) (hi1 : i + 1 = i1) (hk : ks[n]? = some (6, ci)) (hw : jNC cl Om ft own idx ci) (hd : decode cc pc = .ok (.new idx, 3)) (hic : i1 ≤ rm.cells) (his : jSl ft ks (n0 + i1) - jSl ft ks n0 ≤ rm.slots) (hfr : jFr ft ks n M) (k : jJ p l e s m args below meth c rm D cl cy ad ft ks nL b0 n0 Qs i1 (pc + 3) lv (.ref (ad n) :: st) M) : jJ p l e s m args below meth c rm D cl cy ad ft ks nL b0 n0 Qs i pc lv st M := by
  subst hn; subst hi1
  intro hR H locs ls hP hS hl T hT X
  have hlt : n0 + i < ks.length := (List.getElem?_eq_some_iff.mp hk).1
  have h0 : n0 + i ≤ ks.length := by omega
  have hsz := kj_sz had hs h0 hP hS (by rw [← hT]; exact X.heapSize)
  obtain ⟨C, T9, N, ty, hc, hin, hty, w1, w2, w3, hlen, hfd⟩ := hw
  have hsl := jSl_s (ft := ft) hk
  have hsz1 : jSz ft (6, ci) = N := hlen
  rw [hsz1] at hsl
  have hle := jSl_le (ft := ft) (ks := ks) n0 i
  rw [show n0 + (i + 1) = n0 + i + 1 from rfl, hsl] at his
  have hKn := hK.1 ci _ hc
  have hW0 : W p l e rm s m args below meth c H locs i (jSl ft ks (n0 + i) - jSl ft ks n0) Qs (F0 m pc ls st) := by
    refine W.newcK hx hb hown (hts _ w1) (hts _ w2) (hts _ w3) rfl hd hic (by omega) hKn.2.1 hsz (fun H1 kC hkC e1 z1 o1 => ?_)
    have hm := hfr _ _ (Nat.le_refl _) hk
    have hat : va_at D cl (ad (n0 + i), jce cy ad ft (6, ci) (n0 + i) (M (n0 + i))) H1 := by
      rw [had _ hlt, hm]
      exact ⟨_, hc, (u_born ty hts hin hKn hkC e1 hty).to (fun j hj => jFd_v (k := (6, ci)) rfl (hfd j hj))⟩
    obtain ⟨r1, r2, r3⟩ := kj_grow had hk hfr hR hP hS hat (by omega) (fun q hq => o1 q (by omega))
    have hW := k r1 H1 locs ls r2 r3 hl
    rw [had _ hlt, show n0 + (i + 1) = n0 + i + 1 from rfl, hsl, show jSl ft ks (n0 + i) + N - jSl ft ks n0 = jSl ft ks (n0 + i) - jSl ft ks n0 + N from by omega] at hW
    exact hW
  exact hW0 T hT X
theorem kj_pq (hx : p.tables.exec = Jvm.exec) (hb : c.code = cc) (hts : ∀ w ∈ Om, w.before args s = true) (hK : va_K D cl tys s) (had : ∀ k, k < ks.length → ad k = b0 + k) (hs : s.heap.size = b0 + n0) (hown : s.vm.findClass own = some m.cls) (hin2 : meth.name = "<init>") {i pc idx c0 ci f : Nat} {v : Nat} {nm : String} {fi : Int} {lv : List (Nat × Value)} {st : List Value} {M : MM} (h0 : n0 + i ≤ ks.length) (gv : ri_ (v : Int)) (hk : (ks.take (n0 + i))[c0]? = some (6, ci)) (hf : (ft ci)[f]? = some (3, 0)) (he : (f : Int) = fi) (hL : jFPF cl Om own idx ci f (.object nm)) (hd : decode cc pc = .ok (.putfield idx, 3)) (k : ∀ M1, M1 = ux_ M c0 fi (v : Int) → jJ p l e s m args below meth c rm D cl cy ad ft ks nL b0 n0 Qs i (pc + 3) lv st M1) : jJ p l e s m args below meth c rm D cl cy ad ft ks nL b0 n0 Qs i pc lv (.ref (ad v) :: .ref (ad c0) :: st) M := by
  intro hR H locs ls hP hS hl
  have hin : jIn ad (ks.take (n0 + i)).length := by rw [tkl h0]; exact jIn_b (fun k hk => had k (by omega))
  have hA : ∀ q, jA ad (ks.take (n0 + i)).length s.heap.size q → b0 ≤ q := fun q h => by rw [tkl h0, jA_b (b0 := b0) (fun k hk => had k (by omega)) (by omega) (by omega)] at h; exact h
  subst he; obtain ⟨C, T, N, ty0, hc, hw, hfN, hlk2, h5, h6, h7, h7b, h8⟩ := hL; refine va_putF hx hb hts hw ty0 h5 h6 hown hK hP (jcs_D (sz := s.heap.size) hin M |>.weaken (fun _ _ _ h => hA _ h)) hS c0 (jcs_at hk) hc f hfN (hts _ hlk2) (fun _ h9 => h9) h7 hin2 h7b h8 rfl rfl (by rw [List.length_mapIdx]; exact (List.getElem?_eq_some_iff.mp hf).1) hd (fun H locs hP hD hS => ?_)
  rw [jfs_set (M := M) (v := (v : Int)) hf (show jfv ad c0 _ f _ = _ from by unfold jfv jrv; simp; rfl)] at hP
  rw [show (Sum.inr (ci, (ft ci).mapIdx (jfv ad c0 (fun i' => if i' = (f : Int) then (v : Int) else M c0 i'))) : va_E) = jce cy ad ft (6, ci) c0 (fun i' => if i' = (f : Int) then (v : Int) else M c0 i') from rfl, jcs_set hk, ← ux_row] at hP
  exact k _ rfl (jRg_up hR (by rw [jso_fq hk hf]; exact gv)) H locs ls hP hS hl
theorem kj_pqa (hx : p.tables.exec = Jvm.exec) (hb : c.code = cc) (hts : ∀ w ∈ Om, w.before args s = true) (hK : va_K D cl tys s) (had : ∀ k, k < ks.length → ad k = b0 + k) (hs : s.heap.size = b0 + n0) (hown : s.vm.findClass own = some m.cls) (hin2 : meth.name = "<init>") {i pc idx c0 ci f : Nat} {v : Nat} {nm : FieldType} {fi : Int} {lv : List (Nat × Value)} {st : List Value} {M : MM} (h0 : n0 + i ≤ ks.length) (gv : ri_ (v : Int)) (hk : (ks.take (n0 + i))[c0]? = some (6, ci)) (hf : (ft ci)[f]? = some (3, 0)) (he : (f : Int) = fi) (hL : jFPF cl Om own idx ci f (.array nm)) (hd : decode cc pc = .ok (.putfield idx, 3)) (k : ∀ M1, M1 = ux_ M c0 fi (v : Int) → jJ p l e s m args below meth c rm D cl cy ad ft ks nL b0 n0 Qs i (pc + 3) lv st M1) : jJ p l e s m args below meth c rm D cl cy ad ft ks nL b0 n0 Qs i pc lv (.ref (ad v) :: .ref (ad c0) :: st) M := by
  intro hR H locs ls hP hS hl
  have hin : jIn ad (ks.take (n0 + i)).length := by rw [tkl h0]; exact jIn_b (fun k hk => had k (by omega))
  have hA : ∀ q, jA ad (ks.take (n0 + i)).length s.heap.size q → b0 ≤ q := fun q h => by rw [tkl h0, jA_b (b0 := b0) (fun k hk => had k (by omega)) (by omega) (by omega)] at h; exact h
  subst he; obtain ⟨C, T, N, ty0, hc, hw, hfN, hlk2, h5, h6, h7, h7b, h8⟩ := hL; refine va_putF hx hb hts hw ty0 h5 h6 hown hK hP (jcs_D (sz := s.heap.size) hin M |>.weaken (fun _ _ _ h => hA _ h)) hS c0 (jcs_at hk) hc f hfN (hts _ hlk2) (fun _ h9 => h9) h7 hin2 h7b h8 rfl rfl (by rw [List.length_mapIdx]; exact (List.getElem?_eq_some_iff.mp hf).1) hd (fun H locs hP hD hS => ?_)
  rw [jfs_set (M := M) (v := (v : Int)) hf (show jfv ad c0 _ f _ = _ from by unfold jfv jrv; simp; rfl)] at hP
  rw [show (Sum.inr (ci, (ft ci).mapIdx (jfv ad c0 (fun i' => if i' = (f : Int) then (v : Int) else M c0 i'))) : va_E) = jce cy ad ft (6, ci) c0 (fun i' => if i' = (f : Int) then (v : Int) else M c0 i') from rfl, jcs_set hk, ← ux_row] at hP
  exact k _ rfl (jRg_up hR (by rw [jso_fq hk hf]; exact gv)) H locs ls hP hS hl
theorem kj_pl (hx : p.tables.exec = Jvm.exec) (hb : c.code = cc) (hts : ∀ w ∈ Om, w.before args s = true) (hK : va_K D cl tys s) (had : ∀ k, k < ks.length → ad k = b0 + k) (hs : s.heap.size = b0 + n0) (hown : s.vm.findClass own = some m.cls) (hin2 : meth.name = "<init>") {i pc idx c0 ci f : Nat} {v : Int} {fi : Int} {lv : List (Nat × Value)} {st : List Value} {M : MM} (h0 : n0 + i ≤ ks.length) (gv : rl_ v) (hk : (ks.take (n0 + i))[c0]? = some (6, ci)) (hf : (ft ci)[f]? = some (1, 0)) (he : (f : Int) = fi) (hL : jFPF cl Om own idx ci f .long) (hd : decode cc pc = .ok (.putfield idx, 3)) (k : ∀ M1, M1 = ux_ M c0 fi v → jJ p l e s m args below meth c rm D cl cy ad ft ks nL b0 n0 Qs i (pc + 3) lv st M1) : jJ p l e s m args below meth c rm D cl cy ad ft ks nL b0 n0 Qs i pc lv (.long (Ll v) :: .ref (ad c0) :: st) M := by
  intro hR H locs ls hP hS hl
  have hin : jIn ad (ks.take (n0 + i)).length := by rw [tkl h0]; exact jIn_b (fun k hk => had k (by omega))
  have hA : ∀ q, jA ad (ks.take (n0 + i)).length s.heap.size q → b0 ≤ q := fun q h => by rw [tkl h0, jA_b (b0 := b0) (fun k hk => had k (by omega)) (by omega) (by omega)] at h; exact h
  subst he; obtain ⟨C, T, N, ty0, hc, hw, hfN, hlk2, h5, h6, h7, h7b, h8⟩ := hL; refine va_putF hx hb hts hw ty0 h5 h6 hown hK hP (jcs_D (sz := s.heap.size) hin M |>.weaken (fun _ _ _ h => hA _ h)) hS c0 (jcs_at hk) hc f hfN (hts _ hlk2) (fun _ h9 => h9) h7 hin2 h7b h8 rfl rfl (by rw [List.length_mapIdx]; exact (List.getElem?_eq_some_iff.mp hf).1) hd (fun H locs hP hD hS => ?_)
  rw [jfs_set (M := M) (v := v) hf (show jfv ad c0 _ f _ = _ from by unfold jfv; simp)] at hP
  rw [show (Sum.inr (ci, (ft ci).mapIdx (jfv ad c0 (fun i' => if i' = (f : Int) then v else M c0 i'))) : va_E) = jce cy ad ft (6, ci) c0 (fun i' => if i' = (f : Int) then v else M c0 i') from rfl, jcs_set hk, ← ux_row] at hP
  exact k _ rfl (jRg_up hR (by rw [jso_f hk hf (by decide)]; exact gv)) H locs ls hP hS hl
theorem kj_obj (hx : p.tables.exec = Jvm.exec) (hb : c.code = cc) (hml : c.maxLocals = nL) (hts : ∀ w ∈ Om, w.before args s = true) (hown : s.vm.findClass own = some m.cls) {i pc idx a : Nat} {lv : List (Nat × Value)} {st : List Value} {M : MM} (hw : Cond.methodLink own idx Lib.objectInit ∈ Om ∧ Cond.instanceMethod Lib.objectInit ∈ Om ∧ Cond.code Lib.objectInit ⟨#[0xb1]⟩ 1 none ∈ Om) (hd : decode cc pc = .ok (.invokespecial idx, 3)) (hf : 1 ≤ rm.frames) (hlo : 20 ≤ rm.locals) (hsum : (st.map fun v => v.category).sum ≤ 8) (k : jJ p l e s m args below meth c rm D cl cy ad ft ks nL b0 n0 Qs i (pc + 3) lv st M) : jJ p l e s m args below meth c rm D cl cy ad ft ks nL b0 n0 Qs i pc lv (.ref a :: st) M := by
  intro hR H locs ls hP hS hl
  refine W.objInit hx hb hown (hts _ hw.1) (hts _ hw.2.1) (hts _ hw.2.2) rfl (hl.1.trans hml.symm) rfl hd hf ?_ (k hR H locs ls hP hS hl)
  show 2 * 0 + (st.map fun v => v.category).sum + 12 ≤ rm.locals
  omega
theorem kj_call (hx : p.tables.exec = Jvm.exec) (hb : c.code = cc) (hts : ∀ w ∈ Om, w.before args s = true) (hK : va_K D cl tys s) (had : ∀ k, k < ks.length → ad k = b0 + k) (hs : s.heap.size = b0 + n0) (hml : c.maxLocals = nL) (hown : s.vm.findClass own = some m.cls) (hgo : GoodIn Om Om) (hXc : jX Xt) (hXt : Xt (fun q => b0 ≤ q) s) {y : MethodName} {bytes : ByteArray} {maxL n idx i k1 c0 pc nn i2 : Nat} {ws : List Cond} {rm1 : Room} {Wp : (MM → Prop) → List Value → MM → Prop} {P : MM → Prop} {lv : List (Nat × Value)} {st : List Value} {M : MM} (hnn : n0 + i = nn) (hi2 : i + k1 = i2) (hM : jKN l D cl tys cy ad ft ks Xt y ws rm1 b0 nn k1 Wp) (hw : ws = Cond.code y bytes maxL none :: Om) (hcd : Cond.code y bytes maxL none ∈ Om) (hR1 : rm1.cells = k1 ∧ rm1.slots = jSl ft ks (nn + k1) - jSl ft ks nn ∧ rm1.frames + 1 ≤ rm.frames ∧ 8 + (maxL + 11) + rm1.locals ≤ rm.locals) (As : List Value) (hm : Cond.methodLink own idx y ∈ Om ∧ Cond.instanceMethod y ∈ Om ∧ Cond.initialized y.cls ∈ Om) (hy1 : y.name = "<init>") (hdc : y.cls ≠ "java/lang/invoke/MethodHandle" ∧ y.cls ≠ "java/lang/invoke/VarHandle" ∧ (parseMethodDescriptor y.desc).map (fun d => d.parameters.length) = some n) (hn : As.length = n) (hsum : (st.map fun v => v.category).sum ≤ 8) (hd : decode cc pc = .ok (.invokespecial idx, 3)) (h0 : n0 + i ≤ ks.length) (hic : i2 ≤ rm.cells) (his : jSl ft ks (n0 + i2) - jSl ft ks n0 ≤ rm.slots) (hF : Wp P (.ref (ad c0) :: As) M) (k : ∀ M1, P M1 → jJ p l e s m args below meth c rm D cl cy ad ft ks nL b0 n0 Qs i2 (pc + 3) lv st M1) : jJ p l e s m args below meth c rm D cl cy ad ft ks nL b0 n0 Qs i pc lv (As.reverse ++ .ref (ad c0) :: st) M := by
  subst hnn; subst hi2
  intro hR H locs ls hP hS hl T hT X
  have hsz := kj_sz had hs h0 hP hS (by rw [← hT]; exact X.heapSize)
  have hgw : GoodIn Om ws := by
    intro w h9
    rw [hw] at h9
    rcases List.mem_cons.mp h9 with rfl | h9
    · exact hgo _ hcd
    · exact hgo _ h9
  have hle := jSl_le (ft := ft) (ks := ks) n0 i
  have hle2 := jSl_le (ft := ft) (ks := ks) (n0 + i) k1
  have e9 : n0 + (i + k1) = n0 + i + k1 := by omega
  rw [e9] at his
  refine (va_callv (va_runI (As := As) (rest := st) ⟨hx, hb, hml, hown, hts⟩ (hM P _ M hR hF) (cwI n hts hgw hw hR1.1 hR1.2.1 (hts _ hm.2.2) (hts _ hm.1) (hts _ hm.2.1) hy1 hdc hR1.2.2) ⟨(fun a U g mk q => by obtain ⟨q0, q1, qX, qP, qK⟩ := q; exact ⟨q0, q1, hXc.2 _ _ _ _ _ qX, qP, va_K.moved (u := U) (U := U.calling g mk a) (Vm.Alike.refl U.vm) qK⟩), (fun U hU hW => ⟨rfl, by rw [hU]; exact hsz, hXc.1 _ _ _ _ _ _ hXt hS (fun _ h => h) hU hW, by rw [hU]; exact hP, va_K.moved hW.alike hK⟩)⟩ rfl hn hl.1 rfl (lv_room hsum) hd ⟨hic, by omega⟩) hS (fun q _ z => z) (fun _ h => h) (fun u t H1 locs ht hvm hw2 hB hz1 hk1 hS => ?_)) T hT X
  obtain ⟨qR, qp⟩ := hw2
  have hP1 : va_P D cl (jcs cy ad ft (ks.take (n0 + i + k1)) u) H1 := by rw [← ht]; exact hB.1
  have hW := k u qp (by rw [e9]; exact qR) H1 locs ls (by rw [e9]; exact hP1) hS hl
  rw [e9, show jSl ft ks (n0 + i + k1) - jSl ft ks n0 = jSl ft ks (n0 + i) - jSl ft ks n0 + (jSl ft ks (n0 + i + k1) - jSl ft ks (n0 + i)) from by omega] at hW
  exact hW
end KJ
