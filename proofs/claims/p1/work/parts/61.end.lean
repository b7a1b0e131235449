theorem P0k {D : va_G} {cl : List vw_C} {s : State} : va_K D cl [] s → True := fun _ => trivial
set_option maxHeartbeats 4000000 in
set_option maxRecDepth 100000 in
/-- behind a call: no more calls, true -/
theorem lw_end {p : Program} {l : Launch} {e : Env} {s : State} {m : MethodId} {below : List Frame} {meth : Method} {c : Code} {b : Nat} {xs : Nat → Int32} (hst : l.stackTraces = false) (C0 : lw_At p s m meth c b 6 xs) {A : Nat → Prop} (hA : ∀ q : Nat, s.heap.size ≤ q → A q) (hAf : ∀ q : Nat, A q → s.heap.size ≤ q) (hZ : Zz A s) (hY : Yy s) {cells slots : Nat} (hcm : cells ≤ 600002) (hsm : slots ≤ 7302232) (dC : Nat → ClassId) (dI : Nat → Nat → Nat)     {H : Heap} {locs : List Loc} (hK : va_K (dC, dI) vwCl [] s → True) (hP : va_P (dC, dI) vwCl [] H) (hD : va_D A []) (hS : va_S A s.heap H locs) (ls : Array Slot) (hl : lv_has ls 8 [(0, .ref b), (4, .int 0)]) : W p l e room_1 s m #[Value.ref b] below meth c H locs cells slots (lw_Z below #[Value.ref b] s) (F0 m 3111 ls []) := by
  obtain ⟨hx, hb, hr, hml, hown0, hts0, hX, hbl, hlocks, hgv⟩ := id C0
  have hown : s.vm.findClass RL = some m.cls := hown0
  have hts : ∀ w ∈ lwW, w.before #[Value.ref b] s = true := fun w h => hts0 w (lwW_in w h)
  have hbA : ¬ A b := fun h => absurd (hAf b h) (Nat.not_le.mpr hbl)
  refine lv_iinc (v := 6) (lv' := [(4, .int 6), (0, .ref b)]) hx hb dL_law_3111 hl (k := 1) rfl (by decide) (by decide) rfl (fun ls hl => ?_)
  refine lv_goto (tgt := 23) hx hb dL_law_3114 (by decide) ?_
  refine lv_iload hx hb dL_law_23 (lv_at hl 0 rfl) ?_
  refine lv_aload_n hx hb dL_law_25 rfl (lv_at hl 1 rfl) ?_
  refine va_slen hx hb hX hbl hbA hS dL_law_26 ?_
  refine lv_topi (fun x101 ex101 => ?_)
  obtain rfl : x101 = 6 := ex101.trans (by decide)
  refine lv_bipush (v := 6) hx hb dL_law_27 (by decide) ?_
  refine lv_isub hx hb dL_law_29  ?_
  refine lv_topi (fun x102 ex102 => ?_)
  obtain rfl : x102 = 0 := ex102.trans (by decide)
  refine lv_icmp_gt (tgt := 3117) hx hb dL_law_30 (by decide) (fun c103 => ?_) (fun c103 => absurd c103 (by decide))
  refine lv_iconst (v := 1) hx hb dL_law_3117 (by decide) ?_
  refine va_forget (fun q hq => hAf _ (hS.2.2 q hq)) ?_
  refine W.widen (k := 600002) (n := 7302232) hcm hsm ?_
  exact lw_ret hx hb hr hlocks dL_law_3118

set_option maxHeartbeats 4000000 in
/-- a script that is too short for a call -/
theorem lw_short {p : Program} {l : Launch} {e : Env} {s : State} {m : MethodId} {below : List Frame} {meth : Method} {c : Code} {b L : Nat} {xs : Nat → Int32} (C0 : lw_At p s m meth c b L xs) {A : Nat → Prop} (hAf : ∀ q : Nat, A q → s.heap.size ≤ q) (hq : Int32.ofNat L - 6 < 0) {cells slots : Nat} (hcm : cells ≤ 600002) (hsm : slots ≤ 7302232) {H : Heap} {locs : List Loc} (hS : va_S A s.heap H locs) (ls : Array Slot) (hl : lv_has ls 8 [(0, .ref b), (4, .int 0)]) : W p l e room_1 s m #[Value.ref b] below meth c H locs cells slots (lw_Z below #[Value.ref b] s) (F0 m 23 ls []) := by
  obtain ⟨hx, hb, hr, hml, hown0, hts0, hX, hbl, hlocks, hgv⟩ := id C0
  have hbA : ¬ A b := fun h => absurd (hAf b h) (Nat.not_le.mpr hbl)
  refine lv_iload hx hb dL_law_23 (lv_at hl 1 rfl) ?_
  refine lv_aload_n hx hb dL_law_25 rfl (lv_at hl 0 rfl) ?_
  refine va_slen hx hb hX hbl hbA hS dL_law_26 ?_
  refine lv_bipush (v := 6) hx hb dL_law_27 (by decide) ?_
  refine lv_isub hx hb dL_law_29 ?_
  refine lv_topi (fun x ex => ?_)
  refine lv_icmp_gt (tgt := 3117) hx hb dL_law_30 (by decide) (fun h => ?_) (fun h => absurd (by rw [ex]; exact hq) h)
  refine lv_iconst (v := 1) hx hb dL_law_3117 (by decide) ?_
  refine va_forget (fun q hq => hAf _ (hS.2.2 q hq)) ?_
  refine W.widen (k := 600002) (n := 7302232) hcm hsm ?_
  exact lw_ret hx hb hr hlocks dL_law_3118
