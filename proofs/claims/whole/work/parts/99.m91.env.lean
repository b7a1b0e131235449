/-! the law's own judgement -/
def jLw (p : Program) (l : Launch) (e : Env) (s : State) (m : MethodId) (args : Array Value) (below : List Frame) (meth : Method) (c : Code) (D : va_G) (cy : Nat → ClassId) (ad : Nat → Nat) (Qs : State → Prop) (c0 s0 : Nat) : Nat → List (Nat × Value) → List Value → MM → Prop := fun pc lv st M => jRg ftJ ksK M → ∀ (H : Heap) (locs : List Loc) (ls : Array Slot), va_P D vwCl (jcs cy ad ftJ ksK M) H → va_S (jA ad ksK.length s.heap.size) s.heap H locs → lv_has ls 8 lv → W p l e (headSpec [] room_1).room s m args below meth c H locs c0 s0 Qs (F0 m pc ls st)
theorem LwE_ok {p : Program} {l : Launch} {e : Env} {s : State} {m : MethodId} {args : Array Value} {below : List Frame} {meth : Method} {c : Code} {D : va_G} {cy : Nat → ClassId} {ad : Nat → Nat} {xs : Nat → Int} {L b0 : Nat} {Qs : State → Prop} (hc : jKc p l e s m args below meth c D vwCl (tyC cy) cy ad ksK (XtB ad xs L) Om RL cL_law 8 b0 0) : LwE l D cy ad xs L (jLw p l e s m args below meth c D cy ad Qs) := by
  obtain ⟨hx, hb, hml, hown, hts, hK, hty, had, hgo, hXc, hXt, hs⟩ := hc
  have eA : jA ad ksK.length s.heap.size = fun q => b0 ≤ q := jA_b had (by omega) (by omega)
  have hX9 : XtB ad xs L (jA ad ksK.length s.heap.size) s := by rw [eA]; exact hXt
  have r1 : room_1.cells = 601024 := rfl
  have r2 : room_1.slots = 7293034 := rfl
  refine ⟨fun c0 s0 h1 h2 => ⟨p, e, s, m, args, below, meth, c, [], c0, s0, Qs, hx, hb, hml, hown, hts, hK, hty, jIn_b had, hgo, by omega, by omega, hXc, hX9, rfl, fun z => ?_, fun z => ?_, fun z => ?_, fun z => ?_, fun z => ?_⟩, fun c0 s0 mc ms h1 h2 => jl_s (ts := []) hx hb hml hown hts hK hgo hXc hX9 (by omega) (by omega) rfl rfl, fun c0 s0 c1 s1 pc lv st M h1 h2 k hR H locs ls hP hS hl => W.widen h1 h2 (k hR H locs ls hP hS hl)⟩
  all_goals omega
