/-! Arrays.fill -/
/-- M' is M but for row a, where v stands from f on to t -/
def filled (M : MM) (a : Nat) (f t v : Int) : MM := fun c i => if c = a ∧ f ≤ i ∧ i < t then v else M c i
set_option maxHeartbeats 1000000 in
theorem p_fillI {Q : Int → MM → Prop} {a n : Nat} {v : Int} {M : MM} (hn : n < 2147483648) (h : Q 0 (filled M a 0 n v)) : w_J7_fill_53178_C a n Q v M := by
  have H : ∀ (m : Nat) (k : Int) (M1 : MM), 0 ≤ k → k ≤ n → n - k < m → M1 = filled M a 0 k v → jit (fun _ _ _ _ => False) (wb_J7_fill_53178_C_b5 a n Q) m v k n M1 := by
    intro m
    induction m with
    | zero => intro k M1 h0 h4 hn hf; omega
    | succ m ih =>
      intro k M1 h0 h4 hm hf
      show wb_J7_fill_53178_C_b5 a n Q (jit (fun _ _ _ _ => False) (wb_J7_fill_53178_C_b5 a n Q) m) v k n M1
      unfold wb_J7_fill_53178_C_b5
      refine ⟨fun z => ?_, fun z => ⟨by omega, by omega, fun M2 e2 => ⟨by unfold ri_; omega, ih (k + 1) M2 (by omega) (by omega) (by omega) ?_⟩⟩⟩
      · have e4 : k = n := by omega
        rw [hf, e4]; exact h
      · rw [e2, hf]
        funext c i
        unfold ux_ filled
        grind
  refine ⟨n + 1, H (n + 1) 0 M (by omega) (by omega) (by omega) ?_⟩
  funext c i
  unfold filled
  rw [if_neg (by omega)]
set_option maxHeartbeats 1000000 in
theorem p_fillL {Q : Int → MM → Prop} {a n : Nat} {v : Int} {M : MM} (hn : n < 2147483648) (h : Q 0 (filled M a 0 n v)) : w_J7_fill_d0a16_C a n Q v M := by
  have H : ∀ (m : Nat) (k : Int) (M1 : MM), 0 ≤ k → k ≤ n → n - k < m → M1 = filled M a 0 k v → jit (fun _ _ _ _ => False) (wb_J7_fill_d0a16_C_b6 a n Q) m v k n M1 := by
    intro m
    induction m with
    | zero => intro k M1 h0 h4 hn hf; omega
    | succ m ih =>
      intro k M1 h0 h4 hm hf
      show wb_J7_fill_d0a16_C_b6 a n Q (jit (fun _ _ _ _ => False) (wb_J7_fill_d0a16_C_b6 a n Q) m) v k n M1
      unfold wb_J7_fill_d0a16_C_b6
      refine ⟨fun z => ?_, fun z => ⟨by omega, by omega, fun M2 e2 => ⟨by unfold ri_; omega, ih (k + 1) M2 (by omega) (by omega) (by omega) ?_⟩⟩⟩
      · have e4 : k = n := by omega
        rw [hf, e4]; exact h
      · rw [e2, hf]
        funext c i
        unfold ux_ filled
        grind
  refine ⟨n + 1, H (n + 1) 0 M (by omega) (by omega) (by omega) ?_⟩
  funext c i
  unfold filled
  rw [if_neg (by omega)]
set_option maxHeartbeats 1000000 in
theorem p_fillR {Q : Int → MM → Prop} {a n : Nat} {f t v : Int} {M : MM} (hn : n < 2147483648) (h0 : 0 ≤ f) (h1 : f ≤ t) (h2 : t ≤ n) (h : Q 0 (filled M a f t v)) : w_J7_fill_fda19_C a n Q f t v M := by
  have H : ∀ (m : Nat) (k : Int) (M1 : MM), f ≤ k → k ≤ t → t - k < m → M1 = filled M a f k v → jit (fun _ _ _ _ => False) (wb_J7_fill_fda19_C_b10 a n Q) m t v k M1 := by
    intro m
    induction m with
    | zero => intro k M1 h0 h4 hn hf; omega
    | succ m ih =>
      intro k M1 h0 h4 hm hf
      show wb_J7_fill_fda19_C_b10 a n Q (jit (fun _ _ _ _ => False) (wb_J7_fill_fda19_C_b10 a n Q) m) t v k M1
      unfold wb_J7_fill_fda19_C_b10
      refine ⟨fun z => ?_, fun z => ⟨by omega, by omega, fun M2 e2 => ⟨by unfold ri_; omega, ih (k + 1) M2 (by omega) (by omega) (by omega) ?_⟩⟩⟩
      · have e4 : k = t := by omega
        rw [hf, e4]; exact h
      · rw [e2, hf]
        funext c i
        unfold ux_ filled
        grind
  unfold w_J7_fill_fda19_C w_J7_rangeCheck_23922_C
  refine ⟨fun _ => ⟨fun _ => ⟨fun _ => ?_, fun z => by omega⟩, fun z => by omega⟩, fun z => by omega⟩
  refine ⟨(t - f).toNat + 1, H ((t - f).toNat + 1) f M (by omega) (by omega) (by omega) ?_⟩
  funext c i
  unfold filled
  rw [if_neg (by omega)]
