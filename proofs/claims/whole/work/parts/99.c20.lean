/-! folds worked out: a step, an end -/
def endS (kd g : Int) : Int := if kd = 48 ∨ kd = 49 then 1 else if kd = 44 ∨ kd = 45 ∨ g ≠ 0 then 0 else 4
def endT (kd tot g : Int) : Int := if kd = 48 then g else if kd = 49 then 1 - g else if kd = 44 ∨ kd = 45 ∨ g ≠ 0 then tot else 0
abbrev tru (so v : Int) : Prop := so = 1 ∧ v = 1
def stT (kd tot g so v : Int) : Int := if kd = 44 then w64 (tot + 1) else if kd = 48 ∨ kd = 49 then tot else if so ≠ 0 then tot else if kd = 45 then w64 (tot + v) else if g = 0 then v else if kd = 46 then (if v ≤ tot then tot else v) else (if tot ≤ v then tot else v)
def stG (kd g so v : Int) : Int := if kd = 44 then g else if kd = 48 then (if tru so v then 1 else 0) else if kd = 49 then (if tru so v then 0 else 1) else if so ≠ 0 then g else 1
theorem stG_01 {kd g so v : Int} (h : g = 0 ∨ g = 1) : stG kd g so v = 0 ∨ stG kd g so v = 1 := by
  unfold stG
  repeat' split
  all_goals omega
theorem end_VV {n kd tot g : Int} (h : g = 0 ∨ g = 1) : VV n (endS kd g) (endT kd tot g) := by
  unfold endS endT VV
  by_cases a : kd = 48
  · rw [if_pos (Or.inl a), if_pos a]; omega
  · rw [if_neg a]
    by_cases b : kd = 49
    · rw [if_pos (Or.inr b), if_pos b]; omega
    · rw [if_neg (by omega), if_neg b]
      by_cases d : kd = 44 ∨ kd = 45 ∨ g ≠ 0
      · rw [if_pos d]; exact Or.inl rfl
      · rw [if_neg d, if_neg d]; omega
theorem c_isT {Q : Int → MM → Prop} {M : MM} {tp so v : Int} (t0 : 0 ≤ tp) (t1 : tp < 121) (hs : M 220 tp = so) (hv : M 221 tp = v) (h1 : tru so v → Q 1 M) (h0 : ¬ tru so v → Q 0 M) : w_X4_isTrue Q tp M := by
  unfold w_X4_isTrue
  refine ⟨fun z => by omega, fun _ => ⟨t0, t1, fun v2 e2 _ => ⟨fun z => h0 (fun y => z (by rw [e2, hs]; exact y.1)), fun z => ⟨t0, t1, fun v4 e4 _ => ⟨fun z4 => h0 (fun y => z4 (by rw [e4, hv]; exact y.2)), fun z4 => h1 ⟨by omega, by omega⟩⟩⟩⟩⟩⟩
theorem c_finish {Q : Int → MM → Prop} {c pc : Nat} {M0 R0 M : MM} {p B : Int} {P : CD} {a b e f kd tot g tp : Int} (hE : EnvQ c pc M0 R0 p B) (hC : CB M0 M) (hc : cAg P M0 c a b) (a0 : 0 ≤ a) (b5 : b ≤ M0 c 5) (e0 : a ≤ e) (e1 : e < b) (hf : P 2 e = f) (hk : P 4 e = kd) (f0 : 0 ≤ f) (f1 : f < 11) (k0 : 44 ≤ kd) (k1 : kd ≤ 49) (h227 : M 227 f = tot) (h228 : M 228 f = g) (g01 : g = 0 ∨ g = 1) (h6 : M 219 6 = tp) (t0 : 0 ≤ tp) (t1 : tp < 121) (hq : ∀ M', Psh tp (endS kd g) (endT kd tot g) M M' → Q 0 M') : w_X4_finish Q e M := by
  obtain ⟨⟨_, u1, u2, rfl⟩, u4⟩ := c_at hE hC hc (e := e) e0 e1
  have b50 := hE.2.2.2.2.1
  unfold w_X4_finish
  refine ⟨_, u1, u2, by omega, by omega, fun v2 e2 _ => ⟨_, u1, u2, by omega, by omega, fun v4 e4 _ => ?_⟩⟩
  rw [u4 2 (by omega) (by omega), hf] at e2
  rw [u4 4 (by omega) (by omega), hk] at e4
  rw [e2, e4]
  have num : ∀ (_ : endS kd g = 0 ∧ endT kd tot g = tot), w_X4_finish_b86 Q f M := fun hh => by
    unfold w_X4_finish_b86
    refine ⟨f0, f1, fun v1 e1 _ => p_push h6 t0 t1 (fun M' h => hq M' ?_)⟩
    rw [hh.1, hh.2, ← h227, ← e1]; exact h
  have trt : (kd = 48 ∨ kd = 49) → w_X4_finish_b33 Q f kd M := fun hh => by
    have eS : endS kd g = 1 := by unfold endS; rw [if_pos hh]
    unfold w_X4_finish_b33 w_X4_finish_b51 w_X4_finish_b59
    refine ⟨f0, f1, fun v1 e1 _ => ⟨fun z => ⟨fun y => ⟨Or.inl rfl, p_pushT h6 t0 t1 (Or.inl rfl) (fun M' h => hq M' ?_)⟩, fun y => ⟨Or.inr rfl, p_pushT h6 t0 t1 (Or.inr rfl) (fun M' h => hq M' ?_)⟩⟩, fun z => ⟨fun y => ⟨Or.inl rfl, p_pushT h6 t0 t1 (Or.inl rfl) (fun M' h => hq M' ?_)⟩, fun y => ⟨Or.inr rfl, p_pushT h6 t0 t1 (Or.inr rfl) (fun M' h => hq M' ?_)⟩⟩⟩⟩
    · have : endT kd tot g = 0 := by unfold endT; rw [if_neg z, if_pos (by omega)]; omega
      rw [eS, this]; exact h
    · have : endT kd tot g = 1 := by unfold endT; rw [if_neg z, if_pos (by omega)]; omega
      rw [eS, this]; exact h
    · have : endT kd tot g = 0 := by unfold endT; rw [if_pos z]; omega
      rw [eS, this]; exact h
    · have : endT kd tot g = 1 := by unfold endT; rw [if_pos z]; omega
      rw [eS, this]; exact h
  have nb : kd ≠ 48 → kd ≠ 49 → (kd = 44 ∨ kd = 45 ∨ g ≠ 0) → endS kd g = 0 ∧ endT kd tot g = tot := fun a b d => by
    unfold endS endT
    rw [if_neg (by omega), if_pos d, if_neg a, if_neg b, if_pos d]; exact ⟨rfl, rfl⟩
  refine ⟨by unfold ri_; omega, fun z => trt (Or.inl z), fun z => ⟨fun z2 => ⟨f0, f1, fun v8 e8 _ => ⟨fun z3 => num (nb z z2 (by omega)), fun z3 => ⟨fun z4 => num (nb z z2 (by omega)), fun z4 => ⟨fun z5 => p_push h6 t0 t1 (fun M' h => hq M' ?_), fun z5 => num (nb z z2 (by omega))⟩⟩⟩⟩, fun z2 => trt (Or.inr z2)⟩⟩
  have : endS kd g = 4 ∧ endT kd tot g = 0 := by
    unfold endS endT
    rw [if_neg (by omega), if_neg (by omega), if_neg z, if_neg z2, if_neg (by omega)]; exact ⟨rfl, rfl⟩
  rw [this.1, this.2]; exact h
def fsT (f : Int) (M M' : MM) : Prop := (∀ k, k ≠ 219 → k ≠ 227 → k ≠ 228 → M' k = M k) ∧ (∀ i, i ≠ 6 → M' 219 i = M 219 i) ∧ ∀ i, i ≠ f → M' 227 i = M 227 i ∧ M' 228 i = M 228 i
theorem c_step {Q : Int → MM → Prop} {c pc : Nat} {M0 R0 M : MM} {p B : Int} {P : CD} {a b e f kd tot g tp so v tgt : Int} (hE : EnvQ c pc M0 R0 p B) (hC : CB M0 M) (hc : cAg P M0 c a b) (a0 : 0 ≤ a) (b5 : b ≤ M0 c 5) (e0 : a ≤ e) (e1 : e < b) (hf : P 2 e = f) (hk : P 4 e = kd) (ht : P 3 e = tgt) (f0 : 0 ≤ f) (f1 : f < 11) (k0 : 44 ≤ kd) (k1 : kd ≤ 49) (h227 : M 227 f = tot) (h228 : M 228 f = g) (h6 : kd = 44 ∧ M 219 6 = tp ∨ kd ≠ 44 ∧ M 219 6 = tp + 1 ∧ M 220 tp = so ∧ M 221 tp = v) (t0 : 0 ≤ tp) (t1 : tp < 121) (hq : ∀ M', fsT f M M' → M' 219 6 = tp → M' 227 f = stT kd tot g so v → M' 228 f = stG kd g so v → Q (if (kd = 48 ∨ kd = 49) ∧ stG kd g so v = 1 then e + 1 else tgt) M') : w_X4_addUp Q e M := by
  obtain ⟨⟨c', u1, u2, hcc⟩, u4⟩ := c_at hE hC hc (e := e) e0 e1
  rw [hcc] at u1 u2
  have b50 := hE.2.2.2.2.1
  have g1 := hE.1
  have at' : ∀ M', fsT f M M' → M' 219 2 = M 219 2 ∧ ∀ j, 0 < j → j ≤ 4 → M' (c + j) e = P j e := fun M' h => ⟨h.2.1 2 (by decide), fun j j0 j4 => by rw [h.1 (c + j) (by unfold isG at g1; omega) (by unfold isG at g1; omega) (by unfold isG at g1; omega)]; exact u4 j j0 j4⟩
  unfold w_X4_addUp
  refine ⟨_, u1, u2, by omega, by omega, fun v2 e2 _ => ⟨_, u1, u2, by omega, by omega, fun v4 e4 _ => ?_⟩⟩
  rw [u4 2 (by omega) (by omega), hf] at e2
  rw [u4 4 (by omega) (by omega), hk] at e4
  rw [e2, e4]
  refine ⟨by unfold ri_; omega, fun z v7 e7 _ => ?_, fun z => ⟨f0, f1, fun v19 e19 _ => ⟨f0, f1, fun M20 e20 => ?_⟩⟩⟩
  · obtain ⟨h61, h62, h63⟩ : M 219 6 = tp + 1 ∧ M 220 tp = so ∧ M 221 tp = v := by
      rcases h6 with ⟨y, -⟩ | ⟨-, y⟩
      · exact absurd y z
      · exact y
    refine ⟨by unfold ri_; omega, fun M9 e9 => ?_⟩
    rw [show max 0 (v7 - 1) = tp from by omega] at e9
    have t6 : M9 219 6 = tp := by rw [e9, ux_s]
    have o9 : ∀ k, k ≠ 219 → M9 k = M k := fun k hk => by rw [e9, ux_g _ _ _ hk]
    have F9 : fsT f M M9 := ⟨fun k a _ _ => o9 k a, fun i hi => by rw [e9, ux_i _ _ _ hi], fun i _ => ⟨by rw [o9 227 (by decide)], by rw [o9 228 (by decide)]⟩⟩
    have tgo : ∀ M', fsT f M M' → ∀ r, r = tgt → Q r M' → w_X4_addUp_b158 Q e M' := fun M' h r hr hQ => by
      obtain ⟨w1, w2⟩ := at' M' h
      unfold w_X4_addUp_b158
      refine ⟨_, by rw [w1]; exact u1, u2, by omega, by omega, fun w ew _ => ?_⟩
      rw [w2 3 (by omega) (by omega), ht] at ew
      rw [ew, ← hr]; exact hQ
    have tr : (kd = 48 ∨ kd = 49) → w_X4_addUp_b73 Q e f kd M9 := fun hh => by
      have dn : ∀ s0 : Int, (s0 = 0 ∨ s0 = 1) → s0 = stG kd g so v → w_X4_addUp_b105 Q e f s0 f M9 := fun s0 h01 hs => by
        unfold w_X4_addUp_b105
        refine ⟨f0, f1, h01, fun M1 e1 => ⟨f0, f1, fun w2 ew2 _ => ?_⟩⟩
        have F1 : fsT f M M1 := ⟨fun k x1 x2 x3 => by rw [e1, ux_g _ _ _ x3, F9.1 k x1 x2 x3], fun i hi => by rw [e1, ux_c _ _ _ _ (by decide)]; exact F9.2.1 i hi, fun i hi => ⟨by rw [e1, ux_c _ _ _ _ (by decide)]; exact (F9.2.2 i hi).1, by rw [e1, ux_i _ _ _ hi]; exact (F9.2.2 i hi).2⟩⟩
        have hQ := hq M1 F1 (by rw [e1, ux_c _ _ _ _ (by decide)]; exact t6) (by rw [e1, ux_c _ _ _ _ (by decide), o9 227 (by decide), h227]; unfold stT; rw [if_neg z, if_pos hh]) (by rw [e1, ux_s]; exact hs)
        rw [e1, ux_s] at ew2
        obtain ⟨w1, w2'⟩ := at' M1 F1
        refine ⟨fun y => ⟨_, by rw [w1]; exact u1, u2, by omega, by omega, fun w ew _ => ?_⟩, fun y => ⟨by unfold ri_; omega, ?_⟩⟩
        · rw [w2' 3 (by omega) (by omega), ht] at ew
          rw [if_neg (by omega)] at hQ
          rw [ew]; exact hQ
        · rw [if_pos ⟨hh, by omega⟩] at hQ
          exact hQ
      unfold w_X4_addUp_b73
      intro w ew _
      rw [t6] at ew
      rw [ew]
      refine c_isT (so := so) (v := v) t0 t1 (by rw [o9 220 (by decide)]; exact h62) (by rw [o9 221 (by decide)]; exact h63) (fun y _ => ?_) (fun y _ => ?_)
      · unfold w_X4_addUp_b97
        refine ⟨fun k48 => ⟨fun _ => dn 0 (Or.inl rfl) ?_, fun q => absurd q (by decide)⟩, fun k48 => ⟨fun q => absurd rfl q, fun _ => dn 1 (Or.inr rfl) ?_⟩⟩
        · unfold stG; rw [if_neg z, if_neg k48, if_pos (by omega), if_pos y]
        · unfold stG; rw [if_neg z, if_pos k48, if_pos y]
      · unfold w_X4_addUp_b97
        refine ⟨fun k48 => ⟨fun q => absurd rfl q, fun _ => dn 1 (Or.inr rfl) ?_⟩, fun k48 => ⟨fun _ => dn 0 (Or.inl rfl) ?_, fun q => absurd q (by decide)⟩⟩
        · unfold stG; rw [if_neg z, if_neg k48, if_pos (by omega), if_neg y]
        · unfold stG; rw [if_neg z, if_pos k48, if_neg y]
    refine ⟨fun z48 => tr (Or.inl z48), fun z48 => ⟨fun z49 v12 e12 _ => ?_, fun z49 => tr (Or.inr z49)⟩⟩
    have nd : ¬ ((kd = 48 ∨ kd = 49) ∧ stG kd g so v = 1) := fun y => by omega
    rw [t6] at e12
    rw [e12]
    refine ⟨t0, t1, fun v13 e13 _ => ⟨fun z13 => ?_, fun z13 v15 e15 _ => ?_⟩⟩
    · rw [o9 220 (by decide), h62] at e13
      have hQ := hq M9 F9 t6 (by rw [o9 227 (by decide), h227]; unfold stT; rw [if_neg z, if_neg (by omega), if_pos (by omega)]) (by rw [o9 228 (by decide), h228]; unfold stG; rw [if_neg z, if_neg z48, if_neg z49, if_pos (by omega)])
      rw [if_neg nd] at hQ
      exact tgo M9 F9 tgt rfl hQ
    · rw [o9 220 (by decide), h62] at e13
      rw [t6] at e15
      rw [e15]
      refine ⟨t0, t1, fun v16 e16 _ => ?_⟩
      rw [o9 221 (by decide), h63] at e16
      rw [e16]
      have eG : stG kd g so v = 1 := by unfold stG; rw [if_neg z, if_neg z48, if_neg z49, if_neg (by omega)]
      have keep : stT kd tot g so v = tot → w_X4_addNumber_b66 (fun _ M18 => w_X4_addUp_b158 Q e M18) f M9 := fun hT => by
        unfold w_X4_addNumber_b66
        refine ⟨f0, f1, fun M1 e1 => ?_⟩
        have F1 : fsT f M M1 := ⟨fun k x1 x2 x3 => by rw [e1, ux_g _ _ _ x3, F9.1 k x1 x2 x3], fun i hi => by rw [e1, ux_c _ _ _ _ (by decide)]; exact F9.2.1 i hi, fun i hi => ⟨by rw [e1, ux_c _ _ _ _ (by decide)]; exact (F9.2.2 i hi).1, by rw [e1, ux_i _ _ _ hi]; exact (F9.2.2 i hi).2⟩⟩
        have hQ := hq M1 F1 (by rw [e1, ux_c _ _ _ _ (by decide)]; exact t6) (by rw [e1, ux_c _ _ _ _ (by decide), o9 227 (by decide), h227, hT]) (by rw [e1, ux_s, eG])
        rw [if_neg nd] at hQ
        exact tgo M1 F1 tgt rfl hQ
      have put : ∀ w, stT kd tot g so v = w → ∀ M10, M10 = ux_ M9 227 f w → w_X4_addNumber_b66 (fun _ M18 => w_X4_addUp_b158 Q e M18) f M10 := fun w hT M10 e10 => by
        unfold w_X4_addNumber_b66
        refine ⟨f0, f1, fun M1 e1 => ?_⟩
        have F1 : fsT f M M1 := ⟨fun k x1 x2 x3 => by rw [e1, ux_g _ _ _ x3, e10, ux_g _ _ _ x2, F9.1 k x1 x2 x3], fun i hi => by rw [e1, ux_c _ _ _ _ (by decide), e10, ux_c _ _ _ _ (by decide)]; exact F9.2.1 i hi, fun i hi => ⟨by rw [e1, ux_c _ _ _ _ (by decide), e10, ux_i _ _ _ hi]; exact (F9.2.2 i hi).1, by rw [e1, ux_i _ _ _ hi, e10, ux_c _ _ _ _ (by decide)]; exact (F9.2.2 i hi).2⟩⟩
        have hQ := hq M1 F1 (by rw [e1, ux_c _ _ _ _ (by decide), e10, ux_c _ _ _ _ (by decide)]; exact t6) (by rw [e1, ux_c _ _ _ _ (by decide), e10, ux_s, hT]) (by rw [e1, ux_s, eG])
        rw [if_neg nd] at hQ
        exact tgo M1 F1 tgt rfl hQ
      have put' : ∀ w, stT kd tot g so v = w → w_X4_addNumber_b59 (fun _ M18 => w_X4_addUp_b158 Q e M18) f w M9 := fun w hT => by
        unfold w_X4_addNumber_b59
        exact ⟨f0, f1, fun M10 e10 => put w hT M10 e10⟩
      have r27 : M9 227 f = tot := by rw [o9 227 (by decide)]; exact h227
      have r28 : M9 228 f = g := by rw [o9 228 (by decide)]; exact h228
      have eT : stT kd tot g so v = if kd = 45 then w64 (tot + v) else if g = 0 then v else if kd = 46 then (if v ≤ tot then tot else v) else (if tot ≤ v then tot else v) := by unfold stT; rw [if_neg z, if_neg (by omega), if_neg (by omega)]
      unfold w_X4_addNumber
      refine ⟨fun y45 => ⟨f0, f1, fun w2 ew2 _ => ⟨fun y => put' v ?_, fun y => ⟨fun y46 => ⟨f0, f1, fun w5 ew5 _ => ⟨fun y5 => keep ?_, fun y5 => put' v ?_⟩⟩, fun y46 => ⟨f0, f1, fun w7 ew7 _ => ⟨fun y7 => keep ?_, fun y7 => put' v ?_⟩⟩⟩⟩⟩, fun y45 => ⟨f0, f1, fun w9 ew9 _ => ⟨f0, f1, fun M10 e10 => put _ ?_ M10 e10⟩⟩⟩
      · rw [eT, if_neg y45, if_pos (by omega)]
      · rw [eT, if_neg y45, if_neg (by omega), if_neg y46, if_pos (by omega)]
      · rw [eT, if_neg y45, if_neg (by omega), if_neg y46, if_neg (by omega)]
      · rw [eT, if_neg y45, if_neg (by omega), if_pos y46, if_pos (by omega)]
      · rw [eT, if_neg y45, if_neg (by omega), if_pos y46, if_neg (by omega)]
      · rw [eT, if_pos y45, ew9, r27]
  · have h61 : M 219 6 = tp := by
      rcases h6 with ⟨-, y⟩ | ⟨y, -⟩
      · exact y
      · exact absurd z y
    have F20 : fsT f M M20 := ⟨fun k x1 x2 x3 => by rw [e20, ux_g _ _ _ x2], fun i hi => by rw [e20, ux_c _ _ _ _ (by decide)], fun i hi => ⟨by rw [e20, ux_i _ _ _ hi], by rw [e20, ux_c _ _ _ _ (by decide)]⟩⟩
    obtain ⟨w1, w2⟩ := at' M20 F20
    refine ⟨_, by rw [w1]; exact u1, u2, by omega, by omega, fun w ew _ => ?_⟩
    rw [w2 3 (by omega) (by omega), ht] at ew
    have hQ := hq M20 F20 (by rw [e20, ux_c _ _ _ _ (by decide)]; exact h61) (by rw [e20, ux_s, e19, h227]; unfold stT; rw [if_pos z]) (by rw [e20, ux_c _ _ _ _ (by decide), h228]; unfold stG; rw [if_pos z])
    rw [if_neg (by omega)] at hQ
    rw [ew]; exact hQ
