/-! sets worked out: what is reached -/
def rsl (M0 : MM) (pc : Nat) (t : Int) (k : Nat) : Int := lv M0 pc t k
def FRq (M0 : MM) (pc : Nat) (t : Int) : List Int := bf (rsl M0 pc) (pln M0 pc) 401 0 [t]
def QS (f n st j i : Int) (L : List Int) (M : MM) : Prop := M 222 f = 32 ∧ M 223 f = j ∧ M 224 f = i ∧ M 225 f = L.length ∧ M 231 f = st ∧ wl n L ∧ (∀ k : Nat, k < L.length → M 229 (400 * f + k) = L.getD k 0) ∧ ∀ u, 0 ≤ u → u < n → (M 230 (400 * f + u) = st ↔ u ∈ L)
theorem p_addR {Q : Int → MM → Prop} {M : MM} {f n st j i u : Int} {L : List Int} (f0 : 0 ≤ f) (f1 : f < 11) (n0 : 0 ≤ n) (n4 : n ≤ 400) (h : QS f n st j i L M) (u0 : 0 ≤ u) (u1 : u < n) (hq : ∀ M', FN f M M' → QS f n st j i (mt L u) M' → Q 0 M') : w_X4_addReached Q f u M := by
  obtain ⟨h1, h2, h3, h4, h5, h6, h7, h8⟩ := id h
  have hll := wl_len h6 n0
  have eu : f * 400 + u = 400 * f + u := by omega
  unfold w_X4_addReached
  rw [eu]
  refine ⟨by unfold ri_; omega, by unfold ri_; omega, by omega, by omega, fun v3 e3 _ => ⟨f0, f1, fun v4 e4 _ => ⟨fun z => ?_, fun z => ⟨by unfold ri_; omega, by unfold ri_; omega, f0, f1, fun v8 e8 _ => ⟨by omega, by omega, fun M9 e9 => ⟨by unfold ri_; omega, f0, f1, fun v11 e11 _ => ?_⟩⟩⟩⟩⟩⟩
  · refine hq M (FN_r f M) ?_
    rw [mt_in ((h8 u u0 u1).mp (by omega))]; exact h
  have hn : u ∉ L := fun y => z (by rw [e3, e4, h5]; exact (h8 u u0 u1).mpr y)
  have hlt := wl_lt h6 u0 u1 hn
  rw [e9, ux_c _ _ _ _ (by decide), h4] at e11
  refine ⟨by unfold ri_; omega, by omega, by omega, fun M13 e13 => ⟨f0, f1, fun v14 e14 _ => ?_⟩⟩
  rw [e13, ux_c _ _ _ _ (by decide), e9, ux_c _ _ _ _ (by decide), h4] at e14
  refine ⟨by unfold ri_; omega, f0, f1, fun M16 e16 => hq M16 ?_ ?_⟩
  · refine ⟨fun k hk => ?_, fun k x a b d => ?_, fun k x a b d => ?_, fun B hB g g0 g1 => ?_⟩
    · have hk' : k ≠ 225 ∧ k ≠ 229 ∧ k ≠ 230 := ⟨fun y => hk (by rw [y]; decide), fun y => hk (by rw [y]; decide), fun y => hk (by rw [y]; decide)⟩
      rw [e16, ux_g _ _ _ hk'.1, e13, ux_g _ _ _ hk'.2.1, e9, ux_g _ _ _ hk'.2.2]
    · rw [e16]
      by_cases y : k = 225
      · rw [y, ux_i _ _ _ d, e13, ux_c _ _ _ _ (by decide), e9, ux_c _ _ _ _ (by decide)]
      · rw [ux_c _ _ _ _ y, e13, ux_c _ _ _ _ (by omega), e9, ux_c _ _ _ _ (by omega)]
    · rw [e16, ux_c _ _ _ _ (by omega), e13]
      by_cases y : k = 229
      · rw [y, ux_i _ _ _ (by omega), e9, ux_c _ _ _ _ (by decide)]
      · have y2 : k = 230 := by omega
        rw [y2, ux_c _ _ _ _ (by decide), e9, ux_i _ _ _ (by omega)]
    · obtain ⟨s1, s2, s3⟩ := hB g g0 g1
      have e231 : M16 231 = M 231 := by rw [e16, ux_g _ _ _ (by decide), e13, ux_g _ _ _ (by decide), e9, ux_g _ _ _ (by decide)]
      have e219 : M16 219 = M 219 := by rw [e16, ux_g _ _ _ (by decide), e13, ux_g _ _ _ (by decide), e9, ux_g _ _ _ (by decide)]
      have e223 : M16 223 = M 223 := by rw [e16, ux_g _ _ _ (by decide), e13, ux_g _ _ _ (by decide), e9, ux_g _ _ _ (by decide)]
      rw [e231, e219, e223]
      refine ⟨s1, s2, fun t t0 t1 => ?_, s3.2⟩
      rw [e16, ux_c _ _ _ _ (by decide), e13, ux_c _ _ _ _ (by decide), e9]
      by_cases y : 400 * g + t = 400 * f + u
      · have gf : g = f := by omega
        rw [y, ux_s, e8, gf]; exact Int.le_refl _
      · rw [ux_i _ _ _ y]; exact s3.1 t t0 t1
  · refine ⟨by rw [e16, ux_c _ _ _ _ (by decide), e13, ux_c _ _ _ _ (by decide), e9, ux_c _ _ _ _ (by decide)]; exact h1, by rw [e16, ux_c _ _ _ _ (by decide), e13, ux_c _ _ _ _ (by decide), e9, ux_c _ _ _ _ (by decide)]; exact h2, by rw [e16, ux_c _ _ _ _ (by decide), e13, ux_c _ _ _ _ (by decide), e9, ux_c _ _ _ _ (by decide)]; exact h3, ?_, by rw [e16, ux_c _ _ _ _ (by decide), e13, ux_c _ _ _ _ (by decide), e9, ux_c _ _ _ _ (by decide)]; exact h5, mt_wl h6 u1, fun k hk => ?_, fun w w0 w1 => ?_⟩
    · rw [e16, ux_s, mt_new u0 hn, List.length_append]; simp; omega
    · rw [mt_new u0 hn] at hk ⊢
      rw [List.length_append] at hk
      simp at hk
      rw [e16, ux_c _ _ _ _ (by decide), e13]
      by_cases y : k = L.length
      · rw [y, gD_last, show 400 * f + ((L.length : Nat) : Int) = f * 400 + v11 from by omega, ux_s]
      · rw [ux_i _ _ _ (by omega), gD_app (by omega), e9, ux_c _ _ _ _ (by decide)]
        exact h7 k (by omega)
    · rw [e16, ux_c _ _ _ _ (by decide), e13, ux_c _ _ _ _ (by decide), e9, mt_new u0 hn, List.mem_append, List.mem_singleton]
      by_cases y : w = u
      · rw [y, ux_s, e8, h5]
        exact ⟨fun _ => Or.inr rfl, fun _ => rfl⟩
      · rw [ux_i _ _ _ (by omega), h8 w w0 w1]
        exact ⟨fun q => Or.inl q, fun q => q.resolve_right y⟩
/-- a thing's links are followed -/
theorem p_follow {Q : Int → MM → Prop} {K0 : Int → MM → Prop} {c pc : Nat} {M0 R0 M : MM} {p B f st j i t : Int} {L : List Int} (hE : EnvQ c pc M0 R0 p B) (hC : CB M0 M) (f0 : 0 ≤ f) (f1 : f < 11) (h : QS f (M0 pc 0) st j i L M) (t0 : 0 ≤ t) (t1 : t < M0 pc 0) (hq : ∀ M', FN f M M' → QS f (M0 pc 0) st j i (fm (rsl M0 pc t) (pln M0 pc t) L) M' → K0 f M') : w_X4_nextReached_b84 Q K0 f t (M0 (pc + 4) t) M := by
  have hw := hE.2.2.2.2.2.2.1
  have hY := hE.2.2.2.2.2.1
  have n0 := hw.1
  have n4 := hw.2.1
  have hpc := pw_bd hY hw t0 t1
  have pe := pw_end hY hw t0 t1
  unfold w_X4_nextReached_b84
  refine loop4 _ (fun (a b x : Int) M1 => f = a ∧ t = b ∧ M0 (pc + 4) t ≤ x ∧ x ≤ M0 (pc + 4) (t + 1) ∧ FN f M M1 ∧ QS f (M0 pc 0) st j i (fm (rsl M0 pc t) (x - M0 (pc + 4) t).toNat L) M1) (fun _ _ (x : Int) _ => (M0 (pc + 4) (t + 1) - x).toNat) ?_ _ _ _ _ ⟨rfl, rfl, by omega, by omega, FN_r f M, by rw [show (M0 (pc + 4) t - M0 (pc + 4) t).toNat = 0 from by omega]; exact h⟩
  rintro _ _ x M1 g ⟨rfl, rfl, x0, x1, hF, hQ⟩ ih
  have hC1 := FN_CB hF hC
  obtain ⟨q1, q2, q3⟩ := q_pic hE hC1
  unfold wb_X4_nextReached_b84
  refine ⟨pc, q1, q2, by unfold ri_; omega, by omega, by omega, fun v3 e3 _ => ?_⟩
  rw [q3 4 (by omega)] at e3
  refine ⟨fun z => hq M1 hF ?_, fun z => ?_⟩
  · have : (x - M0 (pc + 4) t).toNat = pln M0 pc t := by unfold pln; omega
    rw [this] at hQ
    exact hQ
  have k1 : x - M0 (pc + 4) t < pcn M0 pc t := by omega
  have hin := pc_in hY hw t0 t1 (j := x - M0 (pc + 4) t) (by omega) k1
  have hl := (pw_lv hw t0 t1 (k := x - M0 (pc + 4) t) (by omega) k1).1
  have er : rsl M0 pc t (x - M0 (pc + 4) t).toNat = if M0 (pc + 10) x = 0 then -1 else M0 (pc + 9) x := by
    unfold rsl lv
    rw [show M0 (pc + 4) t + ((x - M0 (pc + 4) t).toNat : Nat) = x from by omega]
  have el : lv M0 pc t (x - M0 (pc + 4) t) = if M0 (pc + 10) x = 0 then -1 else M0 (pc + 9) x := by
    unfold lv
    rw [show M0 (pc + 4) t + (x - M0 (pc + 4) t) = x from by omega]
  rw [show M0 (pc + 4) t + (x - M0 (pc + 4) t) = x from by omega] at hin
  have sn : (x + 1 - M0 (pc + 4) t).toNat = (x - M0 (pc + 4) t).toNat + 1 := by omega
  have nx : ∀ M2, FN f M M2 → QS f (M0 pc 0) st j i (mt (fm (rsl M0 pc t) (x - M0 (pc + 4) t).toNat L) (rsl M0 pc t (x - M0 (pc + 4) t).toNat)) M2 → w_X4_nextReached_b142 Q K0 g f t x M2 := fun M2 hF2 hQ2 => by
    unfold w_X4_nextReached_b142
    exact ⟨by unfold ri_; omega, ih _ _ _ _ ⟨rfl, rfl, by omega, by omega, hF2, by rw [sn]; exact hQ2⟩ (by omega)⟩
  refine ⟨pc, q1, q2, hin.1, hin.2, fun v6 e6 _ => ⟨fun z6 => nx M1 hF ?_, fun z6 => ⟨pc, q1, q2, hin.1, hin.2, fun v9 e9 _ => ⟨fun z9 => nx M1 hF ?_, fun z9 => ⟨pc, q1, q2, hin.1, hin.2, fun v12 e12 _ => ?_⟩⟩⟩⟩⟩
  · rw [q3 10 (by omega)] at e6
    rw [er, if_pos (by omega), mt_neg (by omega)]; exact hQ
  · rw [q3 10 (by omega)] at e6
    rw [q3 9 (by omega)] at e9
    rw [er, if_neg (by omega), ← e9, mt_neg (by omega)]; exact hQ
  · rw [q3 10 (by omega)] at e6
    rw [q3 9 (by omega)] at e9 e12
    rw [el, if_neg (by omega)] at hl
    rw [if_neg (by omega)] at er
    rw [← e12] at hl er
    have u01 : 0 ≤ v12 ∧ v12 < M0 pc 0 := by omega
    refine ⟨by unfold ri_; omega, p_addR f0 f1 n0 n4 hQ u01.1 u01.2 (fun M2 hF2 hQ2 => nx M2 (FN_t hF hF2) (by rw [er]; exact hQ2))⟩
/-- the next of what is reached -/
theorem p_nextR {Q : Int → MM → Prop} {c pc : Nat} {M0 R0 M : MM} {p B f st i j0 : Int} {F L0 : List Int} (hE : EnvQ c pc M0 R0 p B) (hC : CB M0 M) (f0 : 0 ≤ f) (f1 : f < 11) (h : QS f (M0 pc 0) st j0 i L0 M) (i0 : 0 ≤ i) (i1 : i ≤ L0.length) (j00 : 0 ≤ j0) (j01 : j0 ≤ L0.length) (hF : bf (rsl M0 pc) (pln M0 pc) (401 - j0).toNat j0.toNat L0 = F)
    (q0 : ∀ M', FN f M M' → F.drop i.toNat = [] → Q (-1) M') (q1 : ∀ M' t ts j L, FN f M M' → F.drop i.toNat = t :: ts → QS f (M0 pc 0) st j (i + 1) L M' → i + 1 ≤ L.length → 0 ≤ j → j ≤ L.length → bf (rsl M0 pc) (pln M0 pc) (401 - j).toNat j.toNat L = F → Q t M') : w_X4_nextReached Q f M := by
  have hw := hE.2.2.2.2.2.2.1
  have hY := hE.2.2.2.2.2.1
  have n0 := hw.1
  have n4 := hw.2.1
  unfold w_X4_nextReached w_X4_nextReached_b0
  refine loop2 _ (fun (a : Int) M1 => f = a ∧ FN f M M1 ∧ ∃ j L, QS f (M0 pc 0) st j i L M1 ∧ i ≤ ((L.length : Nat) : Int) ∧ 0 ≤ j ∧ j ≤ ((L.length : Nat) : Int) ∧ bf (rsl M0 pc) (pln M0 pc) (401 - j).toNat j.toNat L = F) (fun _ M1 => (401 - M1 223 f).toNat) ?_ _ _ ⟨rfl, FN_r f M, j0, L0, h, i1, j00, j01, hF⟩
  rintro _ M1 g ⟨rfl, hF1, j, L, hQ, il, jl0, jl, hbf⟩ ih
  obtain ⟨h1, h2, h3, h4, h5, h6, h7, h8⟩ := id hQ
  have hll := wl_len h6 n0
  have hC1 := FN_CB hF1 hC
  obtain ⟨c1, c2, c3⟩ := q_pic hE hC1
  have fin : (i < L.length ∨ (L.length : Int) ≤ j) → w_X4_nextReached_b151 Q f M1 := fun hh => by
    unfold w_X4_nextReached_b151
    refine ⟨f0, f1, fun v1 e1 _ => ⟨f0, f1, fun v2 e2 _ => ⟨fun z => ⟨f0, f1, fun v4 e4 _ => ⟨by unfold ri_; omega, f0, f1, fun M6 e6 => ⟨by unfold ri_; omega, f0, f1, fun v8 e8 _ => ?_⟩⟩⟩, fun z => q0 M1 hF1 ?_⟩⟩⟩
    · rw [e6, ux_s] at e8
      have ii : f * 400 + v8 - 1 = 400 * f + (i.toNat : Nat) := by omega
      rw [ii]
      refine ⟨by unfold ri_; omega, by unfold ri_; omega, by omega, by omega, fun v11 e11 _ => ?_⟩
      have F6 : FN f M1 M6 := by rw [e6]; exact FN_u (by omega) (by omega) _ (fun y => absurd y (by decide))
      have hi : i.toNat < L.length := by omega
      rw [e6, ux_c _ _ _ _ (by decide), h7 i.toNat hi] at e11
      have hbl := bf_len (sl := rsl M0 pc) (len := pln M0 pc) (401 - j).toNat j.toNat L
      have hbg := bf_gD (sl := rsl M0 pc) (len := pln M0 pc) (401 - j).toNat j.toNat L hi
      rw [hbf] at hbl hbg
      have hd : F.drop i.toNat = v11 :: F.drop (i.toNat + 1) := by
        rw [List.drop_eq_getElem_cons (by omega : i.toNat < F.length), e11, ← hbg, List.getD_eq_getElem?_getD, List.getElem?_eq_getElem (by omega : i.toNat < F.length)]
        rfl
      refine q1 M6 v11 _ j L (FN_t hF1 F6) hd ?_ (by omega) jl0 jl hbf
      refine ⟨by rw [e6, ux_c _ _ _ _ (by decide)]; exact h1, by rw [e6, ux_c _ _ _ _ (by decide)]; exact h2, by rw [e6, ux_s]; omega, by rw [e6, ux_c _ _ _ _ (by decide)]; exact h4, by rw [e6, ux_c _ _ _ _ (by decide)]; exact h5, h6, fun k hk => by rw [e6, ux_c _ _ _ _ (by decide)]; exact h7 k hk, fun u a b => by rw [e6, ux_c _ _ _ _ (by decide)]; exact h8 u a b⟩
    · have hLF : L = F := by
        rw [← hbf]
        cases hm : (401 - j).toNat with
        | zero => rfl
        | succ m =>
          show L = (if j.toNat < L.length then _ else L)
          rw [if_neg (by omega)]
      rw [← hLF]
      exact List.drop_eq_nil_of_le (by omega)
  have w0 := c3 0 (by omega)
  rw [show pc + 0 = pc from rfl] at w0
  unfold wb_X4_nextReached_b0
  refine ⟨f0, f1, fun v1 e1 _ => ⟨f0, f1, fun v2 e2 _ => ⟨fun z => fin (by omega), fun z => ⟨f0, f1, fun v4 e4 _ => ⟨f0, f1, fun v5 e5 _ => ⟨fun z5 => fin (by omega), fun z5 => ⟨f0, f1, fun v77 e77 _ => ⟨pc, c1, c2, fun v99 e99 _ => ⟨fun z9 => by exfalso; rw [w0] at e99; omega, fun z9 => ⟨by unfold ri_; omega, f0, f1, fun v8 e8 _ => ?_⟩⟩⟩⟩⟩⟩⟩⟩⟩⟩
  have kk : f * 400 + v8 = 400 * f + (j.toNat : Nat) := by omega
  have jL : j.toNat < L.length := by omega
  rw [kk]
  refine ⟨by unfold ri_; omega, by omega, by omega, fun v10 e10 _ => ⟨f0, f1, fun v11 e11 _ => ⟨by unfold ri_; omega, f0, f1, fun M13 e13 => ?_⟩⟩⟩
  rw [h7 j.toNat jL] at e10
  have hx := h6.2 _ (gD_mem jL)
  rw [← e10] at hx
  have F13 : FN f M1 M13 := by rw [e13]; exact FN_u (by omega) (by omega) _ (fun _ => by omega)
  have hC13 := FN_CB F13 hC1
  obtain ⟨d1, d2, d3⟩ := q_pic hE hC13
  have Q13 : QS f (M0 pc 0) st (j + 1) i L M13 := ⟨by rw [e13, ux_c _ _ _ _ (by decide)]; exact h1, by rw [e13, ux_s]; omega, by rw [e13, ux_c _ _ _ _ (by decide)]; exact h3, by rw [e13, ux_c _ _ _ _ (by decide)]; exact h4, by rw [e13, ux_c _ _ _ _ (by decide)]; exact h5, h6, fun k hk => by rw [e13, ux_c _ _ _ _ (by decide)]; exact h7 k hk, fun u a b => by rw [e13, ux_c _ _ _ _ (by decide)]; exact h8 u a b⟩
  refine ⟨pc, d1, d2, by omega, by omega, fun v15 e15 _ => ?_⟩
  rw [d3 4 (by omega)] at e15
  rw [e15]
  refine p_follow hE hC13 f0 f1 Q13 hx.1 hx.2 (fun M2 hF2 hQ2 => ih _ _ ⟨rfl, FN_t hF1 (FN_t F13 hF2), j + 1, _, hQ2, ?_, by omega, ?_, ?_⟩ ?_)
  · have := fm_len (f := rsl M0 pc v10) (L := L) (pln M0 pc v10); omega
  · have := fm_len (f := rsl M0 pc v10) (L := L) (pln M0 pc v10); omega
  · rw [← hbf]
    rw [show (401 - j).toNat = (401 - (j + 1)).toNat + 1 from by omega, show (j + 1).toNat = j.toNat + 1 from by omega]
    show _ = (if j.toNat < L.length then _ else L)
    rw [if_pos jL, e10]
  · rw [h2, hQ2.2.1]; omega
theorem Gv_FR {c pc : Nat} {M0 R0 : MM} {p B f st : Int} {F : List Int} (hE : EnvQ c pc M0 R0 p B) (f0 : 0 ≤ f) (f1 : f < 11) (hwl : wl (M0 pc 0) F) : ∀ (n : Nat) (i j : Int) (L : List Int) (M : MM), F.length - i.toNat = n → QS f (M0 pc 0) st j i L M → 0 ≤ i → i ≤ L.length → 0 ≤ j → j ≤ L.length → bf (rsl M0 pc) (pln M0 pc) (401 - j).toNat j.toNat L = F → Gv M0 f (M0 pc 0) B (F.drop i.toNat) M := by
  have hn4 := hE.2.2.2.2.2.2.1.2.1
  intro n
  induction n using Nat.strongRecOn with
  | ind n ih =>
  intro i j L M hn hQ i0 i1 j0 j1 hbf
  have hll := wl_len hQ.2.2.2.2.2.1 hE.2.2.2.2.2.2.1.1
  have tr : ∀ M2, Sm f M M2 → QS f (M0 pc 0) st j i L M2 := fun M2 hs => by
    obtain ⟨h1, h2, h3, h4, h5, h6, h7, h8⟩ := hQ
    exact ⟨by rw [hs.1 222 (by omega) (by omega)]; exact h1, by rw [hs.1 223 (by omega) (by omega)]; exact h2, by rw [hs.1 224 (by omega) (by omega)]; exact h3, by rw [hs.1 225 (by omega) (by omega)]; exact h4, by rw [hs.2.2]; exact h5, h6, fun k hk => by rw [hs.2.1 229 _ (by omega) (by omega) (by omega) (by omega)]; exact h7 k hk, fun u a b => by rw [hs.2.1 230 _ (by omega) (by omega) (by omega) (by omega)]; exact h8 u a b⟩
  cases hd : F.drop i.toNat with
  | nil =>
    intro M2 hC2 _ hS Q hq
    refine ⟨fun z => absurd (tr M2 hS).1 z, fun _ => p_nextR hE hC2 f0 f1 (tr M2 hS) i0 i1 j0 j1 hbf (fun M' hF _ => hq M' hF) (fun M' t ts _ _ _ h => ?_)⟩
    rw [hd] at h; cases h
  | cons t ts =>
    have htm : t ∈ F := List.mem_of_mem_drop (by rw [hd]; exact List.mem_cons_self)
    have ht := hwl.2 t htm
    have hlen : i.toNat < F.length := by
      by_cases z : i.toNat < F.length
      · exact z
      · rw [List.drop_eq_nil_of_le (by omega)] at hd; cases hd
    refine ⟨ht.1, ht.2, fun M2 hC2 _ hS Q hq => ⟨fun z => absurd (tr M2 hS).1 z, fun _ => p_nextR hE hC2 f0 f1 (tr M2 hS) i0 i1 j0 j1 hbf (fun M' hF h => ?_) (fun M' t' ts' j' L' hF h hQ' a1 a2 a3 a4 => ?_)⟩⟩
    · rw [hd] at h; cases h
    · rw [hd] at h
      injection h with e1 e2
      rw [← e1]
      refine hq M' hF ?_
      have := ih (F.length - (i + 1).toNat) (by omega) (i + 1) j' L' M' rfl hQ' (by omega) a1 a2 a3 a4
      rw [show (i + 1).toNat = i.toNat + 1 from by omega, ← List.drop_drop, hd] at this
      exact this
