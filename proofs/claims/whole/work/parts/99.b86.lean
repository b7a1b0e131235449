/-! acts that stand ahead: they wait until what stands behind them is read -/
variable {c : Nat} {C0 R0 : MM} {E : Nat → Int} {L : Nat} {b it : Int} {SM ST : SMt} {q : Int}
def pendE (op : Int) (c : Nat) (Q : Int → MM → Prop) (again : Int → Int → MM → Prop) (x1 x2 : Int) (M : MM) : Prop := (x1 ≤ x2 → Q 1 M) ∧ (¬ x1 ≤ x2 → w_X6_emit c (fun r2 M3 => ri_ r2 → ri_ (x2 + 1) ∧ (again x1 (x2 + 1) M3)) op 0 0 0 M)
def pend42 (gi : Nat) (op : Int) (c : Nat) (G : Nat → (Int → MM → Prop) → List Int → MM → Prop) (Q : Int → MM → Prop) (x1 : Int) (M : MM) : Prop := G gi (fun r1 M2 => (r1 = 0 ∨ r1 = 1) → (¬ r1 = 0 → ∃ n, jit (fun _ _ _ => False) (pendE op c Q) n x1 0 M2) ∧ (r1 = 0 → Q 0 M2)) [] M
def pendB (wd : Int) (gi : Nat) (op : Int) (c : Nat) (G : Nat → (Int → MM → Prop) → List Int → MM → Prop) (Q : Int → MM → Prop) (again : Int → MM → Prop) (x1 : Int) (M : MM) : Prop := (∀ v1, v1 = M 1 9 → ri_ v1 → (¬ v1 = wd → pend42 gi op c G Q x1 M) ∧ (v1 = wd → (120 < x1 → pend42 gi op c G Q x1 M) ∧ (¬ 120 < x1 → w_X6_addNode c (fun r4 M5 => (r4 = 0 ∨ r4 = 1) → (¬ r4 = 0 → ri_ (x1 + 1) ∧ (w_X9_nextWord (fun _ M9 => again (x1 + 1) M9) M5)) ∧ (r4 = 0 → Q 0 M5)) M)))
def pendN (kind : Int) (self : Nat) (G : Nat → (Int → MM → Prop) → List Int → MM → Prop) (Q : Int → MM → Prop) (M : MM) : Prop := w_X12_node (fun r6 M7 => ri_ r6 → w_X12_advance (fun _ M9 => G self (fun r10 M11 => ri_ r10 → 0 ≤ r6 ∧ r6 < 480 ∧ (∀ M12, M12 = ux_ M11 67 r6 r10 → Q r6 M12)) [] M9) M7) kind M
def ext (op : Int) (P : CD) (e : Int) : CD := fun j i => if i < e then P j i else if j = 1 then op else 0
theorem c_pend {k : Nat} {n fo s w : Int} {nm sf wq : Int → Int} (op : Int) : ∀ (m t : Nat) (x1 x2 st : Int) (C : MM) (Q : Int → MM → Prop), x1 - x2 = m → m < t → SC c C0 k n q fo it s w st nm sf wq C → 0 ≤ st → st + m ≤ 499 → 0 ≤ x2 → x1 ≤ 200 → (∀ C', SC c C0 k n q fo it s w (st + m) nm sf wq C' → (∀ j i, 0 < j → i < st → C' (c + j) i = C (c + j) i) → (∀ j i, 0 < j → j ≤ 4 → st ≤ i → i < st + m → C' (c + j) i = if j = 1 then op else 0) → Q 1 C') → jit (fun _ _ _ => False) (pendE op c Q) t x1 x2 C := by
  intro m
  induction m with
  | zero =>
    intro t x1 x2 st C Q hm ht hC st0 st1 x0 xl hq
    obtain ⟨t, rfl⟩ : ∃ t', t = t' + 1 := ⟨t - 1, by omega⟩
    exact ⟨fun _ => hq C (by rw [show st + ((0 : Nat) : Int) = st from by omega]; exact hC) (fun _ _ _ _ => rfl) (fun j i _ _ z z2 => by omega), fun z => by omega⟩
  | succ m ih =>
    intro t x1 x2 st C Q hm ht hC st0 st1 x0 xl hq
    obtain ⟨t, rfl⟩ : ∃ t', t = t' + 1 := ⟨t - 1, by omega⟩
    refine ⟨fun z => by omega, fun _ => c_emit hC st0 (by omega) (fun C1 h1 r1 u1 u2 u3 u4 _ => ⟨by unfold ri_; omega, ih t x1 (x2 + 1) (st + 1) C1 Q (by omega) (by omega) h1 (by omega) (by omega) (by omega) xl (fun C' h2 r2 q2 => hq C' (by rw [show st + ((m + 1 : Nat) : Int) = st + 1 + m from by omega]; exact h2) (fun j i j0 hi => by rw [r2 j i j0 (by omega), r1 j i j0 (by omega)]) (fun j i j0 j4 hi hi2 => ?_))⟩)⟩
    by_cases y : i = st
    · subst y
      rw [r2 j i j0 (by omega)]
      have jj : j = 1 ∨ j = 2 ∨ j = 3 ∨ j = 4 := by omega
      rcases jj with rfl | rfl | rfl | rfl
      · rw [u1]; rfl
      · rw [u2]; rfl
      · rw [u3]; rfl
      · rw [u4]; rfl
    · exact q2 j i j0 j4 (by omega) (by omega)
set_option maxHeartbeats 1600000 in
theorem J_pend (wd op kind : Int) (gi gr self : Nat) (ec er es : Int) (wd0 : 2 ≤ wd) (zn : Nat) (zn1 : 1 ≤ zn) (es1 : er + 1 ≤ es) (eszn : zn ≤ es)
    (hk1 : ∀ (P : CD) (N : MM) y a, P 1 a = op → N 66 y = kind → oneK P N y a)
    (HR1 : ∀ (Q : Int → MM → Prop) R (d : Nat) W D, R 0 83 = 0 → tk R W D → Kd R → W = wd → pendN kind self (gr_ d) Q R → gr_ (d + 1) self Q [] R)
    (HR0 : ∀ (Q : Int → MM → Prop) R (d : Nat) W D, R 0 83 = 0 → tk R W D → Kd R → W ≠ wd → gr_ d gr (fun r1 M2 => ri_ r1 → Q r1 M2) [] R → gr_ (d + 1) self Q [] R)
    (zz : ∀ (Q : Int → MM → Prop) R f (d : Nat), zn ≤ d + 1 → R 0 83 = f → 0 < f → R 0 91 = b → Q b R → gr_ d self Q [] R)
    (hc : Clo SM ST) (hT : TX C0 R0 E L) (b0 : 0 ≤ b) (b1 : b ≤ 360) (q0 : 0 ≤ q) (q1 : q ≤ 10) (HS : Jt c C0 R0 E L b it SM q gi gr ec er) : ∀ (m dp dq k t : Nat) (n fo s st : Int) (nm nr_ sf : Int → Int) (u : Int), 120 - n ≤ m → 14 * (10 - q) + ec ≤ dp → 12 * (10 - q) + 2 * (120 - n) + es ≤ dq → k ≤ L → 0 ≤ n → n ≤ 120 → 0 ≤ s → s ≤ fo → fo ≤ q → 0 ≤ st → st + u ≤ 3 * n + 30 → (∀ i, 0 ≤ i → i < s → nr (nm i) (nr_ i)) → 122 - n ≤ t → 0 ≤ u → u ≤ n →
    (∃ (k' : Nat) (n' st' x : Int) (P' : CD) (N' : MM), k ≤ k' ∧ k' ≤ L ∧ n < n' ∧ n' ≤ 120 ∧ st ≤ st' ∧ SE SM b n s fo st sf it st (b + n) k' n' st' x P' N' ∧ cOK c C0 it k n q fo s st nm sf st (fun _ _ => 0) k' n' (st' + u) (ext op P' st') (fun Q C => jit (fun _ _ => False) (pendB wd gi op c (gq_ c dp) Q) t u C) ∧ rOK C0 R0 E b it k n q s nr_ (b + n) (fun _ _ => 0) k' n' x N' (fun Q R => gr_ dq self Q [] R)) ∨
    ∃ f pl, 0 < f ∧ cNo c C0 it k n q fo s st nm sf st (fun _ _ => 0) f pl (fun Q C => jit (fun _ _ => False) (pendB wd gi op c (gq_ c dp) Q) t u C) ∧ rNo C0 R0 E b it k n q s nr_ (b + n) (fun _ _ => 0) f pl (fun Q R => gr_ dq self Q [] R) := by
  intro m
  induction m using Nat.strongRecOn with
  | ind m ih =>
  intro dp dq k t n fo s st nm nr_ sf u hm hdp hdq hk n0 n1 s0 s1 fq st0 st1 hn ht u0 u1
  obtain ⟨t, rfl⟩ : ∃ t', t = t' + 1 := ⟨t - 1, by omega⟩
  obtain ⟨dq, rfl⟩ : ∃ d', dq = d' + 1 := ⟨dq - 1, by omega⟩
  by_cases hw : C0 4 k = wd
  · by_cases n120 : n = 120
    · refine Or.inr ⟨4, C0 5 k, by omega, fun C w wq w0 w1 hC hP Q hq => ?_, fun R hR hN Q hq => ?_⟩
      · show pendB wd gi op c (gq_ c dp) Q (jit (fun _ _ => False) (pendB wd gi op c (gq_ c dp) Q) t) u C
        rw [pendB]
        exact fun v1 e1 _ => ⟨fun z => absurd (by rw [e1, hC.2.1.1]; exact hw) z, fun _ => ⟨fun z => by omega, fun _ => c_addN hC n0 n1 (fun z => by omega) (fun _ C' hC' _ => ⟨fun z => absurd rfl z, fun _ => hq C' hC'⟩)⟩⟩
      · refine HR1 Q R dq _ _ hR.2.2.1.1 hR.2.1.2.2 (SR_K hT hR) hw ?_
        unfold pendN
        refine r_node hR b0 b1 n0 n1 (fun z => by omega) (fun _ R1 h1 h78 r1 _ => r_adv hT h1.1 h78 (TX_lt hT hk (by omega)) (fun R2 hA _ => ?_))
        have hR2 := RF_A h1 hA
        refine zz _ _ _ _ (by omega) hR2.2.1 (by omega) hR2.2.2.2.1 (fun _ => ⟨b0, by omega, fun M13 e13 => hq _ _ ?_⟩)
        rw [e13]
        exact RF_u hR2 (by omega) (by omega) _ (by omega) (by omega)
    · rcases ih (m - 1) (by omega) dp dq (k + 1) t (n + 1) fo s st nm nr_ sf (u + 1) (by omega) hdp (by omega) (TX_lt hT hk (by omega)) (by omega) (by omega) s0 s1 fq (by omega) (by omega) hn (by omega) (by omega) (by omega) with ⟨k2, n2, st2, x2, P2, N2, kk, k2L, nlt, n2L, ss, ⟨sb, x20, x21, hS2⟩, cO, rO⟩ | ⟨f, pl, f0, cN, rN⟩
      · obtain ⟨N', hN'⟩ : ∃ N' : MM, N' = fun j i => if i = b + n then (if j = 66 then kind else if j = 67 then x2 else if j = 68 then -1 else if j = 69 then -1 else wdR C0 R0 k) else N2 j i := ⟨_, rfl⟩
        have nm' : ∀ j, N' j (b + n) = (if j = 66 then kind else if j = 67 then x2 else if j = 68 then -1 else if j = 69 then -1 else wdR C0 R0 k) := fun j => by rw [hN']; show (if b + n = b + n then _ else _) = _; rw [if_pos rfl]
        have nh : ∀ j i, b + (n + 1) ≤ i → N' j i = N2 j i := fun j i h => by rw [hN']; show (if i = b + n then _ else _) = _; rw [if_neg (by omega)]
        have pe : ext op P2 st2 1 st2 = op := by unfold ext; rw [if_neg (by omega)]; rfl
        have hS' : SM (ext op P2 st2) N' s sf fo it (b + n) st (st2 + 1) (b + n) (b + n2) := by
          refine hc.2.2.2.1 _ N' s sf fo it (b + n) st st2 (b + n) (b + n2) x2 (b + (n + 1)) (b + n2) (hc.1 _ _ _ _ _ _ _ _ _ _ _ hS2 _ _ _ _ _ (fun j i _ _ _ h => ?_) (fun j i _ _ h _ => nh j i h) (fun _ _ _ => rfl) (by omega) (by omega)) (hk1 _ _ _ _ pe (by rw [nm']; rfl)) (by rw [nm']; rfl) (by omega) (by omega) (by omega) (by omega) (by omega)
          unfold ext; rw [if_pos h]
        refine Or.inl ⟨k2, n2, st2 + 1, b + n, ext op P2 st2, N', by omega, k2L, by omega, n2L, by omega, ⟨by omega, by omega, by omega, hS'⟩, fun C w wq w0 w1 hC hP Q hq => ?_, fun R hR hN Q hq => ?_⟩
        · show pendB wd gi op c (gq_ c dp) Q (jit (fun _ _ => False) (pendB wd gi op c (gq_ c dp) Q) t) u C
          rw [pendB]
          refine fun v1 e1 _ => ⟨fun z => absurd (by rw [e1, hC.2.1.1]; exact hw) z, fun _ => ⟨fun z => by omega, fun _ => c_addN hC n0 n1 (fun _ C1 hC1 r1 _ => ⟨fun _ => ⟨by unfold ri_; omega, c_next hT.1 hC1 hk (by omega) (fun C2 hC2 r2 => cO C2 w wq w0 (by omega) hC2 (fun j i _ _ z z2 => by omega) Q (fun C' h1 h2 h3 => hq C' ?_ (fun j i j0 j4 hi => by rw [h2 j i j0 j4 hi, r2 j j0, r1 j j0]) (fun j i j0 j4 hi hi2 => ?_)))⟩, fun z => absurd z (by decide)⟩) (fun z => by omega)⟩⟩
          · rw [show st2 + 1 + u = st2 + (u + 1) from by omega]; exact h1
          · rw [h3 j i j0 j4 hi (by omega)]
            show ext op P2 st2 j i = if i < st2 + 1 then ext op P2 st2 j i else if j = 1 then op else 0
            by_cases y : i < st2 + 1
            · rw [if_pos y]
            · rw [if_neg y]; unfold ext; rw [if_neg (by omega)]
        · refine HR1 Q R dq _ _ hR.2.2.1.1 hR.2.1.2.2 (SR_K hT hR) hw ?_
          unfold pendN
          refine r_node hR b0 b1 n0 n1 (fun _ R1 h1 r1 r71 g66 g67 g68 g69 g70 g0 _ => r_next hT h1 hk (by omega) (fun R2 h2 r2 => rO R2 h2 (fun j i _ _ z z2 => by omega) _ (fun R3 h3 r3 q3 _ => ⟨by omega, by omega, fun M13 e13 => ?_⟩))) (fun z => by omega)
          refine hq M13 (by rw [e13]; exact SR_u h3 (by omega) (by omega) _ (by omega) (by omega)) (fun j i j0 j4 hi => ?_) (fun j i j0 j4 ha hi => ?_)
          · have a1 : M13 j i = R3 j i := by rw [e13]; unfold ux_; rw [if_neg (by omega)]
            rw [a1, r3 j i j0 j4 (by omega), r2 j (by omega), r1 j (by omega) i (by omega)]
          · by_cases y2 : i = b + n
            · subst y2
              rw [nm']
              by_cases j67 : j = 67
              · subst j67
                rw [e13, ux_s]; rfl
              · have a1 : M13 j (b + n) = R1 j (b + n) := by rw [e13, ux_c _ _ _ _ j67, r3 j (b + n) j0 j4 (by omega), r2 j (by omega)]
                rw [a1, if_neg j67]
                have jj : j = 66 ∨ j = 68 ∨ j = 69 ∨ j = 70 := by omega
                rcases jj with rfl | rfl | rfl | rfl
                · rw [g66]; rfl
                · rw [g68]; rfl
                · rw [g69]; rfl
                · rw [g70, SR_wd hR (by omega)]; rfl
            · have a1 : M13 j i = R3 j i := by rw [e13]; unfold ux_; rw [if_neg (by omega)]
              rw [a1, nh j i (by omega)]
              exact q3 j i j0 j4 (by omega) (by omega)
      · refine Or.inr ⟨f, pl, f0, fun C w wq w0 w1 hC hP Q hq => ?_, fun R hR hN Q hq => ?_⟩
        · show pendB wd gi op c (gq_ c dp) Q (jit (fun _ _ => False) (pendB wd gi op c (gq_ c dp) Q) t) u C
          rw [pendB]
          exact fun v1 e1 _ => ⟨fun z => absurd (by rw [e1, hC.2.1.1]; exact hw) z, fun _ => ⟨fun z => by omega, fun _ => c_addN hC n0 n1 (fun _ C1 hC1 r1 _ => ⟨fun _ => ⟨by unfold ri_; omega, c_next hT.1 hC1 hk (by omega) (fun C2 hC2 r2 => cN C2 w wq w0 (by omega) hC2 (fun j i _ _ z z2 => by omega) Q hq)⟩, fun z => absurd z (by decide)⟩) (fun z => by omega)⟩⟩
        · refine HR1 Q R dq _ _ hR.2.2.1.1 hR.2.1.2.2 (SR_K hT hR) hw ?_
          unfold pendN
          refine r_node hR b0 b1 n0 n1 (fun _ R1 h1 r1 r71 g66 g67 g68 g69 g70 g0 _ => r_next hT h1 hk (by omega) (fun R2 h2 r2 => rN R2 h2 (fun j i _ _ z z2 => by omega) _ (fun x9 R3 h3 _ => ⟨by omega, by omega, fun M13 e13 => hq _ _ ?_⟩))) (fun z => by omega)
          rw [e13]
          exact RF_u h3 (by omega) (by omega) _ (by omega) (by omega)
  · rcases HS dp dq k n fo s st nm nr_ sf hdp (by omega) hk n0 n1 s0 s1 fq st0 (by omega) hn with ⟨k2, n2, st2, x2, P2, N2, kk, k2L, nn, n2L, ss, ⟨nlt, sb, x20, x21, hS2⟩, cO, rO⟩ | ⟨f, pl, f0, cN, rN⟩
    · obtain ⟨un, rfl⟩ : ∃ un : Nat, u = un := ⟨u.toNat, by omega⟩
      refine Or.inl ⟨k2, n2, st2, x2, P2, N2, kk, k2L, nlt, n2L, ss, ⟨sb, x20, x21, hS2⟩, fun C w wq w0 w1 hC hP Q hq => ?_, fun R hR hN Q hq => ?_⟩
      · show pendB wd gi op c (gq_ c dp) Q (jit (fun _ _ => False) (pendB wd gi op c (gq_ c dp) Q) t) un C
        have g : pend42 gi op c (gq_ c dp) Q un C := by
          unfold pend42
          refine cO C w wq w0 w1 hC (fun j i _ _ z z2 => by omega) _ (fun C1 h1 r1 q1 _ => ⟨fun _ => ⟨un + 1, c_pend op un (un + 1) un 0 st2 C1 Q (by omega) (by omega) h1 (by omega) (by omega) (by omega) (by omega) (fun C' h2 r2 q2 => hq C' h2 (fun j i j0 j4 hi => by rw [r2 j i j0 (by omega), r1 j i j0 j4 hi]) (fun j i j0 j4 hi hi2 => ?_))⟩, fun z => absurd z (by decide)⟩)
          show _ = if i < st2 then P2 j i else if j = 1 then op else 0
          by_cases y : i < st2
          · rw [if_pos y, r2 j i j0 y]; exact q1 j i j0 j4 hi y
          · rw [if_neg y]; exact q2 j i j0 j4 (by omega) hi2
        rw [pendB]
        exact fun v1 e1 _ => ⟨fun _ => g, fun z => absurd (by rw [← hC.2.1.1, ← e1]; exact z) hw⟩
      · exact HR0 Q R dq _ _ hR.2.2.1.1 hR.2.1.2.2 (SR_K hT hR) hw (rO R hR (fun j i _ _ z z2 => by omega) _ (fun R' h1 h2 h3 _ => hq R' h1 h2 h3))
    · refine Or.inr ⟨f, pl, f0, fun C w wq w0 w1 hC hP Q hq => ?_, fun R hR hN Q hq => ?_⟩
      · show pendB wd gi op c (gq_ c dp) Q (jit (fun _ _ => False) (pendB wd gi op c (gq_ c dp) Q) t) u C
        rw [pendB]
        refine fun v1 e1 _ => ⟨fun _ => ?_, fun z => absurd (by rw [← hC.2.1.1, ← e1]; exact z) hw⟩
        unfold pend42
        exact cN C w wq w0 w1 hC (fun j i _ _ z z2 => by omega) _ (fun C' h1 _ => ⟨fun z => absurd rfl z, fun _ => hq C' h1⟩)
      · exact HR0 Q R dq _ _ hR.2.2.1.1 hR.2.1.2.2 (SR_K hT hR) hw (rN R hR (fun j i _ _ z z2 => by omega) _ (fun x9 R' h1 _ => hq _ R' h1))
theorem J_Nots (hc : Clo SM ST) (hT : TX C0 R0 E L) (b0 : 0 ≤ b) (b1 : b ≤ 360) (q0 : 0 ≤ q) (q1 : q ≤ 10) (HS : Jt c C0 R0 E L b it SM q 3 3 11 9) : Jt c C0 R0 E L b it SM q 2 2 12 10 := by
  intro dp dq k n fo s st nm nr_ sf hdp hdq hk n0 n1 s0 s1 fq st0 st1 hn
  obtain ⟨dp, rfl⟩ : ∃ d', dp = d' + 1 := ⟨dp - 1, by omega⟩
  have HR1 : ∀ (Q : Int → MM → Prop) R (d : Nat) W D, R 0 83 = 0 → tk R W D → Kd R → W = 38 → pendN 7 2 (gr_ d) Q R → gr_ (d + 1) 2 Q [] R := fun Q R d W D h83 ht hK hw h => by
    show b_X12_readNot (gr_ d) Q R
    unfold b_X12_readNot
    unfold pendN at h
    exact fun v1 e1 _ => ⟨fun z => by omega, fun _ => r_isK ht hK (x := 8) (by omega) (by omega) (fun _ _ => ⟨fun _ => h, fun z => absurd z (by decide)⟩) (fun z => absurd (by omega) z) (by decide)⟩
  have HR0 : ∀ (Q : Int → MM → Prop) R (d : Nat) W D, R 0 83 = 0 → tk R W D → Kd R → W ≠ 38 → gr_ d 3 (fun r1 M2 => ri_ r1 → Q r1 M2) [] R → gr_ (d + 1) 2 Q [] R := fun Q R d W D h83 ht hK hw h => by
    show b_X12_readNot (gr_ d) Q R
    unfold b_X12_readNot w_X12_readNot_b16
    exact fun v1 e1 _ => ⟨fun z => by omega, fun _ => r_isK ht hK (x := 8) (by omega) (by omega) (fun z => absurd (by omega) hw) (fun _ _ => ⟨fun z => absurd rfl z, fun _ => h⟩) (by decide)⟩
  rcases J_pend 38 13 7 3 3 2 11 9 10 (by omega) 8 (by omega) (by omega) (by omega) (fun P N y a h1 h2 => Or.inr (Or.inr (Or.inr (Or.inl ⟨h1, h2⟩)))) HR1 HR0 (fun Q R f d hd h83 f0 h91 h => z2 (by omega) h83 f0 h91 h) hc hT b0 b1 q0 q1 HS 120 dp dq k 200 n fo s st nm nr_ sf 0 (by omega) (by omega) (by omega) hk n0 n1 s0 s1 fq st0 (by omega) hn (by omega) (by omega) n0 with ⟨k2, n2, st2, x2, P2, N2, kk, k2L, nlt, n2L, ss, hS2, cO, rO⟩ | ⟨f, pl, f0, cN, rN⟩
  · refine Or.inl ⟨k2, n2, st2, x2, P2, N2, kk, k2L, by omega, n2L, ss, ⟨nlt, hS2⟩, fun C w wq w0 w1 hC hP Q hq => ?_, rO⟩
    show b_X6_readNots c (gq_ c dp) Q C
    unfold b_X6_readNots w_X6_readNots_b2
    refine ⟨200, cO C w wq w0 w1 hC hP Q (fun C' h1 h2 h3 => hq C' (by rw [Int.add_zero] at h1; exact h1) h2 (fun j i j0 j4 hi hi2 => ?_))⟩
    rw [h3 j i j0 j4 hi (by omega)]
    unfold ext; rw [if_pos hi2]
  · refine Or.inr ⟨f, pl, f0, fun C w wq w0 w1 hC hP Q hq => ?_, rN⟩
    show b_X6_readNots c (gq_ c dp) Q C
    unfold b_X6_readNots w_X6_readNots_b2
    exact ⟨200, cN C w wq w0 w1 hC hP Q hq⟩
theorem J_Signed (hc : Clo SM ST) (hT : TX C0 R0 E L) (b0 : 0 ≤ b) (b1 : b ≤ 360) (q0 : 0 ≤ q) (q1 : q ≤ 10) (HS : Jt c C0 R0 E L b it SM q 7 7 7 5) : Jt c C0 R0 E L b it SM q 6 6 8 6 := by
  intro dp dq k n fo s st nm nr_ sf hdp hdq hk n0 n1 s0 s1 fq st0 st1 hn
  obtain ⟨dp, rfl⟩ : ∃ d', dp = d' + 1 := ⟨dp - 1, by omega⟩
  have HR1 : ∀ (Q : Int → MM → Prop) R (d : Nat) W D, R 0 83 = 0 → tk R W D → Kd R → W = 16 → pendN 113 6 (gr_ d) Q R → gr_ (d + 1) 6 Q [] R := fun Q R d W D h83 ht hK hw h => by
    show b_X12_readTurned (gr_ d) Q R
    unfold b_X12_readTurned
    unfold pendN at h
    exact fun v1 e1 _ => ⟨fun z => by omega, fun _ => r_isS ht (x := 12) (by omega) (fun _ _ => ⟨fun _ => h, fun z => absurd z (by decide)⟩) (fun z => absurd (by omega) z) (by decide)⟩
  have HR0 : ∀ (Q : Int → MM → Prop) R (d : Nat) W D, R 0 83 = 0 → tk R W D → Kd R → W ≠ 16 → gr_ d 7 (fun r1 M2 => ri_ r1 → Q r1 M2) [] R → gr_ (d + 1) 6 Q [] R := fun Q R d W D h83 ht hK hw h => by
    show b_X12_readTurned (gr_ d) Q R
    unfold b_X12_readTurned w_X12_readTurned_b17
    exact fun v1 e1 _ => ⟨fun z => by omega, fun _ => r_isS ht (x := 12) (by omega) (fun z => absurd (by omega) hw) (fun _ _ => ⟨fun z => absurd rfl z, fun _ => h⟩) (by decide)⟩
  rcases J_pend 16 12 113 7 7 6 7 5 6 (by omega) 4 (by omega) (by omega) (by omega) (fun P N y a h1 h2 => Or.inr (Or.inr (Or.inl ⟨h1, h2⟩))) HR1 HR0 (fun Q R f d hd h83 f0 h91 h => z6 (by omega) h83 f0 h91 h) hc hT b0 b1 q0 q1 HS 120 dp dq k 200 n fo s st nm nr_ sf 0 (by omega) (by omega) (by omega) hk n0 n1 s0 s1 fq st0 (by omega) hn (by omega) (by omega) n0 with ⟨k2, n2, st2, x2, P2, N2, kk, k2L, nlt, n2L, ss, hS2, cO, rO⟩ | ⟨f, pl, f0, cN, rN⟩
  · refine Or.inl ⟨k2, n2, st2, x2, P2, N2, kk, k2L, by omega, n2L, ss, ⟨nlt, hS2⟩, fun C w wq w0 w1 hC hP Q hq => ?_, rO⟩
    show b_X6_readSigned c (gq_ c dp) Q C
    unfold b_X6_readSigned w_X6_readSigned_b2
    refine ⟨200, cO C w wq w0 w1 hC hP Q (fun C' h1 h2 h3 => hq C' (by rw [Int.add_zero] at h1; exact h1) h2 (fun j i j0 j4 hi hi2 => ?_))⟩
    rw [h3 j i j0 j4 hi (by omega)]
    unfold ext; rw [if_pos hi2]
  · refine Or.inr ⟨f, pl, f0, fun C w wq w0 w1 hC hP Q hq => ?_, rN⟩
    show b_X6_readSigned c (gq_ c dp) Q C
    unfold b_X6_readSigned w_X6_readSigned_b2
    exact ⟨200, cN C w wq w0 w1 hC hP Q hq⟩
