/-! the class's layout -/
theorem rup_t {e w : Int} (hw : isW w) (h : 0 ≤ e) : Int.tdiv (e + w - 1) w * w = rup e w := by
  unfold rup
  rw [Int.tdiv_eq_ediv_of_nonneg (by unfold isW at hw; omega)]
theorem lp_of {st kd : Int → Int} {b e : Int} {n : Nat} {k : Nat} {w : Int} (h : wdt (kd (b + k)).toNat = w) : lp st kd b e n k = rup (lw st kd b w (lb st kd b e n w) k) w := by unfold lp; rw [h]
set_option maxHeartbeats 600000 in
/-- one pass: k is the field asked for, or none of this pass -/
theorem p_fb_pass {Q : Int → MM → Prop} {K1 : Int → Int → Int → Int → MM → Prop} {c e w t : Int} {n : Nat} {M : MM} (hw : isW w) (hc : 0 ≤ c) (hc2 : c < 16) (hn : n ≤ 6) (hown : M 14 c = n) (hkd : ∀ j : Nat, j < n → 0 ≤ M 19 (6 * c + j) ∧ M 19 (6 * c + j) ≤ 5) (he : 0 ≤ lb (M 21) (M 19) (6 * c) e n w) (he2 : lb (M 21) (M 19) (6 * c) e n w ≤ 9000)
    (hq : ∀ k : Nat, k < n → t = k → M 21 (6 * c + k) = 0 → wdt (M 19 (6 * c + k)).toNat = w → Q (lp (M 21) (M 19) (6 * c) e n k) M)
    (h : (∀ k : Nat, k < n → t = k → ¬ (M 21 (6 * c + k) = 0 ∧ wdt (M 19 (6 * c + k)).toNat = w)) → K1 c t (lw (M 21) (M 19) (6 * c) w (lb (M 21) (M 19) (6 * c) e n w) n) (w.tdiv 2) M) : w_X10_firstByte_b40 Q K1 c t (lb (M 21) (M 19) (6 * c) e n w) w 0 M := by
  have hw2 : 1 ≤ w ∧ w ≤ 8 := by rcases hw with rfl | rfl | rfl | rfl <;> omega
  have H : ∀ (m : Nat) (k : Nat), k ≤ n → (n : Int) - k < m → (∀ j : Nat, j < k → t = j → ¬ (M 21 (6 * c + j) = 0 ∧ wdt (M 19 (6 * c + j)).toNat = w)) → jit (fun _ _ _ _ _ _ => False) (wb_X10_firstByte_b40 Q K1) m c t (lw (M 21) (M 19) (6 * c) w (lb (M 21) (M 19) (6 * c) e n w) k) w k M := by
    intro m
    induction m with
    | zero => intro k k1 hm hl; omega
    | succ m ih =>
      intro k k1 hm hl
      have hb := lw_bd (st := M 21) (kd := M 19) (b := 6 * c) (e := lb (M 21) (M 19) (6 * c) e n w) hw k
      show wb_X10_firstByte_b40 Q K1 (jit (fun _ _ _ _ _ _ => False) (wb_X10_firstByte_b40 Q K1) m) c t (lw (M 21) (M 19) (6 * c) w (lb (M 21) (M 19) (6 * c) e n w) k) w k M
      unfold wb_X10_firstByte_b40
      refine ⟨hc, hc2, fun v1 e1 g1 => ?_⟩
      rw [hown] at e1
      subst e1
      refine ⟨fun z => ?_, fun z => ?_⟩
      · have e9 : k = n := by omega
        subst e9
        exact ⟨by rw [Int.tdiv_eq_ediv_of_nonneg (by omega)]; unfold ri_; omega, h hl⟩
      · have hkn : k < n := by omega
        have hskip : ¬ (M 21 (6 * c + k) = 0 ∧ wdt (M 19 (6 * c + k)).toNat = w) → w_X10_firstByte_b118 Q K1 (jit (fun _ _ _ _ _ _ => False) (wb_X10_firstByte_b40 Q K1) m) c t (lw (M 21) (M 19) (6 * c) w (lb (M 21) (M 19) (6 * c) e n w) k) w k M := by
          intro hno
          unfold w_X10_firstByte_b118
          refine ⟨by unfold ri_; omega, ?_⟩
          have := ih (k + 1) (by omega) (by omega) (fun j j1 jt => by
            by_cases ej : j = k
            · subst ej; exact hno
            · exact hl j (by omega) jt)
          rw [show lw (M 21) (M 19) (6 * c) w (lb (M 21) (M 19) (6 * c) e n w) (k + 1) = lw (M 21) (M 19) (6 * c) w (lb (M 21) (M 19) (6 * c) e n w) k from if_neg hno] at this
          exact this
        rw [show c * 6 + (k : Int) = 6 * c + k from by omega]
        refine ⟨by unfold ri_; omega, by unfold ri_; omega, by omega, by omega, fun v6 e6 g6 => ?_⟩
        refine ⟨fun z6 => hskip (fun q => z6 (by rw [e6]; exact q.1)), fun z6 => ⟨by omega, by omega, fun v8 e8 g8 => ?_⟩⟩
        have hk5 := hkd k hkn
        rw [e8]
        refine ⟨hk5.1, by omega, fun z9 => ?_, fun z9 => hskip (fun q => z9 q.2)⟩
        have hr := rup_bd (e := lw (M 21) (M 19) (6 * c) w (lb (M 21) (M 19) (6 * c) e n w) k) hw
        rw [rup_t hw (by omega)]
        have hyes : M 21 (6 * c + k) = 0 ∧ wdt (M 19 (6 * c + k)).toNat = w := ⟨by rw [← e6]; exact z6, z9⟩
        refine ⟨by unfold ri_; omega, by unfold ri_; omega, by omega, ?_, by unfold ri_; omega, fun z5 => ⟨by unfold ri_; omega, ?_⟩, fun z5 => ?_⟩
        · rw [Int.tdiv_eq_ediv_of_nonneg (by omega)]
          rcases hw with rfl | rfl | rfl | rfl <;> (unfold ri_; omega)
        · unfold w_X10_firstByte_b118
          refine ⟨by unfold ri_; omega, ?_⟩
          have := ih (k + 1) (by omega) (by omega) (fun j j1 jt => by
            by_cases ej : j = k
            · subst ej; exact absurd jt.symm z5
            · exact hl j (by omega) jt)
          rw [show lw (M 21) (M 19) (6 * c) w (lb (M 21) (M 19) (6 * c) e n w) (k + 1) = rup (lw (M 21) (M 19) (6 * c) w (lb (M 21) (M 19) (6 * c) e n w) k) w + w from if_pos hyes] at this
          exact this
        · rw [← lp_of hyes.2]
          exact hq k hkn z5.symm hyes.1 hyes.2
  exact ⟨_, H (n + 1) 0 (by omega) (by omega) (fun j j1 => by omega)⟩
set_option maxHeartbeats 600000 in
theorem p_firstByte {Q : Int → MM → Prop} {c e t : Int} {n : Nat} {M : MM} (hc : 0 ≤ c) (hc2 : c < 16) (hn : n ≤ 6) (hown : M 14 c = n) (hkd : ∀ j : Nat, j < n → 0 ≤ M 19 (6 * c + j) ∧ M 19 (6 * c + j) ≤ 5) (hp : -1 ≤ M 11 c) (hp2 : M 11 c < 16) (hee : e = if M 11 c = -1 then 12 else M 17 (M 11 c)) (he : 0 ≤ e) (he2 : e ≤ 8000)
    (hq : ∀ k : Nat, k < n → t = k → M 21 (6 * c + k) = 0 → Q (lp (M 21) (M 19) (6 * c) e n k) M)
    (h : (∀ k : Nat, k < n → t = k → ¬ M 21 (6 * c + k) = 0) → Q (lb (M 21) (M 19) (6 * c) e n 0) M) : w_X10_firstByte Q c t M := by
  have hb := fun w hw => lb_bd (st := M 21) (kd := M 19) (b := 6 * c) (e := e) hn w hw
  have st : ∀ (w : Int) (ag : Int → Int → Int → Int → MM → Prop), isW w → ((∀ k : Nat, k < n → t = k → ¬ (M 21 (6 * c + k) = 0 ∧ wdt (M 19 (6 * c + k)).toNat = w)) → ag c t (lw (M 21) (M 19) (6 * c) w (lb (M 21) (M 19) (6 * c) e n w) n) (w.tdiv 2) M) → wb_X10_firstByte_b31 Q ag c t (lb (M 21) (M 19) (6 * c) e n w) w M := by
    intro w ag hw hk
    have hb1 := hb w (Or.inl hw)
    unfold wb_X10_firstByte_b31
    refine ⟨fun z => ?_, fun z => p_fb_pass hw hc hc2 hn hown hkd (by omega) (by omega) (fun k k1 kt ks _ => hq k k1 kt ks) hk⟩
    exfalso
    unfold isW at hw
    omega
  have hall : w_X10_firstByte_b26 Q c t e M := by
    refine ⟨5, ?_⟩
    have s8 := st 8 (jit (fun _ _ _ _ _ => False) (wb_X10_firstByte_b31 Q) 4) (Or.inl rfl) fun n8 => ?_
    · rw [show lb (M 21) (M 19) (6 * c) e n 8 = e from by simp [lb]] at s8; exact s8
    rw [lb_4]
    refine st 4 _ (Or.inr (Or.inl rfl)) fun n4 => ?_
    rw [lb_2]
    refine st 2 _ (Or.inr (Or.inr (Or.inl rfl))) fun n2 => ?_
    rw [lb_1]
    refine st 1 _ (Or.inr (Or.inr (Or.inr rfl))) fun n1 => ?_
    rw [lb_0]
    show wb_X10_firstByte_b31 Q (jit (fun _ _ _ _ _ => False) (wb_X10_firstByte_b31 Q) 0) c t (lb (M 21) (M 19) (6 * c) e n 0) 0 M
    unfold wb_X10_firstByte_b31
    refine ⟨fun _ => h fun k k1 kt ks => ?_, fun z => by omega⟩
    have hW := wdt_W (hkd k k1).1 (hkd k k1).2
    rcases hW with w9 | w9 | w9 | w9
    · exact n8 k k1 kt ⟨ks, w9⟩
    · exact n4 k k1 kt ⟨ks, w9⟩
    · exact n2 k k1 kt ⟨ks, w9⟩
    · exact n1 k k1 kt ⟨ks, w9⟩
  unfold w_X10_firstByte
  refine ⟨hc, hc2, fun v1 e1 g1 => ?_⟩
  subst e1
  refine ⟨fun z => ⟨hc, hc2, fun v3 e3 g3 => ?_⟩, fun z => ?_⟩
  · subst e3
    refine ⟨by omega, by omega, fun v4 e4 g4 => ?_⟩
    rw [show v4 = e from by rw [e4, hee, if_neg z]]; exact hall
  · rw [show (12 : Int) = e from by rw [hee, if_pos z]]; exact hall
theorem p_isClass {Q : Int → MM → Prop} {p : Int} {M : MM} (h1 : 0 ≤ p → p < M 8 0 → Q 1 M) (h0 : ¬ (0 ≤ p ∧ p < M 8 0) → Q 0 M) : w_X10_isClass Q p M := by
  unfold w_X10_isClass
  exact ⟨fun z => h0 (by omega), fun z v ev gv => ⟨fun z2 => h0 (by omega), fun z2 => h1 (by omega) (by omega)⟩⟩
theorem p_R_isClass {Q : Int → MM → Prop} {p : Int} {M : MM} (h1 : 0 ≤ p → p < M 0 20 → Q 1 M) (h0 : ¬ (0 ≤ p ∧ p < M 0 20) → Q 0 M) : w_X12_isClass Q p M := by
  unfold w_X12_isClass
  exact ⟨fun z => h0 (by omega), fun z v ev gv => ⟨fun z2 => h0 (by omega), fun z2 => h1 (by omega) (by omega)⟩⟩
theorem p_hasName {Q : Int → MM → Prop} {l x : Int} {M : MM} (hn : 0 ≤ M 8 0) (hn2 : M 8 0 ≤ 16) (h1 : ∀ c, 0 ≤ c → c < M 8 0 → M 10 c = l → M 9 c = x → Q 1 M) (h0 : (∀ c, 0 ≤ c → c < M 8 0 → ¬ (M 10 c = l ∧ M 9 c = x)) → Q 0 M) : w_X10_hasName Q l x M := by
  have H : ∀ (m : Nat) (k : Int), 0 ≤ k → k ≤ M 8 0 → M 8 0 - k < m → (∀ c, 0 ≤ c → c < k → ¬ (M 10 c = l ∧ M 9 c = x)) → jit (fun _ _ _ _ => False) (wb_X10_hasName_b3 Q) m l x k M := by
    intro m
    induction m with
    | zero => intro k k0 k1 hm hf; omega
    | succ m ih =>
      intro k k0 k1 hm hf
      show wb_X10_hasName_b3 Q (jit (fun _ _ _ _ => False) (wb_X10_hasName_b3 Q) m) l x k M
      unfold wb_X10_hasName_b3
      intro v ev gv
      subst ev
      have hnx : ¬ (M 10 k = l ∧ M 9 k = x) → k < M 8 0 → w_X10_hasName_b37 Q (jit (fun _ _ _ _ => False) (wb_X10_hasName_b3 Q) m) l x k M := by
        intro hk hk2
        refine ⟨by unfold ri_; omega, ih (k + 1) (by omega) (by omega) (by omega) fun c c0 c1 => ?_⟩
        by_cases e : c = k
        · rw [e]; exact hk
        · exact hf c c0 (by omega)
      refine ⟨fun z => h0 (fun c c0 c1 => hf c c0 (by omega)), fun z => ⟨k0, by omega, fun v3 e3 g3 => ⟨fun z3 => hnx (fun q => z3 (by rw [e3]; exact q.1)) (by omega), fun z3 => ⟨k0, by omega, fun v5 e5 g5 => ⟨fun z5 => hnx (fun q => z5 (by rw [e5]; exact q.2)) (by omega), fun z5 => h1 k k0 (by omega) (by rw [← e3]; exact z3) (by rw [← e5]; exact z5)⟩⟩⟩⟩⟩
  exact ⟨_, H (M 8 0 + 1).toNat 0 (by omega) hn (by omega) (fun c c0 c1 => by omega)⟩
