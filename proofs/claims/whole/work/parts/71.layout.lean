/-! the layout of a class's own fields -/
def rup (e w : Int) : Int := (e + w - 1) / w * w
/-- where the fields of width w end, of the first k own fields -/
def lw (st kd : Int → Int) (b w e : Int) : Nat → Int
  | 0 => e
  | k + 1 => if st (b + k) = 0 ∧ wdt (kd (b + k)).toNat = w then rup (lw st kd b w e k) w + w else lw st kd b w e k
def isW (w : Int) : Prop := w = 8 ∨ w = 4 ∨ w = 2 ∨ w = 1
/-- where the pass of width w begins: n own fields, the first byte e -/
def lb (st kd : Int → Int) (b e : Int) (n : Nat) (w : Int) : Int := if w = 8 then e else if w = 4 then lw st kd b 8 e n else if w = 2 then lw st kd b 4 (lw st kd b 8 e n) n else if w = 1 then lw st kd b 2 (lw st kd b 4 (lw st kd b 8 e n) n) n else lw st kd b 1 (lw st kd b 2 (lw st kd b 4 (lw st kd b 8 e n) n) n) n
/-- where own field k begins -/
def lp (st kd : Int → Int) (b e : Int) (n : Nat) (k : Nat) : Int := rup (lw st kd b (wdt (kd (b + k)).toNat) (lb st kd b e n (wdt (kd (b + k)).toNat)) k) (wdt (kd (b + k)).toNat)
theorem rup_bd {e w : Int} (hw : isW w) : e ≤ rup e w ∧ rup e w ≤ e + w - 1 ∧ rup e w % w = 0 := by
  unfold rup
  rcases hw with rfl | rfl | rfl | rfl <;> omega
theorem rup_id {e w : Int} (hw : isW w) (h : e % w = 0) : rup e w = e := by
  unfold rup
  rcases hw with rfl | rfl | rfl | rfl <;> omega
theorem rup_s {e w : Int} (hw : isW w) (h : ¬ e % w = 0) : rup (e + 1) w = rup e w := by
  unfold rup
  rcases hw with rfl | rfl | rfl | rfl <;> omega
theorem lw_bd {st kd : Int → Int} {b w e : Int} (hw : isW w) (k : Nat) : e ≤ lw st kd b w e k ∧ lw st kd b w e k ≤ e + 16 * k := by
  induction k with
  | zero => exact ⟨by show e ≤ e; omega, by show e ≤ _; omega⟩
  | succ k ih =>
    have hr := rup_bd (e := lw st kd b w e k) hw
    have hw2 : 1 ≤ w ∧ w ≤ 8 := by rcases hw with rfl | rfl | rfl | rfl <;> omega
    show e ≤ (if _ then _ else _) ∧ (if _ then _ else _) ≤ _
    by_cases z : st (b + k) = 0 ∧ wdt (kd (b + k)).toNat = w
    · rw [if_pos z]; omega
    · rw [if_neg z]; omega
theorem wdt_W {k : Int} (h0 : 0 ≤ k) (h1 : k ≤ 5) : isW (wdt k.toNat) := by
  have : k = 0 ∨ k = 1 ∨ k = 2 ∨ k = 3 ∨ k = 4 ∨ k = 5 := by omega
  rcases this with rfl | rfl | rfl | rfl | rfl | rfl
  · exact Or.inr (Or.inr (Or.inr rfl))
  · exact Or.inr (Or.inr (Or.inr rfl))
  · exact Or.inr (Or.inr (Or.inl rfl))
  · exact Or.inr (Or.inl rfl)
  · exact Or.inl rfl
  · exact Or.inr (Or.inl rfl)
theorem p_R_width {Q : Int → MM → Prop} {k : Int} {M : MM} (h0 : 0 ≤ k) (h1 : k ≤ 5) (h : Q (wdt k.toNat) M) : w_X12_width Q k M := by
  unfold w_X12_width
  have : k = 0 ∨ k = 1 ∨ k = 2 ∨ k = 3 ∨ k = 4 ∨ k = 5 := by omega
  rcases this with rfl | rfl | rfl | rfl | rfl | rfl
  · exact ⟨fun z => by omega, fun _ => h⟩
  · exact ⟨fun z => by omega, fun _ => h⟩
  · exact ⟨fun _ => ⟨fun z => by omega, fun _ => h⟩, fun z => by omega⟩
  · exact ⟨fun _ => ⟨fun _ => ⟨fun _ => h, fun z => by omega⟩, fun z => by omega⟩, fun z => by omega⟩
  · exact ⟨fun _ => ⟨fun _ => ⟨fun z => by omega, fun _ => h⟩, fun z => by omega⟩, fun z => by omega⟩
  · exact ⟨fun _ => ⟨fun _ => ⟨fun _ => h, fun z => by omega⟩, fun z => by omega⟩, fun z => by omega⟩
theorem tmod_W {a w : Int} (h0 : 0 ≤ a) : a - Int.tdiv a w * w = a % w := by
  rw [Int.tdiv_eq_ediv_of_nonneg h0]
  have := Int.emod_add_mul_ediv a w
  rw [Int.mul_comm w] at this
  omega
set_option maxHeartbeats 400000 in
theorem p_R_align {Q : Int → MM → Prop} {K1 : Int → Int → Int → MM → Prop} {K2 : Int → Int → Int → Int → MM → Prop} {c at' w k f : Int} {M : MM} (hw : isW w) (h0 : 0 ≤ at') (h1 : at' ≤ 10000) (hf : 0 ≤ f) (hf2 : f < 96) (hk : 0 ≤ k) (hk2 : k ≤ 6) (h : K2 c (rup at' w + w) w (k + 1) (ux_ M 15 f (rup at' w))) : w_X12_layOut_b187 Q K1 K2 c at' w k f M := by
  have hr := rup_bd (e := at') hw
  have hw2 : 1 ≤ w ∧ w ≤ 8 := by rcases hw with rfl | rfl | rfl | rfl <;> omega
  have H : ∀ (m : Nat) (a : Int), at' ≤ a → rup a w = rup at' w → rup at' w - a < m → jit (fun _ _ _ _ _ _ => False) (wb_X12_layOut_b187 Q K1 K2) m c a w k f M := by
    intro m
    induction m with
    | zero => intro a a0 a1 hm; have := rup_bd (e := a) hw; omega
    | succ m ih =>
      intro a a0 a1 hm
      have ha := rup_bd (e := a) hw
      show wb_X12_layOut_b187 Q K1 K2 (jit (fun _ _ _ _ _ _ => False) (wb_X12_layOut_b187 Q K1 K2) m) c a w k f M
      unfold wb_X12_layOut_b187 w_X12_layOut_b217
      rw [tmod_W (by omega)]
      have hm2 : 0 ≤ a % w ∧ a % w < w := ⟨Int.emod_nonneg _ (by omega), Int.emod_lt_of_pos _ (by omega)⟩
      refine ⟨by omega, by unfold ri_; omega, fun z => ⟨hf, hf2, fun M3 e3 => ⟨by unfold ri_; omega, by unfold ri_; omega, ?_⟩⟩, fun z => ⟨by unfold ri_; omega, ?_⟩⟩
      · have e := rup_id hw z
        rw [e] at a1
        rw [e3, a1]; exact h
      · have hne : rup at' w ≠ a := fun q => z (by rw [← q]; exact hr.2.2)
        exact ih (a + 1) (by omega) (by rw [rup_s hw z]; exact a1) (by omega)
  exact ⟨_, H (rup at' w - at' + 1).toNat at' (by omega) rfl (by omega)⟩
/-- own field j is laid out once the pass of width w has come to k -/
def dn (st kd : Int → Int) (b w : Int) (k j : Nat) : Prop := st (b + j) = 0 ∧ (w < wdt (kd (b + j)).toNat ∨ (wdt (kd (b + j)).toNat = w ∧ j < k))
/-- memory in the midst of the passes -/
def lm (M M1 : MM) (b e : Int) (n : Nat) (w : Int) (k : Nat) : Prop := (∀ q i, q ≠ 15 → M1 q i = M q i) ∧ (∀ i, ¬ (b ≤ i ∧ i < b + n) → M1 15 i = M 15 i) ∧ ∀ j : Nat, j < n → dn (M 17) (M 12) b w k j → M1 15 (b + j) = lp (M 17) (M 12) b e n j
set_option maxHeartbeats 600000 in
theorem p_R_pass {Q : Int → MM → Prop} {K1 : Int → Int → Int → MM → Prop} {c e w : Int} {n : Nat} {M M0 : MM} (hw : isW w) (hc : 0 ≤ c) (hc2 : c < 16) (hn : n ≤ 6) (hown : M 9 c = n) (hkd : ∀ j : Nat, j < n → 0 ≤ M 12 (6 * c + j) ∧ M 12 (6 * c + j) ≤ 5) (he : 0 ≤ lb (M 17) (M 12) (6 * c) e n w) (he2 : lb (M 17) (M 12) (6 * c) e n w ≤ 9000)
    (hM : lm M M0 (6 * c) e n w 0) (h : ∀ M2, lm M M2 (6 * c) e n w n → K1 c (lw (M 17) (M 12) (6 * c) w (lb (M 17) (M 12) (6 * c) e n w) n) (w.tdiv 2) M2) : w_X12_layOut_b139 Q K1 c (lb (M 17) (M 12) (6 * c) e n w) w 0 M0 := by
  have hw2 : 1 ≤ w ∧ w ≤ 8 := by rcases hw with rfl | rfl | rfl | rfl <;> omega
  have H : ∀ (m : Nat) (k : Nat) (M1 : MM), k ≤ n → (n : Int) - k < m → lm M M1 (6 * c) e n w k → jit (fun _ _ _ _ _ => False) (wb_X12_layOut_b139 Q K1) m c (lw (M 17) (M 12) (6 * c) w (lb (M 17) (M 12) (6 * c) e n w) k) w k M1 := by
    intro m
    induction m with
    | zero => intro k M1 k1 hm hl; omega
    | succ m ih =>
      intro k M1 k1 hm hl
      obtain ⟨l1, l2, l3⟩ := id hl
      have hb := lw_bd (st := M 17) (kd := M 12) (b := 6 * c) (e := lb (M 17) (M 12) (6 * c) e n w) hw k
      show wb_X12_layOut_b139 Q K1 (jit (fun _ _ _ _ _ => False) (wb_X12_layOut_b139 Q K1) m) c (lw (M 17) (M 12) (6 * c) w (lb (M 17) (M 12) (6 * c) e n w) k) w k M1
      unfold wb_X12_layOut_b139
      refine ⟨hc, hc2, fun v1 e1 g1 => ?_⟩
      rw [l1 9 c (by decide), hown] at e1
      subst e1
      refine ⟨fun z => ?_, fun z => ?_⟩
      · have e9 : k = n := by omega
        subst e9
        refine ⟨by rw [Int.tdiv_eq_ediv_of_nonneg (by omega)]; unfold ri_; omega, h M1 hl⟩
      · have hkn : k < n := by omega
        have hskip : ¬ (M 17 (6 * c + k) = 0 ∧ wdt (M 12 (6 * c + k)).toNat = w) → w_X12_layOut_b217 Q K1 (jit (fun _ _ _ _ _ => False) (wb_X12_layOut_b139 Q K1) m) c (lw (M 17) (M 12) (6 * c) w (lb (M 17) (M 12) (6 * c) e n w) k) w k M1 := by
          intro hno
          unfold w_X12_layOut_b217
          refine ⟨by unfold ri_; omega, ?_⟩
          have := ih (k + 1) M1 (by omega) (by omega) ⟨l1, l2, fun j j1 hd => l3 j j1 ⟨hd.1, hd.2.imp id fun q => ⟨q.1, by
            by_cases ej : j = k
            · subst ej; exact absurd ⟨hd.1, q.1⟩ hno
            · omega⟩⟩⟩
          rw [show lw (M 17) (M 12) (6 * c) w (lb (M 17) (M 12) (6 * c) e n w) (k + 1) = lw (M 17) (M 12) (6 * c) w (lb (M 17) (M 12) (6 * c) e n w) k from if_neg hno] at this
          exact this
        refine ⟨by unfold ri_; omega, by unfold ri_; omega, by omega, by omega, fun v6 e6 g6 => ?_⟩
        rw [l1 17 _ (by decide)] at e6
        refine ⟨fun z6 => hskip (fun q => z6 (by rw [e6]; exact q.1)), fun z6 => ⟨by omega, by omega, fun v8 e8 g8 => ?_⟩⟩
        rw [l1 12 _ (by decide)] at e8
        have hk5 := hkd k hkn
        rw [e8]
        refine p_R_width hk5.1 hk5.2 (fun _ => ⟨fun z9 => ?_, fun z9 => hskip (fun q => z9 q.2)⟩)
        refine p_R_align hw (by omega) (by omega) (by omega) (by omega) (by omega) (by omega) ?_
        have hyes : M 17 (6 * c + k) = 0 ∧ wdt (M 12 (6 * c + k)).toNat = w := ⟨by rw [← e6]; exact z6, z9⟩
        have := ih (k + 1) (ux_ M1 15 (6 * c + k) (rup (lw (M 17) (M 12) (6 * c) w (lb (M 17) (M 12) (6 * c) e n w) k) w)) (by omega) (by omega) ⟨?_, ?_, ?_⟩
        · rw [show lw (M 17) (M 12) (6 * c) w (lb (M 17) (M 12) (6 * c) e n w) (k + 1) = rup (lw (M 17) (M 12) (6 * c) w (lb (M 17) (M 12) (6 * c) e n w) k) w + w from if_pos hyes] at this
          exact this
        · intro q i hq; rw [ux_c _ _ _ _ hq]; exact l1 q i hq
        · intro i hi; rw [ux_i _ _ _ (by omega)]; exact l2 i hi
        · intro j j1 hd
          by_cases ej : j = k
          · subst ej
            rw [ux_s]
            unfold lp
            rw [hyes.2]
          · rw [ux_i _ _ _ (by omega)]
            exact l3 j j1 ⟨hd.1, hd.2.imp id fun q => ⟨q.1, by omega⟩⟩
  exact ⟨_, H (n + 1) 0 M0 (by omega) (by omega) hM⟩
