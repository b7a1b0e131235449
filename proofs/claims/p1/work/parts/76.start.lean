set_option maxRecDepth 20000 in
theorem it_J0 : ∀ w ∈ wsJ00, w ∈ lw_tbl := by decide +kernel
set_option maxRecDepth 20000 in
theorem it_J4 : ∀ w ∈ wsJ40, w ∈ lw_tbl := by decide +kernel
set_option maxRecDepth 20000 in
theorem it_Jx00060 : ∀ w ∈ wsJx000600, w ∈ lw_tbl := by decide +kernel
set_option maxRecDepth 20000 in
theorem st_ct : ∀ E ∈ xE, Cond.castable E E ∈ lw_tbl := by decide +kernel
set_option maxRecDepth 20000 in
theorem st_dc : ∀ Y ∈ xY, Cond.declares (Bundle.init0 Y) ∈ lw_tbl := by decide +kernel
set_option maxRecDepth 20000 in
theorem st_nc : ∀ E ∈ xE, ∀ G ∈ xE, E ≠ G → Cond.not (.castable E G) ∈ flatC (Jvm.Cond.and given_1 narrow_1) := by decide +kernel
set_option maxRecDepth 20000 in
theorem st_ex : ∀ i : Nat, i < 3 → Cond.exactly (tmS i) "java/lang/String" ∈ flatC (Jvm.Cond.and given_1 narrow_1) := by decide +kernel
set_option maxRecDepth 20000 in
theorem st_co : ∀ i : Nat, i < 3 → Cond.eq (.field (tmS i) "java/lang/String" "coder" "B") (.int 0) ∈ flatC (Jvm.Cond.and given_1 narrow_1) := by decide +kernel
set_option maxRecDepth 20000 in
theorem st_ar : ∀ i : Nat, i < 3 → Cond.arrayOf (.field (tmS i) "java/lang/String" "value" "[B") .byte ∈ flatC (Jvm.Cond.and given_1 narrow_1) := by decide +kernel
set_option maxRecDepth 20000 in
theorem st_le : ∀ i : Nat, i < 3 → Cond.eq (.length (.field (tmS i) "java/lang/String" "value" "[B")) (.int (Int32.ofNat (sLen.getD i 0))) ∈ flatC (Jvm.Cond.and given_1 narrow_1) := by decide +kernel
set_option maxRecDepth 20000 in
theorem st_ne : ∀ i : Nat, i < 3 → ∀ j : Nat, j < 3 → i ≠ j → Cond.not (Cond.eq (tmS i) (tmS j)) ∈ flatC (Jvm.Cond.and given_1 narrow_1) ∨ Cond.not (Cond.eq (tmS j) (tmS i)) ∈ flatC (Jvm.Cond.and given_1 narrow_1) := by decide +kernel
set_option maxHeartbeats 4000000 in
set_option maxRecDepth 100000 in
theorem whole_start {p : Program} {e : Env} {s : State} {m : MethodId} {below : List Frame} {meth : Method} {c : Code} (l : Launch) (hst : l.stackTraces = false) {b L : Nat} {xs : Nat → Int32} (hL : L ≤ 6) (C0 : lw_At p s m meth c b L xs) : W p l e room_1 s m #[Value.ref b] below meth c s.heap [] 0 0 (lw_Z below #[Value.ref b] s) (entryFrame m ([Value.ref b] : List Value).toArray 8) := by
  obtain ⟨hx, hb, hr, hml, hown, hts, hX, hbl, hlocks, hgv⟩ := id C0
  have hA0 : ∀ a : Nat, a < s.heap.size → ¬ (fun q : Nat => s.heap.size ≤ q) a := fun a h => Nat.not_le.mpr h
  have hfl := flat_of_before _ hgv
  obtain ⟨c0, iS0, hKn0⟩ := u_known (C := RJ0) (T := TJ0) (N := 4) (n := 4) hts it_J0 (hts (.instantiable RJ0 4) (by decide +kernel))
  obtain ⟨c1, iS1, hKn1⟩ := u_known (C := RJ4) (T := TJ4) (N := 4) (n := 4) hts it_J4 (hts (.instantiable RJ4 4) (by decide +kernel))
  obtain ⟨c2, iS2, hKn2⟩ := u_known (C := RJx00060) (T := TJx00060) (N := 6) (n := 6) hts it_Jx00060 (hts (.instantiable RJx00060 6) (by decide +kernel))
  obtain ⟨c3, iS3, hKn3⟩ := u_known (C := RX0) (T := TX0) (N := 15) (n := 15) hts it_X0 (hts (.instantiable RX0 15) (by decide +kernel))
  obtain ⟨c4, iS4, hKn4⟩ := u_known (C := RX1) (T := TX1) (N := 10) (n := 10) hts it_X1 (hts (.instantiable RX1 10) (by decide +kernel))
  obtain ⟨c5, iS5, hKn5⟩ := u_known (C := RX2) (T := TX2) (N := 14) (n := 14) hts it_X2 (hts (.instantiable RX2 14) (by decide +kernel))
  obtain ⟨c6, iS6, hKn6⟩ := u_known (C := RX3) (T := TX3) (N := 13) (n := 13) hts it_X3 (hts (.instantiable RX3 13) (by decide +kernel))
  obtain ⟨c7, iS7, hKn7⟩ := u_known (C := RX4) (T := TX4) (N := 21) (n := 21) hts it_X4 (hts (.instantiable RX4 21) (by decide +kernel))
  obtain ⟨c8, iS8, hKn8⟩ := u_known (C := RX5) (T := TX5) (N := 21) (n := 21) hts it_X5 (hts (.instantiable RX5 21) (by decide +kernel))
  obtain ⟨c9, iS9, hKn9⟩ := u_known (C := RX6) (T := TX6) (N := 19) (n := 19) hts it_X6 (hts (.instantiable RX6 19) (by decide +kernel))
  obtain ⟨c10, iS10, hKn10⟩ := u_known (C := RX7) (T := TX7) (N := 21) (n := 21) hts it_X7 (hts (.instantiable RX7 21) (by decide +kernel))
  obtain ⟨c11, iS11, hKn11⟩ := u_known (C := RX8) (T := TX8) (N := 18) (n := 18) hts it_X8 (hts (.instantiable RX8 18) (by decide +kernel))
  obtain ⟨c12, iS12, hKn12⟩ := u_known (C := RX9) (T := TX9) (N := 12) (n := 12) hts it_X9 (hts (.instantiable RX9 12) (by decide +kernel))
  obtain ⟨c13, iS13, hKn13⟩ := u_known (C := RX10) (T := TX10) (N := 18) (n := 18) hts it_X10 (hts (.instantiable RX10 18) (by decide +kernel))
  obtain ⟨c14, iS14, hKn14⟩ := u_known (C := RX11) (T := TX11) (N := 18) (n := 18) hts it_X11 (hts (.instantiable RX11 18) (by decide +kernel))
  obtain ⟨c15, iS15, hKn15⟩ := u_known (C := RX12) (T := TX12) (N := 150) (n := 150) hts it_X12 (hts (.instantiable RX12 150) (by decide +kernel))
  obtain ⟨dC, dI, hKc⟩ : ∃ (dC : Nat → ClassId) (dI : Nat → Nat → Nat), ∀ (k : Nat) (q : vw_C), vwCl[k]? = some q → u_Kn s q.1 q.2.1 q.2.2 (dC k) (dI k) := by
    refine ⟨fun k => match k with | 0 => c0 | 1 => c1 | 2 => c2 | 3 => c3 | 4 => c4 | 5 => c5 | 6 => c6 | 7 => c7 | 8 => c8 | 9 => c9 | 10 => c10 | 11 => c11 | 12 => c12 | 13 => c13 | 14 => c14 | _ => c15, fun k => match k with | 0 => iS0 | 1 => iS1 | 2 => iS2 | 3 => iS3 | 4 => iS4 | 5 => iS5 | 6 => iS6 | 7 => iS7 | 8 => iS8 | 9 => iS9 | 10 => iS10 | 11 => iS11 | 12 => iS12 | 13 => iS13 | 14 => iS14 | _ => iS15, ?_⟩
    intro k q hq
    match k, hq with
    | 0, hq => cases hq; exact hKn0
    | 1, hq => cases hq; exact hKn1
    | 2, hq => cases hq; exact hKn2
    | 3, hq => cases hq; exact hKn3
    | 4, hq => cases hq; exact hKn4
    | 5, hq => cases hq; exact hKn5
    | 6, hq => cases hq; exact hKn6
    | 7, hq => cases hq; exact hKn7
    | 8, hq => cases hq; exact hKn8
    | 9, hq => cases hq; exact hKn9
    | 10, hq => cases hq; exact hKn10
    | 11, hq => cases hq; exact hKn11
    | 12, hq => cases hq; exact hKn12
    | 13, hq => cases hq; exact hKn13
    | 14, hq => cases hq; exact hKn14
    | 15, hq => cases hq; exact hKn15
    | k + 16, hq => simp at hq
  have hZ : Zz (fun q : Nat => s.heap.size ≤ q) s := ⟨vx_Zqof (hts (.laysStatic Bundle.tN "UNASSIGNED_STACK" Bundle.steD) (by decide +kernel)) (hts (.initialized Bundle.tN) (by decide +kernel)) (hfl (.isRef (.static Bundle.tN "UNASSIGNED_STACK" Bundle.steD)) (by decide +kernel)) hA0, vx_Zqof (hts (.laysStatic Bundle.tN "SUPPRESSED_SENTINEL" Bundle.listD) (by decide +kernel)) (hts (.initialized Bundle.tN) (by decide +kernel)) (hfl (.isRef (.static Bundle.tN "SUPPRESSED_SENTINEL" Bundle.listD)) (by decide +kernel)) hA0, fun E hE => va_Nw.of rfl (hts _ (st_ct E hE)), fun Y hY => va_Nw.of rfl (hts _ (st_dc Y hY))⟩
  have hY : Yy s := fun E hE G hG hn => va_Nc.of (hfl _ (st_nc E hE G hG hn))
  obtain ⟨adK, adV, hvS, hvR⟩ := vk_Sof (args := #[Value.ref b]) (s := s) (N := 3) (tm := tmS) (len := sLen) (byt := sByt) (A := fun q : Nat => s.heap.size ≤ q) (by decide) (fun i hi => hfl _ (st_ex i hi)) (fun i hi => hfl _ (st_co i hi)) (fun i hi => hfl _ (st_ar i hi)) (fun i hi => hfl _ (st_le i hi)) (fun i hi j hj => hfl _ (st_el i hi j hj)) (fun i j hi hj hn => (st_ne i hi j hj hn).elim (fun h => Or.inl (hfl _ h)) (fun h => Or.inr (hfl _ h))) hA0
  have hC : Kc adK adV (fun q : Nat => s.heap.size ≤ q) s := ⟨hvS, vk_R.of (hts (.stringRef RX9 31 "all own things thing where get and or not null true false is in count sum most least some each size kept depth length class slots held from it ") (by decide +kernel)) (hvR 0 (by decide)), vk_R.of (hts (.stringRef RX7 15 "if") (by decide +kernel)) (hvR 1 (by decide)), vk_R.of (hts (.stringRef RX7 27 "link") (by decide +kernel)) (hvR 2 (by decide)), va_Zof (hts (.laysStatic "java/lang/String" "COMPACT_STRINGS" "Z") (by decide +kernel)) (hts (.initialized "java/lang/String") (by decide +kernel)) (va_eqt (hfl (.eq (.static "java/lang/String" "COMPACT_STRINGS" "Z") (.int 1)) (by decide +kernel))) hA0, va_Zqof (hts (.laysStatic "jdk/internal/util/Preconditions" "SIOOBE_FORMATTER" "Ljava/util/function/BiFunction;") (by decide +kernel)) (hts (.initialized "jdk/internal/util/Preconditions") (by decide +kernel)) (hfl (.isRef (.static "jdk/internal/util/Preconditions" "SIOOBE_FORMATTER" "Ljava/util/function/BiFunction;")) (by decide +kernel)) hA0, va_AO.of (hts (.arrayOver (.object "HeapWorks$Picture")) (by decide +kernel)), va_AO.of (hts (.arrayOver (.object "HeapWorks$Program")) (by decide +kernel))⟩
  have hl := lv_entry ([.ref b]) (n := 8) (Nat.le_of_ble_eq_true rfl)
  rw [lg_entry_eq]
  generalize (lg_sl ([.ref b]) ++ List.replicate (8 - (lg_sl ([.ref b])).length) Slot.unset).toArray = ls at hl ⊢
  have hl : lv_has ls 8 [(0, .ref b)] := hl
  exact lw_go hL hst C0 (fun _ h => h) (fun _ h => h) hZ hY hC dC dI ⟨hKc, fun k q h => by simp at h⟩ P0 D0 va_S.rf ls hl
