theorem p_adv {Q : Int → MM → Prop} {C N : MM} {a e W q D : Int} (hn : C 1 1 = N 0 3) (t4 : C 1 1 ≤ 4000) (hb : ∀ i, 0 ≤ i → i < C 1 1 → C 2 i = N 1 i % 256) (hK : Rkey C N) (h78 : N 0 78 = a) (a0 : 0 ≤ a) (hs : scw C a e W q D) (hq : ∀ N', FA N N' → N' 0 78 = e → N' 0 79 = q → tk N' W D → Q 0 N') : w_X12_advance Q N := by
  obtain ⟨⟨s1, s2, s3, s4⟩, hc⟩ := hs
  generalize hs' : C 2 = s at *
  generalize hn' : C 1 1 = n at *
  have t3 : N 0 3 = n := hn.symm
  unfold w_X12_advance
  intro v1 e1 _
  rw [h78] at e1
  have key : ∀ c, (a < n → c = s a) → (n ≤ a → c = -1) → w_X12_advance_b9 Q c N := fun c c1 c2 => by
    unfold w_X12_advance_b9
    refine loop2 _ (fun (x : Int) M => ∃ b : Int, FA N M ∧ M 0 78 = b ∧ a ≤ b ∧ b ≤ q ∧ (b < n → x = s b) ∧ (n ≤ b → x = -1)) (fun _ M => (q - M 0 78).toNat) ?_ _ _ ⟨a, ⟨fun _ _ => rfl, fun _ _ => rfl⟩, h78, by omega, s1, c1, c2⟩
    rintro x M f ⟨b, hF, m78, b0, b1, x1, x2⟩ ih
    have m3 : M 0 3 = n := by rw [hF.2 3 (by decide), t3]
    have ms : ∀ i, 0 ≤ i → i < n → s i = M 1 i % 256 := fun i a c => by rw [hF.1 1 (by decide)]; exact hb i a c
    unfold wb_X12_advance_b9
    by_cases bq : b < q
    · have hB := s3 b b0 bq
      have x1' := x1 (by omega)
      have g : w_X12_advance_b33 Q f M := by
        unfold w_X12_advance_b33
        intro v1 e1 _
        rw [m78] at e1
        refine ⟨by unfold ri_; omega, fun M3 e3 v4 e4 _ => ?_⟩
        rw [e3, ux_s] at e4
        have F3 : FA N M3 := by rw [e3]; exact FA_u hF _ (by decide)
        have I3 : ∀ r, (b + 1 < n → r = s (b + 1)) → (n ≤ b + 1 → r = -1) → f r M3 := fun r r1 r2 => ih r M3 ⟨b + 1, F3, by rw [e3, ux_s, e1], by omega, by omega, r1, r2⟩ (by rw [e3, ux_s, m78]; omega)
        refine p_R_byteAt (n := n) (s := s) (by omega) (by rw [F3.2 3 (by decide), t3]) t4 (fun i a c => by rw [F3.1 1 (by decide)]; exact hb i a c) (fun y _ => I3 _ (fun w => by omega) (fun _ => rfl)) (fun y _ => I3 _ (fun _ => by rw [e4, e1]) (fun w => by omega))
      rw [← x1'] at hB
      unfold isB at hB
      exact ⟨fun _ => g, fun _ => ⟨fun _ => g, fun _ => ⟨fun _ => g, fun _ => ⟨fun y => by omega, fun _ => g⟩⟩⟩⟩
    · have bq' : b = q := by omega
      subst bq'
      have nB : ¬ isB x := fun w => by
        by_cases z : b < n
        · rw [x1 z] at w; exact s4 z w
        · rw [x2 (by omega)] at w; unfold isB at w; omega
      unfold isB at nB
      refine ⟨fun y => by omega, fun _ => ⟨fun y => by omega, fun _ => ⟨fun y => by omega, fun _ => ⟨fun _ v5 e5 _ M6 e6 M7 e7 => ?_, fun y => by omega⟩⟩⟩⟩
      rw [m78] at e5
      have F7 : FA N M7 := by rw [e7, e6]; exact FA_u (FA_u hF _ (by decide)) _ (by decide)
      have m7 : M7 0 78 = b := by rw [e7, e6, ux_i _ _ _ (by decide), ux_i _ _ _ (by decide), m78]
      have m79 : M7 0 79 = b := by rw [e7, e6, ux_i _ _ _ (by decide), ux_s, e5]
      have m85 : M7 0 85 = 0 := by rw [e7, ux_s]
      have k3 : ∀ N', FA N N' → N' 3 = N 3 := fun N' h => h.1 3 (by decide)
      refine ⟨fun y => ?_, fun y M22 e22 => ?_⟩
      · have bn : b < n := by
          by_cases z : b < n
          · exact z
          · exact absurd (x2 (by omega)) y
        have xb := x1 bn
        rcases hc with ⟨z1, _⟩ | ⟨z1, z2, z3, z4, z5⟩ | ⟨z1, z2, z3, z4, z5⟩ | ⟨z1, z2, z3, z4⟩
        · omega
        · refine p_R_let (fun w => absurd z2 (by rw [← xb]; exact notD_A w)) (fun w _ => ⟨fun _ => p_R_dig (fun w2 _ => ⟨fun y2 => absurd y2 (by decide), fun _ => ?_⟩) (fun w2 => absurd (by rw [xb]; exact z2) w2), fun y2 => absurd rfl y2⟩)
          refine p_R205 t4 t3 hb (by omega) z3 F7 m7 m79 m85 fun N' f1 f2 f3 f4 f5 => hq N' f1 f2 f3 ?_
          by_cases w18 : 18 < e - b
          · rw [if_pos w18] at z4
            rw [if_neg (by omega)] at f4
            exact Or.inr (Or.inl ⟨z4, f4⟩)
          · rw [if_neg w18] at z4
            rw [if_pos (by omega)] at f4
            exact Or.inr (Or.inr (Or.inr (Or.inl ⟨z4, f4, by rw [f5 (by omega), z5]⟩)))
        · refine p_R_let (fun w _ => ⟨fun y2 => absurd y2 (by decide), fun _ => ?_⟩) (fun w => absurd (by rw [xb]; exact z2) w)
          refine p_R88 t4 t3 hb (by omega) z3 F7 m7 m79 m85 fun N' f1 f2 f3 f4 f5 => hq N' f1 f2 f3 ?_
          rcases z4 with ⟨w10, zW⟩ | ⟨w10, zW⟩
          · rw [if_neg (by omega)] at f4
            exact Or.inr (Or.inl ⟨zW, f4⟩)
          · rw [if_pos (by omega)] at f4
            have hnr : nr (fr f64 s b 0 (e - b).toNat) (fr f63 s b 0 (e - b).toNat) := ⟨fun i => s (b + i), (e - b).toNat, by omega, fun i i0 i1 => z3.2.2.1 (b + i) (by omega) (by omega), fr_sh _ _ _ _ _, fr_sh _ _ _ _ _⟩
            have f5' := f5 (by omega)
            unfold kw at zW
            rcases zW with ⟨w2, wn⟩ | ⟨k, k0, k1, kW, kk, -⟩
            · refine Or.inr (Or.inr (Or.inl ⟨w2, f4, by rw [f5', z5]; exact hnr, fun j j0 j1 => ?_⟩))
              rw [k3 N' f1, f5']
              exact (key_none hK hnr).mp wn j j0 j1
            · refine Or.inr (Or.inr (Or.inr (Or.inr (Or.inr (Or.inr (Or.inr (Or.inr ⟨k, k0, k1, kW, f4, ?_⟩)))))))
              rw [k3 N' f1, f5']
              exact ((nr_eq (hK k k0 k1) hnr).mp kk).symm
        · have nA : ¬ isA x := fun w => z2 (by rw [← xb]; exact Or.inl w)
          have nD : ¬ isD x := fun w => z2 (by rw [← xb]; exact Or.inr w)
          have m73 : M7 0 3 = n := by rw [F7.2 3 (by decide), t3]
          have m7s : ∀ i, 0 ≤ i → i < n → s i = M7 1 i % 256 := fun i a c => by rw [F7.1 1 (by decide)]; exact hb i a c
          have sb := ms b (by omega) bn
          unfold sgn at z3
          refine p_R_let (fun w => absurd w nA) (fun _ _ => ⟨fun _ => p_R_dig (fun w => absurd w nD) (fun _ _ => ⟨fun _ v15 e15 _ => ?_, fun y2 => absurd rfl y2⟩), fun y2 => absurd rfl y2⟩)
          rw [m7] at e15
          refine ⟨by unfold ri_; omega, ?_⟩
          -- one sign
          have one : ∀ d, ¬ (b + 1 < n ∧ s (b + 1) = 61 ∧ (s b = 33 ∨ s b = 60 ∨ s b = 62)) → e = b + 1 → sg0 (s b) W → w_X12_advance_b341 Q x d M7 := fun d _ ee hg => by
            unfold w_X12_advance_b341
            refine p_342 (fun j j1 j2 => ?_) (fun hj => ?_)
            · unfold w_X12_advance_b444 w_X12_advance_b456
              refine ⟨fun y => absurd rfl y, fun _ => ⟨fun y => absurd y (by decide), fun _ => p_461 F7 m7 m79 (by omega) (by omega) fun N' f1 f2 f3 f4 f5 => hq N' f1 (by rw [f2, if_pos rfl, ee]) f3 ?_⟩⟩
              rw [if_pos rfl] at f5
              unfold sg0 at hg
              rcases hg with ⟨-, g2⟩ | ⟨i, i0, i1, iW, ib⟩
              · exact absurd (by rw [Int.toNat_natCast, j2, xb]) (g2 j (by omega) (by omega))
              · exact Or.inr (Or.inr (Or.inr (Or.inr (Or.inl ⟨i, i0, i1, iW, f4, by rw [f5, xb, ib]⟩))))
            · unfold w_X12_advance_b444
              refine ⟨fun y => absurd rfl y, fun _ => ⟨fun _ => p_461 F7 m7 m79 (by omega) (by omega) fun N' f1 f2 f3 f4 f5 => hq N' f1 (by rw [f2, if_pos rfl, ee]) f3 ?_, fun y => absurd rfl y⟩⟩
              unfold sg0 at hg
              rcases hg with ⟨gW, -⟩ | ⟨i, i0, i1, iW, ib⟩
              · exact Or.inr (Or.inl ⟨gW, f4⟩)
              · exact absurd (by rw [ib, xb]) (hj i.toNat (by omega))
          -- two
          have two : ∀ d, d = 61 → b + 1 < n → s (b + 1) = 61 → ((s b = 33 ∧ W = 20) ∨ (s b = 60 ∧ W = 21) ∨ (s b = 62 ∧ W = 22)) → e = b + 2 → w_X12_advance_b342 Q x d 1 M7 := fun d dd _ _ hW ee => by
            have fin : ∀ u, w_X12_advance_b444 Q x d 1 u M7 := fun u => by
              unfold w_X12_advance_b444 w_X12_advance_b456
              refine ⟨fun _ => p_461 F7 m7 m79 (by omega) (by omega) fun N' f1 f2 f3 f4 f5 => hq N' f1 (by rw [f2, if_neg (by decide), ee]) f3 ?_, fun y => absurd y (by decide)⟩
              rw [if_neg (by decide), dd, xb] at f5
              rcases hW with ⟨g1, g2⟩ | ⟨g1, g2⟩ | ⟨g1, g2⟩
              · rw [g1] at f5
                exact Or.inr (Or.inr (Or.inr (Or.inr (Or.inr (Or.inl ⟨g2, f4, by rw [f5]; decide⟩)))))
              · rw [g1] at f5
                exact Or.inr (Or.inr (Or.inr (Or.inr (Or.inr (Or.inr (Or.inl ⟨g2, f4, by rw [f5]; decide⟩))))))
              · rw [g1] at f5
                exact Or.inr (Or.inr (Or.inr (Or.inr (Or.inr (Or.inr (Or.inr (Or.inl ⟨g2, f4, by rw [f5]; decide⟩)))))))
            exact p_342 (fun _ _ _ => fin 1) (fun _ => fin 0)
          have done : ∀ d, (b + 1 < n → d = s (b + 1)) → (n ≤ b + 1 → d = -1) → (x = 33 → w_X12_advance_b331 Q x d M7) ∧ (¬ x = 33 → (x = 60 → w_X12_advance_b331 Q x d M7) ∧ (¬ x = 60 → (¬ x = 62 → w_X12_advance_b341 Q x d M7) ∧ (x = 62 → w_X12_advance_b331 Q x d M7))) := fun d d1 d2 => by
            have g331 : (x = 33 ∨ x = 60 ∨ x = 62) → w_X12_advance_b331 Q x d M7 := fun hx => by
              unfold w_X12_advance_b331
              rcases z3 with ⟨u1, u2, u3, u4⟩ | ⟨u1, u2, u3⟩
              · exact ⟨fun w => absurd (by rw [d1 u1, u2]) w, fun w => two d w u1 u2 u3 u4⟩
              · refine ⟨fun _ => one d u1 u2 u3, fun w => absurd ?_ u1⟩
                have bn1 : b + 1 < n := by
                  by_cases z : b + 1 < n
                  · exact z
                  · have := d2 (by omega); omega
                exact ⟨bn1, by rw [← d1 bn1]; exact w, by rw [← xb]; exact hx⟩
            refine ⟨fun w => g331 (Or.inl w), fun w1 => ⟨fun w => g331 (Or.inr (Or.inl w)), fun w2 => ⟨fun w3 => ?_, fun w => g331 (Or.inr (Or.inr w))⟩⟩⟩
            rcases z3 with ⟨u1, u2, u3, u4⟩ | ⟨u1, u2, u3⟩
            · rw [← xb] at u3; omega
            · exact one d u1 u2 u3
          exact p_R_byteAt (by omega) m73 t4 m7s (fun y _ => done _ (fun w => by omega) (fun _ => rfl)) (fun y _ => done _ (fun _ => by rw [e15]) (fun w => by omega))
      · rcases hc with ⟨z1, z2, z3, z4⟩ | ⟨z1, z2, _⟩ | ⟨z1, z2, _⟩ | ⟨z1, z2, _⟩
        · refine hq M22 (by rw [e22]; exact FA_u F7 _ (by decide)) (by rw [e22, ux_i _ _ _ (by decide), m7]; omega) (by rw [e22, ux_i _ _ _ (by decide), m79]) (Or.inl ⟨z3, by rw [e22, ux_s]⟩)
        · have := ms b (by omega) z1; have := x1 z1; omega
        · have := ms b (by omega) z1; have := x1 z1; omega
        · have := ms b (by omega) z1; have := x1 z1; omega
  exact p_R_byteAt (n := n) (s := s) (by omega) t3 t4 hb (fun y _ => key _ (fun w => by omega) (fun _ => rfl)) (fun y _ => key _ (fun _ => by rw [e1]) (fun w => by omega))
