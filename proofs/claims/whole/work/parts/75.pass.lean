section PASSM
theorem i_lt_tr {a b c : Int32} (h : a < b) (h2 : b < c) : a < c := Int32.lt_trans h h2
theorem i_le_tr {a b c : Int32} (h : a ≤ b) (h2 : b ≤ c) : a ≤ c := Int32.le_trans h h2
def w47 (a _j : Nat) : Prop := a = 47
theorem plc_l {N : Nat} {m : Nat} {sg : Nat → Nat} {k : St → Int32 → Option St} (hm : m < 60) (hs : ∀ i, i < m → sg i < m) : ∀ (s : Nat) (S : St) (fuel : Nat), s ≤ m → s + 1 ≤ fuel → (∀ i, i < s → gv S 47 i = nI (sg i)) → ∃ s' S', s' ≤ s ∧ f_X7_placeByDay_l2 N (nI m) k fuel S (nI s) = k S' (nI s') ∧ Kp w47 S S' ∧ (∀ i, i < s' → gv S' 47 i = nI (sg i)) ∧ (∀ i, s' < i → i ≤ s → gv S' 47 i = nI (sg (i - 1))) ∧ (∀ i, s < i → gv S' 47 i = gv S 47 i) ∧ (∀ i, s' ≤ i → i < s → gv S 44 m < gv S 44 (sg i)) ∧ (s' = 0 ∨ gv S 44 (sg (s' - 1)) ≤ gv S 44 m) := by
  intro s
  induction s with
  | zero =>
    intro S fuel h1 h2 h3
    obtain ⟨fuel, rfl⟩ : ∃ q, fuel = q + 1 := ⟨fuel - 1, by omega⟩
    refine ⟨0, S, by omega, ?_, Kp.rf, h3, fun i h1 h2 => by omega, fun i _ => rfl, fun i h1 h2 => by omega, Or.inl rfl⟩
    unfold f_X7_placeByDay_l2
    rw [if_pos (by decide)]
  | succ s ih =>
    intro S fuel h1 h2 h3
    obtain ⟨fuel, rfl⟩ : ∃ q, fuel = q + 1 := ⟨fuel - 1, by omega⟩
    have hsg := hs s (by omega)
    unfold f_X7_placeByDay_l2
    simp only [bn, cl0, cl1, oc, gv_sv, gv_sr, gr_sv, gv_sl, gr_sl, gl_sv, gl_sl, or_self, or_false, false_or, if_false, if_true, reduceIte, show ¬ nI (s + 1) ≤ 0 from nle_n (b := 0) (by omega) (by omega), nl_sub1, nn (show s < 2147483648 by omega), ix_nI (show s < 2147483648 by omega), inG (show s < 60 by omega), h3 s (by omega), nn (show sg s < 2147483648 by omega), ix_nI (show sg s < 2147483648 by omega), inG (show sg s < 60 by omega), nn (show m < 2147483648 by omega), ix_nI (show m < 2147483648 by omega), inG (show m < 60 by omega), nn (show s + 1 < 2147483648 by omega), ix_nI (show s + 1 < 2147483648 by omega), inG (show s + 1 < 60 by omega), nl_m1]
    by_cases c : gv S 44 (sg s) ≤ gv S 44 m
    · refine ⟨s + 1, S, by omega, by rw [if_pos c], Kp.rf, h3, fun i h1 h2 => by omega, fun i _ => rfl, fun i h1 h2 => by omega, Or.inr (by simpa using c)⟩
    · rw [if_neg c]
      obtain ⟨s', S', e1, e2, e3, e4, e5, e6, e7, e8⟩ := ih (sv S 47 (s + 1) (nI (sg s))) fuel (by omega) (by omega) (fun i hi => by rw [gv_nk (by omega)]; exact h3 i (by omega))
      refine ⟨s', S', by omega, e2, (Kp.sv (w := w47) Kp.rf (show w47 47 (s + 1) from rfl)).tr e3, e4, fun i h1 h2 => ?_, fun i hi => ?_, fun i h1 h2 => ?_, ?_⟩
      · by_cases ci : i ≤ s
        · exact e5 i h1 ci
        · have : i = s + 1 := by omega
          subst this
          rw [e6 (s + 1) (by omega), gv_at]
          rfl
      · rw [e6 i (by omega), gv_nk (by omega)]
      · by_cases ci : i < s
        · have := e7 i h1 ci
          rw [gv_ne (by omega), gv_ne (by omega)] at this
          exact this
        · have : i = s := by omega
          subst this
          exact i_nle.mp c
      · rw [gv_ne (by omega), gv_ne (by omega)] at e8
        exact e8
theorem stp_17 {N : Nat} (hN : 1000 ≤ N) : Stp_17 N Inv := by
  intro L S a b c d hi
  obtain ⟨n, st, hL, hv⟩ := id hi
  obtain ⟨hn, hr, ⟨dd, d1, d2, d3⟩, hLet, hFlt, ⟨nb, b1, b2, b3, b4⟩, hRoad, ⟨m, a1, a2, a3, ⟨dy, a4⟩, ⟨sg, s1, s2, s3⟩⟩, _⟩ := id hv
  unfold f_X10_pass f_X11_pass f_X7_add f_X7_isHand f_X11_isHand
  rw [within_eq, within_eq, within_eq, d2]
  rcases bil_has b1 b2 b3 a with ⟨e1, e2⟩ | ⟨bi, hbi, ebi, e1, e2⟩
  · refine ⟨-1, S, S, by simp [bn, cl0, cl1, oc, e1], ?_, hi⟩
    by_cases c6 : gv S 200 55 = 60 <;> simp [bn, cl0, cl1, oc, e2, c6]
  · by_cases bad : (d < 0 ∨ nI dd < d) ∨ (b < 0 ∨ 9 < b) ∨ (c < 0 ∨ 9 < c) ∨ b = c ∨ m = 60
    · refine ⟨-1, S, S, ?_, ?_, hi⟩
      · simp only [bn, cl0, cl1, oc, e1]
        rcases bad with bad | bad | bad | bad | bad
        · simp [bad]
        · by_cases c1 : d < 0 ∨ nI dd < d <;> simp [bad, c1]
        · by_cases c1 : d < 0 ∨ nI dd < d <;> by_cases c2 : b < 0 ∨ 9 < b <;> simp [bad, c1, c2]
        · by_cases c1 : d < 0 ∨ nI dd < d <;> by_cases c2 : b < 0 ∨ 9 < b <;> by_cases c3 : c < 0 ∨ 9 < c <;> simp [bad, c1, c2, c3]
        · have q : ¬ nI 60 < 60 := by decide
          by_cases c1 : d < 0 ∨ nI dd < d
          · simp [c1]
          by_cases c2 : b < 0 ∨ 9 < b
          · simp [c1, c2]
          by_cases c3 : c < 0 ∨ 9 < c
          · simp [c1, c2, c3]
          by_cases c4 : b = c <;> simp [bad, c1, c2, c3, c4, a2, q]
      · simp only [bn, cl0, cl1, oc, a3, e2, d3]
        by_cases k0 : nI m = 60
        · simp [k0]
        by_cases k1 : b < 0
        · simp [k1]
        by_cases k2 : 9 < b
        · simp [k1, k2]
        by_cases k3 : c < 0
        · simp [k1, k2, k3]
        by_cases k4 : 9 < c
        · simp [k1, k2, k3, k4]
        by_cases k5 : b = c
        · simp [k1, k2, k3, k4, k5]
        by_cases k6 : d < 0
        · simp [k1, k2, k3, k4, k5, k6]
        have k7 : ¬ d ≤ nI dd := by
          rcases bad with bad | bad | bad | bad | bad
          · exact i_nle.mpr (bad.resolve_left k6)
          · exact absurd bad (by simp only [k1, k2]; simp)
          · exact absurd bad (by simp only [k3, k4]; simp)
          · exact absurd bad k5
          · exact absurd (by rw [bad]; rfl) k0
        simp [k0, k1, k2, k3, k4, k5, k6, k7]
    · have c1 : ¬ (d < 0 ∨ nI dd < d) := fun h => bad (Or.inl h)
      have c2 : ¬ (b < 0 ∨ 9 < b) := fun h => bad (Or.inr (Or.inl h))
      have c3 : ¬ (c < 0 ∨ 9 < c) := fun h => bad (Or.inr (Or.inr (Or.inl h)))
      have c4 : ¬ b = c := fun h => bad (Or.inr (Or.inr (Or.inr (Or.inl h))))
      have c5 : m < 60 := by
        have : ¬ m = 60 := fun h => bad (Or.inr (Or.inr (Or.inr (Or.inr h))))
        omega
      have k1 : ¬ b < 0 := fun h => c2 (Or.inl h)
      have k2 : ¬ 9 < b := fun h => c2 (Or.inr h)
      have k3 : ¬ c < 0 := fun h => c3 (Or.inl h)
      have k4 : ¬ 9 < c := fun h => c3 (Or.inr h)
      have k6 : ¬ d < 0 := fun h => c1 (Or.inl h)
      have k7 : d ≤ nI dd := i_nlt.mp fun h => c1 (Or.inr h)
      obtain ⟨dn, dn1, dn2⟩ := i_in (by omega) k6 k7
      have n1 := nn (show m < 2147483648 by omega)
      have n2 := ix_nI (show m < 2147483648 by omega)
      have n3 := inG (show m < 60 by omega)
      have n4 : nI m < 60 := lt_n (b := 60) c5 (by omega)
      have n5 : ¬ nI m = 60 := ne_n (b := 60) (by omega) (by omega) (by omega)
      obtain ⟨s', S', p1, p2, p3, p4, p5, p6, p7, p8⟩ := plc_l (N := N) (k := (fun S_10 x_11 => if x_11 < 0 ∨ 60 ≤ ix x_11 then none else bn (sv S_10 47 (ix x_11) (nI m)) fun S_13 => some S_13)) c5 (fun i hi => (s1 i hi).1) m (sv (sv (sv (sv (sv (sv S 41 m a) 42 m b) 43 m c) 44 m d) 45 m (nI dd)) 46 m (-1)) N (by omega) (by omega) (fun i hi => by simp [gv_sv]; exact (s1 i hi).2)
      simp only [bn] at p2
      have x1 := nn (show s' < 2147483648 by omega)
      have x2 := ix_nI (show s' < 2147483648 by omega)
      have x3 := inG (show s' < 60 by omega)
      have kC : Kp rPas S S' := (((((((Kp.rf.sv (by unfold rPas; omega)).sv (by unfold rPas; omega)).sv (by unfold rPas; omega)).sv (by unfold rPas; omega)).sv (by unfold rPas; omega)).sv (by unfold rPas; omega))).tr (p3.mo (fun a j h => by unfold w47 at h; unfold rPas; omega))
      have g1 : gv S' 4 0 = nI m := by rw [p3.1 _ _ (by unfold w47; omega)]; simp [gv_sv, a2]
      have g2 : gv S' 200 55 = nI m := by rw [p3.1 _ _ (by unfold w47; omega)]; simp [gv_sv, a3]
      have g3 : ∀ A, 257 ≤ A → ∀ j, gv S' A j = gv S A j := by
        intro A hA j
        rw [p3.1 _ _ (by unfold w47; omega)]
        simp [gv_sv, show ¬ A = 41 by omega, show ¬ A = 42 by omega, show ¬ A = 43 by omega, show ¬ A = 44 by omega, show ¬ A = 45 by omega, show ¬ A = 46 by omega]
      have e3 : f_X11_isBill (sv (sv S' 47 s' (nI m)) 4 0 (nI (m + 1))) a = some 1 := by
        rw [← e2]; unfold f_X11_isBill
        simp only [gv_sv]; simp
        rw [show gv S' 200 54 = gv S 200 54 from kC.1 _ _ (by unfold rPas; omega)]
      have g4 : gv (sv (sv S' 47 s' (nI m)) 4 0 (nI (m + 1))) 200 55 = nI m := by simp [gv_sv, g2]
      have g5 : gv (sv (sv S' 47 s' (nI m)) 4 0 (nI (m + 1))) 200 0 = nI dd := by
        simp [gv_sv]; rw [show gv S' 200 0 = gv S 200 0 from kC.1 _ _ (by unfold rPas; omega)]; exact d3
      refine ⟨nI m, sv (sv S' 47 s' (nI m)) 4 0 (nI (m + 1)), sv (sv (sv (sv (sv (sv (sv (sv (sv S' 47 s' (nI m)) 4 0 (nI (m + 1))) 262 m a) 263 m b) 264 m c) 265 m d) 266 m (nI dd)) 267 m (-1)) 200 55 (nI (m + 1)), ?_, ?_, n, st, hL, hv.pas ?_ ?_⟩
      · simp only [bn, cl0, cl1, oc, gv_sv, gv_sr, gr_sv, gv_sl, gr_sl, gl_sv, gl_sl, or_self, or_false, false_or, if_false, if_true, reduceIte, e1, c1, c2, c3, c4, a2, n1, n2, n3, n4, f_X7_placeByDay, show ((1 : Int32) = 0) = False from by decide]
        simp only [show ((4 : Nat) = 41) = False from by decide, show ((4 : Nat) = 42) = False from by decide, show ((4 : Nat) = 43) = False from by decide, show ((4 : Nat) = 44) = False from by decide, show ((4 : Nat) = 45) = False from by decide, show ((4 : Nat) = 46) = False from by decide, show ((4 : Nat) = 47) = False from by decide, false_and, if_false, a2, n1, n2, n3, or_self, p2, x1, x2, x3, g1, nl_add1, and_self, if_true, nl_sub1]
        simp [gv_sv, g1, nl_add1, nl_sub1]
      · simp only [g4, g5, e3, bn, cl0, cl1, oc, gv_sv, gv_sr, gr_sv, gv_sl, gr_sl, gl_sv, gl_sl, or_self, or_false, false_or, if_false, if_true, reduceIte, n5, k1, k2, k3, k4, c4, k6, k7, show ((1 : Int32) = 0) = False from by decide, n1, n2, n3]
        simp [g2, n1, n2, n3, nl_add1, nl_sub1, show ¬ 60 ≤ m by omega]
      · exact (((((((((kC.sv (by unfold rPas; omega)).sv (by unfold rPas; omega)).sv (by unfold rPas; omega)).sv (by unfold rPas; omega)).sv (by unfold rPas; omega)).sv (by unfold rPas; omega)).sv (by unfold rPas; omega)).sv (by unfold rPas; omega))).sv (by unfold rPas; omega)
      · have hC : ∀ A j, A = 41 ∨ A = 42 ∨ A = 43 ∨ A = 44 ∨ A = 45 ∨ A = 46 → j ≠ m → gv S' A j = gv S A j := by
          intro A j hA hj
          rw [p3.1 _ _ (by unfold w47; omega)]
          simp [gv_sv, hj]
        have hM : gv S' 41 m = a ∧ gv S' 42 m = b ∧ gv S' 43 m = c ∧ gv S' 44 m = d ∧ gv S' 45 m = nI dd ∧ gv S' 46 m = -1 := by
          refine ⟨?_, ?_, ?_, ?_, ?_, ?_⟩ <;> (rw [p3.1 _ _ (by unfold w47; omega)]; simp [gv_sv])
        have p7' : ∀ i, s' ≤ i → i < m → d < gv S 44 (sg i) := by
          intro i h1 h2
          have := p7 i h1 h2
          have hsi := (s1 i h2).1
          simp [gv_sv, show ¬ sg i = m by omega] at this
          exact this
        have p8' : s' = 0 ∨ gv S 44 (sg (s' - 1)) ≤ d := by
          rcases p8 with p8 | p8
          · exact Or.inl p8
          · by_cases h0 : s' = 0
            · exact Or.inl h0
            · have hsi := (s1 (s' - 1) (by omega)).1
              simp [gv_sv, show ¬ sg (s' - 1) = m by omega] at p8
              exact Or.inr p8
        refine ⟨m + 1, by omega, by simp [gv_sv], by simp [gv_sv], ⟨fun i => if i = m then dn else dy i, fun i hi => ?_⟩, ⟨fun i => if i < s' then sg i else if i = s' then m else sg (i - 1), fun i hi => ?_, fun p hp => ?_, fun i j h1 h2 => ?_⟩⟩
        · by_cases him : i = m
          · subst him
            obtain ⟨m1, m2, m3, m4, m5, m6⟩ := hM
            simp [gv_sv, m1, m2, m3, m4, m5, m6, dn2]
            omega
          · obtain ⟨g1, g2, g3', g4, g5, g6, g7, g8, g9⟩ := a4 i (by omega)
            simp [gv_sv, him]
            rw [hC 41 i (by omega) him, hC 42 i (by omega) him, hC 43 i (by omega) him, hC 44 i (by omega) him, hC 45 i (by omega) him, hC 46 i (by omega) him, g3 262 (by omega), g3 263 (by omega), g3 264 (by omega), g3 265 (by omega), g3 266 (by omega), g3 267 (by omega)]
            exact ⟨g1, g2, g3', g4, g5, g6, g7, g8, g9⟩
        · by_cases i1 : i < s'
          · have := s1 i (by omega)
            simp only [i1, if_true]
            refine ⟨by omega, ?_⟩
            simp [gv_sv, show ¬ i = s' by omega]
            exact p4 i i1
          · by_cases i2 : i = s'
            · simp only [i2, if_true, Nat.lt_irrefl, if_false]
              refine ⟨by omega, ?_⟩
              simp [gv_sv]
            · have := s1 (i - 1) (by omega)
              simp only [i1, i2, if_false]
              refine ⟨by omega, ?_⟩
              simp [gv_sv, i2]
              exact p5 i (by omega) (by omega)
        · by_cases hpm : p = m
          · exact ⟨s', by omega, by simp [hpm]⟩
          · obtain ⟨i, i1, i2⟩ := s2 p (by omega)
            by_cases his : i < s'
            · exact ⟨i, by omega, by simp only [his, if_true]; exact i2⟩
            · refine ⟨i + 1, by omega, ?_⟩
              simp only [show ¬ i + 1 < s' by omega, show ¬ i + 1 = s' by omega, if_false]
              exact i2
        · have hD : ∀ q, q < m → gv S 44 q = gv S 265 q := fun q hq => (a4 q hq).2.2.2.1
          have r1 : ∀ q, q < m → gv (sv (sv (sv (sv (sv (sv (sv (sv (sv S' 47 s' (nI m)) 4 0 (nI (m + 1))) 262 m a) 263 m b) 264 m c) 265 m d) 266 m (nI dd)) 267 m (-1)) 200 55 (nI (m + 1))) 265 q = gv S 265 q := by
            intro q hq
            simp [gv_sv, show ¬ q = m by omega]
            exact g3 265 (by omega) q
          have r2 : gv (sv (sv (sv (sv (sv (sv (sv (sv (sv S' 47 s' (nI m)) 4 0 (nI (m + 1))) 262 m a) 263 m b) 264 m c) 265 m d) 266 m (nI dd)) 267 m (-1)) 200 55 (nI (m + 1))) 265 m = d := by simp [gv_sv]
          generalize sv (sv (sv (sv (sv (sv (sv (sv (sv S' 47 s' (nI m)) 4 0 (nI (m + 1))) 262 m a) 263 m b) 264 m c) 265 m d) 266 m (nI dd)) 267 m (-1)) 200 55 (nI (m + 1)) = Z at r1 r2 ⊢
          by_cases j1 : j < s'
          · have i1 : i < s' := by omega
            have q1 := (s1 i (by omega)).1
            have q2 := (s1 j (by omega)).1
            simp only [i1, j1, if_true]
            rw [r1 _ q1, r1 _ q2]
            exact s3 i j h1 (by omega)
          · by_cases j2 : j = s'
            · have i1 : i < s' := by omega
              have q1 := (s1 i (by omega)).1
              simp only [i1, j1, j2, if_true, if_false, Nat.lt_irrefl]
              rw [r1 _ q1, r2]
              have hle : gv S 265 (sg i) ≤ d := by
                rcases p8' with h0 | h0
                · omega
                · rw [hD _ (s1 (s' - 1) (by omega)).1] at h0
                  by_cases hi' : i = s' - 1
                  · rw [hi']; exact h0
                  · rcases s3 i (s' - 1) (by omega) (by omega) with h | h
                    · exact i_le_tr (Int32.le_of_lt h) h0
                    · rw [h.1]; exact h0
              by_cases heq : gv S 265 (sg i) = d
              · exact Or.inr ⟨heq, q1⟩
              · exact Or.inl (Int32.lt_of_le_of_ne hle heq)
            · have q2 := (s1 (j - 1) (by omega)).1
              simp only [j1, j2, if_false]
              by_cases i1 : i < s'
              · have q1 := (s1 i (by omega)).1
                simp only [i1, if_true]
                rw [r1 _ q1, r1 _ q2]
                exact s3 i (j - 1) (by omega) (by omega)
              · by_cases i2 : i = s'
                · simp only [i2, if_true, if_false, Nat.lt_irrefl]
                  rw [r2, r1 _ q2]
                  left
                  have := p7' (j - 1) (by omega) (by omega)
                  rw [hD _ q2] at this
                  exact this
                · have q1 := (s1 (i - 1) (by omega)).1
                  simp only [i1, i2, if_false]
                  rw [r1 _ q1, r1 _ q2]
                  exact s3 (i - 1) (j - 1) (by omega) (by omega)
end PASSM
