section GRAM
section
variable {N n o : Nat} {L : List Nat} {b : Nat → Nat} {rE rO : St → Int32 → Option (Int32 × St)} {p1 : Nat} {W : List Nat}
theorem mu_le {n tk nx p : Nat} (hn : n ≤ 500) (h3 : tk ≠ 27 → p < nx) (h4 : tk = 27 → p = n ∧ nx = n) : mu n tk nx ≤ 500 := by
  unfold mu
  by_cases c : tk = 27
  · rw [if_pos c]; omega
  · rw [if_neg c]
    have := h3 c
    omega
theorem term_g {m : Nat} (hN : 1000 ≤ N) (hb : ∀ i, b i < 256) (hn : n ≤ 500) (ho : oko L o) (hE : Good N n o b (fun S => rE S (nI (p1 + 1))) 0 (W ++ [48]) (fun _ => True) ExE) (hm : m = 0 ∨ m = 1) (hd : m = 0 → deep W < 8) (hW : W.length < 200) : Good N n o b (fun S => f_X6_readTerm L N rE rO S (nI p1)) m W (fun tk => m = 0 → tk ≠ 7) ExT := by
  intro S T tk p nx v ops fuel C K hG hpre hfu
  obtain ⟨hS, hT, ⟨l0, l1, l5, l2, l43, l40, hs⟩, hPC, hF, b1, b2, b3, b4, b5, b6, b7, b8⟩ := id hG
  obtain ⟨s1, s2, s0, s3, s59, s60, s62, s61, s43, s45, s40, s41, t28⟩ := srt hs
  obtain ⟨fuel, rfl⟩ : ∃ q, fuel = q + 1 := ⟨fuel - 1, by omega⟩
  dsimp only
  unfold f_X6_readTerm
  rw [l0]
  by_cases c : tk = 23
  · rw [if_pos (show nI tk = 23 by rw [c]; rfl), nl_add1]
    obtain ⟨T1, x1, x2, x3⟩ := hold_n (c := 48) hF (by omega) (by omega)
    obtain ⟨tk2, p2, nx2, v2, S2, T2, z1, z2, z3, z4, z5, z6⟩ := adv2 hN hb hn ho hG (by omega) (by omega) x2 x3 (by simp; omega) (fun q hq => by
      rcases List.mem_append.mp hq with h | h
      · exact b8 q h
      · rw [List.mem_singleton.mp h]; omega)
    have lp : f_X11_readE_l12 N K (fuel + 1) T (nI m) = f_X11_readE_l12 N K fuel T2 (nI 0) := by
      rw [loopO hF.2.2.2.1 hm, opr_w hs, opr_d hm hF hd, if_neg (by omega)]
      unfold f_X11_operand_j50
      rw [if_pos rfl, if_pos (s40.mpr c), show f_X11_hold T 48 = some T1 from x1, cl0s, z2, cl0s, cl1s]
      rfl
    have kS2 : Kp (wPc o) S S2 := z5.mo (fun a j h => Or.inr (Or.inr (Or.inr h)))
    obtain ⟨r, S3, y1, y2, y3⟩ := hE S2 T2 tk2 p2 nx2 v2 ops fuel C K z3 trivial (by omega)
    dsimp only at y1
    rw [z1, cl0s, y1, cl1s]
    rcases y3 with ⟨r1, T3, X, P, R3, tk3, p3, nx3, v3, ops3, fuel3, w1, w2, w3, w4, w5, w6, w7, w8⟩ | ⟨r0, T3, w1, w2, w3⟩
    · rw [r1, if_neg (by decide)]
      obtain ⟨e1, e2, e3, e4, e5, e6, e7⟩ := w5
      have hlen : ((W ++ [48]) ++ P).length < 300 := by simp; omega
      unfold f_X6_take
      rw [w2.2.2.1.1]
      by_cases c4 : tk3 = 24
      · obtain ⟨S4, T4, tk4, p4, nx4, v4, u1, u2, u3, u4, u5, u6⟩ := close_n hN hb hn ho w2 w3 e1 hlen c4
        obtain ⟨fuel3, rfl⟩ : ∃ q, fuel3 = q + 1 := ⟨fuel3 - 1, by omega⟩
        rw [if_pos (show nI tk3 = 24 by rw [c4]; rfl), u1, cl0s, cl1s, if_neg (by decide)]
        refine ⟨1, S4, rfl, (kS2.tr y2).tr (u5.mo (fun a j h => Or.inr (Or.inr (Or.inr h)))), Or.inl ⟨rfl, T4, X, [], C ++ X, tk4, p4, nx4, v4, ops3, fuel3, ?_, ?_, ?_, w4, rfl, by omega, by omega, (z6.tr w8).tr u6⟩⟩
        · rw [lp, w1, u2]
        · rw [List.append_nil]; exact u3
        · rw [pend_nil, List.append_nil]
      · have h27 := (srt w2.2.2.1.2.2.2.2.2.2).2.2.2.2.2.2.2.2.2.2.2.2
        obtain ⟨S4, u1, u2, u3, u4⟩ := refuse_c (o := o) w2.2.2.1.1 w2.2.2.1.2.1 h27
        obtain ⟨T4, q1, q2, q3, q4⟩ := bad_n hN hn w2 ⟨e3, e4, e6, e5⟩ (fun h => absurd h c4) (fun _ => by simp) (fun h => by
          obtain ⟨P0, cq, Pl, f1, f2⟩ := e7 h
          exact ⟨W ++ [48] ++ P0, cq, Pl, by rw [f1]; simp, f2⟩) hlen
        obtain ⟨fuel3, rfl⟩ : ∃ q, fuel3 = q + 2 := ⟨fuel3 - 2, by omega⟩
        rw [if_neg (show ¬ nI tk3 = 24 from ne_n (b := 24) c4 (by omega) (by omega)), u1, cl1s, cl1s, if_pos rfl]
        refine ⟨0, S4, rfl, (kS2.tr y2).tr u4, Or.inr ⟨rfl, T4, ?_, ⟨_, _, ?_, ?_, u2, q2, u3, q3⟩, (z6.tr w8).tr q4⟩⟩
        · rw [lp, w1, q1]
        · split <;> omega
        · split <;> omega
    · rw [r0, if_pos rfl]
      exact ⟨0, S3, rfl, kS2.tr y2, Or.inr ⟨rfl, T3, by rw [lp, w1], w2, z6.tr w3⟩⟩
  · rw [if_neg (show ¬ nI tk = 23 from ne_n (b := 23) c (by omega) (by omega))]
    obtain ⟨r, S', x1, x2, x3⟩ := opnd hN hb hn ho hG hm hd hpre c
    rw [x1, cl1s]
    refine ⟨r, S', rfl, x2, ?_⟩
    rcases x3 with ⟨r1, T', cq, w, tk', p', nx', v', y1, y2, y3, y4, y5⟩ | ⟨r0, T', y1, y2, y3⟩
    · refine Or.inl ⟨r1, T', [(cq, w)], [], C ++ [(cq, w)], tk', p', nx', v', ops + 1, fuel, ?_, ?_, ?_, ?_, rfl, by omega, by omega, y5⟩
      · rw [loopO hF.2.2.2.1 hm, y1, cl1s]
      · rw [List.append_nil]; exact y2
      · rw [pend_nil, List.append_nil]
      · intro d
        simp only [run, run1]
        rw [if_pos y3]
    · obtain ⟨f, pp, f1, f2, f3, f4, f5, f6⟩ := id y2
      obtain ⟨fuel, rfl⟩ : ∃ q, fuel = q + 1 := ⟨fuel - 1, by omega⟩
      refine Or.inr ⟨r0, T', ?_, y2, y3⟩
      rw [loopO hF.2.2.2.1 hm, y1, cl1s]
      exact loopB f4 ⟨f1, f2⟩
def stay (X : List (Nat × Nat)) : Prop := ∀ d, run X (d + 1) = some (d + 1)
def KK : St → Int32 → Option (Int32 × St) := fun S x => if x = 0 ∨ x = 1 then (some (x, S)) else none
theorem KK0 {S : St} : KK S 0 = some (0, S) := by unfold KK; rw [if_pos (Or.inl rfl)]
theorem KK1 {S : St} : KK S 1 = some (1, S) := by unfold KK; rw [if_pos (Or.inr rfl)]
theorem stay_nil : stay [] := fun d => rfl
theorem stay_add {X Y : List (Nat × Nat)} {c : Nat} (h : oneUp X) (hc : 41 ≤ c) (hy : stay Y) : stay ((X ++ [(c, 0)]) ++ Y) := by
  intro d
  rw [run_app _ _ _ _ (run_bin h hc d)]
  exact hy d
theorem up_stay {X Y : List (Nat × Nat)} (h : oneUp X) (hy : stay Y) : oneUp (X ++ Y) := by
  intro d
  rw [run_app _ _ _ _ (h d)]
  exact hy d
theorem sum_l (hN : 1000 ≤ N) (hb : ∀ i, b i < 256) (hn : n ≤ 500) (ho : oko L o) (hT : ∀ c, c = 46 ∨ c = 47 → Good N n o b (fun S => f_X6_readTerm L N rE rO S (nI p1)) 1 (W ++ [c]) (fun _ => True) ExT) (hW : ∀ x, W.getLast? = some x → x = 48 ∨ x < 46) (hl : W.length < 200) : ∀ (k : Nat) (S T : St) (tk p nx v ops fuel cf i : Nat) (C R : List (Nat × Nat)) (P : List Nat) (K : St → Option St), mu n tk nx ≤ k → G b n o S T tk p nx v C R (W ++ P) ops → C = R ++ pend P → (P = [] ∨ P = [46] ∨ P = [47]) → mu n tk nx + 3 ≤ fuel → i + mu n tk nx ≤ 500 → mu n tk nx + 2 ≤ cf → ∃ r S', f_X6_readSum_l8 L N rE rO (nI p1) KK cf S 1 (nI i) = some (r, S') ∧ Kp (wPc o) S S' ∧ ((r = 1 ∧ Res1 N n o b T C W 2 fuel K S' stay ExS 0 (mu n tk nx)) ∨ (r = 0 ∧ Res0 N T 2 fuel K S')) := by
  intro k
  induction k with
  | zero =>
    intro S T tk p nx v ops fuel cf i C R P K hk hG hC hP hfu hi hcf
    obtain ⟨cf, rfl⟩ : ∃ q, cf = q + 1 := ⟨cf - 1, by omega⟩
    have h27 : tk = 27 := by
      unfold mu at hk
      by_cases c : tk = 27
      · exact c
      · rw [if_neg c] at hk; omega
    refine ⟨1, S, ?_, Kp.rf, Or.inl ⟨rfl, T, [], P, R, tk, p, nx, v, ops, fuel, rfl, by rw [List.append_nil]; exact hG, by rw [List.append_nil]; exact hC, stay_nil, ⟨hP, by omega, by omega⟩, hfu, by omega, Kp.rf⟩⟩
    rw [f_X6_readSum_l8, hG.2.2.1.1, bnE, KK1, if_neg (show ¬ (1 : Int32) = 0 by decide), if_neg (show ¬ nI tk = 21 by rw [h27]; decide), if_neg (show ¬ nI tk = 22 by rw [h27]; decide), ite_self]
  | succ k ih =>
    intro S T tk p nx v ops fuel cf i C R P K hk hG hC hP hfu hi hcf
    obtain ⟨cf, rfl⟩ : ∃ q, cf = q + 1 := ⟨cf - 1, by omega⟩
    have t28 := (srt hG.2.2.1.2.2.2.2.2.2).2.2.2.2.2.2.2.2.2.2.2.2
    by_cases ht : tk = 21 ∨ tk = 22
    · have hmu : 1 ≤ mu n tk nx := by unfold mu; rw [if_neg (by omega)]; omega
      have hPl : P.length ≤ 1 := by rcases hP with h | h | h <;> subst h <;> simp
      have hent := ent_plus hN hb hn ho hG hC hP hW (by simp; omega) ht
      obtain ⟨fuel, rfl⟩ : ∃ q, fuel = q + 1 := ⟨fuel - 1, by omega⟩
      obtain ⟨S1, r, S2, x1, x2, x3⟩ := body_b (K := K) (fuel := fuel) (t := tk) (L := L) ho hn hent (hT (tk + 25) (by omega)) (by rcases ht with h | h <;> subst h <;> decide) (Or.inr (Or.inr (by omega))) (by omega) (by omega)
      have lp : f_X6_readSum_l8 L N rE rO (nI p1) KK (cf + 1) S 1 (nI i) = if r = 0 then f_X6_readSum_l8 L N rE rO (nI p1) KK cf S2 0 (nI (i + 1)) else cl1 (f_X6_write L S2 (nI tk)) fun r_18 S_19 => if r_18 = 0 then f_X6_readSum_l8 L N rE rO (nI p1) KK cf S_19 0 (nI (i + 1)) else f_X6_readSum_l8 L N rE rO (nI p1) KK cf S_19 1 (nI (i + 1)) := by
        rw [f_X6_readSum_l8, n500 (by omega), if_neg (show ¬ (1 : Int32) = 0 by decide), hG.2.2.1.1, bnE]
        have j : f_X6_readSum_j44 L N rE rO (f_X6_readSum_l8 L N rE rO (nI p1) KK cf) KK S (nI p1) (nI i) (nI tk) = if r = 0 then f_X6_readSum_l8 L N rE rO (nI p1) KK cf S2 0 (nI (i + 1)) else cl1 (f_X6_write L S2 (nI tk)) fun r_18 S_19 => if r_18 = 0 then f_X6_readSum_l8 L N rE rO (nI p1) KK cf S_19 0 (nI (i + 1)) else f_X6_readSum_l8 L N rE rO (nI p1) KK cf S_19 1 (nI (i + 1)) := by
          unfold f_X6_readSum_j44
          rw [x1, cl0s, x2, cl1s]
          simp only [bnE, nl_add1]
        rcases ht with h | h
        · rw [if_pos (show nI tk = 21 by rw [h]; rfl), j]
        · rw [if_neg (show ¬ nI tk = 21 by rw [h]; decide), if_pos (show nI tk = 22 by rw [h]; rfl), j]
      rw [lp]
      rcases x3 with ⟨r0, y1, y2⟩ | ⟨r1, S3, y1, y2, T3, X, P1, R3, tk3, p3, nx3, v3, ops3, fuel3, w1, w2, w3, w4, w5, w6, w7, w8⟩
      · rw [r0, if_pos rfl]
        obtain ⟨cf, rfl⟩ : ∃ q, cf = q + 1 := ⟨cf - 1, by omega⟩
        refine ⟨0, S2, ?_, y1, Or.inr ⟨rfl, y2⟩⟩
        rw [f_X6_readSum_l8, KK0, if_pos (show (0 : Int32) = 0 from rfl), ite_self]
      · rw [r1, if_neg (by decide), y1, cl1s, if_neg (by decide)]
        have w5' : P1 = [] := w5
        subst w5'
        obtain ⟨r', S4, u1, u2, u3⟩ := ih S3 T3 tk3 p3 nx3 v3 ops3 fuel3 cf (i + 1) _ R3 [tk + 25] K (by omega) w2 w3 (by rcases ht with h | h <;> subst h <;> simp) w6 (by omega) (by omega)
        refine ⟨r', S4, u1, y2.tr u2, ?_⟩
        rcases u3 with ⟨q1, T4, Y, P2, R4, tk4, p4, nx4, v4, ops4, fuel4, e1, e2, e3, e4, e5, e6, e7, e8⟩ | ⟨q0, T4, e1, e2, e3⟩
        · refine Or.inl ⟨q1, T4, (X ++ [(tk + 25, 0)]) ++ Y, P2, R4, tk4, p4, nx4, v4, ops4, fuel4, by rw [w1, e1], by rw [← List.append_assoc]; exact e2, by rw [← List.append_assoc]; exact e3, stay_add w4 (by omega) e4, e5, e6, by omega, w8.tr e8⟩
        · exact Or.inr ⟨q0, T4, by rw [w1, e1], e2, w8.tr e3⟩
    · refine ⟨1, S, ?_, Kp.rf, Or.inl ⟨rfl, T, [], P, R, tk, p, nx, v, ops, fuel, rfl, by rw [List.append_nil]; exact hG, by rw [List.append_nil]; exact hC, stay_nil, ⟨hP, by omega, by omega⟩, hfu, by omega, Kp.rf⟩⟩
      rw [f_X6_readSum_l8, hG.2.2.1.1, bnE, KK1, if_neg (show ¬ (1 : Int32) = 0 by decide), if_neg (show ¬ nI tk = 21 from ne_n (b := 21) (by omega) (by omega) (by omega)), if_neg (show ¬ nI tk = 22 from ne_n (b := 22) (by omega) (by omega) (by omega)), ite_self]
theorem sum_g {m : Nat} (hN : 1000 ≤ N) (hb : ∀ i, b i < 256) (hn : n ≤ 500) (ho : oko L o) (hT0 : Good N n o b (fun S => f_X6_readTerm L N rE rO S (nI p1)) m W (fun tk => m = 0 → tk ≠ 7) ExT) (hT : ∀ c, c = 46 ∨ c = 47 → Good N n o b (fun S => f_X6_readTerm L N rE rO S (nI p1)) 1 (W ++ [c]) (fun _ => True) ExT) (hW : ∀ x, W.getLast? = some x → x = 48 ∨ x < 46) (hl : W.length < 200) : Good N n o b (fun S => f_X6_readSum L N rE rO S (nI p1)) m W (fun tk => m = 0 → tk ≠ 7) ExS := by
  intro S T tk p nx v ops fuel C K hG hpre hfu
  obtain ⟨r, S1, x1, x2, x3⟩ := hT0 S T tk p nx v ops fuel C K hG hpre hfu
  dsimp only at x1 ⊢
  have e : f_X6_readSum L N rE rO S (nI p1) = f_X6_readSum_l8 L N rE rO (nI p1) KK N S1 r (nI 0) := by
    unfold f_X6_readSum
    rw [x1, cl1s]
    rfl
  rw [e]
  rcases x3 with ⟨r1, T3, X, P1, R3, tk3, p3, nx3, v3, ops3, fuel3, w1, w2, w3, w4, w5, w6, w7, w8⟩ | ⟨r0, T', w1, w2, w3⟩
  · rw [r1]
    have w5' : P1 = [] := w5
    subst w5'
    have hmu := mu_le hn w2.2.2.2.2.2.2.2.1 w2.2.2.2.2.2.2.2.2.1
    obtain ⟨r', S4, u1, u2, u3⟩ := sum_l hN hb hn ho hT hW hl (mu n tk3 nx3) S1 T3 tk3 p3 nx3 v3 ops3 fuel3 N 0 _ R3 [] K (Nat.le_refl _) w2 w3 (Or.inl rfl) w6 (by omega) (by omega)
    refine ⟨r', S4, u1, x2.tr u2, ?_⟩
    rcases u3 with ⟨q1, T4, Y, P2, R4, tk4, p4, nx4, v4, ops4, fuel4, e1, e2, e3, e4, e5, e6, e7, e8⟩ | ⟨q0, T4, e1, e2, e3⟩
    · exact Or.inl ⟨q1, T4, X ++ Y, P2, R4, tk4, p4, nx4, v4, ops4, fuel4, by rw [w1, e1], by rw [← List.append_assoc]; exact e2, by rw [← List.append_assoc]; exact e3, up_stay w4 e4, e5, e6, by omega, w8.tr e8⟩
    · exact Or.inr ⟨q0, T4, by rw [w1, e1], e2, w8.tr e3⟩
  · rw [r0]
    obtain ⟨N', rfl⟩ : ∃ q, N = q + 1 := ⟨N - 1, by omega⟩
    refine ⟨0, S1, ?_, x2, Or.inr ⟨rfl, T', w1, w2, w3⟩⟩
    rw [f_X6_readSum_l8, KK0, if_pos (show (0 : Int32) = 0 from rfl), ite_self]
end
end GRAM
