section LEVEL
def cE (p : Nat) (W : List Nat) : Prop := deep W = p ∧ W.length ≤ 5 * p ∧ ∀ x, W.getLast? = some x → x = 48
def cB (p : Nat) (W : List Nat) : Prop := deep W = p ∧ W.length ≤ 5 * p + 1 ∧ ∀ x, W.getLast? = some x → x = 48 ∨ x = 41
def cO (p : Nat) (W : List Nat) : Prop := deep W = p ∧ W.length ≤ 5 * p + 2 ∧ ∀ x, W.getLast? = some x → x = 48 ∨ x < 43
section
variable {N n o : Nat} {L : List Nat} {b : Nat → Nat} {rE rO : St → Int32 → Option (Int32 × St)} {p1 : Nat} {W : List Nat}
theorem last_snoc {W : List Nat} {c x : Nat} (h : (W ++ [c]).getLast? = some x) : x = c := by simp at h; omega
theorem one_g (hN : 1000 ≤ N) (hb : ∀ i, b i < 256) (hn : n ≤ 500) (ho : oko L o) (h8 : p1 ≤ 8) (hE : p1 < 8 → ∀ W, cE (p1 + 1) W → Good N n o b (fun S => rE S (nI (p1 + 1))) 0 W (fun _ => True) ExE) (hO : p1 < 8 → ∀ W, cO (p1 + 1) W → Good N n o b (fun S => rO S (nI (p1 + 1))) 0 W (fun _ => True) (ExO (p1 + 1))) (hW : cO p1 W) : Good N n o b (fun S => f_X6_readOne L N rE rO S (nI p1)) 0 W (fun _ => True) (ExO p1) := by
  obtain ⟨d1, d2, d3⟩ := hW
  intro S T tk p nx v ops fuel C K hG _ hfu
  obtain ⟨hS, hT, ⟨l0, l1, l5, l2, l43, l40, hs⟩, hPC, hF, b1, b2, b3, b4, b5, b6, b7, b8⟩ := id hG
  obtain ⟨s1, s2, s0, s3, s59, s60, s62, s61, s43, s45, s40, s41, t28⟩ := srt hs
  dsimp only
  unfold f_X6_readOne
  by_cases c8 : p1 < 8
  · rw [if_pos (show nI p1 < 8 from lt_n (b := 8) c8 (by omega)), l0]
    by_cases c7 : tk = 7
    · obtain ⟨fuel, rfl⟩ : ∃ q, fuel = q + 1 := ⟨fuel - 1, by omega⟩
      rw [if_pos (show nI tk = 7 by rw [c7]; rfl), nl_add1]
      obtain ⟨T1, x1, x2, x3⟩ := hold_n (c := 40) hF (by omega) (by omega)
      obtain ⟨tk2, p2, nx2, v2, S2, T2, z1, z2, z3, z4, z5, z6⟩ := adv2 hN hb hn ho hG (by omega) (by omega) x2 x3 (by simp; omega) (fun q hq => by
        rcases List.mem_append.mp hq with h | h
        · exact b8 q h
        · rw [List.mem_singleton.mp h]; omega)
      have lp : f_X11_readE_l12 N K (fuel + 1) T (nI 0) = f_X11_readE_l12 N K fuel T2 (nI 0) := by
        rw [loopO hF.2.2.2.1 (Or.inl rfl), opr_w hs, opr_d (Or.inl rfl) hF (fun _ => by omega), if_neg (by omega)]
        unfold f_X11_operand_j50
        rw [if_pos rfl, if_neg (fun e => by have := s40.mp e; omega), if_pos (show nI 0 = 0 from rfl), show (7237492 : Int64) = Int64.ofNat (pk (Wo 7)) by decide, wIs hs (by omega), if_pos c7, cl0s, if_neg (by decide), show f_X11_hold T 40 = some T1 from x1, cl0s, z2, cl0s, cl1s]
        rfl
      have kS2 : Kp (wPc o) S S2 := z5.mo (fun a j h => Or.inr (Or.inr (Or.inr h)))
      have hcO : cO (p1 + 1) (W ++ [40]) := ⟨by rw [deep_app, d1]; rfl, by simp; omega, fun x hx => by have := last_snoc hx; omega⟩
      obtain ⟨r, S3, y1, y2, y3⟩ := hO c8 _ hcO S2 T2 tk2 p2 nx2 v2 ops fuel C K z3 trivial (by omega)
      dsimp only at y1
      rw [z1, cl0s, y1, cl1s]
      rcases y3 with ⟨r1, T3, X, P, R3, tk3, p3, nx3, v3, ops3, fuel3, w1, w2, w3, w4, w5, w6, w7, w8⟩ | ⟨r0, T3, w1, w2, w3⟩
      · rw [r1, if_neg (by decide)]
        have hl := congrArg List.length w3
        rw [List.length_append (as := R3), pend_len] at hl
        have hb5 := w2.2.2.2.2.2.2.2.2.2.1
        have hp := w2.2.2.2.2.2.1
        have hp2 := w2.2.2.2.2.2.2.1
        simp only [List.length_append, List.length_cons, List.length_nil] at hb5
        obtain ⟨S4, u1, u2, u3⟩ := w2.wr (t := 7) (c := 40) ho (by omega) (by decide) (Or.inr (Or.inr (by omega))) (by omega)
        rw [show (7 : Int32) = nI 7 from rfl, u1, cl1s, if_neg (by decide)]
        refine ⟨1, S4, rfl, (kS2.tr y2).tr u3, Or.inl ⟨rfl, T3, X ++ [(40, 0)], 40 :: P, R3, tk3, p3, nx3, v3, ops3, fuel3, by rw [lp, w1], ?_, ?_, ?_, ?_, w6, by omega, z6.tr w8⟩⟩
        · rw [← List.append_assoc, show W ++ (40 :: P) = (W ++ [40]) ++ P by simp]; exact u2
        · rw [show 40 :: P = [40] ++ P from rfl, pend_app, pend_one, ← List.append_assoc, ← List.append_assoc, w3]
        · intro d
          rw [run_app _ _ _ _ (w4 d)]
          simp [run, run1]
        · obtain ⟨e1, e2, e3, e4, e5⟩ := w5
          refine ⟨fun x hx => ?_, by simp; omega, e3, e4, fun h => (e5 h).cons⟩
          rcases List.mem_cons.mp hx with h | h
          · omega
          · exact e1 x h
      · rw [r0, if_pos rfl]
        exact ⟨0, S3, rfl, kS2.tr y2, Or.inr ⟨rfl, T3, by rw [lp, w1], w2, z6.tr w3⟩⟩
    · rw [if_neg (show ¬ nI tk = 7 from ne_n (b := 7) c7 (by omega) (by omega))]
      have mkE : ∀ W' : List Nat, deep W' = p1 → W'.length ≤ 5 * p1 + 4 → cE (p1 + 1) (W' ++ [48]) := fun W' h1 h2 => ⟨by rw [deep_app, h1]; rfl, by simp; omega, fun x hx => last_snoc hx⟩
      have trm : ∀ W' : List Nat, deep W' = p1 → W'.length ≤ 5 * p1 + 4 → ∀ m, (m = 0 ∨ m = 1) → Good N n o b (fun S => f_X6_readTerm L N rE rO S (nI p1)) m W' (fun tk => m = 0 → tk ≠ 7) ExT := fun W' h1 h2 m hm => term_g hN hb hn ho (hE c8 _ (mkE W' h1 h2)) hm (fun _ => by omega) (by omega)
      have trm1 : ∀ W' : List Nat, deep W' = p1 → W'.length ≤ 5 * p1 + 4 → Good N n o b (fun S => f_X6_readTerm L N rE rO S (nI p1)) 1 W' (fun _ => True) ExT := fun W' h1 h2 S T tk p nx v ops fuel C K hG _ hfu => trm W' h1 h2 1 (Or.inr rfl) S T tk p nx v ops fuel C K hG (fun h => by omega) hfu
      have dap : ∀ (W' : List Nat) (c : Nat), 41 ≤ c → c ≤ 47 → deep (W' ++ [c]) = deep W' := fun W' c h1 h2 => by rw [deep_app]; simp [deep]; omega
      have sm : ∀ W' : List Nat, deep W' = p1 → W'.length ≤ 5 * p1 + 3 → (∀ x, W'.getLast? = some x → x = 48 ∨ x < 46) → ∀ m, (m = 0 ∨ m = 1) → Good N n o b (fun S => f_X6_readSum L N rE rO S (nI p1)) m W' (fun tk => m = 0 → tk ≠ 7) ExS := fun W' h1 h2 h3 m hm => sum_g hN hb hn ho (trm W' h1 (by omega) m hm) (fun c hc => trm1 (W' ++ [c]) (by rw [dap W' c (by omega) (by omega), h1]) (by simp; omega)) h3 (by omega)
      obtain ⟨r, S3, y1, y2, y3⟩ := sm W d1 (by omega) (fun x hx => by have := d3 x hx; omega) 0 (Or.inl rfl) S T tk p nx v ops fuel C K hG (fun _ => c7) hfu
      dsimp only at y1
      rw [y1, cl1s]
      rcases y3 with ⟨r1, T3, X, P, R3, tk3, p3, nx3, v3, ops3, fuel3, w1, w2, w3, w4, ⟨w5, w5a, w5b⟩, w6, w7, w8⟩ | ⟨r0, T3, w1, w2, w3⟩
      · rw [r1, if_neg (by decide), w2.2.2.1.1, bnE]
        have t28' := (srt w2.2.2.1.2.2.2.2.2.2).2.2.2.2.2.2.2.2.2.2.2.2
        have hPl : P.length ≤ 1 := by rcases w5 with h | h | h <;> subst h <;> simp
        by_cases ht : tk3 = 18 ∨ tk3 = 19 ∨ tk3 = 20
        · have hent := ent_cmp hN hb hn ho w2 w3 w5 d3 (by simp; omega) ht
          obtain ⟨fuel3, rfl⟩ : ∃ q, fuel3 = q + 1 := ⟨fuel3 - 1, by omega⟩
          have hc1 : 43 ≤ (if tk3 = 20 then 43 else tk3 + 26) ∧ (if tk3 = 20 then 43 else tk3 + 26) ≤ 45 := by split <;> omega
          have sm1 : Good N n o b (fun S => f_X6_readSum L N rE rO S (nI p1)) 1 (W ++ [if tk3 = 20 then 43 else tk3 + 26]) (fun _ => True) ExS := fun S T tk p nx v ops fuel C K hG _ hfu => sm (W ++ [if tk3 = 20 then 43 else tk3 + 26]) (by rw [dap W _ (by omega) (by omega), d1]) (by simp; omega) (fun x hx => by have := last_snoc hx; omega) 1 (Or.inr rfl) S T tk p nx v ops fuel C K hG (fun h => by omega) hfu
          obtain ⟨S4, r4, S5, x1, x2, x3⟩ := body_b (K := K) (fuel := fuel3) (t := tk3) (L := L) ho hn hent sm1 (by rcases ht with h | h | h <;> subst h <;> decide) (Or.inr (Or.inr (by omega))) (by omega) (by omega)
          have j : f_X6_readOne_j93 L N rE rO S3 (nI p1) (nI tk3) = if r4 = 0 then some (0, S5) else cl1 (f_X6_write L S5 (nI tk3)) fun r_18 S_19 => if r_18 = 0 then (some (0, S_19)) else (some (1, S_19)) := by
            unfold f_X6_readOne_j93
            rw [x1, cl0s, x2, cl1s]
          have lp : (if nI tk3 = 18 then f_X6_readOne_j93 L N rE rO S3 (nI p1) (nI tk3) else if nI tk3 = 19 then f_X6_readOne_j93 L N rE rO S3 (nI p1) (nI tk3) else if nI tk3 = 20 then f_X6_readOne_j93 L N rE rO S3 (nI p1) (nI tk3) else some (1, S3)) = f_X6_readOne_j93 L N rE rO S3 (nI p1) (nI tk3) := by
            rcases ht with h | h | h
            · rw [if_pos (show nI tk3 = 18 by rw [h]; rfl)]
            · rw [if_neg (show ¬ nI tk3 = 18 by rw [h]; decide), if_pos (show nI tk3 = 19 by rw [h]; rfl)]
            · rw [if_neg (show ¬ nI tk3 = 18 by rw [h]; decide), if_neg (show ¬ nI tk3 = 19 by rw [h]; decide), if_pos (show nI tk3 = 20 by rw [h]; rfl)]
          rw [lp, j]
          rcases x3 with ⟨r0, q1, T5, q2, q3, q4⟩ | ⟨r1', S6, q1, q2, T6, X6, P6, R6, tk6, p6, nx6, v6, ops6, fuel6, e1, e2, e3, e4, ⟨e5, e5a, e5b⟩, e6, e7, e8⟩
          · rw [r0, if_pos rfl]
            exact ⟨0, S5, rfl, y2.tr q1, Or.inr ⟨rfl, T5, by rw [w1, q2], q3, w8.tr q4⟩⟩
          · rw [r1', if_neg (by decide), q1, cl1s, if_neg (by decide)]
            have hP6 : P6.length ≤ 1 ∧ ∀ x ∈ P6, x = 46 ∨ x = 47 := by rcases e5 with h | h | h <;> subst h <;> simp
            refine ⟨1, S6, rfl, y2.tr q2, Or.inl ⟨rfl, T6, X ++ (X6 ++ [(if tk3 = 20 then 43 else tk3 + 26, 0)]), (if tk3 = 20 then 43 else tk3 + 26) :: P6, R6, tk6, p6, nx6, v6, ops6, fuel6, by rw [w1, e1], by rw [← List.append_assoc]; exact e2, by rw [← List.append_assoc]; exact e3, ?_, ⟨fun x hx => ?_, by simp; omega, e5a, e5b, fun _ => ⟨[], _, P6, rfl, hc1.1, hc1.2, hP6.2⟩⟩, e6, by omega, w8.tr e8⟩⟩
            · intro d
              rw [run_app _ _ _ _ (w4 d)]
              exact run_bin e4 (by omega) d
            · rcases List.mem_cons.mp hx with h | h
              · omega
              · have := hP6.2 x h; omega
        · rw [if_neg (show ¬ nI tk3 = 18 from ne_n (b := 18) (by omega) (by omega) (by omega)), if_neg (show ¬ nI tk3 = 19 from ne_n (b := 19) (by omega) (by omega) (by omega)), if_neg (show ¬ nI tk3 = 20 from ne_n (b := 20) (by omega) (by omega) (by omega))]
          refine ⟨1, S3, rfl, y2, Or.inl ⟨rfl, T3, X, P, R3, tk3, p3, nx3, v3, ops3, fuel3, w1, w2, w3, w4, ⟨fun x hx => ?_, by omega, w5a, w5b, fun h => by omega⟩, w6, w7, w8⟩⟩
          rcases w5 with h | h | h <;> subst h <;> simp at hx <;> omega
      · rw [r0, if_pos rfl]
        exact ⟨0, S3, rfl, y2, Or.inr ⟨rfl, T3, w1, w2, w3⟩⟩
  · have e8 : p1 = 8 := by omega
    rw [if_neg (show ¬ nI p1 < 8 from nlt_n (b := 8) (by omega) (by omega))]
    obtain ⟨fuel, rfl⟩ : ∃ q, fuel = q + 2 := ⟨fuel - 2, by omega⟩
    obtain ⟨S', x1, x2, x3, x4⟩ := refuse_c (o := o) l0 l1 t28
    obtain ⟨T', y1, y2, y3, y4⟩ := wrong_n (f := 2) hs l43 hF.2.2.2.1
    rw [x1, cl1s]
    refine ⟨0, S', rfl, x4, Or.inr ⟨rfl, T', ?_, ⟨_, p, ?_, ?_, x2, y2, x3, y3⟩, y4.mo (fun a j h => Or.inl h)⟩⟩
    · rw [loopO hF.2.2.2.1 (Or.inl rfl), opr_w hs, opr_deep rfl hF (by omega) (by omega), show f_X11_wrong T 2 = some T' from y1, cl0s, cl1s]
      exact loopB y2 (by split <;> omega)
    · split <;> omega
    · split <;> omega
theorem both_l (hN : 1000 ≤ N) (hb : ∀ i, b i < 256) (hn : n ≤ 500) (ho : oko L o) (hT : Good N n o b (fun S => f_X6_readOne L N rE rO S (nI p1)) 0 (W ++ [42]) (fun _ => True) (ExO p1)) (hW : ∀ x, W.getLast? = some x → x = 48 ∨ x = 41) (hl : W.length < 200) : ∀ (k : Nat) (S T : St) (tk p nx v ops fuel cf i : Nat) (C R : List (Nat × Nat)) (P : List Nat) (K : St → Option St), mu n tk nx ≤ k → G b n o S T tk p nx v C R (W ++ P) ops → C = R ++ pend P → ((∀ x ∈ P, x ≠ 48 ∧ x ≠ 41 ∧ x < 100) ∧ P.length ≤ 11 ∧ tk ≠ 21 ∧ tk ≠ 22 ∧ (18 ≤ tk ∧ tk ≤ 20 → cmpT P)) → mu n tk nx + 3 ≤ fuel → i + mu n tk nx ≤ 500 → mu n tk nx + 2 ≤ cf → ∃ r S', f_X6_readBoth_l8 L N rE rO (nI p1) KK cf S 1 (nI i) = some (r, S') ∧ Kp (wPc o) S S' ∧ ((r = 1 ∧ Res1 N n o b T C W 2 fuel K S' stay ExB 0 (mu n tk nx)) ∨ (r = 0 ∧ Res0 N T 2 fuel K S')) := by
  intro k
  induction k with
  | zero =>
    intro S T tk p nx v ops fuel cf i C R P K hk hG hC hP hfu hi hcf
    obtain ⟨cf, rfl⟩ : ∃ q, cf = q + 1 := ⟨cf - 1, by omega⟩
    have h27 : tk = 27 := by
      unfold mu at hk
      by_cases c : tk = 27
      · exact c
      · rw [if_neg c] at hk; omega
    refine ⟨1, S, ?_, Kp.rf, Or.inl ⟨rfl, T, [], P, R, tk, p, nx, v, ops, fuel, rfl, by rw [List.append_nil]; exact hG, by rw [List.append_nil]; exact hC, stay_nil, ⟨hP.1, hP.2.1, by omega, by omega, by omega, hP.2.2.2.2⟩, hfu, by omega, Kp.rf⟩⟩
    rw [f_X6_readBoth_l8, hG.2.2.1.1, KK1, if_neg (show ¬ (1 : Int32) = 0 by decide), if_neg (show ¬ nI tk = 6 by rw [h27]; decide), ite_self]
  | succ k ih =>
    intro S T tk p nx v ops fuel cf i C R P K hk hG hC hP hfu hi hcf
    obtain ⟨cf, rfl⟩ : ∃ q, cf = q + 1 := ⟨cf - 1, by omega⟩
    have t28 := (srt hG.2.2.1.2.2.2.2.2.2).2.2.2.2.2.2.2.2.2.2.2.2
    by_cases ht : tk = 6
    · have hmu : 1 ≤ mu n tk nx := by unfold mu; rw [if_neg (by omega)]; omega
      have hent := ent_ones hN hb hn ho hG hC (fun x hx => by have := hP.1 x hx; omega) (fun x hx => by have := hW x hx; omega) (by simp; omega) (Or.inr ht)
      obtain ⟨fuel, rfl⟩ : ∃ q, fuel = q + 1 := ⟨fuel - 1, by omega⟩
      rw [show tk + 36 = 42 by omega] at hent
      obtain ⟨S1, r, S2, x1, x2, x3⟩ := body_b (K := K) (fuel := fuel) (t := 6) (L := L) ho hn hent hT (by decide) (Or.inr (Or.inr (by omega))) (by omega) (by omega)
      have lp : f_X6_readBoth_l8 L N rE rO (nI p1) KK (cf + 1) S 1 (nI i) = if r = 0 then f_X6_readBoth_l8 L N rE rO (nI p1) KK cf S2 0 (nI (i + 1)) else cl1 (f_X6_write L S2 (nI 6)) fun r_18 S_19 => if r_18 = 0 then f_X6_readBoth_l8 L N rE rO (nI p1) KK cf S_19 0 (nI (i + 1)) else f_X6_readBoth_l8 L N rE rO (nI p1) KK cf S_19 1 (nI (i + 1)) := by
        rw [f_X6_readBoth_l8, n500 (by omega), if_neg (show ¬ (1 : Int32) = 0 by decide), hG.2.2.1.1, if_pos (show nI tk = 6 by rw [ht]; rfl), x1, cl0s, x2, cl1s]
        simp only [bnE, nl_add1]
        rfl
      rw [lp]
      rcases x3 with ⟨r0, y1, y2⟩ | ⟨r1, S3, y1, y2, T3, X, P1, R3, tk3, p3, nx3, v3, ops3, fuel3, w1, w2, w3, w4, w5, w6, w7, w8⟩
      · rw [r0, if_pos rfl]
        obtain ⟨cf, rfl⟩ : ∃ q, cf = q + 1 := ⟨cf - 1, by omega⟩
        refine ⟨0, S2, ?_, y1, Or.inr ⟨rfl, y2⟩⟩
        rw [f_X6_readBoth_l8, KK0, if_pos (show (0 : Int32) = 0 from rfl), ite_self]
      · rw [r1, if_neg (by decide), y1, cl1s, if_neg (by decide)]
        obtain ⟨e1, e2, e3, e4, e5⟩ := w5
        obtain ⟨r', S4, u1, u2, u3⟩ := ih S3 T3 tk3 p3 nx3 v3 ops3 fuel3 cf (i + 1) _ R3 (42 :: P1) K (by omega) w2 w3 ⟨fun x hx => by
          rcases List.mem_cons.mp hx with h | h
          · omega
          · have := e1 x h; omega, by simp; omega, e3, e4, fun h => (e5 h).cons⟩ w6 (by omega) (by omega)
        refine ⟨r', S4, u1, y2.tr u2, ?_⟩
        rcases u3 with ⟨q1, T4, Y, P2, R4, tk4, p4, nx4, v4, ops4, fuel4, e1, e2, e3, e4, e5, e6, e7, e8⟩ | ⟨q0, T4, e1, e2, e3⟩
        · exact Or.inl ⟨q1, T4, (X ++ [(42, 0)]) ++ Y, P2, R4, tk4, p4, nx4, v4, ops4, fuel4, by rw [w1, e1], by rw [← List.append_assoc]; exact e2, by rw [← List.append_assoc]; exact e3, stay_add w4 (by omega) e4, e5, e6, by omega, w8.tr e8⟩
        · exact Or.inr ⟨q0, T4, by rw [w1, e1], e2, w8.tr e3⟩
    · refine ⟨1, S, ?_, Kp.rf, Or.inl ⟨rfl, T, [], P, R, tk, p, nx, v, ops, fuel, rfl, by rw [List.append_nil]; exact hG, by rw [List.append_nil]; exact hC, stay_nil, ⟨hP.1, hP.2.1, hP.2.2.1, hP.2.2.2.1, ht, hP.2.2.2.2⟩, hfu, by omega, Kp.rf⟩⟩
      rw [f_X6_readBoth_l8, hG.2.2.1.1, KK1, if_neg (show ¬ (1 : Int32) = 0 by decide), if_neg (show ¬ nI tk = 6 from ne_n (b := 6) ht (by omega) (by omega)), ite_self]
theorem both_g (hN : 1000 ≤ N) (hb : ∀ i, b i < 256) (hn : n ≤ 500) (ho : oko L o) (hT0 : Good N n o b (fun S => f_X6_readOne L N rE rO S (nI p1)) 0 W (fun _ => True) (ExO p1)) (hT : Good N n o b (fun S => f_X6_readOne L N rE rO S (nI p1)) 0 (W ++ [42]) (fun _ => True) (ExO p1)) (hW : ∀ x, W.getLast? = some x → x = 48 ∨ x = 41) (hl : W.length < 200) : Good N n o b (fun S => f_X6_readBoth L N rE rO S (nI p1)) 0 W (fun _ => True) ExB := by
  intro S T tk p nx v ops fuel C K hG hpre hfu
  obtain ⟨r, S1, x1, x2, x3⟩ := hT0 S T tk p nx v ops fuel C K hG trivial hfu
  dsimp only at x1 ⊢
  have e : f_X6_readBoth L N rE rO S (nI p1) = f_X6_readBoth_l8 L N rE rO (nI p1) KK N S1 r (nI 0) := by
    unfold f_X6_readBoth
    rw [x1, cl1s]
    rfl
  rw [e]
  rcases x3 with ⟨r1, T3, X, P1, R3, tk3, p3, nx3, v3, ops3, fuel3, w1, w2, w3, w4, w5, w6, w7, w8⟩ | ⟨r0, T', w1, w2, w3⟩
  · rw [r1]
    obtain ⟨e1, e2, e3, e4, e5⟩ := w5
    have hmu := mu_le hn w2.2.2.2.2.2.2.2.1 w2.2.2.2.2.2.2.2.2.1
    obtain ⟨r', S4, u1, u2, u3⟩ := both_l hN hb hn ho hT hW hl (mu n tk3 nx3) S1 T3 tk3 p3 nx3 v3 ops3 fuel3 N 0 _ R3 P1 K (Nat.le_refl _) w2 w3 ⟨fun x hx => by have := e1 x hx; omega, by omega, e3, e4, e5⟩ w6 (by omega) (by omega)
    refine ⟨r', S4, u1, x2.tr u2, ?_⟩
    rcases u3 with ⟨q1, T4, Y, P2, R4, tk4, p4, nx4, v4, ops4, fuel4, e1, e2, e3, e4, e5, e6, e7, e8⟩ | ⟨q0, T4, e1, e2, e3⟩
    · exact Or.inl ⟨q1, T4, X ++ Y, P2, R4, tk4, p4, nx4, v4, ops4, fuel4, by rw [w1, e1], by rw [← List.append_assoc]; exact e2, by rw [← List.append_assoc]; exact e3, up_stay w4 e4, e5, e6, by omega, w8.tr e8⟩
    · exact Or.inr ⟨q0, T4, by rw [w1, e1], e2, w8.tr e3⟩
  · rw [r0]
    obtain ⟨N', rfl⟩ : ∃ q, N = q + 1 := ⟨N - 1, by omega⟩
    refine ⟨0, S1, ?_, x2, Or.inr ⟨rfl, T', w1, w2, w3⟩⟩
    rw [f_X6_readBoth_l8, KK0, if_pos (show (0 : Int32) = 0 from rfl), ite_self]
theorem e_l (hN : 1000 ≤ N) (hb : ∀ i, b i < 256) (hn : n ≤ 500) (ho : oko L o) (hT : Good N n o b (fun S => f_X6_readBoth L N rE rO S (nI p1)) 0 (W ++ [41]) (fun _ => True) ExB) (hW : ∀ x, W.getLast? = some x → x = 48) (hl : W.length < 200) : ∀ (k : Nat) (S T : St) (tk p nx v ops fuel cf i : Nat) (C R : List (Nat × Nat)) (P : List Nat) (K : St → Option St), mu n tk nx ≤ k → G b n o S T tk p nx v C R (W ++ P) ops → C = R ++ pend P → ((∀ x ∈ P, x ≠ 48 ∧ x < 100) ∧ P.length ≤ 12 ∧ tk ≠ 21 ∧ tk ≠ 22 ∧ tk ≠ 6 ∧ (18 ≤ tk ∧ tk ≤ 20 → cmpT P)) → mu n tk nx + 3 ≤ fuel → i + mu n tk nx ≤ 500 → mu n tk nx + 2 ≤ cf → ∃ r S', f_X6_readE_l8 L N rE rO (nI p1) KK cf S 1 (nI i) = some (r, S') ∧ Kp (wPc o) S S' ∧ ((r = 1 ∧ Res1 N n o b T C W 2 fuel K S' stay ExE 0 (mu n tk nx)) ∨ (r = 0 ∧ Res0 N T 2 fuel K S')) := by
  intro k
  induction k with
  | zero =>
    intro S T tk p nx v ops fuel cf i C R P K hk hG hC hP hfu hi hcf
    obtain ⟨cf, rfl⟩ : ∃ q, cf = q + 1 := ⟨cf - 1, by omega⟩
    have h27 : tk = 27 := by
      unfold mu at hk
      by_cases c : tk = 27
      · exact c
      · rw [if_neg c] at hk; omega
    refine ⟨1, S, ?_, Kp.rf, Or.inl ⟨rfl, T, [], P, R, tk, p, nx, v, ops, fuel, rfl, by rw [List.append_nil]; exact hG, by rw [List.append_nil]; exact hC, stay_nil, ⟨hP.1, hP.2.1, by omega, by omega, by omega, by omega, hP.2.2.2.2.2⟩, hfu, by omega, Kp.rf⟩⟩
    rw [f_X6_readE_l8, hG.2.2.1.1, KK1, if_neg (show ¬ (1 : Int32) = 0 by decide), if_neg (show ¬ nI tk = 5 by rw [h27]; decide), ite_self]
  | succ k ih =>
    intro S T tk p nx v ops fuel cf i C R P K hk hG hC hP hfu hi hcf
    obtain ⟨cf, rfl⟩ : ∃ q, cf = q + 1 := ⟨cf - 1, by omega⟩
    have t28 := (srt hG.2.2.1.2.2.2.2.2.2).2.2.2.2.2.2.2.2.2.2.2.2
    by_cases ht : tk = 5
    · have hmu : 1 ≤ mu n tk nx := by unfold mu; rw [if_neg (by omega)]; omega
      have hent := ent_ones hN hb hn ho hG hC (fun x hx => by have := hP.1 x hx; omega) (fun x hx => by have := hW x hx; omega) (by simp; omega) (Or.inl ht)
      obtain ⟨fuel, rfl⟩ : ∃ q, fuel = q + 1 := ⟨fuel - 1, by omega⟩
      rw [show tk + 36 = 41 by omega] at hent
      obtain ⟨S1, r, S2, x1, x2, x3⟩ := body_b (K := K) (fuel := fuel) (t := 5) (L := L) ho hn hent hT (by decide) (Or.inr (Or.inr (by omega))) (by omega) (by omega)
      have lp : f_X6_readE_l8 L N rE rO (nI p1) KK (cf + 1) S 1 (nI i) = if r = 0 then f_X6_readE_l8 L N rE rO (nI p1) KK cf S2 0 (nI (i + 1)) else cl1 (f_X6_write L S2 (nI 5)) fun r_18 S_19 => if r_18 = 0 then f_X6_readE_l8 L N rE rO (nI p1) KK cf S_19 0 (nI (i + 1)) else f_X6_readE_l8 L N rE rO (nI p1) KK cf S_19 1 (nI (i + 1)) := by
        rw [f_X6_readE_l8, n500 (by omega), if_neg (show ¬ (1 : Int32) = 0 by decide), hG.2.2.1.1, if_pos (show nI tk = 5 by rw [ht]; rfl), x1, cl0s, x2, cl1s]
        simp only [bnE, nl_add1]
        rfl
      rw [lp]
      rcases x3 with ⟨r0, y1, y2⟩ | ⟨r1, S3, y1, y2, T3, X, P1, R3, tk3, p3, nx3, v3, ops3, fuel3, w1, w2, w3, w4, w5, w6, w7, w8⟩
      · rw [r0, if_pos rfl]
        obtain ⟨cf, rfl⟩ : ∃ q, cf = q + 1 := ⟨cf - 1, by omega⟩
        refine ⟨0, S2, ?_, y1, Or.inr ⟨rfl, y2⟩⟩
        rw [f_X6_readE_l8, KK0, if_pos (show (0 : Int32) = 0 from rfl), ite_self]
      · rw [r1, if_neg (by decide), y1, cl1s, if_neg (by decide)]
        obtain ⟨e1, e2, e3, e4, e0, e5⟩ := w5
        obtain ⟨r', S4, u1, u2, u3⟩ := ih S3 T3 tk3 p3 nx3 v3 ops3 fuel3 cf (i + 1) _ R3 (41 :: P1) K (by omega) w2 w3 ⟨fun x hx => by
          rcases List.mem_cons.mp hx with h | h
          · omega
          · have := e1 x h; omega, by simp; omega, e3, e4, e0, fun h => (e5 h).cons⟩ w6 (by omega) (by omega)
        refine ⟨r', S4, u1, y2.tr u2, ?_⟩
        rcases u3 with ⟨q1, T4, Y, P2, R4, tk4, p4, nx4, v4, ops4, fuel4, e1, e2, e3, e4, e5, e6, e7, e8⟩ | ⟨q0, T4, e1, e2, e3⟩
        · exact Or.inl ⟨q1, T4, (X ++ [(41, 0)]) ++ Y, P2, R4, tk4, p4, nx4, v4, ops4, fuel4, by rw [w1, e1], by rw [← List.append_assoc]; exact e2, by rw [← List.append_assoc]; exact e3, stay_add w4 (by omega) e4, e5, e6, by omega, w8.tr e8⟩
        · exact Or.inr ⟨q0, T4, by rw [w1, e1], e2, w8.tr e3⟩
    · refine ⟨1, S, ?_, Kp.rf, Or.inl ⟨rfl, T, [], P, R, tk, p, nx, v, ops, fuel, rfl, by rw [List.append_nil]; exact hG, by rw [List.append_nil]; exact hC, stay_nil, ⟨hP.1, hP.2.1, hP.2.2.1, hP.2.2.2.1, hP.2.2.2.2.1, ht, hP.2.2.2.2.2⟩, hfu, by omega, Kp.rf⟩⟩
      rw [f_X6_readE_l8, hG.2.2.1.1, KK1, if_neg (show ¬ (1 : Int32) = 0 by decide), if_neg (show ¬ nI tk = 5 from ne_n (b := 5) ht (by omega) (by omega)), ite_self]
theorem e_g (hN : 1000 ≤ N) (hb : ∀ i, b i < 256) (hn : n ≤ 500) (ho : oko L o) (hT0 : Good N n o b (fun S => f_X6_readBoth L N rE rO S (nI p1)) 0 W (fun _ => True) ExB) (hT : Good N n o b (fun S => f_X6_readBoth L N rE rO S (nI p1)) 0 (W ++ [41]) (fun _ => True) ExB) (hW : ∀ x, W.getLast? = some x → x = 48) (hl : W.length < 200) : Good N n o b (fun S => f_X6_readE L N rE rO S (nI p1)) 0 W (fun _ => True) ExE := by
  intro S T tk p nx v ops fuel C K hG hpre hfu
  obtain ⟨r, S1, x1, x2, x3⟩ := hT0 S T tk p nx v ops fuel C K hG trivial hfu
  dsimp only at x1 ⊢
  have e : f_X6_readE L N rE rO S (nI p1) = f_X6_readE_l8 L N rE rO (nI p1) KK N S1 r (nI 0) := by
    unfold f_X6_readE
    rw [x1, cl1s]
    rfl
  rw [e]
  rcases x3 with ⟨r1, T3, X, P1, R3, tk3, p3, nx3, v3, ops3, fuel3, w1, w2, w3, w4, w5, w6, w7, w8⟩ | ⟨r0, T', w1, w2, w3⟩
  · rw [r1]
    obtain ⟨e1, e2, e3, e4, e0, e5⟩ := w5
    have hmu := mu_le hn w2.2.2.2.2.2.2.2.1 w2.2.2.2.2.2.2.2.2.1
    obtain ⟨r', S4, u1, u2, u3⟩ := e_l hN hb hn ho hT hW hl (mu n tk3 nx3) S1 T3 tk3 p3 nx3 v3 ops3 fuel3 N 0 _ R3 P1 K (Nat.le_refl _) w2 w3 ⟨fun x hx => by have := e1 x hx; omega, by omega, e3, e4, e0, e5⟩ w6 (by omega) (by omega)
    refine ⟨r', S4, u1, x2.tr u2, ?_⟩
    rcases u3 with ⟨q1, T4, Y, P2, R4, tk4, p4, nx4, v4, ops4, fuel4, e1, e2, e3, e4, e5, e6, e7, e8⟩ | ⟨q0, T4, e1, e2, e3⟩
    · exact Or.inl ⟨q1, T4, X ++ Y, P2, R4, tk4, p4, nx4, v4, ops4, fuel4, by rw [w1, e1], by rw [← List.append_assoc]; exact e2, by rw [← List.append_assoc]; exact e3, up_stay w4 e4, e5, e6, by omega, w8.tr e8⟩
    · exact Or.inr ⟨q0, T4, by rw [w1, e1], e2, w8.tr e3⟩
  · rw [r0]
    obtain ⟨N', rfl⟩ : ∃ q, N = q + 1 := ⟨N - 1, by omega⟩
    refine ⟨0, S1, ?_, x2, Or.inr ⟨rfl, T', w1, w2, w3⟩⟩
    rw [f_X6_readE_l8, KK0, if_pos (show (0 : Int32) = 0 from rfl), ite_self]
/-- all levels -/
theorem level_g (hN : 1000 ≤ N) (hb : ∀ i, b i < 256) (hn : n ≤ 500) (ho : oko L o) (h8 : p1 ≤ 8) (hE : p1 < 8 → ∀ W, cE (p1 + 1) W → Good N n o b (fun S => rE S (nI (p1 + 1))) 0 W (fun _ => True) ExE) (hO : p1 < 8 → ∀ W, cO (p1 + 1) W → Good N n o b (fun S => rO S (nI (p1 + 1))) 0 W (fun _ => True) (ExO (p1 + 1))) : (∀ W, cO p1 W → Good N n o b (fun S => f_X6_readOne L N rE rO S (nI p1)) 0 W (fun _ => True) (ExO p1)) ∧ (∀ W, cE p1 W → Good N n o b (fun S => f_X6_readE L N rE rO S (nI p1)) 0 W (fun _ => True) ExE) := by
  have one : ∀ W, cO p1 W → Good N n o b (fun S => f_X6_readOne L N rE rO S (nI p1)) 0 W (fun _ => True) (ExO p1) := fun W hW => one_g hN hb hn ho h8 hE hO hW
  have dap : ∀ (W' : List Nat) (c : Nat), 41 ≤ c → c ≤ 47 → deep (W' ++ [c]) = deep W' := fun W' c h1 h2 => by rw [deep_app]; simp [deep]; omega
  have bth : ∀ W, cB p1 W → Good N n o b (fun S => f_X6_readBoth L N rE rO S (nI p1)) 0 W (fun _ => True) ExB := by
    rintro W ⟨a1, a2, a3⟩
    exact both_g hN hb hn ho (one W ⟨a1, by omega, fun x hx => by have := a3 x hx; omega⟩) (one (W ++ [42]) ⟨by rw [dap W 42 (by omega) (by omega), a1], by simp; omega, fun x hx => by have := last_snoc hx; omega⟩) a3 (by omega)
  refine ⟨one, ?_⟩
  rintro W ⟨a1, a2, a3⟩
  exact e_g hN hb hn ho (bth W ⟨a1, by omega, fun x hx => Or.inl (a3 x hx)⟩) (bth (W ++ [41]) ⟨by rw [dap W 41 (by omega) (by omega), a1], by simp; omega, fun x hx => Or.inr (last_snoc hx)⟩) a3 (by omega)
theorem lev_g (hN : 1000 ≤ N) (hb : ∀ i, b i < 256) (hn : n ≤ 500) (ho : oko L o) : ∀ (d p1 : Nat), p1 + d = 8 → (∀ W, cO p1 W → Good N n o b (fun S => (lev L N (d + 2)).2 S (nI p1)) 0 W (fun _ => True) (ExO p1)) ∧ (∀ W, cE p1 W → Good N n o b (fun S => (lev L N (d + 2)).1 S (nI p1)) 0 W (fun _ => True) ExE) := by
  intro d
  induction d with
  | zero =>
    intro p1 hp
    exact level_g hN hb hn ho (by omega) (fun h => by omega) (fun h => by omega)
  | succ d ih =>
    intro p1 hp
    have := ih (p1 + 1) (by omega)
    exact level_g hN hb hn ho (by omega) (fun _ => this.2) (fun _ => this.1)
end
end LEVEL
