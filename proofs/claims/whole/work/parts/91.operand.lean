section TERM
section
variable {N n o : Nat} {L : List Nat} {b : Nat → Nat} {S T : St} {tk p nx v ops : Nat} {C R : List (Nat × Nat)} {Q : List Nat}
theorem opr_w {m : Nat} (hs : SRt tk T) : f_X11_operand N T (nI m) = f_X11_operand_j28 N T (nI m) (if (8 ≤ tk ∧ tk < 17) ∨ tk = 25 ∨ tk = 26 then 1 else 0) := by
  obtain ⟨s1, s2, _⟩ := srt hs
  unfold f_X11_operand f_X11_operand_j23 f_X11_operand_j27
  by_cases c : tk = 25
  · rw [if_pos (s2.mpr c), if_pos (by omega)]
  · rw [if_neg (fun h => c (s2.mp h))]
    by_cases c1 : tk < 17 ∨ tk = 26
    · rw [if_pos (s1.mpr c1), keyIs hs c1, cl0s]
      by_cases c2 : tk < 8
      · rw [if_pos c2, if_neg (by decide), if_neg (by omega)]
      · rw [if_neg c2, if_pos rfl, if_pos (by omega)]
    · rw [if_neg (fun h => c1 (s1.mp h)), if_neg (by omega)]
theorem opr_d {m : Nat} {w : Int32} (hm : m = 0 ∨ m = 1) (hF : PF T R Q ops) (hd : m = 0 → deep Q < 8) : f_X11_operand_j28 N T (nI m) w = f_X11_operand_j50 N T (nI m) w := by
  unfold f_X11_operand_j28
  rcases hm with h | h
  · subst h
    rw [if_pos (show nI 0 = 0 from rfl), hF.2.2.2.2.2.2.1, if_pos (show nI (deep Q) < 8 from lt_n (b := 8) (hd rfl) (by omega))]
  · subst h
    rw [if_neg (show ¬ nI 1 = 0 by decide)]
theorem opr_deep {m : Nat} {w : Int32} (hm : m = 0) (hF : PF T R Q ops) (hd : 8 ≤ deep Q) (hd2 : deep Q < 1000) : f_X11_operand_j28 N T (nI m) w = cl0 (f_X11_wrong T 2) fun S_45 => some (nI m, S_45) := by
  unfold f_X11_operand_j28
  subst hm
  rw [if_pos (show nI 0 = 0 from rfl), hF.2.2.2.2.2.2.1, if_neg (show ¬ nI (deep Q) < 8 from nlt_n (b := 8) hd (by omega))]
theorem opnd {m : Nat} (hN : 1000 ≤ N) (hb : ∀ i, b i < 256) (hn : n ≤ 500) (ho : oko L o) (hG : G b n o S T tk p nx v C C Q ops) (hm : m = 0 ∨ m = 1) (hd : m = 0 → deep Q < 8) (h7 : m = 0 → tk ≠ 7) (h23 : tk ≠ 23) : ∃ r S', f_X6_readOperand L N S = some (r, S') ∧ Kp (wPc o) S S' ∧ ((r = 1 ∧ ∃ T' c w tk' p' nx' v', f_X11_operand N T (nI m) = some (nI 2, T') ∧ G b n o S' T' tk' p' nx' v' (C ++ [(c, w)]) (C ++ [(c, w)]) Q (ops + 1) ∧ c < 40 ∧ mu n tk' nx' + 1 ≤ mu n tk nx ∧ Kp wPg T T') ∨ (r = 0 ∧ ∃ T', f_X11_operand N T (nI m) = some (nI m, T') ∧ Bad S' T' ∧ Kp wPg T T')) := by
  obtain ⟨hS, hT, ⟨l0, l1, l5, l2, l43, l40, hs⟩, hC, hF, b1, b2, b3, b4, b5, b6, b7, b8⟩ := id hG
  obtain ⟨s1, s2, s0, s3, _, _, _, _, _, _, s40, _, t28⟩ := srt hs
  have hF38 := hF.2.2.2.1
  have hF35 := hF.2.2.1
  have ho2 : 70 ≤ o ∧ o < 77 := ⟨ho.1, ho.2.1⟩
  -- the class
  have cls : f_X6_readOperand L N S = f_X6_readOperand_j38 L N S (nI tk) (if 8 ≤ tk ∧ tk < 17 then 1 else 0) (if (8 ≤ tk ∧ tk < 17) ∨ tk = 25 ∨ tk = 26 then 1 else 0) := by
    unfold f_X6_readOperand f_X6_readOperand_j33
    rw [l0, bnE, within_eq, cl0s]
    by_cases c : 8 ≤ tk ∧ tk < 17
    · have e : ¬ (nI tk < 8 ∨ 16 < nI tk) := fun h => h.elim (nlt_n (b := 8) c.1 (by omega)) (nlt_n (a := 16) (by omega) (by omega))
      rw [if_neg e, if_neg (by decide), if_pos c, if_pos (Or.inl c)]
    · have e : nI tk < 8 ∨ 16 < nI tk := by
        by_cases c8 : tk < 8
        · exact Or.inl (lt_n (b := 8) c8 (by omega))
        · exact Or.inr (lt_n (a := 16) (by omega) (by omega))
      rw [if_pos e, if_pos rfl, if_neg c]
      by_cases c5 : tk = 25
      · rw [if_pos (show nI tk = 25 by rw [c5]; rfl), if_pos (by omega)]
      · rw [if_neg (show ¬ nI tk = 25 from ne_n (b := 25) c5 (by omega) (by omega))]
        by_cases c6 : tk = 26
        · rw [if_pos (show nI tk = 26 by rw [c6]; rfl), if_pos (by omega)]
        · rw [if_neg (show ¬ nI tk = 26 from ne_n (b := 26) c6 (by omega) (by omega)), if_neg (by omega)]
  rw [cls, opr_w hs, opr_d hm hF hd]
  unfold f_X6_readOperand_j38 f_X11_operand_j50
  -- a fault on both sides
  have bad2 : ∀ y : Int32, ∃ S' T', f_X6_refuse S = some (0, S') ∧ f_X11_wrong T 2 = some T' ∧ Bad S' T' ∧ Kp (wPc o) S S' ∧ Kp wPg T T' := by
    intro _
    obtain ⟨S', x1, x2, x3, x4⟩ := refuse_c (o := o) l0 l1 t28
    obtain ⟨T', y1, y2, y3, y4⟩ := wrong_n (f := 2) hs l43 hF38
    refine ⟨S', T', x1, y1, ⟨_, p, ?_, ?_, x2, y2, x3, y3⟩, x4, y4.mo (fun a j h => Or.inl h)⟩ <;> split <;> omega
  by_cases cA : (8 ≤ tk ∧ tk < 17) ∨ tk = 25 ∨ tk = 26
  · rw [if_pos cA]
    simp only [one0, if_false]
    rw [hC.2.2.2.1]
    have nm : ∃ w : Int32, (if gv T 200 42 = 1 then (cl0 (f_X11_named T) fun r_42 => f_X11_operand_j70 N T (nI m) r_42) else f_X11_operand_j70 N T (nI m) 0) = f_X11_operand_j70 N T (nI m) w ∧ (tk = 26 → w = -1) ∧ (8 ≤ tk ∧ tk < 17 → w = nI (tk - 8)) ∧ (tk = 25 → w = nI 0) := by
      by_cases c5 : tk = 25
      · rw [if_neg (fun h => by have := s1.mp h; omega)]
        exact ⟨0, rfl, fun h => by omega, fun h => by omega, fun _ => rfl⟩
      · rw [if_pos (s1.mpr (by omega)), namIs hs (by omega), cl0s]
        refine ⟨_, rfl, fun h => ?_, fun h => ?_, fun h => absurd h c5⟩
        · rw [if_neg (by omega)]
        · rw [if_pos h]
    obtain ⟨w, e1, w1, w2, w3⟩ := nm
    rw [e1]
    unfold f_X11_operand_j70
    rw [hF35]
    by_cases c80 : ops = 80
    · rw [if_neg (show ¬ nI ops < 80 from nlt_n (b := 80) (by omega) (by omega)), if_pos (show nI ops = 80 by rw [c80]; rfl)]
      obtain ⟨S', T', x1, x2, ⟨f, p', f1, f2, f3, f4, f5, f6⟩, x4, x5⟩ := bad2 0
      rw [x1, cl1s, x2, cl0s]
      unfold f_X11_operand_j97
      rw [f4, n0 (by omega) (by omega)]
      exact ⟨0, S', rfl, x4, Or.inr ⟨rfl, T', rfl, ⟨f, p', f1, f2, f3, f4, f5, f6⟩, x5⟩⟩
    · rw [if_pos (show nI ops < 80 from lt_n (b := 80) (by omega) (by omega)), if_neg (show ¬ nI ops = 80 from ne_n (b := 80) c80 (by omega) (by omega))]
      by_cases c6 : tk = 26
      · rw [if_pos (show nI tk = 26 by rw [c6]; rfl), w1 c6, if_neg (by decide)]
        obtain ⟨S', x1, x2, x3, x4⟩ := refuse_n (f := 3) (o := o) l0 l1
        obtain ⟨T', y1, y2, y3, y4⟩ := wrong_n (f := 3) hs l43 hF38
        rw [if_neg (by omega)] at y2
        rw [show (3 : Int32) = nI 3 from rfl, x1, cl1s, y1, cl0s]
        unfold f_X11_operand_j97
        rw [y2, n0 (by omega) (by omega)]
        exact ⟨0, S', rfl, x4, Or.inr ⟨rfl, T', rfl, ⟨3, p, by omega, by omega, x2, y2, x3, y3⟩, y4.mo (fun a j h => Or.inl h)⟩⟩
      · have w0 : (0 : Int32) ≤ w := by
          by_cases c5 : tk = 25
          · rw [w3 c5]; decide
          · rw [w2 (by omega)]; exact le_n (a := 0) (by omega) (by omega)
        rw [if_neg (show ¬ nI tk = 26 from ne_n (b := 26) c6 (by omega) (by omega)), if_pos w0, nl_add1, bnE]
        unfold f_X11_operand_j97
        rw [hF38, if_pos (show (0 : Int32) ≤ 0 by decide)]
        have hp := b3 (by omega)
        -- class: one more operand
        have k1 : Kp (wPc o) S (sv S 110 4 (nI (ops + 1))) := Kp.rf.sv (Or.inl ⟨rfl, by omega⟩)
        have hC1 : PC (sv S 110 4 (nI (ops + 1))) o C (ops + 1) := by
          obtain ⟨q1, q2, q3, q4, q5, q6⟩ := hC
          exact ⟨q1, by rw [gv_ne (by omega)]; exact q2, fun i c v hi => by rw [gv_ne (by omega)]; exact q3 i c v hi, gv_at, by rw [gv_nk (by omega)]; exact q5, by rw [gv_nk (by omega)]; exact q6⟩
        rw [show gr (sv S 110 4 (nI (ops + 1))) 110 3 = some o from hC.1, ocs, if_pos ho]
        have fin : ∀ (x y : Int32) (c w' : Nat), c < 40 → x = tokc c w' → cok c w' → (c = 0 → y = nI w') → ∃ S', (cl0 (f_X5_addCell (sv S 110 4 (nI (ops + 1))) o x) fun S_19 => cl0 (f_X3_advance N S_19) fun S_21 => some ((1 : Int32), S_21)) = some (1, S') ∧ Kp (wPc o) S S' ∧ ∃ T' tk' p' nx' v', (cl0 (f_X11_step T (nI c) y) fun S_33 => bn (sv S_33 200 35 ((gv S_33 200 35) + 1)) fun S_34 => cl0 (f_X11_next N S_34) fun S_36 => some ((2 : Int32), S_36)) = some (nI 2, T') ∧ G b n o S' T' tk' p' nx' v' (C ++ [(c, w')]) (C ++ [(c, w')]) Q (ops + 1) ∧ mu n tk' nx' + 1 ≤ mu n tk nx ∧ Kp wPg T T' := by
          intro x y c w' hc hx hk hy
          have hlen : C.length < 500 := by omega
          obtain ⟨S2, x1, x2, x3⟩ := cell_n' (x := x) (c := c) (w := w') ho2 hC1 hlen hx hk
          obtain ⟨T2, y1, y2, y3⟩ := step_n (c := c) (v := w') (y := y) hF hlen hy
          have hF2 : PF (sv T2 200 35 (nI (ops + 1))) (C ++ [(c, w')]) Q (ops + 1) := by
            obtain ⟨q1, q2, q3, q4, q5, q6, q7, q8⟩ := y2
            exact ⟨by rw [gv_nk (by omega)]; exact q1, fun i c v hi => by rw [gv_ne (by omega), gv_ne (by omega)]; exact q2 i c v hi, gv_at, by rw [gv_nk (by omega)]; exact q4, by rw [gv_nk (by omega)]; exact q5, fun i q hi => by rw [gv_ne (by omega)]; exact q6 i q hi, by rw [gv_nk (by omega)]; exact q7, by rw [gv_nk (by omega)]; exact q8⟩
          have kS2 : Kp (wPc o) S S2 := k1.tr x3
          have kT2 : Kp wPf T (sv T2 200 35 (nI (ops + 1))) := y3.sv (Or.inl ⟨rfl, by omega⟩)
          have x3' : Kp (fun a j => (a = o ∧ j = 4) ∨ a = o + 10 ∨ (a = 110 ∧ j = 4)) S S2 := by
            refine ⟨fun a j h => ?_, fun a j => by rw [x3.2]; rfl⟩
            have := x1
            unfold f_X5_addCell at this
            rw [hC1.2.1, n500 hlen, if_neg (in_ok hlen (by omega)), ix_nI (by omega), bnE, gv_ne (by omega), hC1.2.1, nl_add1, bnE] at this
            rw [← Option.some.inj this, gv_sv, if_neg (by omega), gv_sv, if_neg (by omega), gv_sv, if_neg (by omega)]
          obtain ⟨tk', p', nx', v', S3, T3, z1, z2, z3, z4, z5, z6⟩ := adv (tk := tk) hN hb hn ho2 (hS.kp x3' (fun j => by omega) (by omega)) (hT.kp kT2 (fun j => by unfold wPf; omega) (by unfold wPf; omega)) (by rw [x3'.1 _ _ (by omega)]; exact l5) (by rw [kT2.1 _ _ (by unfold wPf; omega)]; exact l40 (by omega)) x2 hF2 b2 (by simp; omega) (by omega) (by rw [vals_app, ← b7]; simp [vals, hc]) b8 (by omega) (by omega)
          refine ⟨S3, ?_, kS2.tr (z5.mo (fun a j h => Or.inr (Or.inr (Or.inr h)))), T3, tk', p', nx', v', ?_, z3, z4, (kT2.mo (fun a j h => Or.inl h)).tr (z6.mo (fun a j h => Or.inr h))⟩
          · rw [x1, cl0s, z1, cl0s]
          · rw [y1, cl0s, y2.2.2.1, nl_add1, bnE, z2, cl0s]; rfl
        by_cases c5 : tk = 25
        · obtain ⟨v1, v2, v3⟩ := l2 c5
          rw [if_neg (show ¬ (8 ≤ tk ∧ tk < 17) by omega), if_pos (show (0 : Int32) = 0 from rfl), if_pos (s2.mpr c5), gv_ne (by omega), v2, v3]
          obtain ⟨S', x1, x2, T', tk', p', nx', v', x3, x4, x5, x6⟩ := fin (nI v) (nI v) 0 v (by omega) rfl (Or.inl ⟨rfl, v1⟩) (fun _ => rfl)
          exact ⟨1, S', x1, x2, Or.inl ⟨rfl, T', 0, v, tk', p', nx', v', x3, x4, by omega, x5, x6⟩⟩
        · have c8 : 8 ≤ tk ∧ tk < 17 := by omega
          rw [if_pos c8, if_neg (show ¬ (1 : Int32) = 0 by decide), if_neg (fun h => c5 (s2.mp h)), w2 c8, show (20 : Int32) = nI 20 from rfl, nI_add, show 20 + (tk - 8) = tk + 12 by omega]
          obtain ⟨S', x1, x2, T', tk', p', nx', v', x3, x4, x5, x6⟩ := fin ((-1) - nI tk) (gv T 200 44) (tk + 12) 0 (by omega) (by unfold tokc; rw [if_neg (by omega), if_pos (by omega), show tk + 12 - 12 = tk by omega]) (Or.inr (Or.inl (by omega))) (fun h => by omega)
          exact ⟨1, S', x1, x2, Or.inl ⟨rfl, T', tk + 12, 0, tk', p', nx', v', x3, x4, by omega, x5, x6⟩⟩
  · rw [if_neg cA, if_pos rfl, if_pos rfl]
    obtain ⟨S', T', x1, x2, x3, x4, x5⟩ := bad2 0
    rw [x1, cl1s, if_neg (fun h => h23 (s40.mp h)), x2, cl0s]
    refine ⟨0, S', rfl, x4, Or.inr ⟨rfl, T', ?_, x3, x5⟩⟩
    rcases hm with h | h
    · subst h
      rw [if_pos (show nI 0 = 0 from rfl), show (7237492 : Int64) = Int64.ofNat (pk (Wo 7)) by decide, wIs hs (by omega), if_neg (h7 rfl), cl0s, if_pos rfl]
    · subst h
      rw [if_neg (show ¬ nI 1 = 0 by decide)]
end
end TERM
