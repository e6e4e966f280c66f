section STEPS2
theorem InvN.road0 {st st' : Nat} {S S' : St} (h : InvN 0 st S S) (k : Kp rRoad S S') (hm : IRoad st' S' S') : InvN 0 st' S' S' := by
  obtain ⟨hn, hr, hDay, hLet, hFlt, hBil, hRoad, hPas, hTap, hHrd, hOrd⟩ := h
  refine ⟨hn, hr.kp k, hDay.kp k (fun a j => by unfold rDay rRoad; omega), hLet.kp k (fun a j => by unfold rLet rRoad; omega), hFlt.kp k (fun a j => by unfold rFlt rRoad; omega), hBil.kp k (fun a j => by unfold rBil rRoad; omega), hm, hPas.kp k (fun a j => by unfold rPas rRoad; omega), hTap.kp k (fun a j => by unfold rTap rRoad; omega), ?_, hOrd.kp hn hr k (fun a j => by unfold rOrd rRoad; omega)⟩
  have := hHrd.kp hn k (fun a j => by unfold rHrd rRoad; omega)
  exact ⟨this.1, this.2.1, fun k hk => absurd hk (Nat.not_lt_zero _), this.2.2.2⟩
theorem miles_eq {S T : St} (a : Int32) : f_X9_canBeMiles S a = some (if a < 1 ∨ 30 < a then 0 else 1) ∧ f_X11_areMiles T a = some (if a < 1 ∨ 30 < a then 0 else 1) := by
  unfold f_X9_canBeMiles f_X11_areMiles
  rw [within_eq]
  refine ⟨rfl, ?_⟩
  by_cases c1 : a < 1 <;> by_cases c2 : 30 < a <;> simp [c1, c2]
theorem i_rng {a : Int32} {lo hi : Nat} (h1 : lo < 2147483648) (h2 : hi < 2147483648) (c : ¬ (a < nI lo ∨ nI hi < a)) : ∃ m, lo ≤ m ∧ m ≤ hi ∧ a = nI m := by
  have c1 : nI lo ≤ a := i_nlt.mp (fun h => c (Or.inl h))
  have c2 : a ≤ nI hi := i_nlt.mp (fun h => c (Or.inr h))
  have c0 : ¬ a < 0 := by
    intro h
    have h3 : nI lo < 0 := Int32.lt_of_le_of_lt c1 h
    exact nn h1 h3
  obtain ⟨m, hm, e⟩ := i_in h2 c0 c2
  subst e
  exact ⟨m, (nl_le h1 (by omega)).mp c1, hm, rfl⟩
theorem stp_0 {N : Nat} (hN : 1000 ≤ N) : Stp_0 N Inv := by
  intro L S a hi
  obtain ⟨n, st, hL, hv⟩ := id hi
  obtain ⟨hn, hr, hDay, hLet, hFlt, hBil, hRoad, hPas, hTap, ⟨q1, q2, _⟩, _⟩ := id hv
  obtain ⟨s2, s10, r1, r2, ⟨mi, m1, m2, m3, m4⟩, r6, r7⟩ := id hRoad
  unfold f_X10_stance f_X11_stance
  rw [(miles_eq (T := S) a).1, q1]
  by_cases c0 : n = 0
  · subst c0
    by_cases c1 : a < 1 ∨ 30 < a
    · refine ⟨-1, S, S, by simp [bn, cl0, cl1, oc, c1, show ¬ (0 : Int32) < nI 0 from by decide], ?_, hi⟩
      rw [q2, (miles_eq (S := S) a).2]
      by_cases c2 : gv S 200 1 = 10 <;> simp [bn, cl0, cl1, oc, c1, c2, show ¬ (0 : Int32) < nI 0 from by decide]
    · obtain ⟨m, hm1, hm2, e⟩ := i_rng (lo := 1) (hi := 30) (by omega) (by omega) c1
      by_cases c2 : st = 10
      · subst c2
        refine ⟨-1, S, S, ?_, ?_, hi⟩
        · simp [bn, cl0, cl1, oc, c1, f_X9_lengthen, r1, show ¬ nI 10 < 10 from by decide, show ¬ (0 : Int32) < nI 0 from by decide]
        · simp [r2, show nI 10 = 10 from rfl]
      · obtain ⟨u, rfl⟩ : ∃ u, st = u + 1 := ⟨st - 1, by omega⟩
        have hS : ∀ i, i < 10 → gv (sv (sv S 11 u a) 1 0 (nI (u + 2))) 11 i = nI (if i = u then m else mi i) := by
          intro i hi
          by_cases c : i = u
          · simp [gv_sv, c, e]
          · simp [gv_sv, c, (m3 i hi).1]
        obtain ⟨S', e1, e2, e3⟩ := mes_l (N := N) (mi := fun i => if i = u then m else mi i) (st := u + 2) (k := fun S_9 => some S_9) (by omega) (u + 1) (sv (sv S 11 u a) 1 0 (nI (u + 2))) 0 N (by omega) (by omega) hS (by
          have : mi (u + 1) = 0 := m2 _ (by omega)
          simp [this, tf, nI_0])
        have k1 : Kp rRoad S S' := ((Kp.rf.sv (by unfold rRoad; omega)).sv (by unfold rRoad; omega)).tr (e2.mo (fun a j h => by unfold rRoad; have := h.1; omega))
        have f1 : f_X9_fair (sv (sv S 11 u a) 1 0 (nI (u + 2))) = some (nI (u + 1)) := rd_f1 (st := u + 2) (by omega) (by simp [gv_sv])
        have f2 : gv S' 1 0 = nI (u + 2) := by rw [e2.1 1 0 (by unfold wMes; omega)]; simp [gv_sv]
        have f3 : f_X9_fair S' = some (nI (u + 1)) := rd_f1 (st := u + 2) (by omega) f2
        have f4 : ∀ a j, a ≠ 12 → a ≠ 11 → a ≠ 1 → gv S' a j = gv S a j := by
          intro a j h1 h2 h3
          rw [e2.1 a j (by unfold wMes; omega)]; simp [gv_sv, h2, h3]
        have f5 : gv S' 200 1 = nI (u + 1) := by rw [f4 _ _ (by omega) (by omega) (by omega)]; exact r2
        have f6 : gv S' 200 10 = 0 := by rw [f4 _ _ (by omega) (by omega) (by omega)]; exact q2
        refine ⟨nI (u + 1), S', sv (sv S' 203 u a) 200 1 (nI (u + 2)), ?_, ?_, 0, u + 2, hL, hv.road0 ?_ ?_⟩
        · simp only [bn, cl0, cl1, oc, gv_sv, gv_sr, gr_sv, gv_sl, gr_sl, gl_sv, gl_sl, if_neg c1, f_X9_lengthen, r1, show ¬ (0 : Int32) < nI 0 from by decide, or_self, or_false, false_or, if_false, if_true, reduceIte, lt_n (b := 10) (show u + 1 < 10 by omega) (by omega), nl_sub1, nn (show u < 2147483648 by omega), ix_nI (show u < 2147483648 by omega), inG (show u < 10 by omega), nl_add1, f_X9_measure]
          simp only [show ((1 : Int32) = 0) = False from by decide, show ((1 : Nat) = 11) = False from by decide, false_and, if_false, r1, nl_add1, f1, e1, f3, show nI (u + 1) < 10 from lt_n (b := 10) (show u + 1 < 10 by omega) (by omega), if_true]
        · rw [f5, f6, (miles_eq (S := S) a).2]
          simp [bn, cl0, cl1, oc, gv_sv, gv_sr, gr_sv, gv_sl, gr_sl, gl_sv, gl_sl, c1, ne_n (b := 10) (show u + 1 ≠ 10 by omega) (by omega) (by omega), nl_sub1, nn (show u < 2147483648 by omega), ix_nI (show u < 2147483648 by omega), inG (show u < 10 by omega), f5, nl_add1, show ¬ (nI (u + 1) = 10) from ne_n (b := 10) (show u + 1 ≠ 10 by omega) (by omega) (by omega), show ¬ (10 ≤ u) by omega]
        · exact (k1.sv (by unfold rRoad; omega)).sv (by unfold rRoad; omega)
        · refine ⟨by omega, by omega, by simp [gv_sv, f2], by simp [gv_sv], ⟨fun i => if i = u then m else mi i, fun i => ?_, fun i hi => ?_, fun i hi => ?_, fun i hi => ?_⟩, fun i hi => ?_, ?_⟩
          · by_cases c : i = u
            · simp [c]; omega
            · simp [c]; exact m1 i
          · have : ¬ i = u := by omega
            simp [this]; exact m2 i (by omega)
          · refine ⟨?_, ?_⟩
            · have := hS i hi
              rw [← this, ← e2.1 11 i (by unfold wMes; omega)]
              simp [gv_sv]
            · by_cases c : i = u
              · simp [gv_sv, c, e]
              · simp [gv_sv, c]; rw [f4 _ _ (by omega) (by omega) (by omega)]; exact (m3 i hi).2
          · have := e3 i (by omega)
            simp [gv_sv]
            exact this
          · simp [gv_sv]
            rw [f4 _ _ (by omega) (by omega) (by omega), f4 _ _ (by omega) (by omega) (by omega), f4 _ _ (by omega) (by omega) (by omega), f4 _ _ (by omega) (by omega) (by omega), f4 _ _ (by omega) (by omega) (by omega), f4 _ _ (by omega) (by omega) (by omega), f4 _ _ (by omega) (by omega) (by omega), f4 _ _ (by omega) (by omega) (by omega)]
            exact r6 i hi
          · obtain ⟨ga, go, mo, r7⟩ := r7
            refine ⟨ga, go, mo, fun i hi => ?_⟩
            obtain ⟨g1, g2, g3, g4, g5, g6, g7⟩ := r7 i hi
            simp [gv_sv]
            rw [f4 _ _ (by omega) (by omega) (by omega), f4 _ _ (by omega) (by omega) (by omega), f4 _ _ (by omega) (by omega) (by omega)]
            exact ⟨g1, g2, g3, g4, g5, g6, fun h => g7 (by omega)⟩
  · have p : (0 : Int32) < nI n := lt_n (a := 0) (by omega) (by omega)
    refine ⟨-1, S, S, by simp [p], ?_, hi⟩
    rw [q2]
    by_cases c2 : gv S 200 1 = 10 <;> simp [c2, p]
theorem stp_1 {N : Nat} (hN : 1000 ≤ N) : Stp_1 N Inv := by
  intro L S a hi
  obtain ⟨n, st, hL, hv⟩ := id hi
  obtain ⟨hn, hr, hDay, hLet, hFlt, hBil, hRoad, hPas, hTap, ⟨q1, q2, _⟩, _⟩ := id hv
  obtain ⟨s2, s10, r1, r2, ⟨mi, m1, m2, m3, m4⟩, r6, r7⟩ := id hRoad
  unfold f_X10_first f_X11_first
  rw [(miles_eq (T := S) a).1, q1]
  by_cases c0 : n = 0
  · subst c0
    by_cases c1 : a < 1 ∨ 30 < a
    · refine ⟨0, S, S, by simp [bn, cl0, cl1, oc, c1, show ¬ (0 : Int32) < nI 0 from by decide], ?_, hi⟩
      rw [q2, (miles_eq (S := S) a).2]
      simp [bn, cl0, cl1, oc, c1, show ¬ (0 : Int32) < nI 0 from by decide]
    · obtain ⟨m, hm1, hm2, e⟩ := i_rng (lo := 1) (hi := 30) (by omega) (by omega) c1
      obtain ⟨u, rfl⟩ : ∃ u, st = u + 1 := ⟨st - 1, by omega⟩
      have hS : ∀ i, i < 10 → gv (sv S 11 0 a) 11 i = nI (if i = 0 then m else mi i) := by
        intro i hi
        by_cases c : i = 0
        · simp [gv_sv, c, e]
        · simp [gv_sv, c, (m3 i hi).1]
      obtain ⟨S', e1, e2, e3⟩ := mes_l (N := N) (mi := fun i => if i = 0 then m else mi i) (st := u + 1) (k := fun S_9 => some S_9) (by omega) u (sv S 11 0 a) 0 N (by omega) (by omega) hS (by
        have : mi u = 0 := m2 _ (by omega)
        have h0 : ¬ u = 0 := by omega
        simp [this, tf, nI_0, h0])
      have k1 : Kp rRoad S S' := (Kp.rf.sv (by unfold rRoad; omega)).tr (e2.mo (fun a j h => by unfold rRoad; have := h.1; omega))
      have f1 : f_X9_fair (sv S 11 0 a) = some (nI u) := rd_f1 (st := u + 1) (by omega) (by simp [gv_sv, r1])
      have f4 : ∀ a j, a ≠ 12 → a ≠ 11 → gv S' a j = gv S a j := by
        intro a j h1 h2
        rw [e2.1 a j (by unfold wMes; omega)]; simp [gv_sv, h2]
      have f6 : gv S' 200 10 = 0 := by rw [f4 _ _ (by omega) (by omega)]; exact q2
      refine ⟨1, S', sv S' 203 0 a, ?_, ?_, 0, u + 1, hL, hv.road0 ?_ ?_⟩
      · simp only [bn, cl0, cl1, oc, gv_sv, gv_sr, gr_sv, gv_sl, gr_sl, gl_sv, gl_sl, if_neg c1, f_X9_setFirstMiles, show ¬ (0 : Int32) < nI 0 from by decide, or_self, or_false, false_or, if_false, if_true, reduceIte, f_X9_measure, show ix 0 = 0 from rfl, f1, e1, show ((1 : Int32) = 0) = False from by decide]
      · rw [f6, (miles_eq (S := S) a).2]
        simp [bn, cl0, cl1, oc, gv_sv, gv_sr, gr_sv, gv_sl, gr_sl, gl_sv, gl_sl, c1, show ix 0 = 0 from rfl]
      · exact (k1.sv (by unfold rRoad; omega))
      · refine ⟨by omega, by omega, ?_, ?_, ⟨fun i => if i = 0 then m else mi i, fun i => ?_, fun i hi => ?_, fun i hi => ?_, fun i hi => ?_⟩, fun i hi => ?_, ?_⟩
        · simp [gv_sv]; rw [f4 _ _ (by omega) (by omega)]; exact r1
        · simp [gv_sv]; rw [f4 _ _ (by omega) (by omega)]; exact r2
        · by_cases c : i = 0
          · simp [c]; omega
          · simp [c]; exact m1 i
        · have : ¬ i = 0 := by omega
          simp [this]; exact m2 i (by omega)
        · refine ⟨?_, ?_⟩
          · have := hS i hi
            rw [← this, ← e2.1 11 i (by unfold wMes; omega)]
            simp [gv_sv]
          · by_cases c : i = 0
            · simp [gv_sv, c, e]
            · simp [gv_sv, c]; rw [f4 _ _ (by omega) (by omega)]; exact (m3 i hi).2
        · have := e3 i (by omega)
          simp [gv_sv]
          exact this
        · simp [gv_sv]
          rw [f4 _ _ (by omega) (by omega), f4 _ _ (by omega) (by omega), f4 _ _ (by omega) (by omega), f4 _ _ (by omega) (by omega), f4 _ _ (by omega) (by omega), f4 _ _ (by omega) (by omega), f4 _ _ (by omega) (by omega), f4 _ _ (by omega) (by omega)]
          exact r6 i hi
        · obtain ⟨ga, go, mo, r7⟩ := r7
          refine ⟨ga, go, mo, fun i hi => ?_⟩
          obtain ⟨g1, g2, g3, g4, g5, g6, g7⟩ := r7 i hi
          simp [gv_sv]
          rw [f4 _ _ (by omega) (by omega), f4 _ _ (by omega) (by omega), f4 _ _ (by omega) (by omega)]
          exact ⟨g1, g2, g3, g4, g5, g6, fun h => g7 (by omega)⟩
  · have p : (0 : Int32) < nI n := lt_n (a := 0) (by omega) (by omega)
    refine ⟨0, S, S, by simp [p], ?_, hi⟩
    rw [q2]
    simp [p]
theorem stp_2 {N : Nat} : Stp_2 N Inv := by
  intro L S a b c d hi
  obtain ⟨n, st, hL, hv⟩ := id hi
  obtain ⟨hn, hr, hDay, hLet, hFlt, hBil, hRoad, hPas, hTap, ⟨q1, q2, _⟩, _⟩ := id hv
  obtain ⟨s2, s10, r1, r2, hmi, r6, ⟨ga, go, mo, r7⟩⟩ := id hRoad
  unfold f_X10_grass f_X9_sow f_X11_grass
  rw [within_eq, within_eq, within_eq]
  have f1 := rd_f1 s2 r1
  have f2 := rd_f2 s2 r2
  by_cases bad : (d < 0 ∨ 100000 < d) ∨ (b < 0 ∨ d < b) ∨ (c < 0 ∨ 1000 < c)
  · refine ⟨0, S, S, ?_, ?_, hi⟩
    · simp only [bn, cl0, cl1, oc, f_X9_sow_j36, f_X9_sow_j37]
      rcases bad with bad | bad | bad
      · simp [bad]
      · by_cases c1 : d < 0 ∨ 100000 < d <;> simp [bad, c1]
      · by_cases c1 : d < 0 ∨ 100000 < d <;> by_cases c2 : b < 0 ∨ d < b <;> simp [bad, c1, c2]
    · rcases rd_has s10 r1 r2 a with ⟨e1, e2⟩ | ⟨i, hi2, e, e1, e2⟩
      · simp [bn, cl0, cl1, oc, e2]
      · simp only [bn, cl0, cl1, oc, e2, f2, show ((1 : Int32) = 0) = False from by decide, if_false]
        by_cases k0 : a = nI (st - 1)
        · simp [k0]
        by_cases k1 : c < 0
        · simp [k1]
        by_cases k2 : 1000 < c
        · simp [k2]
        by_cases k3 : d < 0
        · simp [k3]
        by_cases k4 : 100000 < d
        · simp [k4]
        by_cases k5 : b < 0
        · simp [k5]
        have k6 : ¬ b ≤ d := by
          rcases bad with bad | bad | bad
          · exact absurd bad (by simp only [k3, k4]; simp)
          · exact i_nle.mpr (bad.resolve_left k5)
          · exact absurd bad (by simp only [k1, k2]; simp)
        simp [k6]
  · have c1 : ¬ (d < 0 ∨ 100000 < d) := fun h => bad (Or.inl h)
    have c2 : ¬ (b < 0 ∨ d < b) := fun h => bad (Or.inr (Or.inl h))
    have c3 : ¬ (c < 0 ∨ 1000 < c) := fun h => bad (Or.inr (Or.inr h))
    have d1 : ¬ d < 0 := fun h => c1 (Or.inl h)
    have d2 : ¬ 100000 < d := fun h => c1 (Or.inr h)
    have b1 : ¬ b < 0 := fun h => c2 (Or.inl h)
    have b2 : b ≤ d := i_nlt.mp fun h => c2 (Or.inr h)
    have g1 : ¬ c < 0 := fun h => c3 (Or.inl h)
    have g2 : ¬ 1000 < c := fun h => c3 (Or.inr h)
    obtain ⟨dn, dn1, dn2⟩ := i_in (m := 100000) (by omega) d1 (i_nlt.mp d2)
    obtain ⟨cn, cn1, cn2⟩ := i_in (m := 1000) (by omega) g1 (i_nlt.mp g2)
    obtain ⟨bn', bn1, bn2⟩ := i_in (m := dn) (by omega) b1 (dn2 ▸ b2)
    rcases rd_has s10 r1 r2 a with ⟨e1, e2⟩ | ⟨i, hi2, e, e1, e2⟩
    · exact ⟨0, S, S, by simp [bn, cl0, cl1, oc, c1, c2, c3, f_X9_sow_j37, e1], by simp [bn, cl0, cl1, oc, e2], hi⟩
    · subst e
      by_cases k0 : i = st - 1
      · refine ⟨0, S, S, ?_, ?_, hi⟩
        · simp [bn, cl0, cl1, oc, c1, c2, c3, f_X9_sow_j37, e1, f1, k0]
          simp [k0] at e1
          simp [e1]
        · simp [k0] at e2
          simp [bn, cl0, cl1, oc, f2, k0, e2]
      · have k1 : ¬ nI i = nI (st - 1) := ne_n k0 (by omega) (by omega)
        have n1 := nn (show i < 2147483648 by omega)
        have n2 := ix_nI (show i < 2147483648 by omega)
        have n3 := inG (show i < 10 by omega)
        refine ⟨1, sv (sv (sv S 13 i b) 14 i c) 15 i d, sv (sv (sv (sv (sv (sv S 13 i b) 14 i c) 15 i d) 204 i b) 205 i c) 206 i d, ?_, ?_, n, st, hL, hv.road ?_ ?_⟩
        · simp only [bn, cl0, cl1, oc, gv_sv, gv_sr, gr_sv, gv_sl, gr_sl, gl_sv, gl_sl, or_self, or_false, false_or, if_false, if_true, reduceIte, c1, c2, c3, f_X9_sow_j37, e1, f1, k1, n1, n2, n3, show ((1 : Int32) = 0) = False from by decide]
        · have e3 : f_X11_isStance (sv (sv (sv S 13 i b) 14 i c) 15 i d) (nI i) = some 1 := rd_h2 s10 (by simp [gv_sv, r2]) hi2
          have e4 : f_X11_fair (sv (sv (sv S 13 i b) 14 i c) 15 i d) = some (nI (st - 1)) := rd_f2 s2 (by simp [gv_sv, r2])
          simp only [bn, cl0, cl1, oc, gv_sv, gv_sr, gr_sv, gv_sl, gr_sl, gl_sv, gl_sl, or_self, or_false, false_or, if_false, if_true, reduceIte, e3, e4, k1, n1, n2, n3, d1, d2, b1, b2, g1, g2, show ((1 : Int32) = 0) = False from by decide]
        · exact (((((Kp.rf.sv (by unfold rRoad; omega)).sv (by unfold rRoad; omega)).sv (by unfold rRoad; omega)).sv (by unfold rRoad; omega)).sv (by unfold rRoad; omega)).sv (by unfold rRoad; omega)
        · refine ⟨s2, s10, by simp [gv_sv, r1], by simp [gv_sv, r2], ?_, fun j hj => ?_, ⟨fun j => if j = i then bn' else ga j, fun j => if j = i then cn else go j, fun j => if j = i then dn else mo j, fun j hj => ?_⟩⟩
          · simp [gv_sv]
            exact hmi
          · by_cases hji : j = i
            · simp [gv_sv, hji]; rw [← hji]; exact (r6 j hj).2.2.2
            · simp [gv_sv, hji]; exact r6 j hj
          · by_cases hji : j = i
            · simp [gv_sv, hji, bn2, cn2, dn2]; omega
            · simp [gv_sv, hji]; exact r7 j hj
theorem stp_16 {N : Nat} : Stp_16 N Inv := by
  intro L S a b c hi
  obtain ⟨n, st, hL, hv⟩ := id hi
  obtain ⟨hn, hr, hDay, hLet, hFlt, ⟨m, b1, b2, b3, b4⟩, _⟩ := id hv
  unfold f_X10_bill f_X0_make f_X11_bill f_X7_isHand f_X11_isHand
  rw [within_eq, within_eq, within_eq]
  by_cases bad : (a < 1 ∨ 1000000 < a) ∨ (b < 0 ∨ 9 < b) ∨ (c < 0 ∨ 100000 < c) ∨ m = 20
  · refine ⟨-1, S, S, ?_, ?_, hi⟩
    · simp only [bn, cl0, cl1, oc, f_X0_make_j31, f_X0_make_j32]
      rcases bad with bad | bad | bad | bad
      · simp [bad]
      · by_cases c1 : a < 1 ∨ 1000000 < a <;> simp [bad, c1]
      · by_cases c1 : a < 1 ∨ 1000000 < a <;> by_cases c2 : b < 0 ∨ 9 < b <;> simp [bad, c1, c2]
      · by_cases c1 : a < 1 ∨ 1000000 < a <;> by_cases c2 : b < 0 ∨ 9 < b <;> by_cases c3 : c < 0 ∨ 100000 < c <;> simp [bad, c1, c2, c3, b2, show ¬ nI 20 < 20 from by decide]
    · simp only [bn, cl0, cl1, oc, b3]
      by_cases k0 : nI m = 20
      · simp [k0]
      by_cases k1 : a < 1
      · simp [k1]
      by_cases k2 : 1000000 < a
      · simp [k2]
      by_cases k3 : b < 0
      · simp [k3]
      by_cases k4 : 9 < b
      · simp [k3, k4]
      by_cases k5 : c < 0
      · simp [k3, k4, k5]
      have k6 : ¬ c ≤ 100000 := by
        rcases bad with bad | bad | bad | bad
        · exact absurd bad (by simp only [k1, k2]; simp)
        · exact absurd bad (by simp only [k3, k4]; simp)
        · exact i_nle.mpr (bad.resolve_left k5)
        · exact absurd (by rw [bad]; rfl) k0
      simp [k3, k4, k6]
  · have c1 : ¬ (a < 1 ∨ 1000000 < a) := fun h => bad (Or.inl h)
    have c2 : ¬ (b < 0 ∨ 9 < b) := fun h => bad (Or.inr (Or.inl h))
    have c3 : ¬ (c < 0 ∨ 100000 < c) := fun h => bad (Or.inr (Or.inr (Or.inl h)))
    have c4 : m < 20 := by
      have : ¬ m = 20 := fun h => bad (Or.inr (Or.inr (Or.inr h)))
      omega
    have k1 : ¬ a < 1 := fun h => c1 (Or.inl h)
    have k2 : ¬ 1000000 < a := fun h => c1 (Or.inr h)
    have k3 : ¬ b < 0 := fun h => c2 (Or.inl h)
    have k4 : ¬ 9 < b := fun h => c2 (Or.inr h)
    have k5 : ¬ c < 0 := fun h => c3 (Or.inl h)
    have k6 : c ≤ 100000 := i_nlt.mp fun h => c3 (Or.inr h)
    have n1 := nn (show m < 2147483648 by omega)
    have n2 := ix_nI (show m < 2147483648 by omega)
    have n3 := inG (show m < 20 by omega)
    have n4 : nI m < 20 := lt_n (b := 20) c4 (by omega)
    have n5 : ¬ nI m = 20 := ne_n (b := 20) (by omega) (by omega) (by omega)
    refine ⟨nI m, sv (sv (sv (sv (sv (sv S 32 m a) 33 m b) 34 m c) 35 m (-1)) 36 m (-1)) 3 0 (nI (m + 1)), sv (sv (sv (sv (sv (sv (sv (sv (sv (sv (sv (sv S 32 m a) 33 m b) 34 m c) 35 m (-1)) 36 m (-1)) 3 0 (nI (m + 1))) 257 m a) 258 m b) 259 m c) 260 m (-1)) 261 m (-1)) 200 54 (nI (m + 1)), ?_, ?_, n, st, hL, hv.bil ?_ ?_⟩
    · simp [bn, cl0, cl1, oc, gv_sv, gv_sr, gr_sv, gv_sl, gr_sl, gl_sv, gl_sl, c1, c2, c3, f_X0_make_j32, b2, n1, n2, n3, n4, nl_add1, nl_sub1, show ¬ 20 ≤ m by omega]
    · simp [bn, cl0, cl1, oc, gv_sv, gv_sr, gr_sv, gv_sl, gr_sl, gl_sv, gl_sl, k1, k2, k3, k4, k5, k6, b3, n1, n2, n3, n5, nl_add1, nl_sub1, show ¬ 20 ≤ m by omega]
    · exact (((((((((((Kp.rf.sv (by unfold rBil; omega)).sv (by unfold rBil; omega)).sv (by unfold rBil; omega)).sv (by unfold rBil; omega)).sv (by unfold rBil; omega)).sv (by unfold rBil; omega)).sv (by unfold rBil; omega)).sv (by unfold rBil; omega)).sv (by unfold rBil; omega)).sv (by unfold rBil; omega)).sv (by unfold rBil; omega)).sv (by unfold rBil; omega)
    · refine ⟨m + 1, by omega, by simp [gv_sv], by simp [gv_sv], fun i hi => ?_⟩
      by_cases him : i = m
      · simp [gv_sv, him]
      · simp [gv_sv, him]; exact b4 i (by omega)
theorem hd_find {S T : St} {n : Nat} (hn : n ≤ 6) (h1 : gv S 0 7 = nI n) (h2 : gv T 200 10 = nI n) (hr : IRef n S) (a : Int32) : (f_X10_findHerd (LL n) S a = some none ∧ f_X11_isHerd T a = some 0) ∨ ∃ k, k < n ∧ a = nI k ∧ f_X10_findHerd (LL n) S a = some (some (60 + k)) ∧ f_X11_isHerd T a = some 1 ∧ okh (LL n) (60 + k) := by
  unfold f_X10_findHerd f_X11_isHerd
  rw [h1, h2]
  by_cases c1 : a < 0
  · left; simp [c1]
  by_cases c2 : nI n ≤ a
  · left; simp [c1, c2]
  · right
    obtain ⟨k, hk, e⟩ := i_lt (by omega) c1 c2
    subst e
    have e6 : (6 : Nat) ∈ LL n := by
      clear hr h1 h2 c1 c2 hk
      induction n with
      | zero => decide
      | succ m ih => simp [LL, herdL]; exact Or.inl (ih (by omega))
    have hm : 60 + k ∈ LL n := hr.2.2.1 6 e6 k (60 + k) (hr.1 k hk)
    have ho : okh (LL n) (60 + k) := ⟨by omega, by omega, hm⟩
    refine ⟨k, hk, rfl, ?_, ?_, ho⟩
    · simp only [bn, cl0, cl1, oc, gv_sv, gv_sr, gr_sv, gv_sl, gr_sl, gl_sv, gl_sl, or_self, or_false, false_or, if_false, if_true, reduceIte, c1, c2, ix_nI (show k < 2147483648 by omega), inG (show k < 6 by omega), hr.1 k hk, if_pos ho]
    · simp [c1, c2]
theorem ok_o {n : Nat} {x : Nat} (hn : n ≤ 6) (hx : x ≤ n) : oko (LL n) (70 + x) := by
  refine ⟨by omega, by omega, ?_⟩
  induction n with
  | zero =>
    have : x = 0 := by omega
    subst this
    decide
  | succ m ih =>
    by_cases h : x ≤ m
    · obtain ⟨i1, i2, i3, i4⟩ := ih (by omega) h
      simp only [LL, herdL, List.mem_append]
      exact ⟨.inl (.inl (.inl (.inl (.inl i1)))), .inl (.inl (.inl (.inl (.inl i2)))), .inl (.inl (.inl (.inl (.inl i3)))), .inl (.inl (.inl (.inl (.inl i4))))⟩
    · have : x = m + 1 := by omega
      subst this
      simp [LL, herdL]
      omega
theorem stp_11 {N : Nat} : Stp_11 N Inv := by
  intro L S a b hi
  obtain ⟨n, st, hL, hv⟩ := id hi
  obtain ⟨hn, hr, hDay, hLet, hFlt, hBil, hRoad, hPas, hTap, ⟨q1, q2, q3, q4⟩, hOrd⟩ := id hv
  subst hL
  unfold f_X10_of f_X11_of
  rcases hd_find hn q1 q2 hr a with ⟨e1, e2⟩ | ⟨k, hk, e, e1, e2, e3⟩
  · exact ⟨-1, by simp [bn, cl0, cl1, oc, e1], by simp [bn, cl0, cl1, oc, e2], hi⟩
  · subst e
    obtain ⟨f, f1, f2, f3, f4⟩ := hr.2.1
    obtain ⟨Ls, o1, o2, o3, _⟩ := hOrd.1 k _ hk (f2 k hk)
    obtain ⟨g1, g2, g3, g4, g5, g6, g7, g8, g9, g10, g11, _⟩ := q3 k hk
    have ho := ok_o hn (f3 k (by omega))
    simp only [e1, e2, if_pos e3, f_X1_tell, bn, cl0, cl1, oc, gv_sv, gv_sr, gr_sv, gv_sl, gr_sl, gl_sv, gl_sl, or_self, or_false, false_or, if_false, if_true, reduceIte, nn (show k < 2147483648 by omega), ix_nI (show k < 2147483648 by omega), inG (show k < 6 by omega), g1, g2, g3, g4, g5, g6, g7, g8, g9, g10, g11, show ((1 : Int32) = 0) = False from by decide, f2 k hk, if_pos ho, o2, o3]
    by_cases c0 : b = 0
    · exact ⟨gv S 212 k, by simp [c0], by simp [c0], hi⟩
    by_cases c1 : b = 1
    · exact ⟨gv S 213 k, by simp [c1], by simp [c1], hi⟩
    by_cases c2 : b = 2
    · exact ⟨gv S 216 k, by simp [c2], by simp [c2], hi⟩
    by_cases c3 : b = 3
    · exact ⟨gv S 217 k, by simp [c3], by simp [c3], hi⟩
    by_cases c4 : b = 4
    · exact ⟨gv S 218 k, by simp [c4], by simp [c4], hi⟩
    by_cases c5 : b = 5
    · exact ⟨gv S 219 k, by simp [c5], by simp [c5], hi⟩
    by_cases c6 : b = 6
    · exact ⟨gv S 220 k, by simp [c6], by simp [c6], hi⟩
    by_cases c7 : b = 7
    · exact ⟨gv S 221 k, by simp [c7], by simp [c7], hi⟩
    by_cases c8 : b = 8
    · exact ⟨nI Ls.length, by simp [c8], by simp [c8], hi⟩
    by_cases c9 : b = 9
    · exact ⟨gv S 222 k, by simp [c9], by simp [c9], hi⟩
    exact ⟨-1, by simp [c0, c1, c2, c3, c4, c5, c6, c7, c8, c9], by simp [c0, c1, c2, c3, c4, c5, c6, c7, c8, c9], hi⟩
end STEPS2
