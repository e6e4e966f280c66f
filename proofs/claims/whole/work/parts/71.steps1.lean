section STEPS1
theorem InvN.day {n st : Nat} {S S' : St} (h : InvN n st S S) (k : Kp rDay S S') (hm : IDay S' S') : InvN n st S' S' := by
  obtain ⟨hn, hr, hDay, hLet, hFlt, hBil, hRoad, hPas, hTap, hHrd, hOrd⟩ := h
  exact ⟨hn, hr.kp k, hm, hLet.kp k (fun a j => by unfold rLet rDay; omega), hFlt.kp k (fun a j => by unfold rFlt rDay; omega), hBil.kp k (fun a j => by unfold rBil rDay; omega), hRoad.kp k (fun a j => by unfold rRoad rDay; omega), hPas.kp k (fun a j => by unfold rPas rDay; omega), hTap.kp k (fun a j => by unfold rTap rDay; omega), hHrd.kp hn k (fun a j => by unfold rHrd rDay; omega), hOrd.kp hn hr k (fun a j => by unfold rOrd rDay; omega)⟩
theorem InvN.let {n st : Nat} {S S' : St} (h : InvN n st S S) (k : Kp rLet S S') (hm : ILet S' S') : InvN n st S' S' := by
  obtain ⟨hn, hr, hDay, hLet, hFlt, hBil, hRoad, hPas, hTap, hHrd, hOrd⟩ := h
  exact ⟨hn, hr.kp k, hDay.kp k (fun a j => by unfold rDay rLet; omega), hm, hFlt.kp k (fun a j => by unfold rFlt rLet; omega), hBil.kp k (fun a j => by unfold rBil rLet; omega), hRoad.kp k (fun a j => by unfold rRoad rLet; omega), hPas.kp k (fun a j => by unfold rPas rLet; omega), hTap.kp k (fun a j => by unfold rTap rLet; omega), hHrd.kp hn k (fun a j => by unfold rHrd rLet; omega), hOrd.kp hn hr k (fun a j => by unfold rOrd rLet; omega)⟩
theorem InvN.flt {n st : Nat} {S S' : St} (h : InvN n st S S) (k : Kp rFlt S S') (hm : IFlt S' S') : InvN n st S' S' := by
  obtain ⟨hn, hr, hDay, hLet, hFlt, hBil, hRoad, hPas, hTap, hHrd, hOrd⟩ := h
  exact ⟨hn, hr.kp k, hDay.kp k (fun a j => by unfold rDay rFlt; omega), hLet.kp k (fun a j => by unfold rLet rFlt; omega), hm, hBil.kp k (fun a j => by unfold rBil rFlt; omega), hRoad.kp k (fun a j => by unfold rRoad rFlt; omega), hPas.kp k (fun a j => by unfold rPas rFlt; omega), hTap.kp k (fun a j => by unfold rTap rFlt; omega), hHrd.kp hn k (fun a j => by unfold rHrd rFlt; omega), hOrd.kp hn hr k (fun a j => by unfold rOrd rFlt; omega)⟩
theorem InvN.bil {n st : Nat} {S S' : St} (h : InvN n st S S) (k : Kp rBil S S') (hm : IBil S' S') : InvN n st S' S' := by
  obtain ⟨hn, hr, hDay, hLet, hFlt, hBil, hRoad, hPas, hTap, hHrd, hOrd⟩ := h
  exact ⟨hn, hr.kp k, hDay.kp k (fun a j => by unfold rDay rBil; omega), hLet.kp k (fun a j => by unfold rLet rBil; omega), hFlt.kp k (fun a j => by unfold rFlt rBil; omega), hm, hRoad.kp k (fun a j => by unfold rRoad rBil; omega), hPas.kp k (fun a j => by unfold rPas rBil; omega), hTap.kp k (fun a j => by unfold rTap rBil; omega), hHrd.kp hn k (fun a j => by unfold rHrd rBil; omega), hOrd.kp hn hr k (fun a j => by unfold rOrd rBil; omega)⟩
theorem InvN.road {n st : Nat} {S S' : St} (h : InvN n st S S) (k : Kp rRoad S S') (hm : IRoad st S' S') : InvN n st S' S' := by
  obtain ⟨hn, hr, hDay, hLet, hFlt, hBil, hRoad, hPas, hTap, hHrd, hOrd⟩ := h
  exact ⟨hn, hr.kp k, hDay.kp k (fun a j => by unfold rDay rRoad; omega), hLet.kp k (fun a j => by unfold rLet rRoad; omega), hFlt.kp k (fun a j => by unfold rFlt rRoad; omega), hBil.kp k (fun a j => by unfold rBil rRoad; omega), hm, hPas.kp k (fun a j => by unfold rPas rRoad; omega), hTap.kp k (fun a j => by unfold rTap rRoad; omega), hHrd.kp hn k (fun a j => by unfold rHrd rRoad; omega), hOrd.kp hn hr k (fun a j => by unfold rOrd rRoad; omega)⟩
theorem InvN.pas {n st : Nat} {S S' : St} (h : InvN n st S S) (k : Kp rPas S S') (hm : IPas S' S') : InvN n st S' S' := by
  obtain ⟨hn, hr, hDay, hLet, hFlt, hBil, hRoad, hPas, hTap, hHrd, hOrd⟩ := h
  exact ⟨hn, hr.kp k, hDay.kp k (fun a j => by unfold rDay rPas; omega), hLet.kp k (fun a j => by unfold rLet rPas; omega), hFlt.kp k (fun a j => by unfold rFlt rPas; omega), hBil.kp k (fun a j => by unfold rBil rPas; omega), hRoad.kp k (fun a j => by unfold rRoad rPas; omega), hm, hTap.kp k (fun a j => by unfold rTap rPas; omega), hHrd.kp hn k (fun a j => by unfold rHrd rPas; omega), hOrd.kp hn hr k (fun a j => by unfold rOrd rPas; omega)⟩
theorem InvN.tap {n st : Nat} {S S' : St} (h : InvN n st S S) (k : Kp rTap S S') (hm : ITap S' S') : InvN n st S' S' := by
  obtain ⟨hn, hr, hDay, hLet, hFlt, hBil, hRoad, hPas, hTap, hHrd, hOrd⟩ := h
  exact ⟨hn, hr.kp k, hDay.kp k (fun a j => by unfold rDay rTap; omega), hLet.kp k (fun a j => by unfold rLet rTap; omega), hFlt.kp k (fun a j => by unfold rFlt rTap; omega), hBil.kp k (fun a j => by unfold rBil rTap; omega), hRoad.kp k (fun a j => by unfold rRoad rTap; omega), hPas.kp k (fun a j => by unfold rPas rTap; omega), hm, hHrd.kp hn k (fun a j => by unfold rHrd rTap; omega), hOrd.kp hn hr k (fun a j => by unfold rOrd rTap; omega)⟩
theorem InvN.hrd {n st : Nat} {S S' : St} (h : InvN n st S S) (k : Kp rHrd S S') (hm : IHrd n st S' S') : InvN n st S' S' := by
  obtain ⟨hn, hr, hDay, hLet, hFlt, hBil, hRoad, hPas, hTap, hHrd, hOrd⟩ := h
  exact ⟨hn, hr.kp k, hDay.kp k (fun a j => by unfold rDay rHrd; omega), hLet.kp k (fun a j => by unfold rLet rHrd; omega), hFlt.kp k (fun a j => by unfold rFlt rHrd; omega), hBil.kp k (fun a j => by unfold rBil rHrd; omega), hRoad.kp k (fun a j => by unfold rRoad rHrd; omega), hPas.kp k (fun a j => by unfold rPas rHrd; omega), hTap.kp k (fun a j => by unfold rTap rHrd; omega), hm, hOrd.kp hn hr k (fun a j => by unfold rOrd rHrd; omega)⟩
theorem InvN.ord {n st : Nat} {S S' : St} (h : InvN n st S S) (k : Kp rOrd S S') (hm : IOrd n S' S') : InvN n st S' S' := by
  obtain ⟨hn, hr, hDay, hLet, hFlt, hBil, hRoad, hPas, hTap, hHrd, hOrd⟩ := h
  exact ⟨hn, hr.kp k, hDay.kp k (fun a j => by unfold rDay rOrd; omega), hLet.kp k (fun a j => by unfold rLet rOrd; omega), hFlt.kp k (fun a j => by unfold rFlt rOrd; omega), hBil.kp k (fun a j => by unfold rBil rOrd; omega), hRoad.kp k (fun a j => by unfold rRoad rOrd; omega), hPas.kp k (fun a j => by unfold rPas rOrd; omega), hTap.kp k (fun a j => by unfold rTap rOrd; omega), hHrd.kp hn k (fun a j => by unfold rHrd rOrd; omega), hm⟩
/-! what only asks -/
theorem stp_22 {N : Nat} : Stp_22 N Inv := by
  intro L S a1 hi
  obtain ⟨n, st, hL, hn, hr, ⟨d, d1, d2, d3⟩, ⟨nl, _, l2, l3, _⟩, hFlt, ⟨nb, _, b2, b3, _⟩, ⟨_, _, r3, r4, _⟩, ⟨np, _, p2, p3, _⟩, ⟨nt, _, t2, t3, _⟩, ⟨h2, h3, _⟩, hOrd⟩ := id hi
  unfold f_X10_about f_X11_about
  rw [d2, d3, l2, l3, b2, b3, r3, r4, p2, p3, t2, t3, h2, h3]
  by_cases c0 : a1 = 0
  · exact ⟨_, if_pos c0, if_pos c0, hi⟩
  by_cases c1 : a1 = 1
  · exact ⟨nI st, by simp [c1], by simp [c1], hi⟩
  by_cases c2 : a1 = 2
  · exact ⟨nI n, by simp [c2], by simp [c2], hi⟩
  by_cases c3 : a1 = 3
  · exact ⟨nI nl, by simp [c3], by simp [c3], hi⟩
  by_cases c4 : a1 = 4
  · exact ⟨nI nb, by simp [c4], by simp [c4], hi⟩
  by_cases c5 : a1 = 5
  · exact ⟨nI np, by simp [c5], by simp [c5], hi⟩
  by_cases c6 : a1 = 6
  · exact ⟨nI nt, by simp [c6], by simp [c6], hi⟩
  exact ⟨-1, by simp [c0, c1, c2, c3, c4, c5, c6], by simp [c0, c1, c2, c3, c4, c5, c6], hi⟩
theorem stp_9 {N : Nat} : Stp_9 N Inv := by
  intro L S a1 hi
  obtain ⟨n, st, hL, hn, hr, hDay, hLet, hFlt, _⟩ := id hi
  unfold f_X10_fault f_X11_fault
  rw [hFlt.1, hFlt.2]
  exact ⟨if a1 = 0 then gv S 200 38 else if a1 = 1 then gv S 200 39 else -1, by by_cases c0 : a1 = 0 <;> by_cases c1 : a1 = 1 <;> simp [c0, c1], by by_cases c0 : a1 = 0 <;> by_cases c1 : a1 = 1 <;> simp [c0, c1], hi⟩
theorem bil_has {S : St} {n : Nat} (hn : n ≤ 20) (h1 : gv S 3 0 = nI n) (h2 : gv S 200 54 = nI n) (b : Int32) : (f_X0_has S b = some 0 ∧ f_X11_isBill S b = some 0) ∨ ∃ i, i < n ∧ b = nI i ∧ f_X0_has S b = some 1 ∧ f_X11_isBill S b = some 1 := by
  unfold f_X0_has f_X11_isBill
  rw [h1, h2]
  by_cases c1 : b < 0
  · left; simp [c1]
  by_cases c2 : nI n ≤ b
  · left; simp [c1, c2]
  · right
    obtain ⟨i, hi, e⟩ := i_lt (by omega) c1 c2
    exact ⟨i, hi, e, by simp [c1, c2], by simp [c1, c2]⟩
theorem stp_21 {N : Nat} : Stp_21 N Inv := by
  intro L S a1 a2 hi
  obtain ⟨n, st, hL, hn, hr, hDay, hLet, hFlt, ⟨nb, b1, b2, b3, b4⟩, _⟩ := id hi
  unfold f_X10_paid f_X0_tell f_X11_paid
  rcases bil_has b1 b2 b3 a1 with ⟨e1, e2⟩ | ⟨i, hi2, e, e1, e2⟩
  · exact ⟨-1, by simp [bn, cl0, cl1, oc, e1], by simp [bn, cl0, cl1, oc, e2], hi⟩
  · subst e
    obtain ⟨g1, g2, g3, g4, g5, g6⟩ := b4 i hi2
    have i1 := inF (k := i) (n := 20) (by omega) (by omega)
    simp only [e1, e2, bn, cl0, cl1, oc, ix_nI (show i < 2147483648 by omega), g1, g4, g5, i1]
    by_cases c0 : a2 = 0
    · exact ⟨gv S 257 i, by simp [c0], by simp [c0], hi⟩
    by_cases c1 : a2 = 1
    · exact ⟨gv S 260 i, by simp [c1], by simp [c1], hi⟩
    by_cases c2 : a2 = 2
    · exact ⟨gv S 261 i, by simp [c2], by simp [c2], hi⟩
    exact ⟨-1, by simp [c0, c1, c2], by simp [c0, c1, c2], hi⟩
theorem stp_4 {N : Nat} : Stp_4 N Inv := by
  intro L S a hi
  obtain ⟨n, st, hL, hv⟩ := id hi
  obtain ⟨hn, hr, ⟨d, d1, d2, d3⟩, ⟨m, a1, a2, a3, a4⟩, _⟩ := id hv
  unfold f_X10_letter f_X2_send f_X11_letter
  rw [within_eq]
  by_cases c1 : a < 0 ∨ 1000 < a
  · refine ⟨-1, S, S, ?_, ?_, hi⟩
    · simp [cl0, cl1, c1]
    · by_cases c2 : gv S 200 7 = 30
      · simp [c2]
      · rcases c1 with c1 | c1
        · simp [c2, c1]
        · have c3 : ¬ a ≤ 1000 := Int32.not_le.mpr c1
          simp [c2, c3]
  · have c5 : ¬ a < 0 := fun h => c1 (Or.inl h)
    have c6 : a ≤ 1000 := Int32.not_lt.mp (fun h => c1 (Or.inr h))
    obtain ⟨p, p1, p2⟩ := i_in (m := 1000) (by omega) c5 c6
    by_cases c2 : m < 30
    · have i1 := inF c2 (by omega)
      have x1 := ix_nI (show m < 2147483648 by omega)
      have c3 : nI m < 30 := lt_n (b := 30) c2 (by omega)
      have c4 : ¬ nI m = 30 := ne_n (b := 30) (by omega) (by omega) (by omega)
      refine ⟨nI (m + 1), sv (sv (sv S 21 m a) 22 m (gv S 0 11)) 2 0 (nI (m + 1)), sv (sv (sv (sv (sv (sv S 21 m a) 22 m (gv S 0 11)) 2 0 (nI (m + 1))) 209 m a) 210 m (gv S 200 0)) 200 7 (nI (m + 1)), ?_, ?_, n, st, hL, hv.let ?_ ?_⟩
      · simp [cl0, cl1, bn, c1, a2, c3, i1, x1, gv_sv, nl_add1]
        try rfl
      · simp [bn, c4, c5, c6, a3, i1, x1, gv_sv, nl_add1]
      · exact (((((Kp.rf.sv (by simp [rLet])).sv (by simp [rLet])).sv (by simp [rLet])).sv (by simp [rLet])).sv (by simp [rLet])).sv (by simp [rLet])
      · refine ⟨m + 1, by omega, by simp [gv_sv], by simp [gv_sv], fun i hi => ?_⟩
        by_cases hin : i = m
        · subst hin
          simp [gv_sv, d2, d3]
          exact ⟨p, p1, p2⟩
        · have := a4 i (by omega)
          simp [gv_sv, hin]
          exact this
    · have e : m = 30 := by omega
      subst e
      have q : ¬ nI 30 < 30 := by decide
      refine ⟨-1, S, S, ?_, ?_, hi⟩
      · simp only [cl0, cl1, if_neg c1, a2]
        simp [q]
      · simp only [a3]
        simp [show nI 30 = 30 from rfl]
theorem stp_7 {N : Nat} : Stp_7 N Inv := by
  intro L S a hi
  obtain ⟨n, st, hL, hv⟩ := id hi
  obtain ⟨hn, hr, hDay, hLet, hFlt, hBil, hRoad, hPas, ⟨m, a1, a2, a3, a4⟩, _⟩ := id hv
  unfold f_X10_end f_X11_end
  rw [within_eq, a2]
  by_cases c1 : a < 0
  · exact ⟨-1, S, S, by simp [bn, cl0, cl1, oc, c1], by simp [c1], hi⟩
  by_cases c2 : nI m < a
  · exact ⟨-1, S, S, by simp [bn, cl0, cl1, oc, c2], by simp [c1, a3, i_nle.mpr c2], hi⟩
  obtain ⟨k, k1, k2⟩ := i_in (by omega) c1 (i_nlt.mp c2)
  refine ⟨a, sv S 0 8 a, sv (sv S 0 8 a) 200 37 a, ?_, ?_, n, st, hL, hv.tap ?_ ?_⟩
  · simp [bn, cl0, cl1, oc, c1, c2]
  · simp [bn, cl0, cl1, oc, gv_sv, gv_sr, gr_sv, gv_sl, gr_sl, gl_sv, gl_sl, c1, a3, i_nlt.mp c2]
  · exact (Kp.rf.sv (by simp [rTap])).sv (by simp [rTap])
  · refine ⟨k, by omega, by simp [gv_sv, k2], by simp [gv_sv, k2], fun i hi => ?_⟩
    have := a4 i (by omega)
    simp [gv_sv]
    exact this
theorem stp_18 {N : Nat} : Stp_18 N Inv := by
  intro L S a hi
  obtain ⟨n, st, hL, hv⟩ := id hi
  obtain ⟨hn, hr, ⟨d, d1, d2, d3⟩, hLet, hFlt, hBil, hRoad, ⟨m, a1, a2, a3, ⟨dy, a4⟩, ⟨sg, s1, s2, s3⟩⟩, _⟩ := id hv
  unfold f_X10_untell f_X7_takeBack f_X11_untell
  rw [a2, d2]
  by_cases c1 : a < 0
  · exact ⟨0, S, S, by simp [bn, cl0, cl1, oc, c1], by simp [c1], hi⟩
  by_cases c2 : nI m ≤ a
  · exact ⟨0, S, S, by simp [bn, cl0, cl1, oc, c1, c2], by simp [c1, a3, c2], hi⟩
  obtain ⟨k, k1, k2⟩ := i_lt (by omega) c1 c2
  subst k2
  have i1 := inF (k := k) (n := 60) (by omega) (by omega)
  have x1 := ix_nI (show k < 2147483648 by omega)
  obtain ⟨g1, g2, g3, g4, g5, g6, g7, g8, g9⟩ := a4 k k1
  simp only [bn, cl0, cl1, oc, gv_sv, gv_sr, gr_sv, gv_sl, gr_sl, gl_sv, gl_sl, if_neg c1, if_neg c2, x1, i1, g6, a3, d3]
  rcases g9 with g9 | ⟨e, e1, e2⟩
  · refine ⟨1, sv S 46 k (nI d), sv (sv S 46 k (nI d)) 267 k (nI d), ?_, ?_, n, st, hL, hv.pas ?_ ?_⟩
    · simp [g9]
    · simp [g9, bn, cl0, cl1, oc, gv_sv, gv_sr, gr_sv, gv_sl, gr_sl, gl_sv, gl_sl, c2, a3, d3, c1, i1, x1]
    · exact (Kp.rf.sv (by simp [rPas])).sv (by simp [rPas])
    · refine ⟨m, a1, by simp [gv_sv, a2], by simp [gv_sv, a3], ⟨dy, fun i hi => ?_⟩, ⟨sg, fun i hi => ?_, s2, fun i j h1 h2 => ?_⟩⟩
      · obtain ⟨g1, g2, g3, g4, g5, g6, g7, g8, g9⟩ := a4 i hi
        by_cases hik : i = k
        · subst hik
          simp [gv_sv, g1, g2, g3, g4, g5, g7, g8]
          exact Or.inr ⟨d, d1, rfl⟩
        · simp [gv_sv, hik, g1, g2, g3, g4, g5, g6, g7, g8]
          simp only [g7] at *
          exact g9
      · simp [gv_sv]; exact s1 i hi
      · simp [gv_sv]; exact s3 i j h1 h2
  · have q : ¬ nI e = -1 := by
      intro h
      have := congrArg Int32.toInt h
      rw [ti_n (by omega)] at this
      have e2 : ((-1 : Int32)).toInt = -1 := by decide
      omega
    refine ⟨0, S, S, ?_, ?_, hi⟩
    · simp [e2, q]
    · simp [e2, c1, a3, c2, nn (show e < 2147483648 by omega), i1, x1]
end STEPS1
