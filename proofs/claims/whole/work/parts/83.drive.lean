section DRIVE
def wWk (k : Nat) (a j : Nat) : Prop := a = 207 ∨ hwR k a j
theorem r_walk {N k he we so sc co m : Nat} {le sd de at' : Int32} {T : St} (hk : k < 6) (hsc : sc + 1 < 10) (hm : m ≤ 30) (h : HT T k he we so sc co le sd de at') (hmi : gv T 203 sc = nI m) (h1 : he ≤ 500) (h2 : we ≤ 700) (h3 : so ≤ 400) : ∃ T', f_X11_walk N T (nI k) = f_X11_walk_j143 N T' (nI k) ∧ HT T' k (he - lo he (so + m)) (we - m / 5) (so + m) (sc + 1) co (le + nI (lo he (so + m))) sd de at' ∧ Kp (wWk k) T T' ∧ ∀ i, gv T' 207 i = if i = sc + 1 then gv T 207 i + nI (lo he (so + m)) else gv T 207 i := by
  obtain ⟨a1, a2, a3, a4, a5, a6, a7, a8, a9⟩ := h
  have q5 : nI m / 5 = nI (m / 5) := by rw [show (5 : Int32) = nI 5 from rfl, nI_div' (by omega) (by omega)]
  have q7 : nI he / 20 + 1 = nI (he / 20 + 1) := by rw [show (20 : Int32) = nI 20 from rfl, nI_div' (by omega) (by omega), nl_add1]
  have j63 : ∃ T1, f_X11_walk N T (nI k) = f_X11_walk_j63 N T1 (nI k) (nI k) (nI (we - m / 5)) ∧ HT T1 k he we (so + m) (sc + 1) co le sd de at' ∧ Kp (wWk k) T T1 ∧ ∀ i, gv T1 207 i = gv T 207 i := by
    refine ⟨sv (sv T 217 k (nI (sc + 1))) 216 k (nI (so + m)), ?_, ?_, (Kp.rf.sv (Or.inr ⟨by omega, rfl⟩)).sv (Or.inr ⟨by omega, rfl⟩), fun i => by simp [gv_sv]⟩
    · unfold f_X11_walk
      simp only [bn, cl0, cl1, oc, nn (show k < 2147483648 by omega), ix_nI (show k < 2147483648 by omega), inG hk, or_self, or_false, false_or, if_false, if_true, reduceIte, a4, nn (show sc < 2147483648 by omega), ix_nI (show sc < 2147483648 by omega), inG (show sc < 10 by omega), hmi, nl_add1, q5]
      have e1 : gv (sv T 217 k (nI (sc + 1))) 216 k = nI so := by simp [gv_sv, a3]
      rw [e1, nI_add]
      have e2 : gv (sv (sv T 217 k (nI (sc + 1))) 216 k (nI (so + m))) 213 k = nI we := by simp [gv_sv, a2]
      rw [e2, ite_le (by omega) (by omega)]
      by_cases c : m / 5 ≤ we
      · rw [if_pos c, nI_sub' c]
      · rw [if_neg c, show we - m / 5 = 0 by omega]
        rfl
    · refine ⟨?_, ?_, ?_, ?_, ?_, ?_, ?_, ?_, ?_⟩ <;> simp [gv_sv, a1, a2, a3, a4, a5, a6, a7, a8, a9]
  obtain ⟨T1, e1, ⟨b1, b2, b3, b4, b5, b6, b7, b8, b9⟩, k1, g1⟩ := j63
  have hH : HT (sv T1 213 k (nI (we - m / 5))) k he (we - m / 5) (so + m) (sc + 1) co le sd de at' := by
    refine ⟨?_, ?_, ?_, ?_, ?_, ?_, ?_, ?_, ?_⟩ <;> simp [gv_sv, b1, b2, b3, b4, b5, b6, b7, b8, b9]
  have k2 : Kp (wWk k) T (sv T1 213 k (nI (we - m / 5))) := k1.sv (Or.inr ⟨by omega, rfl⟩)
  have g2 : ∀ i, gv (sv T1 213 k (nI (we - m / 5))) 207 i = gv T 207 i := fun i => by rw [gv_ne (by omega)]; exact g1 i
  rw [e1]
  unfold f_X11_walk_j63
  simp only [bn, cl0, cl1, oc, nn (show k < 2147483648 by omega), ix_nI (show k < 2147483648 by omega), inG hk, or_self, or_false, false_or, if_false, if_true, reduceIte, hH.2.2.1, hH.1, q7]
  generalize sv T1 213 k (nI (we - m / 5)) = T2 at hH k2 g2 ⊢
  obtain ⟨c1, c2, c3, c4, c5, c6, c7, c8, c9⟩ := id hH
  rw [show (60 : Int32) = nI 60 from rfl, ite_le (by omega) (by omega), ite_le (by omega) (by omega)]
  unfold lo
  by_cases c : 60 < so + m
  · rw [if_neg (show ¬ so + m ≤ 60 by omega)]
    simp only [if_pos c]
    have fin : ∀ x, x = min (he / 20 + 1) he → ∃ T', f_X11_walk_j107 N T2 (nI k) (nI x) = f_X11_walk_j143 N T' (nI k) ∧ HT T' k (he - x) (we - m / 5) (so + m) (sc + 1) co (le + nI x) sd de at' ∧ Kp (wWk k) T T' ∧ ∀ i, gv T' 207 i = if i = sc + 1 then gv T 207 i + nI x else gv T 207 i := by
      intro x hx
      unfold f_X11_walk_j107
      have e5 : gv (sv (sv T2 212 k (nI he - nI x)) 219 k (gv (sv T2 212 k (nI he - nI x)) 219 k + nI x)) 217 k = nI (sc + 1) := by simp [gv_sv, c4]
      simp only [bn, cl0, cl1, oc, nn (show k < 2147483648 by omega), ix_nI (show k < 2147483648 by omega), inG hk, or_self, or_false, false_or, if_false, if_true, reduceIte, c1, e5, nn (show sc + 1 < 2147483648 by omega), ix_nI (show sc + 1 < 2147483648 by omega), inG hsc]
      rw [nI_sub' (by omega)]
      refine ⟨_, rfl, ?_, ((k2.sv (Or.inr ⟨by omega, rfl⟩)).sv (Or.inr ⟨by omega, rfl⟩)).sv (Or.inl rfl), fun i => ?_⟩
      · refine ⟨?_, ?_, ?_, ?_, ?_, ?_, ?_, ?_, ?_⟩ <;> simp [gv_sv, c1, c2, c3, c4, c5, c6, c7, c8, c9]
      · by_cases ci : i = sc + 1
        · subst ci
          simp [gv_sv, g2]
        · simp [gv_sv, g2, ci]
    by_cases c2 : he / 20 + 1 ≤ he
    · rw [if_pos c2]
      have := fin (he / 20 + 1) (by omega)
      rw [Nat.min_eq_left c2]
      exact this
    · rw [if_neg c2]
      have := fin he (by omega)
      rw [Nat.min_eq_right (by omega)]
      exact this
  · rw [if_pos (show so + m ≤ 60 by omega)]
    simp only [if_neg c]
    refine ⟨T2, rfl, ?_, k2, fun i => ?_⟩
    · rw [show nI 0 = 0 from rfl, Int32.add_zero]
      exact hH
    · rw [g2 i, show nI 0 = 0 from rfl, Int32.add_zero, ite_self]
/-- the road after a change of grass and of what was left behind -/
theorem IRoad.set {st : Nat} {S S' T T' : St} (h : IRoad st S T) (e : ∀ a j, a < 200 → rRoad a j → a ≠ 13 → a ≠ 16 → gv S' a j = gv S a j) (e' : ∀ a j, 200 ≤ a → rRoad a j → a ≠ 204 → a ≠ 207 → gv T' a j = gv T a j) (h16 : ∀ i, i < 10 → gv S' 16 i = gv T' 207 i) (h13 : ∀ i, i < 10 → ∃ g m : Nat, gv S' 13 i = nI g ∧ gv T' 204 i = nI g ∧ gv T 206 i = nI m ∧ m ≤ 100000 ∧ g ≤ m) : IRoad st S' T' := by
  obtain ⟨s2, s10, r1, r2, ⟨mi, m1, m2, m3, m4⟩, r6, ⟨ga, go, mo, r7⟩⟩ := h
  have x206 : ∀ i, gv T' 206 i = gv T 206 i := fun i => e' 206 i (by omega) (by unfold rRoad; omega) (by omega) (by omega)
  have x205 : ∀ i, gv T' 205 i = gv T 205 i := fun i => e' 205 i (by omega) (by unfold rRoad; omega) (by omega) (by omega)
  refine ⟨s2, s10, ?_, ?_, ⟨mi, m1, m2, fun i hi => ⟨?_, ?_⟩, fun i hi => ?_⟩, fun i hi => ⟨?_, ?_, ?_, h16 i hi⟩, ⟨fun i => if h : i < 10 then (h13 i h).choose else 0, go, mo, fun i hi => ?_⟩⟩
  · rw [e 1 0 (by omega) (by unfold rRoad; omega) (by omega) (by omega)]; exact r1
  · rw [e' 200 1 (by omega) (by unfold rRoad; omega) (by omega) (by omega)]; exact r2
  · rw [e 11 i (by omega) (by unfold rRoad; omega) (by omega) (by omega)]; exact (m3 i hi).1
  · rw [e' 203 i (by omega) (by unfold rRoad; omega) (by omega) (by omega)]; exact (m3 i hi).2
  · rw [e 12 i (by omega) (by unfold rRoad; omega) (by omega) (by omega)]; exact m4 i hi
  · obtain ⟨g, m, q1, q2, _⟩ := h13 i hi
    rw [q1, q2]
  · rw [e 14 i (by omega) (by unfold rRoad; omega) (by omega) (by omega), x205]; exact (r6 i hi).2.1
  · rw [e 15 i (by omega) (by unfold rRoad; omega) (by omega) (by omega), x206]; exact (r6 i hi).2.2.1
  · obtain ⟨m, q1, q2, q3, q4, q5⟩ := (h13 i hi).choose_spec
    obtain ⟨p1, p2, p3, p4, p5, p6, p7⟩ := r7 i hi
    have : m = mo i := (nl_eq (by omega) (by omega)).mp (q3.symm.trans p3)
    subst this
    simp only [dif_pos hi]
    refine ⟨q2, by rw [x205]; exact p2, by rw [x206]; exact p3, q5, p5, p6, fun hs => ?_⟩
    have := p7 hs
    omega
/-- a herd's day is over: all together -/
def wcl (k : Nat) (a j : Nat) : Prop := (a = 60 + k ∧ 2 ≤ j) ∨ a = 13 ∨ a = 16 ∨ a = 50 ∨ a = 51 ∨ (a = 5 ∧ j = 2)
def wrf (k : Nat) (a j : Nat) : Prop := hwR k a j ∨ a = 204 ∨ a = 207 ∨ a = 250 ∨ a = 251
theorem drive_end {n st k he we so sc co : Nat} {le sd de at' : Int32} {S S' T T' : St} (h : InvN n st S T) (hk : k < n) (kS : Kp (wcl k) S S') (kT : Kp (wrf k) T T') (hR : IRoad st S' T') (hS : HS S' (60 + k) he we so sc co le sd de at') (hT : HT T' k he we so sc co le sd de at') (b1 : he ≤ 500) (b2 : we ≤ 700) (b3 : so ≤ 30 * sc) (b4 : sc + 1 ≤ st) (b5 : 0 < he → sc + 2 ≤ st) (b6 : co ≤ 2000000000) : InvN n st S' T' := by
  obtain ⟨hn, hr, hDay, hLet, hFlt, hBil, hRoad, hPas, hTap, ⟨q1, q2, q3, q4⟩, hOrd⟩ := h
  have nS : ∀ (r : Nat → Nat → Prop), (∀ a j, r a j → ¬ wcl k a j) → ∀ a j, a < 200 → r a j → gv S' a j = gv S a j := fun r h a j _ hr => kS.1 a j (h a j hr)
  have nT : ∀ (r : Nat → Nat → Prop), (∀ a j, 200 ≤ a → r a j → ¬ wrf k a j) → ∀ a j, 200 ≤ a → r a j → gv T' a j = gv T a j := fun r h a j h2 hr => kT.1 a j (h a j h2 hr)
  refine ⟨hn, hr.fr kS.2, hDay.fr (nS _ ?_) (nT _ ?_), hLet.fr (nS _ ?_) (nT _ ?_), hFlt.fr (nS _ ?_) (nT _ ?_), hBil.fr (nS _ ?_) (nT _ ?_), hR, hPas.fr (nS _ ?_) (nT _ ?_), hTap.fr (nS _ ?_) (nT _ ?_), ⟨?_, ?_, fun i hi => ?_, fun i h1 h2 => ?_⟩, hOrd.fr hn hr kS.2 (nS _ ?_) (nT _ ?_)⟩
  all_goals first
    | (intro a j hr; unfold wcl; first | (unfold rDay at hr; omega) | (unfold rLet at hr; omega) | (unfold rFlt at hr; omega) | (unfold rBil at hr; omega) | (unfold rPas at hr; omega) | (unfold rTap at hr; omega) | (unfold rOrd at hr; omega))
    | (intro a j h2 hr; unfold wrf hwR; first | (unfold rDay at hr; omega) | (unfold rLet at hr; omega) | (unfold rFlt at hr; omega) | (unfold rBil at hr; omega) | (unfold rPas at hr; omega) | (unfold rTap at hr; omega) | (unfold rOrd at hr; omega))
    | skip
  · rw [kS.1 _ _ (by unfold wcl; omega)]; exact q1
  · rw [kT.1 _ _ (by unfold wrf hwR; omega)]; exact q2
  · by_cases c : i = k
    · subst c
      obtain ⟨g1, g2, _, _, _, _, _, _, _, _, _, he0, we0, so0, sc0, co0, ne, _, _, _, _, _, _, _, _, _, _, _, g3, g4⟩ := q3 i hi
      obtain ⟨x1, x2, x3, x4, x5, x6, x7, x8, x9⟩ := hS
      obtain ⟨y1, y2, y3, y4, y5, y6, y7, y8, y9⟩ := hT
      have z0 : gv S' (60 + i) 0 = gv S (60 + i) 0 := kS.1 _ _ (by unfold wcl; omega)
      have z1 : gv S' (60 + i) 1 = gv S (60 + i) 1 := kS.1 _ _ (by unfold wcl; omega)
      have z2 : gv T' 214 i = gv T 214 i := kT.1 _ _ (by unfold wrf hwR; omega)
      have z3 : gv T' 215 i = gv T 215 i := kT.1 _ _ (by unfold wrf hwR; omega)
      rw [z0, z1, z2, z3, x1, x2, x3, x4, x5, x6, x7, x8, x9, y1, y2, y3, y4, y5, y6, y7, y8, y9]
      exact ⟨g1, g2, rfl, rfl, rfl, rfl, rfl, rfl, rfl, rfl, rfl, he, we, so, sc, co, ne, rfl, b1, rfl, b2, rfl, b3, rfl, b4, b5, rfl, b6, g3, g4⟩
    · have eS : ∀ j, gv S' (60 + i) j = gv S (60 + i) j := fun j => kS.1 _ _ (by unfold wcl; omega)
      have eT : ∀ a, 212 ≤ a → a ≤ 222 → gv T' a i = gv T a i := fun a h1 h2 => kT.1 _ _ (by unfold wrf hwR; omega)
      simp only [eS, eT 212 (by omega) (by omega), eT 213 (by omega) (by omega), eT 214 (by omega) (by omega), eT 215 (by omega) (by omega), eT 216 (by omega) (by omega), eT 217 (by omega) (by omega), eT 218 (by omega) (by omega), eT 219 (by omega) (by omega), eT 220 (by omega) (by omega), eT 221 (by omega) (by omega), eT 222 (by omega) (by omega)]
      exact q3 i hi
  · have eT : ∀ a, 212 ≤ a → a ≤ 222 → gv T' a i = gv T a i := fun a h1 h2 => kT.1 _ _ (by unfold wrf hwR; omega)
    simp only [eT 216 (by omega) (by omega), eT 217 (by omega) (by omega), eT 218 (by omega) (by omega), eT 219 (by omega) (by omega), eT 220 (by omega) (by omega), eT 221 (by omega) (by omega), eT 222 (by omega) (by omega)]
    exact q4 i h1 h2
def nmf (d he we so : Nat) (g : Int32) (m sc p w : Nat) : Nat → Int32
  | 0 => nI d
  | 1 => nI he
  | 2 => nI we
  | 3 => nI so
  | 4 => g
  | 5 => nI m
  | 6 => nI sc
  | 7 => nI p
  | _ => nI w
theorem lt9 {i : Nat} (h : i < 9) : i = 0 ∨ i = 1 ∨ i = 2 ∨ i = 3 ∨ i = 4 ∨ i = 5 ∨ i = 6 ∨ i = 7 ∨ i = 8 := by omega
theorem c_learn {st k he we so sc co d p m ne : Nat} {g le sd de at' : Int32} {S : St} (hk : k < 6) (hst : st ≤ 10) (r1 : gv S 1 0 = nI st) (hsc : sc < st) (hg : gv S 13 sc = g) (hm : gv S 11 sc = nI m) (h : HS S (60 + k) he we so sc co le sd de at') (h0 : gv S (60 + k) 0 = nI ne) : ∃ S', f_X8_learn S (60 + k) (nI d) (nI p) = some S' ∧ Kp (fun a _ => a = 50) S S' ∧ ∀ i, i < 9 → gv S' 50 i = nmf d he we so g m sc p (he * ne) i := by
  obtain ⟨a1, a2, a3, a4, a5, a6, a7, a8, a9⟩ := h
  have i0 : ix 0 = 0 := rfl
  have i1 : ix 1 = 1 := rfl
  have i2 : ix 2 = 2 := rfl
  have i3 : ix 3 = 3 := rfl
  have i4 : ix 4 = 4 := rfl
  have i5 : ix 5 = 5 := rfl
  have i6 : ix 6 = 6 := rfl
  have i7 : ix 7 = 7 := rfl
  have i8 : ix 8 = 8 := rfl
  have n50 : ∀ (S2 : St) (a j i : Nat) (x : Int32), a ≠ 50 → gv (sv S2 50 i x) a j = gv S2 a j := fun S2 a j i x h => gv_ne h
  have ha : ∀ S2 : St, (∀ a j, a ≠ 50 → gv S2 a j = gv S a j) → f_X9_grassAt S2 (nI sc) = some g ∧ f_X9_milesOfStage S2 (nI sc) = some (nI m) := by
    intro S2 h2
    have : f_X9_has S2 (nI sc) = some 1 := rd_h1 hst (by rw [h2 _ _ (by omega)]; exact r1) hsc
    unfold f_X9_grassAt f_X9_milesOfStage
    rw [this]
    simp only [bn, cl0, cl1, oc, one0, if_false, nn (show sc < 2147483648 by omega), ix_nI (show sc < 2147483648 by omega), inG (show sc < 10 by omega), or_self, or_false, false_or, if_false, if_true, reduceIte, h2 13 sc (by omega), h2 11 sc (by omega), hg, hm, and_self]
  unfold f_X8_learn
  simp only [bn, cl0, cl1, oc, i0, i1, i2, i3, i4, i5, i6, i7, i8, n50 _ (60 + k) _ _ _ (by omega), a1, a2, a3, a4]
  rw [(ha _ (fun a j h => by rw [n50 _ _ _ _ _ h, n50 _ _ _ _ _ h, n50 _ _ _ _ _ h, n50 _ _ _ _ _ h])).1]
  simp only [bn, cl0, cl1, oc, n50 _ (60 + k) _ _ _ (by omega), a4]
  rw [(ha _ (fun a j h => by rw [n50 _ _ _ _ _ h, n50 _ _ _ _ _ h, n50 _ _ _ _ _ h, n50 _ _ _ _ _ h, n50 _ _ _ _ _ h])).2]
  unfold f_X1_want
  simp only [bn, cl0, cl1, oc, n50 _ (60 + k) _ _ _ (by omega), a1, a4, h0, nI_mul]
  refine ⟨_, rfl, ?_, fun i hi => ?_⟩
  · refine Kp.sv ?_ rfl
    refine Kp.sv ?_ rfl
    refine Kp.sv ?_ rfl
    refine Kp.sv ?_ rfl
    refine Kp.sv ?_ rfl
    refine Kp.sv ?_ rfl
    refine Kp.sv ?_ rfl
    refine Kp.sv ?_ rfl
    refine Kp.sv ?_ rfl
    exact Kp.rf
  · rcases lt9 hi with rfl | rfl | rfl | rfl | rfl | rfl | rfl | rfl | rfl <;> simp [gv_sv, nmf]
theorem r_learn {N st k he we so sc co d p m ne : Nat} {g le sd de at' : Int32} {T : St} (hk : k < 6) (hst : st ≤ 10) (hsc : sc < st) (hd : gv T 200 0 = nI d) (hg : gv T 204 sc = g) (hm : gv T 203 sc = nI m) (h : HT T k he we so sc co le sd de at') (h0 : gv T 214 k = nI ne) (hp : ∀ T2 : St, Kp (fun a _ => a = 251) T T2 → f_X11_knownAt N T2 (nI sc) (nI d) = some (nI p)) : ∃ T', f_X11_go N T (nI k) = f_X11_go_l123 N (nI k) (fun S_29 x_30 => f_X11_go_j148 N S_29 (nI k) x_30) N T' 0 ∧ Kp (fun a _ => a = 251) T T' ∧ ∀ i, i < 9 → gv T' 251 i = nmf d he we so g m sc p (he * ne) i := by
  obtain ⟨a1, a2, a3, a4, a5, a6, a7, a8, a9⟩ := h
  have i0 : ix 0 = 0 := rfl
  have i1 : ix 1 = 1 := rfl
  have i2 : ix 2 = 2 := rfl
  have i3 : ix 3 = 3 := rfl
  have i4 : ix 4 = 4 := rfl
  have i5 : ix 5 = 5 := rfl
  have i6 : ix 6 = 6 := rfl
  have i7 : ix 7 = 7 := rfl
  have i8 : ix 8 = 8 := rfl
  have n50 : ∀ (S2 : St) (a j i : Nat) (x : Int32), a ≠ 251 → gv (sv S2 251 i x) a j = gv S2 a j := fun S2 a j i x h => gv_ne h
  unfold f_X11_go
  simp only [bn, cl0, cl1, oc, i0, i1, i2, i3, i4, i5, i6, i7, i8, n50 _ 212 _ _ _ (by omega), n50 _ 213 _ _ _ (by omega), n50 _ 216 _ _ _ (by omega), n50 _ 204 _ _ _ (by omega), n50 _ 203 _ _ _ (by omega), n50 _ 214 _ _ _ (by omega), n50 _ 200 _ _ _ (by omega), nn (show k < 2147483648 by omega), ix_nI (show k < 2147483648 by omega), inG hk, or_self, or_false, false_or, if_false, if_true, reduceIte, a1, a2, a3, a4, nn (show sc < 2147483648 by omega), ix_nI (show sc < 2147483648 by omega), inG (show sc < 10 by omega), hd, hg, hm, h0, nI_mul]
  rw [hp _ (by
    refine Kp.sv ?_ rfl
    refine Kp.sv ?_ rfl
    refine Kp.sv ?_ rfl
    refine Kp.sv ?_ rfl
    refine Kp.sv ?_ rfl
    refine Kp.sv ?_ rfl
    refine Kp.sv ?_ rfl
    exact Kp.rf)]
  simp only [bn, cl0, cl1, oc]
  refine ⟨_, rfl, ?_, fun i hi => ?_⟩
  · refine Kp.sv ?_ rfl
    refine Kp.sv ?_ rfl
    refine Kp.sv ?_ rfl
    refine Kp.sv ?_ rfl
    refine Kp.sv ?_ rfl
    refine Kp.sv ?_ rfl
    refine Kp.sv ?_ rfl
    refine Kp.sv ?_ rfl
    refine Kp.sv ?_ rfl
    exact Kp.rf
  · rcases lt9 hi with rfl | rfl | rfl | rfl | rfl | rfl | rfl | rfl | rfl <;> simp [gv_sv, nmf]
def wEa (k : Nat) (a j : Nat) : Prop := a = 13 ∨ hwC (60 + k) a j
theorem eat_both {N st k he we so sc co ne p : Nat} {L : List Nat} {le sd de at' v3 : Int32} {S T : St} (hk : k < 6) (hR : IRoad st S T) (hS : HS S (60 + k) he we so sc co le sd de at') (hT : HT T k he we so sc co le sd de at') (n1 : gv S (60 + k) 0 = nI ne) (n2 : gv T 214 k = nI ne) (hne : ne ≤ 20) (b1 : he ≤ 500) (b2 : we ≤ 700) (hsc : sc < st) (hp : (v3 = -1 ∧ p = 1) ∨ (v3 ≠ -1 ∧ p = 0)) : ∃ S' T' he' we' de' at'', f_X10_drive_j57 L N (60 + k) S v3 = some S' ∧ (if gv T 212 k ≤ 0 then some T else (cl0 (f_X11_eat T (nI k) (nI p)) fun S_67 => some S_67)) = some T' ∧ HS S' (60 + k) he' we' so sc co le sd de' at'' ∧ HT T' k he' we' so sc co le sd de' at'' ∧ IRoad st S' T' ∧ he' ≤ he ∧ we' ≤ 700 ∧ Kp (wEa k) S S' ∧ Kp (wG k) T T' := by
  obtain ⟨s2, s10, r1, r2, ⟨mi, m1, m2, m3, m4⟩, r6, ⟨ga, go, mo, r7⟩⟩ := id hR
  unfold f_X10_drive_j57
  rw [hS.1, hT.1]
  by_cases c0 : he = 0
  · subst c0
    rw [if_pos (show nI 0 ≤ 0 from by decide), if_pos (show nI 0 ≤ 0 from by decide)]
    exact ⟨S, T, 0, we, de, at', rfl, rfl, hS, hT, hR, Nat.le_refl _, b2, Kp.rf, Kp.rf⟩
  · have hb : he * ne ≤ 500 * 20 := Nat.mul_le_mul b1 hne
    obtain ⟨g1, g2, g3, g4, g5, g6, g7⟩ := r7 sc (by omega)
    have g0 : gv S 13 sc = nI (ga sc) := by rw [(r6 sc (by omega)).1]; exact g1
    rw [n0 (by omega) (by omega), n0 (by omega) (by omega)]
    unfold f_X1_want f_X9_graze f_X9_grassAt
    rw [hS.1, n1, nI_mul, hS.2.2.2.1, rd_h1 s10 r1 hsc]
    simp only [bn, cl0, cl1, oc, one0, if_false, nn (show sc < 2147483648 by omega), ix_nI (show sc < 2147483648 by omega), inG (show sc < 10 by omega), or_self, or_false, false_or, if_false, if_true, reduceIte, g0]
    rw [n_min (by omega) (by omega), nI_sub' (Nat.min_le_left _ _)]
    have hS1 : HS (sv S 13 sc (nI (ga sc - min (ga sc) (he * ne)))) (60 + k) he we so sc co le sd de at' := hS.kp (w := fun a _ => a = 13) (Kp.rf.sv rfl) (fun j => by omega)
    obtain ⟨T', t1, t2, t3, t4⟩ := r_eat (p := p) hk (by omega) hT n2 g1 (by omega) hne b1 b2 (by omega)
    obtain ⟨S', u1, u2, u3⟩ := c_eat (ate := min (ga sc) (he * ne)) (p := p) hS1 (by rw [gv_ne (by omega)]; exact n1) hne b1 b2 (by omega) (by omega)
    have kS : Kp (wEa k) S S' := ((Kp.rf.sv (Or.inl rfl) : Kp (wEa k) S (sv S 13 sc (nI (ga sc - min (ga sc) (he * ne)))))).tr (u3.mo (fun a j h => Or.inr h))
    refine ⟨S', T', _, _, _, _, ?_, ?_, u2, t2, ?_, Nat.sub_le _ _, ?_, kS, t3⟩
    · rcases hp with ⟨h1, h2⟩ | ⟨h1, h2⟩
      · subst h2
        rw [if_pos h1, show (1 : Int32) = nI 1 from rfl, u1]
      · subst h2
        rw [if_neg h1, show (0 : Int32) = nI 0 from rfl, u1]
    · rw [t1]
    · refine hR.set (fun a j h1 h2 h3 h4 => kS.1 a j (by unfold wEa hwC; unfold rRoad at h2; omega)) (fun a j h1 h2 h3 h4 => t3.1 a j (by unfold wG hwR; unfold rRoad at h2; omega)) (fun i hi => ?_) (fun i hi => ?_)
      · rw [kS.1 _ _ (by unfold wEa hwC; omega), t3.1 _ _ (by unfold wG hwR; omega)]
        exact (r6 i hi).2.2.2
      · obtain ⟨q1, q2, q3, q4, q5, q6, q7⟩ := r7 i hi
        have e13 : gv S' 13 i = if i = sc then nI (ga sc - min (ga sc) (he * ne)) else gv S 13 i := by
          rw [u3.1 _ _ (by unfold hwC; omega)]
          by_cases c : i = sc
          · subst c; rw [gv_at, if_pos rfl]
          · rw [gv_nk c, if_neg c]
        by_cases c : i = sc
        · refine ⟨ga sc - min (ga sc) (he * ne), mo i, ?_, ?_, q3, q5, by rw [c]; omega⟩
          · rw [e13, if_pos c]
          · rw [t4, if_pos c]
        · refine ⟨ga i, mo i, ?_, ?_, q3, q5, q4⟩
          · rw [e13, if_neg c, (r6 i hi).1]; exact q1
          · rw [t4, if_neg c]; exact q1
    · unfold wE
      split
      · omega
      · omega
theorem prod_n {a b c q : Nat} (ha : a ≤ 500) (hb : b ≤ 700) (hc : c ≤ 1000) (hq : q < 2147483648) : nI a * nI b * nI c / nI q = nI (a * b * c / q) ∧ a * b * c / q ≤ 350000000 := by
  have b1 : a * b ≤ 500 * 700 := Nat.mul_le_mul ha hb
  have b2 : a * b * c ≤ 500 * 700 * 1000 := Nat.mul_le_mul b1 hc
  have b3 : a * b * c / q ≤ a * b * c := Nat.div_le_self _ _
  refine ⟨?_, by omega⟩
  rw [nI_mul, nI_mul, nI_div' (by omega) hq]
theorem prod_b {a b c q : Nat} (ha : a ≤ 500) (hb : b ≤ 700) (hc : c ≤ 1000) (hq : 100 ≤ q) : a * b * c / q ≤ 3500000 := by
  have b1 : a * b ≤ 500 * 700 := Nat.mul_le_mul ha hb
  have b2 : a * b * c ≤ 500 * 700 * 1000 := Nat.mul_le_mul b1 hc
  have h1 : a * b * c / q ≤ a * b * c / 100 := Nat.div_le_div_left hq (by omega)
  omega
/-- what is true of a pair of states in the middle of a herd's day -/
def Mid (n st k d p he we so sc co ne : Nat) (le sd de at' : Int32) (S T : St) : Prop := k < 6 ∧ gv S 0 11 = nI d ∧ gv T 200 0 = nI d ∧ ILet S T ∧ IRoad st S T ∧ HS S (60 + k) he we so sc co le sd de at' ∧ HT T k he we so sc co le sd de at' ∧ gv S (60 + k) 0 = nI ne ∧ gv T 214 k = nI ne ∧ ne ≤ 20 ∧ he ≤ 500 ∧ we ≤ 700 ∧ so ≤ 30 * sc ∧ 0 < he ∧ sc + 2 ≤ st ∧ co ≤ 2000000000 ∧ p ≤ 1000 ∧ gv T 251 7 = nI p
def wD (k : Nat) (a j : Nat) : Prop := a = 13 ∨ a = 16 ∨ hwC (60 + k) a j
def wDr (k : Nat) (a j : Nat) : Prop := a = 204 ∨ a = 207 ∨ hwR k a j
def Dfin (st k : Nat) (S T S' T' : St) : Prop := ∃ he we so sc co : Nat, ∃ le sd de at' : Int32, HS S' (60 + k) he we so sc co le sd de at' ∧ HT T' k he we so sc co le sd de at' ∧ IRoad st S' T' ∧ he ≤ 500 ∧ we ≤ 700 ∧ so ≤ 30 * sc ∧ sc + 1 ≤ st ∧ (0 < he → sc + 2 ≤ st) ∧ co ≤ 2000000000 ∧ Kp (wD k) S S' ∧ Kp (wDr k) T T'
theorem walk_both {N n st k d p he we so sc co ne : Nat} {L : List Nat} {le sd de at' v3 : Int32} {S T : St} (hN : 1000 ≤ N) (h : Mid n st k d p he we so sc co ne le sd de at' S T) : ∃ S' T', (cl0 (f_X10_walkOn N S (60 + k)) fun S_26 => f_X10_drive_j57 L N (60 + k) S_26 (-1)) = some S' ∧ f_X11_go_j173 N T (nI k) v3 0 = some T' ∧ Dfin st k S T S' T' := by
  obtain ⟨hk, d1, d2, hl, hR, hS, hT, n1, n2, hne, b1, b2, b3, b0, b4, b5, b6, b7⟩ := h
  obtain ⟨s2, s10, r1, r2, ⟨mi, m1, m2, m3, m4⟩, r6, r7⟩ := id hR
  have hm := m1 sc
  obtain ⟨S6, w1, w2, w3⟩ := c_walk (m := mi sc) hm hS b1 b2 (by omega) (by omega)
  obtain ⟨T7, x1, x2, x3, x4⟩ := r_walk (N := N) hk (show sc + 1 < 10 by omega) hm hT (m3 sc (by omega)).2 b1 b2 (by omega)
  generalize hlo : lo he (so + mi sc) = lw at w1 w2 x2 x4
  have has6 : f_X9_has S6 (nI (sc + 1)) = some 1 := rd_h1 s10 (by rw [w3.1 _ _ (by unfold hwC; omega)]; exact r1) (by omega)
  generalize hS7 : sv S6 16 (sc + 1) (gv S6 16 (sc + 1) + nI lw) = S7
  have note : f_X9_noteLeft S6 (nI (sc + 1)) (nI lw) = some S7 := by
    unfold f_X9_noteLeft
    rw [has6]
    simp only [bn, cl0, cl1, oc, one0, if_false, nn (show sc + 1 < 2147483648 by omega), ix_nI (show sc + 1 < 2147483648 by omega), inG (show sc + 1 < 10 by omega), or_self, or_false, false_or, if_false, if_true, reduceIte, hS7]
  have k7 : Kp (wD k) S S7 := by
    rw [← hS7]
    exact (w3.mo (fun a j h => Or.inr (Or.inr h)) : Kp (wD k) S S6).sv (Or.inr (Or.inl rfl))
  have hS7h : HS S7 (60 + k) (he - lw) (we - mi sc / 5) (so + mi sc) (sc + 1) co (le + nI lw) sd de at' := by
    rw [← hS7]
    exact w2.kp (w := fun a _ => a = 16) (Kp.rf.sv rfl) (fun j => by omega)
  have hR7 : IRoad st S7 T7 := by
    refine hR.set (fun a j h1 h2 h3 h4 => k7.1 a j (by unfold wD hwC; unfold rRoad at h2; omega)) (fun a j h1 h2 h3 h4 => x3.1 a j (by unfold wWk hwR; unfold rRoad at h2; omega)) (fun i hi => ?_) (fun i hi => ?_)
    · rw [x4, ← hS7]
      by_cases c : i = sc + 1
      · subst c
        rw [gv_at, if_pos rfl, w3.1 _ _ (by unfold hwC; omega), (r6 _ hi).2.2.2]
      · rw [gv_nk c, if_neg c, w3.1 _ _ (by unfold hwC; omega), (r6 _ hi).2.2.2]
    · obtain ⟨ga, go, mo, r8⟩ := r7
      obtain ⟨q1, q2, q3, q4, q5, q6, q7⟩ := r8 i hi
      refine ⟨ga i, mo i, ?_, ?_, q3, q5, q4⟩
      · rw [← hS7, gv_ne (by omega), w3.1 _ _ (by unfold hwC; omega), (r6 i hi).1]; exact q1
      · rw [x3.1 _ _ (by unfold wWk hwR; omega)]; exact q1
  have hl7 : ILet S7 T7 := hl.fr (fun a j h1 h2 => k7.1 a j (by unfold wD hwC; unfold rLet at h2; omega)) (fun a j h1 h2 => x3.1 a j (by unfold wWk hwR; unfold rLet at h2; omega))
  have n17 : gv S7 (60 + k) 0 = nI ne := by rw [k7.1 _ _ (by unfold wD hwC; omega)]; exact n1
  have n27 : gv T7 214 k = nI ne := by rw [x3.1 _ _ (by unfold wWk hwR; omega)]; exact n2
  have d17 : gv S7 0 11 = nI d := by rw [k7.1 _ _ (by unfold wD hwC; omega)]; exact d1
  have d27 : gv T7 200 0 = nI d := by rw [x3.1 _ _ (by unfold wWk hwR; omega)]; exact d2
  have fair7 : f_X9_fair S7 = some (nI (st - 1)) := rd_f1 s2 (by rw [k7.1 _ _ (by unfold wD hwC; omega)]; exact r1)
  have fairT : f_X11_fair T7 = some (nI (st - 1)) := rd_f2 s2 (by rw [x3.1 _ _ (by unfold wWk hwR; omega)]; exact r2)
  have lw1 : he - lw ≤ 500 := by omega
  have lw2 : we - mi sc / 5 ≤ 700 := by omega
  have kT7 : Kp (wDr k) T T7 := x3.mo (fun a j h => by unfold wWk at h; unfold wDr; exact Or.inr h)
  have cl : f_X10_walkOn N S (60 + k) = if sc + 1 = st - 1 then (cl0 (f_X10_priceKnownAt N S7 (nI (sc + 1))) fun r_12 => cl0 (f_X1_sellAtFair S7 (60 + k) r_12) fun S_14 => some S_14) else some S7 := by
    unfold f_X10_walkOn
    have mm : f_X9_milesOfStage S (nI sc) = some (nI (mi sc)) := mil_n s10 r1 (fun i hi => (m3 i hi).1) (by omega)
    rw [hS.2.2.2.1, mm]
    simp only [bn, cl0, cl1, oc]
    rw [w1]
    simp only [bn, cl0, cl1, oc]
    rw [w2.2.2.2.1, note]
    simp only [bn, cl0, cl1, oc, fair7]
    rw [hS7h.2.2.2.1, ite_eq (by omega) (by omega)]
  have eatR : ∀ (T8 : St), (if nI k < 0 ∨ 6 ≤ ix (nI k) then none else if gv T8 212 (ix (nI k)) ≤ 0 then some T8 else if (0 : Int32) = 0 then cl0 (f_X11_eat T8 (nI k) 1) fun S_43 => some S_43 else cl0 (f_X11_eat T8 (nI k) 0) fun S_41 => some S_41) = (if gv T8 212 k ≤ 0 then some T8 else (cl0 (f_X11_eat T8 (nI k) (nI 1)) fun S_67 => some S_67)) := by
    intro T8
    simp only [nn (show k < 2147483648 by omega), ix_nI (show k < 2147483648 by omega), inG hk, or_self, or_false, false_or, if_false, if_true, reduceIte]
    rfl
  by_cases c : sc + 1 = st - 1
  · obtain ⟨p2, p3, p4, p5⟩ := price_both (N := N) (i := sc + 1) (by omega) d17 hl7 hR7 (by omega)
    have pr := prod_n (a := he - lw) (b := we - mi sc / 5) (c := p2) (q := 100) lw1 lw2 p3 (by omega)
    have pb := prod_b (a := he - lw) (b := we - mi sc / 5) (c := p2) (q := 100) lw1 lw2 p3 (by omega)
    obtain ⟨S8, u1, u2, u3⟩ := c_sell (v := he - lw) hS7h lw1 (by omega)
    rw [Nat.min_self] at u1 u2
    obtain ⟨S9, v1, v2, v3'⟩ := c_earn (x := (he - lw) * (we - mi sc / 5) * p2 / 100) u2 b5 (by omega)
    obtain ⟨T9, y1, y2, y3⟩ := ear_r (v := he - lw) (p := p2) (q := 100) hk (Or.inl rfl) x2 lw1 lw2 b5 (Nat.le_refl _) p3
    have kS9 : Kp (wD k) S S9 := (k7.tr (u3.mo (fun a j h => Or.inr (Or.inr h)))).tr (v3'.mo (fun a j h => Or.inr (Or.inr h)))
    have kT9 : Kp (wDr k) T T9 := kT7.tr (y3.mo (fun a j h => Or.inr (Or.inr h)))
    have hR9 : IRoad st S9 T9 := hR7.fr (fun a j h1 h2 => by rw [v3'.1 a j (by unfold hwC; unfold rRoad at h2; omega), u3.1 a j (by unfold hwC; unfold rRoad at h2; omega)]) (fun a j h1 h2 => y3.1 a j (by unfold hwR; unfold rRoad at h2; omega))
    have n19 : gv S9 (60 + k) 0 = nI ne := by rw [kS9.1 _ _ (by unfold wD hwC; omega)]; exact n1
    have n29 : gv T9 214 k = nI ne := by rw [kT9.1 _ _ (by unfold wDr hwR; omega)]; exact n2
    obtain ⟨S', T', he', we', de', at'', z1, z2, z3, z4, z5, z6, z7, z8, z9⟩ := eat_both (N := N) (L := L) (p := 1) (v3 := -1) hk hR9 v2 y2 n19 n29 hne (by omega) lw2 (by omega) (Or.inl ⟨rfl, rfl⟩)
    refine ⟨S', T', ?_, ?_, he', we', _, _, _, _, _, de', at'', z3, z4, z5, by omega, z7, by omega, by omega, by omega, by omega, ?_, ?_⟩
    · rw [cl, if_pos c, p4]
      simp only [bn, cl0, cl1, oc]
      unfold f_X1_sellAtFair
      rw [hS7h.1, u1]
      simp only [bn, cl0, cl1, oc]
      rw [u2.2.1, show (100 : Int32) = nI 100 from rfl, pr.1, v1]
      simp only [bn, cl0, cl1, oc]
      exact z1
    · unfold f_X11_go_j173
      rw [if_neg (by decide), if_neg (by decide), x1]
      have : f_X11_walk_j143 N T7 (nI k) = some T9 := by
        unfold f_X11_walk_j143
        simp only [nn (show k < 2147483648 by omega), ix_nI (show k < 2147483648 by omega), inG hk, or_self, or_false, false_or, if_false, if_true, reduceIte, fairT, bn, cl0, cl1, oc, x2.2.2.2.1, d27, x2.1]
        rw [ite_eq (by omega) (by omega), if_pos c, ← c, p5]
        simp only [bn, cl0, cl1, oc]
        rw [show (100 : Int32) = nI 100 from rfl, y1]
      rw [this, cl0s, eatR, z2]
    · exact kS9.tr (z8.mo (fun a j h => by unfold wEa at h; unfold wD; rcases h with h | h; exact Or.inl h; exact Or.inr (Or.inr h)))
    · exact kT9.tr (z9.mo (fun a j h => by unfold wG at h; unfold wDr; rcases h with h | h; exact Or.inl h; exact Or.inr (Or.inr h)))
  · obtain ⟨S', T', he', we', de', at'', z1, z2, z3, z4, z5, z6, z7, z8, z9⟩ := eat_both (N := N) (L := L) (p := 1) (v3 := -1) hk hR7 hS7h x2 n17 n27 hne (by omega) lw2 (by omega) (Or.inl ⟨rfl, rfl⟩)
    refine ⟨S', T', ?_, ?_, he', we', _, _, _, _, _, de', at'', z3, z4, z5, by omega, z7, by omega, by omega, by omega, by omega, ?_, ?_⟩
    · rw [cl, if_neg c]
      simp only [bn, cl0, cl1, oc]
      exact z1
    · unfold f_X11_go_j173
      rw [if_neg (by decide), if_neg (by decide), x1]
      have : f_X11_walk_j143 N T7 (nI k) = some T7 := by
        unfold f_X11_walk_j143
        simp only [nn (show k < 2147483648 by omega), ix_nI (show k < 2147483648 by omega), inG hk, or_self, or_false, false_or, if_false, if_true, reduceIte, fairT, bn, cl0, cl1, oc, x2.2.2.2.1]
        rw [ite_eq (by omega) (by omega), if_neg c]
      rw [this, cl0s, eatR, z2]
    · exact k7.tr (z8.mo (fun a j h => by unfold wEa at h; unfold wD; rcases h with h | h; exact Or.inl h; exact Or.inr (Or.inr h)))
    · exact kT7.tr (z9.mo (fun a j h => by unfold wG at h; unfold wDr; rcases h with h | h; exact Or.inl h; exact Or.inr (Or.inr h)))
theorem sell_both {N n st k d p he we so sc co ne v : Nat} {L : List Nat} {le sd de at' w v3 : Int32} {S T : St} (hN : 1000 ≤ N) (h : Mid n st k d p he we so sc co ne le sd de at' S T) (hv : v ≤ 999999) (hw : (v = 0 ∧ w = 1) ∨ (w = 2 ∧ ∃ i, i < 8 ∧ v3 = nI i ∧ gv T 227 (8 * k + i) = nI v)) : ∃ S' T', (cl0 (f_X1_sellOnTheWay S (60 + k) (nI v) (nI p)) fun S_26 => f_X10_drive_j57 L N (60 + k) S_26 (nI v)) = some S' ∧ f_X11_go_j173 N T (nI k) v3 w = some T' ∧ Dfin st k S T S' T' := by
  obtain ⟨hk, d1, d2, hl, hR, hS, hT, n1, n2, hne, b1, b2, b3, b0, b4, b5, b6, b7⟩ := h
  obtain ⟨s2, s10, r1, r2, _⟩ := id hR
  have pr := prod_n (a := min he v) (b := we) (c := p) (q := 200) (by omega) b2 b6 (by omega)
  have pb := prod_b (a := min he v) (b := we) (c := p) (q := 200) (by omega) b2 b6 (by omega)
  obtain ⟨S8, u1, u2, u3⟩ := c_sell (v := v) hS b1 (by omega)
  obtain ⟨S9, v1, v2, v3'⟩ := c_earn (x := min he v * we * p / 200) u2 b5 (by omega)
  have kS9 : Kp (hwC (60 + k)) S S9 := u3.tr v3'
  -- the sore after it
  have cl : ∃ S10, f_X1_sellOnTheWay S (60 + k) (nI v) (nI p) = some S10 ∧ HS S10 (60 + k) (he - min he v) we (if he - min he v = 0 then so else so - 15) sc (min (co + min he v * we * p / 200) 2000000000) le (sd + nI (min he v)) de at' ∧ Kp (hwC (60 + k)) S S10 := by
    unfold f_X1_sellOnTheWay
    rw [u1]
    simp only [bn, cl0, cl1, oc]
    rw [u2.2.1, show (200 : Int32) = nI 200 from rfl, pr.1, v1]
    simp only [bn, cl0, cl1, oc]
    rw [v2.1, v2.2.2.1]
    by_cases c : he - min he v = 0
    · rw [c, if_pos (show nI 0 ≤ 0 from by decide)]
      rw [c] at v2
      simp only [if_true]
      exact ⟨S9, rfl, v2, kS9⟩
    · rw [n0 (by omega) (by omega)]
      simp only [if_neg c]
      have := n_mon (a := so) (b := 15) (by omega) (by omega)
      rw [show nI 15 = 15 from rfl] at this
      rw [this]
      refine ⟨_, rfl, ?_, kS9.sv ⟨rfl, by omega⟩⟩
      obtain ⟨q1, q2, q3, q4, q5, q6, q7, q8, q9⟩ := v2
      refine ⟨?_, ?_, ?_, ?_, ?_, ?_, ?_, ?_, ?_⟩ <;> simp [gv_sv, q1, q2, q3, q4, q5, q6, q7, q8, q9]
  obtain ⟨S10, e1, e2, e3⟩ := cl
  -- the reference
  have rf : ∃ T10, f_X11_go_j173 N T (nI k) v3 w = (if gv T10 212 k ≤ 0 then some T10 else (cl0 (f_X11_eat T10 (nI k) (nI 0)) fun S_67 => some S_67)) ∧ HT T10 k (he - min he v) we (if he - min he v = 0 then so else so - 15) sc (min (co + min he v * we * p / 200) 2000000000) le (sd + nI (min he v)) de at' ∧ Kp (hwR k) T T10 := by
    have hk2 := nn (show k < 2147483648 by omega)
    have hk3 := ix_nI (show k < 2147483648 by omega)
    have hk4 := inG hk
    unfold f_X11_go_j173
    rcases hw with ⟨rfl, rfl⟩ | ⟨rfl, i, hi, rfl, hg⟩
    · rw [if_neg (by decide), if_pos rfl]
      obtain ⟨T10, t1, t2, t3⟩ := r_rest hk hT (by omega)
      rw [t1]
      simp only [bn, cl0, cl1, oc, hk2, hk3, hk4, or_self, or_false, false_or, if_false, if_true, reduceIte]
      refine ⟨T10, ?_, ?_, t3⟩
      · simp only [one0, if_false]
        rfl
      · rw [Nat.min_zero, Nat.sub_zero, if_neg (by omega), Nat.zero_mul, Nat.zero_mul, Nat.zero_div, Nat.add_zero, Nat.min_eq_left b5, show nI 0 = 0 from rfl, Int32.add_zero]
        exact t2
    · rw [if_pos rfl, show (8 : Int32) = nI 8 from rfl, nI_mul, nI_add]
      simp only [nn (show 8 * k + i < 2147483648 by omega), ix_nI (show 8 * k + i < 2147483648 by omega), inG (show 8 * k + i < 48 by omega), hk2, hk3, hk4, or_self, or_false, false_or, if_false, if_true, reduceIte, bn, cl0, cl1, oc, hg, hT.1]
      have fin : ∃ T10, f_X11_go_j216 N T (nI k) 2 (nI (min he v)) = (if gv T10 212 k ≤ 0 then some T10 else (cl0 (f_X11_eat T10 (nI k) (nI 0)) fun S_67 => some S_67)) ∧ HT T10 k (he - min he v) we (if he - min he v = 0 then so else so - 15) sc (min (co + min he v * we * p / 200) 2000000000) le (sd + nI (min he v)) de at' ∧ Kp (hwR k) T T10 := by
        obtain ⟨T9, y1, y2, y3⟩ := ear_r (v := min he v) (p := p) (q := 200) hk (Or.inr rfl) hT b1 b2 b5 (by omega) b6
        unfold f_X11_go_j216 f_X11_go_j249
        rw [show ix 7 = 7 from rfl, b7, show (200 : Int32) = nI 200 from rfl, y1]
        simp only [bn, cl0, cl1, oc, hk2, hk3, hk4, or_self, or_false, false_or, if_false, if_true, reduceIte, y2.1]
        by_cases c : he - min he v = 0
        · rw [if_pos (by rw [c]; decide)]
          refine ⟨T9, ?_, ?_, y3⟩
          · rw [y2.1]
            simp only [if_pos (show nI (he - min he v) ≤ 0 by rw [c]; decide)]
          · rw [if_pos c]; exact y2
        · rw [n0 (by omega) (by omega)]
          obtain ⟨T10, t1, t2, t3⟩ := r_rest hk y2 (by omega)
          rw [t1]
          simp only [bn, cl0, cl1, oc, show ((2 : Int32) = 0) = False from by decide, if_false]
          refine ⟨T10, rfl, ?_, y3.tr t3⟩
          rw [if_neg c]
          exact t2
      rw [ite_le (by omega) (by omega)]
      by_cases c : v ≤ he
      · rw [if_pos c]
        rw [Nat.min_eq_right c] at fin ⊢
        exact fin
      · rw [if_neg c]
        rw [Nat.min_eq_left (by omega)] at fin ⊢
        exact fin
  obtain ⟨T10, f1, f2, f3⟩ := rf
  have hR10 : IRoad st S10 T10 := hR.fr (fun a j h1 h2 => e3.1 a j (by unfold hwC; unfold rRoad at h2; omega)) (fun a j h1 h2 => f3.1 a j (by unfold hwR; unfold rRoad at h2; omega))
  have n10 : gv S10 (60 + k) 0 = nI ne := by rw [e3.1 _ _ (by unfold hwC; omega)]; exact n1
  have n20 : gv T10 214 k = nI ne := by rw [f3.1 _ _ (by unfold hwR; omega)]; exact n2
  obtain ⟨S', T', he', we', de', at'', z1, z2, z3, z4, z5, z6, z7, z8, z9⟩ := eat_both (N := N) (L := L) (p := 0) (v3 := nI v) hk hR10 e2 f2 n10 n20 hne (by omega) b2 (by omega) (Or.inr ⟨fun e => by
    have h1 := nn (show v < 2147483648 by omega)
    rw [e] at h1
    exact h1 (by decide), rfl⟩)
  refine ⟨S', T', ?_, ?_, he', we', _, _, _, _, _, de', at'', z3, z4, z5, by omega, z7, ?_, by omega, by omega, by omega, ?_, ?_⟩
  · rw [e1]
    simp only [bn, cl0, cl1, oc]
    exact z1
  · rw [f1, z2]
  · split <;> omega
  · exact (e3.mo (fun a j h => Or.inr (Or.inr h)) : Kp (wD k) S S10).tr (z8.mo (fun a j h => by unfold wEa at h; unfold wD; rcases h with h | h; exact Or.inl h; exact Or.inr (Or.inr h)))
  · exact (f3.mo (fun a j h => Or.inr (Or.inr h)) : Kp (wDr k) T T10).tr (z9.mo (fun a j h => by unfold wG at h; unfold wDr; rcases h with h | h; exact Or.inl h; exact Or.inr (Or.inr h)))
end DRIVE
