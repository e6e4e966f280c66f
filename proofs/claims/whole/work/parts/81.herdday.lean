section DAYS
/-! numbers -/
theorem oi_lt2 {x y : Int} (hx : -2147483648 ≤ x ∧ x < 2147483648) (hy : -2147483648 ≤ y ∧ y < 2147483648) : Int32.ofInt x < Int32.ofInt y ↔ x < y := by
  rw [Int32.lt_iff_toInt_lt, Int32.toInt_ofInt_of_le (by omega) (by omega), Int32.toInt_ofInt_of_le (by omega) (by omega)]
theorem n_min {a b : Nat} (ha : a < 2147483648) (hb : b < 2147483648) : (if nI a < nI b then nI a else nI b) = nI (min a b) := by
  rw [ite_lt ha hb]
  by_cases h : a < b
  · rw [if_pos h, Nat.min_eq_left (by omega)]
  · rw [if_neg h, Nat.min_eq_right (by omega)]
theorem n_mon {a b : Nat} (ha : a < 2147483648) (hb : b < 2147483648) : (if 0 < nI a - nI b then nI a - nI b else 0) = nI (a - b) := by
  have e : nI a - nI b = Int32.ofInt ((a : Int) - b) := by rw [Int32.ofInt_sub, ← n_oi, ← n_oi]
  have e0 : (0 : Int32) = Int32.ofInt 0 := rfl
  by_cases h : b < a
  · rw [if_pos (by rw [e, e0, oi_lt2 (by omega) (by omega)]; omega), nI_sub' (by omega)]
  · rw [if_neg (by rw [e, e0, oi_lt2 (by omega) (by omega)]; omega), show a - b = 0 by omega]
    rfl
/-! a herd's fields, in the class and in the reference -/
def HS (S : St) (o he we so sc co : Nat) (le sd de at' : Int32) : Prop := gv S o 2 = nI he ∧ gv S o 3 = nI we ∧ gv S o 4 = nI so ∧ gv S o 5 = nI sc ∧ gv S o 7 = nI co ∧ gv S o 8 = le ∧ gv S o 9 = sd ∧ gv S o 10 = de ∧ gv S o 11 = at'
def HT (T : St) (k he we so sc co : Nat) (le sd de at' : Int32) : Prop := gv T 212 k = nI he ∧ gv T 213 k = nI we ∧ gv T 216 k = nI so ∧ gv T 217 k = nI sc ∧ gv T 218 k = nI co ∧ gv T 219 k = le ∧ gv T 220 k = sd ∧ gv T 221 k = de ∧ gv T 222 k = at'
def hwC (o : Nat) (a j : Nat) : Prop := a = o ∧ 2 ≤ j
def hwR (k : Nat) (a j : Nat) : Prop := (212 ≤ a ∧ a ≤ 222 ∧ a ≠ 214 ∧ a ≠ 215) ∧ j = k
def lo (he so : Nat) : Nat := if 60 < so then min (he / 20 + 1) he else 0
section
variable {S T : St} {o k he we so sc co : Nat} {le sd de at' : Int32}
theorem HS.kp {w : Nat → Nat → Prop} {S' : St} (h : HS S o he we so sc co le sd de at') (kp : Kp w S S') (hw : ∀ j, ¬ w o j) : HS S' o he we so sc co le sd de at' := by
  unfold HS at h ⊢
  simp only [fun j => kp.1 o j (hw j)]
  exact h
theorem HT.kp {w : Nat → Nat → Prop} {T' : St} (h : HT T k he we so sc co le sd de at') (kp : Kp w T T') (hw : ∀ a, 212 ≤ a → a ≤ 222 → ¬ w a k) : HT T' k he we so sc co le sd de at' := by
  unfold HT at h ⊢
  simp only [kp.1 212 k (hw _ (by omega) (by omega)), kp.1 213 k (hw _ (by omega) (by omega)), kp.1 216 k (hw _ (by omega) (by omega)), kp.1 217 k (hw _ (by omega) (by omega)), kp.1 218 k (hw _ (by omega) (by omega)), kp.1 219 k (hw _ (by omega) (by omega)), kp.1 220 k (hw _ (by omega) (by omega)), kp.1 221 k (hw _ (by omega) (by omega)), kp.1 222 k (hw _ (by omega) (by omega))]
  exact h
theorem c_walk {m : Nat} (hm : m ≤ 30) (h : HS S o he we so sc co le sd de at') (h1 : he ≤ 500) (h2 : we ≤ 700) (h3 : so ≤ 400) (h4 : sc ≤ 10) : ∃ S', f_X1_walk S o (nI m) = some (nI (lo he (so + m)), S') ∧ HS S' o (he - lo he (so + m)) (we - m / 5) (so + m) (sc + 1) co (le + nI (lo he (so + m))) sd de at' ∧ Kp (hwC o) S S' := by
  obtain ⟨a1, a2, a3, a4, a5, a6, a7, a8, a9⟩ := h
  have q5 : nI m / 5 = nI (m / 5) := by rw [show (5 : Int32) = nI 5 from rfl, nI_div' (by omega) (by omega)]
  have q6 : (if nI (he / 20 + 1) < nI he then nI (he / 20 + 1) else nI he) = nI (min (he / 20 + 1) he) := by
    rw [n_min (by omega) (by omega)]
  have q7 : nI he / 20 = nI (he / 20) := by rw [show (20 : Int32) = nI 20 from rfl, nI_div' (by omega) (by omega)]
  have q8 := n_mon (a := we) (b := m / 5) (by omega) (by omega)
  have kk : ∀ {S2 : St} {j : Nat} {x : Int32}, 2 ≤ j → Kp (hwC o) S S2 → Kp (hwC o) S (sv S2 o j x) := fun hj h => h.sv ⟨rfl, hj⟩
  unfold f_X1_walk
  simp only [bn, cl0, cl1, oc, gv_sv, true_and, and_true, reduceIte, a1, a2, a3, a4, a5, a6, show ((3 : Nat) = 4) = False from by decide, show ((3 : Nat) = 5) = False from by decide, show ((4 : Nat) = 5) = False from by decide, show ((4 : Nat) = 3) = False from by decide, show ((2 : Nat) = 3) = False from by decide, show ((2 : Nat) = 4) = False from by decide, show ((2 : Nat) = 5) = False from by decide, show ((8 : Nat) = 2) = False from by decide, show ((8 : Nat) = 3) = False from by decide, show ((8 : Nat) = 4) = False from by decide, show ((8 : Nat) = 5) = False from by decide, if_false, q5, q6, q7, q8, nI_add, nl_add1]
  rw [show (60 : Int32) = nI 60 from rfl, ite_lt (by omega) (by omega)]
  unfold lo
  by_cases c : 60 < so + m
  · simp only [if_pos c]
    rw [nI_sub' (Nat.min_le_right _ _)]
    refine ⟨_, rfl, ?_, ?_⟩
    rotate_left
    · exact kk (by omega) (kk (by omega) (kk (by omega) (kk (by omega) (kk (by omega) Kp.rf))))
    refine ⟨?_, ?_, ?_, ?_, ?_, ?_, ?_, ?_, ?_⟩ <;> simp [gv_sv, a1, a2, a3, a4, a5, a6, a7, a8, a9]
  · simp only [if_neg c]
    refine ⟨_, rfl, ?_, ?_⟩
    rotate_left
    · exact kk (by omega) (kk (by omega) (kk (by omega) Kp.rf))
    refine ⟨?_, ?_, ?_, ?_, ?_, ?_, ?_, ?_, ?_⟩ <;> simp [gv_sv, a1, a2, a3, a4, a5, a6, a7, a8, a9, show nI 0 = 0 from rfl]
theorem c_sell {v : Nat} (h : HS S o he we so sc co le sd de at') (h1 : he ≤ 500) (hv : v < 2147483648) : ∃ S', f_X1_sellHeads S o (nI v) = some (nI (min he v), S') ∧ HS S' o (he - min he v) we so sc co le (sd + nI (min he v)) de at' ∧ Kp (hwC o) S S' := by
  obtain ⟨a1, a2, a3, a4, a5, a6, a7, a8, a9⟩ := h
  unfold f_X1_sellHeads
  simp only [bn, cl0, cl1, oc, a1]
  rw [n_min (by omega) hv, nI_sub' (Nat.min_le_left _ _)]
  refine ⟨_, rfl, ?_, (Kp.rf.sv ⟨rfl, by omega⟩).sv ⟨rfl, by omega⟩⟩
  refine ⟨?_, ?_, ?_, ?_, ?_, ?_, ?_, ?_, ?_⟩ <;> simp [gv_sv, a1, a2, a3, a4, a5, a6, a7, a8, a9]
theorem c_earn {x : Nat} (h : HS S o he we so sc co le sd de at') (h1 : co ≤ 2000000000) (hx : x ≤ 100000000) : ∃ S', f_X1_earn S o (nI x) = some S' ∧ HS S' o he we so sc (min (co + x) 2000000000) le sd de at' ∧ Kp (hwC o) S S' := by
  obtain ⟨a1, a2, a3, a4, a5, a6, a7, a8, a9⟩ := h
  unfold f_X1_earn
  simp only [bn, cl0, cl1, oc, a5, nI_add]
  rw [show (2000000000 : Int32) = nI 2000000000 from rfl, n_min (by omega) (by omega)]
  refine ⟨_, rfl, ?_, Kp.rf.sv ⟨rfl, by omega⟩⟩
  refine ⟨?_, ?_, ?_, ?_, ?_, ?_, ?_, ?_, ?_⟩ <;> simp [gv_sv, a1, a2, a3, a4, a5, a6, a7, a8, a9]
def wE (we ate want p : Nat) : Nat := if ate < want then we - 4 else min (we + (if p = 0 then 3 else 1)) 700
def dE (he w : Nat) : Nat := if w < 80 then min (he / 10 + 1) he else 0
theorem c_j59 (h : HS S o he we so sc co le sd de at') (h1 : he ≤ 500) (h2 : we ≤ 700) : ∃ S', f_X1_eat_j59 o S = some S' ∧ HS S' o (he - dE he we) we so sc co le sd (de + nI (dE he we)) at' ∧ Kp (hwC o) S S' := by
  obtain ⟨a1, a2, a3, a4, a5, a6, a7, a8, a9⟩ := h
  have q6 : (if nI (he / 10) + 1 < nI he then nI (he / 10) + 1 else nI he) = nI (min (he / 10 + 1) he) := by
    rw [nl_add1, n_min (by omega) (by omega)]
  have q7 : nI he / 10 = nI (he / 10) := by rw [show (10 : Int32) = nI 10 from rfl, nI_div' (by omega) (by omega)]
  unfold f_X1_eat_j59
  rw [a2, show (80 : Int32) = nI 80 from rfl, ite_le (by omega) (by omega)]
  unfold dE
  by_cases c : we < 80
  · rw [if_neg (by omega)]
    simp only [if_pos c, a1, q7, q6, bn, cl0, cl1, oc]
    rw [nI_sub' (Nat.min_le_right _ _)]
    refine ⟨_, rfl, ?_, (Kp.rf.sv ⟨rfl, by omega⟩).sv ⟨rfl, by omega⟩⟩
    refine ⟨?_, ?_, ?_, ?_, ?_, ?_, ?_, ?_, ?_⟩ <;> simp [gv_sv, a1, a2, a3, a4, a5, a6, a7, a8, a9]
  · rw [if_pos (by omega)]
    simp only [if_neg c]
    refine ⟨_, rfl, ?_, Kp.rf⟩
    refine ⟨?_, ?_, ?_, ?_, ?_, ?_, ?_, ?_, ?_⟩ <;> simp [gv_sv, a1, a2, a3, a4, a5, a6, a7, a8, a9, show nI 0 = 0 from rfl]
theorem c_eat {ate ne p : Nat} (h : HS S o he we so sc co le sd de at') (h0 : gv S o 0 = nI ne) (hne : ne ≤ 20) (h1 : he ≤ 500) (h2 : we ≤ 700) (ha : ate ≤ 100000) (hp : p ≤ 1) : ∃ S', f_X1_eat S o (nI ate) (nI p) = some S' ∧ HS S' o (he - dE he (wE we ate (he * ne) p)) (wE we ate (he * ne) p) so sc co le sd (de + nI (dE he (wE we ate (he * ne) p))) (at' + nI ate) ∧ Kp (hwC o) S S' := by
  obtain ⟨a1, a2, a3, a4, a5, a6, a7, a8, a9⟩ := h
  have hb : he * ne ≤ 500 * 20 := Nat.mul_le_mul h1 hne
  unfold f_X1_eat f_X1_want f_X1_eat_j35
  simp only [bn, cl0, cl1, oc, gv_sv, true_and, and_true, show ((2 : Nat) = 11) = False from by decide, show ((0 : Nat) = 11) = False from by decide, show ((3 : Nat) = 11) = False from by decide, and_false, if_false, a1, a2, h0, nI_mul]
  rw [ite_lt (by omega) (by omega)]
  have q8 := n_mon (a := we) (b := 4) (by omega) (by omega)
  rw [show nI 4 = 4 from rfl] at q8
  unfold wE
  by_cases c : ate < he * ne
  · rw [if_pos c, q8]
    simp only [if_pos c]
    obtain ⟨S', e1, e2, e3⟩ := c_j59 (S := sv (sv S o 11 (gv S o 11 + nI ate)) o 3 (nI (we - 4))) (o := o) (he := he) (we := we - 4) (so := so) (sc := sc) (co := co) (le := le) (sd := sd) (de := de) (at' := at' + nI ate) (by refine ⟨?_, ?_, ?_, ?_, ?_, ?_, ?_, ?_, ?_⟩ <;> simp [gv_sv, a1, a2, a3, a4, a5, a6, a7, a8, a9]) h1 (by omega)
    exact ⟨S', e1, e2, ((Kp.rf.sv ⟨rfl, by omega⟩).sv ⟨rfl, by omega⟩ : Kp (hwC o) S _).tr e3⟩
  · rw [if_neg c]
    simp only [if_neg c]
    have e7 : ∀ x : Nat, x ≤ 3 → (if nI we + nI x < 700 then nI we + nI x else 700) = nI (min (we + x) 700) := by
      intro x hx
      rw [nI_add, show (700 : Int32) = nI 700 from rfl, n_min (by omega) (by omega)]
    have e8 := e7 3 (by omega)
    have e9 := e7 1 (by omega)
    rw [show nI 3 = 3 from rfl] at e8
    rw [show nI 1 = 1 from rfl] at e9
    have fin : ∀ x, x ≤ 700 → ∃ S', f_X1_eat_j59 o (sv (sv S o 11 (gv S o 11 + nI ate)) o 3 (nI x)) = some S' ∧ HS S' o (he - dE he x) x so sc co le sd (de + nI (dE he x)) (at' + nI ate) ∧ Kp (hwC o) S S' := by
      intro x hx
      obtain ⟨S', e1, e2, e3⟩ := c_j59 (S := sv (sv S o 11 (gv S o 11 + nI ate)) o 3 (nI x)) (o := o) (he := he) (we := x) (so := so) (sc := sc) (co := co) (le := le) (sd := sd) (de := de) (at' := at' + nI ate) (by refine ⟨?_, ?_, ?_, ?_, ?_, ?_, ?_, ?_, ?_⟩ <;> simp [gv_sv, a1, a2, a3, a4, a5, a6, a7, a8, a9]) h1 hx
      exact ⟨S', e1, e2, ((Kp.rf.sv ⟨rfl, by omega⟩).sv ⟨rfl, by omega⟩ : Kp (hwC o) S _).tr e3⟩
    by_cases c2 : p = 0
    · subst c2
      rw [show nI 0 = 0 from rfl, if_pos rfl, e8]
      simp only [if_true]
      exact fin _ (by omega)
    · have : p = 1 := by omega
      subst this
      rw [show nI 1 = 1 from rfl, if_neg (by decide), e9]
      simp only [show ((1 : Nat) = 0) = False from by decide, if_false]
      exact fin _ (by omega)
/-! the reference's -/
theorem r_rest (hk : k < 6) (h : HT T k he we so sc co le sd de at') (h3 : so ≤ 400) : ∃ T', f_X11_rest T (nI k) = some T' ∧ HT T' k he we (so - 15) sc co le sd de at' ∧ Kp (hwR k) T T' := by
  obtain ⟨a1, a2, a3, a4, a5, a6, a7, a8, a9⟩ := h
  unfold f_X11_rest
  simp only [bn, cl0, cl1, oc, nn (show k < 2147483648 by omega), ix_nI (show k < 2147483648 by omega), inG hk, or_self, or_false, false_or, if_false, if_true, reduceIte, a3]
  rw [show (15 : Int32) = nI 15 from rfl, ite_le (by omega) (by omega)]
  by_cases c : 15 ≤ so
  · rw [if_pos c, nI_sub' c]
    refine ⟨_, rfl, ?_, Kp.rf.sv ⟨by omega, rfl⟩⟩
    refine ⟨?_, ?_, ?_, ?_, ?_, ?_, ?_, ?_, ?_⟩ <;> simp [gv_sv, a1, a2, a3, a4, a5, a6, a7, a8, a9]
  · rw [if_neg c, show so - 15 = 0 by omega]
    refine ⟨_, rfl, ?_, Kp.rf.sv ⟨by omega, rfl⟩⟩
    refine ⟨?_, ?_, ?_, ?_, ?_, ?_, ?_, ?_, ?_⟩ <;> simp [gv_sv, a1, a2, a3, a4, a5, a6, a7, a8, a9] <;> rfl
theorem r_j201 {w : Nat} (hk : k < 6) (h : HT T k he we so sc co le sd de at') (hw : w ≤ he) : ∃ T', f_X11_eat_j201 T (nI k) (nI w) = some T' ∧ HT T' k (he - w) we so sc co le sd (de + nI w) at' ∧ Kp (hwR k) T T' := by
  obtain ⟨a1, a2, a3, a4, a5, a6, a7, a8, a9⟩ := h
  unfold f_X11_eat_j201
  simp only [bn, cl0, cl1, oc, nn (show k < 2147483648 by omega), ix_nI (show k < 2147483648 by omega), inG hk, or_self, or_false, false_or, if_false, if_true, reduceIte, a1]
  rw [nI_sub' hw]
  refine ⟨_, rfl, ?_, (Kp.rf.sv ⟨by omega, rfl⟩).sv ⟨by omega, rfl⟩⟩
  refine ⟨?_, ?_, ?_, ?_, ?_, ?_, ?_, ?_, ?_⟩ <;> simp [gv_sv, a1, a2, a3, a4, a5, a6, a7, a8, a9]
theorem r_j153 {x : Nat} (hk : k < 6) (h : HT T k he we so sc co le sd de at') (h1 : he ≤ 500) (hx : x ≤ 700) : ∃ T', f_X11_eat_j153 T (nI k) (nI k) (nI x) = some T' ∧ HT T' k (he - dE he x) x so sc co le sd (de + nI (dE he x)) at' ∧ Kp (hwR k) T T' := by
  obtain ⟨a1, a2, a3, a4, a5, a6, a7, a8, a9⟩ := h
  have q7 : nI he / 10 + 1 = nI (he / 10 + 1) := by rw [show (10 : Int32) = nI 10 from rfl, nI_div' (by omega) (by omega), nl_add1]
  have hH : HT (sv T 213 k (nI x)) k he x so sc co le sd de at' := by
    refine ⟨?_, ?_, ?_, ?_, ?_, ?_, ?_, ?_, ?_⟩ <;> simp [gv_sv, a1, a2, a3, a4, a5, a6, a7, a8, a9]
  have k0 : Kp (hwR k) T (sv T 213 k (nI x)) := Kp.rf.sv ⟨by omega, rfl⟩
  unfold f_X11_eat_j153
  simp only [bn, cl0, cl1, oc, nn (show k < 2147483648 by omega), ix_nI (show k < 2147483648 by omega), inG hk, or_self, or_false, false_or, if_false, if_true, reduceIte, hH.2.1, hH.1, q7]
  rw [show (80 : Int32) = nI 80 from rfl, ite_lt (by omega) (by omega), ite_le (by omega) (by omega)]
  unfold dE
  by_cases c : x < 80
  · simp only [if_pos c]
    by_cases c2 : he / 10 + 1 ≤ he
    · rw [if_pos c2, Nat.min_eq_left c2]
      obtain ⟨T', e1, e2, e3⟩ := r_j201 (w := he / 10 + 1) hk hH c2
      exact ⟨T', e1, e2, k0.tr e3⟩
    · rw [if_neg c2, Nat.min_eq_right (by omega)]
      obtain ⟨T', e1, e2, e3⟩ := r_j201 (w := he) hk hH (Nat.le_refl _)
      exact ⟨T', e1, e2, k0.tr e3⟩
  · simp only [if_neg c]
    refine ⟨_, rfl, ?_, k0⟩
    rw [show nI 0 = 0 from rfl, Int32.add_zero]
    exact hH
theorem r_j124 {x : Nat} (hk : k < 6) (h : HT T k he we so sc co le sd de at') (h1 : he ≤ 500) (hx : x ≤ 1000) : ∃ T', f_X11_eat_j124 (sv T 213 k (nI x)) (nI k) = some T' ∧ HT T' k (he - dE he (min x 700)) (min x 700) so sc co le sd (de + nI (dE he (min x 700))) at' ∧ Kp (hwR k) T T' := by
  obtain ⟨a1, a2, a3, a4, a5, a6, a7, a8, a9⟩ := h
  have hH : HT (sv T 213 k (nI x)) k he x so sc co le sd de at' := by
    refine ⟨?_, ?_, ?_, ?_, ?_, ?_, ?_, ?_, ?_⟩ <;> simp [gv_sv, a1, a2, a3, a4, a5, a6, a7, a8, a9]
  have k0 : Kp (hwR k) T (sv T 213 k (nI x)) := Kp.rf.sv ⟨by omega, rfl⟩
  unfold f_X11_eat_j124
  simp only [bn, cl0, cl1, oc, nn (show k < 2147483648 by omega), ix_nI (show k < 2147483648 by omega), inG hk, or_self, or_false, false_or, if_false, if_true, reduceIte, hH.2.1]
  rw [show (700 : Int32) = nI 700 from rfl, ite_le (by omega) (by omega)]
  by_cases c : x ≤ 700
  · rw [if_pos c, Nat.min_eq_left c]
    obtain ⟨T', e1, e2, e3⟩ := r_j153 (x := x) hk hH h1 c
    exact ⟨T', e1, e2, k0.tr e3⟩
  · rw [if_neg c, Nat.min_eq_right (by omega)]
    obtain ⟨T', e1, e2, e3⟩ := r_j153 (x := 700) hk hH h1 (Nat.le_refl _)
    exact ⟨T', e1, e2, k0.tr e3⟩
def wG (k : Nat) (a j : Nat) : Prop := a = 204 ∨ hwR k a j
/-- eating: the grass at the stance goes down -/
theorem r_eat {ne p ga : Nat} (hk : k < 6) (hsc : sc < 10) (h : HT T k he we so sc co le sd de at') (h0 : gv T 214 k = nI ne) (hg : gv T 204 sc = nI ga) (hga : ga ≤ 100000) (hne : ne ≤ 20) (h1 : he ≤ 500) (h2 : we ≤ 700) (hp : p ≤ 1) : ∃ T', f_X11_eat T (nI k) (nI p) = some T' ∧ HT T' k (he - dE he (wE we (min ga (he * ne)) (he * ne) p)) (wE we (min ga (he * ne)) (he * ne) p) so sc co le sd (de + nI (dE he (wE we (min ga (he * ne)) (he * ne) p))) (at' + nI (min ga (he * ne))) ∧ Kp (wG k) T T' ∧ (∀ i, gv T' 204 i = if i = sc then nI (ga - min ga (he * ne)) else gv T 204 i) := by
  have hb : he * ne ≤ 500 * 20 := Nat.mul_le_mul h1 hne
  have main : ∀ x, x = min ga (he * ne) → ∃ T', f_X11_eat_j44 T (nI k) (nI p) (nI sc) (nI (he * ne)) (nI x) = some T' ∧ HT T' k (he - dE he (wE we x (he * ne) p)) (wE we x (he * ne) p) so sc co le sd (de + nI (dE he (wE we x (he * ne) p))) (at' + nI x) ∧ Kp (wG k) T T' ∧ (∀ i, gv T' 204 i = if i = sc then nI (ga - x) else gv T 204 i) := by
    intro x hx
    have hxg : x ≤ ga := by omega
    have hxw : x ≤ he * ne := by omega
    obtain ⟨a1, a2, a3, a4, a5, a6, a7, a8, a9⟩ := h
    unfold f_X11_eat_j44 f_X11_eat_j91 f_X11_eat_j123
    simp only [bn, cl0, cl1, oc, nn (show k < 2147483648 by omega), ix_nI (show k < 2147483648 by omega), inG hk, nn (show sc < 2147483648 by omega), ix_nI (show sc < 2147483648 by omega), inG hsc, or_self, or_false, false_or, if_false, if_true, reduceIte, hg]
    rw [nI_sub' hxg]
    generalize hT1 : sv (sv T 204 sc (nI (ga - x))) 222 k (gv (sv T 204 sc (nI (ga - x))) 222 k + nI x) = T1
    have hH : HT T1 k he we so sc co le sd de (at' + nI x) := by
      rw [← hT1]
      refine ⟨?_, ?_, ?_, ?_, ?_, ?_, ?_, ?_, ?_⟩ <;> simp [gv_sv, a1, a2, a3, a4, a5, a6, a7, a8, a9]
    have k0 : Kp (wG k) T T1 := by
      rw [← hT1]
      exact (Kp.rf.sv (Or.inl rfl)).sv (Or.inr ⟨by omega, rfl⟩)
    have g0 : ∀ i, gv T1 204 i = if i = sc then nI (ga - x) else gv T 204 i := by
      intro i
      rw [← hT1]
      by_cases c : i = sc <;> simp [gv_sv, c]
    rw [ite_eq (by omega) (by omega)]
    have fin : ∀ y z : Nat, y ≤ 1000 → z = min y 700 → ∃ T', f_X11_eat_j124 (sv T1 213 k (nI y)) (nI k) = some T' ∧ HT T' k (he - dE he z) z so sc co le sd (de + nI (dE he z)) (at' + nI x) ∧ Kp (wG k) T T' ∧ (∀ i, gv T' 204 i = if i = sc then nI (ga - x) else gv T 204 i) := by
      intro y z hy hz
      subst hz
      obtain ⟨T', e1, e2, e3⟩ := r_j124 (x := y) hk hH h1 hy
      refine ⟨T', e1, e2, k0.tr (e3.mo (fun a j h => Or.inr h)), fun i => ?_⟩
      rw [e3.1 204 i (by unfold hwR; omega)]
      exact g0 i
    unfold wE
    by_cases c : x = he * ne
    · rw [if_pos c, hH.2.1]
      simp only [show ¬ x < he * ne by omega, if_false]
      by_cases c2 : p = 0
      · subst c2
        rw [show nI 0 = 0 from rfl, if_pos rfl, show (3 : Int32) = nI 3 from rfl, nI_add]
        simp only [if_true]
        exact fin (we + 3) _ (by omega) rfl
      · have : p = 1 := by omega
        subst this
        rw [show nI 1 = 1 from rfl, if_neg (by decide), show (1 : Int32) = nI 1 from rfl, nI_add]
        simp only [show ((1 : Nat) = 0) = False from by decide, if_false]
        exact fin (we + 1) _ (by omega) rfl
    · rw [if_neg c, hH.2.1]
      simp only [show x < he * ne by omega, if_true]
      rw [show (4 : Int32) = nI 4 from rfl, ite_le (by omega) (by omega)]
      by_cases c2 : 4 ≤ we
      · rw [if_pos c2, nI_sub' c2]
        exact fin (we - 4) _ (by omega) (by omega)
      · rw [if_neg c2, show we - 4 = 0 by omega]
        exact fin 0 _ (by omega) (by omega)
  unfold f_X11_eat
  simp only [bn, cl0, cl1, oc, nn (show k < 2147483648 by omega), ix_nI (show k < 2147483648 by omega), inG hk, or_self, or_false, false_or, if_false, if_true, reduceIte, h.2.2.2.1, h.1, h0, nI_mul, nn (show sc < 2147483648 by omega), ix_nI (show sc < 2147483648 by omega), inG hsc, hg]
  rw [ite_le (by omega) (by omega)]
  by_cases c : ga ≤ he * ne
  · rw [if_pos c]
    have := main ga (by omega)
    rw [Nat.min_eq_left c]
    exact this
  · rw [if_neg c]
    have := main (he * ne) (by omega)
    rw [Nat.min_eq_right (by omega)]
    exact this
/-! long numbers -/
theorem to64 {a : Nat} (h : a < 2147483648) : (nI a).toInt64 = Int64.ofNat a := by
  unfold nI
  exact Int32.toInt64_ofNat' (by
    have : Int32.maxValue.toInt = 2147483647 := by decide
    omega)
theorem lgc {α : Type} {a : Nat} {x y : α} (h : a < 9000000000) : (if lg_cmp (Int64.ofNat a) 2000000000 ≤ 0 then x else y) = if a ≤ 2000000000 then x else y := by
  have e : (2000000000 : Int64) = Int64.ofNat 2000000000 := rfl
  unfold lg_cmp
  by_cases c : a ≤ 2000000000
  · rw [if_pos c]
    have n1 : ¬ Int64.ofNat a > 2000000000 := by
      rw [e]
      intro h1
      have := (Int64.ofNat_lt_iff_lt (by omega) (by omega)).mp h1
      omega
    rw [if_neg n1]
    by_cases c2 : Int64.ofNat a = 2000000000
    · rw [if_pos c2, if_pos (by decide)]
    · rw [if_neg c2, if_pos (by decide)]
  · rw [if_neg c]
    have n1 : Int64.ofNat a > 2000000000 := by
      rw [e]
      exact (Int64.ofNat_lt_iff_lt (by omega) (by omega)).mpr (by omega)
    rw [if_pos n1, if_neg (by decide)]
theorem ear_r {v p q : Nat} (hk : k < 6) (hq : q = 100 ∨ q = 200) (h : HT T k he we so sc co le sd de at') (h1 : he ≤ 500) (h2 : we ≤ 700) (h5 : co ≤ 2000000000) (hv : v ≤ he) (hp : p ≤ 1000) : ∃ T', f_X11_earn T (nI k) (nI v) (nI p) (nI q) = some T' ∧ HT T' k (he - v) we so sc (min (co + v * we * p / q) 2000000000) le (sd + nI v) de at' ∧ Kp (hwR k) T T' := by
  have b1 : v * we ≤ 500 * 700 := Nat.mul_le_mul (by omega) h2
  have b2 : v * we * p ≤ 500 * 700 * 1000 := Nat.mul_le_mul b1 hp
  have b3 : v * we * p / q ≤ v * we * p := Nat.div_le_self _ _
  have main : ∀ x, x = min (co + v * we * p / q) 2000000000 → ∃ T', f_X11_earn_j50 T (nI k) (nI v) (nI k) (nI x) = some T' ∧ HT T' k (he - v) we so sc x le (sd + nI v) de at' ∧ Kp (hwR k) T T' := by
    intro x hx
    obtain ⟨a1, a2, a3, a4, a5, a6, a7, a8, a9⟩ := h
    unfold f_X11_earn_j50
    simp only [bn, cl0, cl1, oc, nn (show k < 2147483648 by omega), ix_nI (show k < 2147483648 by omega), inG hk, or_self, or_false, false_or, if_false, if_true, reduceIte]
    have e1 : gv (sv T 218 k (nI x)) 212 k = nI he := by simp [gv_sv, a1]
    rw [e1, nI_sub' hv]
    refine ⟨_, rfl, ?_, ((Kp.rf.sv ⟨by omega, rfl⟩).sv ⟨by omega, rfl⟩).sv ⟨by omega, rfl⟩⟩
    refine ⟨?_, ?_, ?_, ?_, ?_, ?_, ?_, ?_, ?_⟩ <;> simp [gv_sv, a1, a2, a3, a4, a5, a6, a7, a8, a9]
  have e2 : (Int64.ofNat co + Int64.ofNat v * Int64.ofNat we * Int64.ofNat p / Int64.ofNat q) = Int64.ofNat (co + v * we * p / q) := by
    rw [← Int64.ofNat_mul, ← Int64.ofNat_mul, ← Int64.ofNat_div (by omega) (by omega), ← Int64.ofNat_add]
  have e3 : ¬ Int64.ofNat q = 0 := by
    rcases hq with rfl | rfl <;> decide
  unfold f_X11_earn
  simp only [bn, cl0, cl1, oc, nn (show k < 2147483648 by omega), ix_nI (show k < 2147483648 by omega), inG hk, or_self, or_false, false_or, if_false, if_true, reduceIte, h.2.2.2.2.1, h.2.1, to64 (show q < 2147483648 by omega), to64 (show v < 2147483648 by omega), to64 (show we < 2147483648 by omega), to64 (show p < 2147483648 by omega), to64 (show co < 2147483648 by omega), e2, e3]
  rw [lgc (by omega)]
  by_cases c : co + v * we * p / q ≤ 2000000000
  · rw [if_pos c, Int64.toInt32_ofNat']
    rw [Nat.min_eq_left c]
    exact main _ (by omega)
  · rw [if_neg c]
    rw [Nat.min_eq_right (by omega)]
    exact main 2000000000 (by omega)
end
end DAYS
