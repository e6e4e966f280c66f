section ROADM
theorem nl_m1 {a : Nat} : nI (a + 1) + (-1) = nI a := by
  rw [← nl_add1, Int32.add_assoc]
  have : (1 : Int32) + (-1) = 0 := by decide
  rw [this, Int32.add_zero]
theorem nl_m0 : nI 0 + (-1) = -1 := by decide
theorem tf_last {mi : Nat → Nat} {i : Nat} : tf mi i 0 = 0 := rfl
theorem tf_ext {mi mj : Nat → Nat} : ∀ (n i : Nat), (∀ k, i ≤ k → k < i + n → mi k = mj k) → tf mi i n = tf mj i n
  | 0, _, _ => rfl
  | n + 1, i, h => by
    unfold tf
    rw [h i (by omega) (by omega), tf_ext n (i + 1) (fun k h1 h2 => h k (by omega) (by omega))]
theorem tf_le {mi : Nat → Nat} (h : ∀ i, mi i ≤ 30) : ∀ (n i : Nat), tf mi i n ≤ 30 * n
  | 0, _ => by simp [tf]
  | n + 1, i => by
    unfold tf
    have := tf_le h n (i + 1)
    have := h i
    omega
def wMes (m a j : Nat) : Prop := a = 12 ∧ j ≤ m
theorem mes_l {N : Nat} {mi : Nat → Nat} {st : Nat} {k : St → Option St} (hst : st ≤ 10) : ∀ (j : Nat) (S : St) (v1 : Int32) (fuel : Nat), j < st → j + 2 ≤ fuel → (∀ i, i < 10 → gv S 11 i = nI (mi i)) → v1 + nI (mi j) = nI (tf mi j (st - 1 - j)) → ∃ S', f_X9_measure_l7 N k fuel S v1 (nI j) = k S' ∧ Kp (wMes j) S S' ∧ ∀ i, i ≤ j → gv S' 12 i = nI (tf mi i (st - 1 - i)) := by
  intro j
  induction j with
  | zero =>
    intro S v1 fuel hj hf hm hv
    obtain ⟨fuel, rfl⟩ : ∃ q, fuel = q + 2 := ⟨fuel - 2, by omega⟩
    refine ⟨sv S 12 0 (nI (tf mi 0 (st - 1 - 0))), ?_, Kp.rf.sv ⟨rfl, Nat.le_refl _⟩, fun i hi => ?_⟩
    · unfold f_X9_measure_l7
      simp only [bn, cl0, cl1, oc, gv_sv, gv_sr, gr_sv, gv_sl, gr_sl, gl_sv, gl_sl, or_self, or_false, false_or, if_false, if_true, reduceIte, nn (show 0 < 2147483648 by omega), ix_nI (show 0 < 2147483648 by omega), inG (show 0 < 10 by omega), hm 0 (by omega), hv, nl_m0]
      unfold f_X9_measure_l7
      rw [if_pos (by decide)]
    · have : i = 0 := by omega
      subst this
      simp [gv_sv]
  | succ j ih =>
    intro S v1 fuel hj hf hm hv
    obtain ⟨fuel, rfl⟩ : ∃ q, fuel = q + 1 := ⟨fuel - 1, by omega⟩
    obtain ⟨S', e1, e2, e3⟩ := ih (sv S 12 (j + 1) (nI (tf mi (j + 1) (st - 1 - (j + 1))))) (nI (tf mi (j + 1) (st - 1 - (j + 1)))) fuel (by omega) (by omega) (fun i hi => by simp [gv_sv]; exact hm i hi) (by
      rw [nI_add]
      congr 1
      have : st - 1 - j = (st - 1 - (j + 1)) + 1 := by omega
      rw [this]
      simp only [tf]
      omega)
    refine ⟨S', ?_, (Kp.rf.sv ⟨rfl, Nat.le_refl _⟩).tr (e2.mo (fun a i h => ⟨h.1, Nat.le_succ_of_le h.2⟩)), fun i hi => ?_⟩
    · unfold f_X9_measure_l7
      simp only [bn, cl0, cl1, oc, gv_sv, gv_sr, gr_sv, gv_sl, gr_sl, gl_sv, gl_sl, or_self, or_false, false_or, if_false, if_true, reduceIte, nn (show j + 1 < 2147483648 by omega), ix_nI (show j + 1 < 2147483648 by omega), inG (show j + 1 < 10 by omega), hm (j + 1) (by omega), hv, nl_m1]
      exact e1
    · by_cases h : i ≤ j
      · exact e3 i h
      · have : i = j + 1 := by omega
        subst this
        rw [e2.1 12 (j + 1) (by unfold wMes; omega), gv_at]
theorem rd_has {S T : St} {st : Nat} (hs : st ≤ 10) (h1 : gv S 1 0 = nI st) (h2 : gv T 200 1 = nI st) (b : Int32) : (f_X9_has S b = some 0 ∧ f_X11_isStance T b = some 0) ∨ ∃ i, i < st ∧ b = nI i ∧ f_X9_has S b = some 1 ∧ f_X11_isStance T b = some 1 := by
  unfold f_X9_has f_X11_isStance
  rw [h1, h2]
  by_cases c1 : b < 0
  · left; simp [c1]
  by_cases c2 : nI st ≤ b
  · left; simp [c1, c2]
  · right
    obtain ⟨i, hi, e⟩ := i_lt (by omega) c1 c2
    exact ⟨i, hi, e, by simp [c1, c2], by simp [c1, c2]⟩
theorem rd_h1 {S : St} {st i : Nat} (hs : st ≤ 10) (h1 : gv S 1 0 = nI st) (hi : i < st) : f_X9_has S (nI i) = some 1 := by
  unfold f_X9_has
  rw [h1, if_neg (nn (by omega)), if_neg (nle_n hi (by omega))]
theorem rd_h2 {T : St} {st i : Nat} (hs : st ≤ 10) (h1 : gv T 200 1 = nI st) (hi : i < st) : f_X11_isStance T (nI i) = some 1 := by
  unfold f_X11_isStance
  rw [h1, if_neg (nn (by omega)), if_neg (nle_n hi (by omega))]
theorem rd_f1 {S : St} {st : Nat} (hs : 2 ≤ st) (h1 : gv S 1 0 = nI st) : f_X9_fair S = some (nI (st - 1)) := by
  unfold f_X9_fair
  obtain ⟨q, rfl⟩ : ∃ q, st = q + 1 := ⟨st - 1, by omega⟩
  rw [h1, nl_sub1]
  rfl
theorem rd_f2 {T : St} {st : Nat} (hs : 2 ≤ st) (h1 : gv T 200 1 = nI st) : f_X11_fair T = some (nI (st - 1)) := by
  unfold f_X11_fair
  obtain ⟨q, rfl⟩ : ∃ q, st = q + 1 := ⟨st - 1, by omega⟩
  rw [h1, nl_sub1]
  rfl
/-- the reference's way of measuring -/
theorem rd_tf {N : Nat} {T : St} {mi : Nat → Nat} {st : Nat} {k : Int32 → Option Int32} (hs2 : 2 ≤ st) (hs : st ≤ 10) (h1 : gv T 200 1 = nI st) (hm : ∀ i, i < 10 → gv T 203 i = nI (mi i)) : ∀ (q i acc fuel : Nat), i + q + 1 = st → q + 1 ≤ fuel → f_X11_toFair_l4 N T k fuel (nI acc) (nI i) = k (nI (acc + tf mi i q)) := by
  intro q
  induction q with
  | zero =>
    intro i acc fuel hi hf
    obtain ⟨fuel, rfl⟩ : ∃ q, fuel = q + 1 := ⟨fuel - 1, by omega⟩
    unfold f_X11_toFair_l4
    rw [rd_f2 hs2 h1]
    simp only [cl0]
    rw [if_pos (le_n (by omega) (by omega))]
    rfl
  | succ q ih =>
    intro i acc fuel hi hf
    obtain ⟨fuel, rfl⟩ : ∃ q, fuel = q + 1 := ⟨fuel - 1, by omega⟩
    unfold f_X11_toFair_l4
    rw [rd_f2 hs2 h1]
    simp only [bn, cl0, cl1, oc, gv_sv, gv_sr, gr_sv, gv_sl, gr_sl, gl_sv, gl_sl, or_self, or_false, false_or, if_false, if_true, reduceIte, nle_n (show i < st - 1 by omega) (by omega), nn (show i < 2147483648 by omega), ix_nI (show i < 2147483648 by omega), inG (show i < 10 by omega), hm i (by omega), nI_add, nl_add1]
    rw [ih (i + 1) _ fuel (by omega) (by omega)]
    simp only [tf]
    congr 2
    omega
theorem rd_toFair {N : Nat} {T : St} {mi : Nat → Nat} {st i : Nat} (hN : 100 ≤ N) (hs2 : 2 ≤ st) (hs : st ≤ 10) (h1 : gv T 200 1 = nI st) (hm : ∀ i, i < 10 → gv T 203 i = nI (mi i)) (hi : i < st) : f_X11_toFair N T (nI i) = some (nI (tf mi i (st - 1 - i))) := by
  unfold f_X11_toFair
  have := rd_tf (N := N) (k := fun x => some x) hs2 hs h1 hm (st - 1 - i) i 0 N (by omega) (by omega)
  rw [Nat.zero_add] at this
  exact this
/-- the price out of the first m letters -/
def pkn (P D : Nat → Int32) (day lag : Int32) : Nat → Int32
  | 0 => 0
  | m + 1 => if day < D m + lag then pkn P D day lag m else P m
theorem pkn_le {P D : Nat → Int32} {day lag : Int32} : ∀ m, (∀ i, i < m → ∃ p : Nat, p ≤ 1000 ∧ P i = nI p) → ∃ p : Nat, p ≤ 1000 ∧ pkn P D day lag m = nI p
  | 0, _ => ⟨0, by omega, rfl⟩
  | m + 1, h => by
    unfold pkn
    by_cases c : day < D m + lag
    · rw [if_pos c]; exact pkn_le m (fun i hi => h i (by omega))
    · rw [if_neg c]; exact h m (by omega)
theorem pkn_ext {P D P' D' : Nat → Int32} {day lag : Int32} : ∀ m, (∀ i, i < m → P i = P' i ∧ D i = D' i) → pkn P D day lag m = pkn P' D' day lag m
  | 0, _ => rfl
  | m + 1, h => by
    unfold pkn
    rw [(h m (by omega)).1, (h m (by omega)).2, pkn_ext m (fun i hi => h i (by omega))]
theorem pkn_c {N : Nat} {S : St} {day lag : Int32} {k : Int32 → Option Int32} (hk : ∀ i, i < 30 → k (nI i) = some (gv S 21 i)) : ∀ (m fuel : Nat), m ≤ 30 → m + 1 ≤ fuel → f_X2_priceKnown_l18 N day lag S k fuel (nI m + (-1)) = some (pkn (gv S 21) (gv S 22) day lag m) := by
  intro m
  induction m with
  | zero =>
    intro fuel hm hf
    obtain ⟨fuel, rfl⟩ : ∃ q, fuel = q + 1 := ⟨fuel - 1, by omega⟩
    rw [nl_m0]
    unfold f_X2_priceKnown_l18
    rw [if_pos (by decide)]
    rfl
  | succ m ih =>
    intro fuel hm hf
    obtain ⟨fuel, rfl⟩ : ∃ q, fuel = q + 1 := ⟨fuel - 1, by omega⟩
    rw [nl_m1]
    unfold f_X2_priceKnown_l18 pkn
    simp only [bn, cl0, cl1, oc, gv_sv, gv_sr, gr_sv, gv_sl, gr_sl, gl_sv, gl_sl, or_self, or_false, false_or, if_false, if_true, reduceIte, nn (show m < 2147483648 by omega), ix_nI (show m < 2147483648 by omega), inG (show m < 30 by omega)]
    by_cases c : day < gv S 22 m + lag
    · rw [if_pos c, if_pos c]; exact ih fuel (by omega) (by omega)
    · rw [if_neg c, if_neg c]; exact hk m (by omega)
theorem pkn_r {N : Nat} {T : St} {day lag : Int32} {n : Nat} {k : Int32 → Option Int32} (hn : n ≤ 30) (h1 : gv T 200 7 = nI n) : ∀ (q m fuel : Nat), m + q = n → q + 1 ≤ fuel → f_X11_knownAt_l18 N day lag T k fuel (pkn (gv T 209) (gv T 210) day lag m) (nI m) = k (pkn (gv T 209) (gv T 210) day lag n) := by
  intro q
  induction q with
  | zero =>
    intro m fuel hm hf
    obtain ⟨fuel, rfl⟩ : ∃ q, fuel = q + 1 := ⟨fuel - 1, by omega⟩
    unfold f_X11_knownAt_l18
    rw [h1, if_pos (le_n (by omega) (by omega))]
    have : m = n := by omega
    rw [this]
  | succ q ih =>
    intro m fuel hm hf
    obtain ⟨fuel, rfl⟩ : ∃ q, fuel = q + 1 := ⟨fuel - 1, by omega⟩
    have := ih (m + 1) fuel (by omega) (by omega)
    unfold f_X11_knownAt_l18
    simp only [bn, cl0, cl1, oc, gv_sv, gv_sr, gr_sv, gv_sl, gr_sl, gl_sv, gl_sl, or_self, or_false, false_or, if_false, if_true, reduceIte, h1, nle_n (show m < n by omega) (by omega), nn (show m < 2147483648 by omega), ix_nI (show m < 2147483648 by omega), inG (show m < 30 by omega), nl_add1]
    by_cases c : day < gv T 210 m + lag
    · rw [if_pos c]
      rw [pkn, if_pos c] at this
      exact this
    · rw [if_neg c]
      rw [pkn, if_neg c] at this
      exact this
/-- the price known at a stance: both sides -/
theorem price_both {N : Nat} {S T : St} {st d i : Nat} (hN : 100 ≤ N) (hd : gv S 0 11 = nI d) (hl : ILet S T) (hr : IRoad st S T) (hi : i < st) : ∃ p : Nat, p ≤ 1000 ∧ f_X10_priceKnownAt N S (nI i) = some (nI p) ∧ f_X11_knownAt N T (nI i) (nI d) = some (nI p) := by
  obtain ⟨s2, s10, r1, r2, ⟨mi, m1, m2, m3, m4⟩, _⟩ := hr
  obtain ⟨n, l1, l2, l3, l4⟩ := hl
  have ht := tf_le m1 (st - 1 - i) i
  obtain ⟨p, p1, p2⟩ := pkn_le (P := gv T 209) (D := gv T 210) (day := nI d) (lag := nI ((tf mi i (st - 1 - i) + 39) / 40)) n (fun i hi => (l4 i hi).2.2)
  refine ⟨p, p1, ?_, ?_⟩
  · unfold f_X10_priceKnownAt f_X9_milesToFair f_X2_priceKnown
    rw [rd_h1 s10 r1 hi]
    simp only [bn, cl0, cl1, oc, gv_sv, gv_sr, gr_sv, gv_sl, gr_sl, gl_sv, gl_sl, or_self, or_false, false_or, if_false, if_true, reduceIte, nn (show i < 2147483648 by omega), ix_nI (show i < 2147483648 by omega), inG (show i < 10 by omega), m4 i hi, hd, l2]
    have e1 : (nI (tf mi i (st - 1 - i)) + 40 - 1) / 40 = nI ((tf mi i (st - 1 - i) + 39) / 40) := by
      rw [show (40 : Int32) = nI 40 from rfl, nI_add, show (tf mi i (st - 1 - i) + 40) = (tf mi i (st - 1 - i) + 39) + 1 from rfl, nl_sub1, nI_div' (by omega) (by omega)]
    have e2 : nI n - 1 = nI n + (-1) := by rw [Int32.sub_eq_add_neg]
    simp only [show ((1 : Int32) = 0) = False from by decide, if_false, e1, e2]
    rw [pkn_c (fun i hi => by simp only [or_self, or_false, false_or, if_false, if_true, reduceIte, nn (show i < 2147483648 by omega), ix_nI (show i < 2147483648 by omega), inG hi]) n N l1 (by omega), pkn_ext n (fun i hi => ⟨(l4 i hi).1, (l4 i hi).2.1⟩), p2]
  · unfold f_X11_knownAt
    rw [rd_toFair hN s2 s10 r2 (fun i hi => (m3 i hi).2) hi]
    simp only [bn, cl0, cl1, oc, gv_sv, gv_sr, gr_sv, gv_sl, gr_sl, gl_sv, gl_sl]
    have e1 : (nI (tf mi i (st - 1 - i)) + 39) / 40 = nI ((tf mi i (st - 1 - i) + 39) / 40) := by
      rw [show (40 : Int32) = nI 40 from rfl, show (39 : Int32) = nI 39 from rfl, nI_add, nI_div' (by omega) (by omega)]
    rw [e1]
    have := pkn_r (N := N) (T := T) (day := nI d) (lag := nI ((tf mi i (st - 1 - i) + 39) / 40)) (k := fun x => some x) l1 l3 n 0 N (by omega) (by omega)
    rw [p2] at this
    exact this
theorem stp_5 {N : Nat} (hN : 1000 ≤ N) : Stp_5 N Inv := by
  intro L S a hi
  obtain ⟨n, st, hL, hn, hr, ⟨d, d1, d2, d3⟩, hLet, hFlt, hBil, hRoad, _⟩ := id hi
  obtain ⟨s2, s10, r1, r2, _⟩ := id hRoad
  unfold f_X10_known f_X11_known
  rcases rd_has s10 r1 r2 a with ⟨e1, e2⟩ | ⟨i, hi2, e, e1, e2⟩
  · exact ⟨-1, by simp [bn, cl0, cl1, oc, e1], by simp [bn, cl0, cl1, oc, e2], hi⟩
  · subst e
    obtain ⟨p, p1, p2, p3⟩ := price_both (by omega) d2 hLet hRoad hi2 (N := N)
    exact ⟨nI p, by simp [bn, cl0, cl1, oc, e1, p2], by simp [bn, cl0, cl1, oc, e2, d3, p3], hi⟩
theorem stp_12 {N : Nat} (hN : 1000 ≤ N) : Stp_12 N Inv := by
  intro L S a b hi
  obtain ⟨n, st, hL, hn, hr, ⟨d, d1, d2, d3⟩, hLet, hFlt, hBil, hRoad, _⟩ := id hi
  obtain ⟨s2, s10, r1, r2, ⟨mi, m1, m2, m3, m4⟩, r6, r7⟩ := id hRoad
  unfold f_X10_at f_X9_tell f_X11_at
  rcases rd_has s10 r1 r2 a with ⟨e1, e2⟩ | ⟨i, hi2, e, e1, e2⟩
  · exact ⟨-1, by simp [bn, cl0, cl1, oc, e1], by simp [bn, cl0, cl1, oc, e2], hi⟩
  · subst e
    have e3 := rd_toFair (N := N) (by omega) s2 s10 r2 (fun i hi => (m3 i hi).2) hi2
    obtain ⟨g1, g2, g3, g4⟩ := r6 i (by omega)
    simp only [e1, e2, e3, bn, cl0, cl1, oc, gv_sv, gv_sr, gr_sv, gv_sl, gr_sl, gl_sv, gl_sl, or_self, or_false, false_or, if_false, if_true, reduceIte, nn (show i < 2147483648 by omega), ix_nI (show i < 2147483648 by omega), inG (show i < 10 by omega), g1, g2, g3, g4, m4 i hi2, show ((1 : Int32) = 0) = False from by decide]
    by_cases c0 : b = 0
    · exact ⟨gv S 204 i, by simp [c0], by simp [c0], hi⟩
    by_cases c1 : b = 1
    · exact ⟨gv S 205 i, by simp [c1], by simp [c1], hi⟩
    by_cases c2 : b = 2
    · exact ⟨gv S 206 i, by simp [c2], by simp [c2], hi⟩
    by_cases c3 : b = 3
    · exact ⟨nI (tf mi i (st - 1 - i)), by simp [c3], by simp [c3], hi⟩
    by_cases c4 : b = 4
    · exact ⟨gv S 207 i, by simp [c4], by simp [c4], hi⟩
    exact ⟨-1, by simp [c0, c1, c2, c3, c4], by simp [c0, c1, c2, c3, c4], hi⟩
end ROADM
