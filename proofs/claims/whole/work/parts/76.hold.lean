section HOLDM
/-- a passing that is known, in the reference's words -/
def kn (T : St) (b d k : Int32) (p : Nat) : Prop := gv T 262 p = b ∧ ¬ d < gv T 265 p ∧ ¬ k < gv T 266 p ∧ (gv T 267 p < 0 ∨ ¬ gv T 267 p ≤ k)
noncomputable def sth (T : St) (b d k : Int32) (h : Int32) (p : Nat) : Int32 := @ite _ (kn T b d k p) (Classical.propDecidable _) (if gv T 263 p = h then gv T 264 p else h) h
theorem sth_y {T : St} {b d k h : Int32} {p : Nat} (c : kn T b d k p) : sth T b d k h p = if gv T 263 p = h then gv T 264 p else h := by
  unfold sth; exact @if_pos _ (Classical.propDecidable _) c _ _ _
theorem sth_n {T : St} {b d k h : Int32} {p : Nat} (c : ¬ kn T b d k p) : sth T b d k h p = h := by
  unfold sth; exact @if_neg _ (Classical.propDecidable _) c _ _ _
/-- the fold in the order of days -/
noncomputable def fo (T : St) (b d k : Int32) (sg : Nat → Nat) : Nat → Nat → Int32 → Int32
  | 0, _, h => h
  | q + 1, j, h => fo T b d k sg q (j + 1) (sth T b d k h (sg j))
theorem fo_skip {T : St} {b d k : Int32} {sg : Nat → Nat} : ∀ (i q j : Nat) (h : Int32), (∀ x, j ≤ x → x < j + i → ¬ kn T b d k (sg x)) → fo T b d k sg (i + q) j h = fo T b d k sg q (j + i) h
  | 0, q, j, h, _ => by simp
  | i + 1, q, j, h, hk => by
    rw [show i + 1 + q = (i + q) + 1 by omega, fo, sth_n (hk j (by omega) (by omega)), fo_skip i q (j + 1) h (fun x h1 h2 => hk x (by omega) (by omega))]
    congr 1
    omega
theorem one0 : ((1 : Int32) = 0) = False := by decide
theorem fol_c {N : Nat} {S T : St} {b d kk : Int32} {n : Nat} {sg dy : Nat → Nat} {k : Int32 → Option Int32} (hn : n ≤ 60) (h1 : gv S 4 0 = nI n) (a4 : ∀ i, i < n → gv S 41 i = gv T 262 i ∧ gv S 42 i = gv T 263 i ∧ gv S 43 i = gv T 264 i ∧ gv S 44 i = gv T 265 i ∧ gv S 45 i = gv T 266 i ∧ gv S 46 i = gv T 267 i ∧ gv T 265 i = nI (dy i) ∧ dy i ≤ 100000 ∧ (gv T 267 i = -1 ∨ ∃ d : Nat, d ≤ 100000 ∧ gv T 267 i = nI d)) (s1 : ∀ i, i < n → sg i < n ∧ gv S 47 i = nI (sg i)) : ∀ (q j fuel : Nat) (h : Int32), j + q = n → q + 1 ≤ fuel → f_X7_follow_l6 N b d kk S k fuel h (nI j) = k (fo T b d kk sg q j h) := by
  intro q
  induction q with
  | zero =>
    intro j fuel h hj hf
    obtain ⟨fuel, rfl⟩ : ∃ q, fuel = q + 1 := ⟨fuel - 1, by omega⟩
    unfold f_X7_follow_l6
    rw [h1, if_pos (le_n (by omega) (by omega))]
    rfl
  | succ q ih =>
    intro j fuel h hj hf
    obtain ⟨fuel, rfl⟩ : ∃ q, fuel = q + 1 := ⟨fuel - 1, by omega⟩
    have p1 := (s1 j (by omega)).1
    obtain ⟨g1, g2, g3, g4, g5, g6, _, _, g9⟩ := a4 (sg j) p1
    unfold f_X7_follow_l6
    simp only [bn, cl0, cl1, oc, gv_sv, gv_sr, gr_sv, gv_sl, gr_sl, gl_sv, gl_sl, or_self, or_false, false_or, if_false, if_true, reduceIte, h1, nle_n (show j < n by omega) (by omega), nn (show j < 2147483648 by omega), ix_nI (show j < 2147483648 by omega), inG (show j < 60 by omega), (s1 j (by omega)).2, nn (show sg j < 2147483648 by omega), ix_nI (show sg j < 2147483648 by omega), inG (show sg j < 60 by omega), g1, g2, g3, g4, g5, g6, f_X7_follow_j50, f_X7_follow_j51, f_X7_isKnown, nl_add1]
    rw [fo]
    by_cases c1 : gv T 262 (sg j) = b
    · by_cases c2 : d < gv T 265 (sg j)
      · rw [sth_n (fun hk => hk.2.1 c2)]
        simp only [c1, c2, if_true]
        exact ih (j + 1) fuel h (by omega) (by omega)
      · simp only [c1, c2, if_true, if_false, one0]
        by_cases c3 : kk < gv T 266 (sg j)
        · rw [sth_n (fun hk => hk.2.2.1 c3)]
          simp only [c3, if_true]
          have := ih (j + 1) fuel h (by omega) (by omega)
          by_cases z1 : gv T 267 (sg j) = -1
          · simp only [z1, if_true]; exact this
          · by_cases z2 : kk < gv T 267 (sg j)
            · simp only [z1, z2, if_true, if_false]; exact this
            · simp only [z1, z2, if_true, if_false]; exact this
        · by_cases c4 : gv T 267 (sg j) < 0 ∨ ¬ gv T 267 (sg j) ≤ kk
          · rw [sth_y ⟨c1, c2, c3, c4⟩]
            have c5 : gv T 267 (sg j) = -1 ∨ kk < gv T 267 (sg j) := by
              rcases g9 with g9 | ⟨e, e1, e2⟩
              · exact Or.inl g9
              · right
                rcases c4 with c4 | c4
                · rw [e2] at c4; exact absurd c4 (nn (by omega))
                · exact i_nle.mp c4
            by_cases c6 : gv T 267 (sg j) = -1
            · simp only [c6, c3, if_true, if_false, one0]
              by_cases c7 : gv T 263 (sg j) = h
              · simp only [c7, if_true]; exact ih (j + 1) fuel _ (by omega) (by omega)
              · simp only [c7, if_false]; exact ih (j + 1) fuel _ (by omega) (by omega)
            · have c8 := c5.resolve_left c6
              simp only [c6, c8, c3, if_true, if_false, one0]
              by_cases c7 : gv T 263 (sg j) = h
              · simp only [c7, if_true]; exact ih (j + 1) fuel _ (by omega) (by omega)
              · simp only [c7, if_false]; exact ih (j + 1) fuel _ (by omega) (by omega)
          · rw [sth_n (fun hk => c4 hk.2.2.2)]
            have c5 : ¬ gv T 267 (sg j) = -1 := fun h => c4 (Or.inl (by rw [h]; decide))
            have c6 : ¬ kk < gv T 267 (sg j) := fun h => c4 (Or.inr (i_nle.mpr h))
            simp only [c5, c6, c3, if_true, if_false]
            exact ih (j + 1) fuel h (by omega) (by omega)
    · rw [sth_n (fun hk => c1 hk.1)]
      simp only [c1, if_true, if_false]
      exact ih (j + 1) fuel h (by omega) (by omega)
/-- later than what was had last -/
def lt8 (T : St) (v5 v6 : Int32) (p : Nat) : Prop := v5 < gv T 265 p ∨ (gv T 265 p = v5 ∧ ¬ nI p ≤ v6)
theorem sel_r {N : Nat} {T : St} {b d kk v4 v5 v6 : Int32} {n : Nat} {k : Int32 → Option Int32} (hn : n ≤ 60) (h1 : gv T 200 55 = nI n) : ∀ (q p fuel : Nat) (v8 : Int32), p + q = n → q + 1 ≤ fuel → ((v8 = -1 ∧ ∀ x, x < p → ¬ (kn T b d kk x ∧ lt8 T v5 v6 x)) ∨ ∃ c, c < p ∧ v8 = nI c ∧ kn T b d kk c ∧ lt8 T v5 v6 c ∧ ∀ x, x < p → kn T b d kk x → lt8 T v5 v6 x → gv T 265 c < gv T 265 x ∨ (gv T 265 c = gv T 265 x ∧ c ≤ x)) → ∃ r, f_X11_holder_l38 N b d kk v4 v5 v6 T k fuel v8 (nI p) = k r ∧ ((r = -1 ∧ ∀ x, x < n → ¬ (kn T b d kk x ∧ lt8 T v5 v6 x)) ∨ ∃ c, c < n ∧ r = nI c ∧ kn T b d kk c ∧ lt8 T v5 v6 c ∧ ∀ x, x < n → kn T b d kk x → lt8 T v5 v6 x → gv T 265 c < gv T 265 x ∨ (gv T 265 c = gv T 265 x ∧ c ≤ x)) := by
  intro q
  induction q with
  | zero =>
    intro p fuel v8 hp hf hv
    obtain ⟨fuel, rfl⟩ : ∃ q, fuel = q + 1 := ⟨fuel - 1, by omega⟩
    have : p = n := by omega
    subst this
    refine ⟨v8, ?_, hv⟩
    unfold f_X11_holder_l38
    rw [h1, if_pos (le_n (by omega) (by omega))]
  | succ q ih =>
    intro p fuel v8 hp hf hv
    obtain ⟨fuel, rfl⟩ : ∃ q, fuel = q + 1 := ⟨fuel - 1, by omega⟩
    have n1 := nn (show p < 2147483648 by omega)
    have n2 := ix_nI (show p < 2147483648 by omega)
    have n3 := inG (show p < 60 by omega)
    -- the two flags
    have fl : ∀ (w : Int32) (kb : Int32 → Int32 → Option Int32), f_X11_holder_j106 N kb k T b d kk v4 v5 v6 v8 (nI p) w = f_X11_holder_j144 N kb k T b d kk v4 v5 v6 v8 (nI p) w (@ite _ (lt8 T v5 v6 p) (Classical.propDecidable _) 1 0) := by
      intro w kb
      unfold f_X11_holder_j106 f_X11_holder_j139 f_X11_holder_j143
      simp only [n1, n2, n3, or_self, or_false, false_or, if_false, if_true, reduceIte]
      by_cases c1 : v5 < gv T 265 p
      · rw [if_pos c1, if_pos (show lt8 T v5 v6 p from Or.inl c1)]
      · rw [if_neg c1]
        by_cases c2 : gv T 265 p = v5
        · rw [if_pos c2]
          by_cases c3 : nI p ≤ v6
          · rw [if_pos c3, if_neg (fun h : lt8 T v5 v6 p => h.elim c1 (fun h => h.2 c3))]
          · rw [if_neg c3, if_pos (show lt8 T v5 v6 p from Or.inr ⟨c2, c3⟩)]
        · rw [if_neg c2, if_neg (fun h : lt8 T v5 v6 p => h.elim c1 (fun h => c2 h.1))]
    have main : f_X11_holder_l38 N b d kk v4 v5 v6 T k (fuel + 1) v8 (nI p) = f_X11_holder_j106 N (f_X11_holder_l38 N b d kk v4 v5 v6 T k fuel) k T b d kk v4 v5 v6 v8 (nI p) (@ite _ (kn T b d kk p) (Classical.propDecidable _) 1 0) := by
      rw [f_X11_holder_l38]
      unfold f_X11_holder_j105 f_X11_holder_j101
      simp only [n1, n2, n3, or_self, or_false, false_or, if_false, if_true, reduceIte, h1, nle_n (show p < n by omega) (by omega)]
      by_cases c1 : gv T 262 p = b
      · rw [if_pos c1]
        by_cases c2 : d < gv T 265 p
        · rw [if_pos c2, if_neg (fun h : kn T b d kk p => h.2.1 c2)]
        · rw [if_neg c2]
          by_cases c3 : kk < gv T 266 p
          · rw [if_pos c3, if_neg (fun h : kn T b d kk p => h.2.2.1 c3)]
          · rw [if_neg c3]
            by_cases c4 : gv T 267 p < 0
            · rw [if_pos c4, if_pos (show kn T b d kk p from ⟨c1, c2, c3, Or.inl c4⟩)]
            · rw [if_neg c4]
              by_cases c5 : gv T 267 p ≤ kk
              · rw [if_pos c5, if_neg (fun h : kn T b d kk p => h.2.2.2.elim c4 (fun h => h c5))]
              · rw [if_neg c5, if_pos (show kn T b d kk p from ⟨c1, c2, c3, Or.inr c5⟩)]
      · rw [if_neg c1, if_neg (fun h : kn T b d kk p => c1 h.1)]
    rw [main, fl]
    unfold f_X11_holder_j144
    simp only [bn, cl0, cl1, oc, nl_add1]
    by_cases ck : kn T b d kk p
    · rw [if_pos ck, if_neg (by decide)]
      by_cases cl : lt8 T v5 v6 p
      · rw [if_pos cl, if_neg (by decide)]
        rcases hv with ⟨e, hno⟩ | ⟨c, c1, c2, c3, c4, c5⟩
        · rw [if_pos (by rw [e]; decide)]
          refine ih (p + 1) fuel (nI p) (by omega) (by omega) (Or.inr ⟨p, by omega, rfl, ck, cl, fun x hx hk hl => ?_⟩)
          by_cases hxp : x = p
          · subst hxp; exact Or.inr ⟨rfl, Nat.le_refl _⟩
          · exact absurd ⟨hk, hl⟩ (hno x (by omega))
        · subst c2
          rw [if_neg (nn (by omega))]
          simp only [n1, n2, n3, nn (show c < 2147483648 by omega), ix_nI (show c < 2147483648 by omega), inG (show c < 60 by omega), or_self, or_false, false_or, if_false, if_true, reduceIte]
          by_cases c6 : gv T 265 c ≤ gv T 265 p
          · rw [if_pos c6]
            refine ih (p + 1) fuel (nI c) (by omega) (by omega) (Or.inr ⟨c, by omega, rfl, c3, c4, fun x hx hk hl => ?_⟩)
            by_cases hxp : x = p
            · subst hxp
              by_cases c7 : gv T 265 c = gv T 265 x
              · exact Or.inr ⟨c7, by omega⟩
              · exact Or.inl (Int32.lt_of_le_of_ne c6 c7)
            · exact c5 x (by omega) hk hl
          · rw [if_neg c6]
            refine ih (p + 1) fuel (nI p) (by omega) (by omega) (Or.inr ⟨p, by omega, rfl, ck, cl, fun x hx hk hl => ?_⟩)
            by_cases hxp : x = p
            · subst hxp; exact Or.inr ⟨rfl, Nat.le_refl _⟩
            · rcases c5 x (by omega) hk hl with h | h
              · exact Or.inl (Int32.lt_trans (i_nle.mp c6) h)
              · exact Or.inl (by rw [← h.1]; exact i_nle.mp c6)
      · rw [if_neg cl, if_pos rfl]
        refine ih (p + 1) fuel v8 (by omega) (by omega) ?_
        rcases hv with ⟨e, hno⟩ | ⟨c, c1, c2, c3, c4, c5⟩
        · refine Or.inl ⟨e, fun x hx h => ?_⟩
          by_cases hxp : x = p
          · subst hxp; exact cl h.2
          · exact hno x (by omega) h
        · refine Or.inr ⟨c, by omega, c2, c3, c4, fun x hx hk hl => ?_⟩
          by_cases hxp : x = p
          · subst hxp; exact absurd hl cl
          · exact c5 x (by omega) hk hl
    · rw [if_neg ck, if_pos rfl]
      refine ih (p + 1) fuel v8 (by omega) (by omega) ?_
      rcases hv with ⟨e, hno⟩ | ⟨c, c1, c2, c3, c4, c5⟩
      · refine Or.inl ⟨e, fun x hx h => ?_⟩
        by_cases hxp : x = p
        · subst hxp; exact ck h.1
        · exact hno x (by omega) h
      · refine Or.inr ⟨c, by omega, c2, c3, c4, fun x hx hk hl => ?_⟩
        by_cases hxp : x = p
        · subst hxp; exact absurd hk ck
        · exact c5 x (by omega) hk hl
theorem hol_r {N : Nat} {T : St} {b d kk : Int32} {n : Nat} {sg : Nat → Nat} {k : Int32 → Option Int32} (hN : 100 ≤ N) (hn : n ≤ 60) (h1 : gv T 200 55 = nI n) (s1 : ∀ i, i < n → sg i < n) (s2 : ∀ p, p < n → ∃ i, i < n ∧ sg i = p) (s3 : ∀ i j, i < j → j < n → gv T 265 (sg i) < gv T 265 (sg j) ∨ (gv T 265 (sg i) = gv T 265 (sg j) ∧ sg i < sg j)) : ∀ (q0 q j fuel : Nat) (h v5 v6 : Int32), q ≤ q0 → j + q = n → q0 + 2 ≤ fuel → (∀ i, i < n → kn T b d kk (sg i) → (lt8 T v5 v6 (sg i) ↔ j ≤ i)) → f_X11_holder_l27 N b d kk T k fuel h v5 v6 1 = k (fo T b d kk sg q j h) := by
  intro q0
  induction q0 with
  | zero =>
    intro q j fuel h v5 v6 hq hj hf hok
    have : q = 0 := by omega
    subst this
    obtain ⟨fuel, rfl⟩ : ∃ q, fuel = q + 2 := ⟨fuel - 2, by omega⟩
    rw [f_X11_holder_l27, if_neg (by decide)]
    obtain ⟨r, e1, e2⟩ := sel_r (N := N) (b := b) (d := d) (kk := kk) (v4 := h) (v5 := v5) (v6 := v6) (k := (fun x_35 => if x_35 < 0 then (f_X11_holder_j198 N (f_X11_holder_l27 N b d kk T k (fuel + 1)) k T b d kk h v5 v6 x_35 0) else (f_X11_holder_j198 N (f_X11_holder_l27 N b d kk T k (fuel + 1)) k T b d kk h v5 v6 x_35 1))) hn h1 n 0 N (-1) (by omega) (by omega) (Or.inl ⟨rfl, fun x hx => by omega⟩)
    refine Eq.trans e1 ?_
    rcases e2 with ⟨e2, _⟩ | ⟨c, c1, c2, c3, c4, c5⟩
    · subst e2
      rw [if_pos (by decide)]
      unfold f_X11_holder_j198
      rw [if_pos rfl, f_X11_holder_l27, if_pos rfl]
      rfl
    · obtain ⟨i, i1, i2⟩ := s2 c c1
      rw [← i2] at c3 c4
      have := (hok i i1 c3).mp c4
      omega
  | succ q0 ih =>
    intro q j fuel h v5 v6 hq hj hf hok
    obtain ⟨fuel, rfl⟩ : ∃ q, fuel = q + 2 := ⟨fuel - 2, by omega⟩
    rw [f_X11_holder_l27, if_neg (by decide)]
    obtain ⟨r, e1, e2⟩ := sel_r (N := N) (b := b) (d := d) (kk := kk) (v4 := h) (v5 := v5) (v6 := v6) (k := (fun x_35 => if x_35 < 0 then (f_X11_holder_j198 N (f_X11_holder_l27 N b d kk T k (fuel + 1)) k T b d kk h v5 v6 x_35 0) else (f_X11_holder_j198 N (f_X11_holder_l27 N b d kk T k (fuel + 1)) k T b d kk h v5 v6 x_35 1))) hn h1 n 0 N (-1) (by omega) (by omega) (Or.inl ⟨rfl, fun x hx => by omega⟩)
    refine Eq.trans e1 ?_
    rcases e2 with ⟨e2, e3⟩ | ⟨c, c1, c2, c3, c4, c5⟩
    · subst e2
      rw [if_pos (by decide)]
      unfold f_X11_holder_j198
      rw [if_pos rfl, f_X11_holder_l27, if_pos rfl]
      have := fo_skip (T := T) (b := b) (d := d) (k := kk) (sg := sg) q 0 j h (fun x h1 h2 hk => by
        have := (hok x (by omega) hk).mpr h1
        exact e3 (sg x) (s1 x (by omega)) ⟨hk, this⟩)
      rw [Nat.add_zero] at this
      rw [this]
      rfl
    · obtain ⟨i, i1, i2⟩ := s2 c c1
      subst i2
      have hji := (hok i i1 c3).mp c4
      subst c2
      rw [if_neg (nn (by omega))]
      have sk := fo_skip (T := T) (b := b) (d := d) (k := kk) (sg := sg) (i - j) (n - i) j h (fun x h1 h2 hk => by
        have hx := (hok x (by omega) hk).mpr h1
        have hs := s3 x i (by omega) i1
        rcases c5 (sg x) (s1 x (by omega)) hk hx with h3 | h3
        · rcases hs with h4 | h4
          · exact absurd (Int32.lt_trans h3 h4) Int32.lt_irrefl
          · rw [h4.1] at h3; exact absurd h3 Int32.lt_irrefl
        · rcases hs with h4 | h4
          · rw [h3.1] at h4; exact absurd h4 Int32.lt_irrefl
          · omega)
      rw [show i - j + (n - i) = q by omega, show j + (i - j) = i by omega] at sk
      rw [sk, show n - i = (n - i - 1) + 1 by omega, fo, sth_y c3]
      have nx : ∀ h', f_X11_holder_l27 N b d kk T k (fuel + 1) h' (gv T 265 (sg i)) (nI (sg i)) 1 = k (fo T b d kk sg (n - i - 1) (i + 1) h') := by
        intro h'
        refine ih (n - i - 1) (i + 1) (fuel + 1) h' _ _ (by omega) (by omega) (by omega) (fun x hx hk => ⟨fun hl => ?_, fun hix => ?_⟩)
        · apply Nat.lt_of_not_le
          intro hxi
          by_cases hxe : x = i
          · subst hxe
            rcases hl with hl | hl
            · exact Int32.lt_irrefl hl
            · exact hl.2 (Int32.le_refl _)
          · rcases s3 x i (by omega) i1 with h4 | h4
            · rcases hl with hl | hl
              · exact Int32.lt_irrefl (Int32.lt_trans hl h4)
              · rw [hl.1] at h4; exact Int32.lt_irrefl h4
            · rcases hl with hl | hl
              · rw [h4.1] at hl; exact Int32.lt_irrefl hl
              · exact hl.2 (le_n (by omega) (by have := s1 i i1; omega))
        · rcases s3 i x (by omega) hx with h4 | h4
          · exact Or.inl h4
          · exact Or.inr ⟨h4.1.symm, nle_n h4.2 (by have := s1 x hx; omega)⟩
      have q1 := s1 i i1
      unfold f_X11_holder_j198
      simp only [bn, cl0, cl1, oc, or_self, or_false, false_or, if_false, if_true, reduceIte, one0, nn (show sg i < 2147483648 by omega), ix_nI (show sg i < 2147483648 by omega), inG (show sg i < 60 by omega)]
      by_cases c7 : gv T 263 (sg i) = h
      · simp only [c7, if_true]; exact nx _
      · simp only [c7, if_false]; exact nx _
/-- holder: both sides -/
theorem holder_both {N : Nat} {S T : St} {b d k : Int32} (hN : 1000 ≤ N) (hb : IBil S T) (hp : IPas S T) : ∃ r, f_X0_holderKnown N S b d k = some r ∧ f_X11_holder N T b d k = some r := by
  obtain ⟨nb, b1, b2, b3, b4⟩ := hb
  obtain ⟨m, a1, a2, a3, ⟨dy, a4⟩, ⟨sg, s1, s2, s3⟩⟩ := hp
  unfold f_X0_holderKnown f_X11_holder f_X7_follow f_X0_has f_X11_isBill
  rw [b2, b3]
  by_cases c1 : b < 0
  · exact ⟨-1, by simp [bn, cl0, cl1, oc, c1], by simp [bn, cl0, cl1, oc, c1]⟩
  by_cases c2 : nI nb ≤ b
  · exact ⟨-1, by simp [bn, cl0, cl1, oc, c1, c2], by simp [bn, cl0, cl1, oc, c1, c2]⟩
  obtain ⟨i, hi, e⟩ := i_lt (by omega) c1 c2
  subst e
  have g := (b4 i hi).2.1
  simp only [bn, cl0, cl1, oc, or_self, or_false, false_or, if_false, if_true, reduceIte, c1, c2, one0, ix_nI (show i < 2147483648 by omega), inG (show i < 20 by omega), g]
  have e1 := fol_c (N := N) (b := nI i) (d := d) (kk := k) (k := fun x => some x) a1 a2 a4 s1 m 0 N (gv T 258 i) (by omega) (by omega)
  have e2 := hol_r (N := N) (b := nI i) (d := d) (kk := k) (k := fun x => some x) (by omega) a1 a3 (fun i hi => (s1 i hi).1) s2 s3 60 m 0 N (gv T 258 i) (-1) (-1) (by omega) (by omega) (by omega) (fun x hx _ => ⟨fun _ => Nat.zero_le _, fun _ => Or.inl (by
    rw [(a4 (sg x) (s1 x hx).1).2.2.2.2.2.2.1]
    exact Int32.lt_of_lt_of_le (show (-1 : Int32) < nI 0 from by decide) (le_n (Nat.zero_le _) (by have := (a4 (sg x) (s1 x hx).1).2.2.2.2.2.2.2.1; omega)))⟩)
  rw [show (0 : Int32) = nI 0 from rfl, e1, e2]
  exact ⟨_, rfl, rfl⟩
theorem stp_19 {N : Nat} (hN : 1000 ≤ N) : Stp_19 N Inv := by
  intro L S a b c hi
  obtain ⟨n, st, hL, hn, hr, hDay, hLet, hFlt, hBil, hRoad, hPas, _⟩ := id hi
  obtain ⟨r, e1, e2⟩ := holder_both (b := a) (d := b) (k := c) hN hBil hPas
  exact ⟨r, by simp [f_X10_holder, bn, cl0, cl1, oc, e1], e2, hi⟩
theorem stp_20 {N : Nat} (hN : 1000 ≤ N) : Stp_20 N Inv := by
  intro L S a hi
  obtain ⟨n, st, hL, hv⟩ := id hi
  obtain ⟨hn, hr, ⟨d, d1, d2, d3⟩, hLet, hFlt, hBil, hRoad, hPas, _⟩ := id hv
  obtain ⟨nb, b1, b2, b3, b4⟩ := id hBil
  unfold f_X10_pay f_X0_settle f_X11_pay
  rcases bil_has b1 b2 b3 a with ⟨e1, e2⟩ | ⟨i, hi2, e, e1, e2⟩
  · exact ⟨-1, S, S, by simp [bn, cl0, cl1, oc, e1], by simp [bn, cl0, cl1, oc, e2], hi⟩
  · subst e
    obtain ⟨g1, g2, g3, g4, g5, g6⟩ := b4 i hi2
    have n1 := nn (show i < 2147483648 by omega)
    have n2 := ix_nI (show i < 2147483648 by omega)
    have n3 := inG (show i < 20 by omega)
    simp only [e1, d2, bn, cl0, cl1, oc, or_self, or_false, false_or, if_false, if_true, reduceIte, one0, n1, n2, n3, g3]
    by_cases c1 : nI d < gv S 259 i
    · exact ⟨-1, S, S, by simp [c1], by simp [e2, d3, c1, n1, n2, show ¬ 20 ≤ i by omega], hi⟩
    · simp only [c1, if_false, g4]
      rcases g6 with g6 | ⟨y, y1, y2⟩
      · have hB : ∀ (S' T' : St), (∀ a j, a < 200 → ¬ (a = 35 ∧ j = i) → ¬ (a = 36 ∧ j = i) → gv S' a j = gv S a j) → gv S' 35 i = nI d → (∀ a j, 200 ≤ a → ¬ (a = 260 ∧ j = i) → ¬ (a = 261 ∧ j = i) → gv T' a j = gv S a j) → gv T' 260 i = nI d → gv S' 36 i = gv T' 261 i → IBil S' T' := by
          intro S' T' h1 h2 h3 h4 h5
          refine ⟨nb, b1, ?_, ?_, fun j hj => ?_⟩
          · rw [h1 3 0 (by omega) (by omega) (by omega)]; exact b2
          · rw [h3 200 54 (by omega) (by omega) (by omega)]; exact b3
          · obtain ⟨g1, g2, g3, g4, g5, g6⟩ := b4 j hj
            rw [h1 32 j (by omega) (by omega) (by omega), h1 33 j (by omega) (by omega) (by omega), h1 34 j (by omega) (by omega) (by omega), h3 257 j (by omega) (by omega) (by omega), h3 258 j (by omega) (by omega) (by omega), h3 259 j (by omega) (by omega) (by omega)]
            by_cases hji : j = i
            · subst hji
              rw [h2, h4]
              exact ⟨g1, g2, g3, rfl, h5, Or.inr ⟨d, d1, rfl⟩⟩
            · rw [h1 35 j (by omega) (by omega) (by omega), h1 36 j (by omega) (by omega) (by omega), h3 260 j (by omega) (by omega) (by omega), h3 261 j (by omega) (by omega) (by omega)]
              exact ⟨g1, g2, g3, g4, g5, g6⟩
        -- the class's holder, on the state with the day set
        obtain ⟨r, f1, _⟩ := holder_both (N := N) (S := sv S 35 i (nI d)) (T := sv (sv S 260 i (nI d)) 261 i (gv S 36 i)) (b := nI i) (d := nI d) (k := nI d) hN (hB _ _ (fun a j _ h1 h2 => by rw [gv_sv, if_neg (by omega)]) (by simp [gv_sv]) (fun a j _ h1 h2 => by rw [gv_sv, if_neg (by omega), gv_sv, if_neg (by omega)]) (by simp [gv_sv]) (by simp [gv_sv])) (hPas.fr (fun a j _ h => by unfold rPas at h; rw [gv_ne (by omega)]) (fun a j _ h => by unfold rPas at h; rw [gv_ne (by omega), gv_ne (by omega)]))
        obtain ⟨r', f1', f2⟩ := holder_both (N := N) (S := sv S 35 i (nI d)) (T := sv (sv (sv S 35 i (nI d)) 36 i r) 260 i (nI d)) (b := nI i) (d := nI d) (k := nI d) hN (hB _ _ (fun a j _ h1 h2 => by rw [gv_sv, if_neg (by omega)]) (by simp [gv_sv]) (fun a j hr h1 h2 => by
            rw [gv_sv, if_neg (by omega), gv_sv, if_neg (by omega), gv_sv, if_neg (by omega)]) (by simp [gv_sv]) (by simp [gv_sv, g5])) (hPas.fr (fun a j _ h => by unfold rPas at h; rw [gv_ne (by omega)]) (fun a j _ h => by unfold rPas at h; rw [gv_ne (by omega), gv_ne (by omega), gv_ne (by omega)]))
        have hrr : r' = r := Option.some.inj (f1'.symm.trans f1)
        subst hrr
        refine ⟨r', sv (sv S 35 i (nI d)) 36 i r', sv (sv (sv (sv S 35 i (nI d)) 36 i r') 260 i (nI d)) 261 i r', ?_, ?_, n, st, hL, hv.bil ?_ ?_⟩
        · simp [g6, f1, gv_sv]
        · have e3 : f_X11_isBill (sv (sv S 35 i (nI d)) 36 i r') (nI i) = some 1 := by
            rw [← e2]; unfold f_X11_isBill; simp only [gv_sv]; simp
          simp [e3, bn, cl0, cl1, oc, gv_sv, gv_sr, gr_sv, gv_sl, gr_sl, gl_sv, gl_sl, d3, c1, g6, n1, n2, show ¬ 20 ≤ i by omega, f2, show ((-1 : Int32) < 0) from by decide]
        · exact ((((Kp.rf.sv (by unfold rBil; omega)).sv (by unfold rBil; omega)).sv (by unfold rBil; omega)).sv (by unfold rBil; omega))
        · exact hB _ _ (fun a j hr h1 h2 => by rw [gv_sv, if_neg (by omega), gv_sv, if_neg (by omega), gv_sv, if_neg (by omega), gv_sv, if_neg (by omega)]) (by simp [gv_sv]) (fun a j hr h1 h2 => by rw [gv_sv, if_neg (by omega), gv_sv, if_neg (by omega), gv_sv, if_neg (by omega), gv_sv, if_neg (by omega)]) (by simp [gv_sv]) (by simp [gv_sv])
      · have q : ¬ nI y = -1 := by
          intro h
          have := congrArg Int32.toInt h
          rw [ti_n (by omega)] at this
          have e2 : ((-1 : Int32)).toInt = -1 := by decide
          omega
        refine ⟨-1, S, S, ?_, ?_, hi⟩
        · simp [y2, q]
        · simp [e2, d3, c1, y2, n1, n2, nn (show y < 2147483648 by omega), show ¬ 20 ≤ i by omega]
end HOLDM
