section STK
def pend (P : List Nat) : List (Nat × Nat) := P.reverse.map (fun c => (c, 0))
theorem pend_nil : pend [] = [] := rfl
theorem pend_one {c : Nat} : pend [c] = [(c, 0)] := rfl
theorem pend_app {A B : List Nat} : pend (A ++ B) = pend B ++ pend A := by unfold pend; rw [List.reverse_append, List.map_append]
theorem pend_len {A : List Nat} : (pend A).length = A.length := by unfold pend; simp
def deep : List Nat → Nat
  | [] => 0
  | q :: l => (if q = 40 ∨ q = 48 then 1 else 0) + deep l
theorem deep_app : ∀ (A B : List Nat), deep (A ++ B) = deep A + deep B
  | [], B => by simp [deep]
  | q :: A, B => by simp only [List.cons_append, deep, deep_app A B]; omega
def PF (T : St) (R : List (Nat × Nat)) (Q : List Nat) (ops : Nat) : Prop := gv T 200 34 = nI R.length ∧ (∀ i c v, R[i]? = some (c, v) → gv T 229 i = nI c ∧ (c = 0 → gv T 230 i = nI v)) ∧ gv T 200 35 = nI ops ∧ gv T 200 38 = 0 ∧ gv T 200 47 = nI Q.length ∧ (∀ i q, Q[i]? = some q → gv T 247 i = nI q) ∧ gv T 200 48 = nI (deep Q) ∧ gv T 200 39 = -1
/-- what the reference's reading of a line may write -/
def wPf (a j : Nat) : Prop := (a = 200 ∧ (j = 34 ∨ j = 35 ∨ j = 38 ∨ j = 39 ∨ j = 47 ∨ j = 48)) ∨ a = 229 ∨ a = 230 ∨ a = 247
theorem PF.kp {w : Nat → Nat → Prop} {T T' : St} {R : List (Nat × Nat)} {Q : List Nat} {ops : Nat} (h : PF T R Q ops) (k : Kp w T T') (hw : ∀ a j, wPf a j → ¬ w a j) : PF T' R Q ops := by
  unfold PF at h ⊢
  have e : ∀ j, (j = 34 ∨ j = 35 ∨ j = 38 ∨ j = 39 ∨ j = 47 ∨ j = 48) → gv T' 200 j = gv T 200 j := fun j hj => k.1 _ _ (hw _ _ (Or.inl ⟨rfl, hj⟩))
  rw [e 34 (by omega), e 35 (by omega), e 38 (by omega), e 47 (by omega), e 48 (by omega), e 39 (by omega)]
  refine ⟨h.1, fun i c v hi => ?_, h.2.2.1, h.2.2.2.1, h.2.2.2.2.1, fun i q hi => ?_, h.2.2.2.2.2.2⟩
  · rw [k.1 229 i (hw _ _ (by unfold wPf; omega)), k.1 230 i (hw _ _ (by unfold wPf; omega))]; exact h.2.1 i c v hi
  · rw [k.1 247 i (hw _ _ (by unfold wPf; omega))]; exact h.2.2.2.2.2.1 i q hi
section
variable {T : St} {R : List (Nat × Nat)} {Q : List Nat} {ops c v : Nat}
theorem get_snoc {α : Type} {l : List α} {x y : α} {i : Nat} (h : (l ++ [x])[i]? = some y) : (i < l.length ∧ l[i]? = some y) ∨ (i = l.length ∧ x = y) := by
  by_cases c : i < l.length
  · rw [List.getElem?_append_left c] at h
    exact Or.inl ⟨c, h⟩
  · rw [List.getElem?_append_right (by omega)] at h
    by_cases c2 : i = l.length
    · subst c2
      simp at h
      exact Or.inr ⟨rfl, h⟩
    · rw [List.getElem?_eq_none (by simp; omega)] at h
      cases h
theorem step_n {y : Int32} (h : PF T R Q ops) (hR : R.length < 500) (hy : c = 0 → y = nI v) : ∃ T', f_X11_step T (nI c) y = some T' ∧ PF T' (R ++ [(c, v)]) Q ops ∧ Kp wPf T T' := by
  obtain ⟨h1, h2, h3, h4, h5, h6, h7, h9⟩ := h
  unfold f_X11_step
  rw [h1, if_neg (in_ok hR (by omega)), ix_nI (by omega), bnE, gv_ne (by omega), h1, if_neg (in_ok hR (by omega)), ix_nI (by omega), bnE, gv_ne (by omega), gv_ne (by omega), h1, nl_add1, bnE]
  refine ⟨_, rfl, ⟨?_, ?_, ?_, ?_, ?_, ?_, ?_, ?_⟩, ((Kp.rf.sv (Or.inr (Or.inl rfl))).sv (Or.inr (Or.inr (Or.inl rfl)))).sv (Or.inl ⟨rfl, by omega⟩)⟩
  · rw [gv_at, List.length_append]; rfl
  · intro i c' v' hi
    rcases get_snoc hi with ⟨a1, a2⟩ | ⟨a1, a2⟩
    · have := h2 i c' v' a2
      rw [gv_ne (by omega), gv_ne (by omega), gv_nk (by omega), gv_ne (by omega), gv_nk (by omega), gv_ne (by omega)]
      exact this
    · subst a1
      cases a2
      rw [gv_ne (by omega), gv_ne (by omega), gv_at, gv_ne (by omega), gv_at]
      exact ⟨rfl, hy⟩
  · rw [gv_nk (by omega), gv_ne (by omega), gv_ne (by omega)]; exact h3
  · rw [gv_nk (by omega), gv_ne (by omega), gv_ne (by omega)]; exact h4
  · rw [gv_nk (by omega), gv_ne (by omega), gv_ne (by omega)]; exact h5
  · intro i q hi
    rw [gv_ne (by omega), gv_ne (by omega), gv_ne (by omega)]; exact h6 i q hi
  · rw [gv_nk (by omega), gv_ne (by omega), gv_ne (by omega)]; exact h7
  · rw [gv_nk (by omega), gv_ne (by omega), gv_ne (by omega)]; exact h9
theorem pop_r {q : Nat} (h : PF T R (Q ++ [q]) ops) (hR : R.length < 500) (hQ : Q.length < 400) (hq : q < 100) (hq8 : q ≠ 48) : ∃ T', f_X11_pop T = some T' ∧ PF T' (R ++ [(q, 0)]) Q ops ∧ Kp wPf T T' := by
  obtain ⟨h1, h2, h3, h4, h5, h6, h7, h9⟩ := h
  have hl : (Q ++ [q]).length = Q.length + 1 := by simp
  rw [hl] at h5
  have hq6 : gv T 247 Q.length = nI q := h6 Q.length q (by rw [List.getElem?_append_right (Nat.le_refl _)]; simp)
  have hQ6 : ∀ i x, Q[i]? = some x → gv T 247 i = nI x := fun i x hi => h6 i x (by
    obtain ⟨hi', _⟩ := List.getElem?_eq_some_iff.mp hi
    rw [List.getElem?_append_left hi']; exact hi)
  rw [deep_app] at h7
  simp only [deep, Nat.add_zero] at h7
  have f5 : ¬ (nI Q.length < 0 ∨ 400 ≤ Q.length) := fun h => h.elim (nn (by omega)) (by omega)
  unfold f_X11_pop
  rw [h5, nl_sub1, bnE, gv_at, if_neg (in_ok hQ (by omega)), ix_nI (by omega), gv_ne (by omega), hq6, if_neg f5]
  by_cases c : q = 40
  · subst c
    rw [if_pos (show nI 40 = 40 from rfl), gv_nk (by omega), h7]
    rw [if_pos (Or.inl rfl)] at h7 ⊢
    rw [nl_sub1, bnE, gv_nk (by omega), gv_at, if_neg (in_ok hQ (by omega)), ix_nI (by omega), gv_ne (by omega), gv_ne (by omega), hq6]
    have hp : PF (sv (sv T 200 47 (nI Q.length)) 200 48 (nI (deep Q))) R Q ops := by
      refine ⟨?_, ?_, ?_, ?_, ?_, ?_, ?_, ?_⟩
      · rw [gv_nk (by omega), gv_nk (by omega)]; exact h1
      · intro i c' v' hi
        rw [gv_ne (by omega), gv_ne (by omega), gv_ne (by omega), gv_ne (by omega)]; exact h2 i c' v' hi
      · rw [gv_nk (by omega), gv_nk (by omega)]; exact h3
      · rw [gv_nk (by omega), gv_nk (by omega)]; exact h4
      · rw [gv_nk (by omega), gv_at]
      · intro i x hi
        rw [gv_ne (by omega), gv_ne (by omega)]; exact hQ6 i x hi
      · rw [gv_at]
      · rw [gv_nk (by omega), gv_nk (by omega)]; exact h9
    obtain ⟨T', x1, x2, x3⟩ := step_n (c := 40) (v := 0) (y := 0) hp hR (fun h => by omega)
    rw [x1, cl0s]
    exact ⟨T', rfl, x2, ((Kp.rf.sv (Or.inl ⟨rfl, by omega⟩)).sv (Or.inl ⟨rfl, by omega⟩)).tr x3⟩
  · rw [if_neg (show ¬ nI q = 40 from ne_n (b := 40) c (by omega) (by omega))]
    rw [if_neg (by omega)] at h7
    have hp : PF (sv T 200 47 (nI Q.length)) R Q ops := by
      refine ⟨?_, ?_, ?_, ?_, ?_, ?_, ?_, ?_⟩
      · rw [gv_nk (by omega)]; exact h1
      · intro i c' v' hi
        rw [gv_ne (by omega), gv_ne (by omega)]; exact h2 i c' v' hi
      · rw [gv_nk (by omega)]; exact h3
      · rw [gv_nk (by omega)]; exact h4
      · rw [gv_at]
      · intro i x hi
        rw [gv_ne (by omega)]; exact hQ6 i x hi
      · rw [gv_nk (by omega)]; exact h7
      · rw [gv_nk (by omega)]; exact h9
    obtain ⟨T', x1, x2, x3⟩ := step_n (c := q) (v := 0) (y := 0) hp hR (fun _ => rfl)
    rw [x1, cl0s]
    exact ⟨T', rfl, x2, (Kp.rf.sv (Or.inl ⟨rfl, by omega⟩)).tr x3⟩
theorem hold_n (h : PF T R Q ops) (hQ : Q.length < 400) (hc : c < 100) : ∃ T', f_X11_hold T (nI c) = some T' ∧ PF T' R (Q ++ [c]) ops ∧ Kp wPf T T' := by
  obtain ⟨h1, h2, h3, h4, h5, h6, h7, h9⟩ := h
  have hp : ∀ (x : Int32), x = nI (deep (Q ++ [c])) → PF (sv (sv (sv T 247 Q.length (nI c)) 200 47 (nI (Q.length + 1))) 200 48 x) R (Q ++ [c]) ops := by
    intro x hx
    refine ⟨?_, ?_, ?_, ?_, ?_, ?_, ?_, ?_⟩
    · rw [gv_nk (by omega), gv_nk (by omega), gv_ne (by omega)]; exact h1
    · intro i c' v' hi
      rw [gv_ne (by omega), gv_ne (by omega), gv_ne (by omega), gv_ne (by omega), gv_ne (by omega), gv_ne (by omega)]; exact h2 i c' v' hi
    · rw [gv_nk (by omega), gv_nk (by omega), gv_ne (by omega)]; exact h3
    · rw [gv_nk (by omega), gv_nk (by omega), gv_ne (by omega)]; exact h4
    · rw [gv_nk (by omega), gv_at, List.length_append]; rfl
    · intro i q hi
      rw [gv_ne (by omega), gv_ne (by omega)]
      rcases get_snoc hi with ⟨a1, a2⟩ | ⟨a1, a2⟩
      · rw [gv_nk (by omega)]; exact h6 i q a2
      · subst a1; subst a2; rw [gv_at]
    · rw [gv_at, hx]
    · rw [gv_nk (by omega), gv_nk (by omega), gv_ne (by omega)]; exact h9
  have kp : Kp wPf T (sv (sv T 247 Q.length (nI c)) 200 47 (nI (Q.length + 1))) := (Kp.rf.sv (Or.inr (Or.inr (Or.inr rfl)))).sv (Or.inl ⟨rfl, by omega⟩)
  unfold f_X11_hold
  rw [h5, if_neg (in_ok hQ (by omega)), ix_nI (by omega), bnE, gv_ne (by omega), h5, nl_add1, bnE, gv_nk (by omega), gv_ne (by omega), h7, nl_add1, bnE]
  rw [deep_app] at hp
  simp only [deep, Nat.add_zero] at hp
  by_cases c8 : c = 48
  · rw [if_pos (show nI c = 48 by rw [c8]; rfl)]
    rw [if_pos (Or.inr c8)] at hp
    exact ⟨_, rfl, hp _ rfl, kp.sv (Or.inl ⟨rfl, by omega⟩)⟩
  · rw [if_neg (show ¬ nI c = 48 from ne_n (b := 48) c8 (by omega) (by omega))]
    by_cases c4 : c = 40
    · rw [if_pos (show nI c = 40 by rw [c4]; rfl)]
      rw [if_pos (Or.inl c4)] at hp
      exact ⟨_, rfl, hp _ rfl, kp.sv (Or.inl ⟨rfl, by omega⟩)⟩
    · rw [if_neg (show ¬ nI c = 40 from ne_n (b := 40) c4 (by omega) (by omega))]
      rw [if_neg (by omega)] at hp
      have := hp (gv (sv (sv T 247 Q.length (nI c)) 200 47 (nI (Q.length + 1))) 200 48) (by rw [gv_nk (by omega), gv_ne (by omega)]; exact h7)
      refine ⟨_, rfl, ?_, kp⟩
      have e : ∀ a j, gv (sv (sv (sv T 247 Q.length (nI c)) 200 47 (nI (Q.length + 1))) 200 48 (gv (sv (sv T 247 Q.length (nI c)) 200 47 (nI (Q.length + 1))) 200 48)) a j = gv (sv (sv T 247 Q.length (nI c)) 200 47 (nI (Q.length + 1))) a j := by
        intro a j
        rw [gv_sv]
        split
        · rename_i hh; rw [hh.1, hh.2]
        · rfl
      unfold PF at this ⊢
      simp only [e] at this
      exact this
theorem top_n {q : Nat} (h : PF T R (Q ++ [q]) ops) (hQ : Q.length < 400) : gv T 200 47 = nI (Q.length + 1) ∧ ¬ (nI (Q.length + 1) - 1 < 0 ∨ 400 ≤ ix (nI (Q.length + 1) - 1)) ∧ gv T 247 (ix (nI (Q.length + 1) - 1)) = nI q := by
  obtain ⟨h1, h2, h3, h4, h5, h6, h7⟩ := h
  have hl : (Q ++ [q]).length = Q.length + 1 := by simp
  rw [hl] at h5
  refine ⟨h5, by rw [nl_sub1]; exact in_ok hQ (by omega), ?_⟩
  rw [nl_sub1, ix_nI (by omega)]
  exact h6 Q.length q (by rw [List.getElem?_append_right (Nat.le_refl _)]; simp)
theorem snoc_c {α : Type} (l : List α) : l = [] ∨ ∃ m x, l = m ++ [x] := by
  rcases List.eq_nil_or_concat l with h | ⟨m, x, h⟩
  · exact Or.inl h
  · exact Or.inr ⟨m, x, by rw [h, List.concat_eq_append]⟩
/-- settle: all of P goes, W stays -/
theorem settle_l {N m : Nat} {W : List Nat} {K : St → Option St} (hm : m < 100) (hW : ∀ x, W.getLast? = some x → x = 48 ∨ x < m) (hW1 : ∀ x ∈ W, x < 100) : ∀ (k : Nat) (P : List Nat) (R : List (Nat × Nat)) (T : St) (fuel : Nat), P.length = k → (∀ x ∈ P, x ≠ 48 ∧ m ≤ x ∧ x < 100) → k + 1 ≤ fuel → PF T R (W ++ P) ops → R.length + (W ++ P).length ≤ 500 → (W ++ P).length < 400 → ∃ T', f_X11_settle_l0 N (nI m) K fuel T = K T' ∧ PF T' (R ++ pend P) W ops ∧ Kp wPf T T' := by
  intro k
  induction k with
  | zero =>
    intro P R T fuel hk hP hf h hR hQ
    obtain ⟨fuel, rfl⟩ : ∃ q, fuel = q + 1 := ⟨fuel - 1, by omega⟩
    have := List.length_eq_zero_iff.mp hk
    subst this
    rw [List.append_nil] at h hQ
    rw [pend_nil, List.append_nil]
    refine ⟨T, ?_, h, Kp.rf⟩
    rcases snoc_c W with hw | ⟨W', x, hw⟩
    · subst hw
      rw [f_X11_settle_l0, h.2.2.2.2.1, if_pos (by decide)]
    · subst hw
      have hx := hW x (by simp)
      have hx1 := hW1 x (by simp)
      have hl : W'.length < 400 := by simp at hQ; omega
      obtain ⟨t1, t2, t3⟩ := top_n h hl
      rw [f_X11_settle_l0, t1, n0 (by omega) (by omega), if_neg t2, t3]
      by_cases c8 : x = 48
      · rw [if_pos (show nI x = 48 by rw [c8]; rfl)]
      · rw [if_neg (show ¬ nI x = 48 from ne_n (b := 48) c8 (by omega) (by omega)), if_neg t2, if_pos (lt_n (by omega) (by omega))]
  | succ k ih =>
    intro P R T fuel hk hP hf h hR hQ
    obtain ⟨fuel, rfl⟩ : ∃ q, fuel = q + 1 := ⟨fuel - 1, by omega⟩
    rcases snoc_c P with hw | ⟨P', x, hw⟩
    · subst hw; simp at hk
    · subst hw
      obtain ⟨x1, x2, x3⟩ := hP x (by simp)
      rw [← List.append_assoc] at h hR hQ
      simp only [List.length_append, List.length_cons, List.length_nil] at hR hQ hk
      have hl : (W ++ P').length < 400 := by simp; omega
      obtain ⟨t1, t2, t3⟩ := top_n h hl
      obtain ⟨T1, p1, p2, p3⟩ := pop_r h (by omega) hl x3 x1
      rw [f_X11_settle_l0, t1, n0 (by omega) (by simp; omega), if_neg t2, t3, if_neg (show ¬ nI x = 48 from ne_n (b := 48) x1 (by omega) (by omega)), if_neg t2, if_neg (nlt_n (by omega) (by omega)), p1, cl0s]
      obtain ⟨T2, q1, q2, q3⟩ := ih P' (R ++ [(x, 0)]) T1 fuel (by omega) (fun y hy => hP y (by simp [hy])) (by omega) p2 (by simp; omega) hl
      refine ⟨T2, q1, ?_, p3.tr q3⟩
      rw [pend_app, pend_one, ← List.append_assoc]
      exact q2
theorem settle_n {N m : Nat} {W P : List Nat} (hN : 1000 ≤ N) (hm : m < 100) (hW : ∀ x, W.getLast? = some x → x = 48 ∨ x < m) (hW1 : ∀ x ∈ W, x < 100) (hP : ∀ x ∈ P, x ≠ 48 ∧ m ≤ x ∧ x < 100) (h : PF T R (W ++ P) ops) (hR : R.length + (W ++ P).length ≤ 500) (hQ : (W ++ P).length < 400) : ∃ T', f_X11_settle N T (nI m) = some T' ∧ PF T' (R ++ pend P) W ops ∧ Kp wPf T T' := by
  obtain ⟨T', x1, x2, x3⟩ := settle_l (N := N) (K := fun S_8 => some S_8) hm hW hW1 P.length P R T N rfl hP (by simp at hQ; omega) h hR hQ
  exact ⟨T', x1, x2, x3⟩
/-- settleOnes -/
theorem ones_l {N a : Nat} {W : List Nat} {K : St → Option St} (ha : a = 0 ∨ a = 1) (hW : ∀ x, W.getLast? = some x → x = 48 ∨ (a = 1 ∧ x = 41)) (hW1 : ∀ x ∈ W, x < 100) : ∀ (k : Nat) (P : List Nat) (R : List (Nat × Nat)) (T : St) (fuel : Nat), P.length = k → (∀ x ∈ P, x ≠ 48 ∧ (a = 1 → x ≠ 41) ∧ x < 100) → k + 2 ≤ fuel → PF T R (W ++ P) ops → R.length + (W ++ P).length ≤ 500 → (W ++ P).length < 400 → ∃ T', f_X11_settleOnes_l2 N (nI a) K fuel T 1 = K T' ∧ PF T' (R ++ pend P) W ops ∧ Kp wPf T T' := by
  intro k
  induction k with
  | zero =>
    intro P R T fuel hk hP hf h hR hQ
    obtain ⟨fuel, rfl⟩ : ∃ q, fuel = q + 2 := ⟨fuel - 2, by omega⟩
    have := List.length_eq_zero_iff.mp hk
    subst this
    rw [List.append_nil] at h hQ
    rw [pend_nil, List.append_nil]
    refine ⟨T, ?_, h, Kp.rf⟩
    rcases snoc_c W with hw | ⟨W', x, hw⟩
    · subst hw
      rw [f_X11_settleOnes_l2, if_neg (by decide), h.2.2.2.2.1, if_pos (by decide)]
      unfold f_X11_settleOnes_j29
      rw [if_pos rfl, f_X11_settleOnes_l2, if_pos rfl]
    · subst hw
      have hx := hW x (by simp)
      have hl : W'.length < 400 := by simp at hQ; omega
      obtain ⟨t1, t2, t3⟩ := top_n h hl
      rw [f_X11_settleOnes_l2, if_neg (by decide), t1, if_neg (show ¬ nI (W'.length + 1) = 0 from ne_n (b := 0) (by omega) (by omega) (by omega)), if_neg t2, t3]
      unfold f_X11_settleOnes_j29
      rcases hx with c8 | ⟨c1, c2⟩
      · rw [if_pos (show nI x = 48 by rw [c8]; rfl), f_X11_settleOnes_l2, if_pos rfl]
      · rw [if_neg (show ¬ nI x = 48 by rw [c2]; decide), if_neg (show ¬ nI a = 0 by rw [c1]; decide), if_pos (show nI x = 41 by rw [c2]; rfl), f_X11_settleOnes_l2, if_pos rfl]
  | succ k ih =>
    intro P R T fuel hk hP hf h hR hQ
    obtain ⟨fuel, rfl⟩ : ∃ q, fuel = q + 1 := ⟨fuel - 1, by omega⟩
    rcases snoc_c P with hw | ⟨P', x, hw⟩
    · subst hw; simp at hk
    · subst hw
      obtain ⟨x1, x2, x3⟩ := hP x (by simp)
      rw [← List.append_assoc] at h hR hQ
      simp only [List.length_append, List.length_cons, List.length_nil] at hR hQ hk
      have hl : (W ++ P').length < 400 := by simp; omega
      obtain ⟨t1, t2, t3⟩ := top_n h hl
      obtain ⟨T1, p1, p2, p3⟩ := pop_r h (by omega) hl x3 x1
      obtain ⟨T2, q1, q2, q3⟩ := ih P' (R ++ [(x, 0)]) T1 fuel (by omega) (fun y hy => hP y (by simp [hy])) (by omega) p2 (by simp; omega) hl
      refine ⟨T2, ?_, ?_, p3.tr q3⟩
      · rw [f_X11_settleOnes_l2, if_neg (by decide), t1, if_neg (show ¬ nI ((W ++ P').length + 1) = 0 from ne_n (b := 0) (by omega) (by simp; omega) (by omega)), if_neg t2, t3]
        unfold f_X11_settleOnes_j29
        rw [if_neg (show ¬ nI x = 48 from ne_n (b := 48) x1 (by omega) (by omega)), p1, cl0s]
        rcases ha with ha | ha
        · rw [if_pos (show nI a = 0 by rw [ha]; rfl)]; exact q1
        · rw [if_neg (show ¬ nI a = 0 by rw [ha]; decide), if_neg (show ¬ nI x = 41 from ne_n (b := 41) (x2 ha) (by omega) (by omega))]; exact q1
      · rw [pend_app, pend_one, ← List.append_assoc]
        exact q2
theorem ones_n {N a : Nat} {W P : List Nat} (hN : 1000 ≤ N) (ha : a = 0 ∨ a = 1) (hW : ∀ x, W.getLast? = some x → x = 48 ∨ (a = 1 ∧ x = 41)) (hW1 : ∀ x ∈ W, x < 100) (hP : ∀ x ∈ P, x ≠ 48 ∧ (a = 1 → x ≠ 41) ∧ x < 100) (h : PF T R (W ++ P) ops) (hR : R.length + (W ++ P).length ≤ 500) (hQ : (W ++ P).length < 400) : ∃ T', f_X11_settleOnes N T (nI a) = some T' ∧ PF T' (R ++ pend P) W ops ∧ Kp wPf T T' := by
  obtain ⟨T', x1, x2, x3⟩ := ones_l (N := N) (K := fun S_11 => some S_11) ha hW hW1 P.length P R T N rfl hP (by simp at hQ; omega) h hR hQ
  exact ⟨T', x1, x2, x3⟩
theorem open_l {N : Nat} {K : Int32 → Option Int32} (h5 : gv T 200 47 = nI Q.length) (h6 : ∀ i q, Q[i]? = some q → gv T 247 i = nI q) (hQ : Q.length < 400) (hq : ∀ x ∈ Q, x < 100) : ∀ (k i fuel : Nat) (r : Int32), i + k = Q.length → k + 1 ≤ fuel → ((r = 1 ∧ 48 ∈ Q.take i) ∨ (r = 0 ∧ 48 ∉ Q.take i)) → ∃ r', f_X11_isOpen_l4 N T K fuel r (nI i) = K r' ∧ ((r' = 1 ∧ 48 ∈ Q) ∨ (r' = 0 ∧ 48 ∉ Q)) := by
  intro k
  induction k with
  | zero =>
    intro i fuel r hi hf hr
    obtain ⟨fuel, rfl⟩ : ∃ q, fuel = q + 1 := ⟨fuel - 1, by omega⟩
    rw [f_X11_isOpen_l4, h5, if_pos (le_n (by omega) (by omega))]
    rw [List.take_of_length_le (by omega)] at hr
    exact ⟨r, rfl, hr⟩
  | succ k ih =>
    intro i fuel r hi hf hr
    obtain ⟨fuel, rfl⟩ : ∃ q, fuel = q + 1 := ⟨fuel - 1, by omega⟩
    have hil : i < Q.length := by omega
    have ht : Q.take (i + 1) = Q.take i ++ [Q[i]] := List.take_succ_eq_append_getElem hil
    have hg := h6 i Q[i] (List.getElem?_eq_getElem hil)
    have hx := hq Q[i] (List.getElem_mem hil)
    rw [f_X11_isOpen_l4, h5, if_neg (nle_n (by omega) (by omega)), if_neg (in_ok (show i < 400 by omega) (by omega)), ix_nI (by omega), hg, bnE, bnE, nl_add1]
    rcases hr with ⟨h1, h2⟩ | ⟨h1, h2⟩
    · rw [h1, if_neg (by decide)]
      exact ih (i + 1) fuel 1 (by omega) (by omega) (Or.inl ⟨rfl, by rw [ht]; exact List.mem_append_left _ h2⟩)
    · rw [h1, if_pos rfl]
      by_cases c : Q[i] = 48
      · rw [if_pos (show nI Q[i] = 48 by rw [c]; rfl)]
        exact ih (i + 1) fuel 1 (by omega) (by omega) (Or.inl ⟨rfl, by rw [ht, c]; simp⟩)
      · rw [if_neg (show ¬ nI Q[i] = 48 from ne_n (b := 48) c (by omega) (by omega))]
        exact ih (i + 1) fuel 0 (by omega) (by omega) (Or.inr ⟨rfl, by
          rw [ht]
          intro hm
          rcases List.mem_append.mp hm with h | h
          · exact h2 h
          · exact c (List.mem_singleton.mp h).symm⟩)
theorem open_n {N : Nat} (hN : 1000 ≤ N) (h : PF T R Q ops) (hQ : Q.length < 400) (hq : ∀ x ∈ Q, x < 100) : ∃ r, f_X11_isOpen N T = some r ∧ ((r = 1 ∧ 48 ∈ Q) ∨ (r = 0 ∧ 48 ∉ Q)) := by
  obtain ⟨r, x1, x2⟩ := open_l (N := N) (K := fun x_8 => if x_8 = 0 ∨ x_8 = 1 then (some x_8) else none) h.2.2.2.2.1 h.2.2.2.2.2.1 hQ hq Q.length 0 N 0 (by omega) (by omega) (Or.inr ⟨rfl, by simp⟩)
  refine ⟨r, ?_, x2⟩
  refine Eq.trans x1 ?_
  rcases x2 with ⟨h1, _⟩ | ⟨h1, _⟩ <;> rw [h1] <;> rfl
end
end STK
