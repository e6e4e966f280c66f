section SIGN
def Res1 (N n o : Nat) (b : Nat → Nat) (T : St) (C : List (Nat × Nat)) (W : List Nat) (m fuel : Nat) (K : St → Option St) (S' : St) (Xq : List (Nat × Nat) → Prop) (Ex : List Nat → Nat → Prop) (δ M : Nat) : Prop := ∃ T' X P R' tk' p' nx' v' ops' fuel', f_X11_readE_l12 N K fuel T (nI m) = f_X11_readE_l12 N K fuel' T' (nI 2) ∧ G b n o S' T' tk' p' nx' v' (C ++ X) R' (W ++ P) ops' ∧ C ++ X = R' ++ pend P ∧ Xq X ∧ Ex P tk' ∧ mu n tk' nx' + 3 ≤ fuel' ∧ mu n tk' nx' + δ ≤ M ∧ Kp wPg T T'
def Res0 (N : Nat) (T : St) (m fuel : Nat) (K : St → Option St) (S' : St) : Prop := ∃ T', f_X11_readE_l12 N K fuel T (nI m) = K T' ∧ Bad S' T' ∧ Kp wPg T T'
def oneUp (X : List (Nat × Nat)) : Prop := ∀ d, run X d = some (d + 1)
def Good (N n o : Nat) (b : Nat → Nat) (F : St → Option (Int32 × St)) (m : Nat) (W : List Nat) (Pre : Nat → Prop) (Ex : List Nat → Nat → Prop) : Prop := ∀ (S T : St) (tk p nx v ops fuel : Nat) (C : List (Nat × Nat)) (K : St → Option St), G b n o S T tk p nx v C C W ops → Pre tk → mu n tk nx + 3 ≤ fuel → ∃ r S', F S = some (r, S') ∧ Kp (wPc o) S S' ∧ ((r = 1 ∧ Res1 N n o b T C W m fuel K S' oneUp Ex 1 (mu n tk nx)) ∨ (r = 0 ∧ Res0 N T m fuel K S'))
section
variable {N n o : Nat} {L : List Nat} {b : Nat → Nat} {S T T1 : St} {tk p nx v ops : Nat} {C R : List (Nat × Nat)} {Q W P : List Nat}
theorem wrong_m {f : Nat} (h3 : gv T 200 42 = 3 ↔ tk = 28) (h43 : gv T 200 43 = nI p) (h38 : gv T 200 38 = 0) : ∃ T', f_X11_wrong T (nI f) = some T' ∧ gv T' 200 38 = nI (if tk = 28 then 1 else f) ∧ gv T' 200 39 = nI p ∧ Kp wPf T T' := by
  unfold f_X11_wrong
  rw [h38, if_pos (by decide)]
  by_cases c : tk = 28
  · rw [if_pos (h3.mpr c), bnE, gv_nk (by omega), h43, bnE, if_pos c]
    exact ⟨_, rfl, by rw [gv_nk (by omega), gv_at]; rfl, gv_at, (Kp.rf.sv (Or.inl ⟨rfl, by omega⟩)).sv (Or.inl ⟨rfl, by omega⟩)⟩
  · rw [if_neg (fun h => c (h3.mp h)), bnE, gv_nk (by omega), h43, bnE, if_neg c]
    exact ⟨_, rfl, by rw [gv_nk (by omega), gv_at], gv_at, (Kp.rf.sv (Or.inl ⟨rfl, by omega⟩)).sv (Or.inl ⟨rfl, by omega⟩)⟩
theorem adv2 {Q1 : List Nat} (hN : 1000 ≤ N) (hb : ∀ i, b i < 256) (hn : n ≤ 500) (ho : oko L o) (hG : G b n o S T tk p nx v C R Q ops) (h27 : tk ≠ 27) (h28 : tk ≠ 28) (hF1 : PF T1 C Q1 ops) (k1 : Kp wPf T T1) (hl : C.length + Q1.length ≤ p + 1) (hq1 : ∀ q ∈ Q1, q < 100) : ∃ tk' p' nx' v' S' T', f_X3_advance N S = some S' ∧ f_X11_next N T1 = some T' ∧ G b n o S' T' tk' p' nx' v' C C Q1 ops ∧ mu n tk' nx' + 1 ≤ mu n tk nx ∧ Kp wLc S S' ∧ Kp wPg T T' := by
  obtain ⟨hS, hT, ⟨l0, l1, l5, l2, l43, l40, hs⟩, hC, hF, b1, b2, b3, b4, b5, b6, b7, b8⟩ := hG
  have := b3 h27
  obtain ⟨tk', p', nx', v', S', T', z1, z2, z3, z4, z5, z6⟩ := adv (tk := tk) hN hb hn ⟨ho.1, ho.2.1⟩ hS (hT.kp k1 (fun j => by unfold wPf; omega) (by unfold wPf; omega)) l5 (by rw [k1.1 _ _ (by unfold wPf; omega)]; exact l40 h28) hC hF1 b2 (by omega) b6 b7 hq1 h27 (by omega)
  exact ⟨tk', p', nx', v', S', T', z1, z2, z3, z4, z5, (k1.mo (fun a j h => Or.inl h)).tr (z6.mo (fun a j h => Or.inr h))⟩
/-- what the sorts are, in a state that only differs in what is read of a line -/
theorem sorts (hs : SRt tk T) (k1 : Kp wPf T T1) : gv T1 200 42 = gv T 200 42 := k1.1 _ _ (by unfold wPf; omega)
def Ent (N n o : Nat) (b : Nat → Nat) (S T : St) (C : List (Nat × Nat)) (W : List Nat) (c m ops M : Nat) : Prop := ∃ S1 T1 tk1 p1 nx1 v1, f_X3_advance N S = some S1 ∧ (∀ (K : St → Option St) (fuel : Nat), f_X11_readE_l12 N K (fuel + 1) T (nI 2) = f_X11_readE_l12 N K fuel T1 (nI m)) ∧ G b n o S1 T1 tk1 p1 nx1 v1 C C (W ++ [c]) ops ∧ mu n tk1 nx1 + 1 ≤ M ∧ Kp wLc S S1 ∧ Kp wPg T T1
theorem lenC (h : C = R ++ pend P) : C.length = R.length + P.length := by rw [h, List.length_append, pend_len]
theorem ent_plus (hN : 1000 ≤ N) (hb : ∀ i, b i < 256) (hn : n ≤ 500) (ho : oko L o) (hG : G b n o S T tk p nx v C R (W ++ P) ops) (hC : C = R ++ pend P) (hP : P = [] ∨ P = [46] ∨ P = [47]) (hW : ∀ x, W.getLast? = some x → x = 48 ∨ x < 46) (hQ : (W ++ P).length < 300) (ht : tk = 21 ∨ tk = 22) : Ent N n o b S T C W (tk + 25) 1 ops (mu n tk nx) := by
  obtain ⟨hS, hT, ⟨l0, l1, l5, l2, l43, l40, hs⟩, hPC, hF, b1, b2, b3, b4, b5, b6, b7, b8⟩ := id hG
  obtain ⟨s1, s2, s0, s3, s59, s60, s62, s61, s43, s45, s40, s41, t28⟩ := srt hs
  have hlc := lenC hC
  simp only [List.length_append] at b5 hQ
  have hP1 : ∀ x ∈ P, x ≠ 48 ∧ 46 ≤ x ∧ x < 100 := by
    rcases hP with h | h | h <;> subst h <;> intro x hx <;> simp at hx <;> omega
  obtain ⟨T1, x1, x2, x3⟩ := settle_n (m := 46) hN (by omega) hW (fun x hx => b8 x (by simp [hx])) hP1 hF (by simp; omega) (by simp; omega)
  rw [← hC] at x2
  obtain ⟨T2, y1, y2, y3⟩ := hold_n (c := tk + 25) x2 (by omega) (by omega)
  obtain ⟨tk1, p1, nx1, v1, S1, T3, z1, z2, z3, z4, z5, z6⟩ := adv2 hN hb hn ho hG (by omega) (by omega) y2 (x3.tr y3) (by simp; omega) (fun q hq => by
    rcases List.mem_append.mp hq with h | h
    · exact b8 q (by simp [h])
    · rw [List.mem_singleton.mp h]; omega)
  refine ⟨S1, T3, tk1, p1, nx1, v1, z1, fun K fuel => ?_, z3, z4, z5, z6⟩
  have sj : f_X11_sign N T = f_X11_sign_j18 N T := by
    unfold f_X11_sign
    rcases ht with h | h
    · rw [if_pos (s43.mpr h)]
    · rw [if_neg (fun e => by have := s43.mp e; omega), if_pos (s45.mpr h)]
  rw [loopS hN hF hs (by simp; omega) b8 (Or.inl (by omega)), sj]
  unfold f_X11_sign_j18
  rw [show (46 : Int32) = nI 46 from rfl, x1, cl0s, sorts hs x3]
  rcases ht with h | h
  · subst h
    rw [if_pos (s43.mpr rfl), y1, cl0s, z2, cl0s, cl1s]
    rfl
  · subst h
    rw [if_neg (fun e => by have := s43.mp e; omega), show (47 : Int32) = nI 47 from rfl, y1, cl0s, z2, cl0s, cl1s]
    rfl
theorem ent_cmp (hN : 1000 ≤ N) (hb : ∀ i, b i < 256) (hn : n ≤ 500) (ho : oko L o) (hG : G b n o S T tk p nx v C R (W ++ P) ops) (hC : C = R ++ pend P) (hP : P = [] ∨ P = [46] ∨ P = [47]) (hW : ∀ x, W.getLast? = some x → x = 48 ∨ x < 43) (hQ : (W ++ P).length < 300) (ht : tk = 18 ∨ tk = 19 ∨ tk = 20) : Ent N n o b S T C W (if tk = 20 then 43 else tk + 26) 1 ops (mu n tk nx) := by
  obtain ⟨hS, hT, ⟨l0, l1, l5, l2, l43, l40, hs⟩, hPC, hF, b1, b2, b3, b4, b5, b6, b7, b8⟩ := id hG
  obtain ⟨s1, s2, s0, s3, s59, s60, s62, s61, s43, s45, s40, s41, t28⟩ := srt hs
  have hlc := lenC hC
  simp only [List.length_append] at b5 hQ
  have hP1 : ∀ x ∈ P, x ≠ 48 ∧ 46 ≤ x ∧ x < 100 := by
    rcases hP with h | h | h <;> subst h <;> intro x hx <;> simp at hx <;> omega
  obtain ⟨T1, x1, x2, x3⟩ := settle_n (m := 46) hN (by omega) (fun x hx => by have := hW x hx; omega) (fun x hx => b8 x (by simp [hx])) hP1 hF (by simp; omega) (by simp; omega)
  rw [← hC] at x2
  obtain ⟨T2, y1, y2, y3⟩ := hold_n (c := if tk = 20 then 43 else tk + 26) x2 (by omega) (by split <;> omega)
  obtain ⟨tk1, p1, nx1, v1, S1, T3, z1, z2, z3, z4, z5, z6⟩ := adv2 hN hb hn ho hG (by omega) (by omega) y2 (x3.tr y3) (by simp; omega) (fun q hq => by
    rcases List.mem_append.mp hq with h | h
    · exact b8 q (by simp [h])
    · rw [List.mem_singleton.mp h]; split <;> omega)
  refine ⟨S1, T3, tk1, p1, nx1, v1, z1, fun K fuel => ?_, z3, z4, z5, z6⟩
  have sj : f_X11_sign N T = f_X11_sign_j77 N T := by
    unfold f_X11_sign
    rw [if_neg (fun e => by have := s43.mp e; omega), if_neg (fun e => by have := s45.mp e; omega)]
    rcases ht with h | h | h
    · rw [if_neg (fun e => by have := s61.mp e; omega), if_pos (s60.mpr h)]
    · rw [if_neg (fun e => by have := s61.mp e; omega), if_neg (fun e => by have := s60.mp e; omega), if_pos (s62.mpr h)]
    · rw [if_pos (s61.mpr h)]
  have j123 : f_X11_sign_j123 N T1 = some (nI 1, T3) := by
    unfold f_X11_sign_j123
    rw [x2.2.2.2.1, if_pos (by decide), sorts hs x3]
    rcases ht with h | h | h
    · subst h
      rw [if_neg (fun e => by have := s61.mp e; omega), if_pos (s60.mpr rfl), show (44 : Int32) = nI (if 18 = 20 then 43 else 18 + 26) from rfl, y1, cl0s, z2, cl0s]
      rfl
    · subst h
      rw [if_neg (fun e => by have := s61.mp e; omega), if_neg (fun e => by have := s60.mp e; omega), show (45 : Int32) = nI (if 19 = 20 then 43 else 19 + 26) from rfl, y1, cl0s, z2, cl0s]
      rfl
    · subst h
      rw [if_pos (s61.mpr rfl), show (43 : Int32) = nI (if 20 = 20 then 43 else 20 + 26) from rfl, y1, cl0s, z2, cl0s]
      rfl
  rw [loopS hN hF hs (by simp; omega) b8 (Or.inl (by omega)), sj]
  unfold f_X11_sign_j77
  rw [show (46 : Int32) = nI 46 from rfl, x1, cl0s]
  unfold f_X11_sign_j105
  rcases snoc_c W with hw | ⟨W', y, hw⟩
  · subst hw
    rw [x2.2.2.2.2.1, if_pos (by decide), if_pos (by decide), j123, cl1s]
  · subst hw
    have hy := hW y (by simp)
    have hy2 := b8 y (by simp)
    simp only [List.length_append, List.length_cons, List.length_nil] at hQ
    obtain ⟨t1, t2, t3⟩ := top_n x2 (show W'.length < 400 by omega)
    rw [t1, if_neg (show ¬ nI (W'.length + 1) = 0 from ne_n (b := 0) (by omega) (by omega) (by omega)), if_neg t2, t3, show (43 : Int32) = nI 43 from rfl, show (45 : Int32) = nI 45 from rfl, ite_lt (by omega) (by omega), ite_lt (by omega) (by omega)]
    by_cases c : y < 43
    · rw [if_pos c, j123, cl1s]
    · rw [if_neg c, if_pos (by omega), j123, cl1s]
theorem ent_ones (hN : 1000 ≤ N) (hb : ∀ i, b i < 256) (hn : n ≤ 500) (ho : oko L o) (hG : G b n o S T tk p nx v C R (W ++ P) ops) (hC : C = R ++ pend P) (hP : ∀ x ∈ P, x ≠ 48 ∧ (tk = 6 → x ≠ 41) ∧ x < 100) (hW : ∀ x, W.getLast? = some x → x = 48 ∨ (tk = 6 ∧ x = 41)) (hQ : (W ++ P).length < 300) (ht : tk = 5 ∨ tk = 6) : Ent N n o b S T C W (tk + 36) 0 ops (mu n tk nx) := by
  obtain ⟨hS, hT, ⟨l0, l1, l5, l2, l43, l40, hs⟩, hPC, hF, b1, b2, b3, b4, b5, b6, b7, b8⟩ := id hG
  obtain ⟨s1, s2, s0, s3, s59, s60, s62, s61, s43, s45, s40, s41, t28⟩ := srt hs
  have hlc := lenC hC
  simp only [List.length_append] at b5 hQ
  obtain ⟨a, ha, ha2⟩ : ∃ a, (a = 0 ∨ a = 1) ∧ (a = 1 ↔ tk = 6) := by
    rcases ht with h | h
    · exact ⟨0, Or.inl rfl, by omega⟩
    · exact ⟨1, Or.inr rfl, by omega⟩
  obtain ⟨T1, x1, x2, x3⟩ := ones_n (a := a) hN ha (fun x hx => by have := hW x hx; omega) (fun x hx => b8 x (by simp [hx])) (fun x hx => by have := hP x hx; exact ⟨this.1, fun h => this.2.1 (ha2.mp h), this.2.2⟩) hF (by simp; omega) (by simp; omega)
  rw [← hC] at x2
  obtain ⟨T2, y1, y2, y3⟩ := hold_n (c := tk + 36) x2 (by omega) (by omega)
  obtain ⟨tk1, p1, nx1, v1, S1, T3, z1, z2, z3, z4, z5, z6⟩ := adv2 hN hb hn ho hG (by omega) (by omega) y2 (x3.tr y3) (by simp; omega) (fun q hq => by
    rcases List.mem_append.mp hq with h | h
    · exact b8 q (by simp [h])
    · rw [List.mem_singleton.mp h]; omega)
  refine ⟨S1, T3, tk1, p1, nx1, v1, z1, fun K fuel => ?_, z3, z4, z5, z6⟩
  have e6 : (6385252 : Int64) = Int64.ofNat (pk (Wo 6)) := by decide
  have e5 : (28530 : Int64) = Int64.ofNat (pk (Wo 5)) := by decide
  have sj : f_X11_sign N T = f_X11_sign_j192 N T := by
    unfold f_X11_sign
    rw [if_neg (fun e => by have := s43.mp e; omega), if_neg (fun e => by have := s45.mp e; omega), if_neg (fun e => by have := s61.mp e; omega), if_neg (fun e => by have := s60.mp e; omega), if_neg (fun e => by have := s62.mp e; omega), e6, wIs hs (by omega), cl0s]
    rcases ht with h | h
    · rw [if_neg (show ¬ tk = 6 by omega), if_pos rfl, e5, wIs hs (by omega), cl0s, if_pos h, if_neg (by decide)]
    · rw [if_pos h, if_neg (by decide)]
  rw [loopS hN hF hs (by simp; omega) b8 (Or.inl (by omega)), sj]
  unfold f_X11_sign_j192
  rw [e6, wIs hs (by omega), cl0s]
  rcases ht with h | h
  · subst h
    have a0 : a = 0 := by omega
    subst a0
    rw [if_neg (show ¬ (5 : Nat) = 6 by omega)]
    rw [show f_X11_settleOnes N T 0 = some T1 from x1, cl0s, if_pos rfl, show f_X11_hold T1 41 = some T2 from y1, cl0s, z2, cl0s, cl1s]
    rfl
  · subst h
    have a0 : a = 1 := by omega
    subst a0
    rw [if_pos rfl, show f_X11_settleOnes N T 1 = some T1 from x1, cl0s, if_neg (by decide), show f_X11_hold T1 42 = some T2 from y1, cl0s, z2, cl0s, cl1s]
    rfl
end
end SIGN
