section NONT
def cmpT (P : List Nat) : Prop := ∃ P0 c Pl, P = P0 ++ [c] ++ Pl ∧ 43 ≤ c ∧ c ≤ 45 ∧ ∀ x ∈ Pl, x = 46 ∨ x = 47
def ExT (P : List Nat) (_tk : Nat) : Prop := P = []
def ExS (P : List Nat) (tk : Nat) : Prop := (P = [] ∨ P = [46] ∨ P = [47]) ∧ tk ≠ 21 ∧ tk ≠ 22
def ExO (p1 : Nat) (P : List Nat) (tk : Nat) : Prop := (∀ x ∈ P, x ≠ 48 ∧ x ≠ 41 ∧ x ≠ 42 ∧ x < 100) ∧ P.length + p1 ≤ 10 ∧ tk ≠ 21 ∧ tk ≠ 22 ∧ (18 ≤ tk ∧ tk ≤ 20 → cmpT P)
def ExB (P : List Nat) (tk : Nat) : Prop := (∀ x ∈ P, x ≠ 48 ∧ x ≠ 41 ∧ x < 100) ∧ P.length ≤ 11 ∧ tk ≠ 21 ∧ tk ≠ 22 ∧ tk ≠ 6 ∧ (18 ≤ tk ∧ tk ≤ 20 → cmpT P)
def ExE (P : List Nat) (tk : Nat) : Prop := (∀ x ∈ P, x ≠ 48 ∧ x < 100) ∧ P.length ≤ 12 ∧ tk ≠ 21 ∧ tk ≠ 22 ∧ tk ≠ 6 ∧ tk ≠ 5 ∧ (18 ≤ tk ∧ tk ≤ 20 → cmpT P)
theorem cmpT.cons {P : List Nat} {x : Nat} (h : cmpT P) : cmpT (x :: P) := by
  obtain ⟨P0, c, Pl, h1, h2⟩ := h
  exact ⟨x :: P0, c, Pl, by rw [h1]; simp, h2⟩
section
variable {N n o : Nat} {L : List Nat} {b : Nat → Nat} {S T : St} {tk p nx v ops : Nat} {C R : List (Nat × Nat)} {Q W P : List Nat}
theorem close_n (hN : 1000 ≤ N) (hb : ∀ i, b i < 256) (hn : n ≤ 500) (ho : oko L o) (hG : G b n o S T tk p nx v C R ((W ++ [48]) ++ P) ops) (hC : C = R ++ pend P) (hP : ∀ x ∈ P, x ≠ 48 ∧ x < 100) (hQ : ((W ++ [48]) ++ P).length < 300) (ht : tk = 24) : ∃ S1 T1 tk1 p1 nx1 v1, f_X3_advance N S = some S1 ∧ (∀ (K : St → Option St) (fuel : Nat), f_X11_readE_l12 N K (fuel + 1) T (nI 2) = f_X11_readE_l12 N K fuel T1 (nI 2)) ∧ G b n o S1 T1 tk1 p1 nx1 v1 C C W ops ∧ mu n tk1 nx1 + 1 ≤ mu n tk nx ∧ Kp wLc S S1 ∧ Kp wPg T T1 := by
  obtain ⟨hS, hT, ⟨l0, l1, l5, l2, l43, l40, hs⟩, hPC, hF, b1, b2, b3, b4, b5, b6, b7, b8⟩ := id hG
  obtain ⟨s1, s2, s0, s3, s59, s60, s62, s61, s43, s45, s40, s41, t28⟩ := srt hs
  have hlc := lenC hC
  simp only [List.length_append, List.length_cons, List.length_nil] at b5 hQ
  obtain ⟨T1, x1, x2, x3⟩ := settle_n (m := 0) hN (by omega) (W := W ++ [48]) (fun x hx => by simp at hx; omega) (fun x hx => b8 x (List.mem_append_left _ hx)) (fun x hx => by have := hP x hx; omega) hF (by simp; omega) (by simp; omega)
  rw [← hC] at x2
  have hdp : deep (W ++ [48]) = deep W + 1 := by rw [deep_app]; rfl
  obtain ⟨q1, q2, q3, q4, q5, q6, q7, q8⟩ := id x2
  rw [hdp] at q7
  rw [List.length_append] at q5
  have q5' : gv T1 200 47 = nI (W.length + 1) := q5
  have hF2 : PF (sv (sv T1 200 47 (nI W.length)) 200 48 (nI (deep W))) C W ops := by
    refine ⟨by rw [gv_nk (by omega), gv_nk (by omega)]; exact q1, fun i c v hi => by rw [gv_ne (by omega), gv_ne (by omega), gv_ne (by omega), gv_ne (by omega)]; exact q2 i c v hi, by rw [gv_nk (by omega), gv_nk (by omega)]; exact q3, by rw [gv_nk (by omega), gv_nk (by omega)]; exact q4, by rw [gv_nk (by omega), gv_at], fun i q hi => ?_, gv_at, by rw [gv_nk (by omega), gv_nk (by omega)]; exact q8⟩
    rw [gv_ne (by omega), gv_ne (by omega)]
    obtain ⟨hi', _⟩ := List.getElem?_eq_some_iff.mp hi
    exact q6 i q (by rw [List.getElem?_append_left hi']; exact hi)
  have k2 : Kp wPf T (sv (sv T1 200 47 (nI W.length)) 200 48 (nI (deep W))) := (x3.sv (Or.inl ⟨rfl, by omega⟩)).sv (Or.inl ⟨rfl, by omega⟩)
  obtain ⟨tk1, p1, nx1, v1, S1, T3, z1, z2, z3, z4, z5, z6⟩ := adv2 hN hb hn ho hG (by omega) (by omega) hF2 k2 (by omega) (fun q hq => b8 q (by simp [hq]))
  refine ⟨S1, T3, tk1, p1, nx1, v1, z1, fun K fuel => ?_, z3, z4, z5, z6⟩
  have e6 : (6385252 : Int64) = Int64.ofNat (pk (Wo 6)) := by decide
  have e5 : (28530 : Int64) = Int64.ofNat (pk (Wo 5)) := by decide
  obtain ⟨r, r1, r2⟩ := open_n hN hF (by simp; omega) b8
  have r3 : r = 1 := by
    rcases r2 with ⟨h, _⟩ | ⟨_, h⟩
    · exact h
    · exact absurd (by simp : 48 ∈ (W ++ [48]) ++ P) h
  rw [loopS hN hF hs (by simp; omega) b8 (Or.inl (by omega))]
  unfold f_X11_sign
  rw [if_neg (fun e => by have := s43.mp e; omega), if_neg (fun e => by have := s45.mp e; omega), if_neg (fun e => by have := s61.mp e; omega), if_neg (fun e => by have := s60.mp e; omega), if_neg (fun e => by have := s62.mp e; omega), e6, wIs hs (by omega), cl0s, if_neg (show ¬ tk = 6 by omega), if_pos rfl, e5, wIs hs (by omega), cl0s, if_neg (show ¬ tk = 5 by omega), if_pos rfl, if_pos (s41.mpr ht), r1, cl0s, r3, if_neg (by decide), show f_X11_settle N T 0 = some T1 from x1, cl0s, q5', nl_sub1, bnE, gv_nk (by omega), q7, nl_sub1, bnE, z2, cl0s, cl1s]
  rfl
/-- a token that no sign is -/
theorem bad_n (hN : 1000 ≤ N) (hn : n ≤ 500) (hG : G b n o S T tk p nx v C R Q ops) (h21 : tk ≠ 21 ∧ tk ≠ 22 ∧ tk ≠ 5 ∧ tk ≠ 6) (h24 : tk = 24 → 48 ∉ Q) (h1 : tk = 1 → 48 ∈ Q) (hcmp : 18 ≤ tk ∧ tk ≤ 20 → cmpT Q) (hQ : Q.length < 300) : ∃ T', (∀ (K : St → Option St) (fuel : Nat), f_X11_readE_l12 N K (fuel + 2) T (nI 2) = K T') ∧ gv T' 200 38 = nI (if tk = 28 then 1 else 2) ∧ gv T' 200 39 = nI p ∧ Kp wPg T T' := by
  obtain ⟨hS, hT, ⟨l0, l1, l5, l2, l43, l40, hs⟩, hPC, hF, b1, b2, b3, b4, b5, b6, b7, b8⟩ := id hG
  obtain ⟨s1, s2, s0, s3, s59, s60, s62, s61, s43, s45, s40, s41, t28⟩ := srt hs
  have e6 : (6385252 : Int64) = Int64.ofNat (pk (Wo 6)) := by decide
  have e5 : (28530 : Int64) = Int64.ofNat (pk (Wo 5)) := by decide
  have key : ∃ T', f_X11_sign N T = some (2, T') ∧ gv T' 200 38 = nI (if tk = 28 then 1 else 2) ∧ gv T' 200 39 = nI p ∧ Kp wPf T T' := by
    by_cases c : 18 ≤ tk ∧ tk ≤ 20
    · obtain ⟨P0, cc, Pl, e1, e2, e3, e4⟩ := hcmp c
      subst e1
      simp only [List.length_append, List.length_cons, List.length_nil] at hQ b5
      obtain ⟨T1, x1, x2, x3⟩ := settle_n (m := 46) hN (by omega) (W := P0 ++ [cc]) (fun x hx => by simp at hx; omega) (fun x hx => b8 x (List.mem_append_left _ hx)) (fun x hx => by have := e4 x hx; omega) hF (by simp; omega) (by simp; omega)
      obtain ⟨t1, t2, t3⟩ := top_n x2 (show P0.length < 400 by omega)
      obtain ⟨T2, y1, y2, y3, y4⟩ := wrong_m (T := T1) (f := 2) (by rw [sorts hs x3]; exact s3) (by rw [x3.1 _ _ (by unfold wPf; omega)]; exact l43) x2.2.2.2.1
      refine ⟨T2, ?_, y2, y3, x3.tr y4⟩
      have sj : f_X11_sign N T = f_X11_sign_j77 N T := by
        unfold f_X11_sign
        rw [if_neg (fun e => by have := s43.mp e; omega), if_neg (fun e => by have := s45.mp e; omega)]
        have ht : tk = 18 ∨ tk = 19 ∨ tk = 20 := by omega
        rcases ht with h | h | h
        · rw [if_neg (fun e => by have := s61.mp e; omega), if_pos (s60.mpr h)]
        · rw [if_neg (fun e => by have := s61.mp e; omega), if_neg (fun e => by have := s60.mp e; omega), if_pos (s62.mpr h)]
        · rw [if_pos (s61.mpr h)]
      rw [sj]
      unfold f_X11_sign_j77
      rw [show (46 : Int32) = nI 46 from rfl, x1, cl0s]
      unfold f_X11_sign_j105
      rw [t1, if_neg (show ¬ nI (P0.length + 1) = 0 from ne_n (b := 0) (by omega) (by omega) (by omega)), if_neg t2, t3, show (43 : Int32) = nI 43 from rfl, show (45 : Int32) = nI 45 from rfl, ite_lt (by omega) (by omega), ite_lt (by omega) (by omega), if_neg (by omega), if_neg (by omega), show f_X11_wrong T1 2 = some T2 from y1, cl0s]
      unfold f_X11_sign_j123
      rw [y2, n0 (by split <;> omega) (by split <;> omega)]
    · obtain ⟨T2, y1, y2, y3, y4⟩ := wrong_m (T := T) (f := 2) s3 l43 hF.2.2.2.1
      refine ⟨T2, ?_, y2, y3, y4⟩
      unfold f_X11_sign
      rw [if_neg (fun e => by have := s43.mp e; omega), if_neg (fun e => by have := s45.mp e; omega), if_neg (fun e => by have := s61.mp e; omega), if_neg (fun e => by have := s60.mp e; omega), if_neg (fun e => by have := s62.mp e; omega), e6, wIs hs (by omega), cl0s, if_neg (show ¬ tk = 6 by omega), if_pos rfl, e5, wIs hs (by omega), cl0s, if_neg (show ¬ tk = 5 by omega), if_pos rfl, show f_X11_wrong T 2 = some T2 from y1, cl0s]
      by_cases c4 : tk = 24
      · obtain ⟨r, r1, r2⟩ := open_n hN hF (by omega) b8
        have r3 : r = 0 := by
          rcases r2 with ⟨_, h⟩ | ⟨h, _⟩
          · exact absurd h (h24 c4)
          · exact h
        rw [if_pos (s41.mpr c4), r1, cl0s, r3, if_pos rfl]
      · rw [if_neg (fun e => c4 (s41.mp e))]
  obtain ⟨T', x1, x2, x3, x4⟩ := key
  refine ⟨T', fun K fuel => ?_, x2, x3, x4.mo (fun a j h => Or.inl h)⟩
  rw [loopS hN hF hs (by omega) b8 (by by_cases c : tk = 1; exact Or.inr (h1 c); exact Or.inl c), x1, cl1s]
  exact loopB x2 (by split <;> omega)
theorem G.wr {c t : Nat} (ho : oko L o) (hG : G b n o S T tk p nx v C R Q ops) (hl : C.length < 500) (hx : (-1 : Int32) - nI t = tokc c 0) (hk : cok c 0) (hc : 40 ≤ c) : ∃ S', f_X6_write L S (nI t) = some (1, S') ∧ G b n o S' T tk p nx v (C ++ [(c, 0)]) R Q ops ∧ Kp (wPc o) S S' := by
  obtain ⟨hS, hT, ⟨l0, l1, l5, l2, l43, l40, hs⟩, hPC, hF, b1, b2, b3, b4, b5, b6, b7, b8⟩ := id hG
  have ho1 := ho.1
  have ho2 := ho.2.1
  obtain ⟨S', x1, x2, x3⟩ := write_n ho hPC hl hx hk
  have k : Kp (fun a j => (a = o ∧ j = 4) ∨ a = o + 10) S S' := by
    refine ⟨fun a j h => ?_, x3.2⟩
    have y := x1
    unfold f_X6_write f_X5_addCell at y
    rw [hPC.1, ocs, if_pos ho, hPC.2.1, n500 hl, if_neg (in_ok hl (by omega)), ix_nI (by omega), bnE, gv_ne (by omega), hPC.2.1, nl_add1, bnE, cl0s] at y
    have y2 := congrArg Prod.snd (Option.some.inj y)
    dsimp only at y2
    rw [← y2, gv_sv, if_neg (by omega), gv_sv, if_neg (by omega)]
  refine ⟨S', x1, ⟨hS.kp k (fun j => by omega) (by omega), hT, ⟨by rw [k.1 _ _ (by omega)]; exact l0, by rw [k.1 _ _ (by omega)]; exact l1, by rw [k.1 _ _ (by omega)]; exact l5, fun h => by rw [k.1 _ _ (by omega)]; exact l2 h, l43, l40, hs⟩, x2, hF, b1, b2, b3, b4, b5, b6, ?_, b8⟩, x3⟩
  rw [vals_app, b7]
  simp [vals]
  omega
theorem run_bin {X : List (Nat × Nat)} {c : Nat} (h : oneUp X) (hc : 41 ≤ c) : ∀ d, run (X ++ [(c, 0)]) (d + 1) = some (d + 1) := by
  intro d
  rw [run_app _ _ _ _ (h (d + 1))]
  simp only [run, run1]
  rw [if_neg (by omega), if_neg (by omega), if_pos (by omega)]
  rfl
/-- behind a sign: what it joins, and the sign written -/
theorem body_b {F : St → Option (Int32 × St)} {c m t M fuel : Nat} {K : St → Option St} {Ex : List Nat → Nat → Prop} (ho : oko L o) (hn : n ≤ 500) (hEnt : Ent N n o b S T C W c m ops M) (hF : Good N n o b F m (W ++ [c]) (fun _ => True) Ex) (ht : (-1 : Int32) - nI t = tokc c 0) (hck : cok c 0) (hc : 40 ≤ c) (hfu : M + 2 ≤ fuel) : ∃ S1 r S2, f_X3_advance N S = some S1 ∧ F S1 = some (r, S2) ∧ ((r = 0 ∧ Kp (wPc o) S S2 ∧ Res0 N T 2 (fuel + 1) K S2) ∨ (r = 1 ∧ ∃ S3, f_X6_write L S2 (nI t) = some (1, S3) ∧ Kp (wPc o) S S3 ∧ ∃ T3 X P1 R3 tk3 p3 nx3 v3 ops3 fuel3, f_X11_readE_l12 N K (fuel + 1) T (nI 2) = f_X11_readE_l12 N K fuel3 T3 (nI 2) ∧ G b n o S3 T3 tk3 p3 nx3 v3 (C ++ (X ++ [(c, 0)])) R3 (W ++ (c :: P1)) ops3 ∧ C ++ (X ++ [(c, 0)]) = R3 ++ pend (c :: P1) ∧ oneUp X ∧ Ex P1 tk3 ∧ mu n tk3 nx3 + 3 ≤ fuel3 ∧ mu n tk3 nx3 + 2 ≤ M ∧ Kp wPg T T3)) := by
  obtain ⟨S1, T1, tk1, p1, nx1, v1, x1, x2, x3, x4, x5, x6⟩ := hEnt
  obtain ⟨r, S2, y1, y2, y3⟩ := hF S1 T1 tk1 p1 nx1 v1 ops fuel C K x3 trivial (by omega)
  have kS : Kp (wPc o) S S1 := x5.mo (fun a j h => Or.inr (Or.inr (Or.inr h)))
  refine ⟨S1, r, S2, x1, y1, ?_⟩
  rcases y3 with ⟨r1, T', X, P1, R', tk', p', nx', v', ops', fuel', z1, z2, z3, z4, z5, z6, z7, z8⟩ | ⟨r0, T', z1, z2, z3⟩
  · refine Or.inr ⟨r1, ?_⟩
    have hl := congrArg List.length z3
    rw [List.length_append (as := R'), pend_len] at hl
    have hb5 := z2.2.2.2.2.2.2.2.2.2.1
    have hp := z2.2.2.2.2.2.1
    have hp2 := z2.2.2.2.2.2.2.1
    simp only [List.length_append, List.length_cons, List.length_nil] at hb5
    obtain ⟨S3, w1, w2, w3⟩ := z2.wr (t := t) (c := c) ho (by omega) ht hck hc
    refine ⟨S3, w1, (kS.tr y2).tr w3, T', X, P1, R', tk', p', nx', v', ops', fuel', ?_, ?_, ?_, z4, z5, z6, by omega, x6.tr z8⟩
    · rw [x2]; exact z1
    · rw [← List.append_assoc, show W ++ (c :: P1) = (W ++ [c]) ++ P1 by simp]
      exact w2
    · rw [show c :: P1 = [c] ++ P1 from rfl, pend_app, pend_one, ← List.append_assoc, ← List.append_assoc, z3]
  · refine Or.inl ⟨r0, kS.tr y2, T', ?_, z2, x6.tr z3⟩
    rw [x2]; exact z1
end
end NONT
