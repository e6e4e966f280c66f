section LINES
def PF0 (T : St) (R : List (Nat × Nat)) (ops : Nat) : Prop := gv T 200 34 = nI R.length ∧ (∀ i c v, R[i]? = some (c, v) → gv T 229 i = nI c ∧ (c = 0 → gv T 230 i = nI v)) ∧ gv T 200 35 = nI ops ∧ gv T 200 38 = 0 ∧ gv T 200 39 = -1
def G0 (b : Nat → Nat) (n o : Nat) (S T : St) (tk p nx v : Nat) (C : List (Nat × Nat)) (ops : Nat) : Prop := TC S b n ∧ TR T b n ∧ LT S T tk p nx v ∧ PC S o C ops ∧ PF0 T C ops ∧ p ≤ nx ∧ nx ≤ n ∧ (tk ≠ 27 → p < nx) ∧ (tk = 27 → p = n ∧ nx = n) ∧ C.length ≤ p ∧ ops ≤ 80 ∧ ops = vals C
theorem G.to0 {b : Nat → Nat} {n o : Nat} {S T : St} {tk p nx v ops : Nat} {C : List (Nat × Nat)} (h : G b n o S T tk p nx v C C [] ops) : G0 b n o S T tk p nx v C ops := by
  obtain ⟨h1, h2, h3, h4, ⟨f1, f2, f3, f4, _, _, _, f9⟩, b1, b2, b3, b4, b5, b6, b7, _⟩ := h
  exact ⟨h1, h2, h3, h4, ⟨f1, f2, f3, f4, f9⟩, b1, b2, b3, b4, by simpa using b5, b6, b7⟩
theorem PF0.kp {w : Nat → Nat → Prop} {T T' : St} {R : List (Nat × Nat)} {ops : Nat} (h : PF0 T R ops) (k : Kp w T T') (hw : ∀ a j, wPf a j → ¬ w a j) : PF0 T' R ops := by
  unfold PF0 at h ⊢
  have e : ∀ j, (j = 34 ∨ j = 35 ∨ j = 38 ∨ j = 39 ∨ j = 47 ∨ j = 48) → gv T' 200 j = gv T 200 j := fun j hj => k.1 _ _ (hw _ _ (Or.inl ⟨rfl, hj⟩))
  rw [e 34 (by omega), e 35 (by omega), e 38 (by omega), e 39 (by omega)]
  refine ⟨h.1, fun i c v hi => ?_, h.2.2.1, h.2.2.2⟩
  rw [k.1 229 i (hw _ _ (by unfold wPf; omega)), k.1 230 i (hw _ _ (by unfold wPf; omega))]; exact h.2.1 i c v hi
section
variable {N n o : Nat} {L : List Nat} {b : Nat → Nat} {S T : St} {tk p nx v ops : Nat} {C : List (Nat × Nat)}
theorem go0 (hN : 1000 ≤ N) (hb : ∀ i, b i < 256) (hn : n ≤ 500) (ho : oko L o) (hG : G0 b n o S T tk p nx v C ops) (h27 : tk ≠ 27) (h28 : tk ≠ 28) : ∃ tk' p' nx' v' S' T', f_X3_advance N S = some S' ∧ f_X11_next N T = some T' ∧ G0 b n o S' T' tk' p' nx' v' C ops ∧ C.length + 1 ≤ p' ∧ Kp wLc S S' ∧ Kp wLr T T' := by
  obtain ⟨hS, hT, ⟨l0, l1, l5, l2, l43, l40, hs⟩, hC, hF, b1, b2, b3, b4, b5, b6, b7⟩ := hG
  have ho1 := ho.1
  have ho2 := ho.2.1
  have hp := b3 h27
  obtain ⟨tk', p', nx', v', S', T', x1, x2, x3, x4, x5, x6, x7, x8, x9, x10, x11, x12⟩ := lex_step hN hb hn hS hT l5 (l40 h28) b2
  exact ⟨tk', p', nx', v', S', T', x1, x2, ⟨x5, x6, x7, hC.kp x3 (by unfold wLc; omega) (fun j => by unfold wLc; omega) (by unfold wLc; omega) (by unfold wLc; omega) (by unfold wLc; omega), hF.kp x4 (fun a j h => by unfold wPf at h; unfold wLr; omega), x9, x10, x11, x12, by omega, b6, b7⟩, by omega, x3, x4⟩
theorem bad0 (hG : G0 b n o S T tk p nx v C ops) : ∃ S' T', f_X6_refuse S = some (0, S') ∧ f_X11_wrong T 2 = some T' ∧ Bad S' T' ∧ ¬ gv T' 200 38 ≤ 0 ∧ Kp (wPc o) S S' ∧ Kp wPg T T' := by
  obtain ⟨hS, hT, ⟨l0, l1, l5, l2, l43, l40, hs⟩, hPC, hF, b1, b2, b3, b4, b5, b6, b7⟩ := id hG
  have t28 := (srt hs).2.2.2.2.2.2.2.2.2.2.2.2
  obtain ⟨S', x1, x2, x3, x4⟩ := refuse_c (o := o) l0 l1 t28
  obtain ⟨T', y1, y2, y3, y4⟩ := wrong_n (f := 2) hs l43 hF.2.2.2.1
  refine ⟨S', T', x1, y1, ⟨_, p, ?_, ?_, x2, y2, x3, y3⟩, ?_, x4, y4.mo (fun a j h => Or.inl h)⟩
  · split <;> omega
  · split <;> omega
  · rw [y2]; exact nle_n (b := 0) (by split <;> omega) (by split <;> omega)
theorem G0.svT {a i : Nat} {x : Int32} (hG : G0 b n o S T tk p nx v C ops) (ha : a = 231 ∨ a = 232 ∨ a = 233 ∨ (a = 200 ∧ i = 33)) : G0 b n o S (sv T a i x) tk p nx v C ops := by
  obtain ⟨hS, hT, ⟨l0, l1, l5, l2, l43, l40, hs⟩, hPC, hF, b⟩ := hG
  have k : Kp (fun a' i' => a' = a ∧ i' = i) T (sv T a i x) := Kp.rf.sv ⟨rfl, rfl⟩
  have e : ∀ j, j ≠ 33 → gv (sv T a i x) 200 j = gv T 200 j := fun j hj => k.1 _ _ (by omega)
  refine ⟨hS, hT.kp k (fun j => by omega) (by omega), ⟨l0, l1, l5, fun h => by rw [e 44 (by omega)]; exact l2 h, by rw [e 43 (by omega)]; exact l43, fun h => by rw [e 40 (by omega)]; exact l40 h, ?_⟩, hPC, hF.kp k (fun a' j' h => by unfold wPf at h; omega), b⟩
  unfold SRt at hs ⊢
  rw [e 42 (by omega)]
  exact hs
/-- the reference empties its waits -/
theorem G0.zero (hG : G0 b n o S T tk p nx v C ops) : G b n o S (sv (sv T 200 47 0) 200 48 0) tk p nx v C C [] ops := by
  obtain ⟨hS, hT, ⟨l0, l1, l5, l2, l43, l40, hs⟩, hPC, ⟨f1, f2, f3, f4, f9⟩, b1, b2, b3, b4, b5, b6, b7⟩ := hG
  have k : Kp (fun a' i' => a' = 200 ∧ (i' = 47 ∨ i' = 48)) T (sv (sv T 200 47 0) 200 48 0) := (Kp.rf.sv ⟨rfl, Or.inl rfl⟩).sv ⟨rfl, Or.inr rfl⟩
  have e : ∀ j, j ≠ 47 → j ≠ 48 → gv (sv (sv T 200 47 0) 200 48 0) 200 j = gv T 200 j := fun j h1 h2 => k.1 _ _ (by omega)
  refine ⟨hS, hT.kp k (fun j => by omega) (by omega), ⟨l0, l1, l5, fun h => by rw [e 44 (by omega) (by omega)]; exact l2 h, by rw [e 43 (by omega) (by omega)]; exact l43, fun h => by rw [e 40 (by omega) (by omega)]; exact l40 h, ?_⟩, hPC, ⟨by rw [e 34 (by omega) (by omega)]; exact f1, fun i c v hi => by rw [k.1 229 _ (by omega), k.1 230 _ (by omega)]; exact f2 i c v hi, by rw [e 35 (by omega) (by omega)]; exact f3, by rw [e 38 (by omega) (by omega)]; exact f4, by rw [gv_nk (by omega), gv_at]; rfl, fun i q hi => by simp at hi, gv_at, by rw [e 39 (by omega) (by omega)]; exact f9⟩, b1, b2, b3, b4, by simpa using b5, b6, b7, fun q hq => by simp at hq⟩
  unfold SRt at hs ⊢
  rw [e 42 (by omega) (by omega)]
  exact hs
def KE (N : Nat) : St → Option St := fun S_34 => if (gv S_34 200 38) = 0 then (cl0 (f_X11_settle N S_34 0) fun S_37 => some S_37) else (some S_34)
theorem KE_bad {f : Nat} (h : gv T 200 38 = nI f) (hf : 1 ≤ f ∧ f ≤ 3) : KE N T = some T := by
  unfold KE
  rw [h, if_neg (show ¬ nI f = 0 from ne_n (b := 0) (by omega) (by omega) (by omega))]
def wF (o j : Nat) (a i : Nat) : Prop := wPc o a i ∨ (a = o ∧ i = 3) ∨ (a = o + 20 ∧ i = j) ∨ (a = o + 30 ∧ i = j)
def wH (j : Nat) (a i : Nat) : Prop := wPg a i ∨ (a = 200 ∧ i = 33) ∨ (a = 231 ∧ i = j) ∨ (a = 232 ∧ i = j) ∨ (a = 233 ∧ i = j)
/-- the condition of a line and its `do` -/
theorem cond_g (hN : 1000 ≤ N) (hb : ∀ i, b i < 256) (hn : n ≤ 500) (ho : oko L o) (hG : G0 b n o S T tk p nx v C ops) : ∃ (r : Int32) (S' T' : St), (cl1 ((lev L N 10).1 S 0) fun r_7 S_8 => if r_7 = 0 then (some ((0 : Int32), S_8)) else (cl1 (f_X6_take N S_8 1) fun r_12 S_13 => some (r_12, S_13))) = some (r, S') ∧ f_X11_readE N T = some T' ∧ Kp (wPc o) S S' ∧ Kp wPg T T' ∧ ((r = 1 ∧ gv T' 200 38 ≤ 0 ∧ ∃ X T2 tk' p' nx' v' ops', f_X11_next N T' = some T2 ∧ Kp wPg T T2 ∧ G b n o S' T2 tk' p' nx' v' (C ++ X) (C ++ X) [] ops' ∧ run X 0 = some 1) ∨ (r = 0 ∧ Bad S' T' ∧ ¬ gv T' 200 38 ≤ 0)) := by
  have hGz := hG.zero
  have kz : Kp wPg T (sv (sv T 200 47 0) 200 48 0) := (Kp.rf.sv (Or.inl (Or.inl ⟨rfl, by omega⟩))).sv (Or.inl (Or.inl ⟨rfl, by omega⟩))
  have hmu := mu_le hn hGz.2.2.2.2.2.2.2.1 hGz.2.2.2.2.2.2.2.2.1
  obtain ⟨r, S1, x1, x2, x3⟩ := (lev_g (L := L) hN hb hn ho 8 0 (by omega)).2 [] ⟨rfl, by simp, fun x hx => by simp at hx⟩ S _ tk p nx v ops N C (KE N) hGz trivial (by omega)
  have x1' : (lev L N 10).1 S 0 = some (r, S1) := x1
  have eE : f_X11_readE N T = f_X11_readE_l12 N (KE N) N (sv (sv T 200 47 0) 200 48 0) (nI 0) := by
    unfold f_X11_readE
    rw [bnE, bnE]
    rfl
  rw [x1', cl1s, eE]
  rcases x3 with ⟨r1, T3, X, P, R3, tk3, p3, nx3, v3, ops3, fuel3, w1, w2, w3, w4, ⟨e1, e2, e3, e4, e5, e6, e7⟩, w6, w7, w8⟩ | ⟨r0, T3, w1, w2, w3⟩
  · rw [r1, if_neg (by decide), w1]
    rw [List.nil_append] at w2
    have hlen : P.length < 300 := by omega
    have t28 := (srt w2.2.2.1.2.2.2.2.2.2).2.2.2.2.2.2.2.2.2.2.2.2
    unfold f_X6_take
    rw [w2.2.2.1.1]
    have hl := congrArg List.length w3
    rw [List.length_append (as := R3), pend_len] at hl
    have hb5 := w2.2.2.2.2.2.2.2.2.2.1
    have hp2 := w2.2.2.2.2.2.2.1
    have hp1 := w2.2.2.2.2.2.1
    by_cases c1 : tk3 = 1
    · obtain ⟨fuel3, rfl⟩ : ∃ q, fuel3 = q + 1 := ⟨fuel3 - 1, by omega⟩
      obtain ⟨T4, y1, y2, y3⟩ := settle_n (W := []) (P := P) (m := 0) hN (by omega) (fun x hx => by simp at hx) (fun x hx => by simp at hx) (fun x hx => by have := e1 x hx; omega) (by rw [List.nil_append]; exact w2.2.2.2.2.1) (by simp; omega) (by simp; omega)
      rw [← w3] at y2
      obtain ⟨tk5, p5, nx5, v5, S5, T5, z1, z2, z3, z4, z5, z6⟩ := adv2 (L := L) hN hb hn ho w2 (by omega) (by omega) y2 y3 (by simp at hl ⊢; omega) (fun q hq => by simp at hq)
      have k4 : Kp wPg T T4 := (kz.tr w8).tr (y3.mo (fun a j h => Or.inl h))
      rw [if_pos (show nI tk3 = 1 by rw [c1]; rfl), z1, cl0s, cl1s, loopK hN w2.2.2.2.2.1 w2.2.2.1.2.2.2.2.2.2 (by omega) w2.2.2.2.2.2.2.2.2.2.2.2.2 c1 (fun h => (e1 48 h).1 rfl)]
      refine ⟨1, S5, T4, rfl, ?_, x2.tr (z5.mo (fun a j h => Or.inr (Or.inr (Or.inr h)))), k4, Or.inl ⟨rfl, by rw [y2.2.2.2.1]; decide, X, T5, tk5, p5, nx5, v5, ops3, z2, (kz.tr w8).tr z6, z3, w4 0⟩⟩
      unfold KE
      rw [w2.2.2.2.2.1.2.2.2.1, if_pos rfl, show f_X11_settle N T3 0 = some T4 from y1, cl0s]
    · obtain ⟨S4, u1, u2, u3, u4⟩ := refuse_c (o := o) w2.2.2.1.1 w2.2.2.1.2.1 t28
      obtain ⟨T4, q1, q2, q3, q4⟩ := bad_n hN hn w2 ⟨e3, e4, e6, e5⟩ (fun _ h => (e1 48 h).1 rfl) (fun h => absurd h c1) e7 hlen
      obtain ⟨fuel3, rfl⟩ : ∃ q, fuel3 = q + 2 := ⟨fuel3 - 2, by omega⟩
      have hf : 1 ≤ (if tk3 = 28 then 1 else 2) ∧ (if tk3 = 28 then 1 else 2) ≤ 3 := by split <;> omega
      rw [if_neg (show ¬ nI tk3 = 1 from ne_n (b := 1) c1 (by omega) (by omega)), u1, cl1s, cl1s, q1, KE_bad q2 hf]
      exact ⟨0, S4, T4, rfl, rfl, x2.tr u4, (kz.tr w8).tr q4, Or.inr ⟨rfl, ⟨_, _, hf.1, hf.2, u2, q2, u3, q3⟩, by rw [q2]; exact nle_n (b := 0) (by omega) (by omega)⟩⟩
  · obtain ⟨f, pp, f1, f2, f3, f4, f5, f6⟩ := id w2
    rw [r0, if_pos rfl, w1, KE_bad f4 ⟨f1, f2⟩]
    exact ⟨0, S1, T3, rfl, rfl, x2, kz.tr w3, Or.inr ⟨rfl, w2, by rw [f4]; exact nle_n (b := 0) (by omega) (by omega)⟩⟩
/-- a line, as read() takes it: 1 where it stands, else 0 -/
def lineC (L : List Nat) (N : Nat) (S : St) : Option (Int32 × St) := cl1 (f_X6_take N S 0) fun r_2 S_3 => if r_2 = 0 then (some (0, S_3)) else (cl1 ((lev L N 10).1 S_3 0) fun r_7 S_8 => if r_7 = 0 then (some (0, S_8)) else (cl1 (f_X6_take N S_8 1) fun r_12 S_13 => if r_12 = 0 then (some (0, S_13)) else (cl1 (f_X6_readAct L N S_13) fun r_17 S_18 => if r_17 = 0 then (some (0, S_18)) else (cl1 (f_X6_take N S_18 17) fun r_22 S_23 => if r_22 = 0 then (some (0, S_23)) else (some (1, S_23))))))
theorem line_g {Ls : List (List (Nat × Nat) × Nat)} (hN : 1000 ≤ N) (hb : ∀ i, b i < 256) (hn : n ≤ 500) (ho : oko L o) (hG : G0 b n o S T tk p nx v (FL Ls) ops) (hL : LN S T o Ls) (hl : Ls.length < 8) (h27 : tk ≠ 27) : ∃ (r : Int32) (S' T' : St), lineC L N S = some (r, S') ∧ Kp (wF o Ls.length) S S' ∧ Kp (wH Ls.length) T T' ∧ ((r = 1 ∧ (∀ (v1 : Int32) (K : St → Option (Int32 × St)) (f : Nat), f_X11_orders_l58 N v1 K (f + 1) T = f_X11_orders_l58 N v1 K f T') ∧ ∃ l a tk' p' nx' v' ops', G0 b n o S' T' tk' p' nx' v' (FL (Ls ++ [(l, a)])) ops' ∧ LN S' T' o (Ls ++ [(l, a)])) ∨ (r = 0 ∧ (∀ (v1 : Int32) (K : St → Option (Int32 × St)) (f : Nat), f_X11_orders_l58 N v1 K (f + 1) T = some (-1, T')) ∧ Bad S' T')) := by
  obtain ⟨hS, hT, ⟨l0, l1, l5, l2, l43, l40, hs⟩, hPC, hF, b1, b2, b3, b4, b5, b6, b7⟩ := id hG
  obtain ⟨s1, s2, s0, s3, s59, s60, s62, s61, s43, s45, s40, s41, t28⟩ := srt hs
  obtain ⟨n1, n2, n3, n4, n5, n6⟩ := hL
  have ho1 := ho.1
  have ho2 := ho.2.1
  have w0 : (2003330414 : Int64) = Int64.ofNat (pk (Wo 0)) := by decide
  have hd : ∀ (v1 : Int32) (K : St → Option (Int32 × St)) (f : Nat), f_X11_orders_l58 N v1 K (f + 1) T = if tk = 0 then f_X11_orders_j96 N (f_X11_orders_l58 N v1 K f) K T v1 else f_X11_orders_j91 N (f_X11_orders_l58 N v1 K f) K T v1 := by
    intro v1 K f
    rw [f_X11_orders_l58, if_pos hF.2.2.2.1, if_neg (fun e => h27 (s0.mp e)), w0, wIs hs (by omega), cl0s]
    by_cases c : tk = 0
    · rw [if_pos c, if_pos c, if_neg (by decide), n3, if_neg (show ¬ nI Ls.length = 8 from ne_n (b := 8) (by omega) (by omega) (by omega))]
    · rw [if_neg c, if_neg c, if_pos rfl]
  unfold lineC
  by_cases c0 : tk = 0
  · have tk0 : f_X6_take N S 0 = cl0 (f_X3_advance N S) fun S_3 => some (1, S_3) := by
      unfold f_X6_take
      rw [l0, if_pos (show nI tk = 0 by rw [c0]; rfl)]
    obtain ⟨tk1, p1, nx1, v1', S1, T1, x1, x2, x3, x4, x5, x6⟩ := go0 (L := L) hN hb hn ho (hG.svT (a := 231) (i := Ls.length) (x := nI (FL Ls).length) (by omega)) (by omega) (by omega)
    rw [tk0, x1, cl0s, cl1s, if_neg (show ¬ (1 : Int32) = 0 by decide)]
    have kT1 : Kp (wH Ls.length) T T1 := (Kp.rf.sv (Or.inr (Or.inr (Or.inl ⟨rfl, rfl⟩)))).tr (x6.mo (fun a j h => Or.inl (Or.inr h)))
    have kS1 : Kp (wF o Ls.length) S S1 := x5.mo (fun a j h => Or.inl (Or.inr (Or.inr (Or.inr h))))
    obtain ⟨r, S2, T2, y1, y2, y3, y4, y5⟩ := cond_g (L := L) hN hb hn ho x3
    have j96 : ∀ (v1 : Int32) (K : St → Option (Int32 × St)) (kb : St → Option (Int32 × St)), f_X11_orders_j96 N kb K T v1 = if (gv T2 200 38) ≤ 0 then (cl0 (f_X11_next N T2) fun S_32 => cl0 (f_X11_readAct N S_32) fun S_34 => if (gv S_34 200 38) ≤ 0 then (bn (sv S_34 200 33 ((gv S_34 200 33) + 1)) fun S_36 => kb S_36) else (some ((-1), S_34))) else (some ((-1), T2)) := by
      intro v1 K kb
      unfold f_X11_orders_j96
      rw [hF.2.2.2.1, if_pos (by decide), n3, if_neg (in_ok (show Ls.length < 10 by omega) (by omega)), ix_nI (by omega), hF.1, bnE, x2, cl0s, y2, cl0s]
    -- the class's shape
    have cs : (cl1 ((lev L N 10).1 S1 0) fun r_7 S_8 => if r_7 = 0 then (some ((0 : Int32), S_8)) else (cl1 (f_X6_take N S_8 1) fun r_12 S_13 => if r_12 = 0 then (some (0, S_13)) else (cl1 (f_X6_readAct L N S_13) fun r_17 S_18 => if r_17 = 0 then (some (0, S_18)) else (cl1 (f_X6_take N S_18 17) fun r_22 S_23 => if r_22 = 0 then (some (0, S_23)) else (some (1, S_23)))))) = if r = 0 then some (0, S2) else (cl1 (f_X6_readAct L N S2) fun r_17 S_18 => if r_17 = 0 then (some (0, S_18)) else (cl1 (f_X6_take N S_18 17) fun r_22 S_23 => if r_22 = 0 then (some (0, S_23)) else (some (1, S_23)))) := by
      cases hl1 : (lev L N 10).1 S1 0 with
      | none => rw [hl1] at y1; cases y1
      | some q =>
        rw [hl1] at y1
        obtain ⟨q1, q2⟩ := q
        rw [cl1s] at y1 ⊢
        by_cases cq : q1 = 0
        · rw [if_pos cq] at y1 ⊢
          have h := Option.some.inj y1
          have h1 : (0 : Int32) = r := congrArg Prod.fst h
          have h2 : q2 = S2 := congrArg Prod.snd h
          rw [if_pos h1.symm, h2]
        · rw [if_neg cq] at y1 ⊢
          cases hl2 : f_X6_take N q2 1 with
          | none => rw [hl2] at y1; cases y1
          | some q' =>
            rw [hl2] at y1
            obtain ⟨q3, q4⟩ := q'
            rw [cl1s] at y1 ⊢
            have h := Option.some.inj y1
            have h1 : q3 = r := congrArg Prod.fst h
            have h2 : q4 = S2 := congrArg Prod.snd h
            rw [h1, h2]
    rw [cs]
    have kS2 : Kp (wF o Ls.length) S S2 := kS1.tr (y3.mo (fun a j h => Or.inl h))
    have kT2 : Kp (wH Ls.length) T T2 := kT1.tr (y4.mo (fun a j h => Or.inl h))
    rcases y5 with ⟨r1, q38, X, T3, tk3, p3, nx3, v3, ops3, z1, z2, z3, z4⟩ | ⟨r0, z1, z2⟩
    · have g3 : gv S2 o 3 = nI Ls.length := by rw [y3.1 _ _ (by unfold wPc wLc; omega), x5.1 _ _ (by unfold wLc; omega)]; exact n2
      have g33 : gv T3 200 33 = nI Ls.length := by rw [z2.1 _ _ (by unfold wPg wPf wLr; omega), x6.1 _ _ (by unfold wLr; omega), gv_ne (by omega)]; exact n3
      obtain ⟨r', S4, T4, u1, u2, u3, u4, u5⟩ := act_g (L := L) hN hb hn ho z3 g3 g33 hl
      rw [r1, if_neg (by decide), u1]
      have kS4 : Kp (wF o Ls.length) S S4 := kS2.tr (u3.mo (fun a j h => h))
      have kT3 : Kp (wH Ls.length) T T3 := kT1.tr (z2.mo (fun a j h => Or.inl h))
      have kT4 : Kp (wH Ls.length) T T4 := kT3.tr (u4.mo (fun a j h => by
        rcases h with h | h | h
        · exact Or.inl h
        · exact Or.inr (Or.inr (Or.inr (Or.inl h)))
        · exact Or.inr (Or.inr (Or.inr (Or.inr h)))))
      rcases u5 with ⟨h1, h2, a, tk5, p5, nx5, v5, hG5, e1, e2, e3⟩ | ⟨h1, h2, h3⟩
      · have g33' : gv T4 200 33 = nI Ls.length := by rw [u4.1 _ _ (by unfold wPg wPf wLr; omega)]; exact g33
        have FLs : FL (Ls ++ [(X, a)]) = FL Ls ++ X := by rw [FL_app]; simp [FL]
        refine ⟨r', S4, sv T4 200 33 (nI (Ls.length + 1)), rfl, kS4, kT4.sv (Or.inr (Or.inl ⟨rfl, rfl⟩)), Or.inl ⟨h1, fun v1 K f => ?_, X, a, tk5, p5, nx5, v5, ops3, ?_, ?_⟩⟩
        · rw [hd, if_pos c0, j96, if_pos q38, z1, cl0s, u2, cl0s, if_pos h2, g33', nl_add1, bnE]
        · rw [FLs]
          exact hG5.to0.svT (by omega)
        · refine ⟨by simp; omega, by rw [e1]; simp, by rw [gv_at]; simp, fun j hj => ?_, fun j hj => ?_, fun j l a' hj => ?_⟩
          · simp at hj
            by_cases cj : j = Ls.length
            · subst cj
              rw [e2, List.take_of_length_le (by simp), FLs]
            · rw [kS4.1 _ _ (by unfold wF wPc wLc; omega), List.take_append_of_le_length (by omega)]
              exact n4 j (by omega)
          · simp at hj
            rw [gv_ne (by omega)]
            by_cases cj : j = Ls.length
            · subst cj
              rw [u4.1 _ _ (by unfold wPg wPf wLr; omega), z2.1 _ _ (by unfold wPg wPf wLr; omega), x6.1 _ _ (by unfold wLr; omega), gv_at, List.take_append_of_le_length (Nat.le_refl _), List.take_of_length_le (Nat.le_refl _)]
            · rw [kT4.1 _ _ (by unfold wH wPg wPf wLr; omega), List.take_append_of_le_length (by omega)]
              exact n5 j (by omega)
          · rw [gv_ne (by omega), gv_ne (by omega)]
            rcases get_snoc hj with ⟨a1, a2⟩ | ⟨a1, a2⟩
            · rw [kS4.1 _ _ (by unfold wF wPc wLc; omega), kT4.1 _ _ (by unfold wH wPg wPf wLr; omega), kT4.1 _ _ (by unfold wH wPg wPf wLr; omega)]
              exact n6 j l a' a2
            · subst a1
              cases a2
              exact ⟨z4, e3⟩
      · refine ⟨r', S4, T4, rfl, kS4, kT4, Or.inr ⟨h1, fun v1 K f => ?_, h2⟩⟩
        rw [hd, if_pos c0, j96, if_pos q38, z1, cl0s, u2, cl0s, if_neg h3]
    · rw [r0, if_pos rfl]
      refine ⟨0, S2, T2, rfl, kS2, kT2, Or.inr ⟨rfl, fun v1 K f => ?_, z1⟩⟩
      rw [hd, if_pos c0, j96, if_neg z2]
  · obtain ⟨S', T', x1, x2, x3, x4, x5, x6⟩ := bad0 hG
    have tk0 : f_X6_take N S 0 = some (0, S') := by
      unfold f_X6_take
      rw [l0, if_neg (show ¬ nI tk = 0 from ne_n (b := 0) c0 (by omega) (by omega)), x1, cl1s]
    rw [tk0, cl1s, if_pos rfl]
    refine ⟨0, S', T', rfl, x5.mo (fun a j h => Or.inl h), x6.mo (fun a j h => Or.inl h), Or.inr ⟨rfl, fun v1 K f => ?_, x3⟩⟩
    rw [hd, if_neg c0]
    unfold f_X11_orders_j91 f_X11_orders_j96
    rw [x2, cl0s, if_neg x4]
end
end LINES
