section LINE
def LN (S T : St) (o : Nat) (Ls : List (List (Nat × Nat) × Nat)) : Prop := Ls.length ≤ 8 ∧ gv S o 3 = nI Ls.length ∧ gv T 200 33 = nI Ls.length ∧ (∀ j, j < Ls.length → gv S (o + 20) j = nI (FL (Ls.take (j + 1))).length) ∧ (∀ j, j < Ls.length → gv T 231 j = nI (FL (Ls.take j)).length) ∧ (∀ j l a, Ls[j]? = some (l, a) → run l 0 = some 1 ∧ arel a (gv S (o + 30) j) (gv T 232 j) (gv T 233 j))
def wO (o : Nat) (a j : Nat) : Prop := (a = 110 ∧ (j = 0 ∨ j = 1 ∨ j = 4)) ∨ a = 111 ∨ a = o ∨ a = o + 10 ∨ a = o + 20 ∨ a = o + 30
def wQ (a j : Nat) : Prop := (a = 200 ∧ (j = 33 ∨ j = 34 ∨ j = 35 ∨ j = 38 ∨ j = 39 ∨ j = 40 ∨ j = 42 ∨ j = 43 ∨ j = 44 ∨ j = 47 ∨ j = 48)) ∨ a = 229 ∨ a = 230 ∨ a = 231 ∨ a = 232 ∨ a = 233 ∨ a = 247
theorem wPc_wO {o a j : Nat} (h : wPc o a j) : wO o a j := by unfold wPc wLc at h; unfold wO; omega
theorem wPg_wQ {a j : Nat} (h : wPg a j) : wQ a j := by unfold wPg wPf wLr at h; unfold wQ; omega
theorem wLc_wO {o a j : Nat} (h : wLc a j) : wO o a j := by unfold wLc at h; unfold wO; omega
theorem wLr_wQ {a j : Nat} (h : wLr a j) : wQ a j := by unfold wLr at h; unfold wQ; omega
def semiR (N : Nat) (S_14 : St) : Option St := if (gv S_14 200 42) = 59 then (if (gv S_14 200 38) = 0 then (cl0 (f_X11_next N S_14) fun S_19 => some S_19) else (some S_14)) else (cl0 (f_X11_wrong S_14 2) fun S_21 => if (gv S_21 200 38) = 0 then (cl0 (f_X11_next N S_21) fun S_24 => some S_24) else (some S_21))
section
variable {N n o : Nat} {L : List Nat} {b : Nat → Nat} {S T : St} {tk p nx v ops : Nat} {C R : List (Nat × Nat)} {Q W P : List Nat}
/-- both go on from a token that is what was wanted -/
theorem go_on (hN : 1000 ≤ N) (hb : ∀ i, b i < 256) (hn : n ≤ 500) (ho : oko L o) (hG : G b n o S T tk p nx v C C [] ops) (h27 : tk ≠ 27) (h28 : tk ≠ 28) : ∃ tk' p' nx' v' S' T', f_X3_advance N S = some S' ∧ f_X11_next N T = some T' ∧ G b n o S' T' tk' p' nx' v' C C [] ops ∧ Kp wLc S S' ∧ Kp wPg T T' := by
  obtain ⟨tk', p', nx', v', S', T', x1, x2, x3, x4, x5, x6⟩ := adv2 (L := L) hN hb hn ho hG h27 h28 hG.2.2.2.2.1 Kp.rf (by have := hG.2.2.2.2.2.2.2.2.2.1; simp at this ⊢; omega) (fun q hq => by simp at hq)
  exact ⟨tk', p', nx', v', S', T', x1, x2, x3, x5, x6⟩
theorem bothBad (hG : G b n o S T tk p nx v C R Q ops) : ∃ S' T', f_X6_refuse S = some (0, S') ∧ f_X11_wrong T 2 = some T' ∧ Bad S' T' ∧ ¬ gv T' 200 38 = 0 ∧ ¬ gv T' 200 38 ≤ 0 ∧ Kp (wPc o) S S' ∧ Kp wPg T T' := by
  obtain ⟨hS, hT, ⟨l0, l1, l5, l2, l43, l40, hs⟩, hPC, hF, b1, b2, b3, b4, b5, b6, b7, b8⟩ := id hG
  have t28 := (srt hs).2.2.2.2.2.2.2.2.2.2.2.2
  obtain ⟨S', x1, x2, x3, x4⟩ := refuse_c (o := o) l0 l1 t28
  obtain ⟨T', y1, y2, y3, y4⟩ := wrong_n (f := 2) hs l43 hF.2.2.2.1
  refine ⟨S', T', x1, y1, ⟨_, p, ?_, ?_, x2, y2, x3, y3⟩, ?_, ?_, x4, y4.mo (fun a j h => Or.inl h)⟩
  · split <;> omega
  · split <;> omega
  · rw [y2]; exact ne_n (b := 0) (by split <;> omega) (by split <;> omega) (by omega)
  · rw [y2]; exact nle_n (b := 0) (by split <;> omega) (by split <;> omega)
theorem semi_g (hN : 1000 ≤ N) (hb : ∀ i, b i < 256) (hn : n ≤ 500) (ho : oko L o) (hG : G b n o S T tk p nx v C C [] ops) : ∃ r S' T', f_X6_take N S 17 = some (r, S') ∧ semiR N T = some T' ∧ Kp (wPc o) S S' ∧ Kp wPg T T' ∧ ((r = 1 ∧ ∃ tk' p' nx' v', G b n o S' T' tk' p' nx' v' C C [] ops) ∨ (r = 0 ∧ Bad S' T' ∧ ¬ gv T' 200 38 ≤ 0)) := by
  obtain ⟨hS, hT, ⟨l0, l1, l5, l2, l43, l40, hs⟩, hPC, hF, b1, b2, b3, b4, b5, b6, b7, b8⟩ := id hG
  obtain ⟨s1, s2, s0, s3, s59, s60, s62, s61, s43, s45, s40, s41, t28⟩ := srt hs
  unfold f_X6_take semiR
  rw [l0]
  by_cases c : tk = 17
  · obtain ⟨tk', p', nx', v', S', T', x1, x2, x3, x4, x5⟩ := go_on hN hb hn ho hG (by omega) (by omega)
    rw [if_pos (show nI tk = 17 by rw [c]; rfl), if_pos (s59.mpr c), if_pos hF.2.2.2.1, x1, cl0s, x2, cl0s]
    exact ⟨1, S', T', rfl, rfl, x4.mo (fun a j h => Or.inr (Or.inr (Or.inr h))), x5, Or.inl ⟨rfl, tk', p', nx', v', x3⟩⟩
  · obtain ⟨S', T', x1, x2, x3, x4, x5, x6, x7⟩ := bothBad hG
    rw [if_neg (show ¬ nI tk = 17 from ne_n (b := 17) c (by omega) (by omega)), if_neg (fun e => c (s59.mp e)), x1, cl1s, x2, cl0s, if_neg x4]
    exact ⟨0, S', T', rfl, rfl, x6, x7, Or.inr ⟨rfl, x3, x5⟩⟩
/-- the end of a line in the class -/
theorem endl_n {j : Nat} {x : Int32} (ho : oko L o) (hC : PC S o C ops) (h3 : gv S o 3 = nI j) (hj : j < 8) : ∃ S1, f_X5_addLine S o x = some S1 ∧ gv S1 o 3 = nI (j + 1) ∧ gv S1 (o + 20) j = nI C.length ∧ gv S1 (o + 30) j = x ∧ Kp (fun a i => (a = o ∧ i = 3) ∨ (a = o + 20 ∧ i = j) ∨ (a = o + 30 ∧ i = j)) S S1 := by
  have ho1 := ho.1
  unfold f_X5_addLine
  rw [h3, if_neg (show ¬ (8 : Int32) ≤ nI j from nle_n (a := 8) hj (by omega)), if_neg (in_ok hj (by omega)), ix_nI (by omega), bnE, hC.2.1, gv_ne (by omega), h3, if_neg (in_ok hj (by omega)), ix_nI (by omega), bnE, gv_ne (by omega), gv_ne (by omega), h3, nl_add1, bnE]
  exact ⟨_, rfl, gv_at, by rw [gv_ne (by omega), gv_ne (by omega), gv_at], by rw [gv_ne (by omega), gv_at], ((Kp.rf.sv (Or.inr (Or.inl ⟨rfl, rfl⟩))).sv (Or.inr (Or.inr ⟨rfl, rfl⟩))).sv (Or.inl ⟨rfl, rfl⟩)⟩
theorem G.kpS {w : Nat → Nat → Prop} {S' : St} (hG : G b n o S T tk p nx v C R Q ops) (k : Kp w S S') (h1 : ∀ j, ¬ w 7 j) (h2 : ∀ j, ¬ w 111 j) (h3 : ¬ w o 4) (h4 : ∀ j, ¬ w (o + 10) j) (h5 : ∀ j, ¬ w 110 j) : G b n o S' T tk p nx v C R Q ops := by
  obtain ⟨hS, hT, ⟨l0, l1, l5, l2, l43, l40, hs⟩, hPC, hF, b⟩ := hG
  exact ⟨hS.kp k h1 (h2 _), hT, ⟨by rw [k.1 _ _ (h2 _)]; exact l0, by rw [k.1 _ _ (h2 _)]; exact l1, by rw [k.1 _ _ (h2 _)]; exact l5, fun h => by rw [k.1 _ _ (h2 _)]; exact l2 h, l43, l40, hs⟩, hPC.kp k h3 h4 (h5 _) (h5 _) (h5 _), hF, b⟩
theorem G.svT {a i : Nat} {x : Int32} (hG : G b n o S T tk p nx v C R Q ops) (ha : a = 231 ∨ a = 232 ∨ a = 233 ∨ (a = 200 ∧ i = 33)) : G b n o S (sv T a i x) tk p nx v C R Q ops := by
  obtain ⟨hS, hT, ⟨l0, l1, l5, l2, l43, l40, hs⟩, hPC, hF, b⟩ := hG
  have k : Kp (fun a' i' => a' = a ∧ i' = i) T (sv T a i x) := Kp.rf.sv ⟨rfl, rfl⟩
  have e : ∀ j, j ≠ 33 → gv (sv T a i x) 200 j = gv T 200 j := fun j hj => k.1 _ _ (by omega)
  refine ⟨hS, hT.kp k (fun j => by omega) (by omega), ⟨l0, l1, l5, fun h => by rw [e 44 (by omega)]; exact l2 h, by rw [e 43 (by omega)]; exact l43, fun h => by rw [e 40 (by omega)]; exact l40 h, ?_⟩, hPC, hF.kp k (fun a' j' h => by unfold wPf at h; omega), b⟩
  unfold SRt at hs ⊢
  rw [e 42 (by omega)]
  exact hs
/-- the act of a line, up to its semicolon -/
theorem act_g {j : Nat} (hN : 1000 ≤ N) (hb : ∀ i, b i < 256) (hn : n ≤ 500) (ho : oko L o) (hG : G b n o S T tk p nx v C C [] ops) (h3 : gv S o 3 = nI j) (h33 : gv T 200 33 = nI j) (hj : j < 8) : ∃ (r : Int32) (S' T' : St), (cl1 (f_X6_readAct L N S) fun r_17 S_18 => if r_17 = 0 then (some (0, S_18)) else (cl1 (f_X6_take N S_18 17) fun r_22 S_23 => if r_22 = 0 then (some (0, S_23)) else (some (1, S_23)))) = some (r, S') ∧ f_X11_readAct N T = some T' ∧ Kp (fun a i => wPc o a i ∨ (a = o ∧ i = 3) ∨ (a = o + 20 ∧ i = j) ∨ (a = o + 30 ∧ i = j)) S S' ∧ Kp (fun a i => wPg a i ∨ (a = 232 ∧ i = j) ∨ (a = 233 ∧ i = j)) T T' ∧ ((r = 1 ∧ gv T' 200 38 ≤ 0 ∧ ∃ a tk' p' nx' v', G b n o S' T' tk' p' nx' v' C C [] ops ∧ gv S' o 3 = nI (j + 1) ∧ gv S' (o + 20) j = nI C.length ∧ arel a (gv S' (o + 30) j) (gv T' 232 j) (gv T' 233 j)) ∨ (r = 0 ∧ Bad S' T' ∧ ¬ gv T' 200 38 ≤ 0)) := by
  obtain ⟨hS, hT, ⟨l0, l1, l5, l2, l43, l40, hs⟩, hPC, hF, b1, b2, b3, b4, b5, b6, b7, b8⟩ := id hG
  obtain ⟨s1, s2, s0, s3, s59, s60, s62, s61, s43, s45, s40, s41, t28⟩ := srt hs
  have ho1 := ho.1
  have ho2 := ho.2.1
  have w4 : (1936026732 : Int64) = Int64.ofNat (pk (Wo 4)) := by decide
  have w2 : (2002873451 : Int64) = Int64.ofNat (pk (Wo 2)) := by decide
  have w3 : (1919251316 : Int64) = Int64.ofNat (pk (Wo 3)) := by decide
  -- walk and rest
  have simple : ∀ (x d : Int32) (a : Nat), tk ≠ 27 → tk ≠ 28 → (∀ s, arel a x d s) → ∃ r S' T', (cl1 (f_X6_endLine L N S x) fun r_17 S_18 => if r_17 = 0 then (some (0, S_18)) else (cl1 (f_X6_take N S_18 17) fun r_22 S_23 => if r_22 = 0 then (some ((0 : Int32), S_23)) else (some (1, S_23)))) = some (r, S') ∧ f_X11_readAct_j76 N T 0 (nI j) d = some T' ∧ Kp (fun a i => wPc o a i ∨ (a = o ∧ i = 3) ∨ (a = o + 20 ∧ i = j) ∨ (a = o + 30 ∧ i = j)) S S' ∧ Kp (fun a i => wPg a i ∨ (a = 232 ∧ i = j) ∨ (a = 233 ∧ i = j)) T T' ∧ ((r = 1 ∧ gv T' 200 38 ≤ 0 ∧ ∃ a tk' p' nx' v', G b n o S' T' tk' p' nx' v' C C [] ops ∧ gv S' o 3 = nI (j + 1) ∧ gv S' (o + 20) j = nI C.length ∧ arel a (gv S' (o + 30) j) (gv T' 232 j) (gv T' 233 j)) ∨ (r = 0 ∧ Bad S' T' ∧ ¬ gv T' 200 38 ≤ 0)) := by
    intro x d a h27 h28 ha
    obtain ⟨S1, x1, x2, x3, x4, x5⟩ := endl_n (x := x) ho hPC h3 hj
    have hG1 : G b n o S1 (sv T 232 j d) tk p nx v C C [] ops := (hG.kpS x5 (fun i => by omega) (fun i => by omega) (by omega) (fun i => by omega) (fun i => by omega)).svT (by omega)
    obtain ⟨tk2, p2, nx2, v2, S2, T2, y1, y2, y3, y4, y5⟩ := go_on hN hb hn ho hG1 h27 h28
    obtain ⟨r, S3, T3, z1, z2, z3, z4, z5⟩ := semi_g hN hb hn ho y3
    have kS : Kp (fun a i => wPc o a i ∨ (a = o ∧ i = 3) ∨ (a = o + 20 ∧ i = j) ∨ (a = o + 30 ∧ i = j)) S S3 := ((x5.mo (fun a i h => Or.inr h)).tr (y4.mo (fun a i h => Or.inl (Or.inr (Or.inr (Or.inr h)))))).tr (z3.mo (fun a i h => Or.inl h))
    have kT0 : Kp (fun a i => wPg a i ∨ (a = 232 ∧ i = j) ∨ (a = 233 ∧ i = j)) T (sv T 232 j d) := Kp.rf.sv (Or.inr (Or.inl ⟨rfl, rfl⟩))
    have kT : Kp (fun a i => wPg a i ∨ (a = 232 ∧ i = j) ∨ (a = 233 ∧ i = j)) T T3 := (kT0.tr (y5.mo (fun a i h => Or.inl h))).tr (z4.mo (fun a i h => Or.inl h))
    have ev : ∀ a i, (a = o ∧ i = 3) ∨ a = o + 20 ∨ a = o + 30 → gv S3 a i = gv S1 a i := fun a i h => by rw [z3.1 _ _ (by unfold wPc wLc; omega), y4.1 _ _ (by unfold wLc; omega)]
    have et : ∀ a i, a = 232 ∨ a = 233 → gv T3 a i = gv (sv T 232 j d) a i := fun a i h => by rw [z4.1 _ _ (by unfold wPg wPf wLr; omega), y5.1 _ _ (by unfold wPg wPf wLr; omega)]
    refine ⟨r, S3, T3, ?_, ?_, kS, kT, ?_⟩
    · unfold f_X6_endLine
      rw [hPC.1, ocs, if_pos ho, x1, cl0s, y1, cl0s, cl1s, if_neg (by decide), z1, cl1s]
      rcases z5 with ⟨h, _⟩ | ⟨h, _⟩
      · rw [h, if_neg (by decide)]
      · rw [h, if_pos rfl]
    · unfold f_X11_readAct_j76
      rw [if_neg (in_ok hj (by omega)), ix_nI (by omega), bnE, y2, cl0s, if_pos rfl]
      exact z2
    · rcases z5 with ⟨h, tk3, p3, nx3, v3, hG3⟩ | ⟨h, h1, h2⟩
      · refine Or.inl ⟨h, by rw [hG3.2.2.2.2.1.2.2.2.1]; decide, a, tk3, p3, nx3, v3, hG3, by rw [ev _ _ (by omega)]; exact x2, by rw [ev _ _ (by omega)]; exact x3, ?_⟩
        rw [ev _ _ (by omega), x4, et _ _ (by omega), gv_at]
        exact ha _
      · exact Or.inr ⟨h, h1, h2⟩
  unfold f_X6_readAct f_X11_readAct
  rw [l0, w4, wIs hs (by omega), cl0s]
  by_cases c2 : tk = 2
  · rw [if_pos (show nI tk = 2 by rw [c2]; rfl), if_neg (show ¬ tk = 4 by omega), if_pos rfl, w2, wIs hs (by omega), cl0s, if_pos c2, if_neg (by decide)]
    unfold f_X11_readAct_j37
    rw [hF.2.2.2.1, if_pos (by decide), if_pos rfl, w3, wIs hs (by omega), cl0s, if_neg (show ¬ tk = 3 by omega), if_pos rfl, h33]
    obtain ⟨r, S', T', x1, x2, x3⟩ := simple (-1) 0 0 (by omega) (by omega) (fun s => Or.inl ⟨rfl, rfl, rfl⟩)
    refine ⟨r, S', T', ?_, x2, x3⟩
    rw [← x1]
    cases f_X6_endLine L N S (-1) with
    | none => rfl
    | some q => rfl
  · rw [if_neg (show ¬ nI tk = 2 from ne_n (b := 2) c2 (by omega) (by omega))]
    by_cases c3 : tk = 3
    · rw [if_pos (show nI tk = 3 by rw [c3]; rfl), if_neg (show ¬ tk = 4 by omega), if_pos rfl, w2, wIs hs (by omega), cl0s, if_neg c2, if_pos rfl, w3, wIs hs (by omega), cl0s, if_pos c3, if_neg (by decide)]
      unfold f_X11_readAct_j37
      rw [hF.2.2.2.1, if_pos (by decide), if_pos rfl, w3, wIs hs (by omega), cl0s, if_pos c3, if_neg (by decide), h33]
      obtain ⟨r, S', T', x1, x2, x3⟩ := simple 0 1 1 (by omega) (by omega) (fun s => Or.inr (Or.inl ⟨rfl, rfl, rfl⟩))
      refine ⟨r, S', T', ?_, x2, x3⟩
      rw [← x1]
      cases f_X6_endLine L N S 0 with
      | none => rfl
      | some q => rfl
    · rw [if_neg (show ¬ nI tk = 3 from ne_n (b := 3) c3 (by omega) (by omega))]
      unfold f_X6_take
      rw [l0]
      by_cases c4 : tk = 4
      · rw [if_pos (show nI tk = 4 by rw [c4]; rfl), if_pos c4, if_neg (by decide)]
        unfold f_X11_readAct_j37
        rw [hF.2.2.2.1, if_pos (by decide), if_neg (by decide), h33]
        unfold f_X11_readAct_j76
        rw [if_neg (in_ok hj (by omega)), ix_nI (by omega), bnE]
        have hG0 : G b n o S (sv T 232 j 2) tk p nx v C C [] ops := hG.svT (by omega)
        obtain ⟨tk2, p2, nx2, v2, S2, T2, y1, y2, y3, y4, y5⟩ := go_on hN hb hn ho hG0 (by omega) (by omega)
        rw [y1, cl0s, cl1s, if_neg (show ¬ (1 : Int32) = 0 by decide), y2, cl0s, if_neg (show ¬ (1 : Int32) = 0 by decide)]
        have kT0 : Kp (fun a i => wPg a i ∨ (a = 232 ∧ i = j) ∨ (a = 233 ∧ i = j)) T T2 := (Kp.rf.sv (Or.inr (Or.inl ⟨rfl, rfl⟩))).tr (y5.mo (fun a i h => Or.inl h))
        have kS0 : Kp (fun a i => wPc o a i ∨ (a = o ∧ i = 3) ∨ (a = o + 20 ∧ i = j) ∨ (a = o + 30 ∧ i = j)) S S2 := y4.mo (fun a i h => Or.inl (Or.inr (Or.inr (Or.inr h))))
        obtain ⟨hS', hT', ⟨m0, m1, m5, m2, m43, m40, hs'⟩, hPC', hF', _⟩ := id y3
        obtain ⟨s1', s2', s0', s3', _, _, _, _, _, _, _, _, t28'⟩ := srt hs'
        rw [m0]
        have h33' : gv T2 200 33 = nI j := by rw [y5.1 _ _ (by unfold wPg wPf wLr; omega), gv_ne (by omega)]; exact h33
        by_cases c5 : tk2 = 25
        · obtain ⟨q1, q2, q3⟩ := m2 c5
          rw [if_pos (show nI tk2 = 25 by rw [c5]; rfl), if_pos (s2'.mpr c5), q2]
          unfold f_X11_readAct_j98
          rw [hF'.2.2.2.1, if_pos (by decide), h33', if_neg (in_ok hj (by omega)), ix_nI (by omega), q3, bnE]
          obtain ⟨S3, x1, x2, x3, x4, x5⟩ := endl_n (x := nI v2) ho hPC' (by rw [y4.1 _ _ (by unfold wLc; omega)]; exact h3) hj
          have hG1 : G b n o S3 (sv T2 233 j (nI v2)) tk2 p2 nx2 v2 C C [] ops := (y3.kpS x5 (fun i => by omega) (fun i => by omega) (by omega) (fun i => by omega) (fun i => by omega)).svT (by omega)
          obtain ⟨tk4, p4, nx4, v4, S4, T4, u1, u2, u3, u4, u5⟩ := go_on hN hb hn ho hG1 (by omega) (by omega)
          obtain ⟨r, S5, T5, z1, z2, z3, z4, z5⟩ := semi_g hN hb hn ho u3
          have ev : ∀ a i, (a = o ∧ i = 3) ∨ a = o + 20 ∨ a = o + 30 → gv S5 a i = gv S3 a i := fun a i h => by rw [z3.1 _ _ (by unfold wPc wLc; omega), u4.1 _ _ (by unfold wLc; omega)]
          have et : ∀ a i, a = 232 ∨ a = 233 → gv T5 a i = gv (sv T2 233 j (nI v2)) a i := fun a i h => by rw [z4.1 _ _ (by unfold wPg wPf wLr; omega), u5.1 _ _ (by unfold wPg wPf wLr; omega)]
          have e232 : gv T2 232 j = 2 := by rw [y5.1 _ _ (by unfold wPg wPf wLr; omega), gv_at]
          refine ⟨r, S5, T5, ?_, ?_, ((kS0.tr (x5.mo (fun a i h => Or.inr h))).tr (u4.mo (fun a i h => Or.inl (Or.inr (Or.inr (Or.inr h)))))).tr (z3.mo (fun a i h => Or.inl h)), ((kT0.sv (Or.inr (Or.inr ⟨rfl, rfl⟩))).tr (u5.mo (fun a i h => Or.inl h))).tr (z4.mo (fun a i h => Or.inl h)), ?_⟩
          · unfold f_X6_endLine
            rw [hPC'.1, ocs, if_pos ho, x1, cl0s, u1, cl0s, cl1s, cl1s, if_neg (by decide)]
            have z1' := z1
            unfold f_X6_take at z1'
            rw [z1', cl1s]
            rcases z5 with ⟨h, _⟩ | ⟨h, _⟩
            · rw [h, if_neg (by decide)]
            · rw [h, if_pos rfl]
          · rw [u2, cl0s]
            exact z2
          · rcases z5 with ⟨h, tk3, p3, nx3, v3, hG3⟩ | ⟨h, h1, h2⟩
            · refine Or.inl ⟨h, by rw [hG3.2.2.2.2.1.2.2.2.1]; decide, v2 + 2, tk3, p3, nx3, v3, hG3, by rw [ev _ _ (by omega)]; exact x2, by rw [ev _ _ (by omega)]; exact x3, ?_⟩
              rw [ev _ _ (by omega), x4, et _ _ (by omega), et _ _ (by omega), gv_at, gv_ne (by omega), e232]
              exact Or.inr (Or.inr ⟨v2, q1, rfl, rfl, rfl, rfl⟩)
            · exact Or.inr ⟨h, h1, h2⟩
        · obtain ⟨S', T', x1, x2, x3, x4, x5, x6, x7⟩ := bothBad y3
          rw [if_neg (show ¬ nI tk2 = 25 from ne_n (b := 25) c5 (by omega) (by omega)), x1, cl1s, cl1s, if_pos rfl, if_neg (fun e => c5 (s2'.mp e)), x2, cl0s]
          unfold f_X11_readAct_j98
          rw [if_neg x5]
          exact ⟨0, S', T', rfl, rfl, kS0.tr (x6.mo (fun a i h => Or.inl h)), kT0.tr (x7.mo (fun a i h => Or.inl h)), Or.inr ⟨rfl, x3, x5⟩⟩
      · obtain ⟨S', T', x1, x2, x3, x4, x5, x6, x7⟩ := bothBad hG
        rw [if_neg (show ¬ nI tk = 4 from ne_n (b := 4) c4 (by omega) (by omega)), x1, cl1s, cl1s, if_pos rfl, cl1s, if_pos rfl, if_neg c4, if_pos rfl, w2, wIs hs (by omega), cl0s, if_neg c2, if_pos rfl, w3, wIs hs (by omega), cl0s, if_neg c3, if_pos rfl, x2, cl0s]
        unfold f_X11_readAct_j37
        rw [if_neg x5]
        exact ⟨0, S', T', rfl, rfl, x6.mo (fun a i h => Or.inl h), x7.mo (fun a i h => Or.inl h), Or.inr ⟨rfl, x3, x5⟩⟩
end
end LINE
