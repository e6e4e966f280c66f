section PARSE
def PC (S : St) (o : Nat) (C : List (Nat × Nat)) (ops : Nat) : Prop := gr S 110 3 = some o ∧ gv S o 4 = nI C.length ∧ (∀ i c v, C[i]? = some (c, v) → gv S (o + 10) i = tokc c v ∧ cok c v) ∧ gv S 110 4 = nI ops ∧ gv S 110 0 = 0 ∧ gv S 110 1 = -1
def wPc (o : Nat) (a j : Nat) : Prop := (a = 110 ∧ (j = 0 ∨ j = 1 ∨ j = 4)) ∨ (a = o ∧ j = 4) ∨ a = o + 10 ∨ wLc a j
def wPg (a j : Nat) : Prop := wPf a j ∨ wLr a j
def mu (n tk nx : Nat) : Nat := n - nx + (if tk = 27 then 0 else 1)
def G (b : Nat → Nat) (n o : Nat) (S T : St) (tk p nx v : Nat) (C R : List (Nat × Nat)) (Q : List Nat) (ops : Nat) : Prop := TC S b n ∧ TR T b n ∧ LT S T tk p nx v ∧ PC S o C ops ∧ PF T R Q ops ∧ p ≤ nx ∧ nx ≤ n ∧ (tk ≠ 27 → p < nx) ∧ (tk = 27 → p = n ∧ nx = n) ∧ R.length + Q.length ≤ p ∧ ops ≤ 80 ∧ ops = vals C ∧ ∀ q ∈ Q, q < 100
def Bad (S T : St) : Prop := ∃ f p : Nat, 1 ≤ f ∧ f ≤ 3 ∧ gv S 110 0 = nI f ∧ gv T 200 38 = nI f ∧ gv S 110 1 = nI p ∧ gv T 200 39 = nI p
theorem PC.kp {w : Nat → Nat → Prop} {S S' : St} {o : Nat} {C : List (Nat × Nat)} {ops : Nat} (h : PC S o C ops) (k : Kp w S S') (h1 : ¬ w o 4) (h2 : ∀ j, ¬ w (o + 10) j) (h3 : ¬ w 110 4) (h4 : ¬ w 110 0) (h5 : ¬ w 110 1) : PC S' o C ops := by
  unfold PC at h ⊢
  rw [k.2, k.1 _ _ h1, k.1 _ _ h3, k.1 _ _ h4, k.1 _ _ h5]
  exact ⟨h.1, h.2.1, fun i c v hi => by rw [k.1 _ _ (h2 i)]; exact h.2.2.1 i c v hi, h.2.2.2⟩
theorem run_app : ∀ (A B : List (Nat × Nat)) (d e : Nat), run A d = some e → run (A ++ B) d = run B e
  | [], B, d, e, h => by rw [← Option.some.inj h]; rfl
  | x :: A, B, d, e, h => by
    simp only [run, List.cons_append] at h ⊢
    cases hx : run1 x.1 d with
    | none => rw [hx] at h; cases h
    | some y =>
      rw [hx] at h
      exact run_app A B y e h
section
variable {N n o : Nat} {L : List Nat} {b : Nat → Nat} {S T : St} {tk p nx v ops : Nat} {C R : List (Nat × Nat)} {Q : List Nat}
/-- both lexers go on -/
theorem adv (hN : 1000 ≤ N) (hb : ∀ i, b i < 256) (hn : n ≤ 500) (ho : 70 ≤ o ∧ o < 77) (hS : TC S b n) (hT : TR T b n) (h5 : gv S 111 5 = nI nx) (h40 : gv T 200 40 = nI nx) (hC : PC S o C ops) (hF : PF T R Q ops) (hx : nx ≤ n) (hl : R.length + Q.length ≤ nx) (h80 : ops ≤ 80) (hv : ops = vals C) (hq : ∀ q ∈ Q, q < 100) (htk : tk ≠ 27) (h27 : 0 < nx) : ∃ tk' p' nx' v' S' T', f_X3_advance N S = some S' ∧ f_X11_next N T = some T' ∧ G b n o S' T' tk' p' nx' v' C R Q ops ∧ mu n tk' nx' + 1 ≤ mu n tk nx ∧ Kp wLc S S' ∧ Kp wLr T T' := by
  obtain ⟨tk', p', nx', v', S', T', x1, x2, x3, x4, x5, x6, x7, x8, x9, x10, x11, x12⟩ := lex_step hN hb hn hS hT h5 h40 hx
  refine ⟨tk', p', nx', v', S', T', x1, x2, ⟨x5, x6, x7, hC.kp x3 (by unfold wLc; omega) (fun j => by unfold wLc; omega) (by unfold wLc; omega) (by unfold wLc; omega) (by unfold wLc; omega), hF.kp x4 (fun a j h => by unfold wPf at h; unfold wLr; omega), x9, x10, x11, x12, by omega, h80, hv, hq⟩, ?_, x3, x4⟩
  unfold mu
  rw [if_neg htk]
  by_cases c : tk' = 27
  · rw [if_pos c]; omega
  · rw [if_neg c]
    have := x11 c
    omega
theorem refuse_n {f : Nat} (h0 : gv S 111 0 = nI tk) (h1 : gv S 111 1 = nI p) : ∃ S', f_X6_refuseFor S (nI f) = some (0, S') ∧ gv S' 110 0 = nI f ∧ gv S' 110 1 = nI p ∧ Kp (wPc o) S S' := by
  unfold f_X6_refuseFor
  rw [bnE, gv_ne (by omega), h1, bnE]
  exact ⟨_, rfl, by rw [gv_nk (by omega), gv_at], gv_at, (Kp.rf.sv (Or.inl ⟨rfl, by omega⟩)).sv (Or.inl ⟨rfl, by omega⟩)⟩
theorem refuse_c (h0 : gv S 111 0 = nI tk) (h1 : gv S 111 1 = nI p) (ht : tk ≤ 28) : ∃ S', f_X6_refuse S = some (0, S') ∧ gv S' 110 0 = nI (if tk = 28 then 1 else 2) ∧ gv S' 110 1 = nI p ∧ Kp (wPc o) S S' := by
  unfold f_X6_refuse
  rw [h0]
  by_cases c : tk = 28
  · obtain ⟨S', x1, x2, x3, x4⟩ := refuse_n (f := 1) (o := o) h0 h1
    rw [if_pos (show nI tk = 28 by rw [c]; rfl), show (1 : Int32) = nI 1 from rfl, x1, cl1s, if_pos c]
    exact ⟨S', rfl, x2, x3, x4⟩
  · obtain ⟨S', x1, x2, x3, x4⟩ := refuse_n (f := 2) (o := o) h0 h1
    rw [if_neg (show ¬ nI tk = 28 from ne_n (b := 28) c (by omega) (by omega)), show (2 : Int32) = nI 2 from rfl, x1, cl1s, if_neg c]
    exact ⟨S', rfl, x2, x3, x4⟩
theorem wrong_n {f : Nat} (hs : SRt tk T) (h43 : gv T 200 43 = nI p) (h38 : gv T 200 38 = 0) : ∃ T', f_X11_wrong T (nI f) = some T' ∧ gv T' 200 38 = nI (if tk = 28 then 1 else f) ∧ gv T' 200 39 = nI p ∧ Kp wPf T T' := by
  unfold f_X11_wrong
  rw [h38, if_pos (by decide)]
  have s3 := (srt hs).2.2.2.1
  by_cases c : tk = 28
  · rw [if_pos (s3.mpr c), bnE, gv_nk (by omega), h43, bnE, if_pos c]
    exact ⟨_, rfl, by rw [gv_nk (by omega), gv_at]; rfl, gv_at, (Kp.rf.sv (Or.inl ⟨rfl, by omega⟩)).sv (Or.inl ⟨rfl, by omega⟩)⟩
  · rw [if_neg (fun h => c (s3.mp h)), bnE, gv_nk (by omega), h43, bnE, if_neg c]
    exact ⟨_, rfl, by rw [gv_nk (by omega), gv_at], gv_at, (Kp.rf.sv (Or.inl ⟨rfl, by omega⟩)).sv (Or.inl ⟨rfl, by omega⟩)⟩
theorem cell_n' {x : Int32} {c w : Nat} (ho : 70 ≤ o ∧ o < 77) (hC : PC S o C ops) (hl : C.length < 500) (hx : x = tokc c w) (hk : cok c w) : ∃ S', f_X5_addCell S o x = some S' ∧ PC S' o (C ++ [(c, w)]) ops ∧ Kp (wPc o) S S' := by
  obtain ⟨h1, h2, h3, h4, h5, h6⟩ := hC
  unfold f_X5_addCell
  rw [h2, n500 hl, if_neg (in_ok hl (by omega)), ix_nI (by omega), bnE, gv_ne (by omega), h2, nl_add1, bnE]
  refine ⟨_, rfl, ⟨h1, by rw [gv_at, List.length_append]; rfl, fun i c' v' hi => ?_, by rw [gv_ne (by omega), gv_ne (by omega)]; exact h4, by rw [gv_ne (by omega), gv_ne (by omega)]; exact h5, by rw [gv_ne (by omega), gv_ne (by omega)]; exact h6⟩, (Kp.rf.sv (Or.inr (Or.inr (Or.inl rfl)))).sv (Or.inr (Or.inl ⟨rfl, rfl⟩))⟩
  rw [gv_ne (by omega)]
  rcases get_snoc hi with ⟨a1, a2⟩ | ⟨a1, a2⟩
  · rw [gv_nk (by omega)]; exact h3 i c' v' a2
  · subst a1
    cases a2
    rw [gv_at]
    exact ⟨hx, hk⟩
theorem write_n {t c : Nat} (ho : oko L o) (hC : PC S o C ops) (hl : C.length < 500) (hx : (-1 : Int32) - nI t = tokc c 0) (hk : cok c 0) : ∃ S', f_X6_write L S (nI t) = some (1, S') ∧ PC S' o (C ++ [(c, 0)]) ops ∧ Kp (wPc o) S S' := by
  obtain ⟨S', x1, x2, x3⟩ := cell_n' (x := (-1) - nI t) (c := c) (w := 0) ⟨ho.1, ho.2.1⟩ hC hl hx hk
  unfold f_X6_write
  rw [hC.1, ocs, if_pos ho, x1, cl0s]
  exact ⟨S', rfl, x2, x3⟩
/-- the loop of the reference -/
theorem loopO {K : St → Option St} {fuel m : Nat} (h38 : gv T 200 38 = 0) (hm : m = 0 ∨ m = 1) : f_X11_readE_l12 N K (fuel + 1) T (nI m) = cl1 (f_X11_operand N T (nI m)) fun r_7 S_8 => f_X11_readE_l12 N K fuel S_8 r_7 := by
  have : ¬ nI m = 2 := ne_n (b := 2) (by omega) (by omega) (by omega)
  rw [f_X11_readE_l12, if_pos h38, if_neg this, if_neg this]
theorem loopS {K : St → Option St} {fuel : Nat} (hN : 1000 ≤ N) (hF : PF T R Q ops) (hs : SRt tk T) (hQ : Q.length < 400) (hq : ∀ x ∈ Q, x < 100) (h1 : tk ≠ 1 ∨ 48 ∈ Q) : f_X11_readE_l12 N K (fuel + 1) T (nI 2) = cl1 (f_X11_sign N T) fun r_7 S_8 => f_X11_readE_l12 N K fuel S_8 r_7 := by
  have e1 : (25711 : Int64) = Int64.ofNat (pk (Wo 1)) := by decide
  rw [f_X11_readE_l12, if_pos hF.2.2.2.1, if_pos (show nI 2 = 2 from rfl), if_pos (show nI 2 = 2 from rfl), e1, wIs hs (by omega), cl0s]
  by_cases c : tk = 1
  · rw [if_pos c, if_neg (by decide)]
    obtain ⟨r, r1, r2⟩ := open_n hN hF hQ hq
    rcases r2 with ⟨r3, _⟩ | ⟨_, r4⟩
    · rw [r1, cl0s, r3, if_neg (by decide)]
    · rcases h1 with h | h
      · exact absurd c h
      · exact absurd h r4
  · rw [if_neg c, if_pos rfl]
theorem loopK {K : St → Option St} {fuel : Nat} (hN : 1000 ≤ N) (hF : PF T R Q ops) (hs : SRt tk T) (hQ : Q.length < 400) (hq : ∀ x ∈ Q, x < 100) (h1 : tk = 1) (h8 : 48 ∉ Q) : f_X11_readE_l12 N K (fuel + 1) T (nI 2) = K T := by
  have e1 : (25711 : Int64) = Int64.ofNat (pk (Wo 1)) := by decide
  rw [f_X11_readE_l12, if_pos hF.2.2.2.1, if_pos (show nI 2 = 2 from rfl), e1, wIs hs (by omega), cl0s, if_pos h1, if_neg (by decide)]
  obtain ⟨r, r1, r2⟩ := open_n hN hF hQ hq
  rcases r2 with ⟨_, r4⟩ | ⟨r3, _⟩
  · exact absurd r4 h8
  · rw [r1, cl0s, r3, if_pos rfl]
theorem loopB {K : St → Option St} {fuel f : Nat} {x : Int32} (h38 : gv T 200 38 = nI f) (hf : 1 ≤ f ∧ f ≤ 3) : f_X11_readE_l12 N K (fuel + 1) T x = K T := by
  rw [f_X11_readE_l12, h38, if_neg (show ¬ nI f = 0 from ne_n (b := 0) (by omega) (by omega) (by omega))]
end
end PARSE
