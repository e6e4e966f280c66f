section LEXN
def nextK (N : Nat) (S_9 : St) : Option St := bn (sv S_9 200 43 (gv S_9 200 40)) fun S_10 => cl0 (f_X11_here S_10 0) fun r_12 => bn (sl S_10 200 0) fun S_13 => bn (sv S_13 200 44 0) fun S_14 => if 0 ≤ r_12 then (cl0 (f_X11_isLetter S_14 r_12) fun r_17 => if r_17 = 0 then (cl0 (f_X11_isDigit S_14 r_12) fun r_21 => if r_21 = 0 then (cl0 (f_X11_isSign S_14 r_12) fun r_25 => if r_25 = 0 then (bn (sv S_14 200 42 3) fun S_28 => if (gv S_28 200 42) = 3 then (some S_28) else (bn (sv S_28 200 40 ((gv S_28 200 40) + 1)) fun S_30 => some S_30)) else (bn (sv S_14 200 42 r_12) fun S_31 => if (gv S_31 200 42) = 3 then (some S_31) else (bn (sv S_31 200 40 ((gv S_31 200 40) + 1)) fun S_33 => some S_33))) else (f_X11_next_l144 N (fun S_46 x_47 => if 6 < x_47 then (f_X11_next_j205 N S_46 x_47) else (cl0 (f_X11_here S_46 x_47) fun r_53 => cl0 (f_X11_isLetter S_46 r_53) fun r_55 => if r_55 = 0 then (bn (sv S_46 200 42 2) fun S_58 => if (gv S_58 200 42) = 3 then (some S_58) else (bn (sv S_58 200 40 ((gv S_58 200 40) + x_47)) fun S_60 => some S_60)) else (f_X11_next_j205 N S_46 x_47))) N S_14 0)) else (f_X11_next_l78 N (fun S_73 x_74 => if x_74 ≤ 8 then (bn (sv S_73 200 42 1) fun S_76 => if (gv S_76 200 42) = 3 then (some S_76) else (bn (sv S_76 200 40 ((gv S_76 200 40) + x_74)) fun S_78 => some S_78)) else (bn (sv S_73 200 42 3) fun S_79 => if (gv S_79 200 42) = 3 then (some S_79) else (bn (sv S_79 200 40 ((gv S_79 200 40) + x_74)) fun S_81 => some S_81))) N S_14 0)) else (bn (sv S_14 200 42 0) fun S_82 => if (gv S_82 200 42) = 3 then (some S_82) else (bn (sv S_82 200 40 ((gv S_82 200 40) + 0)) fun S_84 => some S_84))
theorem next_eq {N : Nat} {S : St} : f_X11_next N S = f_X11_next_l0 N (nextK N) N S := rfl
def SRt (tk : Nat) (T : St) : Prop := (tk < 17 ∧ gv T 200 42 = 1 ∧ gl T 200 = Int64.ofNat (pk (Wo tk))) ∨ (tk = 26 ∧ gv T 200 42 = 1 ∧ ∃ wd, lets wd ∧ gl T 200 = Int64.ofNat (pk wd) ∧ ∀ i, i < 17 → wd ≠ Wo i) ∨ (17 ≤ tk ∧ tk ≤ 24 ∧ gv T 200 42 = nI (sg.getD (tk - 17) 0)) ∨ (tk = 25 ∧ gv T 200 42 = 2) ∨ (tk = 27 ∧ gv T 200 42 = 0) ∨ (tk = 28 ∧ gv T 200 42 = 3)
def LT (S T : St) (tk p nx v : Nat) : Prop := gv S 111 0 = nI tk ∧ gv S 111 1 = nI p ∧ gv S 111 5 = nI nx ∧ (tk = 25 → v ≤ 999999 ∧ gv S 111 2 = nI v ∧ gv T 200 44 = nI v) ∧ gv T 200 43 = nI p ∧ (tk ≠ 28 → gv T 200 40 = nI nx) ∧ SRt tk T
def wLc (a j : Nat) : Prop := a = 111 ∧ (j = 0 ∨ j = 1 ∨ j = 2 ∨ j = 5)
def wLr (a j : Nat) : Prop := a = 200 ∧ (j = 40 ∨ j = 42 ∨ j = 43 ∨ j = 44)
section
variable {N n : Nat} {b : Nat → Nat}
theorem ft {T : St} {x y : Int32} : (bn (sv T 200 42 y) fun S => if gv S 200 42 = 3 then some S else bn (sv S 200 40 (gv S 200 40 + x)) fun S2 => some S2) = if y = 3 then some (sv T 200 42 y) else some (sv (sv T 200 42 y) 200 40 (gv T 200 40 + x)) := by
  rw [bnE, gv_at, gv_nk (by omega), bnE]
def isSg (x : Nat) : Prop := x = 59 ∨ x = 60 ∨ x = 62 ∨ x = 61 ∨ x = 43 ∨ x = 45 ∨ x = 40 ∨ x = 41
theorem sg_iff {x : Nat} : (∃ j, j < 8 ∧ sg.getD j 0 = x) ↔ isSg x := by
  constructor
  · rintro ⟨j, h1, h2⟩
    have hj8 : j = 0 ∨ j = 1 ∨ j = 2 ∨ j = 3 ∨ j = 4 ∨ j = 5 ∨ j = 6 ∨ j = 7 := by omega
    unfold isSg
    rcases hj8 with rfl | rfl | rfl | rfl | rfl | rfl | rfl | rfl <;> simp [sg] at h2 <;> omega
  · rintro (h | h | h | h | h | h | h | h)
    · exact ⟨0, by omega, h.symm⟩
    · exact ⟨1, by omega, h.symm⟩
    · exact ⟨2, by omega, h.symm⟩
    · exact ⟨3, by omega, h.symm⟩
    · exact ⟨4, by omega, h.symm⟩
    · exact ⟨5, by omega, h.symm⟩
    · exact ⟨6, by omega, h.symm⟩
    · exact ⟨7, by omega, h.symm⟩
theorem sgn_all {x : Nat} {U : St} (hx : x < 256) : (isSg x → f_X11_isSign U (nI x) = some 1) ∧ (¬ isSg x → f_X11_isSign U (nI x) = some 0) := by
  unfold f_X11_isSign
  rw [show (59 : Int32) = nI 59 from rfl, show (61 : Int32) = nI 61 from rfl, show (60 : Int32) = nI 60 from rfl, show (62 : Int32) = nI 62 from rfl, show (43 : Int32) = nI 43 from rfl, show (45 : Int32) = nI 45 from rfl, show (40 : Int32) = nI 40 from rfl, show (41 : Int32) = nI 41 from rfl, ite_eq (by omega) (by omega), ite_eq (by omega) (by omega), ite_eq (by omega) (by omega), ite_eq (by omega) (by omega), ite_eq (by omega) (by omega), ite_eq (by omega) (by omega), ite_eq (by omega) (by omega), ite_eq (by omega) (by omega)]
  unfold isSg
  constructor
  · rintro (h | h | h | h | h | h | h | h) <;> simp [h]
  · intro h
    rw [if_neg (by omega), if_neg (by omega), if_neg (by omega), if_neg (by omega), if_neg (by omega), if_neg (by omega), if_neg (by omega), if_neg (by omega)]
/-- the token that begins at p: both sides -/
theorem tok_at {S T : St} {p : Nat} (hN : 1000 ≤ N) (hb : ∀ i, b i < 256) (hn : n ≤ 500) (hS : TC S b n) (hT : TR T b n) (h5 : gv S 111 5 = nI p) (h40 : gv T 200 40 = nI p) (hp : p ≤ n) (hbl : p < n → b p ≠ 32 ∧ b p ≠ 10) : ∃ tk nx v S' T', f_X3_advance_j38 N S = some S' ∧ nextK N T = some T' ∧ Kp wLc S S' ∧ Kp wLr T T' ∧ LT S' T' tk p nx v ∧ nx ≤ n ∧ (tk ≠ 27 → p < nx) ∧ (tk = 27 → p = n ∧ nx = n) := by
  have k1 : Kp wLc S (sv S 111 1 (nI p)) := Kp.rf.sv ⟨rfl, by omega⟩
  have hS1 : TC (sv S 111 1 (nI p)) b n := hS.kp k1 (fun j => by unfold wLc; omega) (by unfold wLc; omega)
  have h51 : gv (sv S 111 1 (nI p)) 111 5 = nI p := by rw [gv_nk (by omega)]; exact h5
  have j38 : f_X3_advance_j38 N S = if p < n then (if 97 ≤ cc b n p ∧ cc b n p ≤ 122 then f_X3_scanWord N (sv S 111 1 (nI p)) else if 48 ≤ cc b n p ∧ cc b n p ≤ 57 then f_X3_scanNumber N (sv S 111 1 (nI p)) else f_X3_scanSign N (sv S 111 1 (nI p)) (nI (cc b n p))) else some (sv (sv S 111 1 (nI p)) 111 0 27) := by
    have hcl := cc_lt (n := n) (i := p) hb
    unfold f_X3_advance_j38
    rw [h5, bnE, h51, byte_n hb hn hS1 (by omega), cl0s, hS1.1, ite_lt (by omega) (by omega), (let_n (T := S) (by omega)).1, cl0s, (dig_n (T := S) (by omega)).1, cl0s, ch16 _ hcl, bnE]
    by_cases c : p < n
    · rw [if_pos c, if_pos c]
      by_cases c1 : 97 ≤ cc b n p ∧ cc b n p ≤ 122
      · rw [if_pos c1, if_neg (by decide), if_pos c1]
        cases f_X3_scanWord N (sv S 111 1 (nI p)) <;> rfl
      · rw [if_neg c1, if_pos rfl, if_neg c1]
        by_cases c2 : 48 ≤ cc b n p ∧ cc b n p ≤ 57
        · rw [if_pos c2, if_neg (by decide), if_pos c2]
          cases f_X3_scanNumber N (sv S 111 1 (nI p)) <;> rfl
        · rw [if_neg c2, if_pos rfl, if_neg c2]
          cases f_X3_scanSign N (sv S 111 1 (nI p)) (nI (cc b n p)) <;> rfl
    · rw [if_neg c, if_neg c]
  generalize hT1 : sv (sl (sv T 200 43 (nI p)) 200 0) 200 44 0 = T1
  have kT1 : Kp wLr T T1 := by
    rw [← hT1]
    exact ((Kp.rf.sv ⟨rfl, by omega⟩).sl).sv ⟨rfl, by omega⟩
  have hT1t : TR T1 b n := hT.kp kT1 (fun j => by unfold wLr; omega) (by unfold wLr; omega)
  have h401 : gv T1 200 40 = nI p := by
    rw [← hT1, gv_nk (by omega), gv_sl, gv_nk (by omega)]; exact h40
  have h431 : gv T1 200 43 = nI p := by
    rw [← hT1, gv_nk (by omega), gv_sl, gv_at]
  have hgl1 : gl T1 200 = 0 := by rw [← hT1]; rfl
  have h441 : gv T1 200 44 = 0 := by rw [← hT1, gv_at]
  have hTa : TR (sv T 200 43 (nI p)) b n := hT.kp (w := wLr) (Kp.rf.sv ⟨rfl, by omega⟩) (fun j => by unfold wLr; omega) (by unfold wLr; omega)
  have h40a : gv (sv T 200 43 (nI p)) 200 40 = nI p := by rw [gv_nk (by omega)]; exact h40
  rw [j38]
  by_cases c : p < n
  · rw [if_pos c]
    have hcc : cc b n p = b p := by unfold cc; rw [if_pos c]
    have hbp := hb p
    have hh : f_X11_here (sv T 200 43 (nI p)) 0 = some (nI (b p)) := by
      have := here_n (k := 0) hn hTa h40a (by omega)
      rw [Nat.add_zero, if_pos c] at this
      exact this
    rw [hcc]
    by_cases c1 : 97 ≤ b p ∧ b p ≤ 122
    · rw [if_pos c1]
      obtain ⟨e, S2, hr, x1, x2, x3⟩ := word_c (N := N) (K := fun S_9 => if ((gv S_9 111 5) - (gv S_9 111 1)) ≤ 8 then (cl0 (f_X3_wordToken N S_9) fun r_12 => bn (sv S_9 111 0 r_12) fun S_13 => some S_13) else (bn (sv S_9 111 0 28) fun S_14 => some S_14)) hb hn (n - p) p N (sv S 111 1 (nI p)) (by omega) (by omega) hS1 h51
      obtain ⟨T2, y1, y2, y3, y4⟩ := word_r (N := N) (K3 := fun S_73 x_74 => if x_74 ≤ 8 then (bn (sv S_73 200 42 1) fun S_76 => if (gv S_76 200 42) = 3 then (some S_76) else (bn (sv S_76 200 40 ((gv S_76 200 40) + x_74)) fun S_78 => some S_78)) else (bn (sv S_73 200 42 3) fun S_79 => if (gv S_79 200 42) = 3 then (some S_79) else (bn (sv S_79 200 40 ((gv S_79 200 40) + x_74)) fun S_81 => some S_81))) hb hn hr (e - p) 0 N T1 (by have := hr.1; omega) (by have := hr.2.1; omega) hT1t h401 (by rw [hgl1]; rfl)
      have hpe : p < e := by
        obtain ⟨r1, r2, r3, r4⟩ := hr
        apply Nat.lt_of_le_of_ne r1
        intro h
        rw [← h, hcc] at r4
        exact r4 c1
      have hen := hr.2.1
      have kS2 : Kp wLc S S2 := k1.tr (x3.mo (fun a j h => ⟨h.1, by omega⟩))
      have pS2 : gv S2 111 1 = nI p := by rw [x3.1 _ _ (by omega), gv_at]
      have hS2 : TC S2 b n := hS.kp kS2 (fun j => by unfold wLc; omega) (by unfold wLc; omega)
      have cls : f_X3_scanWord N (sv S 111 1 (nI p)) = if e - p ≤ 8 then (cl0 (f_X3_wordToken N S2) fun r_12 => some (sv S2 111 0 r_12)) else some (sv S2 111 0 28) := by
        unfold f_X3_scanWord
        rw [x1, x2, pS2, nI_sub' (by omega), show (8 : Int32) = nI 8 from rfl, ite_le (by omega) (by omega)]
        rfl
      have kT2 : Kp wLr T T2 := ⟨fun a j h => by rw [y3, kT1.1 a j h], fun a j => by rw [y4, kT1.2]⟩
      have rfs : nextK N T = if e - p ≤ 8 then some (sv (sv T2 200 42 1) 200 40 (nI e)) else some (sv T2 200 42 3) := by
        unfold nextK
        rw [h40, bnE, hh, cl0s, bnE, bnE, hT1, if_pos (show (0 : Int32) ≤ nI (b p) from le_n (a := 0) (by omega) (by omega)), (let_n (S := T) (by omega)).2, cl0s, if_pos c1, if_neg (by decide)]
        refine Eq.trans y1 ?_
        rw [show (8 : Int32) = nI 8 from rfl, ite_le (by omega) (by omega), ft, ft, if_neg (show ¬ (1 : Int32) = 3 by decide), if_pos (show (3 : Int32) = 3 from rfl), y3, h401, nI_add, show p + (e - p) = e by omega]
      rw [cls, rfs]
      by_cases c8 : e - p ≤ 8
      · rw [if_pos c8, if_pos c8]
        obtain ⟨tk, z1, z2⟩ := w2 hN hn hS2 hr pS2 x2 c8 hb 17 0 N (by omega) (by omega) (fun j hj => by omega)
        have z3 : f_X3_wordToken N S2 = some (nI tk) := z1
        rw [z3, cl0s]
        have hls : lets (seg b p (e - p)) := ⟨by rw [seg_len]; exact c8, fun x hx => by
          obtain ⟨t, h7, h8⟩ := seg_mem _ x hx
          rw [h8]; exact hr.2.2.1 _ (by omega) (by omega)⟩
        have htk : tk ≠ 25 ∧ tk ≠ 27 ∧ tk ≠ 28 := by rcases z2 with ⟨h, _⟩ | ⟨h, _⟩ <;> omega
        rw [show min (e - p) 8 = e - p by omega] at y2
        refine ⟨tk, e, 0, _, _, rfl, rfl, kS2.sv ⟨rfl, by omega⟩, (kT2.sv ⟨rfl, by omega⟩).sv ⟨rfl, by omega⟩, ⟨gv_at, by rw [gv_nk (by omega)]; exact pS2, by rw [gv_nk (by omega)]; exact x2, fun h => by omega, by rw [gv_nk (by omega), gv_nk (by omega), y3]; exact h431, fun _ => gv_at, ?_⟩, hen, fun _ => hpe, fun h => by omega⟩
        have s1 : gv (sv (sv T2 200 42 1) 200 40 (nI e)) 200 42 = 1 := by rw [gv_nk (by omega), gv_at]
        rcases z2 with ⟨h, h'⟩ | ⟨h, h'⟩
        · exact Or.inl ⟨h, s1, by rw [← h']; exact y2⟩
        · exact Or.inr (Or.inl ⟨h, s1, _, hls, y2, h'⟩)
      · rw [if_neg c8, if_neg c8]
        exact ⟨28, e, 0, _, _, rfl, rfl, kS2.sv ⟨rfl, by omega⟩, kT2.sv ⟨rfl, by omega⟩, ⟨gv_at, by rw [gv_nk (by omega)]; exact pS2, by rw [gv_nk (by omega)]; exact x2, fun h => by omega, by rw [gv_nk (by omega), y3]; exact h431, fun h => absurd rfl h, Or.inr (Or.inr (Or.inr (Or.inr (Or.inr ⟨rfl, gv_at⟩))))⟩, hen, fun _ => hpe, fun h => by omega⟩
    · rw [if_neg c1]
      by_cases c2 : 48 ≤ b p ∧ b p ≤ 57
      · rw [if_pos c2]
        have k2 : Kp wLc S (sv (sv S 111 1 (nI p)) 111 2 0) := k1.sv ⟨rfl, by omega⟩
        obtain ⟨e, S2, hr, _, x1, x2, x2v, x3⟩ := num_c (N := N) (K := fun S_13 => f_X3_scanNumber_j66 N S_13) hb hn (a := p) (n - p) 0 N (sv (sv S 111 1 (nI p)) 111 2 0) (by omega) (by omega) (hS.kp k2 (fun j => by unfold wLc; omega) (by unfold wLc; omega)) (by rw [gv_nk (by omega)]; exact h51) gv_at (fun i h1 h2 => by omega)
        obtain ⟨T2, y1, y2, y3⟩ := numl_r (N := N) (K3 := fun S_46 x_47 => if 6 < x_47 then (f_X11_next_j205 N S_46 x_47) else (cl0 (f_X11_here S_46 x_47) fun r_53 => cl0 (f_X11_isLetter S_46 r_53) fun r_55 => if r_55 = 0 then (bn (sv S_46 200 42 2) fun S_58 => if (gv S_58 200 42) = 3 then (some S_58) else (bn (sv S_58 200 40 ((gv S_58 200 40) + x_47)) fun S_60 => some S_60)) else (f_X11_next_j205 N S_46 x_47))) hb hn hr (e - p) 0 N T1 (by have := hr.1; omega) (by have := hr.2.1; omega) hT1t h401 (by rw [h441]; rfl)
        have hpe : p < e := by
          obtain ⟨r1, r2, r3, r4⟩ := hr
          apply Nat.lt_of_le_of_ne r1
          intro h
          rw [← h, hcc] at r4
          exact r4 c2
        have hen := hr.2.1
        have kS2 : Kp wLc S S2 := k2.tr (x3.mo (fun a j h => ⟨h.1, by omega⟩))
        have pS2 : gv S2 111 1 = nI p := by rw [x3.1 _ _ (by omega), gv_nk (by omega), gv_at]
        have hS2 : TC S2 b n := hS.kp kS2 (fun j => by unfold wLc; omega) (by unfold wLc; omega)
        have hce := cc_lt (n := n) (i := e) hb
        have kT2 : Kp wLr T T2 := kT1.tr (y3.mo (fun a j h => ⟨h.1, by omega⟩))
        have hT2 : TR T2 b n := hT.kp kT2 (fun j => by unfold wLr; omega) (by unfold wLr; omega)
        have h402 : gv T2 200 40 = nI p := by rw [y3.1 _ _ (by omega)]; exact h401
        have h432 : gv T2 200 43 = nI p := by rw [y3.1 _ _ (by omega)]; exact h431
        have cls : f_X3_scanNumber N (sv S 111 1 (nI p)) = if 6 < e - p ∨ (97 ≤ cc b n e ∧ cc b n e ≤ 122) then some (sv S2 111 0 28) else some (sv S2 111 0 25) := by
          unfold f_X3_scanNumber
          rw [bnE, x1]
          unfold f_X3_scanNumber_j66
          rw [x2, pS2, nI_sub' (by omega), show (6 : Int32) = nI 6 from rfl, ite_lt (by omega) (by omega), byte_n hb hn hS2 (by omega), cl0s, (let_n (T := S) (by omega)).1, cl0s, bnE, bnE]
          by_cases d1 : 6 < e - p
          · rw [if_pos d1, if_pos (Or.inl d1)]
          · rw [if_neg d1]
            by_cases d2 : 97 ≤ cc b n e ∧ cc b n e ≤ 122
            · rw [if_pos d2, if_neg (by decide), if_pos (Or.inr d2)]
            · rw [if_neg d2, if_pos rfl, if_neg (by omega)]
        obtain ⟨rr, q1, q2, _, _⟩ := rlet (k := e - p) hb hn hT2 h402 (by omega)
        rw [show p + (e - p) = e by omega] at q2
        have rfs : nextK N T = if 6 < e - p ∨ (97 ≤ cc b n e ∧ cc b n e ≤ 122) then some (sv T2 200 42 3) else some (sv (sv T2 200 42 2) 200 40 (nI e)) := by
          unfold nextK
          rw [h40, bnE, hh, cl0s, bnE, bnE, hT1, if_pos (show (0 : Int32) ≤ nI (b p) from le_n (a := 0) (by omega) (by omega)), (let_n (S := T) (by omega)).2, cl0s, if_neg c1, if_pos rfl, (dig_n (S := T) (by omega)).2, cl0s, if_pos c2, if_neg (by decide)]
          refine Eq.trans y1 ?_
          unfold f_X11_next_j205
          rw [show (6 : Int32) = nI 6 from rfl, ite_lt (by omega) (by omega), q1, cl0s, q2, cl0s, ft, ft, if_pos (show (3 : Int32) = 3 from rfl), if_neg (show ¬ (2 : Int32) = 3 by decide), h402, nI_add, show p + (e - p) = e by omega]
          by_cases d1 : 6 < e - p
          · rw [if_pos d1, if_pos (Or.inl d1)]
          · rw [if_neg d1]
            by_cases d2 : 97 ≤ cc b n e ∧ cc b n e ≤ 122
            · rw [if_pos d2, if_neg (by decide), if_pos (Or.inr d2)]
            · rw [if_neg d2, if_pos rfl, if_neg (by omega)]
        rw [cls, rfs]
        by_cases d : 6 < e - p ∨ (97 ≤ cc b n e ∧ cc b n e ≤ 122)
        · rw [if_pos d, if_pos d]
          exact ⟨28, e, 0, _, _, rfl, rfl, kS2.sv ⟨rfl, by omega⟩, kT2.sv ⟨rfl, by omega⟩, ⟨gv_at, by rw [gv_nk (by omega)]; exact pS2, by rw [gv_nk (by omega)]; exact x2, fun h => by omega, by rw [gv_nk (by omega)]; exact h432, fun h => absurd rfl h, Or.inr (Or.inr (Or.inr (Or.inr (Or.inr ⟨rfl, gv_at⟩))))⟩, hen, fun _ => hpe, fun h => by omega⟩
        · rw [if_neg d, if_neg d]
          rw [show min (e - p) 6 = e - p by omega] at y2
          have hv := dv_b hr.2.2.1 (e - p) (by omega)
          have hv2 : 10 ^ (e - p) ≤ 10 ^ 6 := Nat.pow_le_pow_right (by omega) (by omega)
          have hv3 : (10 : Nat) ^ 6 = 1000000 := by decide
          exact ⟨25, e, dv b p (e - p), _, _, rfl, rfl, kS2.sv ⟨rfl, by omega⟩, (kT2.sv ⟨rfl, by omega⟩).sv ⟨rfl, by omega⟩, ⟨gv_at, by rw [gv_nk (by omega)]; exact pS2, by rw [gv_nk (by omega)]; exact x2, fun _ => ⟨by omega, by rw [gv_nk (by omega)]; exact x2v, by rw [gv_nk (by omega), gv_nk (by omega)]; exact y2⟩, by rw [gv_nk (by omega), gv_nk (by omega)]; exact h432, fun _ => gv_at, Or.inr (Or.inr (Or.inr (Or.inl ⟨rfl, by rw [gv_nk (by omega), gv_at]⟩)))⟩, hen, fun _ => hpe, fun h => by omega⟩
      · rw [if_neg c2]
        obtain ⟨r, z1, z2⟩ := idx_n (N := N) (S := sv S 111 1 (nI p)) hN hbp
        have cls : f_X3_scanSign N (sv S 111 1 (nI p)) (nI (b p)) = if 0 ≤ r then some (sv (sv (sv S 111 1 (nI p)) 111 0 (17 + r)) 111 5 (nI (p + 1))) else some (sv (sv (sv S 111 1 (nI p)) 111 0 28) 111 5 (nI (p + 1))) := by
          unfold f_X3_scanSign
          have g9 : ∀ x, gv (sv (sv S 111 1 (nI p)) 111 0 x) 111 5 = nI p := fun x => by rw [gv_nk (by omega)]; exact h51
          rw [z1, cl0s, bnE, bnE, bnE, bnE, g9, g9, nl_add1]
        have pre : ∀ y, f_X11_isSign T1 (nI (b p)) = some y → nextK N T = if y = 0 then some (sv T1 200 42 3) else (if nI (b p) = 3 then some (sv T1 200 42 (nI (b p))) else some (sv (sv T1 200 42 (nI (b p))) 200 40 (nI (p + 1)))) := by
          intro y hy
          unfold nextK
          rw [h40, bnE, hh, cl0s, bnE, bnE, hT1, if_pos (show (0 : Int32) ≤ nI (b p) from le_n (a := 0) (by omega) (by omega)), (let_n (S := T) (by omega)).2, cl0s, if_neg c1, if_pos rfl, (dig_n (S := T) (by omega)).2, cl0s, if_neg c2, if_pos rfl, hy, cl0s, ft, ft, if_pos (show (3 : Int32) = 3 from rfl), h401, nl_add1]
        have rfs1 : isSg (b p) → nextK N T = some (sv (sv T1 200 42 (nI (b p))) 200 40 (nI (p + 1))) := by
          intro d
          rw [pre 1 ((sgn_all hbp).1 d), if_neg (by decide), if_neg]
          intro h3
          have h4 : b p = 3 := (nl_eq (b := 3) (by omega) (by omega)).mp h3
          unfold isSg at d
          omega
        have rfs0 : ¬ isSg (b p) → nextK N T = some (sv T1 200 42 3) := by
          intro d
          rw [pre 0 ((sgn_all hbp).2 d), if_pos rfl]
        rw [cls]
        rcases z2 with ⟨h, h'⟩ | ⟨j, hj, h, h'⟩
        · rw [h, if_neg (by decide), rfs0 (fun d => by obtain ⟨j, hj, hj2⟩ := sg_iff.mpr d; exact h' j hj hj2)]
          exact ⟨28, p + 1, 0, _, _, rfl, rfl, (k1.sv ⟨rfl, by omega⟩).sv ⟨rfl, by omega⟩, kT1.sv ⟨rfl, by omega⟩, ⟨by rw [gv_nk (by omega), gv_at]; rfl, by rw [gv_nk (by omega), gv_nk (by omega), gv_at], gv_at, fun h => by omega, by rw [gv_nk (by omega)]; exact h431, fun h => absurd rfl h, Or.inr (Or.inr (Or.inr (Or.inr (Or.inr ⟨rfl, gv_at⟩))))⟩, by omega, fun _ => by omega, fun h => by omega⟩
        · rw [h, if_pos (show (0 : Int32) ≤ nI j from le_n (a := 0) (by omega) (by omega)), rfs1 (sg_iff.mp ⟨j, hj, h'⟩)]
          exact ⟨17 + j, p + 1, 0, _, _, rfl, rfl, (k1.sv ⟨rfl, by omega⟩).sv ⟨rfl, by omega⟩, (kT1.sv ⟨rfl, by omega⟩).sv ⟨rfl, by omega⟩, ⟨by rw [gv_nk (by omega), gv_at, show (17 : Int32) = nI 17 from rfl, nI_add], by rw [gv_nk (by omega), gv_nk (by omega), gv_at], gv_at, fun h => by omega, by rw [gv_nk (by omega), gv_nk (by omega)]; exact h431, fun _ => gv_at, Or.inr (Or.inr (Or.inl ⟨by omega, by omega, by rw [gv_nk (by omega), gv_at, show 17 + j - 17 = j by omega, h']⟩))⟩, by omega, fun _ => by omega, fun h => by omega⟩
  · have : p = n := by omega
    subst this
    rw [if_neg c]
    have hh : f_X11_here (sv T 200 43 (nI p)) 0 = some (-1) := by
      have := here_n (k := 0) hn hTa h40a (by omega)
      rw [Nat.add_zero, if_neg c] at this
      exact this
    refine ⟨27, p, 0, _, sv (sv T1 200 42 0) 200 40 (nI p), rfl, ?_, k1.sv ⟨rfl, by omega⟩, (kT1.sv ⟨rfl, by omega⟩).sv ⟨rfl, by omega⟩, ?_, Nat.le_refl _, fun h => absurd rfl h, fun _ => ⟨rfl, rfl⟩⟩
    · unfold nextK
      rw [h40, bnE, hh, cl0s, bnE, bnE, hT1, if_neg (by decide), bnE, gv_at, if_neg (by decide), gv_nk (by omega), h401, bnE, Int32.add_zero]
    · refine ⟨gv_at, by rw [gv_nk (by omega), gv_at], by rw [gv_nk (by omega)]; exact h51, fun h => by omega, by rw [gv_nk (by omega), gv_nk (by omega)]; exact h431, fun _ => gv_at, ?_⟩
      exact Or.inr (Or.inr (Or.inr (Or.inr (Or.inl ⟨rfl, by rw [gv_nk (by omega), gv_at]⟩))))
/-- the lexers' step -/
theorem lex_step {S T : St} {a : Nat} (hN : 1000 ≤ N) (hb : ∀ i, b i < 256) (hn : n ≤ 500) (hS : TC S b n) (hT : TR T b n) (h5 : gv S 111 5 = nI a) (h40 : gv T 200 40 = nI a) (ha : a ≤ n) : ∃ tk p nx v S' T', f_X3_advance N S = some S' ∧ f_X11_next N T = some T' ∧ Kp wLc S S' ∧ Kp wLr T T' ∧ TC S' b n ∧ TR T' b n ∧ LT S' T' tk p nx v ∧ a ≤ p ∧ p ≤ nx ∧ nx ≤ n ∧ (tk ≠ 27 → p < nx) ∧ (tk = 27 → p = n ∧ nx = n) := by
  obtain ⟨p, S1, T1, x1, x2, x3, x4, x5, x6, x7, x8, x9⟩ := skip_l (N := N) (K := fun S_9 => f_X3_advance_j38 N S_9) (K2 := nextK N) hb hn (n - a) a N S T (by omega) (by omega) hS hT h5 h40
  have kS : Kp wLc S S1 := x8.mo (fun a j h => ⟨h.1, by omega⟩)
  have kT : Kp wLr T T1 := x9.mo (fun a j h => ⟨h.1, by omega⟩)
  have hS1 := hS.kp kS (fun j => by unfold wLc; omega) (by unfold wLc; omega)
  have hT1 := hT.kp kT (fun j => by unfold wLr; omega) (by unfold wLr; omega)
  obtain ⟨tk, nx, v, S2, T2, y1, y2, y3, y4, y5, y6, y7, y8⟩ := tok_at hN hb hn hS1 hT1 x6 x7 x2 x3
  refine ⟨tk, p, nx, v, S2, T2, x4.trans y1, ?_, kS.tr y3, kT.tr y4, hS1.kp y3 (fun j => by unfold wLc; omega) (by unfold wLc; omega), hT1.kp y4 (fun j => by unfold wLr; omega) (by unfold wLr; omega), y5, x1, ?_, y6, y7, y8⟩
  · rw [next_eq]; exact x5.trans y2
  · by_cases c : tk = 27
    · have := y8 c; omega
    · have := y7 c; omega
/-! what the reference asks of a token -/
theorem wIs {T : St} {tk i : Nat} (h : SRt tk T) (hi : i < 17) : f_X11_isWord T (Int64.ofNat (pk (Wo i))) = some (if tk = i then 1 else 0) := by
  have hw := Wo_lets i hi
  unfold f_X11_isWord
  rcases h with ⟨h1, h2, h3⟩ | ⟨h1, h2, wd, h3, h4, h5⟩ | ⟨h1, h2, h3⟩ | ⟨h1, h2⟩ | ⟨h1, h2⟩ | ⟨h1, h2⟩
  · rw [h2, if_pos rfl, h3]
    by_cases c : tk = i
    · rw [if_pos c, c, if_pos ((lgz (pk_8 hw) (pk_8 hw)).mpr rfl)]
    · rw [if_neg c, if_neg (fun e => c (Wo_inj tk i h1 hi (pk_inj _ _ (Wo_lets tk h1).2 hw.2 ((lgz (pk_8 (Wo_lets tk h1)) (pk_8 hw)).mp e))))]
  · rw [h2, if_pos rfl, h4, if_neg (show ¬ tk = i by omega), if_neg (fun e => h5 i hi (pk_inj _ _ h3.2 hw.2 ((lgz (pk_8 h3) (pk_8 hw)).mp e)))]
  · rw [h3, if_neg (show ¬ tk = i by omega), if_neg]
    intro e
    have h9 : ∀ j : Fin 8, sg.getD j.val 0 ≠ 1 := by decide
    have h8 := sg_lt (tk - 17)
    have h7 : sg.getD (tk - 17) 0 = 1 := (nl_eq (b := 1) (by omega) (by omega)).mp e
    exact h9 ⟨tk - 17, by omega⟩ h7
  · rw [h2, if_neg (by decide), if_neg (show ¬ tk = i by omega)]
  · rw [h2, if_neg (by decide), if_neg (show ¬ tk = i by omega)]
  · rw [h2, if_neg (by decide), if_neg (show ¬ tk = i by omega)]
/-- the sort, by the token -/
theorem srt {T : St} {tk : Nat} (h : SRt tk T) : (gv T 200 42 = 1 ↔ tk < 17 ∨ tk = 26) ∧ (gv T 200 42 = 2 ↔ tk = 25) ∧ (gv T 200 42 = 0 ↔ tk = 27) ∧ (gv T 200 42 = 3 ↔ tk = 28) ∧ (gv T 200 42 = 59 ↔ tk = 17) ∧ (gv T 200 42 = 60 ↔ tk = 18) ∧ (gv T 200 42 = 62 ↔ tk = 19) ∧ (gv T 200 42 = 61 ↔ tk = 20) ∧ (gv T 200 42 = 43 ↔ tk = 21) ∧ (gv T 200 42 = 45 ↔ tk = 22) ∧ (gv T 200 42 = 40 ↔ tk = 23) ∧ (gv T 200 42 = 41 ↔ tk = 24) ∧ tk ≤ 28 := by
  rcases h with ⟨h1, h2, h3⟩ | ⟨h1, h2, wd, h3, h4, h5⟩ | ⟨h1, h2, h3⟩ | ⟨h1, h2⟩ | ⟨h1, h2⟩ | ⟨h1, h2⟩
  · rw [h2]
    refine ⟨⟨fun _ => by omega, fun _ => rfl⟩, ?_, ?_, ?_, ?_, ?_, ?_, ?_, ?_, ?_, ?_, ?_, by omega⟩ <;> exact ⟨fun h => absurd h (by decide), fun h => by omega⟩
  · rw [h2]
    refine ⟨⟨fun _ => by omega, fun _ => rfl⟩, ?_, ?_, ?_, ?_, ?_, ?_, ?_, ?_, ?_, ?_, ?_, by omega⟩ <;> exact ⟨fun h => absurd h (by decide), fun h => by omega⟩
  · rw [h3]
    obtain ⟨j, rfl⟩ : ∃ j, tk = 17 + j := ⟨tk - 17, by omega⟩
    rw [Nat.add_sub_cancel_left]
    have hj : j = 0 ∨ j = 1 ∨ j = 2 ∨ j = 3 ∨ j = 4 ∨ j = 5 ∨ j = 6 ∨ j = 7 := by omega
    rcases hj with rfl | rfl | rfl | rfl | rfl | rfl | rfl | rfl <;> decide
  · rw [h2]; subst h1; decide
  · rw [h2]; subst h1; decide
  · rw [h2]; subst h1; decide
theorem keyIs {T : St} {tk : Nat} (h : SRt tk T) (hw : tk < 17 ∨ tk = 26) : f_X11_isKey T = some (if tk < 8 then 1 else 0) := by
  have s := (srt h).1.mpr hw
  have q : ∀ i, i < 17 → (lg_cmp (gl T 200) (Int64.ofNat (pk (Wo i))) = 0 ↔ tk = i) := by
    intro i hi
    have := wIs h hi
    unfold f_X11_isWord at this
    rw [if_pos s] at this
    constructor
    · intro e
      rw [if_pos e] at this
      by_cases c : tk = i
      · exact c
      · rw [if_neg c] at this; exact absurd this (by decide)
    · intro e
      apply Classical.byContradiction
      intro c
      rw [if_neg c, if_pos e] at this
      exact absurd this (by decide)
  have q0 := q 0 (by omega)
  have q1 := q 1 (by omega)
  have q2 := q 2 (by omega)
  have q3 := q 3 (by omega)
  have q4 := q 4 (by omega)
  have q5 := q 5 (by omega)
  have q6 := q 6 (by omega)
  have q7 := q 7 (by omega)
  unfold f_X11_isKey
  rw [show (2003330414 : Int64) = Int64.ofNat (pk (Wo 0)) by decide, show (25711 : Int64) = Int64.ofNat (pk (Wo 1)) by decide, show (2002873451 : Int64) = Int64.ofNat (pk (Wo 2)) by decide, show (1919251316 : Int64) = Int64.ofNat (pk (Wo 3)) by decide, show (1936026732 : Int64) = Int64.ofNat (pk (Wo 4)) by decide, show (28530 : Int64) = Int64.ofNat (pk (Wo 5)) by decide, show (6385252 : Int64) = Int64.ofNat (pk (Wo 6)) by decide, show (7237492 : Int64) = Int64.ofNat (pk (Wo 7)) by decide]
  simp only [q0, q1, q2, q3, q4, q5, q6, q7]
  by_cases c : tk < 8
  · have hj : tk = 0 ∨ tk = 1 ∨ tk = 2 ∨ tk = 3 ∨ tk = 4 ∨ tk = 5 ∨ tk = 6 ∨ tk = 7 := by omega
    rcases hj with rfl | rfl | rfl | rfl | rfl | rfl | rfl | rfl <;> simp
  · rw [if_neg (by omega), if_neg (by omega), if_neg (by omega), if_neg (by omega), if_neg (by omega), if_neg (by omega), if_neg (by omega), if_neg (by omega), if_neg c]
theorem namIs {T : St} {tk : Nat} (h : SRt tk T) (hw : tk < 17 ∨ tk = 26) : f_X11_named T = some (if 8 ≤ tk ∧ tk < 17 then nI (tk - 8) else -1) := by
  have s := (srt h).1.mpr hw
  have q : ∀ i, i < 17 → (lg_cmp (gl T 200) (Int64.ofNat (pk (Wo i))) = 0 ↔ tk = i) := by
    intro i hi
    have := wIs h hi
    unfold f_X11_isWord at this
    rw [if_pos s] at this
    constructor
    · intro e
      rw [if_pos e] at this
      by_cases c : tk = i
      · exact c
      · rw [if_neg c] at this; exact absurd this (by decide)
    · intro e
      apply Classical.byContradiction
      intro c
      rw [if_neg c, if_pos e] at this
      exact absurd this (by decide)
  have q0 := q 8 (by omega)
  have q1 := q 9 (by omega)
  have q2 := q 10 (by omega)
  have q3 := q 11 (by omega)
  have q4 := q 12 (by omega)
  have q5 := q 13 (by omega)
  have q6 := q 14 (by omega)
  have q7 := q 15 (by omega)
  have q8 := q 16 (by omega)
  unfold f_X11_named
  rw [show (6578553 : Int64) = Int64.ofNat (pk (Wo 8)) by decide, show (448377480307 : Int64) = Int64.ofNat (pk (Wo 9)) by decide, show (131277443786868 : Int64) = Int64.ofNat (pk (Wo 10)) by decide, show (1936683621 : Int64) = Int64.ofNat (pk (Wo 11)) by decide, show (444300620659 : Int64) = Int64.ofNat (pk (Wo 12)) by decide, show (469920146803 : Int64) = Int64.ofNat (pk (Wo 13)) by decide, show (126943688024933 : Int64) = Int64.ofNat (pk (Wo 14)) by decide, show (482955846501 : Int64) = Int64.ofNat (pk (Wo 15)) by decide, show (2002873972 : Int64) = Int64.ofNat (pk (Wo 16)) by decide]
  simp only [q0, q1, q2, q3, q4, q5, q6, q7, q8]
  by_cases c : 8 ≤ tk ∧ tk < 17
  · have hj : tk = 8 ∨ tk = 9 ∨ tk = 10 ∨ tk = 11 ∨ tk = 12 ∨ tk = 13 ∨ tk = 14 ∨ tk = 15 ∨ tk = 16 := by omega
    rcases hj with rfl | rfl | rfl | rfl | rfl | rfl | rfl | rfl | rfl <;> simp <;> rfl
  · rw [if_neg (by omega), if_neg (by omega), if_neg (by omega), if_neg (by omega), if_neg (by omega), if_neg (by omega), if_neg (by omega), if_neg (by omega), if_neg (by omega), if_neg c]
end
end LEXN
