section DAYL
theorem InvN.fr {n st : Nat} {S S' T T' : St} (h : InvN n st S T) (kr : ∀ a j, gr S' a j = gr S a j) (e : ∀ a j, a < 200 → gv S' a j = gv S a j) (e' : ∀ a j, 200 ≤ a → gv T' a j = gv T a j) : InvN n st S' T' := by
  obtain ⟨hn, hr, hDay, hLet, hFlt, hBil, hRoad, hPas, hTap, hHrd, hOrd⟩ := h
  exact ⟨hn, hr.fr kr, hDay.fr (fun a j h _ => e a j h) (fun a j h _ => e' a j h), hLet.fr (fun a j h _ => e a j h) (fun a j h _ => e' a j h), hFlt.fr (fun a j h _ => e a j h) (fun a j h _ => e' a j h), hBil.fr (fun a j h _ => e a j h) (fun a j h _ => e' a j h), hRoad.fr (fun a j h _ => e a j h) (fun a j h _ => e' a j h), hPas.fr (fun a j h _ => e a j h) (fun a j h _ => e' a j h), hTap.fr (fun a j h _ => e a j h) (fun a j h _ => e' a j h), hHrd.fr hn (fun a j h _ => e a j h) (fun a j h _ => e' a j h), hOrd.fr hn hr kr (fun a j h _ => e a j h) (fun a j h _ => e' a j h)⟩
theorem InvN.road2 {n st : Nat} {S S' T T' : St} (h : InvN n st S T) (kS : Kp (fun a _ => a = 13) S S') (kT : Kp (fun a _ => a = 204) T T') (hR : IRoad st S' T') : InvN n st S' T' := by
  obtain ⟨hn, hr, hDay, hLet, hFlt, hBil, hRoad, hPas, hTap, hHrd, hOrd⟩ := h
  exact ⟨hn, hr.fr kS.2, hDay.fr (fun a j h r => kS.1 a j (by unfold rDay at r; omega)) (fun a j h r => kT.1 a j (by unfold rDay at r; omega)), hLet.fr (fun a j h r => kS.1 a j (by unfold rLet at r; omega)) (fun a j h r => kT.1 a j (by unfold rLet at r; omega)), hFlt.fr (fun a j h r => kS.1 a j (by unfold rFlt at r; omega)) (fun a j h r => kT.1 a j (by unfold rFlt at r; omega)), hBil.fr (fun a j h r => kS.1 a j (by unfold rBil at r; omega)) (fun a j h r => kT.1 a j (by unfold rBil at r; omega)), hR, hPas.fr (fun a j h r => kS.1 a j (by unfold rPas at r; omega)) (fun a j h r => kT.1 a j (by unfold rPas at r; omega)), hTap.fr (fun a j h r => kS.1 a j (by unfold rTap at r; omega)) (fun a j h r => kT.1 a j (by unfold rTap at r; omega)), hHrd.fr hn (fun a j h r => kS.1 a j (by unfold rHrd at r; omega)) (fun a j h r => kT.1 a j (by unfold rHrd at r; omega)), hOrd.fr hn hr kS.2 (fun a j h r => kS.1 a j (by unfold rOrd at r; omega)) (fun a j h r => kT.1 a j (by unfold rOrd at r; omega))⟩
theorem InvN.day2 {n st : Nat} {S S' T T' : St} (h : InvN n st S T) (kS : Kp rDay S S') (kT : Kp rDay T T') (hD : IDay S' T') : InvN n st S' T' := by
  obtain ⟨hn, hr, hDay, hLet, hFlt, hBil, hRoad, hPas, hTap, hHrd, hOrd⟩ := h
  exact ⟨hn, hr.fr kS.2, hD, hLet.fr (fun a j h r => kS.1 a j (by unfold rDay; unfold rLet at r; omega)) (fun a j h r => kT.1 a j (by unfold rDay; unfold rLet at r; omega)), hFlt.fr (fun a j h r => kS.1 a j (by unfold rDay; unfold rFlt at r; omega)) (fun a j h r => kT.1 a j (by unfold rDay; unfold rFlt at r; omega)), hBil.fr (fun a j h r => kS.1 a j (by unfold rDay; unfold rBil at r; omega)) (fun a j h r => kT.1 a j (by unfold rDay; unfold rBil at r; omega)), hRoad.fr (fun a j h r => kS.1 a j (by unfold rDay; unfold rRoad at r; omega)) (fun a j h r => kT.1 a j (by unfold rDay; unfold rRoad at r; omega)), hPas.fr (fun a j h r => kS.1 a j (by unfold rDay; unfold rPas at r; omega)) (fun a j h r => kT.1 a j (by unfold rDay; unfold rPas at r; omega)), hTap.fr (fun a j h r => kS.1 a j (by unfold rDay; unfold rTap at r; omega)) (fun a j h r => kT.1 a j (by unfold rDay; unfold rTap at r; omega)), hHrd.fr hn (fun a j h r => kS.1 a j (by unfold rDay; unfold rHrd at r; omega)) (fun a j h r => kT.1 a j (by unfold rDay; unfold rHrd at r; omega)), hOrd.fr hn hr kS.2 (fun a j h r => kS.1 a j (by unfold rDay; unfold rOrd at r; omega)) (fun a j h r => kT.1 a j (by unfold rDay; unfold rOrd at r; omega))⟩
theorem drive_both {N n st k : Nat} {S T : St} (hN : 1000 ≤ N) (h : InvN n st S T) (hk : k < n) (hpos : ¬ gv T 212 k ≤ 0) : ∃ S' T', f_X10_drive (LL n) N S (60 + k) = some S' ∧ f_X11_go N T (nI k) = some T' ∧ InvN n st S' T' ∧ Kp (wcl k) S S' ∧ Kp (wrf k) T T' := by
  obtain ⟨hn, hr, ⟨d, dd, d1, d2⟩, hLet, hFlt, hBil, hRoad, hPas, hTap, hHrd, hOrd⟩ := id h
  obtain ⟨s2, s10, r1, r2, ⟨mi, m1, m2, m3, m4⟩, r6, r7⟩ := id hRoad
  have hk6 : k < 6 := by omega
  obtain ⟨c0, c1, c2, c3, c4, c5, c7, c8, c9, c10, c11, he, we, so, sc, co, ne, g1, g2, g3, g4, g5, g6, g7, g8, g9, g10, g11, g12, g13⟩ := hHrd.2.2.1 k hk
  have he0 : 0 < he := by
    apply Nat.pos_of_ne_zero
    intro e
    rw [g1, e] at hpos
    exact hpos (by decide)
  have hsc := g9 he0
  have hS : HS S (60 + k) he we so sc co (gv T 219 k) (gv T 220 k) (gv T 221 k) (gv T 222 k) := ⟨c2.trans g1, c3.trans g3, c4.trans g5, c5.trans g7, c7.trans g10, c8, c9, c10, c11⟩
  have hT : HT T k he we so sc co (gv T 219 k) (gv T 220 k) (gv T 221 k) (gv T 222 k) := ⟨g1, g3, g5, g7, g10, rfl, rfl, rfl, rfl⟩
  obtain ⟨p, p1, p2, p3⟩ := price_both (N := N) (i := sc) (by omega) d1 hLet hRoad (by omega)
  obtain ⟨S4, l1, l2, l3⟩ := c_learn (d := d) (p := p) (m := mi sc) (g := gv T 204 sc) (ne := ne) hk6 s10 r1 (show sc < st by omega) (r6 sc (by omega)).1 (m3 sc (by omega)).1 hS (c0.trans g12)
  obtain ⟨T4, q1, q2, q3⟩ := r_learn (N := N) (d := d) (p := p) (m := mi sc) (g := gv T 204 sc) (ne := ne) hk6 s10 (show sc < st by omega) d2 rfl (m3 sc (by omega)).2 hT g12 (fun T2 hk2 => by
    obtain ⟨p', p1', p2', p3'⟩ := price_both (N := N) (T := T2) (i := sc) (by omega) d1 (hLet.fr (fun _ _ _ _ => rfl) (fun a j h1 h2 => hk2.1 a j (by unfold rLet at h2; omega))) (hRoad.fr (fun _ _ _ _ => rfl) (fun a j h1 h2 => hk2.1 a j (by unfold rRoad at h2; omega))) (show sc < st by omega)
    rw [p2] at p2'
    rw [p3', Option.some.inj p2'])
  obtain ⟨f, f1, f2, f3, f4⟩ := hr.2.1
  have ho := ok_o hn (f3 k (by omega))
  obtain ⟨Ls, hO⟩ := hOrd.1 k _ hk (f2 k hk)
  have hfk := f3 k (by omega)
  have hO4 : ORel S4 T4 (70 + f k) k Ls := hO.ag (fun x => l2.1 _ _ (by omega)) (fun x => l2.1 _ _ (by omega)) (fun x => l2.1 _ _ (by omega)) (fun x => l2.1 _ _ (by omega)) (fun x y h1 h2 => q2.1 _ _ (by omega))
  obtain ⟨S5, T5, k5, k6, hh⟩ := ch_both (N := N) (o := 70 + f k) (k := k) (Ls := Ls) (K := fun S_9 x_10 => if x_10 < 0 ∨ 8 ≤ ix x_10 then none else some ((gv S_9 (70 + f k + 30) (ix x_10)), S_9)) (K2 := fun S_29 x_30 => f_X11_go_j148 N S_29 (nI k) x_30) hN (by omega) hk6 Ls.length 0 N S4 T4 (by omega) (by have := hO.1; omega) hO4 (fun x hx => by rw [l3 x hx, q3 x hx])
  have kS5 : Kp (fun a j => a = 50 ∨ wSt a j) S S5 := (l2.mo (fun a j h => Or.inl h)).tr (k5.mo (fun a j h => Or.inr h))
  have kT5 : Kp (fun a _ => a = 251 ∨ a = 250) T T5 := (q2.mo (fun a j h => Or.inl h)).tr (k6.mo (fun a j h => Or.inr h))
  have hO5 : ORel S5 T5 (70 + f k) k Ls := hO4.ag (fun x => k5.1 _ _ (by unfold wSt; omega)) (fun x => k5.1 _ _ (by unfold wSt; omega)) (fun x => k5.1 _ _ (by unfold wSt; omega)) (fun x => k5.1 _ _ (by unfold wSt; omega)) (fun x y h1 h2 => k6.1 _ _ (by unfold wPi; omega))
  have mid : Mid n st k d p he we so sc co ne (gv T 219 k) (gv T 220 k) (gv T 221 k) (gv T 222 k) S5 T5 := by
    refine ⟨hk6, ?_, ?_, hLet.fr (fun a j h1 h2 => kS5.1 a j (by unfold wSt; unfold rLet at h2; omega)) (fun a j h1 h2 => kT5.1 a j (by unfold rLet at h2; omega)), hRoad.fr (fun a j h1 h2 => kS5.1 a j (by unfold wSt; unfold rRoad at h2; omega)) (fun a j h1 h2 => kT5.1 a j (by unfold rRoad at h2; omega)), hS.kp kS5 (fun j => by unfold wSt; omega), hT.kp kT5 (fun a h1 h2 => by omega), ?_, ?_, g13, g2, g4, g6, he0, by omega, g11, p1, ?_⟩
    · rw [kS5.1 _ _ (by unfold wSt; omega)]; exact d1
    · rw [kT5.1 _ _ (by omega)]; exact d2
    · rw [kS5.1 _ _ (by unfold wSt; omega)]; exact c0.trans g12
    · rw [kT5.1 _ _ (by omega)]; exact g12
    · rw [k6.1 _ _ (by unfold wPi; omega), q3 7 (by omega)]; rfl
  have fin : ∀ S' T', Dfin st k S5 T5 S' T' → InvN n st S' T' ∧ Kp (wcl k) S S' ∧ Kp (wrf k) T T' := by
    rintro S' T' ⟨he', we', so', sc', co', le', sd', de', at'', z1, z2, z3, z4, z5, z6, z7, z8, z9, zS, zT⟩
    have kS' : Kp (wcl k) S S' := (kS5.mo (fun a j h => by unfold wSt at h; unfold wcl; omega)).tr (zS.mo (fun a j h => by unfold wD hwC at h; unfold wcl; omega))
    have kT' : Kp (wrf k) T T' := (kT5.mo (fun a j h => by unfold wrf; omega)).tr (zT.mo (fun a j h => by
      unfold wDr at h; unfold wrf
      rcases h with h | h | h
      · exact Or.inr (Or.inl h)
      · exact Or.inr (Or.inr (Or.inl h))
      · exact Or.inl h))
    exact ⟨drive_end h hk kS' kT' z3 z1 z2 z4 z5 z6 z7 z8 z9, kS', kT'⟩
  have hk2 := nn (show k < 2147483648 by omega)
  have hk3 := ix_nI (show k < 2147483648 by omega)
  have hk4 := inG hk6
  have l8 := hO.1
  have cls : ∀ x, f_X8_choose_l4 N (70 + f k) (fun S_9 x_10 => if x_10 < 0 ∨ 8 ≤ ix x_10 then none else some ((gv S_9 (70 + f k + 30) (ix x_10)), S_9)) N S4 (nI (FL (Ls.take 0)).length) (nI 0) = some (x, S5) → f_X10_drive (LL n) N S (60 + k) = if x = -1 then (cl0 (f_X10_walkOn N S5 (60 + k)) fun S_26 => f_X10_drive_j57 (LL n) N (60 + k) S_26 x) else (cl0 (f_X1_sellOnTheWay S5 (60 + k) x (nI p)) fun S_13 => f_X10_drive_j57 (LL n) N (60 + k) S_13 x) := by
    intro x hx
    unfold f_X10_drive f_X8_choose
    rw [hS.2.2.2.1, p2]
    simp only [bn, cl0, cl1, oc, d1]
    rw [l1]
    simp only [bn, cl0, cl1, oc]
    rw [l2.2, f2 k hk]
    simp only [if_pos ho]
    have : f_X8_choose_l4 N (70 + f k) (fun S_9 x_10 => if x_10 < 0 ∨ 8 ≤ ix x_10 then none else some ((gv S_9 (70 + f k + 30) (ix x_10)), S_9)) N S4 0 0 = some (x, S5) := hx
    rw [this]
  have rfs : ∀ v3, f_X11_go_l123 N (nI k) (fun S_29 x_30 => f_X11_go_j148 N S_29 (nI k) x_30) N T4 (nI 0) = f_X11_go_j148 N T5 (nI k) v3 → f_X11_go N T (nI k) = f_X11_go_j148 N T5 (nI k) v3 := by
    intro v3 h3
    rw [q1]
    exact h3
  rcases hh with ⟨e1, e2⟩ | ⟨i, hi, e1, e2⟩
  · obtain ⟨S', T', w1, w2, w3⟩ := walk_both (N := N) (L := LL n) (v3 := nI Ls.length) hN mid
    obtain ⟨x1, x2, x3⟩ := fin S' T' w3
    refine ⟨S', T', ?_, ?_, x1, x2, x3⟩
    · rw [cls _ e1, if_pos rfl]
      exact w1
    · rw [rfs _ e2]
      unfold f_X11_go_j148
      simp only [hk2, hk3, hk4, or_self, or_false, false_or, if_false, if_true, reduceIte, hO5.2.2.1]
      rw [if_pos (le_n (Nat.le_refl _) (by omega))]
      exact w2
  · have i8 : i < 8 := by omega
    have e1' : f_X8_choose_l4 N (70 + f k) (fun S_9 x_10 => if x_10 < 0 ∨ 8 ≤ ix x_10 then none else some ((gv S_9 (70 + f k + 30) (ix x_10)), S_9)) N S4 (nI (FL (Ls.take 0)).length) (nI 0) = some (gv S5 (70 + f k + 30) i, S5) := by
      rw [e1]
      simp only [nn (show i < 2147483648 by omega), ix_nI (show i < 2147483648 by omega), inG i8, or_self, or_false, false_or, if_false, if_true, reduceIte]
    have e3 : f_X11_go N T (nI k) = f_X11_go_j173 N T5 (nI k) (nI i) (gv T5 226 (8 * k + i)) := by
      rw [rfs _ e2]
      unfold f_X11_go_j148
      simp only [hk2, hk3, hk4, or_self, or_false, false_or, if_false, if_true, reduceIte, hO5.2.2.1]
      rw [if_neg (nle_n (by omega) (by omega)), show (8 : Int32) = nI 8 from rfl, nI_mul, nI_add]
      simp only [nn (show 8 * k + i < 2147483648 by omega), ix_nI (show 8 * k + i < 2147483648 by omega), inG (show 8 * k + i < 48 by omega), or_self, or_false, false_or, if_false, if_true, reduceIte]
    obtain ⟨l, a, hl⟩ : ∃ l a, Ls[i]? = some (l, a) := ⟨Ls[i].1, Ls[i].2, by rw [List.getElem?_eq_getElem hi]⟩
    have ar := (hO5.2.2.2.2.2.2.2.2 i l a hl).2
    rw [e3]
    rcases ar with ⟨_, a2, a3⟩ | ⟨_, a2, a3⟩ | ⟨v, v1, _, a2, a3, a4⟩
    · obtain ⟨S', T', w1, w2, w3⟩ := walk_both (N := N) (L := LL n) (v3 := nI i) hN mid
      obtain ⟨x1, x2, x3⟩ := fin S' T' w3
      refine ⟨S', T', ?_, ?_, x1, x2, x3⟩
      · rw [cls _ e1', a2, if_pos rfl]
        exact w1
      · rw [a3]; exact w2
    · obtain ⟨S', T', w1, w2, w3⟩ := sell_both (N := N) (L := LL n) (v := 0) (w := 1) (v3 := nI i) hN mid (by omega) (Or.inl ⟨rfl, rfl⟩)
      obtain ⟨x1, x2, x3⟩ := fin S' T' w3
      refine ⟨S', T', ?_, ?_, x1, x2, x3⟩
      · rw [cls _ e1', a2, if_neg (by decide)]
        exact w1
      · rw [a3]; exact w2
    · obtain ⟨S', T', w1, w2, w3⟩ := sell_both (N := N) (L := LL n) (v := v) (w := 2) (v3 := nI i) hN mid v1 (Or.inr ⟨rfl, i, i8, rfl, a4⟩)
      obtain ⟨x1, x2, x3⟩ := fin S' T' w3
      refine ⟨S', T', ?_, ?_, x1, x2, x3⟩
      · rw [cls _ e1', a2, if_neg (fun e => by
          have h1 := nn (show v < 2147483648 by omega)
          rw [e] at h1
          exact h1 (by decide))]
        exact w1
      · rw [a3]; exact w2
def wC (a _j : Nat) : Prop := a < 200
def wR (a _j : Nat) : Prop := 200 ≤ a
def wHc (a _j : Nat) : Prop := a < 200 ∧ a ≠ 0
def wHr (a _j : Nat) : Prop := 200 ≤ a ∧ a ≠ 200
theorem herds_l {N n st : Nat} {v1 v2 : Int32} {K : St → Option St} {K2 : St → Option (Int32 × St)} (hN : 1000 ≤ N) : ∀ (q k fuel : Nat) (S T : St), k + q = n → q + 1 ≤ fuel → InvN n st S T → ∃ S' T', f_X10_passDay_l9 (LL n) N K fuel S (nI k) = K S' ∧ f_X11_days_l97 N v1 v2 K2 fuel T (nI k) = K2 T' ∧ InvN n st S' T' ∧ Kp wHc S S' ∧ Kp wHr T T' := by
  intro q
  induction q with
  | zero =>
    intro k fuel S T hk hf h
    obtain ⟨fuel, rfl⟩ : ∃ q, fuel = q + 1 := ⟨fuel - 1, by omega⟩
    have hn := h.1
    have hH := h.2.2.2.2.2.2.2.2.2.1
    rw [f_X10_passDay_l9, f_X11_days_l97, hH.1, hH.2.1, if_pos (le_n (by omega) (by omega)), if_pos (le_n (by omega) (by omega))]
    exact ⟨S, T, rfl, rfl, h, Kp.rf, Kp.rf⟩
  | succ q ih =>
    intro k fuel S T hk hf h
    obtain ⟨fuel, rfl⟩ : ∃ q, fuel = q + 1 := ⟨fuel - 1, by omega⟩
    have hn := h.1
    have hH := h.2.2.2.2.2.2.2.2.2.1
    have hr := h.2.1
    obtain ⟨d, dd, d1, d2⟩ := h.2.2.1
    have e6 : (6 : Nat) ∈ LL n := by
      have : ∀ m, (6 : Nat) ∈ LL m := by
        intro m
        induction m with
        | zero => decide
        | succ m ih => simp [LL, herdL]; exact Or.inl ih
      exact this n
    have hm : 60 + k ∈ LL n := hr.2.2.1 6 e6 k (60 + k) (hr.1 k (by omega))
    have ho : okh (LL n) (60 + k) := ⟨by omega, by omega, hm⟩
    obtain ⟨c0, c1, c2, _⟩ := hH.2.2.1 k (by omega)
    rw [f_X10_passDay_l9, f_X11_days_l97, hH.1, hH.2.1, if_neg (nle_n (by omega) (by omega)), if_neg (nle_n (by omega) (by omega))]
    simp only [nn (show k < 2147483648 by omega), ix_nI (show k < 2147483648 by omega), inG (show k < 6 by omega), or_self, or_false, false_or, if_false, if_true, reduceIte, hr.1 k (by omega), bn, cl0, cl1, oc, if_pos ho, c1, c2, d1, d2, nl_add1]
    by_cases b1 : gv T 212 k ≤ 0
    · simp only [if_pos b1, ite_self]
      exact ih (k + 1) fuel S T (by omega) (by omega) h
    · by_cases b2 : nI d < gv T 215 k
      · simp only [if_neg b1, if_pos b2]
        exact ih (k + 1) fuel S T (by omega) (by omega) h
      · simp only [if_neg b1, if_neg b2]
        obtain ⟨S1, T1, x1, x2, x3, x4, x5⟩ := drive_both hN h (show k < n by omega) b1
        rw [x1, x2]
        simp only [bn, cl0, cl1, oc]
        obtain ⟨S2, T2, y1, y2, y3, y4, y5⟩ := ih (k + 1) fuel S1 T1 (by omega) (by omega) x3
        exact ⟨S2, T2, y1, y2, y3, (x4.mo (fun a j h => by unfold wcl at h; unfold wHc; omega)).tr y4, (x5.mo (fun a j h => by unfold wrf hwR at h; unfold wHr; omega)).tr y5⟩
theorem grow_c {N st : Nat} {K : St → Option St} {ga go mo : Nat → Nat} (hst : st ≤ 10) : ∀ (q i fuel : Nat) (S : St), i + q = st → q + 1 ≤ fuel → gv S 1 0 = nI st → (∀ j, j < 10 → i ≤ j → gv S 13 j = nI (ga j)) → (∀ j, j < 10 → gv S 14 j = nI (go j) ∧ gv S 15 j = nI (mo j) ∧ ga j ≤ 100000 ∧ mo j ≤ 100000 ∧ go j ≤ 1000) → ∃ S', f_X9_grow_l2 N K fuel S (nI i) = K S' ∧ Kp (fun a _ => a = 13) S S' ∧ ∀ j, j < 10 → gv S' 13 j = if i ≤ j ∧ j < st then nI (min (ga j + go j) (mo j)) else gv S 13 j := by
  intro q
  induction q with
  | zero =>
    intro i fuel S hi hf r1 h1 h2
    obtain ⟨fuel, rfl⟩ : ∃ q, fuel = q + 1 := ⟨fuel - 1, by omega⟩
    rw [f_X9_grow_l2, r1, if_pos (le_n (by omega) (by omega))]
    exact ⟨S, rfl, Kp.rf, fun j hj => by rw [if_neg (by omega)]⟩
  | succ q ih =>
    intro i fuel S hi hf r1 h1 h2
    obtain ⟨fuel, rfl⟩ : ∃ q, fuel = q + 1 := ⟨fuel - 1, by omega⟩
    obtain ⟨a1, a2, a3, a4, a5⟩ := h2 i (by omega)
    rw [f_X9_grow_l2, r1, if_neg (nle_n (by omega) (by omega))]
    simp only [nn (show i < 2147483648 by omega), ix_nI (show i < 2147483648 by omega), inG (show i < 10 by omega), or_self, or_false, false_or, if_false, if_true, reduceIte, h1 i (by omega) (Nat.le_refl _), a1, a2, nI_add, bn, cl0, cl1, oc, nl_add1]
    rw [n_min (by omega) (by omega)]
    obtain ⟨S', e1, e2, e3⟩ := ih (i + 1) fuel (sv S 13 i (nI (min (ga i + go i) (mo i)))) (by omega) (by omega) (by rw [gv_ne (by omega)]; exact r1) (fun j hj hij => by rw [gv_nk (by omega)]; exact h1 j hj (by omega)) (fun j hj => by rw [gv_ne (by omega), gv_ne (by omega)]; exact h2 j hj)
    refine ⟨S', e1, (Kp.rf.sv rfl : Kp (fun a _ => a = 13) S _).tr e2, fun j hj => ?_⟩
    rw [e3 j hj]
    by_cases c : j = i
    · subst c
      rw [if_neg (by omega), gv_at, if_pos (by omega)]
    · rw [gv_nk c]
      by_cases c2 : i + 1 ≤ j ∧ j < st
      · rw [if_pos c2, if_pos (by omega)]
      · rw [if_neg c2, if_neg (by omega)]
theorem grow_r {N st : Nat} {v1 v2 : Int32} {K : St → Option (Int32 × St)} {ga go mo : Nat → Nat} (hst2 : 2 ≤ st) (hst : st ≤ 10) : ∀ (q i fuel : Nat) (S : St), i + q + 1 = st → q + 1 ≤ fuel → gv S 200 1 = nI st → (∀ j, j < 10 → i ≤ j → gv S 204 j = nI (ga j)) → (∀ j, j < 10 → gv S 205 j = nI (go j) ∧ gv S 206 j = nI (mo j) ∧ ga j ≤ 100000 ∧ mo j ≤ 100000 ∧ go j ≤ 1000) → ∃ S', f_X11_days_l31 N v1 v2 K fuel S (nI i) = K S' ∧ Kp (fun a _ => a = 204) S S' ∧ ∀ j, j < 10 → gv S' 204 j = if i ≤ j ∧ j + 1 < st then nI (min (ga j + go j) (mo j)) else gv S 204 j := by
  intro q
  induction q with
  | zero =>
    intro i fuel S hi hf r1 h1 h2
    obtain ⟨fuel, rfl⟩ : ∃ q, fuel = q + 1 := ⟨fuel - 1, by omega⟩
    rw [f_X11_days_l31, rd_f2 hst2 r1]
    simp only [bn, cl0, cl1, oc]
    rw [if_pos (le_n (by omega) (by omega))]
    exact ⟨S, rfl, Kp.rf, fun j hj => by rw [if_neg (by omega)]⟩
  | succ q ih =>
    intro i fuel S hi hf r1 h1 h2
    obtain ⟨fuel, rfl⟩ : ∃ q, fuel = q + 1 := ⟨fuel - 1, by omega⟩
    obtain ⟨a1, a2, a3, a4, a5⟩ := h2 i (by omega)
    rw [f_X11_days_l31, rd_f2 hst2 r1]
    simp only [bn, cl0, cl1, oc]
    rw [if_neg (nle_n (by omega) (by omega))]
    simp only [nn (show i < 2147483648 by omega), ix_nI (show i < 2147483648 by omega), inG (show i < 10 by omega), or_self, or_false, false_or, if_false, if_true, reduceIte, h1 i (by omega) (Nat.le_refl _), a1, a2, nI_add, nl_add1]
    rw [ite_le (by omega) (by omega)]
    have e0 : (if ga i + go i ≤ mo i then f_X11_days_l31 N v1 v2 K fuel (sv S 204 i (nI (ga i + go i))) (nI (i + 1)) else f_X11_days_l31 N v1 v2 K fuel (sv S 204 i (nI (mo i))) (nI (i + 1))) = f_X11_days_l31 N v1 v2 K fuel (sv S 204 i (nI (min (ga i + go i) (mo i)))) (nI (i + 1)) := by
      by_cases c : ga i + go i ≤ mo i
      · rw [if_pos c, Nat.min_eq_left c]
      · rw [if_neg c, Nat.min_eq_right (by omega)]
    rw [e0]
    obtain ⟨S', e1, e2, e3⟩ := ih (i + 1) fuel (sv S 204 i (nI (min (ga i + go i) (mo i)))) (by omega) (by omega) (by rw [gv_ne (by omega)]; exact r1) (fun j hj hij => by rw [gv_nk (by omega)]; exact h1 j hj (by omega)) (fun j hj => by rw [gv_ne (by omega), gv_ne (by omega)]; exact h2 j hj)
    refine ⟨S', e1, (Kp.rf.sv rfl : Kp (fun a _ => a = 204) S _).tr e2, fun j hj => ?_⟩
    rw [e3 j hj]
    by_cases c : j = i
    · subst c
      rw [if_neg (by omega), gv_at, if_pos (by omega)]
    · rw [gv_nk c]
      by_cases c2 : i + 1 ≤ j ∧ j + 1 < st
      · rw [if_pos c2, if_pos (by omega)]
      · rw [if_neg c2, if_neg (by omega)]
/-- one day -/
theorem day_both {N n st : Nat} {v1 v2 : Int32} {K2 : St → Option (Int32 × St)} {S T : St} (hN : 1000 ≤ N) (h : InvN n st S T) (hd : ¬ (100000 : Int32) ≤ gv T 200 0) : ∃ S' T', f_X10_passDay (LL n) N S = some S' ∧ f_X11_days_l31 N v1 v2 (fun S_21 => f_X11_days_l97 N v1 v2 (fun S_32 => K2 (sv S_32 200 0 (gv S_32 200 0 + 1))) N S_21 0) N T 0 = K2 T' ∧ InvN n st S' T' ∧ Kp wC S S' ∧ Kp wR T T' := by
  obtain ⟨s2, s10, r1, r2, ⟨mi, m1, m2, m3, m4⟩, r6, ⟨ga, go, mo, r7⟩⟩ := id h.2.2.2.2.2.2.1
  have hn := h.1
  obtain ⟨S1, a1, a2, a3⟩ := grow_c (N := N) (K := fun S_9 => some S_9) (ga := ga) (go := go) (mo := mo) s10 st 0 N S (by omega) (by omega) r1 (fun j hj _ => by rw [(r6 j hj).1]; exact (r7 j hj).1) (fun j hj => by
    obtain ⟨q1, q2, q3, q4, q5, q6, q7⟩ := r7 j hj
    rw [(r6 j hj).2.1, (r6 j hj).2.2.1]
    exact ⟨q2, q3, by omega, q5, q6⟩)
  obtain ⟨T1, b1, b2, b3⟩ := grow_r (N := N) (v1 := v1) (v2 := v2) (K := fun S_21 => f_X11_days_l97 N v1 v2 (fun S_32 => K2 (sv S_32 200 0 (gv S_32 200 0 + 1))) N S_21 0) (ga := ga) (go := go) (mo := mo) s2 s10 (st - 1) 0 N T (by omega) (by omega) r2 (fun j hj _ => (r7 j hj).1) (fun j hj => by
    obtain ⟨q1, q2, q3, q4, q5, q6, q7⟩ := r7 j hj
    exact ⟨q2, q3, by omega, q5, q6⟩)
  have hR1 : IRoad st S1 T1 := by
    refine h.2.2.2.2.2.2.1.set (fun a j h1 h2 h3 h4 => a2.1 a j (by omega)) (fun a j h1 h2 h3 h4 => b2.1 a j (by omega)) (fun i hi => by rw [a2.1 _ _ (by omega), b2.1 _ _ (by omega)]; exact (r6 i hi).2.2.2) (fun i hi => ?_)
    obtain ⟨q1, q2, q3, q4, q5, q6, q7⟩ := r7 i hi
    refine ⟨min (ga i + go i) (mo i), mo i, ?_, ?_, q3, q5, Nat.min_le_right _ _⟩
    · rw [a3 i hi]
      by_cases c : i < st
      · rw [if_pos (by omega)]
      · rw [if_neg (by omega), (r6 i hi).1, q1]
        have := q7 (by omega)
        rw [this.1, this.2.1, this.2.2]
        rfl
    · rw [b3 i hi]
      by_cases c : i + 1 < st
      · rw [if_pos (by omega)]
      · rw [if_neg (by omega), q1]
        have := q7 (by omega)
        rw [this.1, this.2.1, this.2.2]
        rfl
  have h1 := h.road2 a2 b2 hR1
  obtain ⟨S2, T2, c1, c2, c3, c4, c5⟩ := herds_l (N := N) (v1 := v1) (v2 := v2) (K := fun S_16 => some (sv S_16 0 11 ((gv S_16 0 11) + 1))) (K2 := fun S_32 => K2 (sv S_32 200 0 (gv S_32 200 0 + 1))) hN n 0 N S1 T1 (by omega) (by omega) h1
  obtain ⟨d, dd, d1, d2⟩ := c3.2.2.1
  have day : gv T2 200 0 = gv T 200 0 := by rw [c5.1 _ _ (by unfold wHr; omega), b2.1 _ _ (by omega)]
  refine ⟨sv S2 0 11 (nI (d + 1)), sv T2 200 0 (nI (d + 1)), ?_, ?_, c3.day2 (Kp.rf.sv (Or.inl ⟨rfl, rfl⟩)) (Kp.rf.sv (Or.inr ⟨rfl, rfl⟩)) ⟨d + 1, ?_, gv_at, gv_at⟩, ?_, ?_⟩
  · unfold f_X10_passDay f_X9_grow
    rw [show (0 : Int32) = nI 0 from rfl, a1]
    simp only [bn, cl0, cl1, oc]
    rw [c1, d1, nl_add1]
  · rw [show (0 : Int32) = nI 0 from rfl] at b1 ⊢
    rw [b1, c2, d2, nl_add1]
  · rw [day] at d2
    rw [d2] at hd
    have h9 : ¬ 100000 ≤ d := fun hh => hd (le_n (a := 100000) (b := d) hh (by omega))
    omega
  · exact ((a2.mo (fun a j h => show a < 200 by have h : a = 13 := h; omega) : Kp wC S S1).tr (c4.mo (fun a j h => h.1))).sv (show 0 < 200 by omega)
  · exact ((b2.mo (fun a j h => show 200 ≤ a by have h : a = 204 := h; omega) : Kp wR T T1).tr (c5.mo (fun a j h => h.1))).sv (show 200 ≤ 200 by omega)
theorem days_l {N n st a : Nat} {K : St → Int32 → Option (Int32 × St)} {K2 : St → Int32 → Option (Int32 × St)} (hN : 1000 ≤ N) (ha : a ≤ 400) : ∀ (q v fuel : Nat) (S T : St), v + q = a → q + 1 ≤ fuel → InvN n st S T → ∃ S' T' r, f_X10_days_l15 (LL n) N (nI a) K fuel S (nI v) = K S' r ∧ f_X11_days_l15 N (nI a) K2 fuel T (nI v) = K2 T' r ∧ InvN n st S' T' ∧ Kp wC S S' ∧ Kp wR T T' := by
  intro q
  induction q with
  | zero =>
    intro v fuel S T hv hf h
    obtain ⟨fuel, rfl⟩ : ∃ q, fuel = q + 1 := ⟨fuel - 1, by omega⟩
    rw [f_X10_days_l15, f_X11_days_l15, if_pos (le_n (by omega) (by omega)), if_pos (le_n (by omega) (by omega))]
    exact ⟨S, T, nI v, rfl, rfl, h, Kp.rf, Kp.rf⟩
  | succ q ih =>
    intro v fuel S T hv hf h
    obtain ⟨fuel, rfl⟩ : ∃ q, fuel = q + 1 := ⟨fuel - 1, by omega⟩
    obtain ⟨d, dd, d1, d2⟩ := id h.2.2.1
    rw [f_X10_days_l15, f_X11_days_l15, if_neg (nle_n (by omega) (by omega)), if_neg (nle_n (by omega) (by omega))]
    by_cases c : (100000 : Int32) ≤ nI d
    · rw [d1, d2, if_pos c, if_pos c]
      exact ⟨S, T, nI v, rfl, rfl, h, Kp.rf, Kp.rf⟩
    · obtain ⟨S1, T1, e1, e2, e3, e4, e5⟩ := day_both (N := N) (v1 := nI a) (v2 := nI v) (K2 := fun S_33 => f_X11_days_l15 N (nI a) K2 fuel S_33 (nI v + 1)) hN h (by rw [d2]; exact c)
      rw [d1, d2, if_neg c, if_neg c, e1, cl0s, bnE, nl_add1]
      obtain ⟨S2, T2, r, x1, x2, x3, x4, x5⟩ := ih (v + 1) fuel S1 T1 (by omega) (by omega) e3
      refine ⟨S2, T2, r, x1, ?_, x3, e4.tr x4, e5.tr x5⟩
      rw [← x2, ← nl_add1]
      exact e2
theorem sim_days {N n st : Nat} {a : Int32} {S T : St} (hN : 1000 ≤ N) (h : InvN n st S T) : ∃ r S' T', f_X10_days (LL n) N S a = some (r, S') ∧ f_X11_days N T a = some (r, T') ∧ InvN n st S' T' ∧ Kp wC S S' ∧ Kp wR T T' := by
  unfold f_X10_days f_X11_days
  rw [within_eq, cl0s]
  by_cases c : a < 0 ∨ 400 < a
  · refine ⟨-1, S, T, ?_, ?_, h, Kp.rf, Kp.rf⟩
    · rw [if_pos c, if_pos rfl]
    · by_cases c1 : a < 0
      · rw [if_pos c1]
      · rw [if_neg c1, if_neg (i_nle.mpr (c.resolve_left c1))]
  · obtain ⟨m, h1, h2, e⟩ := i_rng (lo := 0) (hi := 400) (by omega) (by omega) c
    subst e
    rw [if_neg c, if_neg (show ¬ (1 : Int32) = 0 by decide), if_neg (fun h => c (Or.inl h)), if_pos (i_nlt.mp (fun h => c (Or.inr h)))]
    obtain ⟨S', T', r, x1, x2, x3, x4, x5⟩ := days_l (N := N) (K := fun S_10 x_11 => some (x_11, S_10)) (K2 := fun S_35 x_36 => some (x_36, S_35)) hN h2 m 0 N S T (by omega) (by omega) h
    exact ⟨r, S', T', x1, x2, x3, x4, x5⟩
theorem stp_10 {N : Nat} (hN : 1000 ≤ N) : Stp_10 N Inv := by
  intro L S a hi
  obtain ⟨n, st, hL, hv⟩ := hi
  subst hL
  obtain ⟨r, S1, T1, e1, e2, e3, e4, e5⟩ := sim_days (a := a) hN hv
  have hv1 : InvN n st S S1 := hv.fr (fun _ _ => rfl) (fun _ _ _ => rfl) (fun x y h => e4.1 x y (by unfold wC; omega))
  obtain ⟨r2, S3, T2, f1, f2, f3, f4, f5⟩ := sim_days (a := a) hN hv1
  rw [e1] at f1
  have g := Option.some.inj f1
  have g1 : r = r2 := congrArg Prod.fst g
  have g2 : S1 = S3 := congrArg Prod.snd g
  subst g1; subst g2
  exact ⟨r, S1, T2, e1, f2, n, st, rfl, f3.fr (fun x y => f5.2 x y) (fun x y h => f5.1 x y (by unfold wR; omega)) (fun _ _ _ => rfl)⟩
end DAYL
