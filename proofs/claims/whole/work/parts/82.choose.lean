section CHOOSE
theorem ix_s {n : Nat} (h : n < 2147483648) : ix (OfNat.ofNat n : Int32) = n := ix_nI h
def jv (c : Nat) (a b : Int32) : Int32 := if c = 41 then (if a = 0 then (if b = 0 then 0 else 1) else 1) else if c = 42 then (if a = 0 then 0 else (if b = 0 then 0 else 1)) else if c = 43 then (if a = b then 1 else 0) else if c = 44 then (if b ≤ a then 0 else 1) else if c = 45 then (if a ≤ b then 0 else 1) else if c = 46 then a + b else a - b
def wSt (a j : Nat) : Prop := a = 51 ∨ (a = 5 ∧ j = 2)
def wPi (a _j : Nat) : Prop := a = 250
theorem push_n {S : St} {d : Nat} {x : Int32} (h : gv S 5 2 = nI d) (hd : d < 80) : f_X8_push S x = some (sv (sv S 51 d x) 5 2 (nI (d + 1))) := by
  unfold f_X8_push
  simp only [h, nn (show d < 2147483648 by omega), ix_nI (show d < 2147483648 by omega), inG hd, or_self, or_false, false_or, if_false, if_true, reduceIte, bn, cl0, cl1, oc]
  rw [n80 hd, gv_ne (by omega), h, nl_add1]
theorem pop_n {S : St} {d : Nat} (h : gv S 5 2 = nI (d + 1)) (hd : d < 80) : f_X8_pop S = some (gv S 51 d, sv S 5 2 (nI d)) := by
  unfold f_X8_pop
  rw [h, n0 (by omega) (by omega), l80 (by omega)]
  simp only [bn, cl0, cl1, oc, nl_sub1, gv_at, nn (show d < 2147483648 by omega), ix_nI (show d < 2147483648 by omega), inG hd, or_self, or_false, false_or, if_false, if_true, reduceIte]
  rw [gv_ne (by omega)]
theorem m1m {x : Nat} (h : x < 1000) : (-1 : Int32) - nI x < 0 ∧ (-1 : Int32) - ((-1 : Int32) - nI x) = nI x := by
  have e : (-1 : Int32) - nI x = Int32.ofInt (-1 - (x : Int)) := by rw [Int32.ofInt_sub, ← n_oi]; rfl
  constructor
  · rw [e, show (0 : Int32) = Int32.ofInt 0 from rfl, oi_lt2 (by omega) (by omega)]; omega
  · rw [e, show (-1 : Int32) = Int32.ofInt (-1) from rfl, ← Int32.ofInt_sub, show (-1 - (-1 - (x : Int))) = x by omega, n_oi]
theorem bin_c {S : St} {d c v : Nat} (hc : 41 ≤ c ∧ c ≤ 47) (h : gv S 5 2 = nI (d + 2)) (hd : d + 2 ≤ 80) : tokc c v < 0 ∧ ∃ S', f_X8_reckonToken S ((-1) - tokc c v) = some S' ∧ Kp wSt S S' ∧ gv S' 5 2 = nI (d + 1) ∧ (∀ x, x < d → gv S' 51 x = gv S 51 x) ∧ gv S' 51 d = jv c (gv S 51 d) (gv S 51 (d + 1)) := by
  have j28 : ∀ t : Int32, t ≠ 7 → f_X8_join S t (gv S 51 d) (gv S 51 (d + 1)) = some (jv c (gv S 51 d) (gv S 51 (d + 1))) → (∀ S1 S2 a b, f_X8_join S1 t a b = f_X8_join S2 t a b) → f_X8_reckonToken_j28 S t = some (sv (sv (sv (sv S 5 2 (nI (d + 1))) 5 2 (nI d)) 51 d (jv c (gv S 51 d) (gv S 51 (d + 1)))) 5 2 (nI (d + 1))) := by
    intro t ht hj hf
    unfold f_X8_reckonToken_j28
    rw [if_neg ht, pop_n h (by omega)]
    simp only [bn, cl0, cl1, oc]
    rw [pop_n (d := d) gv_at (by omega)]
    simp only [bn, cl0, cl1, oc]
    rw [gv_ne (by omega), hf _ S, hj]
    simp only [bn, cl0, cl1, oc]
    rw [push_n (d := d) gv_at (by omega)]
  have fin : ∀ (t : Int32), tokc c v < 0 → (-1) - tokc c v = t → t ≠ 7 → (t - 8 < 0 ∨ 9 ≤ t - 8) → f_X8_join S t (gv S 51 d) (gv S 51 (d + 1)) = some (jv c (gv S 51 d) (gv S 51 (d + 1))) → (∀ S1 S2 a b, f_X8_join S1 t a b = f_X8_join S2 t a b) → tokc c v < 0 ∧ ∃ S', f_X8_reckonToken S ((-1) - tokc c v) = some S' ∧ Kp wSt S S' ∧ gv S' 5 2 = nI (d + 1) ∧ (∀ x, x < d → gv S' 51 x = gv S 51 x) ∧ gv S' 51 d = jv c (gv S 51 d) (gv S 51 (d + 1)) := by
    intro t h0 he h1 h2 h3 h4
    refine ⟨h0, sv (sv (sv (sv S 5 2 (nI (d + 1))) 5 2 (nI d)) 51 d (jv c (gv S 51 d) (gv S 51 (d + 1)))) 5 2 (nI (d + 1)), ?_, (((Kp.rf.sv (Or.inr ⟨rfl, rfl⟩)).sv (Or.inr ⟨rfl, rfl⟩)).sv (Or.inl rfl)).sv (Or.inr ⟨rfl, rfl⟩), gv_at, fun x hx => ?_, ?_⟩
    · rw [he]
      unfold f_X8_reckonToken
      simp only [bn, cl0, cl1, oc]
      rw [← j28 t h1 h3 h4]
      rcases h2 with h2 | h2
      · rw [if_pos h2]
      · by_cases h5 : t - 8 < 0
        · rw [if_pos h5]
        · rw [if_neg h5, if_pos h2]
    · rw [gv_ne (by omega), gv_nk (by omega), gv_ne (by omega), gv_ne (by omega)]
    · rw [gv_ne (by omega), gv_at]
  have hcs : c = 41 ∨ c = 42 ∨ c = 43 ∨ c = 44 ∨ c = 45 ∨ c = 46 ∨ c = 47 := by omega
  rcases hcs with rfl | rfl | rfl | rfl | rfl | rfl | rfl
  · refine fin 5 (show (-6 : Int32) < 0 from by decide) (show (-1 : Int32) - (-6) = 5 from by decide) (by decide) (by decide) ?_ (fun _ _ _ _ => rfl)
    simp only [f_X8_join, jv, if_true]
    split <;> (try split) <;> rfl
  · refine fin 6 (show (-7 : Int32) < 0 from by decide) (show (-1 : Int32) - (-7) = 6 from by decide) (by decide) (by decide) ?_ (fun _ _ _ _ => rfl)
    simp only [f_X8_join, jv, show ((6 : Int32) = 5) = False from by decide, show ((42 : Nat) = 41) = False from by decide, if_true, if_false]
    split <;> (try split) <;> rfl
  · refine fin 20 (show (-21 : Int32) < 0 from by decide) (show (-1 : Int32) - (-21) = 20 from by decide) (by decide) (by decide) ?_ (fun _ _ _ _ => rfl)
    show (if gv S 51 d = gv S 51 (d + 1) then some 1 else some 0) = some (if gv S 51 d = gv S 51 (d + 1) then 1 else 0)
    split <;> rfl
  · refine fin 18 (show (-19 : Int32) < 0 from by decide) (show (-1 : Int32) - (-19) = 18 from by decide) (by decide) (by decide) ?_ (fun _ _ _ _ => rfl)
    show (if gv S 51 (d + 1) ≤ gv S 51 d then some 0 else some 1) = some (if gv S 51 (d + 1) ≤ gv S 51 d then 0 else 1)
    split <;> rfl
  · refine fin 19 (show (-20 : Int32) < 0 from by decide) (show (-1 : Int32) - (-20) = 19 from by decide) (by decide) (by decide) ?_ (fun _ _ _ _ => rfl)
    show (if gv S 51 d ≤ gv S 51 (d + 1) then some 0 else some 1) = some (if gv S 51 d ≤ gv S 51 (d + 1) then 0 else 1)
    split <;> rfl
  · exact fin 21 (show (-22 : Int32) < 0 from by decide) (show (-1 : Int32) - (-22) = 21 from by decide) (by decide) (by decide) rfl (fun _ _ _ _ => rfl)
  · exact fin 22 (show (-23 : Int32) < 0 from by decide) (show (-1 : Int32) - (-23) = 22 from by decide) (by decide) (by decide) rfl (fun _ _ _ _ => rfl)
theorem one_c0 {N o i c v en fuel : Nat} {K : St → Option (Int32 × St)} {S : St} (hi : i < en) (hen : en ≤ 500) (h1 : gv S (o + 10) i = tokc c v) : f_X8_reckon_l8 N o (nI en) K (fuel + 1) S (nI i) = if tokc c v < 0 then cl0 (f_X8_reckonToken S ((-1) - tokc c v)) fun S_8 => f_X8_reckon_l8 N o (nI en) K fuel S_8 (nI (i + 1)) else cl0 (f_X8_push S (tokc c v)) fun S_8 => f_X8_reckon_l8 N o (nI en) K fuel S_8 (nI (i + 1)) := by
  generalize tokc c v = tk at h1 ⊢
  rw [f_X8_reckon_l8, if_neg (nle_n hi (by omega)), n500 (by omega)]
  simp only [nn (show i < 2147483648 by omega), ix_nI (show i < 2147483648 by omega), inG (show i < 500 by omega), or_self, or_false, false_or, if_false, if_true, reduceIte, h1, bn, nl_add1]
/-- one step of the class -/
theorem one_c {N o i d e c v en fuel : Nat} {K : St → Option (Int32 × St)} {S : St} (ho : 70 ≤ o) (hi : i < en) (hen : en ≤ 500) (h1 : gv S (o + 10) i = tokc c v) (h2 : cok c v) (hr : run1 c d = some e) (hd : d ≤ 80) (hde : e ≤ 80) (hs : gv S 5 2 = nI d) : ∃ S', f_X8_reckon_l8 N o (nI en) K (fuel + 1) S (nI i) = f_X8_reckon_l8 N o (nI en) K fuel S' (nI (i + 1)) ∧ Kp wSt S S' ∧ gv S' 5 2 = nI e ∧ (∀ x, x + 1 < e → gv S' 51 x = gv S 51 x) ∧ gv S' 51 (e - 1) = (if c = 0 then nI v else if c < 40 then gv S 50 (c - 20) else if c = 40 then (if gv S 51 (d - 1) = 0 then 1 else 0) else jv c (gv S 51 (d - 2)) (gv S 51 (d - 1))) := by
  rw [one_c0 hi hen h1]
  rcases h2 with ⟨rfl, hv⟩ | hn | hp
  · have t0 : tokc 0 v = nI v := rfl
    have : e = d + 1 := by simpa [run1] using hr.symm
    subst this
    rw [t0, if_neg (nn (by omega)), push_n hs (by omega)]
    simp only [bn, cl0, cl1, oc]
    refine ⟨_, rfl, (Kp.rf.sv (Or.inl rfl)).sv (Or.inr ⟨rfl, rfl⟩), gv_at, fun x hx => ?_, ?_⟩
    · rw [gv_ne (by omega), gv_nk (by omega)]
    · rw [gv_ne (by omega), Nat.add_sub_cancel, gv_at]
      simp only [if_true]
  · have t0 : tokc c v = (-1) - nI (c - 12) := by
      unfold tokc
      rw [if_neg (by omega), if_pos (by omega)]
    have : e = d + 1 := by
      unfold run1 at hr
      rw [if_pos (by omega)] at hr
      exact (Option.some.inj hr).symm
    subst this
    obtain ⟨m1, m2⟩ := m1m (x := c - 12) (by omega)
    rw [t0, if_pos m1, m2]
    unfold f_X8_reckonToken
    simp only [bn, cl0, cl1, oc]
    rw [show (8 : Int32) = nI 8 from rfl, nI_sub' (by omega), if_neg (nn (by omega)), n9 (by omega)]
    simp only [nn (show c - 12 - 8 < 2147483648 by omega), ix_nI (show c - 12 - 8 < 2147483648 by omega), inG (show c - 12 - 8 < 9 by omega), or_self, or_false, false_or, if_false, if_true, reduceIte]
    rw [push_n hs (by omega)]
    simp only [bn, cl0, cl1, oc]
    refine ⟨_, rfl, (Kp.rf.sv (Or.inl rfl)).sv (Or.inr ⟨rfl, rfl⟩), gv_at, fun x hx => ?_, ?_⟩
    · rw [gv_ne (by omega), gv_nk (by omega)]
    · rw [gv_ne (by omega), Nat.add_sub_cancel, gv_at, if_neg (by omega), if_pos (by omega), show c - 12 - 8 = c - 20 by omega]
  · by_cases c40 : c = 40
    · subst c40
      have t0 : tokc 40 v = -8 := rfl
      obtain ⟨q, rfl, rfl⟩ : ∃ q, d = q + 1 ∧ e = q + 1 := by
        unfold run1 at hr
        rw [if_neg (by omega), if_pos rfl] at hr
        by_cases c : 1 ≤ d
        · rw [if_pos c] at hr
          have := Option.some.inj hr
          exact ⟨d - 1, by omega, by omega⟩
        · rw [if_neg c] at hr; cases hr
      rw [t0, if_pos (by decide), show (-1 : Int32) - (-8) = 7 from by decide]
      unfold f_X8_reckonToken f_X8_reckonToken_j28
      simp only [bn]
      rw [if_pos (show (7 : Int32) - 8 < 0 by decide)]
      simp only [if_true]
      rw [pop_n hs (by omega), cl1s]
      rw [push_n (d := q) gv_at (by omega), push_n (d := q) gv_at (by omega), cl0s, cl0s]
      have b : ∀ x : Int32, Kp wSt S (sv (sv (sv S 5 2 (nI q)) 51 q x) 5 2 (nI (q + 1))) ∧ gv (sv (sv (sv S 5 2 (nI q)) 51 q x) 5 2 (nI (q + 1))) 5 2 = nI (q + 1) ∧ (∀ y, y + 1 < q + 1 → gv (sv (sv (sv S 5 2 (nI q)) 51 q x) 5 2 (nI (q + 1))) 51 y = gv S 51 y) ∧ gv (sv (sv (sv S 5 2 (nI q)) 51 q x) 5 2 (nI (q + 1))) 51 q = x := by
        intro x
        refine ⟨((Kp.rf.sv (Or.inr ⟨rfl, rfl⟩)).sv (Or.inl rfl)).sv (Or.inr ⟨rfl, rfl⟩), gv_at, fun y hy => ?_, ?_⟩
        · rw [gv_ne (by omega), gv_nk (by omega), gv_ne (by omega)]
        · rw [gv_ne (by omega), gv_at]
      rw [if_neg (show ¬ (40 : Nat) < 40 by omega), Nat.add_sub_cancel]
      by_cases c0 : gv S 51 q = 0
      · rw [if_pos c0, if_pos c0, cl0s]
        exact ⟨_, rfl, b 1⟩
      · rw [if_neg c0, if_neg c0, cl0s]
        exact ⟨_, rfl, b 0⟩
    · obtain ⟨q, rfl, rfl⟩ : ∃ q, d = q + 2 ∧ e = q + 1 := by
        unfold run1 at hr
        rw [if_neg (by omega), if_neg c40] at hr
        by_cases c : 2 ≤ d
        · rw [if_pos c] at hr
          have := Option.some.inj hr
          exact ⟨d - 2, by omega, by omega⟩
        · rw [if_neg c] at hr; cases hr
      obtain ⟨b0, S', b1, b2, b3, b4, b5⟩ := bin_c (S := S) (d := q) (c := c) (v := v) (by omega) hs hd
      rw [if_pos b0, b1]
      simp only [bn, cl0, cl1, oc]
      refine ⟨S', rfl, b2, b3, fun x hx => b4 x (by omega), ?_⟩
      rw [if_neg (by omega), if_neg (by omega), if_neg c40]
      exact b5
theorem bnE {α β : Type} {e : α} {f : α → β} : bn e f = f e := Eq.trans rfl rfl
theorem bin_r {N k j x d c fuel en : Nat} {K : St → Option (Int32 × St)} {T : St} (hk : k < 6) (hj : j < 8) (hx : x < 500 * k + en) (hen : en ≤ 500) (h5 : gv T 225 (10 * k + j + 1) = nI en) (h1 : gv T 223 x = nI c) (hc : 41 ≤ c ∧ c ≤ 47) (hd : d + 2 ≤ 80) : f_X11_holds_l21 N (nI k) (nI j) K (fuel + 1) T (nI (d + 2)) (nI x) = f_X11_holds_l21 N (nI k) (nI j) K fuel (sv T 250 d (jv c (gv T 250 d) (gv T 250 (d + 1)))) (nI (d + 1)) (nI (x + 1)) := by
  have e10 : (10 : Int32) * nI k + nI j + 1 = nI (10 * k + j + 1) := by rw [show (10 : Int32) = nI 10 from rfl, nI_mul, nI_add, nl_add1]
  have e5 : (500 : Int32) * nI k + gv T 225 (ix (nI (10 * k + j + 1))) = nI (500 * k + en) := by rw [ix_nI (by omega), h5, show (500 : Int32) = nI 500 from rfl, nI_mul, nI_add]
  have e6 : gv T 223 (ix (nI x)) = nI c := by rw [ix_nI (by omega)]; exact h1
  rw [f_X11_holds_l21, e10, if_neg (in_ok (show 10 * k + j + 1 < 60 by omega) (by omega)), e5, if_neg (nle_n (show x < 500 * k + en by omega) (by omega)), if_neg (in_ok (show x < 3000 by omega) (by omega)), e6, bnE]
  have f1 : ix (nI (d + 1) - 1) = d := by rw [nl_sub1, ix_nI (by omega)]
  have f2 : ix (nI (d + 1)) = d + 1 := ix_nI (by omega)
  have f3 : ¬ (nI (d + 1) - 1 < 0 ∨ 300 ≤ ix (nI (d + 1) - 1)) := by rw [nl_sub1]; exact in_ok (by omega) (by omega)
  have f5 : ¬ (nI (d + 1) - 1 < 0 ∨ 300 ≤ d) := by
    rw [f1] at f3
    exact f3
  have f4 : ¬ (nI (d + 1) < 0 ∨ 300 ≤ ix (nI (d + 1))) := in_ok (by omega) (by omega)
  rw [if_pos (show (40 : Int32) ≤ nI c from le_n (a := 40) (by omega) (by omega)), if_neg (show ¬ nI c = 40 from ne_n (b := 40) (by omega) (by omega) (by omega)), show nI (d + 2) + (-1) = nI (d + 1) from nl_m1, bnE, if_neg f3, bnE, if_neg f4, bnE, f1, f2]
  have hcs : c = 41 ∨ c = 42 ∨ c = 43 ∨ c = 44 ∨ c = 45 ∨ c = 46 ∨ c = 47 := by omega
  generalize gv T 250 d = a
  generalize gv T 250 (d + 1) = b
  have n41 : ∀ m : Nat, m ≤ 47 → m ≠ c → ¬ nI c = nI m := fun m h1 h2 => ne_n (fun e => h2 e.symm) (by omega) (by omega)
  have fx : ∀ y : Int32, (bn (sv T 250 d y) fun S_21 => bn (nI x + 1) fun x_22 => f_X11_holds_l21 N (nI k) (nI j) K fuel S_21 (nI (d + 1)) x_22) = f_X11_holds_l21 N (nI k) (nI j) K fuel (sv T 250 d y) (nI (d + 1)) (nI (x + 1)) := fun y => by rw [bnE, bnE, nl_add1]
  rcases hcs with rfl | rfl | rfl | rfl | rfl | rfl | rfl
  · rw [show jv 41 a b = if a = 0 then (if b = 0 then 0 else 1) else 1 from rfl, if_pos (show nI 41 = 41 from rfl)]
    by_cases c1 : a = 0
    · rw [if_pos c1, if_pos c1]
      by_cases c2 : b = 0
      · rw [if_pos c2, if_pos c2, if_neg f5, fx]
      · rw [if_neg c2, if_neg c2, if_neg f5, fx]
    · rw [if_neg c1, if_neg c1, if_neg f5, fx]
  · rw [show jv 42 a b = if a = 0 then 0 else (if b = 0 then 0 else 1) from rfl, if_neg (show ¬ nI 42 = 41 from n41 41 (by omega) (by omega)), if_pos (show nI 42 = 42 from rfl)]
    by_cases c1 : a = 0
    · rw [if_pos c1, if_pos c1, if_neg f5, fx]
    · rw [if_neg c1, if_neg c1]
      by_cases c2 : b = 0
      · rw [if_pos c2, if_pos c2, if_neg f5, fx]
      · rw [if_neg c2, if_neg c2, if_neg f5, fx]
  · rw [show jv 43 a b = if a = b then 1 else 0 from rfl, if_neg (show ¬ nI 43 = 41 from n41 41 (by omega) (by omega)), if_neg (show ¬ nI 43 = 42 from n41 42 (by omega) (by omega)), if_pos (show nI 43 = 43 from rfl)]
    by_cases c1 : a = b
    · rw [if_pos c1, if_pos c1, if_neg f5, fx]
    · rw [if_neg c1, if_neg c1, if_neg f5, fx]
  · rw [show jv 44 a b = if b ≤ a then 0 else 1 from rfl, if_neg (show ¬ nI 44 = 41 from n41 41 (by omega) (by omega)), if_neg (show ¬ nI 44 = 42 from n41 42 (by omega) (by omega)), if_neg (show ¬ nI 44 = 43 from n41 43 (by omega) (by omega)), if_pos (show nI 44 = 44 from rfl)]
    by_cases c1 : b ≤ a
    · rw [if_pos c1, if_pos c1, if_neg f5, fx]
    · rw [if_neg c1, if_neg c1, if_neg f5, fx]
  · rw [show jv 45 a b = if a ≤ b then 0 else 1 from rfl, if_neg (show ¬ nI 45 = 41 from n41 41 (by omega) (by omega)), if_neg (show ¬ nI 45 = 42 from n41 42 (by omega) (by omega)), if_neg (show ¬ nI 45 = 43 from n41 43 (by omega) (by omega)), if_neg (show ¬ nI 45 = 44 from n41 44 (by omega) (by omega)), if_pos (show nI 45 = 45 from rfl)]
    by_cases c1 : a ≤ b
    · rw [if_pos c1, if_pos c1, if_neg f5, fx]
    · rw [if_neg c1, if_neg c1, if_neg f5, fx]
  · rw [show jv 46 a b = a + b from rfl, if_neg (show ¬ nI 46 = 41 from n41 41 (by omega) (by omega)), if_neg (show ¬ nI 46 = 42 from n41 42 (by omega) (by omega)), if_neg (show ¬ nI 46 = 43 from n41 43 (by omega) (by omega)), if_neg (show ¬ nI 46 = 44 from n41 44 (by omega) (by omega)), if_neg (show ¬ nI 46 = 45 from n41 45 (by omega) (by omega)), if_pos (show nI 46 = 46 from rfl)]
    rw [if_neg f5, fx]
  · rw [show jv 47 a b = a - b from rfl, if_neg (show ¬ nI 47 = 41 from n41 41 (by omega) (by omega)), if_neg (show ¬ nI 47 = 42 from n41 42 (by omega) (by omega)), if_neg (show ¬ nI 47 = 43 from n41 43 (by omega) (by omega)), if_neg (show ¬ nI 47 = 44 from n41 44 (by omega) (by omega)), if_neg (show ¬ nI 47 = 45 from n41 45 (by omega) (by omega)), if_neg (show ¬ nI 47 = 46 from n41 46 (by omega) (by omega))]
    rw [if_neg f5, fx]
theorem not_r {N k j x d c fuel en : Nat} {K : St → Option (Int32 × St)} {T : St} (hk : k < 6) (hj : j < 8) (hx : x < 500 * k + en) (hen : en ≤ 500) (h5 : gv T 225 (10 * k + j + 1) = nI en) (h1 : gv T 223 x = nI c) (hc : c = 40) (hd : d + 1 ≤ 80) : f_X11_holds_l21 N (nI k) (nI j) K (fuel + 1) T (nI (d + 1)) (nI x) = f_X11_holds_l21 N (nI k) (nI j) K fuel (sv T 250 d (if gv T 250 d = 0 then 1 else 0)) (nI (d + 1)) (nI (x + 1)) := by
  have e10 : (10 : Int32) * nI k + nI j + 1 = nI (10 * k + j + 1) := by rw [show (10 : Int32) = nI 10 from rfl, nI_mul, nI_add, nl_add1]
  have e5 : (500 : Int32) * nI k + gv T 225 (ix (nI (10 * k + j + 1))) = nI (500 * k + en) := by rw [ix_nI (by omega), h5, show (500 : Int32) = nI 500 from rfl, nI_mul, nI_add]
  have e6 : gv T 223 (ix (nI x)) = nI c := by rw [ix_nI (by omega)]; exact h1
  rw [f_X11_holds_l21, e10, if_neg (in_ok (show 10 * k + j + 1 < 60 by omega) (by omega)), e5, if_neg (nle_n (show x < 500 * k + en by omega) (by omega)), if_neg (in_ok (show x < 3000 by omega) (by omega)), e6, bnE]
  have f1 : ix (nI (d + 1) - 1) = d := by rw [nl_sub1, ix_nI (by omega)]
  have f3 : ¬ (nI (d + 1) - 1 < 0 ∨ 300 ≤ ix (nI (d + 1) - 1)) := by rw [nl_sub1]; exact in_ok (by omega) (by omega)
  have f5 : ¬ (nI (d + 1) - 1 < 0 ∨ 300 ≤ d) := by
    rw [f1] at f3
    exact f3
  subst hc
  rw [if_pos (show (40 : Int32) ≤ nI 40 by decide), if_pos (show nI 40 = 40 from rfl), if_neg f3, f1]
  by_cases c1 : gv T 250 d = 0
  · rw [if_pos c1, if_pos c1, if_neg f5, bnE, bnE, nl_add1]
  · rw [if_neg c1, if_neg c1, if_neg f5, bnE, bnE, nl_add1]
theorem num_r {v : Nat} {N k j x d c fuel en : Nat} {K : St → Option (Int32 × St)} {T : St} (hk : k < 6) (hj : j < 8) (hx : x < 500 * k + en) (hen : en ≤ 500) (h5 : gv T 225 (10 * k + j + 1) = nI en) (h1 : gv T 223 x = nI c) (hc : c = 0) (h3 : gv T 224 x = nI v) (hd : d < 80) : f_X11_holds_l21 N (nI k) (nI j) K (fuel + 1) T (nI d) (nI x) = f_X11_holds_l21 N (nI k) (nI j) K fuel (sv T 250 d (nI v)) (nI (d + 1)) (nI (x + 1)) := by
  have e10 : (10 : Int32) * nI k + nI j + 1 = nI (10 * k + j + 1) := by rw [show (10 : Int32) = nI 10 from rfl, nI_mul, nI_add, nl_add1]
  have e5 : (500 : Int32) * nI k + gv T 225 (ix (nI (10 * k + j + 1))) = nI (500 * k + en) := by rw [ix_nI (by omega), h5, show (500 : Int32) = nI 500 from rfl, nI_mul, nI_add]
  have e6 : gv T 223 (ix (nI x)) = nI c := by rw [ix_nI (by omega)]; exact h1
  rw [f_X11_holds_l21, e10, if_neg (in_ok (show 10 * k + j + 1 < 60 by omega) (by omega)), e5, if_neg (nle_n (show x < 500 * k + en by omega) (by omega)), if_neg (in_ok (show x < 3000 by omega) (by omega)), e6, bnE]
  subst hc
  have e7 : gv T 224 (ix (nI x)) = nI v := by rw [ix_nI (by omega)]; exact h3
  rw [if_neg (show ¬ (40 : Int32) ≤ nI 0 by decide), if_pos (show nI 0 = 0 from rfl), if_neg (in_ok (show x < 3000 by omega) (by omega)), if_neg (in_ok (show d < 300 by omega) (by omega)), e7, ix_nI (show d < 2147483648 by omega), bnE, bnE, bnE, nl_add1, nl_add1]
theorem nam_r {N k j x d c fuel en : Nat} {K : St → Option (Int32 × St)} {T : St} (hk : k < 6) (hj : j < 8) (hx : x < 500 * k + en) (hen : en ≤ 500) (h5 : gv T 225 (10 * k + j + 1) = nI en) (h1 : gv T 223 x = nI c) (hc : 20 ≤ c ∧ c ≤ 28) (hd : d < 80) : f_X11_holds_l21 N (nI k) (nI j) K (fuel + 1) T (nI d) (nI x) = f_X11_holds_l21 N (nI k) (nI j) K fuel (sv T 250 d (gv T 251 (c - 20))) (nI (d + 1)) (nI (x + 1)) := by
  have e10 : (10 : Int32) * nI k + nI j + 1 = nI (10 * k + j + 1) := by rw [show (10 : Int32) = nI 10 from rfl, nI_mul, nI_add, nl_add1]
  have e5 : (500 : Int32) * nI k + gv T 225 (ix (nI (10 * k + j + 1))) = nI (500 * k + en) := by rw [ix_nI (by omega), h5, show (500 : Int32) = nI 500 from rfl, nI_mul, nI_add]
  have e6 : gv T 223 (ix (nI x)) = nI c := by rw [ix_nI (by omega)]; exact h1
  rw [f_X11_holds_l21, e10, if_neg (in_ok (show 10 * k + j + 1 < 60 by omega) (by omega)), e5, if_neg (nle_n (show x < 500 * k + en by omega) (by omega)), if_neg (in_ok (show x < 3000 by omega) (by omega)), e6, bnE]
  have e8 : nI c - 20 = nI (c - 20) := by rw [show (20 : Int32) = nI 20 from rfl, nI_sub' hc.1]
  rw [if_neg (show ¬ (40 : Int32) ≤ nI c from nle_n (a := 40) (by omega) (by omega)), if_neg (show ¬ nI c = 0 from ne_n (b := 0) (by omega) (by omega) (by omega)), e8, if_neg (in_ok (show c - 20 < 9 by omega) (by omega)), if_neg (in_ok (show d < 300 by omega) (by omega)), ix_nI (show d < 2147483648 by omega), ix_nI (show c - 20 < 2147483648 by omega), bnE, bnE, bnE, nl_add1, nl_add1]
/-- one step of the reference -/
theorem one_r {N k j i d e c v fuel en : Nat} {K : St → Option (Int32 × St)} {T : St} (hk : k < 6) (hj : j < 8) (hi : i < en) (hen : en ≤ 500) (h5 : gv T 225 (10 * k + j + 1) = nI en) (h1 : gv T 223 (500 * k + i) = nI c) (h3 : c = 0 → gv T 224 (500 * k + i) = nI v) (h2 : cok c v) (hr : run1 c d = some e) (hd : d ≤ 80) (hde : e ≤ 80) : ∃ T', f_X11_holds_l21 N (nI k) (nI j) K (fuel + 1) T (nI d) (nI (500 * k + i)) = f_X11_holds_l21 N (nI k) (nI j) K fuel T' (nI e) (nI (500 * k + (i + 1))) ∧ Kp wPi T T' ∧ (∀ x, x + 1 < e → gv T' 250 x = gv T 250 x) ∧ gv T' 250 (e - 1) = (if c = 0 then nI v else if c < 40 then gv T 251 (c - 20) else if c = 40 then (if gv T 250 (d - 1) = 0 then 1 else 0) else jv c (gv T 250 (d - 2)) (gv T 250 (d - 1))) := by
  by_cases hb : 41 ≤ c
  · obtain ⟨q, rfl, rfl⟩ : ∃ q, d = q + 2 ∧ e = q + 1 := by
      unfold run1 at hr
      rw [if_neg (by omega), if_neg (by omega)] at hr
      by_cases c : 2 ≤ d
      · rw [if_pos c] at hr
        have := Option.some.inj hr
        exact ⟨d - 2, by omega, by omega⟩
      · rw [if_neg c] at hr; cases hr
    have hc7 : c ≤ 47 := by unfold cok at h2; omega
    rw [bin_r hk hj (show 500 * k + i < 500 * k + en by omega) hen h5 h1 ⟨hb, hc7⟩ hd]
    refine ⟨_, rfl, Kp.rf.sv rfl, fun x hx => gv_nk (by omega), ?_⟩
    rw [if_neg (by omega), if_neg (by omega), if_neg (by omega)]
    exact gv_at
  · by_cases c40 : c = 40
    · obtain ⟨q, rfl, rfl⟩ : ∃ q, d = q + 1 ∧ e = q + 1 := by
        unfold run1 at hr
        rw [if_neg (by omega), if_pos c40] at hr
        by_cases c : 1 ≤ d
        · rw [if_pos c] at hr
          have := Option.some.inj hr
          exact ⟨d - 1, by omega, by omega⟩
        · rw [if_neg c] at hr; cases hr
      rw [not_r hk hj (show 500 * k + i < 500 * k + en by omega) hen h5 h1 c40 hd]
      refine ⟨_, rfl, Kp.rf.sv rfl, fun x hx => gv_nk (by omega), ?_⟩
      rw [if_neg (show ¬ c = 0 by omega), if_neg (show ¬ c < 40 by omega), if_pos c40]
      exact gv_at
    · have hlt : c < 40 := by unfold cok at h2; omega
      have : e = d + 1 := by
        unfold run1 at hr
        rw [if_pos hlt] at hr
        exact (Option.some.inj hr).symm
      subst this
      by_cases c0 : c = 0
      · rw [num_r hk hj (show 500 * k + i < 500 * k + en by omega) hen h5 h1 c0 (h3 c0) (by omega)]
        refine ⟨_, rfl, Kp.rf.sv rfl, fun x hx => gv_nk (by omega), ?_⟩
        rw [if_pos c0]
        exact gv_at
      · have h20 : 20 ≤ c ∧ c ≤ 28 := by unfold cok at h2; omega
        rw [nam_r hk hj (show 500 * k + i < 500 * k + en by omega) hen h5 h1 h20 (by omega)]
        refine ⟨_, rfl, Kp.rf.sv rfl, fun x hx => gv_nk (by omega), ?_⟩
        rw [if_neg c0, if_pos hlt]
        exact gv_at
/-- what stands at a place of the steps -/
def Sgt (S T : St) (o k i : Nat) (x : Nat × Nat) : Prop := gv S (o + 10) i = tokc x.1 x.2 ∧ gv T 223 (500 * k + i) = nI x.1 ∧ (x.1 = 0 → gv T 224 (500 * k + i) = nI x.2) ∧ cok x.1 x.2
theorem ev_l {N o k j en : Nat} {K : St → Option (Int32 × St)} {K2 : St → Option (Int32 × St)} (ho : 70 ≤ o) (hk : k < 6) (hj : j < 8) (hen : en ≤ 500) : ∀ (l : List (Nat × Nat)) (i d e fuel : Nat) (S T : St), i + l.length = en → (∀ t x, l[t]? = some x → Sgt S T o k (i + t) x) → gv T 225 (10 * k + j + 1) = nI en → run l d = some e → d + vals l ≤ 80 → gv S 5 2 = nI d → (∀ x, x < d → gv S 51 x = gv T 250 x) → (∀ x, x < 9 → gv S 50 x = gv T 251 x) → l.length + 1 ≤ fuel → ∃ S' T', f_X8_reckon_l8 N o (nI en) K fuel S (nI i) = K S' ∧ f_X11_holds_l21 N (nI k) (nI j) K2 fuel T (nI d) (nI (500 * k + i)) = K2 T' ∧ gv S' 5 2 = nI e ∧ e ≤ 80 ∧ (∀ x, x < e → gv S' 51 x = gv T' 250 x) ∧ Kp wSt S S' ∧ Kp wPi T T' := by
  intro l
  induction l with
  | nil =>
    intro i d e fuel S T hi hx h5 hr hd hs h1 h2 hf
    obtain ⟨fuel, rfl⟩ : ∃ q, fuel = q + 1 := ⟨fuel - 1, by omega⟩
    simp only [List.length_nil, Nat.add_zero] at hi
    subst hi
    have : d = e := Option.some.inj hr
    subst this
    refine ⟨S, T, ?_, ?_, hs, by simpa [vals] using hd, h1, Kp.rf, Kp.rf⟩
    · rw [f_X8_reckon_l8, if_pos (le_n (Nat.le_refl _) (by omega))]
    · rw [f_X11_holds_l21]
      rw [show (10 : Int32) = nI 10 from rfl, show (500 : Int32) = nI 500 from rfl, nI_mul, nI_mul, nI_add, nl_add1]
      simp only [nn (show 10 * k + j + 1 < 2147483648 by omega), ix_nI (show 10 * k + j + 1 < 2147483648 by omega), inG (show 10 * k + j + 1 < 60 by omega), or_self, or_false, false_or, if_false, if_true, reduceIte, h5, nI_add]
      rw [if_pos (le_n (Nat.le_refl _) (by omega))]
  | cons x l ih =>
    intro i d e fuel S T hi hx h5 hr hd hs h1 h2 hf
    obtain ⟨c, v⟩ := x
    obtain ⟨fuel, rfl⟩ : ∃ q, fuel = q + 1 := ⟨fuel - 1, by omega⟩
    simp only [List.length_cons] at hi hf
    obtain ⟨x1, x2, x3, x4⟩ := hx 0 (c, v) rfl
    simp only [Nat.add_zero] at x1 x2 x3
    obtain ⟨e1, hr1, hr2⟩ : ∃ e1, run1 c d = some e1 ∧ run l e1 = some e := by
      simp only [run] at hr
      cases h : run1 c d with
      | none => rw [h] at hr; cases hr
      | some e1 => rw [h] at hr; exact ⟨e1, rfl, hr⟩
    have hd1 : e1 + vals l ≤ 80 := by
      unfold run1 at hr1
      simp only [vals] at hd
      by_cases c1 : c < 40
      · rw [if_pos c1] at hr1 hd
        have := Option.some.inj hr1
        omega
      · rw [if_neg c1] at hr1 hd
        by_cases c2 : c = 40
        · rw [if_pos c2] at hr1
          split at hr1
          · have := Option.some.inj hr1; omega
          · cases hr1
        · rw [if_neg c2] at hr1
          split at hr1
          · have := Option.some.inj hr1; omega
          · cases hr1
    have hpos : 1 ≤ e1 ∧ (40 = c → 1 ≤ d) ∧ (40 < c → 2 ≤ d) := by
      unfold run1 at hr1
      by_cases c1 : c < 40
      · rw [if_pos c1] at hr1
        have := Option.some.inj hr1
        omega
      · rw [if_neg c1] at hr1
        by_cases c2 : c = 40
        · rw [if_pos c2] at hr1
          split at hr1
          · have := Option.some.inj hr1; omega
          · cases hr1
        · rw [if_neg c2] at hr1
          split at hr1
          · have := Option.some.inj hr1; omega
          · cases hr1
    have hd2 : (e1 ≤ d ∨ e1 = d + 1) ∧ d ≤ e1 + 1 := by
      unfold run1 at hr1
      by_cases c1 : c < 40
      · rw [if_pos c1] at hr1
        have := Option.some.inj hr1
        omega
      · rw [if_neg c1] at hr1
        by_cases c2 : c = 40
        · rw [if_pos c2] at hr1
          split at hr1
          · have := Option.some.inj hr1; omega
          · cases hr1
        · rw [if_neg c2] at hr1
          split at hr1
          · have := Option.some.inj hr1; omega
          · cases hr1
    obtain ⟨S1, a1, a2, a3, a4, a5⟩ := one_c (N := N) (K := K) (fuel := fuel) ho (show i < en by omega) hen x1 x4 hr1 (by omega) (by omega) hs
    obtain ⟨T1, b1, b2, b4, b5⟩ := one_r (N := N) (K := K2) (fuel := fuel) hk hj (show i < en by omega) hen h5 x2 x3 x4 hr1 (by omega) (by omega)
    have hval : gv S1 51 (e1 - 1) = gv T1 250 (e1 - 1) := by
      rw [a5, b5]
      unfold cok at x4
      by_cases c0 : c = 0
      · rw [if_pos c0, if_pos c0]
      · rw [if_neg c0, if_neg c0]
        by_cases c1 : c < 40
        · rw [if_pos c1, if_pos c1]
          exact h2 (c - 20) (by omega)
        · rw [if_neg c1, if_neg c1]
          by_cases c2 : c = 40
          · rw [if_pos c2, if_pos c2, h1 (d - 1) (by omega)]
          · rw [if_neg c2, if_neg c2, h1 (d - 1) (by omega), h1 (d - 2) (by omega)]
    obtain ⟨S2, T2, g1, g2, g3, g4, g5, g6, g7⟩ := ih (i + 1) e1 e fuel S1 T1 (by omega) (fun t y hy => by
      have := hx (t + 1) y hy
      rw [show i + 1 + t = i + (t + 1) by omega]
      unfold Sgt at this ⊢
      rw [a2.1 _ _ (by unfold wSt; omega), b2.1 _ _ (by unfold wPi; omega), b2.1 _ _ (by unfold wPi; omega)]
      exact this) (by rw [b2.1 _ _ (by unfold wPi; omega)]; exact h5) hr2 hd1 a3 (fun x hx => by
      by_cases cx : x = e1 - 1
      · rw [cx]; exact hval
      · rw [a4 x (by omega), b4 x (by omega)]
        exact h1 x (by omega)) (fun x hx => by
      rw [a2.1 _ _ (by unfold wSt; omega), b2.1 _ _ (by unfold wPi; omega)]
      exact h2 x hx) (by omega)
    exact ⟨S2, T2, a1.trans g1, b1.trans g2, g3, g4, g5, a2.tr g6, b2.tr g7⟩
theorem line_both {N o k j a en : Nat} {l : List (Nat × Nat)} {S T : St} (hN : 1000 ≤ N) (ho : 70 ≤ o) (hk : k < 6) (hj : j < 8) (hen : en ≤ 500) (ha : a + l.length = en) (hx : ∀ t x, l[t]? = some x → Sgt S T o k (a + t) x) (h4 : gv T 225 (10 * k + j) = nI a) (h5 : gv T 225 (10 * k + j + 1) = nI en) (hr : run l 0 = some 1) (hv : vals l ≤ 80) (h2 : ∀ x, x < 9 → gv S 50 x = gv T 251 x) : ∃ S' T' r, f_X8_reckon N S o (nI a) (nI en) = some (r, S') ∧ f_X11_holds N T (nI k) (nI j) = some (if r = 0 then 0 else 1, T') ∧ Kp wSt S S' ∧ Kp wPi T T' := by
  obtain ⟨S1, T1, g1, g2, g3, g4, g5, g6, g7⟩ := ev_l (N := N) (o := o) (k := k) (j := j) (en := en) (K := fun S_14 => cl1 (f_X8_pop S_14) fun r_16 S_17 => some (r_16, S_17)) (K2 := fun S_88 => if (gv S_88 250 (ix 0)) = 0 then (some (0, S_88)) else (some (1, S_88))) ho hk hj hen l a 0 1 N (sv S 5 2 0) T ha (fun t x h => by
    have := hx t x h
    unfold Sgt at this ⊢
    rw [gv_ne (by omega)]
    exact this) h5 hr (by omega) (by rw [gv_at]; rfl) (fun x h => by omega) (fun x h => by rw [gv_ne (by omega)]; exact h2 x h) (by omega)
  refine ⟨_, T1, gv S1 51 0, ?_, ?_, (Kp.rf.sv (Or.inr ⟨rfl, rfl⟩) : Kp wSt S (sv S 5 2 0)).tr (g6.sv (x := nI 0) (Or.inr ⟨rfl, rfl⟩)), g7⟩
  · unfold f_X8_reckon
    rw [bnE, g1, pop_n (d := 0) g3 (by omega), cl1s]
  · unfold f_X11_holds
    rw [show (10 : Int32) = nI 10 from rfl, show (500 : Int32) = nI 500 from rfl, nI_mul, nI_mul, nI_add]
    simp only [nn (show 10 * k + j < 2147483648 by omega), ix_nI (show 10 * k + j < 2147483648 by omega), inG (show 10 * k + j < 60 by omega), or_self, or_false, false_or, if_false, if_true, reduceIte, h4, nI_add, bn, cl0, cl1, oc]
    rw [show (0 : Int32) = nI 0 from rfl] at g2 ⊢
    rw [g2, g5 0 (by omega)]
    rw [show ix (nI 0) = 0 from rfl]
    split <;> rfl
theorem FL_app : ∀ (A B : List (List (Nat × Nat) × Nat)), FL (A ++ B) = FL A ++ FL B
  | [], B => rfl
  | x :: A, B => by simp only [List.cons_append, FL, FL_app A B, List.append_assoc]
theorem vals_app : ∀ (A B : List (Nat × Nat)), vals (A ++ B) = vals A + vals B
  | [], B => by simp [vals]
  | x :: A, B => by simp only [List.cons_append, vals, vals_app A B]; omega
theorem FL_split {Ls : List (List (Nat × Nat) × Nat)} {j : Nat} {l : List (Nat × Nat)} {a : Nat} (h : Ls[j]? = some (l, a)) : FL Ls = FL (Ls.take j) ++ (l ++ FL (Ls.drop (j + 1))) ∧ FL (Ls.take (j + 1)) = FL (Ls.take j) ++ l := by
  obtain ⟨hj, hg⟩ := List.getElem?_eq_some_iff.mp h
  constructor
  · conv => lhs; rw [← List.take_append_drop j Ls]
    rw [FL_app, List.drop_eq_getElem_cons hj, hg]
    rfl
  · rw [List.take_succ_eq_append_getElem hj, FL_app, hg]
    simp [FL]
theorem ch_both {N o k : Nat} {Ls : List (List (Nat × Nat) × Nat)} {K : St → Int32 → Option (Int32 × St)} {K2 : St → Int32 → Option St} (hN : 1000 ≤ N) (ho : 70 ≤ o) (hk : k < 6) : ∀ (q j fuel : Nat) (S T : St), j + q = Ls.length → q + 1 ≤ fuel → ORel S T o k Ls → (∀ x, x < 9 → gv S 50 x = gv T 251 x) → ∃ S' T', Kp wSt S S' ∧ Kp wPi T T' ∧ ((f_X8_choose_l4 N o K fuel S (nI (FL (Ls.take j)).length) (nI j) = some (-1, S') ∧ f_X11_go_l123 N (nI k) K2 fuel T (nI j) = K2 T' (nI Ls.length)) ∨ ∃ i, i < Ls.length ∧ f_X8_choose_l4 N o K fuel S (nI (FL (Ls.take j)).length) (nI j) = K S' (nI i) ∧ f_X11_go_l123 N (nI k) K2 fuel T (nI j) = K2 T' (nI i)) := by
  intro q
  induction q with
  | zero =>
    intro j fuel S T hj hf hO hn
    obtain ⟨fuel, rfl⟩ : ∃ q, fuel = q + 1 := ⟨fuel - 1, by omega⟩
    obtain ⟨o1, o2, o3, o4, o5, o6, o7, o8, o9⟩ := hO
    refine ⟨S, T, Kp.rf, Kp.rf, Or.inl ⟨?_, ?_⟩⟩
    · rw [f_X8_choose_l4, o2, if_pos (le_n (by omega) (by omega))]
    · rw [f_X11_go_l123]
      simp only [nn (show k < 2147483648 by omega), ix_nI (show k < 2147483648 by omega), inG hk, or_self, or_false, false_or, if_false, if_true, reduceIte, o3]
      rw [if_pos (le_n (by omega) (by omega)), show j = Ls.length by omega]
  | succ q ih =>
    intro j fuel S T hj hf hO hn
    obtain ⟨fuel, rfl⟩ : ∃ q, fuel = q + 1 := ⟨fuel - 1, by omega⟩
    obtain ⟨o1, o2, o3, o4, o5, o6, o7, o8, o9⟩ := id hO
    have hjl : j < Ls.length := by omega
    obtain ⟨l, a, hl⟩ : ∃ l a, Ls[j]? = some (l, a) := ⟨Ls[j].1, Ls[j].2, by rw [List.getElem?_eq_getElem hjl]⟩
    obtain ⟨f1, f2⟩ := FL_split hl
    have lenE : (FL (Ls.take (j + 1))).length = (FL (Ls.take j)).length + l.length := by rw [f2, List.length_append]
    have lenF : (FL Ls).length = (FL (Ls.take j)).length + (l.length + (FL (Ls.drop (j + 1))).length) := by rw [f1]; simp [List.length_append]
    have hv : vals l ≤ 80 := by
      rw [f1, vals_app, vals_app] at o5; omega
    obtain ⟨S1, T1, r, e1, e2, k1, k2⟩ := line_both (N := N) (o := o) (k := k) (j := j) (a := (FL (Ls.take j)).length) (en := (FL (Ls.take (j + 1))).length) (l := l) (S := S) (T := T) hN ho hk (by omega) (by omega) lenE.symm (fun t x hx => by
      obtain ⟨ht, _⟩ := List.getElem?_eq_some_iff.mp hx
      have : (FL Ls)[(FL (Ls.take j)).length + t]? = some (x.1, x.2) := by
        rw [f1, List.getElem?_append_right (by omega), Nat.add_sub_cancel_left, List.getElem?_append_left ht]
        exact hx
      exact o6 _ _ _ this) (o8 (by omega) j (by omega)) (o8 (by omega) (j + 1) (by omega)) (o9 j l a hl).1 hv hn
    have hO1 : ORel S1 T1 o k Ls := hO.ag (fun x => k1.1 _ _ (by unfold wSt; omega)) (fun x => k1.1 _ _ (by unfold wSt; omega)) (fun x => k1.1 _ _ (by unfold wSt; omega)) (fun x => k1.1 _ _ (by unfold wSt; omega)) (fun x y h1 h2 => k2.1 _ _ (by unfold wPi; omega))
    have hn1 : ∀ x, x < 9 → gv S1 50 x = gv T1 251 x := fun x hx => by
      rw [k1.1 _ _ (by unfold wSt; omega), k2.1 _ _ (by unfold wPi; omega)]; exact hn x hx
    have c1 : f_X8_choose_l4 N o K (fuel + 1) S (nI (FL (Ls.take j)).length) (nI j) = if r = 0 then f_X8_choose_l4 N o K fuel S1 (nI (FL (Ls.take (j + 1))).length) (nI (j + 1)) else K S1 (nI j) := by
      rw [f_X8_choose_l4, o2, if_neg (nle_n (by omega) (by omega))]
      simp only [nn (show j < 2147483648 by omega), ix_nI (show j < 2147483648 by omega), inG (show j < 8 by omega), or_self, or_false, false_or, if_false, if_true, reduceIte, o7 j hjl, bn, cl0, cl1, oc, e1, nl_add1]
    have c2 : f_X11_go_l123 N (nI k) K2 (fuel + 1) T (nI j) = if r = 0 then f_X11_go_l123 N (nI k) K2 fuel T1 (nI (j + 1)) else K2 T1 (nI j) := by
      rw [f_X11_go_l123]
      simp only [nn (show k < 2147483648 by omega), ix_nI (show k < 2147483648 by omega), inG hk, or_self, or_false, false_or, if_false, if_true, reduceIte, o3]
      rw [if_neg (nle_n (by omega) (by omega)), e2]
      simp only [bn, cl0, cl1, oc, nl_add1]
      by_cases c : r = 0
      · simp only [c, if_true]
      · simp only [c, if_false, one0]
    rw [c1, c2]
    by_cases c : r = 0
    · simp only [if_pos c]
      obtain ⟨S2, T2, k3, k4, h⟩ := ih (j + 1) fuel S1 T1 (by omega) (by omega) hO1 hn1
      exact ⟨S2, T2, k1.tr k3, k2.tr k4, h⟩
    · simp only [if_neg c]
      exact ⟨S1, T1, k1, k2, Or.inr ⟨j, hjl, rfl, rfl⟩⟩
end CHOOSE
