section HERDM
theorem LL_lk : ∀ n, Lk (LL n)
  | 0 => by
    show ∀ x ∈ bsl, x ∈ L00
    decide
  | n + 1 => fun x hx => by
    simp only [LL, herdL, List.mem_append]
    exact .inl (.inl (.inl (.inl (.inl (LL_lk n x hx)))))
theorem LL_lo : ∀ (n x : Nat), x ∈ LL n → x ∈ L00 ∨ ∃ k, k < n ∧ (x = 60 + k ∨ x = 71 + k ∨ x = 71 + k + 10 ∨ x = 71 + k + 20 ∨ x = 71 + k + 30)
  | 0, x, h => Or.inl h
  | n + 1, x, h => by
    simp only [LL, herdL, List.mem_append, List.mem_singleton] at h
    rcases h with ((((h | h) | h) | h) | h) | h
    · rcases LL_lo n x h with h | ⟨k, k1, k2⟩
      · exact Or.inl h
      · exact Or.inr ⟨k, by omega, k2⟩
    · exact Or.inr ⟨n, by omega, by omega⟩
    · exact Or.inr ⟨n, by omega, by omega⟩
    · exact Or.inr ⟨n, by omega, by omega⟩
    · exact Or.inr ⟨n, by omega, by omega⟩
    · exact Or.inr ⟨n, by omega, by omega⟩
theorem L00_lo : ∀ x ∈ L00, ¬ (60 ≤ x ∧ x ≤ 65) ∧ ¬ (71 ≤ x ∧ x ≤ 76) ∧ ¬ (81 ≤ x ∧ x ≤ 86) ∧ ¬ (91 ≤ x ∧ x ≤ 96) ∧ ¬ (101 ≤ x ∧ x ≤ 112) := by decide
theorem LL_fresh {n x : Nat} (hn : n < 6) (hx : x = 60 + n ∨ x = 71 + n ∨ x = 71 + n + 10 ∨ x = 71 + n + 20 ∨ x = 71 + n + 30) : x ∉ LL n := by
  intro h
  rcases LL_lo n x h with h | ⟨k, k1, k2⟩
  · have := L00_lo x h
    omega
  · omega
theorem LL_no {n x : Nat} (hn : n ≤ 6) (hx : x = 110 ∨ x = 111 ∨ x = 112) : x ∉ LL n := by
  intro h
  rcases LL_lo n x h with h | ⟨k, k1, k2⟩
  · have := L00_lo x h
    omega
  · omega
theorem inv_hI : ∀ L S, Inv L S → Lk L ∧ Fx L S ∧ Cl L S ∧ 110 ∉ L ∧ 111 ∉ L ∧ 112 ∉ L := by
  intro L S ⟨n, st, hL, hn, hr, _⟩
  subst hL
  exact ⟨LL_lk n, hr.2.2.2, hr.2.2.1, LL_no hn (by omega), LL_no hn (by omega), LL_no hn (by omega)⟩
/-- the class's state behind herd -/
def hS4 (n : Nat) (S : St) (p1 p2 p3 p4 : Int32) : St := sv (sr (sv (sv (sv (sv (sv (sv (sv (sv (sv (sr (sv (sv (sr (zr (sr (zr (sr (zr (zr (sv (sv (zr S (60 + n)) (60 + n) 4 0) (60 + n) 5 0) (71 + n)) (71 + n + 10)) (71 + n) 0 (some (71 + n + 10))) (71 + n + 20)) (71 + n) 1 (some (71 + n + 20))) (71 + n + 30)) (71 + n) 2 (some (71 + n + 30))) (71 + n) 3 0) (71 + n) 4 0) (60 + n) 6 (some (71 + n))) (60 + n) 7 0) (60 + n) 8 0) (60 + n) 9 0) (60 + n) 10 0) (60 + n) 11 0) (60 + n) 2 p1) (60 + n) 3 p2) (60 + n) 0 p3) (60 + n) 1 p4) 6 n (some (60 + n))) 0 7 (nI (n + 1))
theorem hS4_v {n : Nat} {S : St} {p1 p2 p3 p4 : Int32} {a j : Nat} (h1 : a ≠ 60 + n) (h2 : a ≠ 71 + n) (h3 : a ≠ 71 + n + 10) (h4 : a ≠ 71 + n + 20) (h5 : a ≠ 71 + n + 30) (h6 : ¬ (a = 0 ∧ j = 7)) : gv (hS4 n S p1 p2 p3 p4) a j = gv S a j := by
  unfold hS4
  rw [gv_sv, if_neg h6]
  simp only [gv_sv, gv_sr, gv_zr, h1, h2, h3, h4, h5, false_and, if_false]
theorem hS4_h {n : Nat} {S : St} {p1 p2 p3 p4 : Int32} : gv (hS4 n S p1 p2 p3 p4) (60 + n) 0 = p3 ∧ gv (hS4 n S p1 p2 p3 p4) (60 + n) 1 = p4 ∧ gv (hS4 n S p1 p2 p3 p4) (60 + n) 2 = p1 ∧ gv (hS4 n S p1 p2 p3 p4) (60 + n) 3 = p2 ∧ gv (hS4 n S p1 p2 p3 p4) (60 + n) 4 = 0 ∧ gv (hS4 n S p1 p2 p3 p4) (60 + n) 5 = 0 ∧ gv (hS4 n S p1 p2 p3 p4) (60 + n) 7 = 0 ∧ gv (hS4 n S p1 p2 p3 p4) (60 + n) 8 = 0 ∧ gv (hS4 n S p1 p2 p3 p4) (60 + n) 9 = 0 ∧ gv (hS4 n S p1 p2 p3 p4) (60 + n) 10 = 0 ∧ gv (hS4 n S p1 p2 p3 p4) (60 + n) 11 = 0 := by
  unfold hS4
  have a1 : ¬ 60 + n = 0 := by omega
  have a2 : ¬ 60 + n = 71 + n := by omega
  have a3 : ¬ 60 + n = 71 + n + 10 := by omega
  have a4 : ¬ 60 + n = 71 + n + 20 := by omega
  have a5 : ¬ 60 + n = 71 + n + 30 := by omega
  simp [gv_sv, gv_sr, gv_zr, a2, a3, a4, a5]
theorem hS4_l {n : Nat} {S : St} {p1 p2 p3 p4 : Int32} : gv (hS4 n S p1 p2 p3 p4) (71 + n) 3 = 0 := by
  unfold hS4
  have a1 : ¬ 71 + n = 0 := by omega
  have a2 : ¬ 71 + n = 60 + n := by omega
  simp [gv_sv, gv_sr, gv_zr, a1, a2]
theorem hS4_r {n : Nat} {S : St} {p1 p2 p3 p4 : Int32} {a j : Nat} : gr (hS4 n S p1 p2 p3 p4) a j = if a = 6 ∧ j = n then some (60 + n) else if a = 60 + n ∧ j = 6 then some (71 + n) else if a = 71 + n ∧ j = 2 then some (71 + n + 30) else if a = 71 + n + 30 then none else if a = 71 + n ∧ j = 1 then some (71 + n + 20) else if a = 71 + n + 20 then none else if a = 71 + n ∧ j = 0 then some (71 + n + 10) else if a = 71 + n + 10 then none else if a = 71 + n then none else if a = 60 + n then none else gr S a j := by
  unfold hS4
  simp only [gr_sv, gr_sr, gr_zr]
theorem stp_3 {N : Nat} : Stp_3 N Inv := by
  intro L S a b c d hi
  obtain ⟨n, st, hL, hv⟩ := id hi
  subst hL
  obtain ⟨hn, hr, ⟨dd, d1, d2, d3⟩, hLet, hFlt, hBil, hRoad, hPas, hTap, ⟨q1, q2, q3, q4⟩, hOrd⟩ := id hv
  by_cases bad : (a < 1 ∨ 500 < a) ∨ (b < 100 ∨ 600 < b) ∨ (c < 1 ∨ 20 < c) ∨ (d < nI dd ∨ 10000 < d) ∨ n = 6
  · refine ⟨60, 71, (-1, none), S, ?_, fun ⟨_, h⟩ => by simp at h, fun _ => ⟨?_, hi⟩, fun S4 h => by simp at h⟩
    · unfold f_X10_herd
      rw [within_eq, within_eq, within_eq, within_eq, d2]
      simp only [bn, cl0, cl1, oc]
      rcases bad with bad | bad | bad | bad | bad
      · simp [bad]
      · by_cases c1 : a < 1 ∨ 500 < a <;> simp [bad, c1]
      · by_cases c1 : a < 1 ∨ 500 < a <;> by_cases c2 : b < 100 ∨ 600 < b <;> simp [bad, c1, c2]
      · by_cases c1 : a < 1 ∨ 500 < a <;> by_cases c2 : b < 100 ∨ 600 < b <;> by_cases c3 : c < 1 ∨ 20 < c <;> simp [bad, c1, c2, c3]
      · have q : ¬ nI 6 < 6 := by decide
        by_cases c1 : a < 1 ∨ 500 < a
        · simp [c1]
        by_cases c2 : b < 100 ∨ 600 < b
        · simp [c1, c2]
        by_cases c3 : c < 1 ∨ 20 < c
        · simp [c1, c2, c3]
        by_cases c4 : d < nI dd ∨ 10000 < d
        · simp [c1, c2, c3, c4]
        · simp [c1, c2, c3, c4, q1, bad, q]
    · unfold f_X11_herd
      rw [q2, d3]
      by_cases k0 : nI n = 6
      · simp [k0]
      by_cases k1 : a < 1
      · simp [k1]
      by_cases k2 : 500 < a
      · simp [k2]
      by_cases k3 : b < 100
      · simp [k3]
      by_cases k4 : 600 < b
      · simp [k4]
      by_cases k5 : c < 1
      · simp [k5]
      by_cases k6 : 20 < c
      · simp [k6]
      by_cases k7 : d < nI dd
      · simp [k7]
      have k8 : ¬ d ≤ 10000 := by
        rcases bad with bad | bad | bad | bad | bad
        · exact absurd bad (by simp only [k1, k2]; simp)
        · exact absurd bad (by simp only [k3, k4]; simp)
        · exact absurd bad (by simp only [k5, k6]; simp)
        · exact i_nle.mpr (bad.resolve_left k7)
        · exact absurd (by rw [bad]; rfl) k0
      simp [k0, k1, k2, k3, k4, k5, k6, k7, k8]
  · have c1 : ¬ (a < 1 ∨ 500 < a) := fun h => bad (Or.inl h)
    have c2 : ¬ (b < 100 ∨ 600 < b) := fun h => bad (Or.inr (Or.inl h))
    have c3 : ¬ (c < 1 ∨ 20 < c) := fun h => bad (Or.inr (Or.inr (Or.inl h)))
    have c4 : ¬ (d < nI dd ∨ 10000 < d) := fun h => bad (Or.inr (Or.inr (Or.inr (Or.inl h))))
    have c5 : n < 6 := by
      have : ¬ n = 6 := fun h => bad (Or.inr (Or.inr (Or.inr (Or.inr h))))
      omega
    have k1 : ¬ a < 1 := fun h => c1 (Or.inl h)
    have k2 : ¬ 500 < a := fun h => c1 (Or.inr h)
    have k3 : ¬ b < 100 := fun h => c2 (Or.inl h)
    have k4 : ¬ 600 < b := fun h => c2 (Or.inr h)
    have k5 : ¬ c < 1 := fun h => c3 (Or.inl h)
    have k6 : ¬ 20 < c := fun h => c3 (Or.inr h)
    have k7 : ¬ d < nI dd := fun h => c4 (Or.inl h)
    have k8 : d ≤ 10000 := i_nlt.mp fun h => c4 (Or.inr h)
    obtain ⟨am, am1, am2, am3⟩ := i_rng (lo := 1) (hi := 500) (by omega) (by omega) c1
    obtain ⟨bm, bm1, bm2, bm3⟩ := i_rng (lo := 100) (hi := 600) (by omega) (by omega) c2
    obtain ⟨cm, cm1, cm2, cm3⟩ := i_rng (lo := 1) (hi := 20) (by omega) (by omega) c3
    have n1 := nn (show n < 2147483648 by omega)
    have n2 := ix_nI (show n < 2147483648 by omega)
    have n3 := inG c5
    have n4 : nI n < 6 := lt_n (b := 6) c5 (by omega)
    have n5 : ¬ nI n = 6 := ne_n (b := 6) (by omega) (by omega) (by omega)
    have e4 : f_X10_herd (60 + n) (71 + n) S a b c d = some (nI n, some (hS4 n S a b c d)) := by
      unfold f_X10_herd f_X1_init f_X5_init
      rw [within_eq, within_eq, within_eq, within_eq, d2]
      simp only [bn, cl0, or_self, or_false, false_or, if_false, if_true, reduceIte, c1, c2, c3, c4, one0, q1, n1, n2, n3, n4]
      have z : gv (sr (sv (sv (sv (sv (sv (sv (sv (sv (sv (sr (sv (sv (sr (zr (sr (zr (sr (zr (zr (sv (sv (zr S (60 + n)) (60 + n) 4 0) (60 + n) 5 0) (71 + n)) (71 + n + 10)) (71 + n) 0 (some (71 + n + 10))) (71 + n + 20)) (71 + n) 1 (some (71 + n + 20))) (71 + n + 30)) (71 + n) 2 (some (71 + n + 30))) (71 + n) 3 0) (71 + n) 4 0) (60 + n) 6 (some (71 + n))) (60 + n) 7 0) (60 + n) 8 0) (60 + n) 9 0) (60 + n) 10 0) (60 + n) 11 0) (60 + n) 2 a) (60 + n) 3 b) (60 + n) 0 c) (60 + n) 1 d) 6 n (some (60 + n))) 0 7 = nI n := by
        simp only [gv_sr, gv_sv, gv_zr, show ¬ (0 : Nat) = 60 + n by omega, show ¬ (0 : Nat) = 71 + n by omega, show ¬ (0 : Nat) = 71 + n + 10 by omega, show ¬ (0 : Nat) = 71 + n + 20 by omega, show ¬ (0 : Nat) = 71 + n + 30 by omega, false_and, if_false]
        exact q1
      rw [z, nl_add1, gv_at, nl_sub1]
      rfl
    have hc : ∀ x j, x < 200 → x ≠ 60 + n → x ≠ 71 + n → x ≠ 71 + n + 10 → x ≠ 71 + n + 20 → x ≠ 71 + n + 30 → ¬ (x = 0 ∧ j = 7) → gv (sv (sv (sv (sv (sv (hS4 n S a b c d) 212 n a) 213 n b) 214 n c) 215 n d) 200 10 (nI (n + 1))) x j = gv S x j := by
      intro x j h0 h1 h2 h3 h4 h5 h6
      rw [gv_ne (by omega), gv_ne (by omega), gv_ne (by omega), gv_ne (by omega), gv_ne (by omega)]
      exact hS4_v h1 h2 h3 h4 h5 h6
    have hh : ∀ j, gv (sv (sv (sv (sv (sv (hS4 n S a b c d) 212 n a) 213 n b) 214 n c) 215 n d) 200 10 (nI (n + 1))) (60 + n) j = gv (hS4 n S a b c d) (60 + n) j := by
      intro j
      rw [gv_ne (by omega), gv_ne (by omega), gv_ne (by omega), gv_ne (by omega), gv_ne (by omega)]
    have ho : ∀ j, gv (sv (sv (sv (sv (sv (hS4 n S a b c d) 212 n a) 213 n b) 214 n c) 215 n d) 200 10 (nI (n + 1))) (71 + n) j = gv (hS4 n S a b c d) (71 + n) j := by
      intro j
      rw [gv_ne (by omega), gv_ne (by omega), gv_ne (by omega), gv_ne (by omega), gv_ne (by omega)]
    have h07 : gv (sv (sv (sv (sv (sv (hS4 n S a b c d) 212 n a) 213 n b) 214 n c) 215 n d) 200 10 (nI (n + 1))) 0 7 = nI (n + 1) := by
      rw [gv_ne (by omega), gv_ne (by omega), gv_ne (by omega), gv_ne (by omega), gv_ne (by omega)]
      unfold hS4
      rw [gv_at]
    have ht : ∀ x j, 200 ≤ x → ¬ (212 ≤ x ∧ x ≤ 215 ∧ j = n) → ¬ (x = 200 ∧ j = 10) → gv (sv (sv (sv (sv (sv (hS4 n S a b c d) 212 n a) 213 n b) 214 n c) 215 n d) 200 10 (nI (n + 1))) x j = gv S x j := by
      intro x j h0 h1 h2
      rw [gv_sv, if_neg h2, gv_sv, if_neg (by omega), gv_sv, if_neg (by omega), gv_sv, if_neg (by omega), gv_sv, if_neg (by omega)]
      exact hS4_v (by omega) (by omega) (by omega) (by omega) (by omega) (by omega)
    have hx1 : gv (sv (sv (sv (sv (sv (hS4 n S a b c d) 212 n a) 213 n b) 214 n c) 215 n d) 200 10 (nI (n + 1))) 212 n = a ∧ gv (sv (sv (sv (sv (sv (hS4 n S a b c d) 212 n a) 213 n b) 214 n c) 215 n d) 200 10 (nI (n + 1))) 213 n = b ∧ gv (sv (sv (sv (sv (sv (hS4 n S a b c d) 212 n a) 213 n b) 214 n c) 215 n d) 200 10 (nI (n + 1))) 214 n = c ∧ gv (sv (sv (sv (sv (sv (hS4 n S a b c d) 212 n a) 213 n b) 214 n c) 215 n d) 200 10 (nI (n + 1))) 215 n = d ∧ gv (sv (sv (sv (sv (sv (hS4 n S a b c d) 212 n a) 213 n b) 214 n c) 215 n d) 200 10 (nI (n + 1))) 200 10 = nI (n + 1) := by
      simp [gv_sv]
    have hg : ∀ x j, gr (sv (sv (sv (sv (sv (hS4 n S a b c d) 212 n a) 213 n b) 214 n c) 215 n d) 200 10 (nI (n + 1))) x j = gr (hS4 n S a b c d) x j := fun x j => rfl
    have e5 : f_X11_herd (hS4 n S a b c d) a b c d = some (nI n, sv (sv (sv (sv (sv (hS4 n S a b c d) 212 n a) 213 n b) 214 n c) 215 n d) 200 10 (nI (n + 1))) := by
      unfold f_X11_herd
      rw [show gv (hS4 n S a b c d) 200 10 = nI n from (hS4_v (by omega) (by omega) (by omega) (by omega) (by omega) (by omega)).trans q2, show gv (hS4 n S a b c d) 200 0 = nI dd from (hS4_v (by omega) (by omega) (by omega) (by omega) (by omega) (by omega)).trans d3]
      simp only [bn, or_self, or_false, false_or, if_false, if_true, reduceIte, n5, k1, k2, k3, k4, k5, k6, k7, k8, n1, n2, n3]
      rw [gv_ne (by omega), gv_ne (by omega), gv_ne (by omega), gv_ne (by omega), show gv (hS4 n S a b c d) 200 10 = nI n from (hS4_v (by omega) (by omega) (by omega) (by omega) (by omega) (by omega)).trans q2, nl_add1]
    generalize sv (sv (sv (sv (sv (hS4 n S a b c d) 212 n a) 213 n b) 214 n c) 215 n d) 200 10 (nI (n + 1)) = Z at hc hh ho h07 ht hx1 hg e5
    refine ⟨60 + n, 71 + n, (nI n, some (hS4 n S a b c d)), Z, e4, fun _ => ⟨by omega, by omega, by omega, by omega, fun i hi => ?_⟩, fun h => by simp at h, fun S4 h => ?_⟩
    · simp at hi
      exact LL_fresh c5 (by omega)
    · have h4 : hS4 n S a b c d = S4 := Option.some.inj h
      rw [← h4]
      refine ⟨e5, n + 1, st, rfl, by omega, ?_, ?_, ?_, ?_, ?_, ?_, ?_, ?_, ?_, ?_⟩
      · -- references
        obtain ⟨r1, ⟨f, r2, r3, r4, r5⟩, r6, r7⟩ := hr
        have old : ∀ x j, x ≠ 60 + n → x ≠ 71 + n → x ≠ 71 + n + 10 → x ≠ 71 + n + 20 → x ≠ 71 + n + 30 → ¬ (x = 6 ∧ j = n) → gr Z x j = gr S x j := by
          intro x j h1 h2 h3 h4 h5 h6
          rw [hg, hS4_r]
          simp only [h1, h2, h3, h4, h5, h6, false_and, if_false]
        have m60 : 60 + n ∈ LL (n + 1) := by simp [LL, herdL]
        have m71 : 71 + n ∈ LL (n + 1) := by simp [LL, herdL]
        have m81 : 71 + n + 10 ∈ LL (n + 1) := by simp [LL, herdL]
        have m91 : 71 + n + 20 ∈ LL (n + 1) := by simp [LL, herdL]
        have m101 : 71 + n + 30 ∈ LL (n + 1) := by simp [LL, herdL]
        have mold : ∀ x, x ∈ LL n → x ∈ LL (n + 1) := fun x hx => by
          simp only [LL, herdL, List.mem_append]
          exact .inl (.inl (.inl (.inl (.inl hx))))
        have g66 : gr Z 6 n = some (60 + n) := by rw [hg, hS4_r]; simp
        have g60 : gr Z (60 + n) 6 = some (71 + n) := by rw [hg, hS4_r, if_neg (by omega), if_pos ⟨rfl, rfl⟩]
        refine ⟨fun k hk => ?_, ⟨fun k => if k < n then f k else if k = n then n + 1 else f n, ?_, fun k hk => ?_, fun k hk => ?_, fun i j hi hj he => ?_⟩, ?_, ?_⟩
        · by_cases hkn : k = n
          · rw [hkn]; exact g66
          · rw [old 6 k (by omega) (by omega) (by omega) (by omega) (by omega) (by omega)]
            exact r1 k (by omega)
        · rw [old 0 6 (by omega) (by omega) (by omega) (by omega) (by omega) (by omega), r2]
          simp [show ¬ n + 1 < n by omega]
        · by_cases hkn : k = n
          · subst hkn
            rw [g60]
            simp
            omega
          · rw [old (60 + k) 6 (by omega) (by omega) (by omega) (by omega) (by omega) (by omega), r3 k (by omega)]
            simp [show k < n by omega]
        · by_cases h1 : k < n
          · simp [h1]; have := r4 k (by omega); omega
          · by_cases h2 : k = n
            · simp [h2]
            · simp [h1, h2]; have := r4 n (by omega); omega
        · have b1 : ∀ k, k ≤ n → f k ≤ n := r4
          by_cases i1 : i < n
          · by_cases j1 : j < n
            · simp only [i1, j1, if_true] at he; exact r5 i j (by omega) (by omega) he
            · by_cases j2 : j = n
              · simp only [i1, j1, j2, if_true, if_false, Nat.lt_irrefl] at he; have := b1 i (by omega); omega
              · simp only [i1, j1, j2, if_true, if_false] at he; have := r5 i n (by omega) (by omega) he; omega
          · by_cases i2 : i = n
            · by_cases j1 : j < n
              · simp only [i1, i2, j1, if_true, if_false, Nat.lt_irrefl] at he; have := b1 j (by omega); omega
              · by_cases j2 : j = n
                · omega
                · simp only [i1, i2, j1, j2, if_true, if_false, Nat.lt_irrefl] at he; have := b1 n (by omega); omega
            · by_cases j1 : j < n
              · simp only [i1, i2, j1, if_true, if_false] at he; have := r5 n j (by omega) (by omega) he; omega
              · by_cases j2 : j = n
                · simp only [i1, i2, j1, j2, if_true, if_false, Nat.lt_irrefl] at he; have := b1 n (by omega); omega
                · omega
        · intro o ho' k y hy
          by_cases o6 : o = 6 ∧ k = n
          · rw [o6.1, o6.2, g66] at hy
            rw [← Option.some.inj hy]; exact m60
          · rw [hg, hS4_r, if_neg o6] at hy
            by_cases b1 : o = 60 + n ∧ k = 6
            · rw [if_pos b1] at hy; rw [← Option.some.inj hy]; exact m71
            rw [if_neg b1] at hy
            by_cases b2 : o = 71 + n ∧ k = 2
            · rw [if_pos b2] at hy; rw [← Option.some.inj hy]; exact m101
            rw [if_neg b2] at hy
            by_cases b3 : o = 71 + n + 30
            · rw [if_pos b3] at hy; simp at hy
            rw [if_neg b3] at hy
            by_cases b4 : o = 71 + n ∧ k = 1
            · rw [if_pos b4] at hy; rw [← Option.some.inj hy]; exact m91
            rw [if_neg b4] at hy
            by_cases b5 : o = 71 + n + 20
            · rw [if_pos b5] at hy; simp at hy
            rw [if_neg b5] at hy
            by_cases b6 : o = 71 + n ∧ k = 0
            · rw [if_pos b6] at hy; rw [← Option.some.inj hy]; exact m81
            rw [if_neg b6] at hy
            by_cases b7 : o = 71 + n + 10
            · rw [if_pos b7] at hy; simp at hy
            rw [if_neg b7] at hy
            by_cases b8 : o = 71 + n
            · rw [if_pos b8] at hy; simp at hy
            rw [if_neg b8] at hy
            by_cases b9 : o = 60 + n
            · rw [if_pos b9] at hy; simp at hy
            rw [if_neg b9] at hy
            simp only [LL, herdL, List.mem_append, List.mem_singleton] at ho'
            have : o ∈ LL n := by
              rcases ho' with ((((h | h) | h) | h) | h) | h
              · exact h
              · exact absurd h b9
              · exact absurd h b8
              · exact absurd h b7
              · exact absurd h b5
              · exact absurd h b3
            exact mold y (r6 o this k y hy)
        · intro o ho' k t hf
          simp only [LL, herdL, List.mem_append, List.mem_singleton] at ho'
          rcases ho' with ((((h | h) | h) | h) | h) | h
          · have f1 : o ≠ 60 + n := fun e => LL_fresh (x := o) c5 (by omega) h
            have f2 : o ≠ 71 + n := fun e => LL_fresh (x := o) c5 (by omega) h
            have f3 : o ≠ 71 + n + 10 := fun e => LL_fresh (x := o) c5 (by omega) h
            have f4 : o ≠ 71 + n + 20 := fun e => LL_fresh (x := o) c5 (by omega) h
            have f5 : o ≠ 71 + n + 30 := fun e => LL_fresh (x := o) c5 (by omega) h
            have f6 : ¬ (o = 6 ∧ k = n) := by
              intro e
              rw [e.1] at hf
              simp [fxs] at hf
            rw [old o k f1 f2 f3 f4 f5 f6]
            exact r7 o h k t hf
          · subst h
            simp only [fxs] at hf
            simp [show ¬ 60 + n = 0 by omega, show ¬ 60 + n = 1 by omega, show ¬ 60 + n = 2 by omega, show ¬ 60 + n = 3 by omega, show ¬ 60 + n = 4 by omega, show ¬ 60 + n = 5 by omega, show 60 + n < 70 by omega] at hf
          · subst h
            simp only [fxs] at hf
            simp only [show ¬ 71 + n = 0 by omega, show ¬ 71 + n = 1 by omega, show ¬ 71 + n = 2 by omega, show ¬ 71 + n = 3 by omega, show ¬ 71 + n = 4 by omega, show ¬ 71 + n = 5 by omega, show ¬ 71 + n < 70 by omega, show 71 + n < 77 by omega, if_false, if_true] at hf
            by_cases k2 : k ≤ 2
            · rw [if_pos k2] at hf
              rw [hg, hS4_r, ← hf]
              rcases (show k = 0 ∨ k = 1 ∨ k = 2 by omega) with e | e | e <;> subst e <;> simp [show ¬ 71 + n = 6 by omega, show ¬ 71 + n = 60 + n by omega]
            · rw [if_neg k2] at hf; simp at hf
          · subst h
            simp only [fxs] at hf
            simp only [show ¬ 71 + n + 10 = 0 by omega, show ¬ 71 + n + 10 = 1 by omega, show ¬ 71 + n + 10 = 2 by omega, show ¬ 71 + n + 10 = 3 by omega, show ¬ 71 + n + 10 = 4 by omega, show ¬ 71 + n + 10 = 5 by omega, show ¬ 71 + n + 10 < 70 by omega, show ¬ 71 + n + 10 < 77 by omega, show 71 + n + 10 < 107 by omega, if_false, if_true] at hf
            simp at hf
          · subst h
            simp only [fxs] at hf
            simp only [show ¬ 71 + n + 20 = 0 by omega, show ¬ 71 + n + 20 = 1 by omega, show ¬ 71 + n + 20 = 2 by omega, show ¬ 71 + n + 20 = 3 by omega, show ¬ 71 + n + 20 = 4 by omega, show ¬ 71 + n + 20 = 5 by omega, show ¬ 71 + n + 20 < 70 by omega, show ¬ 71 + n + 20 < 77 by omega, show 71 + n + 20 < 107 by omega, if_false, if_true] at hf
            simp at hf
          · subst h
            simp only [fxs] at hf
            simp only [show ¬ 71 + n + 30 = 0 by omega, show ¬ 71 + n + 30 = 1 by omega, show ¬ 71 + n + 30 = 2 by omega, show ¬ 71 + n + 30 = 3 by omega, show ¬ 71 + n + 30 = 4 by omega, show ¬ 71 + n + 30 = 5 by omega, show ¬ 71 + n + 30 < 70 by omega, show ¬ 71 + n + 30 < 77 by omega, show 71 + n + 30 < 107 by omega, if_false, if_true] at hf
            simp at hf
      · exact IDay.fr (S := S) (T := S) ⟨dd, d1, d2, d3⟩ (fun x j h0 h => by unfold rDay at h; exact hc x j h0 (by omega) (by omega) (by omega) (by omega) (by omega) (by omega)) (fun x j h0 h => by unfold rDay at h; exact ht x j h0 (by omega) (by omega))
      · exact hLet.fr (fun x j h0 h => by unfold rLet at h; exact hc x j h0 (by omega) (by omega) (by omega) (by omega) (by omega) (by omega)) (fun x j h0 h => by unfold rLet at h; exact ht x j h0 (by omega) (by omega))
      · exact hFlt.fr (fun x j h0 h => by unfold rFlt at h; exact hc x j h0 (by omega) (by omega) (by omega) (by omega) (by omega) (by omega)) (fun x j h0 h => by unfold rFlt at h; exact ht x j h0 (by omega) (by omega))
      · exact hBil.fr (fun x j h0 h => by unfold rBil at h; exact hc x j h0 (by omega) (by omega) (by omega) (by omega) (by omega) (by omega)) (fun x j h0 h => by unfold rBil at h; exact ht x j h0 (by omega) (by omega))
      · exact hRoad.fr (fun x j h0 h => by unfold rRoad at h; exact hc x j h0 (by omega) (by omega) (by omega) (by omega) (by omega) (by omega)) (fun x j h0 h => by unfold rRoad at h; exact ht x j h0 (by omega) (by omega))
      · exact hPas.fr (fun x j h0 h => by unfold rPas at h; exact hc x j h0 (by omega) (by omega) (by omega) (by omega) (by omega) (by omega)) (fun x j h0 h => by unfold rPas at h; exact ht x j h0 (by omega) (by omega))
      · exact hTap.fr (fun x j h0 h => by unfold rTap at h; exact hc x j h0 (by omega) (by omega) (by omega) (by omega) (by omega) (by omega)) (fun x j h0 h => by unfold rTap at h; exact ht x j h0 (by omega) (by omega))
      · refine ⟨h07, hx1.2.2.2.2, fun k hk => ?_, fun k hk h6 => ?_⟩
        · by_cases hkn : k = n
          · subst hkn
            obtain ⟨y1, y2, y3, y4, y5⟩ := hx1
            obtain ⟨z1, z2, z3, z4, z5, z6, z7, z8, z9, z10, z11⟩ := hS4_h (n := k) (S := S) (p1 := a) (p2 := b) (p3 := c) (p4 := d)
            obtain ⟨w1, w2, w3, w4, w5, w6, w7⟩ := q4 k (by omega) c5
            rw [hh, hh, hh, hh, hh, hh, hh, hh, hh, hh, hh, z1, z2, z3, z4, z5, z6, z7, z8, z9, z10, z11, y1, y2, y3, y4, ht 216 k (by omega) (by omega) (by omega), ht 217 k (by omega) (by omega) (by omega), ht 218 k (by omega) (by omega) (by omega), ht 219 k (by omega) (by omega) (by omega), ht 220 k (by omega) (by omega) (by omega), ht 221 k (by omega) (by omega) (by omega), ht 222 k (by omega) (by omega) (by omega), w1, w2, w3, w4, w5, w6, w7]
            have := hRoad.1
            exact ⟨rfl, rfl, rfl, rfl, rfl, rfl, rfl, rfl, rfl, rfl, rfl, am, bm, 0, 0, 0, cm, am3, am2, bm3, by omega, rfl, by omega, rfl, by omega, fun _ => by omega, rfl, by omega, cm3, cm2⟩
          · have e1 : ∀ j, gv Z (60 + k) j = gv S (60 + k) j := fun j => hc _ j (by omega) (by omega) (by omega) (by omega) (by omega) (by omega) (by omega)
            have e2 : ∀ x, 212 ≤ x → x ≤ 222 → gv Z x k = gv S x k := fun x h1 h2 => ht x k (by omega) (by omega) (by omega)
            simp only [e1, e2 212 (by omega) (by omega), e2 213 (by omega) (by omega), e2 214 (by omega) (by omega), e2 215 (by omega) (by omega), e2 216 (by omega) (by omega), e2 217 (by omega) (by omega), e2 218 (by omega) (by omega), e2 219 (by omega) (by omega), e2 220 (by omega) (by omega), e2 221 (by omega) (by omega), e2 222 (by omega) (by omega)]
            exact q3 k (by omega)
        · have e2 : ∀ x, 212 ≤ x → x ≤ 222 → gv Z x k = gv S x k := fun x h1 h2 => ht x k (by omega) (by omega) (by omega)
          simp only [e2 216 (by omega) (by omega), e2 217 (by omega) (by omega), e2 218 (by omega) (by omega), e2 219 (by omega) (by omega), e2 220 (by omega) (by omega), e2 221 (by omega) (by omega), e2 222 (by omega) (by omega)]
          exact q4 k (by omega) h6
      · refine ⟨fun k o hk hgo => ?_, fun k hk h6 => ?_⟩
        · by_cases hkn : k = n
          · subst hkn
            rw [hg, hS4_r, if_neg (by omega), if_pos ⟨rfl, rfl⟩] at hgo
            have hgo := Option.some.inj hgo
            subst hgo
            refine ⟨[], by simp, ?_, ?_, by simp [FL], by simp [FL, vals], fun i c v h => by simp [FL] at h, fun j hj => by simp at hj, fun h => by simp at h, fun j l a h => by simp at h⟩
            · rw [ho, hS4_l]; rfl
            · rw [ht 228 k (by omega) (by omega) (by omega), hOrd.2 k (by omega) c5]; rfl
          · have hgo2 : gr S (60 + k) 6 = some o := by
              rw [hg, hS4_r] at hgo
              simp only [show ¬ 60 + k = 6 by omega, show ¬ 60 + k = 60 + n by omega, show ¬ 60 + k = 71 + n by omega, show ¬ 60 + k = 71 + n + 30 by omega, show ¬ 60 + k = 71 + n + 20 by omega, show ¬ 60 + k = 71 + n + 10 by omega, false_and, if_false] at hgo
              exact hgo
            obtain ⟨f, r2, r3, r4, r5⟩ := hr.2.1
            have ho2 := Option.some.inj ((r3 k (by omega)).symm.trans hgo2)
            have hfk := r4 k (by omega)
            obtain ⟨Ls, hl⟩ := hOrd.1 k o (by omega) hgo2
            refine ⟨Ls, hl.ag (fun j => hc _ j (by omega) (by omega) (by omega) (by omega) (by omega) (by omega) (by omega)) (fun j => hc _ j (by omega) (by omega) (by omega) (by omega) (by omega) (by omega) (by omega)) (fun j => hc _ j (by omega) (by omega) (by omega) (by omega) (by omega) (by omega) (by omega)) (fun j => hc _ j (by omega) (by omega) (by omega) (by omega) (by omega) (by omega) (by omega)) (fun x j h1 h2 => ht x j (by omega) (by omega) (by omega))⟩
        · rw [ht 228 k (by omega) (by omega) (by omega)]
          exact hOrd.2 k (by omega) h6
end HERDM
