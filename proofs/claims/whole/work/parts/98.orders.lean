section ORDERS
section
variable {N n o : Nat} {L : List Nat} {b : Nat → Nat}
def KR (N : Nat) : St → Int32 → Option (Int32 × St) := fun S_42 x_43 => if x_43 = 0 then (some (0, S_42)) else (cl1 (f_X6_take N S_42 27) fun r_46 S_47 => if r_46 = 0 then (some (0, S_47)) else (some (1, S_47)))
theorem cl1n {α β γ : Type} {f : α → β → Option γ} : cl1 (none : Option (α × β)) f = none := rfl
/-- a turn of read()'s loop is a line -/
theorem read_turn {K : St → Int32 → Option (Int32 × St)} {f : Nat} {S : St} {v1 v2 : Int32} (h8 : ¬ 8 ≤ v2) (h1 : ¬ v1 = 0) (h27 : ¬ gv S 111 0 = 27) : f_X6_read_l18 L N K (f + 1) S v1 v2 = cl1 (lineC L N S) fun r S' => f_X6_read_l18 L N K f S' r (v2 + 1) := by
  rw [f_X6_read_l18, if_neg h8, if_neg h1, if_neg h27]
  unfold lineC
  rcases f_X6_take N S 0 with _ | ⟨r1, S1⟩
  · rw [cl1n, cl1n, cl1n]
  rw [cl1s, cl1s]
  by_cases c1 : r1 = 0
  · rw [if_pos c1, if_pos c1, cl1s, bnE]
  rw [if_neg c1, if_neg c1]
  rcases (lev L N 10).1 S1 0 with _ | ⟨r2, S2⟩
  · rw [cl1n, cl1n, cl1n]
  rw [cl1s, cl1s]
  by_cases c2 : r2 = 0
  · rw [if_pos c2, if_pos c2, cl1s, bnE]
  rw [if_neg c2, if_neg c2]
  rcases f_X6_take N S2 1 with _ | ⟨r3, S3⟩
  · rw [cl1n, cl1n, cl1n]
  rw [cl1s, cl1s]
  by_cases c3 : r3 = 0
  · rw [if_pos c3, if_pos c3, cl1s, bnE]
  rw [if_neg c3, if_neg c3]
  rcases f_X6_readAct L N S3 with _ | ⟨r4, S4⟩
  · rw [cl1n, cl1n, cl1n]
  rw [cl1s, cl1s]
  by_cases c4 : r4 = 0
  · rw [if_pos c4, if_pos c4, cl1s, bnE]
  rw [if_neg c4, if_neg c4]
  rcases f_X6_take N S4 17 with _ | ⟨r5, S5⟩
  · rw [cl1n, cl1n, cl1n]
  rw [cl1s, cl1s]
  by_cases c5 : r5 = 0
  · rw [if_pos c5, if_pos c5, cl1s, bnE]
  rw [if_neg c5, if_neg c5, cl1s, bnE]
/-- a line that doesn't stand ends the loop -/
theorem read_stop {f : Nat} {S : St} {v2 : Int32} : f_X6_read_l18 L N (KR N) (f + 1) S 0 v2 = some (0, S) := by
  rw [f_X6_read_l18, if_pos (show (0 : Int32) = 0 from rfl), ite_self]
  unfold KR
  rw [if_pos rfl]
/-- at the text's end the lexer stays where it is -/
theorem end0 {S T : St} {p nx v ops : Nat} {C : List (Nat × Nat)} (hN : 1000 ≤ N) (hb : ∀ i, b i < 256) (hn : n ≤ 500) (ho : oko L o) (hG : G0 b n o S T 27 p nx v C ops) : ∃ S', KR N S 1 = some (1, S') ∧ G0 b n o S' T 27 p nx v C ops ∧ Kp wLc S S' := by
  obtain ⟨hS, hT, ⟨l0, l1, l5, l2, l43, l40, hs⟩, hC, hF, b1, b2, b3, b4, b5, b6, b7⟩ := hG
  have ho1 := ho.1
  have ho2 := ho.2.1
  obtain ⟨e1, e2⟩ := b4 rfl
  obtain ⟨tk', p', nx', v', S', T', x1, x2, x3, x4, x5, x6, x7, x8, x9, x10, x11, x12⟩ := lex_step hN hb hn hS hT l5 (l40 (by omega)) b2
  have e3 : tk' = 27 := by
    by_cases c : tk' = 27
    · exact c
    · have := x11 c
      omega
  obtain ⟨e4, e5⟩ := x12 e3
  subst e3
  refine ⟨S', ?_, ⟨x5, hT, ⟨x7.1, ?_, ?_, fun h => by omega, l43, l40, hs⟩, hC.kp x3 (by unfold wLc; omega) (fun j => by unfold wLc; omega) (by unfold wLc; omega) (by unfold wLc; omega) (by unfold wLc; omega), hF, b1, b2, b3, b4, b5, b6, b7⟩, x3⟩
  · unfold KR f_X6_take
    rw [if_neg (by decide), l0, if_pos (show nI 27 = 27 from rfl), x1, cl0s, cl1s, if_neg (by decide)]
  · rw [x7.2.1, e4, e1]
  · rw [x7.2.2.1, e5, e2]
theorem LN.kp {S S' T : St} {Ls : List (List (Nat × Nat) × Nat)} (h : LN S T o Ls) (ho : oko L o) (k : Kp wLc S S') : LN S' T o Ls := by
  obtain ⟨n1, n2, n3, n4, n5, n6⟩ := h
  have ho1 := ho.1
  have ho2 := ho.2.1
  refine ⟨n1, by rw [k.1 _ _ (by unfold wLc; omega)]; exact n2, n3, fun j hj => by rw [k.1 _ _ (by unfold wLc; omega)]; exact n4 j hj, n5, fun j l a hj => by rw [k.1 _ _ (by unfold wLc; omega)]; exact n6 j l a hj⟩
theorem wF_wO {o j a i : Nat} (h : wF o j a i) : wO o a i := by unfold wF wPc wLc at h; unfold wO; omega
theorem wH_wQ {j a i : Nat} (h : wH j a i) : wQ a i := by unfold wH wPg wPf wLr at h; unfold wQ; omega
theorem lines_l {v1 : Int32} {K : St → Option (Int32 × St)} (hN : 1000 ≤ N) (hb : ∀ i, b i < 256) (hn : n ≤ 500) (ho : oko L o) : ∀ (q : Nat) (Ls : List (List (Nat × Nat) × Nat)) (S T : St) (tk p nx v ops fuel cf : Nat), Ls.length + q = 8 → q + 1 ≤ fuel → q + 2 ≤ cf → G0 b n o S T tk p nx v (FL Ls) ops → LN S T o Ls → ∃ (r : Int32) (S' T' : St), f_X6_read_l18 L N (KR N) cf S 1 (nI Ls.length) = some (r, S') ∧ Kp (wO o) S S' ∧ Kp wQ T T' ∧ ((r = 1 ∧ f_X11_orders_l58 N v1 K fuel T = K T' ∧ ∃ Ls' tk' p' nx' v' ops', G0 b n o S' T' tk' p' nx' v' (FL Ls') ops' ∧ LN S' T' o Ls') ∨ (r = 0 ∧ f_X11_orders_l58 N v1 K fuel T = some (-1, T') ∧ Bad S' T')) := by
  intro q
  induction q with
  | zero =>
    intro Ls S T tk p nx v ops fuel cf hq hfu hcf hG hL
    obtain ⟨fuel, rfl⟩ : ∃ q, fuel = q + 1 := ⟨fuel - 1, by omega⟩
    obtain ⟨cf, rfl⟩ : ∃ q, cf = q + 1 := ⟨cf - 1, by omega⟩
    obtain ⟨hS, hT, ⟨l0, l1, l5, l2, l43, l40, hs⟩, hPC, hF, b1, b2, b3, b4, b5, b6, b7⟩ := id hG
    obtain ⟨s1, s2, s0, s3, _, _, _, _, _, _, _, _, t28⟩ := srt hs
    rw [f_X6_read_l18, if_pos (show (8 : Int32) ≤ nI Ls.length from le_n (a := 8) (by omega) (by omega)), f_X11_orders_l58, if_pos hF.2.2.2.1]
    by_cases c : tk = 27
    · subst c
      obtain ⟨S', x1, x2, x3⟩ := end0 hN hb hn ho hG
      rw [x1, if_pos (s0.mpr rfl)]
      exact ⟨1, S', T, rfl, x3.mo (fun a j h => wLc_wO h), Kp.rf, Or.inl ⟨rfl, rfl, Ls, 27, p, nx, v, ops, x2, hL.kp ho x3⟩⟩
    · obtain ⟨S', T', x1, x2, x3, x4, x5, x6⟩ := bad0 hG
      unfold KR f_X6_take
      rw [if_neg (show ¬ (1 : Int32) = 0 by decide), l0, if_neg (show ¬ nI tk = 27 from ne_n (b := 27) c (by omega) (by omega)), if_neg (fun e => c (s0.mp e)), x1, cl1s, cl1s, if_pos rfl]
      refine ⟨0, S', T', rfl, x5.mo (fun a j h => wPc_wO h), x6.mo (fun a j h => wPg_wQ h), Or.inr ⟨rfl, ?_, x3⟩⟩
      have j91 : f_X11_orders_j91 N (f_X11_orders_l58 N v1 K fuel) K T v1 = some (-1, T') := by
        unfold f_X11_orders_j91 f_X11_orders_j96
        rw [x2, cl0s, if_neg x4]
      rw [show (2003330414 : Int64) = Int64.ofNat (pk (Wo 0)) by decide, wIs hs (by omega), cl0s, hL.2.2.1, if_pos (show nI Ls.length = 8 by rw [show Ls.length = 8 by omega]; rfl), j91, ite_self]
  | succ q ih =>
    intro Ls S T tk p nx v ops fuel cf hq hfu hcf hG hL
    obtain ⟨fuel, rfl⟩ : ∃ q, fuel = q + 1 := ⟨fuel - 1, by omega⟩
    obtain ⟨cf, rfl⟩ : ∃ q, cf = q + 1 := ⟨cf - 1, by omega⟩
    obtain ⟨hS, hT, ⟨l0, l1, l5, l2, l43, l40, hs⟩, hPC, hF, b1, b2, b3, b4, b5, b6, b7⟩ := id hG
    obtain ⟨s1, s2, s0, s3, _, _, _, _, _, _, _, _, t28⟩ := srt hs
    have h8 : ¬ (8 : Int32) ≤ nI Ls.length := nle_n (a := 8) (by omega) (by omega)
    by_cases c : tk = 27
    · subst c
      obtain ⟨S', x1, x2, x3⟩ := end0 hN hb hn ho hG
      rw [f_X6_read_l18, if_neg h8, if_neg (show ¬ (1 : Int32) = 0 by decide), l0, if_pos (show nI 27 = 27 from rfl), x1, f_X11_orders_l58, if_pos hF.2.2.2.1, if_pos (s0.mpr rfl)]
      exact ⟨1, S', T, rfl, x3.mo (fun a j h => wLc_wO h), Kp.rf, Or.inl ⟨rfl, rfl, Ls, 27, p, nx, v, ops, x2, hL.kp ho x3⟩⟩
    · rw [read_turn (S := S) (v1 := 1) h8 (by decide) (by rw [l0]; exact ne_n (b := 27) c (by omega) (by omega))]
      obtain ⟨r, S1, T1, x1, x2, x3, x4⟩ := line_g hN hb hn ho hG hL (by omega) c
      rw [x1, cl1s]
      rcases x4 with ⟨r1, y1, l, a, tk', p', nx', v', ops', y2, y3⟩ | ⟨r0, y1, y2⟩
      · rw [r1, nl_add1, y1]
        have hlen : (Ls ++ [(l, a)]).length = Ls.length + 1 := by simp
        obtain ⟨r', S2, T2, z1, z2, z3, z4⟩ := ih (Ls ++ [(l, a)]) S1 T1 tk' p' nx' v' ops' fuel cf (by omega) (by omega) (by omega) y2 y3
        rw [hlen] at z1
        exact ⟨r', S2, T2, z1, (x2.mo (fun a j h => wF_wO h)).tr z2, (x3.mo (fun a j h => wH_wQ h)).tr z3, z4⟩
      · obtain ⟨cf, rfl⟩ : ∃ q, cf = q + 1 := ⟨cf - 1, by omega⟩
        rw [r0, read_stop, y1]
        exact ⟨0, S1, T1, rfl, x2.mo (fun a j h => wF_wO h), x3.mo (fun a j h => wH_wQ h), Or.inr ⟨rfl, rfl, y2⟩⟩
/-! the reference's copying -/
theorem cp1 {k m : Nat} {K : St → Option (Int32 × St)} (hk : k < 6) (hm : m ≤ 500) : ∀ (q i fuel : Nat) (T : St), i + q = m → q + 1 ≤ fuel → gv T 200 34 = nI m → ∃ T', f_X11_orders_l189 N (nI k) K fuel T (nI i) = K T' ∧ Kp (fun a j => (a = 223 ∨ a = 224) ∧ 500 * k ≤ j ∧ j < 500 * k + 500) T T' ∧ (∀ x, i ≤ x → x < m → gv T' 223 (500 * k + x) = gv T 229 x ∧ gv T' 224 (500 * k + x) = gv T 230 x) ∧ (∀ x, x < i → gv T' 223 (500 * k + x) = gv T 223 (500 * k + x) ∧ gv T' 224 (500 * k + x) = gv T 224 (500 * k + x)) := by
  intro q
  induction q with
  | zero =>
    intro i fuel T hi hf h34
    obtain ⟨fuel, rfl⟩ : ∃ q, fuel = q + 1 := ⟨fuel - 1, by omega⟩
    rw [f_X11_orders_l189, h34, if_pos (le_n (by omega) (by omega))]
    exact ⟨T, rfl, Kp.rf, fun x h1 h2 => by omega, fun x h => ⟨rfl, rfl⟩⟩
  | succ q ih =>
    intro i fuel T hi hf h34
    obtain ⟨fuel, rfl⟩ : ∃ q, fuel = q + 1 := ⟨fuel - 1, by omega⟩
    have e5 : (500 : Int32) * nI k + nI i = nI (500 * k + i) := by rw [show (500 : Int32) = nI 500 from rfl, nI_mul, nI_add]
    rw [f_X11_orders_l189, h34, if_neg (nle_n (by omega) (by omega)), if_neg (in_ok (show i < 500 by omega) (by omega)), e5, if_neg (in_ok (show 500 * k + i < 3000 by omega) (by omega)), ix_nI (show i < 2147483648 by omega), ix_nI (show 500 * k + i < 2147483648 by omega), bnE]
    have f5 : ¬ (nI i < 0 ∨ 500 ≤ i) := fun h => h.elim (nn (by omega)) (by omega)
    have f6 : ¬ (nI (500 * k + i) < 0 ∨ 3000 ≤ 500 * k + i) := fun h => h.elim (nn (by omega)) (by omega)
    rw [if_neg f5, if_neg f6, bnE, bnE, gv_ne (show (230 : Nat) ≠ 223 by omega), nl_add1]
    have k1 : Kp (fun a j => (a = 223 ∨ a = 224) ∧ 500 * k ≤ j ∧ j < 500 * k + 500) T (sv (sv T 223 (500 * k + i) (gv T 229 i)) 224 (500 * k + i) (gv T 230 i)) := (Kp.rf.sv ⟨Or.inl rfl, by omega⟩).sv ⟨Or.inr rfl, by omega⟩
    obtain ⟨T', x1, x2, x3, x4⟩ := ih (i + 1) fuel _ (by omega) (by omega) (by rw [k1.1 _ _ (by omega)]; exact h34)
    refine ⟨T', x1, k1.tr x2, fun x h1 h2 => ?_, fun x h => ?_⟩
    · by_cases c : x = i
      · subst c
        rw [(x4 x (by omega)).1, (x4 x (by omega)).2, gv_ne (by omega), gv_at, gv_at]
        exact ⟨rfl, rfl⟩
      · rw [(x3 x (by omega) h2).1, (x3 x (by omega) h2).2, k1.1 229 _ (by omega), k1.1 230 _ (by omega)]
        exact ⟨rfl, rfl⟩
    · rw [(x4 x (by omega)).1, (x4 x (by omega)).2, gv_ne (by omega), gv_nk (by omega), gv_nk (by omega), gv_ne (by omega)]
      exact ⟨rfl, rfl⟩
theorem cp2 {k m : Nat} {K : St → Option (Int32 × St)} (hk : k < 6) (hm : m ≤ 8) : ∀ (q i fuel : Nat) (T : St), i + q = m → q + 1 ≤ fuel → gv T 200 33 = nI m → ∃ T', f_X11_orders_l241 N (nI k) K fuel T (nI i) = K T' ∧ Kp (fun a j => (a = 226 ∨ a = 227) ∧ 8 * k ≤ j ∧ j < 8 * k + 8) T T' ∧ (∀ x, i ≤ x → x < m → gv T' 226 (8 * k + x) = gv T 232 x ∧ gv T' 227 (8 * k + x) = gv T 233 x) ∧ (∀ x, x < i → gv T' 226 (8 * k + x) = gv T 226 (8 * k + x) ∧ gv T' 227 (8 * k + x) = gv T 227 (8 * k + x)) := by
  intro q
  induction q with
  | zero =>
    intro i fuel T hi hf h34
    obtain ⟨fuel, rfl⟩ : ∃ q, fuel = q + 1 := ⟨fuel - 1, by omega⟩
    rw [f_X11_orders_l241, h34, if_pos (le_n (by omega) (by omega))]
    exact ⟨T, rfl, Kp.rf, fun x h1 h2 => by omega, fun x h => ⟨rfl, rfl⟩⟩
  | succ q ih =>
    intro i fuel T hi hf h34
    obtain ⟨fuel, rfl⟩ : ∃ q, fuel = q + 1 := ⟨fuel - 1, by omega⟩
    have e5 : (8 : Int32) * nI k + nI i = nI (8 * k + i) := by rw [show (8 : Int32) = nI 8 from rfl, nI_mul, nI_add]
    rw [f_X11_orders_l241, h34, if_neg (nle_n (by omega) (by omega)), if_neg (in_ok (show i < 8 by omega) (by omega)), e5, if_neg (in_ok (show 8 * k + i < 48 by omega) (by omega)), ix_nI (show i < 2147483648 by omega), ix_nI (show 8 * k + i < 2147483648 by omega), bnE]
    have f5 : ¬ (nI i < 0 ∨ 8 ≤ i) := fun h => h.elim (nn (by omega)) (by omega)
    have f6 : ¬ (nI (8 * k + i) < 0 ∨ 48 ≤ 8 * k + i) := fun h => h.elim (nn (by omega)) (by omega)
    rw [if_neg f5, if_neg f6, bnE, bnE, gv_ne (show (233 : Nat) ≠ 226 by omega), nl_add1]
    have k1 : Kp (fun a j => (a = 226 ∨ a = 227) ∧ 8 * k ≤ j ∧ j < 8 * k + 8) T (sv (sv T 226 (8 * k + i) (gv T 232 i)) 227 (8 * k + i) (gv T 233 i)) := (Kp.rf.sv ⟨Or.inl rfl, by omega⟩).sv ⟨Or.inr rfl, by omega⟩
    obtain ⟨T', x1, x2, x3, x4⟩ := ih (i + 1) fuel _ (by omega) (by omega) (by rw [k1.1 _ _ (by omega)]; exact h34)
    refine ⟨T', x1, k1.tr x2, fun x h1 h2 => ?_, fun x h => ?_⟩
    · by_cases c : x = i
      · subst c
        rw [(x4 x (by omega)).1, (x4 x (by omega)).2, gv_ne (by omega), gv_at, gv_at]
        exact ⟨rfl, rfl⟩
      · rw [(x3 x (by omega) h2).1, (x3 x (by omega) h2).2, k1.1 232 _ (by omega), k1.1 233 _ (by omega)]
        exact ⟨rfl, rfl⟩
    · rw [(x4 x (by omega)).1, (x4 x (by omega)).2, gv_ne (by omega), gv_nk (by omega), gv_nk (by omega), gv_ne (by omega)]
      exact ⟨rfl, rfl⟩
theorem cp3 {k m : Nat} {K : St → Option (Int32 × St)} (hk : k < 6) (hm : m ≤ 8) : ∀ (q i fuel : Nat) (T : St), i + q = m + 1 → q + 1 ≤ fuel → gv T 200 33 = nI m → ∃ T', f_X11_orders_l291 N (nI k) K fuel T (nI i) = K T' ∧ Kp (fun a j => a = 225 ∧ 10 * k ≤ j ∧ j < 10 * k + 10) T T' ∧ (∀ x, i ≤ x → x ≤ m → gv T' 225 (10 * k + x) = gv T 231 x) ∧ (∀ x, x < i → gv T' 225 (10 * k + x) = gv T 225 (10 * k + x)) := by
  intro q
  induction q with
  | zero =>
    intro i fuel T hi hf h34
    obtain ⟨fuel, rfl⟩ : ∃ q, fuel = q + 1 := ⟨fuel - 1, by omega⟩
    rw [f_X11_orders_l291, h34, if_pos (lt_n (by omega) (by omega))]
    exact ⟨T, rfl, Kp.rf, fun x h1 h2 => by omega, fun x h => rfl⟩
  | succ q ih =>
    intro i fuel T hi hf h34
    obtain ⟨fuel, rfl⟩ : ∃ q, fuel = q + 1 := ⟨fuel - 1, by omega⟩
    have e5 : (10 : Int32) * nI k + nI i = nI (10 * k + i) := by rw [show (10 : Int32) = nI 10 from rfl, nI_mul, nI_add]
    rw [f_X11_orders_l291, h34, if_neg (nlt_n (by omega) (by omega)), if_neg (in_ok (show i < 10 by omega) (by omega)), e5, if_neg (in_ok (show 10 * k + i < 60 by omega) (by omega)), ix_nI (show i < 2147483648 by omega), ix_nI (show 10 * k + i < 2147483648 by omega), bnE, bnE, nl_add1]
    have k1 : Kp (fun a j => a = 225 ∧ 10 * k ≤ j ∧ j < 10 * k + 10) T (sv T 225 (10 * k + i) (gv T 231 i)) := Kp.rf.sv ⟨rfl, by omega⟩
    obtain ⟨T', x1, x2, x3, x4⟩ := ih (i + 1) fuel _ (by omega) (by omega) (by rw [k1.1 _ _ (by omega)]; exact h34)
    refine ⟨T', x1, k1.tr x2, fun x h1 h2 => ?_, fun x h => ?_⟩
    · by_cases c : x = i
      · subst c
        rw [x4 x (by omega), gv_at]
      · rw [x3 x (by omega) h2, k1.1 231 _ (by omega)]
    · rw [x4 x (by omega), gv_nk (by omega)]
/-- what the reference does in the end: its orders of herd k are what was read -/
theorem copy_n {k : Nat} {T : St} {S : St} {ops tk p nx v : Nat} {Ls : List (List (Nat × Nat) × Nat)} (hN : 1000 ≤ N) (hn : n ≤ 500) (hk : k < 6) (hG : G0 b n o S T tk p nx v (FL Ls) ops) (hL : LN S T o Ls) : ∃ T', f_X11_orders_j165 N T (nI k) = some (nI Ls.length, T') ∧ Kp (fun a j => a = 231 ∨ ((a = 223 ∨ a = 224) ∧ 500 * k ≤ j ∧ j < 500 * k + 500) ∨ ((a = 226 ∨ a = 227) ∧ 8 * k ≤ j ∧ j < 8 * k + 8) ∨ (a = 225 ∧ 10 * k ≤ j ∧ j < 10 * k + 10) ∨ (a = 228 ∧ j = k)) T T' ∧ ORel S T' o k Ls := by
  obtain ⟨hS, hT, ⟨l0, l1, l5, l2, l43, l40, hs⟩, ⟨c1, c2, c3, c4⟩, ⟨f1, f2, f3, f4, f9⟩, b1, b2, b3, b4, b5, b6, b7⟩ := id hG
  obtain ⟨n1, n2, n3, n4, n5, n6⟩ := hL
  have hlen : (FL Ls).length ≤ 500 := by omega
  unfold f_X11_orders_j165
  rw [f4, if_pos (by decide), n3, if_neg (in_ok (show Ls.length < 10 by omega) (by omega)), ix_nI (by omega), f1, bnE]
  have k0 : Kp (fun a j => a = 231) T (sv T 231 Ls.length (nI (FL Ls).length)) := Kp.rf.sv rfl
  obtain ⟨T1, x1, x2, x3, _⟩ := cp1 (N := N) (K := fun S_50 => f_X11_orders_l241 N (nI k) (fun S_59 => f_X11_orders_l291 N (nI k) (fun S_65 => if nI k < 0 ∨ 6 ≤ ix (nI k) then none else bn (sv S_65 228 (ix (nI k)) (gv S_65 200 33)) fun S_67 => some ((gv S_67 200 33), S_67)) N S_59 0) N S_50 0) hk hlen (FL Ls).length 0 N (sv T 231 Ls.length (nI (FL Ls).length)) (by omega) (by omega) (by rw [gv_ne (by omega)]; exact f1)
  obtain ⟨T2, y1, y2, y3, _⟩ := cp2 (N := N) (K := fun S_59 => f_X11_orders_l291 N (nI k) (fun S_65 => if nI k < 0 ∨ 6 ≤ ix (nI k) then none else bn (sv S_65 228 (ix (nI k)) (gv S_65 200 33)) fun S_67 => some ((gv S_67 200 33), S_67)) N S_59 0) hk n1 Ls.length 0 N T1 (by omega) (by omega) (by rw [x2.1 _ _ (by omega), gv_ne (by omega)]; exact n3)
  obtain ⟨T3, z1, z2, z3, _⟩ := cp3 (N := N) (K := fun S_65 => if nI k < 0 ∨ 6 ≤ ix (nI k) then none else bn (sv S_65 228 (ix (nI k)) (gv S_65 200 33)) fun S_67 => some ((gv S_67 200 33), S_67)) hk n1 (Ls.length + 1) 0 N T2 (by omega) (by omega) (by rw [y2.1 _ _ (by omega), x2.1 _ _ (by omega), gv_ne (by omega)]; exact n3)
  have n3' : gv T3 200 33 = nI Ls.length := by rw [z2.1 _ _ (by omega), y2.1 _ _ (by omega), x2.1 _ _ (by omega), gv_ne (by omega)]; exact n3
  refine ⟨sv T3 228 k (nI Ls.length), ?_, ?_, ?_⟩
  · refine Eq.trans x1 (Eq.trans y1 (Eq.trans z1 ?_))
    rw [if_neg (in_ok hk (by omega)), ix_nI (by omega), n3', bnE, gv_ne (by omega), n3']
  · exact ((((k0.mo (fun a j h => Or.inl h)).tr (x2.mo (fun a j h => Or.inr (Or.inl h)))).tr (y2.mo (fun a j h => Or.inr (Or.inr (Or.inl h))))).tr (z2.mo (fun a j h => Or.inr (Or.inr (Or.inr (Or.inl h)))))).sv (Or.inr (Or.inr (Or.inr (Or.inr ⟨rfl, rfl⟩))))
  · refine ⟨n1, n2, gv_at, hlen, by omega, fun i c v hi => ?_, n4, fun hp j hj => ?_, fun j l a hj => ?_⟩
    · obtain ⟨hi', _⟩ := List.getElem?_eq_some_iff.mp hi
      obtain ⟨g1, g2⟩ := c3 i c v hi
      obtain ⟨g3, g4⟩ := f2 i c v hi
      have e1 : gv (sv T3 228 k (nI Ls.length)) 223 (500 * k + i) = gv T 229 i := by
        rw [gv_ne (by omega), z2.1 _ _ (by omega), y2.1 _ _ (by omega), (x3 i (by omega) hi').1, gv_ne (by omega)]
      have e2 : gv (sv T3 228 k (nI Ls.length)) 224 (500 * k + i) = gv T 230 i := by
        rw [gv_ne (by omega), z2.1 _ _ (by omega), y2.1 _ _ (by omega), (x3 i (by omega) hi').2, gv_ne (by omega)]
      rw [e1, e2]
      exact ⟨g1, g3, g4, g2⟩
    · rw [gv_ne (by omega), z3 j (by omega) hj, y2.1 _ _ (by omega), x2.1 _ _ (by omega)]
      by_cases c : j = Ls.length
      · subst c
        rw [gv_at, List.take_of_length_le (Nat.le_refl _)]
      · rw [gv_nk c]
        exact n5 j (by omega)
    · obtain ⟨hj', _⟩ := List.getElem?_eq_some_iff.mp hj
      have e1 : gv (sv T3 228 k (nI Ls.length)) 226 (8 * k + j) = gv T 232 j := by
        rw [gv_ne (by omega), z2.1 _ _ (by omega), (y3 j (by omega) hj').1, x2.1 _ _ (by omega), gv_ne (by omega)]
      have e2 : gv (sv T3 228 k (nI Ls.length)) 227 (8 * k + j) = gv T 233 j := by
        rw [gv_ne (by omega), z2.1 _ _ (by omega), (y3 j (by omega) hj').2, x2.1 _ _ (by omega), gv_ne (by omega)]
      rw [e1, e2]
      exact n6 j l a hj
end
/-! orders: all together -/
theorem ORel.ag2 {S S' T T' : St} {o k : Nat} {Ls : List (List (Nat × Nat) × Nat)} (hk : k < 6) (h : ORel S T o k Ls) (e1 : ∀ a j, a = o ∨ a = o + 10 ∨ a = o + 20 ∨ a = o + 30 → gv S' a j = gv S a j) (e2 : ∀ a j, (a = 223 ∨ a = 224) → 500 * k ≤ j → j < 500 * k + 500 → gv T' a j = gv T a j) (e3 : ∀ j, 10 * k ≤ j → j < 10 * k + 10 → gv T' 225 j = gv T 225 j) (e4 : ∀ a j, (a = 226 ∨ a = 227) → 8 * k ≤ j → j < 8 * k + 8 → gv T' a j = gv T a j) (e5 : gv T' 228 k = gv T 228 k) : ORel S' T' o k Ls := by
  obtain ⟨o1, o2, o3, o4, o5, o6, o7, o8, o9⟩ := h
  refine ⟨o1, by rw [e1 _ _ (by omega)]; exact o2, by rw [e5]; exact o3, o4, o5, fun i c v hi => ?_, fun j hj => by rw [e1 _ _ (by omega)]; exact o7 j hj, fun hp j hj => by rw [e3 _ (by omega) (by omega)]; exact o8 hp j hj, fun j l a hj => ?_⟩
  · obtain ⟨hi', _⟩ := List.getElem?_eq_some_iff.mp hi
    rw [e1 _ _ (by omega), e2 _ _ (by omega) (by omega) (by omega), e2 _ _ (by omega) (by omega) (by omega)]
    exact o6 i c v hi
  · obtain ⟨hj', _⟩ := List.getElem?_eq_some_iff.mp hj
    rw [e1 _ _ (by omega), e4 _ _ (by omega) (by omega) (by omega), e4 _ _ (by omega) (by omega) (by omega)]
    exact o9 j l a hj
/-- what the class's orders may write, spare o -/
def wU (o : Nat) (a j : Nat) : Prop := a = 110 ∨ a = 111 ∨ a = o ∨ a = o + 10 ∨ a = o + 20 ∨ a = o + 30 ∨ (a = 0 ∧ (j = 8 ∨ j = 9 ∨ j = 10))
def wV (a j : Nat) : Prop := wQ a j ∨ (a = 200 ∧ (j = 37 ∨ j = 41)) ∨ (223 ≤ a ∧ a ≤ 228)
theorem ord_end {m st o : Nat} {S S' T T' : St} (h : InvN m st S T) (ho : 70 ≤ o ∧ o < 77) (eS : ∀ a j, a < 200 → ¬ wU o a j → gv S' a j = gv S a j) (eT : ∀ a j, 200 ≤ a → ¬ wV a j → gv T' a j = gv T a j) (hr : IRef m S') (hf : IFlt S' T') (h8 : gv S' 0 8 = nI 0) (h37 : gv T' 200 37 = nI 0) (hO : IOrd m S' T') : InvN m st S' T' := by
  obtain ⟨hn, _, hDay, hLet, hFlt, hBil, hRoad, hPas, hTap, hHrd, hOrd⟩ := h
  refine ⟨hn, hr, hDay.fr (fun a j h r => eS a j h (by unfold wU; unfold rDay at r; omega)) (fun a j h r => eT a j h (by unfold wV wQ; unfold rDay at r; omega)), hLet.fr (fun a j h r => eS a j h (by unfold wU; unfold rLet at r; omega)) (fun a j h r => eT a j h (by unfold wV wQ; unfold rLet at r; omega)), hf, hBil.fr (fun a j h r => eS a j h (by unfold wU; unfold rBil at r; omega)) (fun a j h r => eT a j h (by unfold wV wQ; unfold rBil at r; omega)), hRoad.fr (fun a j h r => eS a j h (by unfold wU; unfold rRoad at r; omega)) (fun a j h r => eT a j h (by unfold wV wQ; unfold rRoad at r; omega)), hPas.fr (fun a j h r => eS a j h (by unfold wU; unfold rPas at r; omega)) (fun a j h r => eT a j h (by unfold wV wQ; unfold rPas at r; omega)), ⟨0, by omega, h8, h37, fun i hi => by omega⟩, hHrd.fr hn (fun a j h r => eS a j h (by unfold wU; unfold rHrd at r; omega)) (fun a j h r => eT a j h (by unfold wV wQ; unfold rHrd at r; omega)), hO⟩
theorem fx06 : fxs 0 6 = none := by decide
theorem fx66 {k : Nat} (hk : k < 6) : fxs (60 + k) 6 = none := by
  unfold fxs
  rw [if_neg (by omega), if_neg (by omega), if_neg (by omega), if_neg (by omega), if_neg (by omega), if_neg (by omega), if_pos (by omega)]
theorem IRef.fr2 {m : Nat} {S S' : St} (hm : m ≤ 6) (h : IRef m S) (k : ∀ a j, a ≠ 110 → a ≠ 111 → gr S' a j = gr S a j) : IRef m S' := by
  obtain ⟨h1, ⟨f, h2, h3, h4, h5⟩, h6, h7⟩ := h
  have no : ∀ x ∈ LL m, x ≠ 110 ∧ x ≠ 111 := fun x hx => ⟨fun e => LL_no hm (Or.inl rfl) (e ▸ hx), fun e => LL_no hm (Or.inr (Or.inl rfl)) (e ▸ hx)⟩
  refine ⟨fun i hi => by rw [k _ _ (by omega) (by omega)]; exact h1 i hi, ⟨f, by rw [k _ _ (by omega) (by omega)]; exact h2, fun i hi => by rw [k _ _ (by omega) (by omega)]; exact h3 i hi, h4, h5⟩, ?_, ?_⟩
  · intro x hx i y hy
    rw [k x i (no x hx).1 (no x hx).2] at hy
    exact h6 x hx i y hy
  · intro x hx i y hy
    rw [k x i (no x hx).1 (no x hx).2]
    exact h7 x hx i y hy
/-- the swap of a herd's orders with the spare ones -/
theorem IRef.swap {m k : Nat} {S S' : St} {f : Nat → Nat} (hm : m ≤ 6) (hk : k < m) (h : IRef m S) (f1 : gr S 0 6 = some (70 + f m)) (f2 : ∀ k, k < m → gr S (60 + k) 6 = some (70 + f k)) (f3 : ∀ k, k ≤ m → f k ≤ m) (f4 : ∀ i j, i ≤ m → j ≤ m → f i = f j → i = j) (e : ∀ a j, a ≠ 110 → a ≠ 111 → gr S' a j = if a = 0 ∧ j = 6 then some (70 + f k) else if a = 60 + k ∧ j = 6 then some (70 + f m) else gr S a j) : IRef m S' := by
  obtain ⟨h1, _, h6, h7⟩ := h
  have no : ∀ x ∈ LL m, x ≠ 110 ∧ x ≠ 111 := fun x hx => ⟨fun e => LL_no hm (Or.inl rfl) (e ▸ hx), fun e => LL_no hm (Or.inr (Or.inl rfl)) (e ▸ hx)⟩
  have hok : oko (LL m) (70 + f m) := ok_o hm (f3 m (Nat.le_refl _))
  have hok2 : oko (LL m) (70 + f k) := ok_o hm (f3 k (by omega))
  refine ⟨fun i hi => ?_, ⟨fun i => if i = k then f m else if i = m then f k else f i, ?_, fun i hi => ?_, fun i hi => ?_, fun i j hi hj hij => ?_⟩, ?_, ?_⟩
  · rw [e _ _ (by omega) (by omega), if_neg (by omega), if_neg (by omega)]; exact h1 i hi
  · dsimp only
    rw [e _ _ (by omega) (by omega), if_pos (show (0 : Nat) = 0 ∧ (6 : Nat) = 6 from ⟨rfl, rfl⟩), if_neg (show ¬ m = k by omega), if_pos rfl]
  · dsimp only
    rw [e _ _ (by omega) (by omega), if_neg (show ¬ (60 + i = 0 ∧ (6 : Nat) = 6) by omega)]
    by_cases c : i = k
    · subst c
      rw [if_pos (show 60 + i = 60 + i ∧ (6 : Nat) = 6 from ⟨rfl, rfl⟩), if_pos rfl]
    · rw [if_neg (show ¬ (60 + i = 60 + k ∧ (6 : Nat) = 6) by omega), if_neg c, if_neg (show ¬ i = m by omega)]; exact f2 i hi
  · dsimp only
    by_cases c : i = k
    · rw [if_pos c]; exact f3 m (Nat.le_refl _)
    · rw [if_neg c]
      by_cases c2 : i = m
      · rw [if_pos c2]; exact f3 k (by omega)
      · rw [if_neg c2]; exact f3 i hi
  · have key : ∀ i, i ≤ m → (if i = k then f m else if i = m then f k else f i) = f (if i = k then m else if i = m then k else i) := by
      intro i _
      by_cases c : i = k
      · rw [if_pos c, if_pos c]
      · rw [if_neg c, if_neg c]
        by_cases c2 : i = m
        · rw [if_pos c2, if_pos c2]
        · rw [if_neg c2, if_neg c2]
    dsimp only at hij
    rw [key i hi, key j hj] at hij
    have := f4 _ _ (by split <;> (try split) <;> omega) (by split <;> (try split) <;> omega) hij
    repeat' split at this
    all_goals omega
  · intro x hx i y hy
    rw [e x i (no x hx).1 (no x hx).2] at hy
    by_cases c : x = 0 ∧ i = 6
    · rw [if_pos c] at hy
      rw [← Option.some.inj hy]; exact hok2.2.2.1
    · rw [if_neg c] at hy
      by_cases c2 : x = 60 + k ∧ i = 6
      · rw [if_pos c2] at hy
        rw [← Option.some.inj hy]; exact hok.2.2.1
      · rw [if_neg c2] at hy
        exact h6 x hx i y hy
  · intro x hx i y hy
    rw [e x i (no x hx).1 (no x hx).2, if_neg (fun c => by rw [c.1, c.2, fx06] at hy; cases hy), if_neg (fun c => by rw [c.1, c.2, fx66 (by omega)] at hy; cases hy)]
    exact h7 x hx i y hy
theorem sim_orders {N m st : Nat} {a : Int32} {S T : St} (hN : 1000 ≤ N) (h : InvN m st S T) : ∃ r S' T', f_X10_orders (LL m) N S a = some (r, S') ∧ f_X11_orders N T a = some (r, T') ∧ InvN m st S' T' ∧ (∀ x y, 200 ≤ x → gv S' x y = gv S x y) ∧ Kp wR T T' := by
  obtain ⟨hn, hr, hDay, hLet, hFlt, hBil, hRoad, hPas, ⟨nt, t1, t2, t3, t4⟩, hHrd, hOrd⟩ := id h
  rcases hd_find hn hHrd.1 hHrd.2.1 hr a with ⟨e1, e2⟩ | ⟨k, hk, ea, e1, e2, e3⟩
  · refine ⟨-2, S, T, ?_, ?_, h, fun _ _ _ => rfl, Kp.rf⟩
    · unfold f_X10_orders
      rw [e1]; rfl
    · unfold f_X11_orders
      rw [e2]; rfl
  · subst ea
    have hk6 : k < 6 := by omega
    obtain ⟨f, f1, f2, f3, f4⟩ := hr.2.1
    have hfm := f3 m (Nat.le_refl _)
    have hfk := f3 k (by omega)
    have hok : oko (LL m) (70 + f m) := ok_o hn hfm
    have hok2 : oko (LL m) (70 + f k) := ok_o hn hfk
    have lift : ∀ x, oko (LL m) x → oko (LL m ++ [110] ++ [111]) x := fun x hx => ⟨hx.1, hx.2.1, by simp [hx.2.2.1], by simp [hx.2.2.2.1], by simp [hx.2.2.2.2.1], by simp [hx.2.2.2.2.2]⟩
    have hokL := lift _ hok
    have hokL2 := lift _ hok2
    generalize ho : 70 + f m = o at hok hokL f1
    have ho1 : 70 ≤ o ∧ o < 77 := by omega
    -- the tape
    obtain ⟨b, hb, hbT, hbS⟩ : ∃ b : Nat → Nat, (∀ i, b i < 256) ∧ (∀ i, i < nt → gv T 237 i = nI (b i)) ∧ (∀ i, i < nt → gv S 7 i = sbyte (b i)) := by
      refine ⟨fun i => if hi : i < nt then (t4 i hi).choose else 0, fun i => ?_, fun i hi => ?_, fun i hi => ?_⟩
      · by_cases hi : i < nt
        · simp only [dif_pos hi]; exact (t4 i hi).choose_spec.1
        · simp only [dif_neg hi]; omega
      · simp only [dif_pos hi]; exact (t4 i hi).choose_spec.2.1
      · simp only [dif_pos hi]; exact (t4 i hi).choose_spec.2.2
    -- the class's parser
    have e500 : (if (500 : Int32) < nI nt then (500 : Int32) else nI nt) = nI nt := if_neg (nlt_n (a := 500) t1 (by omega))
    generalize hS2 : sr (sr (sv (sr (sv (sv (sv (sv (zr (sv (sv (sv (zr S 110) 110 0 0) 110 1 (-1)) 110 4 0) 111) 111 0 27) 111 1 0) 111 2 0) 111 5 0) 111 3 (some 7)) 111 4 (nI nt)) 110 2 (some 111)) 110 3 (some o) = S2
    have i2 : f_X6_init (zr S 110) (nI nt) o = some S2 := by
      unfold f_X6_init f_X3_init
      simp only [bn, cl0, e500]
      rw [hS2]
    have v2 : ∀ a j, a ≠ 110 → a ≠ 111 → gv S2 a j = gv S a j := by
      intro a j h1 h2
      rw [← hS2]
      simp [gv_sv, gv_sr, gv_zr, h1, h2]
    have r2 : ∀ a j, a ≠ 110 → a ≠ 111 → gr S2 a j = gr S a j := by
      intro a j h1 h2
      rw [← hS2]
      simp [gr_sv, gr_sr, gr_zr, h1, h2]
    have r3 : gr S2 110 3 = some o := by rw [← hS2]; simp [gr_sr]
    have p0 : gv S2 110 0 = 0 := by rw [← hS2]; simp [gv_sv, gv_sr, gv_zr]
    have p1 : gv S2 110 1 = -1 := by rw [← hS2]; simp [gv_sv, gv_sr, gv_zr]
    have p4 : gv S2 110 4 = 0 := by rw [← hS2]; simp [gv_sv, gv_sr, gv_zr]
    have q4 : gv S2 111 4 = nI nt := by rw [← hS2]; simp [gv_sv, gv_sr, gv_zr]
    have q5 : gv S2 111 5 = 0 := by rw [← hS2]; simp [gv_sv, gv_sr, gv_zr]
    generalize hS5 : sv (sv S2 o 3 0) o 4 0 = S5
    have k5 : Kp (fun a j => a = o ∧ (j = 3 ∨ j = 4)) S2 S5 := by
      rw [← hS5]; exact (Kp.rf.sv ⟨rfl, Or.inl rfl⟩).sv ⟨rfl, Or.inr rfl⟩
    have tc5 : TC S5 b nt := ⟨by rw [k5.1 _ _ (by omega)]; exact q4, fun i hi => by rw [k5.1 _ _ (by omega), v2 _ _ (by omega) (by omega)]; exact hbS i hi⟩
    -- the reference's start
    generalize hT2 : sv (sv (sv (sv (sv (sv (sv (sv T 200 41 (gv T 200 37)) 200 37 0) 200 40 0) 200 38 0) 200 39 (-1)) 200 33 0) 200 34 0) 200 35 0 = T2
    have kT2 : Kp (fun a j => a = 200 ∧ (j = 41 ∨ j = 37 ∨ j = 40 ∨ j = 38 ∨ j = 39 ∨ j = 33 ∨ j = 34 ∨ j = 35)) T T2 := by
      rw [← hT2]
      exact (((((((Kp.rf.sv ⟨rfl, by omega⟩).sv ⟨rfl, by omega⟩).sv ⟨rfl, by omega⟩).sv ⟨rfl, by omega⟩).sv ⟨rfl, by omega⟩).sv ⟨rfl, by omega⟩).sv ⟨rfl, by omega⟩).sv ⟨rfl, by omega⟩
    have u41 : gv T2 200 41 = nI nt := by rw [← hT2]; simp [gv_sv, t3]
    have u37 : gv T2 200 37 = 0 := by rw [← hT2]; simp [gv_sv]
    have u40 : gv T2 200 40 = 0 := by rw [← hT2]; simp [gv_sv]
    have u38 : gv T2 200 38 = 0 := by rw [← hT2]; simp [gv_sv]
    have u39 : gv T2 200 39 = -1 := by rw [← hT2]; simp [gv_sv]
    have u33 : gv T2 200 33 = 0 := by rw [← hT2]; simp [gv_sv]
    have u34 : gv T2 200 34 = 0 := by rw [← hT2]; simp [gv_sv]
    have u35 : gv T2 200 35 = 0 := by rw [← hT2]; simp [gv_sv]
    have tr2 : TR T2 b nt := ⟨u41, fun i hi => by rw [kT2.1 _ _ (by omega)]; exact hbT i hi⟩
    obtain ⟨tk, p, nx, v, S7, T7, x1, x2, x3, x4, x5, x6, x7, x8, x9, x10, x11, x12⟩ := lex_step hN hb t1 tc5 tr2 (a := 0) (by rw [k5.1 _ _ (by omega)]; exact q5) u40 (by omega)
    have k57 : ∀ a j, ¬ wLc a j → gv S7 a j = gv S5 a j := fun a j h => x3.1 a j h
    have hG0 : G0 b nt o S7 T7 tk p nx v (FL []) 0 := by
      refine ⟨x5, x6, x7, ⟨?_, ?_, fun i c v hi => by simp [FL] at hi, ?_, ?_, ?_⟩, ⟨?_, fun i c v hi => by simp [FL] at hi, ?_, ?_, ?_⟩, x9, x10, x11, x12, by simp [FL], by omega, rfl⟩
      · rw [x3.2, k5.2]; exact r3
      · rw [k57 _ _ (by unfold wLc; omega), ← hS5, gv_at]; rfl
      · rw [k57 _ _ (by unfold wLc; omega), k5.1 _ _ (by omega)]; exact p4
      · rw [k57 _ _ (by unfold wLc; omega), k5.1 _ _ (by omega)]; exact p0
      · rw [k57 _ _ (by unfold wLc; omega), k5.1 _ _ (by omega)]; exact p1
      · rw [x4.1 _ _ (by unfold wLr; omega)]; exact u34
      · rw [x4.1 _ _ (by unfold wLr; omega)]; exact u35
      · rw [x4.1 _ _ (by unfold wLr; omega)]; exact u38
      · rw [x4.1 _ _ (by unfold wLr; omega)]; exact u39
    have hLN : LN S7 T7 o [] := by
      refine ⟨by simp, ?_, ?_, fun j hj => by simp at hj, fun j hj => by simp at hj, fun j l a hj => by simp at hj⟩
      · rw [k57 _ _ (by unfold wLc; omega), ← hS5, gv_nk (by omega), gv_at]; rfl
      · rw [x4.1 _ _ (by unfold wLr; omega)]; exact u33
    obtain ⟨r, S8, T8, y1, y2, y3, y4⟩ := lines_l (N := N) (L := LL m ++ [110] ++ [111]) (v1 := nI k) (K := fun S_38 => f_X11_orders_j165 N S_38 (nI k)) hN hb t1 hokL 8 [] S7 T7 tk p nx v 0 N N (by simp) (by omega) (by omega) hG0 hLN
    -- both runs
    have cl : f_X10_orders (LL m) N S (nI k) = if r = 0 then some (-1, sv (sv (sv S8 0 9 (gv S8 110 0)) 0 10 (gv S8 110 1)) 0 8 0) else (oc (gr S8 (60 + k) 6) (none) fun n_9 => if oko (LL m ++ [110] ++ [111]) n_9 then (oc (gr S8 0 6) (none) fun n_12 => if oko (LL m ++ [110] ++ [111]) n_12 then (bn (sr (sv (sv (sv S8 0 9 (gv S8 110 0)) 0 10 (gv S8 110 1)) 0 8 0) (60 + k) 6 (some n_12)) fun S_15 => bn (sr S_15 0 6 (some n_9)) fun S_16 => oc (gr S_16 (60 + k) 6) (none) fun n_17 => if oko (LL m ++ [110] ++ [111]) n_17 then (some ((gv S_16 n_17 3), S_16)) else none) else none) else none) := by
      unfold f_X10_orders
      rw [e1, cl0s, ocs, if_pos e3, bnE, gr_zr, if_neg (by omega), f1, ocs, if_pos hok, gv_zr, if_neg (by omega), t2, i2, cl0s]
      unfold f_X10_orders_s
      have rd : f_X6_read (LL m ++ [110] ++ [111]) N S2 = some (r, S8) := by
        unfold f_X6_read f_X5_clear
        rw [r3, ocs, if_pos hokL, bnE, bnE, hS5, cl0s, x1, cl0s]
        exact y1
      rw [rd, cl1s, bnE, gv_ne (show (110 : Nat) ≠ 0 by omega), bnE, bnE]
      rfl
    have rf : f_X11_orders N T (nI k) = f_X11_orders_l58 N (nI k) (fun S_38 => f_X11_orders_j165 N S_38 (nI k)) N T7 := by
      unfold f_X11_orders
      rw [e2, cl0s, if_neg (by decide)]
      simp only [bn]
      rw [hT2, x2, cl0s]
    rw [cl, rf]
    have eS8 : ∀ a j, a < 200 → ¬ wU o a j → gv S8 a j = gv S a j := by
      intro a j h1 h2
      unfold wU at h2
      rw [y2.1 _ _ (by unfold wO; omega), k57 _ _ (by unfold wLc; omega), k5.1 _ _ (by omega), v2 _ _ (by omega) (by omega)]
    have eS8' : ∀ a j, 200 ≤ a → gv S8 a j = gv S a j := by
      intro a j h1
      rw [y2.1 _ _ (by unfold wO; omega), k57 _ _ (by unfold wLc; omega), k5.1 _ _ (by omega), v2 _ _ (by omega) (by omega)]
    have rS8 : ∀ a j, a ≠ 110 → a ≠ 111 → gr S8 a j = gr S a j := by
      intro a j h1 h2
      rw [y2.2, x3.2, k5.2, r2 a j h1 h2]
    have eT8 : ∀ a j, 200 ≤ a → ¬ (wQ a j ∨ (a = 200 ∧ (j = 37 ∨ j = 41))) → gv T8 a j = gv T a j := by
      intro a j h1 h2
      unfold wQ at h2
      rw [y3.1 _ _ (by unfold wQ; omega), x4.1 _ _ (by unfold wLr; omega), kT2.1 _ _ (by omega)]
    have kT8 : Kp wR T T8 := ((kT2.mo (fun a j h => show 200 ≤ a by omega)).tr (x4.mo (fun a j h => show 200 ≤ a by unfold wLr at h; omega))).tr (y3.mo (fun a j h => show 200 ≤ a by unfold wQ at h; omega))
    have t37 : gv T8 200 37 = nI 0 := by
      rw [y3.1 _ _ (by unfold wQ; omega), x4.1 _ _ (by unfold wLr; omega)]; exact u37
    have g9 : ∀ a j, ¬ (a = 0 ∧ (j = 8 ∨ j = 9 ∨ j = 10)) → gv (sv (sv (sv S8 0 9 (gv S8 110 0)) 0 10 (gv S8 110 1)) 0 8 0) a j = gv S8 a j := by
      intro a j h
      rw [gv_sv, if_neg (by omega), gv_sv, if_neg (by omega), gv_sv, if_neg (by omega)]
    generalize hS9 : sv (sv (sv S8 0 9 (gv S8 110 0)) 0 10 (gv S8 110 1)) 0 8 0 = S9 at g9 ⊢
    have g90 : gv S9 0 9 = gv S8 110 0 := by rw [← hS9]; simp [gv_sv]
    have g910 : gv S9 0 10 = gv S8 110 1 := by rw [← hS9]; simp [gv_sv]
    have g98 : gv S9 0 8 = nI 0 := by rw [← hS9]; simp [gv_sv]; rfl
    have rS9 : ∀ a j, gr S9 a j = gr S8 a j := by intro a j; rw [← hS9]; rfl
    have eS9 : ∀ a j, a < 200 → ¬ wU o a j → gv S9 a j = gv S a j := fun a j h1 h2 => by rw [g9 a j (by unfold wU at h2; omega)]; exact eS8 a j h1 h2
    have eS9' : ∀ a j, 200 ≤ a → gv S9 a j = gv S a j := fun a j h1 => by rw [g9 a j (by omega)]; exact eS8' a j h1
    -- other herds' orders stay
    have oth : ∀ (S' T' : St), (∀ a j, a < 200 → ¬ wU o a j → gv S' a j = gv S a j) → (∀ a j, 223 ≤ a → a ≤ 228 → (¬ (((a = 223 ∨ a = 224) ∧ 500 * k ≤ j ∧ j < 500 * k + 500) ∨ ((a = 226 ∨ a = 227) ∧ 8 * k ≤ j ∧ j < 8 * k + 8) ∨ (a = 225 ∧ 10 * k ≤ j ∧ j < 10 * k + 10) ∨ (a = 228 ∧ j = k))) → gv T' a j = gv T a j) → ∀ i, i < m → i ≠ k → ∃ Ls, ORel S' T' (70 + f i) i Ls := by
      intro S' T' h1 h2 i hi hik
      obtain ⟨Ls, hO⟩ := hOrd.1 i _ hi (f2 i hi)
      have hfi := f3 i (by omega)
      have hne : 70 + f i ≠ o := by
        intro e
        have := f4 i m (by omega) (Nat.le_refl _) (by omega)
        omega
      exact ⟨Ls, hO.ag2 (by omega) (fun a j h => h1 a j (by omega) (by unfold wU; omega)) (fun a j h h3 h4 => h2 a j (by omega) (by omega) (by omega)) (fun j h3 h4 => h2 225 j (by omega) (by omega) (by omega)) (fun a j h h3 h4 => h2 a j (by omega) (by omega) (by omega)) (h2 228 i (by omega) (by omega) (by omega))⟩
    rcases y4 with ⟨r1, y5, Ls, tk', p', nx', v', ops', hG', hL'⟩ | ⟨r0, y5, fl, pl, b1, b2, b3, b4, b5, b6⟩
    · obtain ⟨T9, z1, z2, z3⟩ := copy_n (N := N) (k := k) hN t1 hk6 hG' hL'
      have rS8k : gr S8 (60 + k) 6 = some (70 + f k) := by rw [rS8 _ _ (by omega) (by omega)]; exact f2 k hk
      have rS80 : gr S8 0 6 = some o := by rw [rS8 _ _ (by omega) (by omega)]; exact f1
      have hS16r : gr (sr (sr S9 (60 + k) 6 (some o)) 0 6 (some (70 + f k))) (60 + k) 6 = some o := by rw [gr_sr, if_neg (by omega), gr_sr, if_pos ⟨rfl, rfl⟩]
      refine ⟨nI Ls.length, sr (sr S9 (60 + k) 6 (some o)) 0 6 (some (70 + f k)), T9, ?_, ?_, ord_end h ho1 (fun a j h1 h2 => eS9 a j h1 h2) (fun a j h1 h2 => ?_) ?_ ⟨?_, ?_⟩ g98 ?_ ⟨?_, ?_⟩, fun x y h => eS9' x y h, kT8.tr (z2.mo (fun a j h => show 200 ≤ a by omega))⟩
      · rw [r1, if_neg (by decide), rS8k, ocs, if_pos hokL2, rS80, ocs, if_pos hokL, bnE, bnE, hS16r, ocs, if_pos hokL]
        have : gv (sr (sr S9 (60 + k) 6 (some o)) 0 6 (some (70 + f k))) o 3 = nI Ls.length := by
          rw [gv_sr, gv_sr, g9 _ _ (by omega)]; exact hL'.2.1
        rw [this]
      · rw [y5]; exact z1
      · unfold wV at h2
        rw [z2.1 _ _ (by unfold wQ at h2; omega), eT8 a j h1 (fun h3 => h2 (by
          rcases h3 with h3 | h3
          · exact Or.inl h3
          · exact Or.inr (Or.inl h3)))]
      · refine hr.swap (f := f) hn hk (by rw [ho]; exact f1) f2 f3 f4 (fun a j h1 h2 => ?_)
        rw [gr_sr, gr_sr, rS9, rS8 a j h1 h2, ho]
      · show gv S9 0 9 = gv T9 200 38
        rw [g90, hG'.2.2.2.1.2.2.2.2.1, z2.1 _ _ (by omega), hG'.2.2.2.2.1.2.2.2.1]
      · show gv S9 0 10 = gv T9 200 39
        rw [g910, hG'.2.2.2.1.2.2.2.2.2, z2.1 _ _ (by omega), hG'.2.2.2.2.1.2.2.2.2]
      · rw [z2.1 _ _ (by omega)]; exact t37
      · intro i o' hi hio
        by_cases c : i = k
        · subst c
          rw [hS16r] at hio
          have := Option.some.inj hio
          subst this
          exact ⟨Ls, z3.ag (fun j => g9 _ _ (by omega)) (fun j => g9 _ _ (by omega)) (fun j => g9 _ _ (by omega)) (fun j => g9 _ _ (by omega)) (fun a j _ _ => rfl)⟩
        · rw [gr_sr, if_neg (by omega), gr_sr, if_neg (by omega), rS9, rS8 _ _ (by omega) (by omega), f2 i hi] at hio
          have := Option.some.inj hio
          subst this
          exact oth _ T9 (fun a j h1 h2 => eS9 a j h1 h2) (fun a j h1 h2 h3 => by rw [z2.1 _ _ (by omega), eT8 a j (by omega) (by unfold wQ; omega)]) i hi c
      · intro i h1 h2
        rw [z2.1 _ _ (by omega), eT8 _ _ (by omega) (by unfold wQ; omega)]
        exact hOrd.2 i h1 h2
    · refine ⟨-1, S9, T8, ?_, y5, ord_end h ho1 eS9 (fun a j h1 h2 => eT8 a j h1 (fun h3 => h2 (by
        rcases h3 with h3 | h3
        · exact Or.inl h3
        · exact Or.inr (Or.inl h3)))) (hr.fr2 hn (fun a j h1 h2 => by rw [rS9, rS8 a j h1 h2])) ⟨?_, ?_⟩ g98 t37 ⟨?_, ?_⟩, eS9', kT8⟩
      · rw [r0, if_pos rfl]
      · rw [g90, b3, b4]
      · rw [g910, b5, b6]
      · intro i o' hi hio
        rw [rS9, rS8 _ _ (by omega) (by omega), f2 i hi] at hio
        have := Option.some.inj hio
        subst this
        by_cases c : i = k
        · subst c
          obtain ⟨Ls, hO⟩ := hOrd.1 i _ hi (f2 i hi)
          have hne : 70 + f i ≠ o := by
            intro e
            have := f4 i m (by omega) (Nat.le_refl _) (by omega)
            omega
          exact ⟨Ls, hO.ag2 hk6 (fun a j h => eS9 a j (by omega) (by unfold wU; omega)) (fun a j h h3 h4 => eT8 a j (by omega) (by unfold wQ; omega)) (fun j h3 h4 => eT8 _ j (by omega) (by unfold wQ; omega)) (fun a j h h3 h4 => eT8 a j (by omega) (by unfold wQ; omega)) (eT8 _ _ (by omega) (by unfold wQ; omega))⟩
        · exact oth S9 T8 eS9 (fun a j h1 h2 h3 => eT8 a j (by omega) (by unfold wQ; omega)) i hi c
      · intro i h1 h2
        rw [eT8 _ _ (by omega) (by unfold wQ; omega)]
        exact hOrd.2 i h1 h2
theorem stp_8 {N : Nat} (hN : 1000 ≤ N) : Stp_8 N Inv := by
  intro L S a hi
  obtain ⟨m, st, hL, hv⟩ := hi
  subst hL
  obtain ⟨r, S1, T1, e1, e2, e3, e4, e5⟩ := sim_orders (a := a) hN hv
  have hv1 : InvN m st S S1 := hv.fr (fun _ _ => rfl) (fun _ _ _ => rfl) (fun x y h => e4 x y h)
  obtain ⟨r2, S3, T2, f1, f2, f3, f4, f5⟩ := sim_orders (a := a) hN hv1
  rw [e1] at f1
  have g := Option.some.inj f1
  have g1 : r = r2 := congrArg Prod.fst g
  have g2 : S1 = S3 := congrArg Prod.snd g
  subst g1; subst g2
  exact ⟨r, S1, T2, e1, f3.2.1.2.2.1, f3.2.1.2.2.2, f2, m, st, rfl, f3.fr (fun x y => f5.2 x y) (fun x y h => f5.1 x y (by unfold wR; omega)) (fun _ _ _ => rfl)⟩
end ORDERS
