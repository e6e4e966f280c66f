section LEXL
def wCn (j' : Nat) (a j : Nat) : Prop := a = 111 ∧ j = j'
theorem TC.kp {w : Nat → Nat → Prop} {S S' : St} {b : Nat → Nat} {n : Nat} (h : TC S b n) (k : Kp w S S') (hw : ∀ j, ¬ w 7 j) (h4 : ¬ w 111 4) : TC S' b n := by
  unfold TC at h ⊢
  rw [k.1 _ _ h4]
  exact ⟨h.1, fun i hi => by rw [k.1 _ _ (hw i)]; exact h.2 i hi⟩
theorem TR.kp {w : Nat → Nat → Prop} {T T' : St} {b : Nat → Nat} {n : Nat} (h : TR T b n) (k : Kp w T T') (hw : ∀ j, ¬ w 237 j) (h4 : ¬ w 200 41) : TR T' b n := by
  unfold TR at h ⊢
  rw [k.1 _ _ h4]
  exact ⟨h.1, fun i hi => by rw [k.1 _ _ (hw i)]; exact h.2 i hi⟩
section
variable {N n : Nat} {b : Nat → Nat} {K K2 : St → Option St}
theorem skip_l (hb : ∀ i, b i < 256) (hn : n ≤ 500) : ∀ (q a fuel : Nat) (S T : St), a + q = n → q + 1 ≤ fuel → TC S b n → TR T b n → gv S 111 5 = nI a → gv T 200 40 = nI a → ∃ a' S' T', a ≤ a' ∧ a' ≤ n ∧ (a' < n → b a' ≠ 32 ∧ b a' ≠ 10) ∧ f_X3_advance_l0 N K fuel S = K S' ∧ f_X11_next_l0 N K2 fuel T = K2 T' ∧ gv S' 111 5 = nI a' ∧ gv T' 200 40 = nI a' ∧ Kp (fun a j => a = 111 ∧ j = 5) S S' ∧ Kp (fun a j => a = 200 ∧ j = 40) T T' := by
  intro q
  induction q with
  | zero =>
    intro a fuel S T ha hf hS hT h5 h40
    obtain ⟨fuel, rfl⟩ : ∃ q, fuel = q + 1 := ⟨fuel - 1, by omega⟩
    refine ⟨a, S, T, Nat.le_refl _, by omega, fun h => by omega, ?_, ?_, h5, h40, Kp.rf, Kp.rf⟩
    · rw [f_X3_advance_l0, hS.1, h5, if_pos (le_n (by omega) (by omega))]
    · have hh := here_n (k := 0) hn hT h40 (by omega)
      rw [if_neg (by omega)] at hh
      rw [f_X11_next_l0, show (0 : Int32) = nI 0 from rfl, hh, cl0s, if_neg (by decide), cl0s, if_neg (by decide)]
  | succ q ih =>
    intro a fuel S T ha hf hS hT h5 h40
    obtain ⟨fuel, rfl⟩ : ∃ q, fuel = q + 1 := ⟨fuel - 1, by omega⟩
    have hba := hb a
    have hh := here_n (k := 0) hn hT h40 (by omega)
    rw [if_pos (by omega), Nat.add_zero] at hh
    have hy := byte_n hb hn hS (show a < 2147483648 by omega)
    rw [show cc b n a = b a by unfold cc; rw [if_pos (by omega)]] at hy
    have e1 : f_X3_advance_l0 N K (fuel + 1) S = if b a = 32 ∨ b a = 10 then f_X3_advance_l0 N K fuel (sv S 111 5 (nI (a + 1))) else K S := by
      rw [f_X3_advance_l0, hS.1, h5, if_neg (nle_n (by omega) (by omega)), hy, cl0s]
      unfold f_X3_isBlank
      rw [show (32 : Int32) = nI 32 from rfl, show (10 : Int32) = nI 10 from rfl, ite_eq (by omega) (by omega), ite_eq (by omega) (by omega)]
      by_cases c1 : b a = 32
      · rw [if_pos c1, cl0s, if_neg (by decide), bnE, nl_add1, if_pos (Or.inl c1)]
      · rw [if_neg c1]
        by_cases c2 : b a = 10
        · rw [if_pos c2, cl0s, if_neg (by decide), bnE, nl_add1, if_pos (Or.inr c2)]
        · rw [if_neg c2, cl0s, if_pos rfl, if_neg (by omega)]
    have e2 : f_X11_next_l0 N K2 (fuel + 1) T = if b a = 32 ∨ b a = 10 then f_X11_next_l0 N K2 fuel (sv T 200 40 (nI (a + 1))) else K2 T := by
      rw [f_X11_next_l0, show (0 : Int32) = nI 0 from rfl, hh, cl0s, cl0s, show (32 : Int32) = nI 32 from rfl, show (10 : Int32) = nI 10 from rfl, ite_eq (by omega) (by omega), ite_eq (by omega) (by omega), h40, nl_add1, bnE]
      by_cases c1 : b a = 32
      · rw [if_pos c1, if_pos (Or.inl c1)]
      · rw [if_neg c1]
        by_cases c2 : b a = 10
        · rw [if_pos c2, if_pos (Or.inr c2)]
        · rw [if_neg c2, if_neg (by omega)]
    rw [e1, e2]
    by_cases c : b a = 32 ∨ b a = 10
    · simp only [if_pos c]
      have k1 : Kp (fun a j => a = 111 ∧ j = 5) S (sv S 111 5 (nI (a + 1))) := Kp.rf.sv ⟨rfl, rfl⟩
      have k2 : Kp (fun a j => a = 200 ∧ j = 40) T (sv T 200 40 (nI (a + 1))) := Kp.rf.sv ⟨rfl, rfl⟩
      obtain ⟨a', S', T', x1, x2, x3, x4, x5, x6, x7, x8, x9⟩ := ih (a + 1) fuel _ _ (by omega) (by omega) (hS.kp k1 (fun j => by omega) (by omega)) (hT.kp k2 (fun j => by omega) (by omega)) gv_at gv_at
      exact ⟨a', S', T', by omega, x2, x3, x4, x5, x6, x7, k1.tr x8, k2.tr x9⟩
    · simp only [if_neg c]
      exact ⟨a, S, T, Nat.le_refl _, by omega, fun _ => by omega, rfl, rfl, h5, h40, Kp.rf, Kp.rf⟩
/-- how far the letters, the digits go -/
def run_ (P : Nat → Prop) (b : Nat → Nat) (n a e : Nat) : Prop := a ≤ e ∧ e ≤ n ∧ (∀ i, a ≤ i → i < e → P (b i)) ∧ ¬ P (cc b n e)
theorem word_c (hb : ∀ i, b i < 256) (hn : n ≤ 500) : ∀ (q a fuel : Nat) (S : St), a + q = n → q + 1 ≤ fuel → TC S b n → gv S 111 5 = nI a → ∃ e S', run_ isL b n a e ∧ f_X3_scanWord_l0 N K fuel S = K S' ∧ gv S' 111 5 = nI e ∧ Kp (fun a j => a = 111 ∧ j = 5) S S' := by
  intro q
  induction q with
  | zero =>
    intro a fuel S ha hf hS h5
    obtain ⟨fuel, rfl⟩ : ∃ q, fuel = q + 1 := ⟨fuel - 1, by omega⟩
    refine ⟨a, S, ⟨Nat.le_refl _, by omega, fun i h1 h2 => by omega, ?_⟩, ?_, h5, Kp.rf⟩
    · unfold cc isL; rw [if_neg (by omega)]; omega
    · rw [f_X3_scanWord_l0, hS.1, h5, if_pos (le_n (by omega) (by omega))]
  | succ q ih =>
    intro a fuel S ha hf hS h5
    obtain ⟨fuel, rfl⟩ : ∃ q, fuel = q + 1 := ⟨fuel - 1, by omega⟩
    have hba := hb a
    have hy := byte_n hb hn hS (show a < 2147483648 by omega)
    have hcc : cc b n a = b a := by unfold cc; rw [if_pos (by omega)]
    rw [hcc] at hy
    rw [f_X3_scanWord_l0, hS.1, h5, if_neg (nle_n (by omega) (by omega)), hy, cl0s, (let_n (T := S) (by omega)).1, cl0s]
    by_cases c : 97 ≤ b a ∧ b a ≤ 122
    · rw [if_pos c, if_neg (by decide), bnE, nl_add1]
      have k1 : Kp (fun a j => a = 111 ∧ j = 5) S (sv S 111 5 (nI (a + 1))) := Kp.rf.sv ⟨rfl, rfl⟩
      obtain ⟨e, S', ⟨r1, r2, r3, r4⟩, x1, x2, x3⟩ := ih (a + 1) fuel _ (by omega) (by omega) (hS.kp k1 (fun j => by omega) (by omega)) gv_at
      refine ⟨e, S', ⟨by omega, r2, fun i h1 h2 => ?_, r4⟩, x1, x2, k1.tr x3⟩
      by_cases ci : i = a
      · subst ci; exact c
      · exact r3 i (by omega) h2
    · rw [if_neg c, if_pos rfl]
      exact ⟨a, S, ⟨Nat.le_refl _, by omega, fun i h1 h2 => by omega, by rw [hcc]; exact c⟩, rfl, h5, Kp.rf⟩
/-- the first letters -/
def seg (b : Nat → Nat) (a : Nat) : Nat → List Nat
  | 0 => []
  | k + 1 => seg b a k ++ [b (a + k)]
theorem seg_len {b : Nat → Nat} {a : Nat} : ∀ k, (seg b a k).length = k
  | 0 => rfl
  | k + 1 => by simp [seg, seg_len k]
theorem seg_get {b : Nat → Nat} {a : Nat} : ∀ k t, t < k → (seg b a k).getD t 32 = b (a + t)
  | 0, t, h => by omega
  | k + 1, t, h => by
    unfold seg
    rw [List.getD_eq_getElem?_getD]
    by_cases c : t = k
    · subst c
      rw [List.getElem?_append_right (by rw [seg_len]; omega), seg_len, Nat.sub_self]
      rfl
    · rw [List.getElem?_append_left (by rw [seg_len]; omega), ← List.getD_eq_getElem?_getD]
      exact seg_get k t (by omega)
theorem seg_mem {b : Nat → Nat} {a : Nat} : ∀ k x, x ∈ seg b a k → ∃ t, t < k ∧ x = b (a + t)
  | 0, x, h => by simp [seg] at h
  | k + 1, x, h => by
    unfold seg at h
    rcases List.mem_append.mp h with h | h
    · obtain ⟨t, h1, h2⟩ := seg_mem k x h
      exact ⟨t, by omega, h2⟩
    · exact ⟨k, by omega, by simpa using h⟩
theorem word_r {K3 : St → Int32 → Option St} (hb : ∀ i, b i < 256) (hn : n ≤ 500) {a e : Nat} (hr : run_ isL b n a e) : ∀ (q k fuel : Nat) (T : St), a + k + q = e → q + 1 ≤ fuel → TR T b n → gv T 200 40 = nI a → gl T 200 = Int64.ofNat (pk (seg b a (min k 8))) → ∃ T', f_X11_next_l78 N K3 fuel T (nI k) = K3 T' (nI (e - a)) ∧ gl T' 200 = Int64.ofNat (pk (seg b a (min (e - a) 8))) ∧ (∀ x y, gv T' x y = gv T x y) ∧ (∀ x y, gr T' x y = gr T x y) := by
  obtain ⟨r1, r2, r3, r4⟩ := hr
  intro q
  induction q with
  | zero =>
    intro k fuel T hk hf hT h40 hg
    obtain ⟨fuel, rfl⟩ : ∃ q, fuel = q + 1 := ⟨fuel - 1, by omega⟩
    obtain ⟨r, h1, h2, h3, h4⟩ := rlet (k := k) hb hn hT h40 (by omega)
    rw [show a + k = e by omega] at h2
    unfold isL at r4
    rw [if_neg r4] at h2
    rw [f_X11_next_l78, h1, cl0s, h2, cl0s, if_pos rfl, show k = e - a by omega]
    rw [show k = e - a by omega] at hg
    exact ⟨T, rfl, hg, fun _ _ => rfl, fun _ _ => rfl⟩
  | succ q ih =>
    intro k fuel T hk hf hT h40 hg
    obtain ⟨fuel, rfl⟩ : ∃ q, fuel = q + 1 := ⟨fuel - 1, by omega⟩
    obtain ⟨r, h1, h2, h3, h4⟩ := rlet (k := k) hb hn hT h40 (by omega)
    obtain ⟨h5, h6⟩ := h4 (by omega)
    have hl : isL (b (a + k)) := r3 _ (by omega) (by omega)
    have hbk := hb (a + k)
    rw [h6] at h2
    unfold isL at hl
    rw [if_pos hl] at h2
    rw [f_X11_next_l78, h1, cl0s, h2, cl0s, if_neg (by decide)]
    by_cases c8 : k < 8
    · have hsl : ∀ x ∈ seg b a k, isL x := fun x hx => by
        obtain ⟨t, h7, h8⟩ := seg_mem k x hx
        rw [h8]; exact r3 _ (by omega) (by omega)
      have hpb : pk (seg b a k) < 36028797018963968 := by
        by_cases ck : k = 0
        · subst ck; simp [seg, pk]
        · have h7 := (pk_b _ hsl).1
          rw [seg_len] at h7
          have h8 : 256 ^ (k - 1) ≤ 256 ^ 6 := Nat.pow_le_pow_right (by omega) (by omega)
          have h9 : (256 : Nat) ^ 6 = 281474976710656 := by decide
          omega
      rw [show min k 8 = k by omega] at hg
      rw [if_neg (show ¬ (8 : Int32) ≤ nI k from nle_n (a := 8) c8 (by omega)), cl0s, bnE, bnE, nl_add1, h5, hg, shl8 hpb hbk, ← pk_snoc]
      obtain ⟨T', x1, x2, x3, x4⟩ := ih (k + 1) fuel (sl T 200 (Int64.ofNat (pk (seg b a k ++ [b (a + k)])))) (by omega) (by omega) hT h40 (by
        rw [gl_sl, if_pos rfl, show min (k + 1) 8 = k + 1 by omega]
        rfl)
      exact ⟨T', x1, x2, fun x y => x3 x y, fun x y => x4 x y⟩
    · rw [if_pos (show (8 : Int32) ≤ nI k from le_n (a := 8) (by omega) (by omega)), bnE, nl_add1]
      exact ih (k + 1) fuel T (by omega) (by omega) hT h40 (by rw [show min (k + 1) 8 = min k 8 by omega]; exact hg)
/-! numbers -/
def dv (b : Nat → Nat) (a : Nat) : Nat → Nat
  | 0 => 0
  | k + 1 => dv b a k * 10 + (b (a + k) - 48)
theorem dv_b {b : Nat → Nat} {a e : Nat} (h : ∀ i, a ≤ i → i < e → isD (b i)) : ∀ k, a + k ≤ e → dv b a k < 10 ^ k
  | 0, _ => by simp [dv]
  | k + 1, hk => by
    have h1 := dv_b h k (by omega)
    have h2 := h (a + k) (by omega) (by omega)
    unfold isD at h2
    unfold dv
    rw [Nat.pow_succ]
    omega
theorem num_c (hb : ∀ i, b i < 256) (hn : n ≤ 500) {a : Nat} : ∀ (q k fuel : Nat) (S : St), a + k + q = n → q + 1 ≤ fuel → TC S b n → gv S 111 5 = nI (a + k) → gv S 111 2 = nI (dv b a k) → (∀ i, a ≤ i → i < a + k → isD (b i)) → ∃ e S', run_ isD b n a e ∧ a + k ≤ e ∧ f_X3_scanNumber_l5 N K fuel S = K S' ∧ gv S' 111 5 = nI e ∧ gv S' 111 2 = nI (dv b a (e - a)) ∧ Kp (fun a j => a = 111 ∧ (j = 2 ∨ j = 5)) S S' := by
  intro q
  induction q with
  | zero =>
    intro k fuel S ha hf hS h5 h2 hd
    obtain ⟨fuel, rfl⟩ : ∃ q, fuel = q + 1 := ⟨fuel - 1, by omega⟩
    refine ⟨a + k, S, ⟨by omega, by omega, fun i h1 h2 => hd i h1 h2, ?_⟩, Nat.le_refl _, ?_, h5, ?_, Kp.rf⟩
    · unfold cc isD; rw [if_neg (by omega)]; omega
    · rw [f_X3_scanNumber_l5, hS.1, h5, if_pos (le_n (by omega) (by omega))]
    · rw [Nat.add_sub_cancel_left]; exact h2
  | succ q ih =>
    intro k fuel S ha hf hS h5 h2 hd
    obtain ⟨fuel, rfl⟩ : ∃ q, fuel = q + 1 := ⟨fuel - 1, by omega⟩
    have hba := hb (a + k)
    have hy := byte_n hb hn hS (show a + k < 2147483648 by omega)
    have hcc : cc b n (a + k) = b (a + k) := by unfold cc; rw [if_pos (by omega)]
    rw [hcc] at hy
    rw [f_X3_scanNumber_l5, hS.1, h5, if_neg (nle_n (by omega) (by omega)), hy, cl0s, (dig_n (T := S) (by omega)).1, cl0s]
    by_cases c : 48 ≤ b (a + k) ∧ b (a + k) ≤ 57
    · have e1 : nI (dv b a k) * 10 + (nI (b (a + k)) - 48) = nI (dv b a (k + 1)) := by
        rw [show (10 : Int32) = nI 10 from rfl, show (48 : Int32) = nI 48 from rfl, nI_mul, nI_sub' c.1, nI_add]
        rfl
      rw [if_pos c, if_neg (by decide), cl0s, bnE, bnE, h2, e1, gv_nk (by omega), h5, nl_add1]
      have k1 : Kp (fun a j => a = 111 ∧ (j = 2 ∨ j = 5)) S (sv (sv S 111 2 (nI (dv b a (k + 1)))) 111 5 (nI (a + k + 1))) := (Kp.rf.sv ⟨rfl, Or.inl rfl⟩).sv ⟨rfl, Or.inr rfl⟩
      obtain ⟨e, S', x1, x0, x2, x3, x4, x5⟩ := ih (k + 1) fuel _ (by omega) (by omega) (hS.kp k1 (fun j => by omega) (by omega)) gv_at (by rw [gv_nk (by omega), gv_at]) (fun i h1 h2 => by
        by_cases ci : i = a + k
        · subst ci; exact c
        · exact hd i h1 (by omega))
      exact ⟨e, S', x1, by omega, x2, x3, x4, k1.tr x5⟩
    · rw [if_neg c, if_pos rfl]
      refine ⟨a + k, S, ⟨by omega, by omega, fun i h1 h2 => hd i h1 h2, by rw [hcc]; exact c⟩, Nat.le_refl _, rfl, h5, ?_, Kp.rf⟩
      rw [Nat.add_sub_cancel_left]; exact h2
theorem numl_r {K3 : St → Int32 → Option St} (hb : ∀ i, b i < 256) (hn : n ≤ 500) {a e : Nat} (hr : run_ isD b n a e) : ∀ (q k fuel : Nat) (T : St), a + k + q = e → q + 1 ≤ fuel → TR T b n → gv T 200 40 = nI a → gv T 200 44 = nI (dv b a (min k 6)) → ∃ T', f_X11_next_l144 N K3 fuel T (nI k) = K3 T' (nI (e - a)) ∧ gv T' 200 44 = nI (dv b a (min (e - a) 6)) ∧ Kp (fun a j => a = 200 ∧ j = 44) T T' := by
  obtain ⟨r1, r2, r3, r4⟩ := hr
  intro q
  induction q with
  | zero =>
    intro k fuel T hk hf hT h40 hg
    obtain ⟨fuel, rfl⟩ : ∃ q, fuel = q + 1 := ⟨fuel - 1, by omega⟩
    obtain ⟨r, h1, h2, h3, h4⟩ := rlet (k := k) hb hn hT h40 (by omega)
    rw [show a + k = e by omega] at h3
    unfold isD at r4
    rw [if_neg r4] at h3
    rw [f_X11_next_l144, h1, cl0s, h3, cl0s, if_pos rfl, show k = e - a by omega]
    rw [show k = e - a by omega] at hg
    exact ⟨T, rfl, hg, Kp.rf⟩
  | succ q ih =>
    intro k fuel T hk hf hT h40 hg
    obtain ⟨fuel, rfl⟩ : ∃ q, fuel = q + 1 := ⟨fuel - 1, by omega⟩
    obtain ⟨r, h1, h2, h3, h4⟩ := rlet (k := k) hb hn hT h40 (by omega)
    obtain ⟨h5, h6⟩ := h4 (by omega)
    have hl : isD (b (a + k)) := r3 _ (by omega) (by omega)
    have hbk := hb (a + k)
    rw [h6] at h3
    unfold isD at hl
    rw [if_pos hl] at h3
    rw [f_X11_next_l144, h1, cl0s, h3, cl0s, if_neg (by decide)]
    by_cases c8 : k < 6
    · rw [show min k 6 = k by omega] at hg
      have e1 : (10 : Int32) * nI (dv b a k) + nI (b (a + k)) - 48 = nI (dv b a (k + 1)) := by
        rw [show (10 : Int32) = nI 10 from rfl, show (48 : Int32) = nI 48 from rfl, nI_mul, nI_add, nI_sub' (by omega)]
        congr 1
        have : dv b a (k + 1) = dv b a k * 10 + (b (a + k) - 48) := rfl
        omega
      rw [if_neg (show ¬ (6 : Int32) ≤ nI k from nle_n (a := 6) c8 (by omega)), cl0s, bnE, bnE, nl_add1, h5, hg, e1]
      have k1 : Kp (fun a j => a = 200 ∧ j = 44) T (sv T 200 44 (nI (dv b a (k + 1)))) := Kp.rf.sv ⟨rfl, rfl⟩
      obtain ⟨T', x1, x2, x3⟩ := ih (k + 1) fuel _ (by omega) (by omega) (hT.kp k1 (fun j => by omega) (by omega)) (by rw [gv_nk (by omega)]; exact h40) (by
        rw [gv_at, show min (k + 1) 6 = k + 1 by omega])
      exact ⟨T', x1, x2, k1.tr x3⟩
    · rw [if_pos (show (6 : Int32) ≤ nI k from le_n (a := 6) (by omega) (by omega)), bnE, nl_add1]
      exact ih (k + 1) fuel T (by omega) (by omega) hT h40 (by rw [show min (k + 1) 6 = min k 6 by omega]; exact hg)
/-! words of the class -/
set_option maxRecDepth 20000 in
theorem char_t {S : St} {m : Nat} (hm : m < 136) : f_J0_charAt_5068e S 0 (nI m) = some (nI ((Wo (m / 8)).getD (m % 8) 32)) := by
  unfold f_J0_charAt_5068e f_J1_charAt_3b067 f_J0_checkIndex_df160 f_J3_checkIndex_8e157N
  have h : ∀ m : Fin 136, (cl0 (cl0 (cl0 (if nI m.val < 0 then none else if nI m.val < swL 0 then some (nI m.val) else none) fun r_2 => some ()) fun u_2 => if nI m.val < 0 ∨ sw_len.getD 0 0 ≤ ix (nI m.val) then none else some ((((swB 0 (ix (nI m.val))) &&& 255).toUInt32 % 65536).toInt32)) fun r_4 => some r_4) = some (nI ((Wo (m.val / 8)).getD (m.val % 8) 32)) := by decide
  exact h ⟨m, hm⟩
end
end LEXL
