section LEXW
section
variable {N n : Nat} {b : Nat → Nat}
theorem lettAt {S : St} {a e k : Nat} (hn : n ≤ 500) (hS : TC S b n) (hr : run_ isL b n a e) (h1 : gv S 111 1 = nI a) (h5 : gv S 111 5 = nI e) (hk : k < 8) (he : e - a ≤ 8) : f_X3_letterAt S (nI k) = some (nI ((seg b a (e - a)).getD k 32)) := by
  obtain ⟨r1, r2, r3, r4⟩ := hr
  unfold f_X3_letterAt
  rw [h1, h5, hS.1, nI_add, bnE, if_neg (nn (by omega)), ite_le (by omega) (by omega), ite_le (by omega) (by omega)]
  by_cases c : e ≤ a + k
  · rw [if_pos c]
    have : (seg b a (e - a)).getD k 32 = 32 := by
      rw [List.getD_eq_getElem?_getD, List.getElem?_eq_none (by rw [seg_len]; omega)]
      rfl
    rw [this]
    rfl
  · rw [if_neg c, if_neg (by omega), if_neg (in_ok (show a + k < 500 by omega) (by omega)), ix_nI (by omega), hS.2 _ (by omega), seg_get _ _ (by omega)]
    have := r3 (a + k) (by omega) (by omega)
    unfold isL at this
    unfold sbyte
    rw [if_pos (by omega)]
theorem w16 {S : St} {a e i : Nat} {K : Int32 → Option Int32} (hn : n ≤ 500) (hS : TC S b n) (hr : run_ isL b n a e) (h1 : gv S 111 1 = nI a) (h5 : gv S 111 5 = nI e) (he : e - a ≤ 8) (hi : i < 17) (hb : ∀ i, b i < 256) : ∀ (q k fuel : Nat), k + q = 8 → q + 1 ≤ fuel → ∃ j, j ≤ 8 ∧ f_X3_wordToken_l16 N (nI (8 * i)) S K fuel (nI k) = K (nI j) ∧ (j = 8 ↔ ∀ t, k ≤ t → t < 8 → (seg b a (e - a)).getD t 32 = (Wo i).getD t 32) := by
  intro q
  induction q with
  | zero =>
    intro k fuel hk hf
    obtain ⟨fuel, rfl⟩ : ∃ q, fuel = q + 1 := ⟨fuel - 1, by omega⟩
    rw [f_X3_wordToken_l16, if_pos (show (8 : Int32) ≤ nI k from le_n (a := 8) (by omega) (by omega))]
    exact ⟨k, by omega, rfl, fun _ t h1 h2 => by omega, fun _ => by omega⟩
  | succ q ih =>
    intro k fuel hk hf
    obtain ⟨fuel, rfl⟩ : ∃ q, fuel = q + 1 := ⟨fuel - 1, by omega⟩
    have hlw : ∀ x ∈ Wo i, isL x := (Wo_lets i hi).2
    have bw : (Wo i).getD k 32 < 1000 := by
      rw [List.getD_eq_getElem?_getD]
      cases h : (Wo i)[k]? with
      | none => simp
      | some x =>
        have := hlw x (List.mem_of_getElem? h)
        unfold isL at this
        simp; omega
    have bs : (seg b a (e - a)).getD k 32 < 1000 := by
      rw [List.getD_eq_getElem?_getD]
      cases h : (seg b a (e - a))[k]? with
      | none => simp
      | some x =>
        obtain ⟨t, _, h3⟩ := seg_mem _ x (List.mem_of_getElem? h)
        have := hb (a + t)
        simp; omega
    have hc := char_t (S := S) (m := 8 * i + k) (by omega)
    rw [show (8 * i + k) / 8 = i by omega, show (8 * i + k) % 8 = k by omega] at hc
    rw [f_X3_wordToken_l16, if_neg (show ¬ (8 : Int32) ≤ nI k from nle_n (a := 8) (by omega) (by omega)), lettAt hn hS hr h1 h5 (by omega) he, cl0s, nI_add, hc, cl0s, ite_eq (by omega) (by omega)]
    by_cases c : (seg b a (e - a)).getD k 32 = (Wo i).getD k 32
    · rw [if_pos c, bnE, nl_add1]
      obtain ⟨j, j1, j2, j3⟩ := ih (k + 1) fuel (by omega) (by omega)
      refine ⟨j, j1, j2, j3.trans ⟨fun h t h6 h7 => ?_, fun h t h6 h7 => h t (by omega) h7⟩⟩
      by_cases ct : t = k
      · subst ct; exact c
      · exact h t (by omega) h7
    · rw [if_neg c]
      exact ⟨k, by omega, rfl, fun h => by omega, fun h => absurd (h k (Nat.le_refl _) (by omega)) c⟩
def tokOf (wd : List Nat) (tk : Nat) : Prop := (tk < 17 ∧ wd = Wo tk) ∨ (tk = 26 ∧ ∀ i, i < 17 → wd ≠ Wo i)
theorem w2 {S : St} {a e : Nat} (hN : 1000 ≤ N) (hn : n ≤ 500) (hS : TC S b n) (hr : run_ isL b n a e) (h1 : gv S 111 1 = nI a) (h5 : gv S 111 5 = nI e) (he : e - a ≤ 8) (hb : ∀ i, b i < 256) : ∀ (q i fuel : Nat), i + q = 17 → q + 1 ≤ fuel → (∀ j, j < i → seg b a (e - a) ≠ Wo j) → ∃ tk, f_X3_wordToken_l2 N S (some 26) fuel (nI (8 * i)) = some (nI tk) ∧ tokOf (seg b a (e - a)) tk := by
  have hlen : ∀ S : St, f_J0_length_8abf5 S 0 = some (nI 136) := fun S => by
    unfold f_J0_length_8abf5
    decide
  have hls : ∀ x ∈ seg b a (e - a), isL x := fun x hx => by
    obtain ⟨t, h7, h8⟩ := seg_mem _ x hx
    rw [h8]; exact hr.2.2.1 _ (by omega) (by omega)
  intro q
  induction q with
  | zero =>
    intro i fuel hi hf hno
    obtain ⟨fuel, rfl⟩ : ∃ q, fuel = q + 1 := ⟨fuel - 1, by omega⟩
    have : i = 17 := by omega
    subst this
    rw [f_X3_wordToken_l2, hlen, cl0s, if_pos (by decide)]
    exact ⟨26, rfl, Or.inr ⟨rfl, fun j hj => hno j hj⟩⟩
  | succ q ih =>
    intro i fuel hi hf hno
    obtain ⟨fuel, rfl⟩ : ∃ q, fuel = q + 1 := ⟨fuel - 1, by omega⟩
    have e8 : nI (8 * i) + 8 = nI (8 * (i + 1)) := by rw [show (8 : Int32) = nI 8 from rfl, nI_add]; congr 1
    rw [f_X3_wordToken_l2, hlen, cl0s, e8, if_neg (nlt_n (by omega) (by omega))]
    obtain ⟨j, j1, j2, j3⟩ := w16 (N := N) (i := i) (K := fun x_12 => if x_12 = 8 then (some (nI (8 * i) / 8)) else (bn (nI (8 * (i + 1))) fun x_14 => f_X3_wordToken_l2 N S (some 26) fuel x_14)) hn hS hr h1 h5 he (by omega) hb 8 0 N (by omega) (by omega)
    rw [show (0 : Int32) = nI 0 from rfl, j2]
    by_cases c : j = 8
    · rw [if_pos (show nI j = 8 by rw [c]; rfl), show (8 : Int32) = nI 8 from rfl, nI_div' (by omega) (by omega), show 8 * i / 8 = i by omega]
      refine ⟨i, rfl, Or.inl ⟨by omega, ?_⟩⟩
      have hw := Wo_lets i (by omega)
      exact padEq 8 _ _ (by rw [seg_len]; omega) hw.1 hls hw.2 (fun t ht => j3.mp c t (by omega) ht)
    · rw [if_neg (show ¬ nI j = 8 from ne_n (b := 8) c (by omega) (by omega)), bnE]
      refine ih (i + 1) fuel (by omega) (by omega) (fun k hk => ?_)
      by_cases ck : k = i
      · subst ck
        intro h
        exact c (j3.mpr (fun t _ _ => by rw [h]))
      · exact hno k (by omega)
def sg : List Nat := [59, 60, 62, 61, 43, 45, 40, 41]
set_option maxRecDepth 20000 in
theorem t8 : ∀ x : Nat, x < 256 → (nI x).toInt8.toInt32 = sbyte x := by
  intro x hx
  have h : ∀ x : Fin 256, (nI x.val).toInt8.toInt32 = sbyte x.val := by decide
  exact h ⟨x, hx⟩
theorem sgB : ∀ i : Nat, i < 8 → swB 1 i = nI (sg.getD i 0) := by
  intro i hi
  have h : ∀ i : Fin 8, swB 1 i.val = nI (sg.getD i.val 0) := by decide
  exact h ⟨i, hi⟩
theorem sg_lt : ∀ i : Nat, sg.getD i 0 < 128 := by
  intro i
  by_cases c : i < 8
  · have h : ∀ i : Fin 8, sg.getD i.val 0 < 128 := by decide
    exact h ⟨i, c⟩
  · rw [List.getD_eq_getElem?_getD, List.getElem?_eq_none (show sg.length ≤ i by show 8 ≤ i; omega)]
    decide
theorem sb_eq {x s : Nat} (hs : s < 128) (hx : x < 256) : nI s = sbyte x ↔ s = x := by
  unfold sbyte
  by_cases c : x < 128
  · rw [if_pos c, nl_eq (by omega) (by omega)]
  · rw [if_neg c]
    constructor
    · intro h
      have e : nI x - 256 = Int32.ofInt ((x : Int) - 256) := by rw [Int32.ofInt_sub, ← n_oi]; rfl
      rw [e] at h
      have h2 : Int32.ofInt ((x : Int) - 256) < Int32.ofInt 0 := (oi_lt2 (by omega) (by omega)).mpr (by omega)
      rw [← h] at h2
      exact absurd h2 (nn (by omega))
    · intro h; omega
theorem sgn_l {S : St} {x : Nat} (hx : x < 256) : ∀ (q i fuel : Nat), i + q = 8 → q + 1 ≤ fuel → (∀ j, j < i → sg.getD j 0 ≠ x) → ∃ r, f_J1_indexOfChar_4cfef_l7 N 1 (nI 8) (sbyte x) S (some (-1)) fuel (nI i) = some r ∧ ((r = -1 ∧ ∀ j, j < 8 → sg.getD j 0 ≠ x) ∨ ∃ j, j < 8 ∧ r = nI j ∧ sg.getD j 0 = x) := by
  intro q
  induction q with
  | zero =>
    intro i fuel hi hf hno
    obtain ⟨fuel, rfl⟩ : ∃ q, fuel = q + 1 := ⟨fuel - 1, by omega⟩
    rw [f_J1_indexOfChar_4cfef_l7, if_pos (le_n (by omega) (by omega))]
    exact ⟨-1, rfl, Or.inl ⟨rfl, fun j hj => hno j (by omega)⟩⟩
  | succ q ih =>
    intro i fuel hi hf hno
    obtain ⟨fuel, rfl⟩ : ∃ q, fuel = q + 1 := ⟨fuel - 1, by omega⟩
    have hs := sg_lt i
    rw [f_J1_indexOfChar_4cfef_l7, if_neg (nle_n (by omega) (by omega)), show sw_len.getD 1 0 = 8 from rfl, if_neg (in_ok (show i < 8 by omega) (by omega)), ix_nI (by omega), sgB i (by omega)]
    by_cases c : sg.getD i 0 = x
    · rw [if_pos ((sb_eq hs hx).mpr c)]
      exact ⟨nI i, rfl, Or.inr ⟨i, by omega, rfl, c⟩⟩
    · rw [if_neg (fun h => c ((sb_eq hs hx).mp h)), bnE, nl_add1]
      exact ih (i + 1) fuel (by omega) (by omega) (fun j hj => by
        by_cases cj : j = i
        · subst cj; exact c
        · exact hno j (by omega))
theorem idx_n {S : St} {x : Nat} (hN : 1000 ≤ N) (hx : x < 256) : ∃ r, f_J0_indexOf_0f7a4 N S 1 (nI x) = some r ∧ ((r = -1 ∧ ∀ j, j < 8 → sg.getD j 0 ≠ x) ∨ ∃ j, j < 8 ∧ r = nI j ∧ sg.getD j 0 = x) := by
  obtain ⟨r, h1, h2⟩ := sgn_l (N := N) (S := S) hx 8 0 N (by omega) (by omega) (fun j hj => by omega)
  refine ⟨r, ?_, h2⟩
  unfold f_J0_indexOf_0f7a4 f_J0_indexOf_7cf53 f_J0_length_8abf5 f_J1_indexOf_4cfef f_J1_indexOfChar_4cfef f_J1_canEncode_9a6ad
  rw [show (swL 1 >>> (0 &&& 31) : Int32) = nI 8 by decide, show swL 1 = nI 8 from rfl, if_neg (nn (by omega)), if_neg (show ¬ (255 : Int32) < nI x from nlt_n (a := 255) (by omega) (by omega)), cl0s, cl0s, if_neg (by decide), show (if (0 : Int32) < 0 then (0 : Int32) else 0) = 0 by decide, bnE, show (if nI 8 < nI 8 then nI 8 else nI 8) = nI 8 by decide, bnE, if_pos (by decide), bnE, t8 x hx]
  rw [show (0 : Int32) = nI 0 from rfl, h1]
  rfl
end
end LEXW
