section BASICM
theorem gv_sv {S : St} {o k a j : Nat} {x : Int32} : gv (sv S o k x) a j = if a = o ∧ j = k then x else gv S a j := by
  unfold gv sv up2 va_up
  dsimp only
  by_cases h : a = o
  · subst h
    by_cases h2 : j = k
    · subst h2; simp
    · simp [h2]
  · simp [h]
theorem gv_sr {S : St} {o k a j : Nat} {x : Option Nat} : gv (sr S o k x) a j = gv S a j := rfl
theorem gr_sv {S : St} {o k a j : Nat} {x : Int32} : gr (sv S o k x) a j = gr S a j := rfl
theorem gv_sl {S : St} {o a j : Nat} {x : Int64} : gv (sl S o x) a j = gv S a j := rfl
theorem gr_sl {S : St} {o a j : Nat} {x : Int64} : gr (sl S o x) a j = gr S a j := rfl
theorem gl_sv {S : St} {o k a : Nat} {x : Int32} : gl (sv S o k x) a = gl S a := rfl
theorem gl_sl {S : St} {o a : Nat} {x : Int64} : gl (sl S o x) a = if a = o then x else gl S a := rfl
theorem gv_zr {S : St} {o a j : Nat} : gv (zr S o) a j = if a = o then 0 else gv S a j := by
  unfold gv zr
  dsimp only
  by_cases h : a = o <;> simp [h]
theorem gr_zr {S : St} {o a j : Nat} : gr (zr S o) a j = if a = o then none else gr S a j := by
  unfold gr zr
  dsimp only
  by_cases h : a = o <;> simp [h]
theorem gv_at {S : St} {o k : Nat} {x : Int32} : gv (sv S o k x) o k = x := by rw [gv_sv]; simp
theorem gv_ne {S : St} {o k a j : Nat} {x : Int32} (h : a ≠ o) : gv (sv S o k x) a j = gv S a j := by rw [gv_sv]; simp [h]
theorem gv_nk {S : St} {o k j : Nat} {x : Int32} (h : j ≠ k) : gv (sv S o k x) o j = gv S o j := by rw [gv_sv]; simp [h]
/-! numbers -/
theorem ix_nI {k : Nat} (h : k < 2147483648) : ix (nI k) = k := nI_clamp (by omega)
theorem nl_lt {a b : Nat} (ha : a < 2147483648) (hb : b < 2147483648) : nI a < nI b ↔ a < b := nI_ltI (by omega) (by omega)
theorem nl_le {a b : Nat} (ha : a < 2147483648) (hb : b < 2147483648) : nI a ≤ nI b ↔ a ≤ b := nI_leI (by omega) (by omega)
theorem nl_eq {a b : Nat} (ha : a < 2147483648) (hb : b < 2147483648) : nI a = nI b ↔ a = b := nI_eq (by omega) (by omega)
theorem lt_n {a b : Nat} (h : a < b) (hb : b < 2147483648) : nI a < nI b := (nl_lt (by omega) hb).mpr h
theorem le_n {a b : Nat} (h : a ≤ b) (hb : b < 2147483648) : nI a ≤ nI b := (nl_le (by omega) hb).mpr h
theorem nlt_n {a b : Nat} (h : b ≤ a) (ha : a < 2147483648) : ¬ nI a < nI b := fun k => by have := (nl_lt ha (by omega)).mp k; omega
theorem nle_n {a b : Nat} (h : b < a) (ha : a < 2147483648) : ¬ nI a ≤ nI b := fun k => by have := (nl_le ha (by omega)).mp k; omega
theorem ne_n {a b : Nat} (h : a ≠ b) (ha : a < 2147483648) (hb : b < 2147483648) : nI a ≠ nI b := fun k => h ((nl_eq ha hb).mp k)
theorem nl_add1 (a : Nat) : nI a + 1 = nI (a + 1) := nI_1 a
theorem nl_sub1 {a : Nat} : nI (a + 1) - 1 = nI a := nI_pred a
theorem ti_n {n : Nat} (h : n < 2147483648) : (nI n).toInt = (n : Int) := nI_toInt (by omega)
theorem nI_sub' {a b : Nat} (h : b ≤ a) : nI a - nI b = nI (a - b) := by
  have e : nI (a - b) + nI b = nI a := by rw [nI_add]; congr 1; omega
  rw [← e, Int32.add_sub_cancel]
theorem nI_mul (a b : Nat) : nI a * nI b = nI (a * b) := by
  unfold nI
  exact (Int32.ofNat_mul a b).symm
theorem nI_div' {a b : Nat} (ha : a < 2147483648) (hb : b < 2147483648) : nI a / nI b = nI (a / b) := by
  have h : a / b < 2147483648 := Nat.lt_of_le_of_lt (Nat.div_le_self a b) ha
  apply Int32.toInt_inj.mp
  rw [Int32.toInt_div_of_ne_left _ _ (by
    intro h2
    have := congrArg Int32.toInt h2
    rw [ti_n ha] at this
    have e : (Int32.minValue).toInt = -2147483648 := by decide
    omega), ti_n ha, ti_n hb, ti_n h]
  exact Int.ofNat_tdiv a b
/-- an index within: no throw -/
theorem in_ok {k n : Nat} (h : k < n) (hn : n < 2147483648) : ¬ (nI k < 0 ∨ n ≤ ix (nI k)) := by
  rw [ix_nI (by omega), show (0 : Int32) = nI 0 from rfl, nl_lt (by omega) (by omega)]
  omega
theorem inF {k n : Nat} (h : k < n) (hn : n < 2147483648) : (nI k < 0 ∨ n ≤ k) = False := by
  have := in_ok h hn
  rw [ix_nI (by omega)] at this
  exact eq_false this
theorem inG {k n : Nat} (h : k < n) : (n ≤ k) = False := eq_false (by omega)
theorem nn {k : Nat} (h : k < 2147483648) : ¬ nI k < 0 := nlt_n (b := 0) (Nat.zero_le _) h
/-- an int is negative, or a number -/
theorem i_cases (x : Int32) : x < 0 ∨ ∃ k : Nat, k < 2147483648 ∧ x = nI k := by
  by_cases h : x < 0
  · exact Or.inl h
  · obtain ⟨j, hj, e⟩ := nI_of h
    exact Or.inr ⟨j, by omega, e⟩
theorem i_in {a : Int32} {m : Nat} (hm : m < 2147483648) (h1 : ¬ a < 0) (h2 : a ≤ nI m) : ∃ k, k ≤ m ∧ a = nI k := by
  rcases i_cases a with h | ⟨k, hk, e⟩
  · exact absurd h h1
  · subst e
    exact ⟨k, (nl_le hk hm).mp h2, rfl⟩
theorem i_lt {a : Int32} {m : Nat} (hm : m < 2147483648) (h1 : ¬ a < 0) (h2 : ¬ nI m ≤ a) : ∃ k, k < m ∧ a = nI k := by
  rcases i_cases a with h | ⟨k, hk, e⟩
  · exact absurd h h1
  · subst e
    refine ⟨k, ?_, rfl⟩
    apply Nat.lt_of_not_le
    intro h3
    exact h2 ((nl_le hm hk).mpr h3)
theorem i_nlt {a b : Int32} : ¬ a < b ↔ b ≤ a := Int32.not_lt
theorem i_nle {a b : Int32} : ¬ a ≤ b ↔ b < a := Int32.not_le
theorem within_eq {S : St} {a b c : Int32} : f_X10_within S a b c = some (if a < b ∨ c < a then 0 else 1) := by
  unfold f_X10_within
  by_cases h1 : a < b
  · simp [h1]
  · by_cases h2 : c < a
    · simp [h1, h2]
    · simp [h1, h2]
/-! what a run may write -/
def Kp (w : Nat → Nat → Prop) (S S' : St) : Prop := (∀ a j, ¬ w a j → gv S' a j = gv S a j) ∧ (∀ a j, gr S' a j = gr S a j)
theorem Kp.rf {w : Nat → Nat → Prop} {S : St} : Kp w S S := ⟨fun _ _ _ => rfl, fun _ _ => rfl⟩
theorem Kp.sv {w : Nat → Nat → Prop} {S S' : St} {o k : Nat} {x : Int32} (h : Kp w S S') (hw : w o k) : Kp w S (sv S' o k x) :=
  ⟨fun a j hn => by rw [gv_sv, if_neg (fun e => hn (by rw [e.1, e.2]; exact hw))]; exact h.1 a j hn, fun a j => h.2 a j⟩
theorem Kp.sl {w : Nat → Nat → Prop} {S S' : St} {o : Nat} {x : Int64} (h : Kp w S S') : Kp w S (sl S' o x) := ⟨h.1, h.2⟩
theorem Kp.tr {w : Nat → Nat → Prop} {S S1 S2 : St} (h : Kp w S S1) (h2 : Kp w S1 S2) : Kp w S S2 :=
  ⟨fun a j hn => (h2.1 a j hn).trans (h.1 a j hn), fun a j => (h2.2 a j).trans (h.2 a j)⟩
theorem Kp.mo {w w2 : Nat → Nat → Prop} {S S1 : St} (h : Kp w S S1) (hw : ∀ a j, w a j → w2 a j) : Kp w2 S S1 :=
  ⟨fun a j hn => h.1 a j (fun e => hn (hw a j e)), h.2⟩
/-! lists of live cells -/
def LL : Nat → List Nat
  | 0 => L00
  | n + 1 => herdL (LL n) (60 + n) (71 + n)
/-! the modules of the invariant -/
def IDay (S T : St) : Prop := ∃ d : Nat, d ≤ 100000 ∧ gv S 0 11 = nI d ∧ gv T 200 0 = nI d
def ILet (S T : St) : Prop := ∃ n : Nat, n ≤ 30 ∧ gv S 2 0 = nI n ∧ gv T 200 7 = nI n ∧ ∀ i, i < n → gv S 21 i = gv T 209 i ∧ gv S 22 i = gv T 210 i ∧ ∃ p : Nat, p ≤ 1000 ∧ gv T 209 i = nI p
def IFlt (S T : St) : Prop := gv S 0 9 = gv T 200 38 ∧ gv S 0 10 = gv T 200 39
def IBil (S T : St) : Prop := ∃ n : Nat, n ≤ 20 ∧ gv S 3 0 = nI n ∧ gv T 200 54 = nI n ∧ ∀ i, i < n → gv S 32 i = gv T 257 i ∧ gv S 33 i = gv T 258 i ∧ gv S 34 i = gv T 259 i ∧ gv S 35 i = gv T 260 i ∧ gv S 36 i = gv T 261 i ∧ (gv T 260 i = -1 ∨ ∃ d : Nat, d ≤ 100000 ∧ gv T 260 i = nI d)
/-- the sum of what lies from i up to m -/
def tf (mi : Nat → Nat) (i : Nat) : Nat → Nat
  | 0 => 0
  | n + 1 => mi i + tf mi (i + 1) n
def IRoad (st : Nat) (S T : St) : Prop := 2 ≤ st ∧ st ≤ 10 ∧ gv S 1 0 = nI st ∧ gv T 200 1 = nI st ∧ (∃ mi : Nat → Nat, (∀ i, mi i ≤ 30) ∧ (∀ i, st ≤ i + 1 → mi i = 0) ∧ (∀ i, i < 10 → gv S 11 i = nI (mi i) ∧ gv T 203 i = nI (mi i)) ∧ (∀ i, i < st → gv S 12 i = nI (tf mi i (st - 1 - i)))) ∧ (∀ i, i < 10 → gv S 13 i = gv T 204 i ∧ gv S 14 i = gv T 205 i ∧ gv S 15 i = gv T 206 i ∧ gv S 16 i = gv T 207 i) ∧ (∃ ga go mo : Nat → Nat, ∀ i, i < 10 → gv T 204 i = nI (ga i) ∧ gv T 205 i = nI (go i) ∧ gv T 206 i = nI (mo i) ∧ ga i ≤ mo i ∧ mo i ≤ 100000 ∧ go i ≤ 1000 ∧ (st ≤ i + 1 → ga i = 0 ∧ go i = 0 ∧ mo i = 0))
def IPas (S T : St) : Prop := ∃ n : Nat, n ≤ 60 ∧ gv S 4 0 = nI n ∧ gv T 200 55 = nI n ∧ (∃ dy : Nat → Nat, ∀ i, i < n → gv S 41 i = gv T 262 i ∧ gv S 42 i = gv T 263 i ∧ gv S 43 i = gv T 264 i ∧ gv S 44 i = gv T 265 i ∧ gv S 45 i = gv T 266 i ∧ gv S 46 i = gv T 267 i ∧ gv T 265 i = nI (dy i) ∧ dy i ≤ 100000 ∧ (gv T 267 i = -1 ∨ ∃ d : Nat, d ≤ 100000 ∧ gv T 267 i = nI d)) ∧ (∃ sg : Nat → Nat, (∀ i, i < n → sg i < n ∧ gv S 47 i = nI (sg i)) ∧ (∀ p, p < n → ∃ i, i < n ∧ sg i = p) ∧ (∀ i j, i < j → j < n → gv T 265 (sg i) < gv T 265 (sg j) ∨ (gv T 265 (sg i) = gv T 265 (sg j) ∧ sg i < sg j)))
def sbyte (b : Nat) : Int32 := if b < 128 then nI b else nI b - 256
def ITap (S T : St) : Prop := ∃ n : Nat, n ≤ 500 ∧ gv S 0 8 = nI n ∧ gv T 200 37 = nI n ∧ ∀ i, i < n → ∃ b : Nat, b < 256 ∧ gv T 237 i = nI b ∧ gv S 7 i = sbyte b
def IHrd (n st : Nat) (S T : St) : Prop := gv S 0 7 = nI n ∧ gv T 200 10 = nI n ∧ (∀ k, k < n → gv S (60 + k) 0 = gv T 214 k ∧ gv S (60 + k) 1 = gv T 215 k ∧ gv S (60 + k) 2 = gv T 212 k ∧ gv S (60 + k) 3 = gv T 213 k ∧ gv S (60 + k) 4 = gv T 216 k ∧ gv S (60 + k) 5 = gv T 217 k ∧ gv S (60 + k) 7 = gv T 218 k ∧ gv S (60 + k) 8 = gv T 219 k ∧ gv S (60 + k) 9 = gv T 220 k ∧ gv S (60 + k) 10 = gv T 221 k ∧ gv S (60 + k) 11 = gv T 222 k ∧ ∃ he we so sc co ne : Nat, gv T 212 k = nI he ∧ he ≤ 500 ∧ gv T 213 k = nI we ∧ we ≤ 700 ∧ gv T 216 k = nI so ∧ so ≤ 30 * sc ∧ gv T 217 k = nI sc ∧ sc + 1 ≤ st ∧ (0 < he → sc + 2 ≤ st) ∧ gv T 218 k = nI co ∧ co ≤ 2000000000 ∧ gv T 214 k = nI ne ∧ ne ≤ 20) ∧ (∀ k, n ≤ k → k < 6 → gv T 216 k = 0 ∧ gv T 217 k = 0 ∧ gv T 218 k = 0 ∧ gv T 219 k = 0 ∧ gv T 220 k = 0 ∧ gv T 221 k = 0 ∧ gv T 222 k = 0)
/-! orders: steps (what, number), a line is (steps, act) -/
def tokc (c v : Nat) : Int32 := if c = 0 then nI v else if c < 40 then (-1) - nI (c - 12) else if c = 40 then -8 else if c = 41 then -6 else if c = 42 then -7 else if c = 43 then -21 else if c = 44 then -19 else if c = 45 then -20 else if c = 46 then -22 else -23
def cok (c v : Nat) : Prop := (c = 0 ∧ v ≤ 999999) ∨ (20 ≤ c ∧ c ≤ 28) ∨ (40 ≤ c ∧ c ≤ 47)
def run1 (c : Nat) (d : Nat) : Option Nat := if c < 40 then some (d + 1) else if c = 40 then (if 1 ≤ d then some d else none) else if 2 ≤ d then some (d - 1) else none
def run : List (Nat × Nat) → Nat → Option Nat
  | [], d => some d
  | x :: l, d => match run1 x.1 d with
    | none => none
    | some e => run l e
def vals : List (Nat × Nat) → Nat
  | [] => 0
  | x :: l => (if x.1 < 40 then 1 else 0) + vals l
def FL : List (List (Nat × Nat) × Nat) → List (Nat × Nat)
  | [] => []
  | x :: l => x.1 ++ FL l
def arel (a : Nat) (x d s : Int32) : Prop := (a = 0 ∧ x = -1 ∧ d = 0) ∨ (a = 1 ∧ x = 0 ∧ d = 1) ∨ (∃ v, v ≤ 999999 ∧ a = v + 2 ∧ x = nI v ∧ d = 2 ∧ s = nI v)
def ORel (S T : St) (o k : Nat) (Ls : List (List (Nat × Nat) × Nat)) : Prop := Ls.length ≤ 8 ∧ gv S o 3 = nI Ls.length ∧ gv T 228 k = nI Ls.length ∧ (FL Ls).length ≤ 500 ∧ vals (FL Ls) ≤ 80 ∧ (∀ i c v, (FL Ls)[i]? = some (c, v) → gv S (o + 10) i = tokc c v ∧ gv T 223 (500 * k + i) = nI c ∧ (c = 0 → gv T 224 (500 * k + i) = nI v) ∧ cok c v) ∧ (∀ j, j < Ls.length → gv S (o + 20) j = nI (FL (Ls.take (j + 1))).length) ∧ (0 < Ls.length → ∀ j, j ≤ Ls.length → gv T 225 (10 * k + j) = nI (FL (Ls.take j)).length) ∧ (∀ j l a, Ls[j]? = some (l, a) → run l 0 = some 1 ∧ arel a (gv S (o + 30) j) (gv T 226 (8 * k + j)) (gv T 227 (8 * k + j)))
def IOrd (n : Nat) (S T : St) : Prop := (∀ k o, k < n → gr S (60 + k) 6 = some o → ∃ Ls, ORel S T o k Ls) ∧ ∀ k, n ≤ k → k < 6 → gv T 228 k = 0
def IRef (n : Nat) (S : St) : Prop := (∀ k, k < n → gr S 6 k = some (60 + k)) ∧ (∃ f : Nat → Nat, gr S 0 6 = some (70 + f n) ∧ (∀ k, k < n → gr S (60 + k) 6 = some (70 + f k)) ∧ (∀ k, k ≤ n → f k ≤ n) ∧ (∀ i j, i ≤ n → j ≤ n → f i = f j → i = j)) ∧ Cl (LL n) S ∧ Fx (LL n) S
def InvN (n st : Nat) (S T : St) : Prop := n ≤ 6 ∧ IRef n S ∧ IDay S T ∧ ILet S T ∧ IFlt S T ∧ IBil S T ∧ IRoad st S T ∧ IPas S T ∧ ITap S T ∧ IHrd n st S T ∧ IOrd n S T
def Inv (L : List Nat) (S : St) : Prop := ∃ n st, L = LL n ∧ InvN n st S S
/-! what each module reads -/
def rDay (a j : Nat) : Prop := (a = 0 ∧ j = 11) ∨ (a = 200 ∧ j = 0)
def rLet (a j : Nat) : Prop := (a = 2 ∧ j = 0) ∨ (a = 200 ∧ j = 7) ∨ a = 21 ∨ a = 22 ∨ a = 209 ∨ a = 210
def rFlt (a j : Nat) : Prop := (a = 0 ∧ (j = 9 ∨ j = 10)) ∨ (a = 200 ∧ (j = 38 ∨ j = 39))
def rBil (a j : Nat) : Prop := (a = 3 ∧ j = 0) ∨ (a = 200 ∧ j = 54) ∨ (32 ≤ a ∧ a ≤ 36) ∨ (257 ≤ a ∧ a ≤ 261)
def rRoad (a j : Nat) : Prop := (a = 1 ∧ j = 0) ∨ (a = 200 ∧ j = 1) ∨ (11 ≤ a ∧ a ≤ 16) ∨ (203 ≤ a ∧ a ≤ 207)
def rPas (a j : Nat) : Prop := (a = 4 ∧ j = 0) ∨ (a = 200 ∧ j = 55) ∨ (41 ≤ a ∧ a ≤ 47) ∨ (262 ≤ a ∧ a ≤ 267)
def rTap (a j : Nat) : Prop := (a = 0 ∧ j = 8) ∨ (a = 200 ∧ j = 37) ∨ a = 7 ∨ a = 237
def rHrd (a j : Nat) : Prop := (a = 0 ∧ j = 7) ∨ (a = 200 ∧ j = 10) ∨ (60 ≤ a ∧ a < 66) ∨ (212 ≤ a ∧ a ≤ 222)
def rOrd (a j : Nat) : Prop := (70 ≤ a ∧ a < 107) ∨ (223 ≤ a ∧ a ≤ 228)
section
variable {w : Nat → Nat → Prop} {S S' T T' : St} {n st : Nat}
theorem IDay.fr (h : IDay S T) (e : ∀ a j, a < 200 → rDay a j → gv S' a j = gv S a j) (e' : ∀ a j, 200 ≤ a → rDay a j → gv T' a j = gv T a j) : IDay S' T' := by
  unfold IDay at h ⊢
  simp only [e 0 11 (by omega) (by simp [rDay]), e' 200 0 (by omega) (by simp [rDay])]
  exact h
theorem IDay.kp (h : IDay S S) (k : Kp w S S') (hw : ∀ a j, rDay a j → ¬ w a j) : IDay S' S' := h.fr (fun a j _ hr => k.1 a j (hw a j hr)) (fun a j _ hr => k.1 a j (hw a j hr))
theorem ILet.fr (h : ILet S T) (e : ∀ a j, a < 200 → rLet a j → gv S' a j = gv S a j) (e' : ∀ a j, 200 ≤ a → rLet a j → gv T' a j = gv T a j) : ILet S' T' := by
  unfold ILet at h ⊢
  simp only [e 2 0 (by omega) (by simp [rLet]), e' 200 7 (by omega) (by simp [rLet]), fun i => e 21 i (by omega) (by simp [rLet]), fun i => e 22 i (by omega) (by simp [rLet]), fun i => e' 209 i (by omega) (by simp [rLet]), fun i => e' 210 i (by omega) (by simp [rLet])]
  exact h
theorem ILet.kp (h : ILet S S) (k : Kp w S S') (hw : ∀ a j, rLet a j → ¬ w a j) : ILet S' S' := h.fr (fun a j _ hr => k.1 a j (hw a j hr)) (fun a j _ hr => k.1 a j (hw a j hr))
theorem IFlt.fr (h : IFlt S T) (e : ∀ a j, a < 200 → rFlt a j → gv S' a j = gv S a j) (e' : ∀ a j, 200 ≤ a → rFlt a j → gv T' a j = gv T a j) : IFlt S' T' := by
  unfold IFlt at h ⊢
  simp only [e 0 9 (by omega) (by simp [rFlt]), e 0 10 (by omega) (by simp [rFlt]), e' 200 38 (by omega) (by simp [rFlt]), e' 200 39 (by omega) (by simp [rFlt])]
  exact h
theorem IFlt.kp (h : IFlt S S) (k : Kp w S S') (hw : ∀ a j, rFlt a j → ¬ w a j) : IFlt S' S' := h.fr (fun a j _ hr => k.1 a j (hw a j hr)) (fun a j _ hr => k.1 a j (hw a j hr))
theorem IBil.fr (h : IBil S T) (e : ∀ a j, a < 200 → rBil a j → gv S' a j = gv S a j) (e' : ∀ a j, 200 ≤ a → rBil a j → gv T' a j = gv T a j) : IBil S' T' := by
  unfold IBil at h ⊢
  simp only [e 3 0 (by omega) (by simp [rBil]), e' 200 54 (by omega) (by simp [rBil]), fun i => e 32 i (by omega) (by simp [rBil]), fun i => e 33 i (by omega) (by simp [rBil]), fun i => e 34 i (by omega) (by simp [rBil]), fun i => e 35 i (by omega) (by simp [rBil]), fun i => e 36 i (by omega) (by simp [rBil]), fun i => e' 257 i (by omega) (by simp [rBil]), fun i => e' 258 i (by omega) (by simp [rBil]), fun i => e' 259 i (by omega) (by simp [rBil]), fun i => e' 260 i (by omega) (by simp [rBil]), fun i => e' 261 i (by omega) (by simp [rBil])]
  exact h
theorem IBil.kp (h : IBil S S) (k : Kp w S S') (hw : ∀ a j, rBil a j → ¬ w a j) : IBil S' S' := h.fr (fun a j _ hr => k.1 a j (hw a j hr)) (fun a j _ hr => k.1 a j (hw a j hr))
theorem IRoad.fr (h : IRoad st S T) (e : ∀ a j, a < 200 → rRoad a j → gv S' a j = gv S a j) (e' : ∀ a j, 200 ≤ a → rRoad a j → gv T' a j = gv T a j) : IRoad st S' T' := by
  unfold IRoad at h ⊢
  simp only [e 1 0 (by omega) (by simp [rRoad]), e' 200 1 (by omega) (by simp [rRoad]), fun i => e 11 i (by omega) (by simp [rRoad]), fun i => e 12 i (by omega) (by simp [rRoad]), fun i => e 13 i (by omega) (by simp [rRoad]), fun i => e 14 i (by omega) (by simp [rRoad]), fun i => e 15 i (by omega) (by simp [rRoad]), fun i => e 16 i (by omega) (by simp [rRoad]), fun i => e' 203 i (by omega) (by simp [rRoad]), fun i => e' 204 i (by omega) (by simp [rRoad]), fun i => e' 205 i (by omega) (by simp [rRoad]), fun i => e' 206 i (by omega) (by simp [rRoad]), fun i => e' 207 i (by omega) (by simp [rRoad])]
  exact h
theorem IRoad.kp (h : IRoad st S S) (k : Kp w S S') (hw : ∀ a j, rRoad a j → ¬ w a j) : IRoad st S' S' := h.fr (fun a j _ hr => k.1 a j (hw a j hr)) (fun a j _ hr => k.1 a j (hw a j hr))
theorem IPas.fr (h : IPas S T) (e : ∀ a j, a < 200 → rPas a j → gv S' a j = gv S a j) (e' : ∀ a j, 200 ≤ a → rPas a j → gv T' a j = gv T a j) : IPas S' T' := by
  unfold IPas at h ⊢
  simp only [e 4 0 (by omega) (by simp [rPas]), e' 200 55 (by omega) (by simp [rPas]), fun i => e 41 i (by omega) (by simp [rPas]), fun i => e 42 i (by omega) (by simp [rPas]), fun i => e 43 i (by omega) (by simp [rPas]), fun i => e 44 i (by omega) (by simp [rPas]), fun i => e 45 i (by omega) (by simp [rPas]), fun i => e 46 i (by omega) (by simp [rPas]), fun i => e 47 i (by omega) (by simp [rPas]), fun i => e' 262 i (by omega) (by simp [rPas]), fun i => e' 263 i (by omega) (by simp [rPas]), fun i => e' 264 i (by omega) (by simp [rPas]), fun i => e' 265 i (by omega) (by simp [rPas]), fun i => e' 266 i (by omega) (by simp [rPas]), fun i => e' 267 i (by omega) (by simp [rPas])]
  exact h
theorem IPas.kp (h : IPas S S) (k : Kp w S S') (hw : ∀ a j, rPas a j → ¬ w a j) : IPas S' S' := h.fr (fun a j _ hr => k.1 a j (hw a j hr)) (fun a j _ hr => k.1 a j (hw a j hr))
theorem ITap.fr (h : ITap S T) (e : ∀ a j, a < 200 → rTap a j → gv S' a j = gv S a j) (e' : ∀ a j, 200 ≤ a → rTap a j → gv T' a j = gv T a j) : ITap S' T' := by
  unfold ITap at h ⊢
  simp only [e 0 8 (by omega) (by simp [rTap]), e' 200 37 (by omega) (by simp [rTap]), fun i => e 7 i (by omega) (by simp [rTap]), fun i => e' 237 i (by omega) (by simp [rTap])]
  exact h
theorem ITap.kp (h : ITap S S) (k : Kp w S S') (hw : ∀ a j, rTap a j → ¬ w a j) : ITap S' S' := h.fr (fun a j _ hr => k.1 a j (hw a j hr)) (fun a j _ hr => k.1 a j (hw a j hr))
theorem IHrd.fr (hn : n ≤ 6) (h : IHrd n st S T) (e : ∀ a j, a < 200 → rHrd a j → gv S' a j = gv S a j) (e' : ∀ a j, 200 ≤ a → rHrd a j → gv T' a j = gv T a j) : IHrd n st S' T' := by
  obtain ⟨h1, h2, h3, h4⟩ := h
  have er : ∀ a j, 212 ≤ a → a ≤ 222 → gv T' a j = gv T a j := fun a j h1 h2 => e' a j (by omega) (by unfold rHrd; omega)
  refine ⟨?_, ?_, fun k hk => ?_, fun k hk hk6 => ?_⟩
  · rw [e 0 7 (by omega) (by simp [rHrd])]; exact h1
  · rw [e' 200 10 (by omega) (by simp [rHrd])]; exact h2
  · have e6 : ∀ j, gv S' (60 + k) j = gv S (60 + k) j := fun j => e _ _ (by omega) (by unfold rHrd; omega)
    simp only [e6, fun i => er 212 i (by omega) (by omega), fun i => er 213 i (by omega) (by omega), fun i => er 214 i (by omega) (by omega), fun i => er 215 i (by omega) (by omega), fun i => er 216 i (by omega) (by omega), fun i => er 217 i (by omega) (by omega), fun i => er 218 i (by omega) (by omega), fun i => er 219 i (by omega) (by omega), fun i => er 220 i (by omega) (by omega), fun i => er 221 i (by omega) (by omega), fun i => er 222 i (by omega) (by omega)]
    exact h3 k hk
  · simp only [fun i => er 216 i (by omega) (by omega), fun i => er 217 i (by omega) (by omega), fun i => er 218 i (by omega) (by omega), fun i => er 219 i (by omega) (by omega), fun i => er 220 i (by omega) (by omega), fun i => er 221 i (by omega) (by omega), fun i => er 222 i (by omega) (by omega)]
    exact h4 k hk hk6
theorem IHrd.kp (hn : n ≤ 6) (h : IHrd n st S S) (k : Kp w S S') (hw : ∀ a j, rHrd a j → ¬ w a j) : IHrd n st S' S' := h.fr hn (fun a j _ hr => k.1 a j (hw a j hr)) (fun a j _ hr => k.1 a j (hw a j hr))
theorem ORel.ag {o k : Nat} {Ls : List (List (Nat × Nat) × Nat)} (h : ORel S T o k Ls) (e1 : ∀ j, gv S' o j = gv S o j) (e2 : ∀ j, gv S' (o + 10) j = gv S (o + 10) j) (e3 : ∀ j, gv S' (o + 20) j = gv S (o + 20) j) (e4 : ∀ j, gv S' (o + 30) j = gv S (o + 30) j) (e : ∀ a j, 223 ≤ a → a ≤ 228 → gv T' a j = gv T a j) : ORel S' T' o k Ls := by
  unfold ORel at h ⊢
  simp only [e1, e2, e3, e4, fun i => e 223 i (by omega) (by omega), fun i => e 224 i (by omega) (by omega), fun i => e 225 i (by omega) (by omega), fun i => e 226 i (by omega) (by omega), fun i => e 227 i (by omega) (by omega), fun i => e 228 i (by omega) (by omega)]
  exact h
theorem IRef.fr (h : IRef n S) (k : ∀ a j, gr S' a j = gr S a j) : IRef n S' := by
  obtain ⟨h1, ⟨f, h2, h3, h4, h5⟩, h6, h7⟩ := h
  refine ⟨fun i hi => ?_, ⟨f, ?_, fun i hi => ?_, h4, h5⟩, ?_, ?_⟩
  · rw [k]; exact h1 i hi
  · rw [k]; exact h2
  · rw [k]; exact h3 i hi
  · intro o ho i y hy; rw [k] at hy; exact h6 o ho i y hy
  · intro o ho i t ht; rw [k]; exact h7 o ho i t ht
theorem IRef.kp (h : IRef n S) (k : Kp w S S') : IRef n S' := h.fr k.2
theorem IRef.o (h : IRef n S) {k o : Nat} (hn : n ≤ 6) (hk : k < n) (e : gr S (60 + k) 6 = some o) : 70 ≤ o ∧ o < 77 := by
  obtain ⟨_, ⟨f, _, h3, h4, _⟩, _, _⟩ := h
  have := h3 k hk
  rw [this] at e
  have e2 := Option.some.inj e
  have := h4 k (by omega)
  omega
theorem IOrd.fr (hn : n ≤ 6) (hr : IRef n S) (h : IOrd n S T) (kr : ∀ a j, gr S' a j = gr S a j) (e : ∀ a j, a < 200 → rOrd a j → gv S' a j = gv S a j) (e' : ∀ a j, 200 ≤ a → rOrd a j → gv T' a j = gv T a j) : IOrd n S' T' := by
  refine ⟨fun i o hi ho => ?_, fun i hi h6 => ?_⟩
  · rw [kr] at ho
    have h7 := hr.o hn hi ho
    obtain ⟨Ls, hl⟩ := h.1 i o hi ho
    exact ⟨Ls, hl.ag (fun j => e _ _ (by omega) (by unfold rOrd; omega)) (fun j => e _ _ (by omega) (by unfold rOrd; omega)) (fun j => e _ _ (by omega) (by unfold rOrd; omega)) (fun j => e _ _ (by omega) (by unfold rOrd; omega)) (fun a j h1 h2 => e' _ _ (by omega) (by unfold rOrd; omega))⟩
  · rw [e' 228 i (by omega) (by simp [rOrd])]; exact h.2 i hi h6
theorem IOrd.kp (hn : n ≤ 6) (hr : IRef n S) (h : IOrd n S S) (k : Kp w S S') (hw : ∀ a j, rOrd a j → ¬ w a j) : IOrd n S' S' := h.fr hn hr k.2 (fun a j _ hr => k.1 a j (hw a j hr)) (fun a j _ hr => k.1 a j (hw a j hr))
end
end BASICM
