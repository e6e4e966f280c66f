section LEXB
/-! words -/
def pk (l : List Nat) : Nat := l.foldl (fun a b => a * 256 + b) 0
theorem pk_snoc {l : List Nat} {b : Nat} : pk (l ++ [b]) = pk l * 256 + b := by
  unfold pk
  rw [List.foldl_append]
  rfl
def Wd : List (List Nat) := [[119, 104, 101, 110], [100, 111], [119, 97, 108, 107], [114, 101, 115, 116], [115, 101, 108, 108], [111, 114], [97, 110, 100], [110, 111, 116], [100, 97, 121], [104, 101, 97, 100, 115], [119, 101, 105, 103, 104, 116], [115, 111, 114, 101], [103, 114, 97, 115, 115], [109, 105, 108, 101, 115], [115, 116, 97, 110, 99, 101], [112, 114, 105, 99, 101], [119, 97, 110, 116]]
def Wo (i : Nat) : List Nat := Wd.getD i []
def isL (x : Nat) : Prop := 97 ≤ x ∧ x ≤ 122
def isD (x : Nat) : Prop := 48 ≤ x ∧ x ≤ 57
def lets (l : List Nat) : Prop := l.length ≤ 8 ∧ ∀ x ∈ l, isL x
theorem Wo_lets : ∀ i, i < 17 → lets (Wo i) := by
  intro i hi
  have h : ∀ i : Fin 17, (Wo i.val).length ≤ 8 ∧ ∀ x ∈ Wo i.val, 97 ≤ x ∧ x ≤ 122 := by decide
  exact h ⟨i, hi⟩
theorem Wo_inj : ∀ i j, i < 17 → j < 17 → Wo i = Wo j → i = j := by
  intro i j hi hj
  have h : ∀ i j : Fin 17, Wo i.val = Wo j.val → i.val = j.val := by decide
  exact h ⟨i, hi⟩ ⟨j, hj⟩
theorem snoc_cases (l : List Nat) : l = [] ∨ ∃ m b, l = m ++ [b] := by
  rcases List.eq_nil_or_concat l with h | ⟨m, b, h⟩
  · exact Or.inl h
  · exact Or.inr ⟨m, b, by rw [h, List.concat_eq_append]⟩
theorem pk_b : ∀ (l : List Nat), (∀ x ∈ l, isL x) → pk l < 128 * 256 ^ (l.length - 1) ∧ (l ≠ [] → 1 ≤ pk l) := by
  intro l
  generalize hn : l.length = n
  induction n generalizing l with
  | zero =>
    intro _
    have := List.length_eq_zero_iff.mp hn
    subst this
    simp [pk]
  | succ n ih =>
    intro hl
    rcases snoc_cases l with h | ⟨m, b, h⟩
    · subst h; simp at hn
    · subst h
      have hb := hl b (by simp)
      have hm := ih m (by simpa using hn) (fun x hx => hl x (by simp [hx]))
      unfold isL at hb
      rw [pk_snoc]
      refine ⟨?_, fun _ => by omega⟩
      rcases Nat.eq_zero_or_pos n with h0 | h0
      · have : m = [] := List.length_eq_zero_iff.mp (by simp at hn; omega)
        subst this
        simp [pk, h0]
        omega
      · obtain ⟨k, rfl⟩ : ∃ k, n = k + 1 := ⟨n - 1, by omega⟩
        have e : 256 ^ (k + 1 + 1 - 1) = 256 ^ k * 256 := by rw [show k + 1 + 1 - 1 = k + 1 by omega, Nat.pow_succ]
        rw [e]
        have h1 := hm.1
        rw [show k + 1 - 1 = k by omega] at h1
        omega
theorem pk_8 {l : List Nat} (h : lets l) : pk l < 9223372036854775808 := by
  have h1 := (pk_b l h.2).1
  have h2 : 256 ^ (l.length - 1) ≤ 256 ^ 7 := Nat.pow_le_pow_right (by omega) (by have := h.1; omega)
  have h3 : (256 : Nat) ^ 7 = 72057594037927936 := by decide
  omega
theorem pk_inj : ∀ (l m : List Nat), (∀ x ∈ l, isL x) → (∀ x ∈ m, isL x) → pk l = pk m → l = m := by
  intro l
  generalize hn : l.length = n
  induction n generalizing l with
  | zero =>
    intro m _ hm he
    have := List.length_eq_zero_iff.mp hn
    subst this
    rcases snoc_cases m with h | ⟨q, b, h⟩
    · exact h.symm
    · have := (pk_b m hm).2 (by rw [h]; simp)
      rw [← he] at this
      simp [pk] at this
  | succ n ih =>
    intro m hl hm he
    rcases snoc_cases l with h | ⟨l', b, h⟩
    · subst h; simp at hn
    · subst h
      rcases snoc_cases m with h | ⟨m', b', h⟩
      · subst h
        have := (pk_b _ hl).2 (by simp)
        rw [he] at this
        simp [pk] at this
      · subst h
        have hb := hl b (by simp)
        have hb' := hm b' (by simp)
        unfold isL at hb hb'
        rw [pk_snoc, pk_snoc] at he
        have e1 : b = b' := by omega
        have e2 : pk l' = pk m' := by omega
        rw [ih l' (by simpa using hn) m' (fun x hx => hl x (by simp [hx])) (fun x hx => hm x (by simp [hx])) e2, e1]
theorem padEq : ∀ (k : Nat) (l m : List Nat), l.length ≤ k → m.length ≤ k → (∀ x ∈ l, isL x) → (∀ x ∈ m, isL x) → (∀ t, t < k → l.getD t 32 = m.getD t 32) → l = m := by
  intro k
  induction k with
  | zero =>
    intro l m h1 h2 _ _ _
    rw [List.length_eq_zero_iff.mp (by omega : l.length = 0), List.length_eq_zero_iff.mp (by omega : m.length = 0)]
  | succ k ih =>
    intro l m h1 h2 hl hm h
    have h0 := h 0 (by omega)
    cases l with
    | nil =>
      cases m with
      | nil => rfl
      | cons b m =>
        have := hm b (by simp)
        unfold isL at this
        simp at h0
        omega
    | cons a l =>
      have ha := hl a (by simp)
      unfold isL at ha
      cases m with
      | nil => simp at h0; omega
      | cons b m =>
        simp only [List.getD_cons_zero] at h0
        subst h0
        simp only [List.length_cons] at h1 h2
        rw [ih l m (by omega) (by omega) (fun x hx => hl x (by simp [hx])) (fun x hx => hm x (by simp [hx])) (fun t ht => by simpa using h (t + 1) (by omega))]
theorem lgz {a b : Nat} (ha : a < 9223372036854775808) (hb : b < 9223372036854775808) : lg_cmp (Int64.ofNat a) (Int64.ofNat b) = 0 ↔ a = b := by
  unfold lg_cmp
  constructor
  · intro h
    by_cases c1 : Int64.ofNat a > Int64.ofNat b
    · rw [if_pos c1] at h; exact absurd h (by decide)
    · rw [if_neg c1] at h
      by_cases c2 : Int64.ofNat a = Int64.ofNat b
      · have := congrArg Int64.toInt c2
        rw [Int64.toInt_ofNat_of_lt (by omega), Int64.toInt_ofNat_of_lt (by omega)] at this
        omega
      · rw [if_neg c2] at h; exact absurd h (by decide)
  · intro h
    subst h
    have : ¬ Int64.ofNat a > Int64.ofNat a := by
      intro h1
      have h2 := (Int64.ofNat_lt_iff_lt (by omega) (by omega)).mp h1
      omega
    rw [if_neg this, if_pos rfl]
theorem shl8 {x b : Nat} (hx : x < 36028797018963968) (hb : b < 256) : ((Int64.ofNat x) <<< ((8 : Int32).toInt64 &&& 63)) ||| (nI b).toInt64 = Int64.ofNat (x * 256 + b) := by
  rw [to64 (by omega), show ((8 : Int32).toInt64 &&& 63) = 8 by decide]
  apply Int64.toBitVec.inj
  apply BitVec.eq_of_toNat_eq
  have e1 : ((Int64.ofNat x) <<< (8 : Int64) ||| Int64.ofNat b).toBitVec = (BitVec.ofNat 64 x <<< 8) ||| BitVec.ofNat 64 b := rfl
  have e2 : (Int64.ofNat (x * 256 + b)).toBitVec = BitVec.ofNat 64 (x * 256 + b) := rfl
  rw [e1, e2]
  simp only [BitVec.toNat_or, BitVec.toNat_shiftLeft, BitVec.toNat_ofNat]
  have m1 : x % 2 ^ 64 = x := Nat.mod_eq_of_lt (by omega)
  have m2 : b % 2 ^ 64 = b := Nat.mod_eq_of_lt (by omega)
  have m3 : x <<< 8 = x * 256 := by rw [Nat.shiftLeft_eq]
  have m4 : (x <<< 8) % 2 ^ 64 = x <<< 8 := Nat.mod_eq_of_lt (by rw [m3]; omega)
  rw [m1, m2, m4, ← Nat.shiftLeft_add_eq_or_of_lt (by omega), m3]
  exact (Nat.mod_eq_of_lt (by omega)).symm
/-! bytes -/
set_option maxRecDepth 20000 in
theorem sb255 : ∀ x : Nat, x < 256 → sbyte x &&& 255 = nI x := by
  intro x hx
  have h : ∀ x : Fin 256, sbyte x.val &&& 255 = nI x.val := by decide
  exact h ⟨x, hx⟩
set_option maxRecDepth 20000 in
theorem ch16 : ∀ x : Nat, x < 256 → ((nI x).toUInt32 % 65536).toInt32 = nI x := by
  intro x hx
  have h : ∀ x : Fin 256, ((nI x.val).toUInt32 % 65536).toInt32 = nI x.val := by decide
  exact h ⟨x, hx⟩
def TC (S : St) (b : Nat → Nat) (n : Nat) : Prop := gv S 111 4 = nI n ∧ ∀ i, i < n → gv S 7 i = sbyte (b i)
def TR (T : St) (b : Nat → Nat) (n : Nat) : Prop := gv T 200 41 = nI n ∧ ∀ i, i < n → gv T 237 i = nI (b i)
def cc (b : Nat → Nat) (n i : Nat) : Nat := if i < n then b i else 0
section
variable {S T : St} {b : Nat → Nat} {n i a k x : Nat}
theorem cc_lt (hb : ∀ i, b i < 256) : cc b n i < 256 := by
  unfold cc; split
  · exact hb i
  · omega
theorem byte_n (hb : ∀ i, b i < 256) (hn : n ≤ 500) (h : TC S b n) (hi : i < 2147483648) : f_X3_byteAt S (nI i) = some (nI (cc b n i)) := by
  unfold f_X3_byteAt cc
  rw [if_neg (nn hi), h.1, ite_le (by omega) hi]
  by_cases c : n ≤ i
  · rw [if_pos c, if_neg (by omega)]; rfl
  · rw [if_neg c, if_neg (in_ok (show i < 500 by omega) (by omega)), if_pos (show i < n by omega), ix_nI hi, h.2 i (by omega), sb255 _ (hb i)]
theorem let_n (hx : x < 2147483648) : f_X3_isLetter S (nI x) = some (if 97 ≤ x ∧ x ≤ 122 then 1 else 0) ∧ f_X11_isLetter T (nI x) = some (if 97 ≤ x ∧ x ≤ 122 then 1 else 0) := by
  unfold f_X3_isLetter f_X11_isLetter
  rw [show (97 : Int32) = nI 97 from rfl, show (122 : Int32) = nI 122 from rfl, ite_lt hx (by omega), ite_lt (by omega) hx]
  by_cases c1 : x < 97
  · rw [if_pos c1, if_neg (by omega)]; exact ⟨rfl, rfl⟩
  · rw [if_neg c1]
    by_cases c2 : 122 < x
    · rw [if_pos c2, if_neg (by omega)]; exact ⟨rfl, rfl⟩
    · rw [if_neg c2, if_pos (by omega)]; exact ⟨rfl, rfl⟩
theorem dig_n (hx : x < 2147483648) : f_X3_isDigit S (nI x) = some (if 48 ≤ x ∧ x ≤ 57 then 1 else 0) ∧ f_X11_isDigit T (nI x) = some (if 48 ≤ x ∧ x ≤ 57 then 1 else 0) := by
  unfold f_X3_isDigit f_X11_isDigit
  rw [show (48 : Int32) = nI 48 from rfl, show (57 : Int32) = nI 57 from rfl, ite_lt hx (by omega), ite_lt (by omega) hx]
  by_cases c1 : x < 48
  · rw [if_pos c1, if_neg (by omega)]; exact ⟨rfl, rfl⟩
  · rw [if_neg c1]
    by_cases c2 : 57 < x
    · rw [if_pos c2, if_neg (by omega)]; exact ⟨rfl, rfl⟩
    · rw [if_neg c2, if_pos (by omega)]; exact ⟨rfl, rfl⟩
theorem here_n (hn : n ≤ 500) (h : TR T b n) (ha : gv T 200 40 = nI a) (hk : a + k < 2147483648) : f_X11_here T (nI k) = some (if a + k < n then nI (b (a + k)) else -1) := by
  unfold f_X11_here
  rw [ha, h.1, nI_add, ite_le (by omega) hk]
  by_cases c : n ≤ a + k
  · rw [if_pos c, if_neg (by omega)]
  · rw [if_neg c, if_neg (in_ok (show a + k < 500 by omega) (by omega)), ix_nI hk, h.2 _ (by omega), if_pos (by omega)]
/-- is there a letter, a digit: in the reference -/
theorem rlet (hb : ∀ i, b i < 256) (hn : n ≤ 500) (h : TR T b n) (ha : gv T 200 40 = nI a) (hk : a + k < 2147483648) : ∃ r, f_X11_here T (nI k) = some r ∧ f_X11_isLetter T r = some (if 97 ≤ cc b n (a + k) ∧ cc b n (a + k) ≤ 122 then 1 else 0) ∧ f_X11_isDigit T r = some (if 48 ≤ cc b n (a + k) ∧ cc b n (a + k) ≤ 57 then 1 else 0) ∧ (a + k < n → r = nI (b (a + k)) ∧ cc b n (a + k) = b (a + k)) := by
  rw [here_n hn h ha hk]
  refine ⟨_, rfl, ?_⟩
  unfold cc
  by_cases c : a + k < n
  · simp only [if_pos c]
    have := hb (a + k)
    exact ⟨(let_n (S := T) (by omega)).2, (dig_n (S := T) (by omega)).2, fun _ => by simp⟩
  · simp only [if_neg c]
    refine ⟨?_, ?_, fun h => absurd h c⟩
    · simp [f_X11_isLetter, show (-1 : Int32) < 97 by decide]
    · simp [f_X11_isDigit, show (-1 : Int32) < 48 by decide]
end
end LEXB
