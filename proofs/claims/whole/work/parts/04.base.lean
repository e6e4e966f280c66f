section BASE
/-! the state -/
abbrev Cx : Type := va_G × ClassId × ClassId × ClassId × ClassId × (Nat → Nat) × (Nat → Nat)
def gtys (g : Cx) : List (ClassId × FieldType) := [(g.2.1, .byte), (g.2.2.1, .int), (g.2.2.2.1, .boolean), (g.2.2.2.2.1, .object "DroveRoads$Herd")]
abbrev St : Type := (Nat → Nat → Int32) × (Nat → Nat → Option Nat) × (Nat → Int64)
def gv (S : St) (o k : Nat) : Int32 := S.1 o k
def gr (S : St) (o k : Nat) : Option Nat := S.2.1 o k
def gl (S : St) (o : Nat) : Int64 := S.2.2 o
def up2 {α : Type} (f : Nat → Nat → α) (o k : Nat) (x : α) : Nat → Nat → α := fun a => if a = o then va_up (f o) k x else f a
def sv (S : St) (o k : Nat) (x : Int32) : St := (up2 S.1 o k x, S.2)
def sr (S : St) (o k : Nat) (x : Option Nat) : St := (S.1, up2 S.2.1 o k x, S.2.2)
def sl (S : St) (o : Nat) (x : Int64) : St := (S.1, S.2.1, va_up S.2.2 o x)
theorem up2_at {α : Type} (f : Nat → Nat → α) (o k : Nat) (x : α) : up2 f o k x o = va_up (f o) k x := if_pos rfl
theorem up2_ne {α : Type} (f : Nat → Nat → α) {o a : Nat} (k : Nat) (x : α) (h : a ≠ o) : up2 f o k x a = f a := if_neg h
/-! the cells by their logical numbers -/
def kal (o : Nat) : Nat := if o < 20 then 10 else if o < 30 then 30 else if o < 40 then 20 else if o < 50 then 60 else if o = 50 then 9 else 80
def mal (k : Nat) : Nat := if k ≤ 6 then 10 else if k ≤ 9 then 30 else if k ≤ 21 then 6 else if k ≤ 23 then 3000 else if k ≤ 24 then 60 else if k ≤ 26 then 48 else if k ≤ 27 then 6 else if k ≤ 29 then 500 else if k ≤ 30 then 10 else if k ≤ 32 then 8 else if k ≤ 36 then 500 else if k ≤ 46 then 400 else if k ≤ 49 then 300 else if k ≤ 50 then 9 else if k ≤ 53 then 244000 else if k ≤ 60 then 20 else 60
def kc (g : Cx) (ad : Nat → Nat) (o : Nat) (V : Nat → Int32) (R : Nat → Option Nat) (J : Int64) : va_E :=
  if o < 60 then
    if o < 8 then
      if o = 0 then .inr (10, [.ref (ad 1), .ref (ad 2), .ref (ad 3), .ref (ad 6), .ref (ad 7), .ref (ad 5), va_re ad (R 6), .int (V 7), .int (V 8), .int (V 9), .int (V 10), .int (V 11)])
      else if o = 1 then .inr (9, [.int (V 0), .ref (ad 11), .ref (ad 12), .ref (ad 13), .ref (ad 14), .ref (ad 15), .ref (ad 16)])
      else if o = 2 then .inr (2, [.int (V 0), .ref (ad 21), .ref (ad 22)])
      else if o = 3 then .inr (0, [.int (V 0), .ref (ad 4), .ref (ad 32), .ref (ad 33), .ref (ad 34), .ref (ad 35), .ref (ad 36)])
      else if o = 4 then .inr (7, [.int (V 0), .ref (ad 41), .ref (ad 42), .ref (ad 43), .ref (ad 44), .ref (ad 45), .ref (ad 46), .ref (ad 47)])
      else if o = 5 then .inr (8, [.ref (ad 50), .ref (ad 51), .int (V 2)])
      else if o = 6 then .inl (g.2.2.2.2.1, 6, .inr (.inr (.inr (.inr (fun i => (R i).map ad)))))
      else .inl (g.2.1, 500, .inl V)
    else .inl (g.2.2.1, kal o, .inl V)
  else if o < 70 then .inr (1, [.int (V 0), .int (V 1), .int (V 2), .int (V 3), .int (V 4), .int (V 5), va_re ad (R 6), .int (V 7), .int (V 8), .int (V 9), .int (V 10), .int (V 11)])
  else if o < 77 then .inr (5, [.ref (ad (o + 10)), .ref (ad (o + 20)), .ref (ad (o + 30)), .int (V 3), .int (V 4)])
  else if o < 87 then .inl (g.2.2.1, 500, .inl V)
  else if o < 107 then .inl (g.2.2.1, 8, .inl V)
  else if o < 111 then .inr (6, [.int (V 0), .int (V 1), .ref (ad 111), va_re ad (R 3), .int (V 4)])
  else if o < 112 then .inr (3, [.int (V 0), .int (V 1), .int (V 2), .ref (ad 7), .int (V 4), .int (V 5)])
  else if o < 113 then .inr (4, [.int (V 0), .ref (ad 1), .int (V 2), .int (V 3)])
  else if o < 201 then .inr (11, [.int (V 0), .int (V 1), .ref (ad 203), .ref (ad 204), .ref (ad 205), .ref (ad 206), .ref (ad 207), .int (V 7), .ref (ad 209), .ref (ad 210), .int (V 10), .ref (ad 212), .ref (ad 213), .ref (ad 214), .ref (ad 215), .ref (ad 216), .ref (ad 217), .ref (ad 218), .ref (ad 219), .ref (ad 220), .ref (ad 221), .ref (ad 222), .ref (ad 223), .ref (ad 224), .ref (ad 225), .ref (ad 226), .ref (ad 227), .ref (ad 228), .ref (ad 229), .ref (ad 230), .ref (ad 231), .ref (ad 232), .ref (ad 233), .int (V 33), .int (V 34), .int (V 35), .ref (ad 237), .int (V 37), .int (V 38), .int (V 39), .int (V 40), .int (V 41), .int (V 42), .int (V 43), .int (V 44), .long J, .ref (ad 247), .int (V 47), .int (V 48), .ref (ad 250), .ref (ad 251), .ref (ad 252), .ref (ad 253), .ref (ad 254), .int (V 54), .int (V 55), .ref (ad 257), .ref (ad 258), .ref (ad 259), .ref (ad 260), .ref (ad 261), .ref (ad 262), .ref (ad 263), .ref (ad 264), .ref (ad 265), .ref (ad 266), .ref (ad 267)])
  else if o = 254 then .inl (g.2.2.2.1, 244000, .inl V)
  else .inl (g.2.2.1, mal (o - 201), .inl V)
def cellOf (g : Cx) (ad : Nat → Nat) (S : St) (o : Nat) : va_E := kc g ad o (S.1 o) (S.2.1 o) (S.2.2 o)
/-- which cells there always are -/
def bsl : List Nat := [0, 1, 2, 3, 4, 5, 6, 7, 11, 12, 13, 14, 15, 16, 21, 22, 32, 33, 34, 35, 36, 41, 42, 43, 44, 45, 46, 47, 50, 51, 200, 203, 204, 205, 206, 207, 209, 210, 212, 213, 214, 215, 216, 217, 218, 219, 220, 221, 222, 223, 224, 225, 226, 227, 228, 229, 230, 231, 232, 233, 237, 247, 250, 251, 252, 253, 254, 257, 258, 259, 260, 261, 262, 263, 264, 265, 266, 267]
def Lk (L : List Nat) : Prop := ∀ x ∈ bsl, x ∈ L
abbrev okh (L : List Nat) (x : Nat) : Prop := 60 ≤ x ∧ x < 66 ∧ x ∈ L
abbrev oko (L : List Nat) (x : Nat) : Prop := 70 ≤ x ∧ x < 77 ∧ x ∈ L ∧ x + 10 ∈ L ∧ x + 20 ∈ L ∧ x + 30 ∈ L
theorem kd_herd {g : Cx} {ad : Nat → Nat} {S : St} {L : List Nat} {o : Nat} (h : okh L o) : cellOf g ad S o = .inr (1, [.int (gv S o 0), .int (gv S o 1), .int (gv S o 2), .int (gv S o 3), .int (gv S o 4), .int (gv S o 5), va_re ad (gr S o 6), .int (gv S o 7), .int (gv S o 8), .int (gv S o 9), .int (gv S o 10), .int (gv S o 11)]) := by
  obtain ⟨h1, h2, -⟩ := h
  unfold cellOf kc
  rw [if_neg (by omega), if_pos (by omega)]
  rfl
theorem kd_ord {g : Cx} {ad : Nat → Nat} {S : St} {L : List Nat} {o : Nat} (h : oko L o) : cellOf g ad S o = .inr (5, [.ref (ad (o + 10)), .ref (ad (o + 20)), .ref (ad (o + 30)), .int (gv S o 3), .int (gv S o 4)]) := by
  obtain ⟨h1, h2, -⟩ := h
  unfold cellOf kc
  rw [if_neg (by omega), if_neg (by omega), if_pos h2]
  rfl
theorem kd_ordA {g : Cx} {ad : Nat → Nat} {S : St} {L : List Nat} {o : Nat} (h : oko L o) : cellOf g ad S (o + 10) = .inl (g.2.2.1, 500, .inl (S.1 (o + 10))) := by
  obtain ⟨h1, h2, -⟩ := h
  unfold cellOf kc
  rw [if_neg (by omega), if_neg (by omega), if_neg (by omega), if_pos (by omega)]
theorem kd_ordB {g : Cx} {ad : Nat → Nat} {S : St} {L : List Nat} {o : Nat} (h : oko L o) : cellOf g ad S (o + 20) = .inl (g.2.2.1, 8, .inl (S.1 (o + 20))) := by
  obtain ⟨h1, h2, -⟩ := h
  unfold cellOf kc
  rw [if_neg (by omega), if_neg (by omega), if_neg (by omega), if_neg (by omega), if_pos (by omega)]
theorem kd_ordC {g : Cx} {ad : Nat → Nat} {S : St} {L : List Nat} {o : Nat} (h : oko L o) : cellOf g ad S (o + 30) = .inl (g.2.2.1, 8, .inl (S.1 (o + 30))) := by
  obtain ⟨h1, h2, -⟩ := h
  unfold cellOf kc
  rw [if_neg (by omega), if_neg (by omega), if_neg (by omega), if_neg (by omega), if_pos (by omega)]
theorem kd_0 {g : Cx} {ad : Nat → Nat} {S : St} : cellOf g ad S 0 = .inr (10, [.ref (ad 1), .ref (ad 2), .ref (ad 3), .ref (ad 6), .ref (ad 7), .ref (ad 5), va_re ad (gr S 0 6), .int (gv S 0 7), .int (gv S 0 8), .int (gv S 0 9), .int (gv S 0 10), .int (gv S 0 11)]) := rfl
theorem kd_1 {g : Cx} {ad : Nat → Nat} {S : St} : cellOf g ad S 1 = .inr (9, [.int (gv S 1 0), .ref (ad 11), .ref (ad 12), .ref (ad 13), .ref (ad 14), .ref (ad 15), .ref (ad 16)]) := rfl
theorem kd_2 {g : Cx} {ad : Nat → Nat} {S : St} : cellOf g ad S 2 = .inr (2, [.int (gv S 2 0), .ref (ad 21), .ref (ad 22)]) := rfl
theorem kd_3 {g : Cx} {ad : Nat → Nat} {S : St} : cellOf g ad S 3 = .inr (0, [.int (gv S 3 0), .ref (ad 4), .ref (ad 32), .ref (ad 33), .ref (ad 34), .ref (ad 35), .ref (ad 36)]) := rfl
theorem kd_4 {g : Cx} {ad : Nat → Nat} {S : St} : cellOf g ad S 4 = .inr (7, [.int (gv S 4 0), .ref (ad 41), .ref (ad 42), .ref (ad 43), .ref (ad 44), .ref (ad 45), .ref (ad 46), .ref (ad 47)]) := rfl
theorem kd_5 {g : Cx} {ad : Nat → Nat} {S : St} : cellOf g ad S 5 = .inr (8, [.ref (ad 50), .ref (ad 51), .int (gv S 5 2)]) := rfl
theorem kd_110 {g : Cx} {ad : Nat → Nat} {S : St} : cellOf g ad S 110 = .inr (6, [.int (gv S 110 0), .int (gv S 110 1), .ref (ad 111), va_re ad (gr S 110 3), .int (gv S 110 4)]) := rfl
theorem kd_111 {g : Cx} {ad : Nat → Nat} {S : St} : cellOf g ad S 111 = .inr (3, [.int (gv S 111 0), .int (gv S 111 1), .int (gv S 111 2), .ref (ad 7), .int (gv S 111 4), .int (gv S 111 5)]) := rfl
theorem kd_112 {g : Cx} {ad : Nat → Nat} {S : St} : cellOf g ad S 112 = .inr (4, [.int (gv S 112 0), .ref (ad 1), .int (gv S 112 2), .int (gv S 112 3)]) := rfl
theorem kd_200 {g : Cx} {ad : Nat → Nat} {S : St} : cellOf g ad S 200 = .inr (11, [.int (gv S 200 0), .int (gv S 200 1), .ref (ad 203), .ref (ad 204), .ref (ad 205), .ref (ad 206), .ref (ad 207), .int (gv S 200 7), .ref (ad 209), .ref (ad 210), .int (gv S 200 10), .ref (ad 212), .ref (ad 213), .ref (ad 214), .ref (ad 215), .ref (ad 216), .ref (ad 217), .ref (ad 218), .ref (ad 219), .ref (ad 220), .ref (ad 221), .ref (ad 222), .ref (ad 223), .ref (ad 224), .ref (ad 225), .ref (ad 226), .ref (ad 227), .ref (ad 228), .ref (ad 229), .ref (ad 230), .ref (ad 231), .ref (ad 232), .ref (ad 233), .int (gv S 200 33), .int (gv S 200 34), .int (gv S 200 35), .ref (ad 237), .int (gv S 200 37), .int (gv S 200 38), .int (gv S 200 39), .int (gv S 200 40), .int (gv S 200 41), .int (gv S 200 42), .int (gv S 200 43), .int (gv S 200 44), .long (gl S 200), .ref (ad 247), .int (gv S 200 47), .int (gv S 200 48), .ref (ad 250), .ref (ad 251), .ref (ad 252), .ref (ad 253), .ref (ad 254), .int (gv S 200 54), .int (gv S 200 55), .ref (ad 257), .ref (ad 258), .ref (ad 259), .ref (ad 260), .ref (ad 261), .ref (ad 262), .ref (ad 263), .ref (ad 264), .ref (ad 265), .ref (ad 266), .ref (ad 267)]) := rfl
theorem kd_11 {g : Cx} {ad : Nat → Nat} {S : St} : cellOf g ad S 11 = .inl (g.2.2.1, 10, .inl (S.1 11)) := rfl
theorem kd_12 {g : Cx} {ad : Nat → Nat} {S : St} : cellOf g ad S 12 = .inl (g.2.2.1, 10, .inl (S.1 12)) := rfl
theorem kd_13 {g : Cx} {ad : Nat → Nat} {S : St} : cellOf g ad S 13 = .inl (g.2.2.1, 10, .inl (S.1 13)) := rfl
theorem kd_14 {g : Cx} {ad : Nat → Nat} {S : St} : cellOf g ad S 14 = .inl (g.2.2.1, 10, .inl (S.1 14)) := rfl
theorem kd_15 {g : Cx} {ad : Nat → Nat} {S : St} : cellOf g ad S 15 = .inl (g.2.2.1, 10, .inl (S.1 15)) := rfl
theorem kd_16 {g : Cx} {ad : Nat → Nat} {S : St} : cellOf g ad S 16 = .inl (g.2.2.1, 10, .inl (S.1 16)) := rfl
theorem kd_21 {g : Cx} {ad : Nat → Nat} {S : St} : cellOf g ad S 21 = .inl (g.2.2.1, 30, .inl (S.1 21)) := rfl
theorem kd_22 {g : Cx} {ad : Nat → Nat} {S : St} : cellOf g ad S 22 = .inl (g.2.2.1, 30, .inl (S.1 22)) := rfl
theorem kd_32 {g : Cx} {ad : Nat → Nat} {S : St} : cellOf g ad S 32 = .inl (g.2.2.1, 20, .inl (S.1 32)) := rfl
theorem kd_33 {g : Cx} {ad : Nat → Nat} {S : St} : cellOf g ad S 33 = .inl (g.2.2.1, 20, .inl (S.1 33)) := rfl
theorem kd_34 {g : Cx} {ad : Nat → Nat} {S : St} : cellOf g ad S 34 = .inl (g.2.2.1, 20, .inl (S.1 34)) := rfl
theorem kd_35 {g : Cx} {ad : Nat → Nat} {S : St} : cellOf g ad S 35 = .inl (g.2.2.1, 20, .inl (S.1 35)) := rfl
theorem kd_36 {g : Cx} {ad : Nat → Nat} {S : St} : cellOf g ad S 36 = .inl (g.2.2.1, 20, .inl (S.1 36)) := rfl
theorem kd_41 {g : Cx} {ad : Nat → Nat} {S : St} : cellOf g ad S 41 = .inl (g.2.2.1, 60, .inl (S.1 41)) := rfl
theorem kd_42 {g : Cx} {ad : Nat → Nat} {S : St} : cellOf g ad S 42 = .inl (g.2.2.1, 60, .inl (S.1 42)) := rfl
theorem kd_43 {g : Cx} {ad : Nat → Nat} {S : St} : cellOf g ad S 43 = .inl (g.2.2.1, 60, .inl (S.1 43)) := rfl
theorem kd_44 {g : Cx} {ad : Nat → Nat} {S : St} : cellOf g ad S 44 = .inl (g.2.2.1, 60, .inl (S.1 44)) := rfl
theorem kd_45 {g : Cx} {ad : Nat → Nat} {S : St} : cellOf g ad S 45 = .inl (g.2.2.1, 60, .inl (S.1 45)) := rfl
theorem kd_46 {g : Cx} {ad : Nat → Nat} {S : St} : cellOf g ad S 46 = .inl (g.2.2.1, 60, .inl (S.1 46)) := rfl
theorem kd_47 {g : Cx} {ad : Nat → Nat} {S : St} : cellOf g ad S 47 = .inl (g.2.2.1, 60, .inl (S.1 47)) := rfl
theorem kd_50 {g : Cx} {ad : Nat → Nat} {S : St} : cellOf g ad S 50 = .inl (g.2.2.1, 9, .inl (S.1 50)) := rfl
theorem kd_51 {g : Cx} {ad : Nat → Nat} {S : St} : cellOf g ad S 51 = .inl (g.2.2.1, 80, .inl (S.1 51)) := rfl
theorem kd_203 {g : Cx} {ad : Nat → Nat} {S : St} : cellOf g ad S 203 = .inl (g.2.2.1, 10, .inl (S.1 203)) := rfl
theorem kd_204 {g : Cx} {ad : Nat → Nat} {S : St} : cellOf g ad S 204 = .inl (g.2.2.1, 10, .inl (S.1 204)) := rfl
theorem kd_205 {g : Cx} {ad : Nat → Nat} {S : St} : cellOf g ad S 205 = .inl (g.2.2.1, 10, .inl (S.1 205)) := rfl
theorem kd_206 {g : Cx} {ad : Nat → Nat} {S : St} : cellOf g ad S 206 = .inl (g.2.2.1, 10, .inl (S.1 206)) := rfl
theorem kd_207 {g : Cx} {ad : Nat → Nat} {S : St} : cellOf g ad S 207 = .inl (g.2.2.1, 10, .inl (S.1 207)) := rfl
theorem kd_209 {g : Cx} {ad : Nat → Nat} {S : St} : cellOf g ad S 209 = .inl (g.2.2.1, 30, .inl (S.1 209)) := rfl
theorem kd_210 {g : Cx} {ad : Nat → Nat} {S : St} : cellOf g ad S 210 = .inl (g.2.2.1, 30, .inl (S.1 210)) := rfl
theorem kd_212 {g : Cx} {ad : Nat → Nat} {S : St} : cellOf g ad S 212 = .inl (g.2.2.1, 6, .inl (S.1 212)) := rfl
theorem kd_213 {g : Cx} {ad : Nat → Nat} {S : St} : cellOf g ad S 213 = .inl (g.2.2.1, 6, .inl (S.1 213)) := rfl
theorem kd_214 {g : Cx} {ad : Nat → Nat} {S : St} : cellOf g ad S 214 = .inl (g.2.2.1, 6, .inl (S.1 214)) := rfl
theorem kd_215 {g : Cx} {ad : Nat → Nat} {S : St} : cellOf g ad S 215 = .inl (g.2.2.1, 6, .inl (S.1 215)) := rfl
theorem kd_216 {g : Cx} {ad : Nat → Nat} {S : St} : cellOf g ad S 216 = .inl (g.2.2.1, 6, .inl (S.1 216)) := rfl
theorem kd_217 {g : Cx} {ad : Nat → Nat} {S : St} : cellOf g ad S 217 = .inl (g.2.2.1, 6, .inl (S.1 217)) := rfl
theorem kd_218 {g : Cx} {ad : Nat → Nat} {S : St} : cellOf g ad S 218 = .inl (g.2.2.1, 6, .inl (S.1 218)) := rfl
theorem kd_219 {g : Cx} {ad : Nat → Nat} {S : St} : cellOf g ad S 219 = .inl (g.2.2.1, 6, .inl (S.1 219)) := rfl
theorem kd_220 {g : Cx} {ad : Nat → Nat} {S : St} : cellOf g ad S 220 = .inl (g.2.2.1, 6, .inl (S.1 220)) := rfl
theorem kd_221 {g : Cx} {ad : Nat → Nat} {S : St} : cellOf g ad S 221 = .inl (g.2.2.1, 6, .inl (S.1 221)) := rfl
theorem kd_222 {g : Cx} {ad : Nat → Nat} {S : St} : cellOf g ad S 222 = .inl (g.2.2.1, 6, .inl (S.1 222)) := rfl
theorem kd_223 {g : Cx} {ad : Nat → Nat} {S : St} : cellOf g ad S 223 = .inl (g.2.2.1, 3000, .inl (S.1 223)) := rfl
theorem kd_224 {g : Cx} {ad : Nat → Nat} {S : St} : cellOf g ad S 224 = .inl (g.2.2.1, 3000, .inl (S.1 224)) := rfl
theorem kd_225 {g : Cx} {ad : Nat → Nat} {S : St} : cellOf g ad S 225 = .inl (g.2.2.1, 60, .inl (S.1 225)) := rfl
theorem kd_226 {g : Cx} {ad : Nat → Nat} {S : St} : cellOf g ad S 226 = .inl (g.2.2.1, 48, .inl (S.1 226)) := rfl
theorem kd_227 {g : Cx} {ad : Nat → Nat} {S : St} : cellOf g ad S 227 = .inl (g.2.2.1, 48, .inl (S.1 227)) := rfl
theorem kd_228 {g : Cx} {ad : Nat → Nat} {S : St} : cellOf g ad S 228 = .inl (g.2.2.1, 6, .inl (S.1 228)) := rfl
theorem kd_229 {g : Cx} {ad : Nat → Nat} {S : St} : cellOf g ad S 229 = .inl (g.2.2.1, 500, .inl (S.1 229)) := rfl
theorem kd_230 {g : Cx} {ad : Nat → Nat} {S : St} : cellOf g ad S 230 = .inl (g.2.2.1, 500, .inl (S.1 230)) := rfl
theorem kd_231 {g : Cx} {ad : Nat → Nat} {S : St} : cellOf g ad S 231 = .inl (g.2.2.1, 10, .inl (S.1 231)) := rfl
theorem kd_232 {g : Cx} {ad : Nat → Nat} {S : St} : cellOf g ad S 232 = .inl (g.2.2.1, 8, .inl (S.1 232)) := rfl
theorem kd_233 {g : Cx} {ad : Nat → Nat} {S : St} : cellOf g ad S 233 = .inl (g.2.2.1, 8, .inl (S.1 233)) := rfl
theorem kd_237 {g : Cx} {ad : Nat → Nat} {S : St} : cellOf g ad S 237 = .inl (g.2.2.1, 500, .inl (S.1 237)) := rfl
theorem kd_247 {g : Cx} {ad : Nat → Nat} {S : St} : cellOf g ad S 247 = .inl (g.2.2.1, 400, .inl (S.1 247)) := rfl
theorem kd_250 {g : Cx} {ad : Nat → Nat} {S : St} : cellOf g ad S 250 = .inl (g.2.2.1, 300, .inl (S.1 250)) := rfl
theorem kd_251 {g : Cx} {ad : Nat → Nat} {S : St} : cellOf g ad S 251 = .inl (g.2.2.1, 9, .inl (S.1 251)) := rfl
theorem kd_252 {g : Cx} {ad : Nat → Nat} {S : St} : cellOf g ad S 252 = .inl (g.2.2.1, 244000, .inl (S.1 252)) := rfl
theorem kd_253 {g : Cx} {ad : Nat → Nat} {S : St} : cellOf g ad S 253 = .inl (g.2.2.1, 244000, .inl (S.1 253)) := rfl
theorem kd_254 {g : Cx} {ad : Nat → Nat} {S : St} : cellOf g ad S 254 = .inl (g.2.2.2.1, 244000, .inl (S.1 254)) := rfl
theorem kd_257 {g : Cx} {ad : Nat → Nat} {S : St} : cellOf g ad S 257 = .inl (g.2.2.1, 20, .inl (S.1 257)) := rfl
theorem kd_258 {g : Cx} {ad : Nat → Nat} {S : St} : cellOf g ad S 258 = .inl (g.2.2.1, 20, .inl (S.1 258)) := rfl
theorem kd_259 {g : Cx} {ad : Nat → Nat} {S : St} : cellOf g ad S 259 = .inl (g.2.2.1, 20, .inl (S.1 259)) := rfl
theorem kd_260 {g : Cx} {ad : Nat → Nat} {S : St} : cellOf g ad S 260 = .inl (g.2.2.1, 20, .inl (S.1 260)) := rfl
theorem kd_261 {g : Cx} {ad : Nat → Nat} {S : St} : cellOf g ad S 261 = .inl (g.2.2.1, 20, .inl (S.1 261)) := rfl
theorem kd_262 {g : Cx} {ad : Nat → Nat} {S : St} : cellOf g ad S 262 = .inl (g.2.2.1, 60, .inl (S.1 262)) := rfl
theorem kd_263 {g : Cx} {ad : Nat → Nat} {S : St} : cellOf g ad S 263 = .inl (g.2.2.1, 60, .inl (S.1 263)) := rfl
theorem kd_264 {g : Cx} {ad : Nat → Nat} {S : St} : cellOf g ad S 264 = .inl (g.2.2.1, 60, .inl (S.1 264)) := rfl
theorem kd_265 {g : Cx} {ad : Nat → Nat} {S : St} : cellOf g ad S 265 = .inl (g.2.2.1, 60, .inl (S.1 265)) := rfl
theorem kd_266 {g : Cx} {ad : Nat → Nat} {S : St} : cellOf g ad S 266 = .inl (g.2.2.1, 60, .inl (S.1 266)) := rfl
theorem kd_267 {g : Cx} {ad : Nat → Nat} {S : St} : cellOf g ad S 267 = .inl (g.2.2.1, 60, .inl (S.1 267)) := rfl
theorem kd_7 {g : Cx} {ad : Nat → Nat} {S : St} : cellOf g ad S 7 = .inl (g.2.1, 500, .inl (S.1 7)) := rfl
theorem ps_0_6 {g : Cx} {ad : Nat → Nat} {S : St} {x : Nat} : cellOf g ad (sr S 0 6 (some x)) 0 = .inr (10, ([.ref (ad 1), .ref (ad 2), .ref (ad 3), .ref (ad 6), .ref (ad 7), .ref (ad 5), va_re ad (gr S 0 6), .int (gv S 0 7), .int (gv S 0 8), .int (gv S 0 9), .int (gv S 0 10), .int (gv S 0 11)] : List Value).set 6 (.ref (ad x))) := by
  show kc g ad 0 _ (up2 S.2.1 0 6 (some x) 0) _ = _
  rw [up2_at]
  rfl
theorem ps_0_7 {g : Cx} {ad : Nat → Nat} {S : St} {x : Int32} : cellOf g ad (sv S 0 7 x) 0 = .inr (10, ([.ref (ad 1), .ref (ad 2), .ref (ad 3), .ref (ad 6), .ref (ad 7), .ref (ad 5), va_re ad (gr S 0 6), .int (gv S 0 7), .int (gv S 0 8), .int (gv S 0 9), .int (gv S 0 10), .int (gv S 0 11)] : List Value).set 7 (.int x)) := by
  show kc g ad 0 (up2 S.1 0 7 x 0) _ _ = _
  rw [up2_at]
  rfl
theorem ps_0_8 {g : Cx} {ad : Nat → Nat} {S : St} {x : Int32} : cellOf g ad (sv S 0 8 x) 0 = .inr (10, ([.ref (ad 1), .ref (ad 2), .ref (ad 3), .ref (ad 6), .ref (ad 7), .ref (ad 5), va_re ad (gr S 0 6), .int (gv S 0 7), .int (gv S 0 8), .int (gv S 0 9), .int (gv S 0 10), .int (gv S 0 11)] : List Value).set 8 (.int x)) := by
  show kc g ad 0 (up2 S.1 0 8 x 0) _ _ = _
  rw [up2_at]
  rfl
theorem ps_0_9 {g : Cx} {ad : Nat → Nat} {S : St} {x : Int32} : cellOf g ad (sv S 0 9 x) 0 = .inr (10, ([.ref (ad 1), .ref (ad 2), .ref (ad 3), .ref (ad 6), .ref (ad 7), .ref (ad 5), va_re ad (gr S 0 6), .int (gv S 0 7), .int (gv S 0 8), .int (gv S 0 9), .int (gv S 0 10), .int (gv S 0 11)] : List Value).set 9 (.int x)) := by
  show kc g ad 0 (up2 S.1 0 9 x 0) _ _ = _
  rw [up2_at]
  rfl
theorem ps_0_10 {g : Cx} {ad : Nat → Nat} {S : St} {x : Int32} : cellOf g ad (sv S 0 10 x) 0 = .inr (10, ([.ref (ad 1), .ref (ad 2), .ref (ad 3), .ref (ad 6), .ref (ad 7), .ref (ad 5), va_re ad (gr S 0 6), .int (gv S 0 7), .int (gv S 0 8), .int (gv S 0 9), .int (gv S 0 10), .int (gv S 0 11)] : List Value).set 10 (.int x)) := by
  show kc g ad 0 (up2 S.1 0 10 x 0) _ _ = _
  rw [up2_at]
  rfl
theorem ps_0_11 {g : Cx} {ad : Nat → Nat} {S : St} {x : Int32} : cellOf g ad (sv S 0 11 x) 0 = .inr (10, ([.ref (ad 1), .ref (ad 2), .ref (ad 3), .ref (ad 6), .ref (ad 7), .ref (ad 5), va_re ad (gr S 0 6), .int (gv S 0 7), .int (gv S 0 8), .int (gv S 0 9), .int (gv S 0 10), .int (gv S 0 11)] : List Value).set 11 (.int x)) := by
  show kc g ad 0 (up2 S.1 0 11 x 0) _ _ = _
  rw [up2_at]
  rfl
theorem ps_1_0 {g : Cx} {ad : Nat → Nat} {S : St} {x : Int32} : cellOf g ad (sv S 1 0 x) 1 = .inr (9, ([.int (gv S 1 0), .ref (ad 11), .ref (ad 12), .ref (ad 13), .ref (ad 14), .ref (ad 15), .ref (ad 16)] : List Value).set 0 (.int x)) := by
  show kc g ad 1 (up2 S.1 1 0 x 1) _ _ = _
  rw [up2_at]
  rfl
theorem ps_2_0 {g : Cx} {ad : Nat → Nat} {S : St} {x : Int32} : cellOf g ad (sv S 2 0 x) 2 = .inr (2, ([.int (gv S 2 0), .ref (ad 21), .ref (ad 22)] : List Value).set 0 (.int x)) := by
  show kc g ad 2 (up2 S.1 2 0 x 2) _ _ = _
  rw [up2_at]
  rfl
theorem ps_3_0 {g : Cx} {ad : Nat → Nat} {S : St} {x : Int32} : cellOf g ad (sv S 3 0 x) 3 = .inr (0, ([.int (gv S 3 0), .ref (ad 4), .ref (ad 32), .ref (ad 33), .ref (ad 34), .ref (ad 35), .ref (ad 36)] : List Value).set 0 (.int x)) := by
  show kc g ad 3 (up2 S.1 3 0 x 3) _ _ = _
  rw [up2_at]
  rfl
theorem ps_4_0 {g : Cx} {ad : Nat → Nat} {S : St} {x : Int32} : cellOf g ad (sv S 4 0 x) 4 = .inr (7, ([.int (gv S 4 0), .ref (ad 41), .ref (ad 42), .ref (ad 43), .ref (ad 44), .ref (ad 45), .ref (ad 46), .ref (ad 47)] : List Value).set 0 (.int x)) := by
  show kc g ad 4 (up2 S.1 4 0 x 4) _ _ = _
  rw [up2_at]
  rfl
theorem ps_5_2 {g : Cx} {ad : Nat → Nat} {S : St} {x : Int32} : cellOf g ad (sv S 5 2 x) 5 = .inr (8, ([.ref (ad 50), .ref (ad 51), .int (gv S 5 2)] : List Value).set 2 (.int x)) := by
  show kc g ad 5 (up2 S.1 5 2 x 5) _ _ = _
  rw [up2_at]
  rfl
theorem ps_110_0 {g : Cx} {ad : Nat → Nat} {S : St} {x : Int32} : cellOf g ad (sv S 110 0 x) 110 = .inr (6, ([.int (gv S 110 0), .int (gv S 110 1), .ref (ad 111), va_re ad (gr S 110 3), .int (gv S 110 4)] : List Value).set 0 (.int x)) := by
  show kc g ad 110 (up2 S.1 110 0 x 110) _ _ = _
  rw [up2_at]
  rfl
theorem ps_110_1 {g : Cx} {ad : Nat → Nat} {S : St} {x : Int32} : cellOf g ad (sv S 110 1 x) 110 = .inr (6, ([.int (gv S 110 0), .int (gv S 110 1), .ref (ad 111), va_re ad (gr S 110 3), .int (gv S 110 4)] : List Value).set 1 (.int x)) := by
  show kc g ad 110 (up2 S.1 110 1 x 110) _ _ = _
  rw [up2_at]
  rfl
theorem ps_110_3 {g : Cx} {ad : Nat → Nat} {S : St} {x : Nat} : cellOf g ad (sr S 110 3 (some x)) 110 = .inr (6, ([.int (gv S 110 0), .int (gv S 110 1), .ref (ad 111), va_re ad (gr S 110 3), .int (gv S 110 4)] : List Value).set 3 (.ref (ad x))) := by
  show kc g ad 110 _ (up2 S.2.1 110 3 (some x) 110) _ = _
  rw [up2_at]
  rfl
theorem ps_110_4 {g : Cx} {ad : Nat → Nat} {S : St} {x : Int32} : cellOf g ad (sv S 110 4 x) 110 = .inr (6, ([.int (gv S 110 0), .int (gv S 110 1), .ref (ad 111), va_re ad (gr S 110 3), .int (gv S 110 4)] : List Value).set 4 (.int x)) := by
  show kc g ad 110 (up2 S.1 110 4 x 110) _ _ = _
  rw [up2_at]
  rfl
theorem ps_111_0 {g : Cx} {ad : Nat → Nat} {S : St} {x : Int32} : cellOf g ad (sv S 111 0 x) 111 = .inr (3, ([.int (gv S 111 0), .int (gv S 111 1), .int (gv S 111 2), .ref (ad 7), .int (gv S 111 4), .int (gv S 111 5)] : List Value).set 0 (.int x)) := by
  show kc g ad 111 (up2 S.1 111 0 x 111) _ _ = _
  rw [up2_at]
  rfl
theorem ps_111_1 {g : Cx} {ad : Nat → Nat} {S : St} {x : Int32} : cellOf g ad (sv S 111 1 x) 111 = .inr (3, ([.int (gv S 111 0), .int (gv S 111 1), .int (gv S 111 2), .ref (ad 7), .int (gv S 111 4), .int (gv S 111 5)] : List Value).set 1 (.int x)) := by
  show kc g ad 111 (up2 S.1 111 1 x 111) _ _ = _
  rw [up2_at]
  rfl
theorem ps_111_2 {g : Cx} {ad : Nat → Nat} {S : St} {x : Int32} : cellOf g ad (sv S 111 2 x) 111 = .inr (3, ([.int (gv S 111 0), .int (gv S 111 1), .int (gv S 111 2), .ref (ad 7), .int (gv S 111 4), .int (gv S 111 5)] : List Value).set 2 (.int x)) := by
  show kc g ad 111 (up2 S.1 111 2 x 111) _ _ = _
  rw [up2_at]
  rfl
theorem ps_111_4 {g : Cx} {ad : Nat → Nat} {S : St} {x : Int32} : cellOf g ad (sv S 111 4 x) 111 = .inr (3, ([.int (gv S 111 0), .int (gv S 111 1), .int (gv S 111 2), .ref (ad 7), .int (gv S 111 4), .int (gv S 111 5)] : List Value).set 4 (.int x)) := by
  show kc g ad 111 (up2 S.1 111 4 x 111) _ _ = _
  rw [up2_at]
  rfl
theorem ps_111_5 {g : Cx} {ad : Nat → Nat} {S : St} {x : Int32} : cellOf g ad (sv S 111 5 x) 111 = .inr (3, ([.int (gv S 111 0), .int (gv S 111 1), .int (gv S 111 2), .ref (ad 7), .int (gv S 111 4), .int (gv S 111 5)] : List Value).set 5 (.int x)) := by
  show kc g ad 111 (up2 S.1 111 5 x 111) _ _ = _
  rw [up2_at]
  rfl
theorem ps_112_0 {g : Cx} {ad : Nat → Nat} {S : St} {x : Int32} : cellOf g ad (sv S 112 0 x) 112 = .inr (4, ([.int (gv S 112 0), .ref (ad 1), .int (gv S 112 2), .int (gv S 112 3)] : List Value).set 0 (.int x)) := by
  show kc g ad 112 (up2 S.1 112 0 x 112) _ _ = _
  rw [up2_at]
  rfl
theorem ps_112_2 {g : Cx} {ad : Nat → Nat} {S : St} {x : Int32} : cellOf g ad (sv S 112 2 x) 112 = .inr (4, ([.int (gv S 112 0), .ref (ad 1), .int (gv S 112 2), .int (gv S 112 3)] : List Value).set 2 (.int x)) := by
  show kc g ad 112 (up2 S.1 112 2 x 112) _ _ = _
  rw [up2_at]
  rfl
theorem ps_112_3 {g : Cx} {ad : Nat → Nat} {S : St} {x : Int32} : cellOf g ad (sv S 112 3 x) 112 = .inr (4, ([.int (gv S 112 0), .ref (ad 1), .int (gv S 112 2), .int (gv S 112 3)] : List Value).set 3 (.int x)) := by
  show kc g ad 112 (up2 S.1 112 3 x 112) _ _ = _
  rw [up2_at]
  rfl
theorem ps_200_0 {g : Cx} {ad : Nat → Nat} {S : St} {x : Int32} : cellOf g ad (sv S 200 0 x) 200 = .inr (11, ([.int (gv S 200 0), .int (gv S 200 1), .ref (ad 203), .ref (ad 204), .ref (ad 205), .ref (ad 206), .ref (ad 207), .int (gv S 200 7), .ref (ad 209), .ref (ad 210), .int (gv S 200 10), .ref (ad 212), .ref (ad 213), .ref (ad 214), .ref (ad 215), .ref (ad 216), .ref (ad 217), .ref (ad 218), .ref (ad 219), .ref (ad 220), .ref (ad 221), .ref (ad 222), .ref (ad 223), .ref (ad 224), .ref (ad 225), .ref (ad 226), .ref (ad 227), .ref (ad 228), .ref (ad 229), .ref (ad 230), .ref (ad 231), .ref (ad 232), .ref (ad 233), .int (gv S 200 33), .int (gv S 200 34), .int (gv S 200 35), .ref (ad 237), .int (gv S 200 37), .int (gv S 200 38), .int (gv S 200 39), .int (gv S 200 40), .int (gv S 200 41), .int (gv S 200 42), .int (gv S 200 43), .int (gv S 200 44), .long (gl S 200), .ref (ad 247), .int (gv S 200 47), .int (gv S 200 48), .ref (ad 250), .ref (ad 251), .ref (ad 252), .ref (ad 253), .ref (ad 254), .int (gv S 200 54), .int (gv S 200 55), .ref (ad 257), .ref (ad 258), .ref (ad 259), .ref (ad 260), .ref (ad 261), .ref (ad 262), .ref (ad 263), .ref (ad 264), .ref (ad 265), .ref (ad 266), .ref (ad 267)] : List Value).set 0 (.int x)) := by
  show kc g ad 200 (up2 S.1 200 0 x 200) _ _ = _
  rw [up2_at]
  rfl
theorem ps_200_1 {g : Cx} {ad : Nat → Nat} {S : St} {x : Int32} : cellOf g ad (sv S 200 1 x) 200 = .inr (11, ([.int (gv S 200 0), .int (gv S 200 1), .ref (ad 203), .ref (ad 204), .ref (ad 205), .ref (ad 206), .ref (ad 207), .int (gv S 200 7), .ref (ad 209), .ref (ad 210), .int (gv S 200 10), .ref (ad 212), .ref (ad 213), .ref (ad 214), .ref (ad 215), .ref (ad 216), .ref (ad 217), .ref (ad 218), .ref (ad 219), .ref (ad 220), .ref (ad 221), .ref (ad 222), .ref (ad 223), .ref (ad 224), .ref (ad 225), .ref (ad 226), .ref (ad 227), .ref (ad 228), .ref (ad 229), .ref (ad 230), .ref (ad 231), .ref (ad 232), .ref (ad 233), .int (gv S 200 33), .int (gv S 200 34), .int (gv S 200 35), .ref (ad 237), .int (gv S 200 37), .int (gv S 200 38), .int (gv S 200 39), .int (gv S 200 40), .int (gv S 200 41), .int (gv S 200 42), .int (gv S 200 43), .int (gv S 200 44), .long (gl S 200), .ref (ad 247), .int (gv S 200 47), .int (gv S 200 48), .ref (ad 250), .ref (ad 251), .ref (ad 252), .ref (ad 253), .ref (ad 254), .int (gv S 200 54), .int (gv S 200 55), .ref (ad 257), .ref (ad 258), .ref (ad 259), .ref (ad 260), .ref (ad 261), .ref (ad 262), .ref (ad 263), .ref (ad 264), .ref (ad 265), .ref (ad 266), .ref (ad 267)] : List Value).set 1 (.int x)) := by
  show kc g ad 200 (up2 S.1 200 1 x 200) _ _ = _
  rw [up2_at]
  rfl
theorem ps_200_7 {g : Cx} {ad : Nat → Nat} {S : St} {x : Int32} : cellOf g ad (sv S 200 7 x) 200 = .inr (11, ([.int (gv S 200 0), .int (gv S 200 1), .ref (ad 203), .ref (ad 204), .ref (ad 205), .ref (ad 206), .ref (ad 207), .int (gv S 200 7), .ref (ad 209), .ref (ad 210), .int (gv S 200 10), .ref (ad 212), .ref (ad 213), .ref (ad 214), .ref (ad 215), .ref (ad 216), .ref (ad 217), .ref (ad 218), .ref (ad 219), .ref (ad 220), .ref (ad 221), .ref (ad 222), .ref (ad 223), .ref (ad 224), .ref (ad 225), .ref (ad 226), .ref (ad 227), .ref (ad 228), .ref (ad 229), .ref (ad 230), .ref (ad 231), .ref (ad 232), .ref (ad 233), .int (gv S 200 33), .int (gv S 200 34), .int (gv S 200 35), .ref (ad 237), .int (gv S 200 37), .int (gv S 200 38), .int (gv S 200 39), .int (gv S 200 40), .int (gv S 200 41), .int (gv S 200 42), .int (gv S 200 43), .int (gv S 200 44), .long (gl S 200), .ref (ad 247), .int (gv S 200 47), .int (gv S 200 48), .ref (ad 250), .ref (ad 251), .ref (ad 252), .ref (ad 253), .ref (ad 254), .int (gv S 200 54), .int (gv S 200 55), .ref (ad 257), .ref (ad 258), .ref (ad 259), .ref (ad 260), .ref (ad 261), .ref (ad 262), .ref (ad 263), .ref (ad 264), .ref (ad 265), .ref (ad 266), .ref (ad 267)] : List Value).set 7 (.int x)) := by
  show kc g ad 200 (up2 S.1 200 7 x 200) _ _ = _
  rw [up2_at]
  rfl
theorem ps_200_10 {g : Cx} {ad : Nat → Nat} {S : St} {x : Int32} : cellOf g ad (sv S 200 10 x) 200 = .inr (11, ([.int (gv S 200 0), .int (gv S 200 1), .ref (ad 203), .ref (ad 204), .ref (ad 205), .ref (ad 206), .ref (ad 207), .int (gv S 200 7), .ref (ad 209), .ref (ad 210), .int (gv S 200 10), .ref (ad 212), .ref (ad 213), .ref (ad 214), .ref (ad 215), .ref (ad 216), .ref (ad 217), .ref (ad 218), .ref (ad 219), .ref (ad 220), .ref (ad 221), .ref (ad 222), .ref (ad 223), .ref (ad 224), .ref (ad 225), .ref (ad 226), .ref (ad 227), .ref (ad 228), .ref (ad 229), .ref (ad 230), .ref (ad 231), .ref (ad 232), .ref (ad 233), .int (gv S 200 33), .int (gv S 200 34), .int (gv S 200 35), .ref (ad 237), .int (gv S 200 37), .int (gv S 200 38), .int (gv S 200 39), .int (gv S 200 40), .int (gv S 200 41), .int (gv S 200 42), .int (gv S 200 43), .int (gv S 200 44), .long (gl S 200), .ref (ad 247), .int (gv S 200 47), .int (gv S 200 48), .ref (ad 250), .ref (ad 251), .ref (ad 252), .ref (ad 253), .ref (ad 254), .int (gv S 200 54), .int (gv S 200 55), .ref (ad 257), .ref (ad 258), .ref (ad 259), .ref (ad 260), .ref (ad 261), .ref (ad 262), .ref (ad 263), .ref (ad 264), .ref (ad 265), .ref (ad 266), .ref (ad 267)] : List Value).set 10 (.int x)) := by
  show kc g ad 200 (up2 S.1 200 10 x 200) _ _ = _
  rw [up2_at]
  rfl
theorem ps_200_33 {g : Cx} {ad : Nat → Nat} {S : St} {x : Int32} : cellOf g ad (sv S 200 33 x) 200 = .inr (11, ([.int (gv S 200 0), .int (gv S 200 1), .ref (ad 203), .ref (ad 204), .ref (ad 205), .ref (ad 206), .ref (ad 207), .int (gv S 200 7), .ref (ad 209), .ref (ad 210), .int (gv S 200 10), .ref (ad 212), .ref (ad 213), .ref (ad 214), .ref (ad 215), .ref (ad 216), .ref (ad 217), .ref (ad 218), .ref (ad 219), .ref (ad 220), .ref (ad 221), .ref (ad 222), .ref (ad 223), .ref (ad 224), .ref (ad 225), .ref (ad 226), .ref (ad 227), .ref (ad 228), .ref (ad 229), .ref (ad 230), .ref (ad 231), .ref (ad 232), .ref (ad 233), .int (gv S 200 33), .int (gv S 200 34), .int (gv S 200 35), .ref (ad 237), .int (gv S 200 37), .int (gv S 200 38), .int (gv S 200 39), .int (gv S 200 40), .int (gv S 200 41), .int (gv S 200 42), .int (gv S 200 43), .int (gv S 200 44), .long (gl S 200), .ref (ad 247), .int (gv S 200 47), .int (gv S 200 48), .ref (ad 250), .ref (ad 251), .ref (ad 252), .ref (ad 253), .ref (ad 254), .int (gv S 200 54), .int (gv S 200 55), .ref (ad 257), .ref (ad 258), .ref (ad 259), .ref (ad 260), .ref (ad 261), .ref (ad 262), .ref (ad 263), .ref (ad 264), .ref (ad 265), .ref (ad 266), .ref (ad 267)] : List Value).set 33 (.int x)) := by
  show kc g ad 200 (up2 S.1 200 33 x 200) _ _ = _
  rw [up2_at]
  rfl
theorem ps_200_34 {g : Cx} {ad : Nat → Nat} {S : St} {x : Int32} : cellOf g ad (sv S 200 34 x) 200 = .inr (11, ([.int (gv S 200 0), .int (gv S 200 1), .ref (ad 203), .ref (ad 204), .ref (ad 205), .ref (ad 206), .ref (ad 207), .int (gv S 200 7), .ref (ad 209), .ref (ad 210), .int (gv S 200 10), .ref (ad 212), .ref (ad 213), .ref (ad 214), .ref (ad 215), .ref (ad 216), .ref (ad 217), .ref (ad 218), .ref (ad 219), .ref (ad 220), .ref (ad 221), .ref (ad 222), .ref (ad 223), .ref (ad 224), .ref (ad 225), .ref (ad 226), .ref (ad 227), .ref (ad 228), .ref (ad 229), .ref (ad 230), .ref (ad 231), .ref (ad 232), .ref (ad 233), .int (gv S 200 33), .int (gv S 200 34), .int (gv S 200 35), .ref (ad 237), .int (gv S 200 37), .int (gv S 200 38), .int (gv S 200 39), .int (gv S 200 40), .int (gv S 200 41), .int (gv S 200 42), .int (gv S 200 43), .int (gv S 200 44), .long (gl S 200), .ref (ad 247), .int (gv S 200 47), .int (gv S 200 48), .ref (ad 250), .ref (ad 251), .ref (ad 252), .ref (ad 253), .ref (ad 254), .int (gv S 200 54), .int (gv S 200 55), .ref (ad 257), .ref (ad 258), .ref (ad 259), .ref (ad 260), .ref (ad 261), .ref (ad 262), .ref (ad 263), .ref (ad 264), .ref (ad 265), .ref (ad 266), .ref (ad 267)] : List Value).set 34 (.int x)) := by
  show kc g ad 200 (up2 S.1 200 34 x 200) _ _ = _
  rw [up2_at]
  rfl
theorem ps_200_35 {g : Cx} {ad : Nat → Nat} {S : St} {x : Int32} : cellOf g ad (sv S 200 35 x) 200 = .inr (11, ([.int (gv S 200 0), .int (gv S 200 1), .ref (ad 203), .ref (ad 204), .ref (ad 205), .ref (ad 206), .ref (ad 207), .int (gv S 200 7), .ref (ad 209), .ref (ad 210), .int (gv S 200 10), .ref (ad 212), .ref (ad 213), .ref (ad 214), .ref (ad 215), .ref (ad 216), .ref (ad 217), .ref (ad 218), .ref (ad 219), .ref (ad 220), .ref (ad 221), .ref (ad 222), .ref (ad 223), .ref (ad 224), .ref (ad 225), .ref (ad 226), .ref (ad 227), .ref (ad 228), .ref (ad 229), .ref (ad 230), .ref (ad 231), .ref (ad 232), .ref (ad 233), .int (gv S 200 33), .int (gv S 200 34), .int (gv S 200 35), .ref (ad 237), .int (gv S 200 37), .int (gv S 200 38), .int (gv S 200 39), .int (gv S 200 40), .int (gv S 200 41), .int (gv S 200 42), .int (gv S 200 43), .int (gv S 200 44), .long (gl S 200), .ref (ad 247), .int (gv S 200 47), .int (gv S 200 48), .ref (ad 250), .ref (ad 251), .ref (ad 252), .ref (ad 253), .ref (ad 254), .int (gv S 200 54), .int (gv S 200 55), .ref (ad 257), .ref (ad 258), .ref (ad 259), .ref (ad 260), .ref (ad 261), .ref (ad 262), .ref (ad 263), .ref (ad 264), .ref (ad 265), .ref (ad 266), .ref (ad 267)] : List Value).set 35 (.int x)) := by
  show kc g ad 200 (up2 S.1 200 35 x 200) _ _ = _
  rw [up2_at]
  rfl
theorem ps_200_37 {g : Cx} {ad : Nat → Nat} {S : St} {x : Int32} : cellOf g ad (sv S 200 37 x) 200 = .inr (11, ([.int (gv S 200 0), .int (gv S 200 1), .ref (ad 203), .ref (ad 204), .ref (ad 205), .ref (ad 206), .ref (ad 207), .int (gv S 200 7), .ref (ad 209), .ref (ad 210), .int (gv S 200 10), .ref (ad 212), .ref (ad 213), .ref (ad 214), .ref (ad 215), .ref (ad 216), .ref (ad 217), .ref (ad 218), .ref (ad 219), .ref (ad 220), .ref (ad 221), .ref (ad 222), .ref (ad 223), .ref (ad 224), .ref (ad 225), .ref (ad 226), .ref (ad 227), .ref (ad 228), .ref (ad 229), .ref (ad 230), .ref (ad 231), .ref (ad 232), .ref (ad 233), .int (gv S 200 33), .int (gv S 200 34), .int (gv S 200 35), .ref (ad 237), .int (gv S 200 37), .int (gv S 200 38), .int (gv S 200 39), .int (gv S 200 40), .int (gv S 200 41), .int (gv S 200 42), .int (gv S 200 43), .int (gv S 200 44), .long (gl S 200), .ref (ad 247), .int (gv S 200 47), .int (gv S 200 48), .ref (ad 250), .ref (ad 251), .ref (ad 252), .ref (ad 253), .ref (ad 254), .int (gv S 200 54), .int (gv S 200 55), .ref (ad 257), .ref (ad 258), .ref (ad 259), .ref (ad 260), .ref (ad 261), .ref (ad 262), .ref (ad 263), .ref (ad 264), .ref (ad 265), .ref (ad 266), .ref (ad 267)] : List Value).set 37 (.int x)) := by
  show kc g ad 200 (up2 S.1 200 37 x 200) _ _ = _
  rw [up2_at]
  rfl
theorem ps_200_38 {g : Cx} {ad : Nat → Nat} {S : St} {x : Int32} : cellOf g ad (sv S 200 38 x) 200 = .inr (11, ([.int (gv S 200 0), .int (gv S 200 1), .ref (ad 203), .ref (ad 204), .ref (ad 205), .ref (ad 206), .ref (ad 207), .int (gv S 200 7), .ref (ad 209), .ref (ad 210), .int (gv S 200 10), .ref (ad 212), .ref (ad 213), .ref (ad 214), .ref (ad 215), .ref (ad 216), .ref (ad 217), .ref (ad 218), .ref (ad 219), .ref (ad 220), .ref (ad 221), .ref (ad 222), .ref (ad 223), .ref (ad 224), .ref (ad 225), .ref (ad 226), .ref (ad 227), .ref (ad 228), .ref (ad 229), .ref (ad 230), .ref (ad 231), .ref (ad 232), .ref (ad 233), .int (gv S 200 33), .int (gv S 200 34), .int (gv S 200 35), .ref (ad 237), .int (gv S 200 37), .int (gv S 200 38), .int (gv S 200 39), .int (gv S 200 40), .int (gv S 200 41), .int (gv S 200 42), .int (gv S 200 43), .int (gv S 200 44), .long (gl S 200), .ref (ad 247), .int (gv S 200 47), .int (gv S 200 48), .ref (ad 250), .ref (ad 251), .ref (ad 252), .ref (ad 253), .ref (ad 254), .int (gv S 200 54), .int (gv S 200 55), .ref (ad 257), .ref (ad 258), .ref (ad 259), .ref (ad 260), .ref (ad 261), .ref (ad 262), .ref (ad 263), .ref (ad 264), .ref (ad 265), .ref (ad 266), .ref (ad 267)] : List Value).set 38 (.int x)) := by
  show kc g ad 200 (up2 S.1 200 38 x 200) _ _ = _
  rw [up2_at]
  rfl
theorem ps_200_39 {g : Cx} {ad : Nat → Nat} {S : St} {x : Int32} : cellOf g ad (sv S 200 39 x) 200 = .inr (11, ([.int (gv S 200 0), .int (gv S 200 1), .ref (ad 203), .ref (ad 204), .ref (ad 205), .ref (ad 206), .ref (ad 207), .int (gv S 200 7), .ref (ad 209), .ref (ad 210), .int (gv S 200 10), .ref (ad 212), .ref (ad 213), .ref (ad 214), .ref (ad 215), .ref (ad 216), .ref (ad 217), .ref (ad 218), .ref (ad 219), .ref (ad 220), .ref (ad 221), .ref (ad 222), .ref (ad 223), .ref (ad 224), .ref (ad 225), .ref (ad 226), .ref (ad 227), .ref (ad 228), .ref (ad 229), .ref (ad 230), .ref (ad 231), .ref (ad 232), .ref (ad 233), .int (gv S 200 33), .int (gv S 200 34), .int (gv S 200 35), .ref (ad 237), .int (gv S 200 37), .int (gv S 200 38), .int (gv S 200 39), .int (gv S 200 40), .int (gv S 200 41), .int (gv S 200 42), .int (gv S 200 43), .int (gv S 200 44), .long (gl S 200), .ref (ad 247), .int (gv S 200 47), .int (gv S 200 48), .ref (ad 250), .ref (ad 251), .ref (ad 252), .ref (ad 253), .ref (ad 254), .int (gv S 200 54), .int (gv S 200 55), .ref (ad 257), .ref (ad 258), .ref (ad 259), .ref (ad 260), .ref (ad 261), .ref (ad 262), .ref (ad 263), .ref (ad 264), .ref (ad 265), .ref (ad 266), .ref (ad 267)] : List Value).set 39 (.int x)) := by
  show kc g ad 200 (up2 S.1 200 39 x 200) _ _ = _
  rw [up2_at]
  rfl
theorem ps_200_40 {g : Cx} {ad : Nat → Nat} {S : St} {x : Int32} : cellOf g ad (sv S 200 40 x) 200 = .inr (11, ([.int (gv S 200 0), .int (gv S 200 1), .ref (ad 203), .ref (ad 204), .ref (ad 205), .ref (ad 206), .ref (ad 207), .int (gv S 200 7), .ref (ad 209), .ref (ad 210), .int (gv S 200 10), .ref (ad 212), .ref (ad 213), .ref (ad 214), .ref (ad 215), .ref (ad 216), .ref (ad 217), .ref (ad 218), .ref (ad 219), .ref (ad 220), .ref (ad 221), .ref (ad 222), .ref (ad 223), .ref (ad 224), .ref (ad 225), .ref (ad 226), .ref (ad 227), .ref (ad 228), .ref (ad 229), .ref (ad 230), .ref (ad 231), .ref (ad 232), .ref (ad 233), .int (gv S 200 33), .int (gv S 200 34), .int (gv S 200 35), .ref (ad 237), .int (gv S 200 37), .int (gv S 200 38), .int (gv S 200 39), .int (gv S 200 40), .int (gv S 200 41), .int (gv S 200 42), .int (gv S 200 43), .int (gv S 200 44), .long (gl S 200), .ref (ad 247), .int (gv S 200 47), .int (gv S 200 48), .ref (ad 250), .ref (ad 251), .ref (ad 252), .ref (ad 253), .ref (ad 254), .int (gv S 200 54), .int (gv S 200 55), .ref (ad 257), .ref (ad 258), .ref (ad 259), .ref (ad 260), .ref (ad 261), .ref (ad 262), .ref (ad 263), .ref (ad 264), .ref (ad 265), .ref (ad 266), .ref (ad 267)] : List Value).set 40 (.int x)) := by
  show kc g ad 200 (up2 S.1 200 40 x 200) _ _ = _
  rw [up2_at]
  rfl
theorem ps_200_41 {g : Cx} {ad : Nat → Nat} {S : St} {x : Int32} : cellOf g ad (sv S 200 41 x) 200 = .inr (11, ([.int (gv S 200 0), .int (gv S 200 1), .ref (ad 203), .ref (ad 204), .ref (ad 205), .ref (ad 206), .ref (ad 207), .int (gv S 200 7), .ref (ad 209), .ref (ad 210), .int (gv S 200 10), .ref (ad 212), .ref (ad 213), .ref (ad 214), .ref (ad 215), .ref (ad 216), .ref (ad 217), .ref (ad 218), .ref (ad 219), .ref (ad 220), .ref (ad 221), .ref (ad 222), .ref (ad 223), .ref (ad 224), .ref (ad 225), .ref (ad 226), .ref (ad 227), .ref (ad 228), .ref (ad 229), .ref (ad 230), .ref (ad 231), .ref (ad 232), .ref (ad 233), .int (gv S 200 33), .int (gv S 200 34), .int (gv S 200 35), .ref (ad 237), .int (gv S 200 37), .int (gv S 200 38), .int (gv S 200 39), .int (gv S 200 40), .int (gv S 200 41), .int (gv S 200 42), .int (gv S 200 43), .int (gv S 200 44), .long (gl S 200), .ref (ad 247), .int (gv S 200 47), .int (gv S 200 48), .ref (ad 250), .ref (ad 251), .ref (ad 252), .ref (ad 253), .ref (ad 254), .int (gv S 200 54), .int (gv S 200 55), .ref (ad 257), .ref (ad 258), .ref (ad 259), .ref (ad 260), .ref (ad 261), .ref (ad 262), .ref (ad 263), .ref (ad 264), .ref (ad 265), .ref (ad 266), .ref (ad 267)] : List Value).set 41 (.int x)) := by
  show kc g ad 200 (up2 S.1 200 41 x 200) _ _ = _
  rw [up2_at]
  rfl
theorem ps_200_42 {g : Cx} {ad : Nat → Nat} {S : St} {x : Int32} : cellOf g ad (sv S 200 42 x) 200 = .inr (11, ([.int (gv S 200 0), .int (gv S 200 1), .ref (ad 203), .ref (ad 204), .ref (ad 205), .ref (ad 206), .ref (ad 207), .int (gv S 200 7), .ref (ad 209), .ref (ad 210), .int (gv S 200 10), .ref (ad 212), .ref (ad 213), .ref (ad 214), .ref (ad 215), .ref (ad 216), .ref (ad 217), .ref (ad 218), .ref (ad 219), .ref (ad 220), .ref (ad 221), .ref (ad 222), .ref (ad 223), .ref (ad 224), .ref (ad 225), .ref (ad 226), .ref (ad 227), .ref (ad 228), .ref (ad 229), .ref (ad 230), .ref (ad 231), .ref (ad 232), .ref (ad 233), .int (gv S 200 33), .int (gv S 200 34), .int (gv S 200 35), .ref (ad 237), .int (gv S 200 37), .int (gv S 200 38), .int (gv S 200 39), .int (gv S 200 40), .int (gv S 200 41), .int (gv S 200 42), .int (gv S 200 43), .int (gv S 200 44), .long (gl S 200), .ref (ad 247), .int (gv S 200 47), .int (gv S 200 48), .ref (ad 250), .ref (ad 251), .ref (ad 252), .ref (ad 253), .ref (ad 254), .int (gv S 200 54), .int (gv S 200 55), .ref (ad 257), .ref (ad 258), .ref (ad 259), .ref (ad 260), .ref (ad 261), .ref (ad 262), .ref (ad 263), .ref (ad 264), .ref (ad 265), .ref (ad 266), .ref (ad 267)] : List Value).set 42 (.int x)) := by
  show kc g ad 200 (up2 S.1 200 42 x 200) _ _ = _
  rw [up2_at]
  rfl
theorem ps_200_43 {g : Cx} {ad : Nat → Nat} {S : St} {x : Int32} : cellOf g ad (sv S 200 43 x) 200 = .inr (11, ([.int (gv S 200 0), .int (gv S 200 1), .ref (ad 203), .ref (ad 204), .ref (ad 205), .ref (ad 206), .ref (ad 207), .int (gv S 200 7), .ref (ad 209), .ref (ad 210), .int (gv S 200 10), .ref (ad 212), .ref (ad 213), .ref (ad 214), .ref (ad 215), .ref (ad 216), .ref (ad 217), .ref (ad 218), .ref (ad 219), .ref (ad 220), .ref (ad 221), .ref (ad 222), .ref (ad 223), .ref (ad 224), .ref (ad 225), .ref (ad 226), .ref (ad 227), .ref (ad 228), .ref (ad 229), .ref (ad 230), .ref (ad 231), .ref (ad 232), .ref (ad 233), .int (gv S 200 33), .int (gv S 200 34), .int (gv S 200 35), .ref (ad 237), .int (gv S 200 37), .int (gv S 200 38), .int (gv S 200 39), .int (gv S 200 40), .int (gv S 200 41), .int (gv S 200 42), .int (gv S 200 43), .int (gv S 200 44), .long (gl S 200), .ref (ad 247), .int (gv S 200 47), .int (gv S 200 48), .ref (ad 250), .ref (ad 251), .ref (ad 252), .ref (ad 253), .ref (ad 254), .int (gv S 200 54), .int (gv S 200 55), .ref (ad 257), .ref (ad 258), .ref (ad 259), .ref (ad 260), .ref (ad 261), .ref (ad 262), .ref (ad 263), .ref (ad 264), .ref (ad 265), .ref (ad 266), .ref (ad 267)] : List Value).set 43 (.int x)) := by
  show kc g ad 200 (up2 S.1 200 43 x 200) _ _ = _
  rw [up2_at]
  rfl
theorem ps_200_44 {g : Cx} {ad : Nat → Nat} {S : St} {x : Int32} : cellOf g ad (sv S 200 44 x) 200 = .inr (11, ([.int (gv S 200 0), .int (gv S 200 1), .ref (ad 203), .ref (ad 204), .ref (ad 205), .ref (ad 206), .ref (ad 207), .int (gv S 200 7), .ref (ad 209), .ref (ad 210), .int (gv S 200 10), .ref (ad 212), .ref (ad 213), .ref (ad 214), .ref (ad 215), .ref (ad 216), .ref (ad 217), .ref (ad 218), .ref (ad 219), .ref (ad 220), .ref (ad 221), .ref (ad 222), .ref (ad 223), .ref (ad 224), .ref (ad 225), .ref (ad 226), .ref (ad 227), .ref (ad 228), .ref (ad 229), .ref (ad 230), .ref (ad 231), .ref (ad 232), .ref (ad 233), .int (gv S 200 33), .int (gv S 200 34), .int (gv S 200 35), .ref (ad 237), .int (gv S 200 37), .int (gv S 200 38), .int (gv S 200 39), .int (gv S 200 40), .int (gv S 200 41), .int (gv S 200 42), .int (gv S 200 43), .int (gv S 200 44), .long (gl S 200), .ref (ad 247), .int (gv S 200 47), .int (gv S 200 48), .ref (ad 250), .ref (ad 251), .ref (ad 252), .ref (ad 253), .ref (ad 254), .int (gv S 200 54), .int (gv S 200 55), .ref (ad 257), .ref (ad 258), .ref (ad 259), .ref (ad 260), .ref (ad 261), .ref (ad 262), .ref (ad 263), .ref (ad 264), .ref (ad 265), .ref (ad 266), .ref (ad 267)] : List Value).set 44 (.int x)) := by
  show kc g ad 200 (up2 S.1 200 44 x 200) _ _ = _
  rw [up2_at]
  rfl
theorem ps_200_45 {g : Cx} {ad : Nat → Nat} {S : St} {x : Int64} : cellOf g ad (sl S 200 x) 200 = .inr (11, ([.int (gv S 200 0), .int (gv S 200 1), .ref (ad 203), .ref (ad 204), .ref (ad 205), .ref (ad 206), .ref (ad 207), .int (gv S 200 7), .ref (ad 209), .ref (ad 210), .int (gv S 200 10), .ref (ad 212), .ref (ad 213), .ref (ad 214), .ref (ad 215), .ref (ad 216), .ref (ad 217), .ref (ad 218), .ref (ad 219), .ref (ad 220), .ref (ad 221), .ref (ad 222), .ref (ad 223), .ref (ad 224), .ref (ad 225), .ref (ad 226), .ref (ad 227), .ref (ad 228), .ref (ad 229), .ref (ad 230), .ref (ad 231), .ref (ad 232), .ref (ad 233), .int (gv S 200 33), .int (gv S 200 34), .int (gv S 200 35), .ref (ad 237), .int (gv S 200 37), .int (gv S 200 38), .int (gv S 200 39), .int (gv S 200 40), .int (gv S 200 41), .int (gv S 200 42), .int (gv S 200 43), .int (gv S 200 44), .long (gl S 200), .ref (ad 247), .int (gv S 200 47), .int (gv S 200 48), .ref (ad 250), .ref (ad 251), .ref (ad 252), .ref (ad 253), .ref (ad 254), .int (gv S 200 54), .int (gv S 200 55), .ref (ad 257), .ref (ad 258), .ref (ad 259), .ref (ad 260), .ref (ad 261), .ref (ad 262), .ref (ad 263), .ref (ad 264), .ref (ad 265), .ref (ad 266), .ref (ad 267)] : List Value).set 45 (.long x)) := rfl
theorem ps_200_47 {g : Cx} {ad : Nat → Nat} {S : St} {x : Int32} : cellOf g ad (sv S 200 47 x) 200 = .inr (11, ([.int (gv S 200 0), .int (gv S 200 1), .ref (ad 203), .ref (ad 204), .ref (ad 205), .ref (ad 206), .ref (ad 207), .int (gv S 200 7), .ref (ad 209), .ref (ad 210), .int (gv S 200 10), .ref (ad 212), .ref (ad 213), .ref (ad 214), .ref (ad 215), .ref (ad 216), .ref (ad 217), .ref (ad 218), .ref (ad 219), .ref (ad 220), .ref (ad 221), .ref (ad 222), .ref (ad 223), .ref (ad 224), .ref (ad 225), .ref (ad 226), .ref (ad 227), .ref (ad 228), .ref (ad 229), .ref (ad 230), .ref (ad 231), .ref (ad 232), .ref (ad 233), .int (gv S 200 33), .int (gv S 200 34), .int (gv S 200 35), .ref (ad 237), .int (gv S 200 37), .int (gv S 200 38), .int (gv S 200 39), .int (gv S 200 40), .int (gv S 200 41), .int (gv S 200 42), .int (gv S 200 43), .int (gv S 200 44), .long (gl S 200), .ref (ad 247), .int (gv S 200 47), .int (gv S 200 48), .ref (ad 250), .ref (ad 251), .ref (ad 252), .ref (ad 253), .ref (ad 254), .int (gv S 200 54), .int (gv S 200 55), .ref (ad 257), .ref (ad 258), .ref (ad 259), .ref (ad 260), .ref (ad 261), .ref (ad 262), .ref (ad 263), .ref (ad 264), .ref (ad 265), .ref (ad 266), .ref (ad 267)] : List Value).set 47 (.int x)) := by
  show kc g ad 200 (up2 S.1 200 47 x 200) _ _ = _
  rw [up2_at]
  rfl
theorem ps_200_48 {g : Cx} {ad : Nat → Nat} {S : St} {x : Int32} : cellOf g ad (sv S 200 48 x) 200 = .inr (11, ([.int (gv S 200 0), .int (gv S 200 1), .ref (ad 203), .ref (ad 204), .ref (ad 205), .ref (ad 206), .ref (ad 207), .int (gv S 200 7), .ref (ad 209), .ref (ad 210), .int (gv S 200 10), .ref (ad 212), .ref (ad 213), .ref (ad 214), .ref (ad 215), .ref (ad 216), .ref (ad 217), .ref (ad 218), .ref (ad 219), .ref (ad 220), .ref (ad 221), .ref (ad 222), .ref (ad 223), .ref (ad 224), .ref (ad 225), .ref (ad 226), .ref (ad 227), .ref (ad 228), .ref (ad 229), .ref (ad 230), .ref (ad 231), .ref (ad 232), .ref (ad 233), .int (gv S 200 33), .int (gv S 200 34), .int (gv S 200 35), .ref (ad 237), .int (gv S 200 37), .int (gv S 200 38), .int (gv S 200 39), .int (gv S 200 40), .int (gv S 200 41), .int (gv S 200 42), .int (gv S 200 43), .int (gv S 200 44), .long (gl S 200), .ref (ad 247), .int (gv S 200 47), .int (gv S 200 48), .ref (ad 250), .ref (ad 251), .ref (ad 252), .ref (ad 253), .ref (ad 254), .int (gv S 200 54), .int (gv S 200 55), .ref (ad 257), .ref (ad 258), .ref (ad 259), .ref (ad 260), .ref (ad 261), .ref (ad 262), .ref (ad 263), .ref (ad 264), .ref (ad 265), .ref (ad 266), .ref (ad 267)] : List Value).set 48 (.int x)) := by
  show kc g ad 200 (up2 S.1 200 48 x 200) _ _ = _
  rw [up2_at]
  rfl
theorem ps_200_54 {g : Cx} {ad : Nat → Nat} {S : St} {x : Int32} : cellOf g ad (sv S 200 54 x) 200 = .inr (11, ([.int (gv S 200 0), .int (gv S 200 1), .ref (ad 203), .ref (ad 204), .ref (ad 205), .ref (ad 206), .ref (ad 207), .int (gv S 200 7), .ref (ad 209), .ref (ad 210), .int (gv S 200 10), .ref (ad 212), .ref (ad 213), .ref (ad 214), .ref (ad 215), .ref (ad 216), .ref (ad 217), .ref (ad 218), .ref (ad 219), .ref (ad 220), .ref (ad 221), .ref (ad 222), .ref (ad 223), .ref (ad 224), .ref (ad 225), .ref (ad 226), .ref (ad 227), .ref (ad 228), .ref (ad 229), .ref (ad 230), .ref (ad 231), .ref (ad 232), .ref (ad 233), .int (gv S 200 33), .int (gv S 200 34), .int (gv S 200 35), .ref (ad 237), .int (gv S 200 37), .int (gv S 200 38), .int (gv S 200 39), .int (gv S 200 40), .int (gv S 200 41), .int (gv S 200 42), .int (gv S 200 43), .int (gv S 200 44), .long (gl S 200), .ref (ad 247), .int (gv S 200 47), .int (gv S 200 48), .ref (ad 250), .ref (ad 251), .ref (ad 252), .ref (ad 253), .ref (ad 254), .int (gv S 200 54), .int (gv S 200 55), .ref (ad 257), .ref (ad 258), .ref (ad 259), .ref (ad 260), .ref (ad 261), .ref (ad 262), .ref (ad 263), .ref (ad 264), .ref (ad 265), .ref (ad 266), .ref (ad 267)] : List Value).set 54 (.int x)) := by
  show kc g ad 200 (up2 S.1 200 54 x 200) _ _ = _
  rw [up2_at]
  rfl
theorem ps_200_55 {g : Cx} {ad : Nat → Nat} {S : St} {x : Int32} : cellOf g ad (sv S 200 55 x) 200 = .inr (11, ([.int (gv S 200 0), .int (gv S 200 1), .ref (ad 203), .ref (ad 204), .ref (ad 205), .ref (ad 206), .ref (ad 207), .int (gv S 200 7), .ref (ad 209), .ref (ad 210), .int (gv S 200 10), .ref (ad 212), .ref (ad 213), .ref (ad 214), .ref (ad 215), .ref (ad 216), .ref (ad 217), .ref (ad 218), .ref (ad 219), .ref (ad 220), .ref (ad 221), .ref (ad 222), .ref (ad 223), .ref (ad 224), .ref (ad 225), .ref (ad 226), .ref (ad 227), .ref (ad 228), .ref (ad 229), .ref (ad 230), .ref (ad 231), .ref (ad 232), .ref (ad 233), .int (gv S 200 33), .int (gv S 200 34), .int (gv S 200 35), .ref (ad 237), .int (gv S 200 37), .int (gv S 200 38), .int (gv S 200 39), .int (gv S 200 40), .int (gv S 200 41), .int (gv S 200 42), .int (gv S 200 43), .int (gv S 200 44), .long (gl S 200), .ref (ad 247), .int (gv S 200 47), .int (gv S 200 48), .ref (ad 250), .ref (ad 251), .ref (ad 252), .ref (ad 253), .ref (ad 254), .int (gv S 200 54), .int (gv S 200 55), .ref (ad 257), .ref (ad 258), .ref (ad 259), .ref (ad 260), .ref (ad 261), .ref (ad 262), .ref (ad 263), .ref (ad 264), .ref (ad 265), .ref (ad 266), .ref (ad 267)] : List Value).set 55 (.int x)) := by
  show kc g ad 200 (up2 S.1 200 55 x 200) _ _ = _
  rw [up2_at]
  rfl
theorem ps_herd_0 {g : Cx} {ad : Nat → Nat} {S : St} {L : List Nat} {o : Nat} {x : Int32} (h : okh L o) : cellOf g ad (sv S o 0 x) o = .inr (1, ([.int (gv S o 0), .int (gv S o 1), .int (gv S o 2), .int (gv S o 3), .int (gv S o 4), .int (gv S o 5), va_re ad (gr S o 6), .int (gv S o 7), .int (gv S o 8), .int (gv S o 9), .int (gv S o 10), .int (gv S o 11)] : List Value).set 0 (.int x)) := by
  obtain ⟨h1, h2, -⟩ := h
  show kc g ad o (up2 S.1 o 0 x o) _ _ = _
  rw [up2_at]
  unfold kc
  rw [if_neg (by omega), if_pos (by omega)]
  rfl
theorem ps_herd_1 {g : Cx} {ad : Nat → Nat} {S : St} {L : List Nat} {o : Nat} {x : Int32} (h : okh L o) : cellOf g ad (sv S o 1 x) o = .inr (1, ([.int (gv S o 0), .int (gv S o 1), .int (gv S o 2), .int (gv S o 3), .int (gv S o 4), .int (gv S o 5), va_re ad (gr S o 6), .int (gv S o 7), .int (gv S o 8), .int (gv S o 9), .int (gv S o 10), .int (gv S o 11)] : List Value).set 1 (.int x)) := by
  obtain ⟨h1, h2, -⟩ := h
  show kc g ad o (up2 S.1 o 1 x o) _ _ = _
  rw [up2_at]
  unfold kc
  rw [if_neg (by omega), if_pos (by omega)]
  rfl
theorem ps_herd_2 {g : Cx} {ad : Nat → Nat} {S : St} {L : List Nat} {o : Nat} {x : Int32} (h : okh L o) : cellOf g ad (sv S o 2 x) o = .inr (1, ([.int (gv S o 0), .int (gv S o 1), .int (gv S o 2), .int (gv S o 3), .int (gv S o 4), .int (gv S o 5), va_re ad (gr S o 6), .int (gv S o 7), .int (gv S o 8), .int (gv S o 9), .int (gv S o 10), .int (gv S o 11)] : List Value).set 2 (.int x)) := by
  obtain ⟨h1, h2, -⟩ := h
  show kc g ad o (up2 S.1 o 2 x o) _ _ = _
  rw [up2_at]
  unfold kc
  rw [if_neg (by omega), if_pos (by omega)]
  rfl
theorem ps_herd_3 {g : Cx} {ad : Nat → Nat} {S : St} {L : List Nat} {o : Nat} {x : Int32} (h : okh L o) : cellOf g ad (sv S o 3 x) o = .inr (1, ([.int (gv S o 0), .int (gv S o 1), .int (gv S o 2), .int (gv S o 3), .int (gv S o 4), .int (gv S o 5), va_re ad (gr S o 6), .int (gv S o 7), .int (gv S o 8), .int (gv S o 9), .int (gv S o 10), .int (gv S o 11)] : List Value).set 3 (.int x)) := by
  obtain ⟨h1, h2, -⟩ := h
  show kc g ad o (up2 S.1 o 3 x o) _ _ = _
  rw [up2_at]
  unfold kc
  rw [if_neg (by omega), if_pos (by omega)]
  rfl
theorem ps_herd_4 {g : Cx} {ad : Nat → Nat} {S : St} {L : List Nat} {o : Nat} {x : Int32} (h : okh L o) : cellOf g ad (sv S o 4 x) o = .inr (1, ([.int (gv S o 0), .int (gv S o 1), .int (gv S o 2), .int (gv S o 3), .int (gv S o 4), .int (gv S o 5), va_re ad (gr S o 6), .int (gv S o 7), .int (gv S o 8), .int (gv S o 9), .int (gv S o 10), .int (gv S o 11)] : List Value).set 4 (.int x)) := by
  obtain ⟨h1, h2, -⟩ := h
  show kc g ad o (up2 S.1 o 4 x o) _ _ = _
  rw [up2_at]
  unfold kc
  rw [if_neg (by omega), if_pos (by omega)]
  rfl
theorem ps_herd_5 {g : Cx} {ad : Nat → Nat} {S : St} {L : List Nat} {o : Nat} {x : Int32} (h : okh L o) : cellOf g ad (sv S o 5 x) o = .inr (1, ([.int (gv S o 0), .int (gv S o 1), .int (gv S o 2), .int (gv S o 3), .int (gv S o 4), .int (gv S o 5), va_re ad (gr S o 6), .int (gv S o 7), .int (gv S o 8), .int (gv S o 9), .int (gv S o 10), .int (gv S o 11)] : List Value).set 5 (.int x)) := by
  obtain ⟨h1, h2, -⟩ := h
  show kc g ad o (up2 S.1 o 5 x o) _ _ = _
  rw [up2_at]
  unfold kc
  rw [if_neg (by omega), if_pos (by omega)]
  rfl
theorem ps_herd_6 {g : Cx} {ad : Nat → Nat} {S : St} {L : List Nat} {o x : Nat} (h : okh L o) : cellOf g ad (sr S o 6 (some x)) o = .inr (1, ([.int (gv S o 0), .int (gv S o 1), .int (gv S o 2), .int (gv S o 3), .int (gv S o 4), .int (gv S o 5), va_re ad (gr S o 6), .int (gv S o 7), .int (gv S o 8), .int (gv S o 9), .int (gv S o 10), .int (gv S o 11)] : List Value).set 6 (.ref (ad x))) := by
  obtain ⟨h1, h2, -⟩ := h
  show kc g ad o _ (up2 S.2.1 o 6 (some x) o) _ = _
  rw [up2_at]
  unfold kc
  rw [if_neg (by omega), if_pos (by omega)]
  rfl
theorem ps_herd_7 {g : Cx} {ad : Nat → Nat} {S : St} {L : List Nat} {o : Nat} {x : Int32} (h : okh L o) : cellOf g ad (sv S o 7 x) o = .inr (1, ([.int (gv S o 0), .int (gv S o 1), .int (gv S o 2), .int (gv S o 3), .int (gv S o 4), .int (gv S o 5), va_re ad (gr S o 6), .int (gv S o 7), .int (gv S o 8), .int (gv S o 9), .int (gv S o 10), .int (gv S o 11)] : List Value).set 7 (.int x)) := by
  obtain ⟨h1, h2, -⟩ := h
  show kc g ad o (up2 S.1 o 7 x o) _ _ = _
  rw [up2_at]
  unfold kc
  rw [if_neg (by omega), if_pos (by omega)]
  rfl
theorem ps_herd_8 {g : Cx} {ad : Nat → Nat} {S : St} {L : List Nat} {o : Nat} {x : Int32} (h : okh L o) : cellOf g ad (sv S o 8 x) o = .inr (1, ([.int (gv S o 0), .int (gv S o 1), .int (gv S o 2), .int (gv S o 3), .int (gv S o 4), .int (gv S o 5), va_re ad (gr S o 6), .int (gv S o 7), .int (gv S o 8), .int (gv S o 9), .int (gv S o 10), .int (gv S o 11)] : List Value).set 8 (.int x)) := by
  obtain ⟨h1, h2, -⟩ := h
  show kc g ad o (up2 S.1 o 8 x o) _ _ = _
  rw [up2_at]
  unfold kc
  rw [if_neg (by omega), if_pos (by omega)]
  rfl
theorem ps_herd_9 {g : Cx} {ad : Nat → Nat} {S : St} {L : List Nat} {o : Nat} {x : Int32} (h : okh L o) : cellOf g ad (sv S o 9 x) o = .inr (1, ([.int (gv S o 0), .int (gv S o 1), .int (gv S o 2), .int (gv S o 3), .int (gv S o 4), .int (gv S o 5), va_re ad (gr S o 6), .int (gv S o 7), .int (gv S o 8), .int (gv S o 9), .int (gv S o 10), .int (gv S o 11)] : List Value).set 9 (.int x)) := by
  obtain ⟨h1, h2, -⟩ := h
  show kc g ad o (up2 S.1 o 9 x o) _ _ = _
  rw [up2_at]
  unfold kc
  rw [if_neg (by omega), if_pos (by omega)]
  rfl
theorem ps_herd_10 {g : Cx} {ad : Nat → Nat} {S : St} {L : List Nat} {o : Nat} {x : Int32} (h : okh L o) : cellOf g ad (sv S o 10 x) o = .inr (1, ([.int (gv S o 0), .int (gv S o 1), .int (gv S o 2), .int (gv S o 3), .int (gv S o 4), .int (gv S o 5), va_re ad (gr S o 6), .int (gv S o 7), .int (gv S o 8), .int (gv S o 9), .int (gv S o 10), .int (gv S o 11)] : List Value).set 10 (.int x)) := by
  obtain ⟨h1, h2, -⟩ := h
  show kc g ad o (up2 S.1 o 10 x o) _ _ = _
  rw [up2_at]
  unfold kc
  rw [if_neg (by omega), if_pos (by omega)]
  rfl
theorem ps_herd_11 {g : Cx} {ad : Nat → Nat} {S : St} {L : List Nat} {o : Nat} {x : Int32} (h : okh L o) : cellOf g ad (sv S o 11 x) o = .inr (1, ([.int (gv S o 0), .int (gv S o 1), .int (gv S o 2), .int (gv S o 3), .int (gv S o 4), .int (gv S o 5), va_re ad (gr S o 6), .int (gv S o 7), .int (gv S o 8), .int (gv S o 9), .int (gv S o 10), .int (gv S o 11)] : List Value).set 11 (.int x)) := by
  obtain ⟨h1, h2, -⟩ := h
  show kc g ad o (up2 S.1 o 11 x o) _ _ = _
  rw [up2_at]
  unfold kc
  rw [if_neg (by omega), if_pos (by omega)]
  rfl
theorem ps_ord_3 {g : Cx} {ad : Nat → Nat} {S : St} {L : List Nat} {o : Nat} {x : Int32} (h : oko L o) : cellOf g ad (sv S o 3 x) o = .inr (5, ([.ref (ad (o + 10)), .ref (ad (o + 20)), .ref (ad (o + 30)), .int (gv S o 3), .int (gv S o 4)] : List Value).set 3 (.int x)) := by
  obtain ⟨h1, h2, -⟩ := h
  show kc g ad o (up2 S.1 o 3 x o) _ _ = _
  rw [up2_at]
  unfold kc
  rw [if_neg (by omega), if_neg (by omega), if_pos h2]
  rfl
theorem ps_ord_4 {g : Cx} {ad : Nat → Nat} {S : St} {L : List Nat} {o : Nat} {x : Int32} (h : oko L o) : cellOf g ad (sv S o 4 x) o = .inr (5, ([.ref (ad (o + 10)), .ref (ad (o + 20)), .ref (ad (o + 30)), .int (gv S o 3), .int (gv S o 4)] : List Value).set 4 (.int x)) := by
  obtain ⟨h1, h2, -⟩ := h
  show kc g ad o (up2 S.1 o 4 x o) _ _ = _
  rw [up2_at]
  unfold kc
  rw [if_neg (by omega), if_neg (by omega), if_pos h2]
  rfl
theorem bb_0 : 0 ∈ bsl := by decide
theorem bb_1 : 1 ∈ bsl := by decide
theorem bb_2 : 2 ∈ bsl := by decide
theorem bb_3 : 3 ∈ bsl := by decide
theorem bb_4 : 4 ∈ bsl := by decide
theorem bb_5 : 5 ∈ bsl := by decide
theorem bb_6 : 6 ∈ bsl := by decide
theorem bb_7 : 7 ∈ bsl := by decide
theorem bb_11 : 11 ∈ bsl := by decide
theorem bb_12 : 12 ∈ bsl := by decide
theorem bb_13 : 13 ∈ bsl := by decide
theorem bb_14 : 14 ∈ bsl := by decide
theorem bb_15 : 15 ∈ bsl := by decide
theorem bb_16 : 16 ∈ bsl := by decide
theorem bb_21 : 21 ∈ bsl := by decide
theorem bb_22 : 22 ∈ bsl := by decide
theorem bb_32 : 32 ∈ bsl := by decide
theorem bb_33 : 33 ∈ bsl := by decide
theorem bb_34 : 34 ∈ bsl := by decide
theorem bb_35 : 35 ∈ bsl := by decide
theorem bb_36 : 36 ∈ bsl := by decide
theorem bb_41 : 41 ∈ bsl := by decide
theorem bb_42 : 42 ∈ bsl := by decide
theorem bb_43 : 43 ∈ bsl := by decide
theorem bb_44 : 44 ∈ bsl := by decide
theorem bb_45 : 45 ∈ bsl := by decide
theorem bb_46 : 46 ∈ bsl := by decide
theorem bb_47 : 47 ∈ bsl := by decide
theorem bb_50 : 50 ∈ bsl := by decide
theorem bb_51 : 51 ∈ bsl := by decide
theorem bb_200 : 200 ∈ bsl := by decide
theorem bb_203 : 203 ∈ bsl := by decide
theorem bb_204 : 204 ∈ bsl := by decide
theorem bb_205 : 205 ∈ bsl := by decide
theorem bb_206 : 206 ∈ bsl := by decide
theorem bb_207 : 207 ∈ bsl := by decide
theorem bb_209 : 209 ∈ bsl := by decide
theorem bb_210 : 210 ∈ bsl := by decide
theorem bb_212 : 212 ∈ bsl := by decide
theorem bb_213 : 213 ∈ bsl := by decide
theorem bb_214 : 214 ∈ bsl := by decide
theorem bb_215 : 215 ∈ bsl := by decide
theorem bb_216 : 216 ∈ bsl := by decide
theorem bb_217 : 217 ∈ bsl := by decide
theorem bb_218 : 218 ∈ bsl := by decide
theorem bb_219 : 219 ∈ bsl := by decide
theorem bb_220 : 220 ∈ bsl := by decide
theorem bb_221 : 221 ∈ bsl := by decide
theorem bb_222 : 222 ∈ bsl := by decide
theorem bb_223 : 223 ∈ bsl := by decide
theorem bb_224 : 224 ∈ bsl := by decide
theorem bb_225 : 225 ∈ bsl := by decide
theorem bb_226 : 226 ∈ bsl := by decide
theorem bb_227 : 227 ∈ bsl := by decide
theorem bb_228 : 228 ∈ bsl := by decide
theorem bb_229 : 229 ∈ bsl := by decide
theorem bb_230 : 230 ∈ bsl := by decide
theorem bb_231 : 231 ∈ bsl := by decide
theorem bb_232 : 232 ∈ bsl := by decide
theorem bb_233 : 233 ∈ bsl := by decide
theorem bb_237 : 237 ∈ bsl := by decide
theorem bb_247 : 247 ∈ bsl := by decide
theorem bb_250 : 250 ∈ bsl := by decide
theorem bb_251 : 251 ∈ bsl := by decide
theorem bb_252 : 252 ∈ bsl := by decide
theorem bb_253 : 253 ∈ bsl := by decide
theorem bb_254 : 254 ∈ bsl := by decide
theorem bb_257 : 257 ∈ bsl := by decide
theorem bb_258 : 258 ∈ bsl := by decide
theorem bb_259 : 259 ∈ bsl := by decide
theorem bb_260 : 260 ∈ bsl := by decide
theorem bb_261 : 261 ∈ bsl := by decide
theorem bb_262 : 262 ∈ bsl := by decide
theorem bb_263 : 263 ∈ bsl := by decide
theorem bb_264 : 264 ∈ bsl := by decide
theorem bb_265 : 265 ∈ bsl := by decide
theorem bb_266 : 266 ∈ bsl := by decide
theorem bb_267 : 267 ∈ bsl := by decide
/-! the world -/
def gls (g : Cx) (ad : Nat → Nat) (L : List Nat) (S : St) : va_W := L.map fun o => (ad o, cellOf g ad S o)
def GW (g : Cx) (A : Nat → Prop) (ad : Nat → Nat) (L : List Nat) (S : St) (H : Heap) : Prop := va_P g.1 vwCl (gls g ad L S) H ∧ va_D A (gls g ad L S)
def nestL : List (String × Nat × MethodName) := [("DroveRoads", 18, ⟨"DroveRoads$Letters", "<init>", "()V"⟩), ("DroveRoads", 25, ⟨"DroveRoads$Bills", "<init>", "()V"⟩), ("DroveRoads$Bills", 17, ⟨"DroveRoads$Passings", "<init>", "()V"⟩), ("DroveRoads", 42, ⟨"DroveRoads$Reckoner", "<init>", "()V"⟩), ("DroveRoads", 49, ⟨"DroveRoads$Orders", "<init>", "()V"⟩), ("DroveRoads$Road", 34, ⟨"DroveRoads", "within", "(III)Z"⟩), ("DroveRoads$Herd", 20, ⟨"DroveRoads$Orders", "<init>", "()V"⟩), ("DroveRoads$Letters", 22, ⟨"DroveRoads", "within", "(III)Z"⟩), ("DroveRoads$Parser", 87, ⟨"DroveRoads", "within", "(III)Z"⟩), ("DroveRoads$Bills", 39, ⟨"DroveRoads", "within", "(III)Z"⟩), ("DroveRoads$Passings", 37, ⟨"DroveRoads", "within", "(III)Z"⟩)]
def NW (U : State) : Prop := (∀ q ∈ nestL, va_Nw (.methodLinkNest q.1 q.2.1 q.2.2 "DroveRoads") U) ∧ va_AO "DroveRoads$Herd" U
theorem NW.warm {s U : State} (hW : s.WarmedH U.vm) (h : NW s) : NW U := ⟨fun q hq => va_Nw.warmM hW (h.1 q hq), h.2.moved hW.alike⟩
theorem NW.calling {U : State} {g2 : JFrame} {mk : MethodId} {a : Array Value} (h : NW U) : NW (U.calling g2 mk a) := ⟨fun w hw => va_Nw.same rfl (rfl : U.vm = (U.calling g2 mk a).vm) (h.1 w hw), h.2.moved (Vm.Alike.refl U.vm)⟩
def sw_len : List Nat := [136, 8]
def sw_byt : List (List Int32) := [[119, 104, 101, 110, 32, 32, 32, 32, 100, 111, 32, 32, 32, 32, 32, 32, 119, 97, 108, 107, 32, 32, 32, 32, 114, 101, 115, 116, 32, 32, 32, 32, 115, 101, 108, 108, 32, 32, 32, 32, 111, 114, 32, 32, 32, 32, 32, 32, 97, 110, 100, 32, 32, 32, 32, 32, 110, 111, 116, 32, 32, 32, 32, 32, 100, 97, 121, 32, 32, 32, 32, 32, 104, 101, 97, 100, 115, 32, 32, 32, 119, 101, 105, 103, 104, 116, 32, 32, 115, 111, 114, 101, 32, 32, 32, 32, 103, 114, 97, 115, 115, 32, 32, 32, 109, 105, 108, 101, 115, 32, 32, 32, 115, 116, 97, 110, 99, 101, 32, 32, 112, 114, 105, 99, 101, 32, 32, 32, 119, 97, 110, 116, 32, 32, 32, 32], [59, 60, 62, 61, 43, 45, 40, 41]]
/-- the texts of the Lexer, and the JDK's statics that String reads -/
def SW (g : Cx) (A : Nat → Prop) (U : State) : Prop := vk_R "DroveRoads$Lexer" 70 "when    do      walk    rest    sell    or      and     not     day     heads   weight  sore    grass   miles   stance  price   want    " (g.2.2.2.2.2.1 0) U ∧ vk_R "DroveRoads$Lexer" 63 ";<>=+-()" (g.2.2.2.2.2.1 1) U ∧ vk_S 2 sw_len sw_byt g.2.2.2.2.2.1 g.2.2.2.2.2.2 A U U.heap ∧ va_Z "java/lang/String" "COMPACT_STRINGS" "Z" (.int 1) A U U.heap ∧ va_Zq "jdk/internal/util/Preconditions" "SIOOBE_FORMATTER" "Ljava/util/function/BiFunction;" A U U.heap ∧ ∀ q, U.heap.size ≤ q → A q
theorem SW.at {g : Cx} {A : Nat → Prop} {s U : State} {H : Heap} {locs : List Loc} (h : SW g A s) (hS : va_S A s.heap H locs) (hU : U.heap = H) (hW : s.WarmedH U.vm) : SW g A U := by
  obtain ⟨h1, h2, h3, h4, h5, hA9⟩ := h
  have hk : ∀ a : Nat, a < s.heap.size → ¬ A a → U.heap[a]? = s.heap[a]? := fun a h1 h2 => by rw [hU]; exact hS.2.1 a h1 h2
  exact ⟨h1.warm hW, h2.warm hW, (h3.kept hk).moved hW.alike, (h4.kept hk).moved hW.alike, (h5.kept hk).moved hW.alike, fun q h => hA9 q (Nat.le_trans hS.1 (by rw [← hU]; exact h))⟩
theorem SW.calling {g : Cx} {A : Nat → Prop} {U : State} {g2 : JFrame} {mk : MethodId} {a : Array Value} (h : SW g A U) : SW g A (U.calling g2 mk a) := by
  obtain ⟨h1, h2, h3, h4, h5, hA9⟩ := h
  have ha : U.vm.Alike (U.calling g2 mk a).vm := Vm.Alike.refl U.vm
  exact ⟨h1.same rfl, h2.same rfl, h3.moved ha, h4.moved ha, h5.moved ha, hA9⟩
def WU (g : Cx) (A : Nat → Prop) (ad : Nat → Nat) (L : List Nat) (S : St) (U : State) : Prop := GW g A ad L S U.heap ∧ va_K g.1 vwCl (gtys g) U ∧ NW U ∧ SW g A U
theorem gls_at {g : Cx} {ad : Nat → Nat} {L : List Nat} {S : St} {o : Nat} (ho : o ∈ L) : ∃ q : Nat, L[q]? = some o ∧ (gls g ad L S)[q]? = some (ad o, cellOf g ad S o) := by
  obtain ⟨q, hq⟩ := List.getElem?_of_mem ho
  exact ⟨q, hq, by unfold gls; rw [List.getElem?_map, hq]; rfl⟩
theorem gls_set {g : Cx} {A : Nat → Prop} {ad : Nat → Nat} {L : List Nat} {S S1 : St} {o q : Nat} {e : va_E} (hD : va_D A (gls g ad L S)) (hq : L[q]? = some o) (h1 : cellOf g ad S1 o = e) (h2 : ∀ x, x ≠ o → cellOf g ad S1 x = cellOf g ad S x) : (gls g ad L S).set q (ad o, e) = gls g ad L S1 := by
  apply List.ext_getElem?
  intro i
  rw [List.getElem?_set]
  have hql : q < (gls g ad L S).length := by unfold gls; rw [List.length_map]; exact (List.getElem?_eq_some_iff.mp hq).1
  by_cases hi : q = i
  · subst hi
    rw [if_pos rfl, if_pos hql]
    unfold gls
    rw [List.getElem?_map, hq]
    show _ = some (ad o, cellOf g ad S1 o)
    rw [h1]
  · rw [if_neg hi]
    cases hx : L[i]? with
    | none => unfold gls; rw [List.getElem?_map, List.getElem?_map, hx]; rfl
    | some x =>
      have hxo : x ≠ o := fun e2 => by
        subst e2
        exact hi (hD.1 q i (ad x, cellOf g ad S x) (ad x, cellOf g ad S x) (by unfold gls; rw [List.getElem?_map, hq]; rfl) (by unfold gls; rw [List.getElem?_map, hx]; rfl) rfl)
      unfold gls
      rw [List.getElem?_map, List.getElem?_map, hx]
      show some (ad x, cellOf g ad S x) = some (ad x, cellOf g ad S1 x)
      rw [h2 x hxo]
theorem cellOf_sv {g : Cx} {ad : Nat → Nat} {S : St} {o k : Nat} {x : Int32} : ∀ y, y ≠ o → cellOf g ad (sv S o k x) y = cellOf g ad S y := fun y h => by
  unfold cellOf sv; dsimp only
  rw [up2_ne _ _ _ h]
theorem cellOf_sr {g : Cx} {ad : Nat → Nat} {S : St} {o k : Nat} {x : Option Nat} : ∀ y, y ≠ o → cellOf g ad (sr S o k x) y = cellOf g ad S y := fun y h => by
  unfold cellOf sr; dsimp only
  rw [up2_ne _ _ _ h]
theorem cellOf_sl {g : Cx} {ad : Nat → Nat} {S : St} {o : Nat} {x : Int64} : ∀ y, y ≠ o → cellOf g ad (sl S o x) y = cellOf g ad S y := fun y h => by
  unfold cellOf sl
  simp only [va_up, if_neg h]
/-! pure words -/
def bn {α β : Type} (e : α) (f : α → β) : β := f e
theorem bn_at {α β : Type} {e x : α} {f : α → β} {r : β} (ex : x = e) (h : bn e f = r) : f x = r := by subst ex; exact h
theorem it_t {α : Type} {c : Prop} {d : Decidable c} {a b x : α} (hc : c) (h : @ite α c d a b = x) : a = x := (if_pos hc).symm.trans h
theorem it_f {α : Type} {c : Prop} {d : Decidable c} {a b x : α} (hc : ¬ c) (h : @ite α c d a b = x) : b = x := (if_neg hc).symm.trans h
theorem ck_n {α : Type} {c : Prop} {d : Decidable c} {a : Option α} {x : α} (h : @ite (Option α) c d none a = some x) : ¬ c ∧ a = some x := by
  by_cases hc : c
  · have := it_t hc h
    cases this
  · exact ⟨hc, it_f hc h⟩
theorem ck_t {α : Type} {c : Prop} {d : Decidable c} {a : Option α} {x : α} (h : @ite (Option α) c d a none = some x) : c ∧ a = some x := by
  by_cases hc : c
  · exact ⟨hc, it_t hc h⟩
  · have := it_f hc h
    cases this
def cl0 {α β : Type} (e : Option α) (f : α → Option β) : Option β := match e with
  | none => none
  | some a => f a
theorem cl0_ex {α β : Type} {e : Option α} {f : α → Option β} {x : β} (h : cl0 e f = some x) : ∃ a, e = some a ∧ f a = some x := by
  cases e with
  | none => cases h
  | some a => exact ⟨a, rfl, h⟩
def cl1 {α β γ : Type} (e : Option (α × β)) (f : α → β → Option γ) : Option γ := match e with
  | none => none
  | some q => f q.1 q.2
theorem cl1_ex {α β γ : Type} {e : Option (α × β)} {f : α → β → Option γ} {x : γ} (h : cl1 e f = some x) : ∃ a b, e = some (a, b) ∧ f a b = some x := by
  cases e with
  | none => cases h
  | some q => exact ⟨q.1, q.2, rfl, h⟩
def oc {α : Type} (r : Option Nat) (a : α) (f : Nat → α) : α := match r with
  | none => a
  | some x => f x
abbrev ix (i : Int32) : Nat := i.toNatClampNeg
def bz (x : Int32) : Prop := narrow .boolean (.int x) = .int x
def rmk (k : Nat) : Room := { frames := k, cells := 0, slots := 0, locals := 64 * k }
end BASE

section ROWS
variable {p : Program} {l : Launch} {e : Env} {R : Room} {s : State} {m : MethodId} {args : Array Value} {below : List Frame} {meth : Method} {c : Code} {H : Heap} {locs : List Loc} {cells slots : Nat} {Q : State → Prop}
variable {cc : ByteArray} {pc : Nat} {ls : Array Slot} {rest : List Value} {A : Nat → Prop} {g : Cx} {ad : Nat → Nat} {L : List Nat} {S : St} {H0 : Heap}
def MC (p : Program) (s : State) (m : MethodId) (args : Array Value) (meth : Method) (c : Code) (cc : ByteArray) (nL : Nat) (ret : Option FieldType) (own : String) (g : Cx) (A : Nat → Prop) : Prop :=
  p.tables.exec = Jvm.exec ∧ c.code = cc ∧ c.maxLocals = nL ∧ s.vm.findClass own = some m.cls ∧ (∀ w ∈ gw_tbl, w.before args s = true) ∧ meth.sig.returnType = ret ∧ meth.locks = false ∧ va_K g.1 vwCl (gtys g) s ∧ NW s ∧ SW g A s
theorem g_get (hexec : p.tables.exec = Jvm.exec) (hb : c.code = cc) {own ref C : String} {T : u_T} {N ci index : Nat} (hts : ∀ w ∈ gw_tbl, w.before args s = true) (hin : ∀ w ∈ u_ws C T N, w ∈ gw_tbl) (hown : s.vm.findClass own = some m.cls) (hK : va_K g.1 vwCl (gtys g) s) (hW : GW g A ad L S H) {o : Nat} (ho : o ∈ L) {fs : List Value} (he : cellOf g ad S o = .inr (ci, fs)) (hc : vwCl[ci]? = some (C, T, N)) (k : Nat) (hk : k < N) (hlink : Cond.fieldLink own index ref (T k).2.1 (T k).2.2.1 ∈ gw_tbl) (href : ref = (T k).1) {v : Value} (hv : fs[k]? = some v) (hdg : decode cc pc = .ok (.getfield index, 3))
    (kk : W p l e R s m args below meth c H locs cells slots Q (F0 m (pc + 3) ls (v :: rest))) : W p l e R s m args below meth c H locs cells slots Q (F0 m pc ls (.ref (ad o) :: rest)) := by
  obtain ⟨q, hq, hq2⟩ := gls_at (g := g) (ad := ad) (S := S) ho
  rw [he] at hq2
  exact va_get hexec hb hts hin hown hK hW.1 q hq2 hc k hk (hts _ hlink) (fun x h => by rw [href]; exact h) hv hdg kk
theorem g_put (hexec : p.tables.exec = Jvm.exec) (hb : c.code = cc) {own ref C : String} {T : u_T} {N ci index : Nat} (hts : ∀ w ∈ gw_tbl, w.before args s = true) (hin : ∀ w ∈ u_ws C T N, w ∈ gw_tbl) (ty0 : Nat → FieldType) (hty : ∀ k, k < N → parseFieldDescriptor (T k).2.2.1 = some (ty0 k)) (hnm : ∀ a, a < N → ∀ b, b < N → a ≠ b → (T a).2.1 ≠ (T b).2.1) (hown : s.vm.findClass own = some m.cls) (hK : va_K g.1 vwCl (gtys g) s) (hW : GW g A ad L S H) (hS : va_S A H0 H locs) {o : Nat} (ho : o ∈ L) {fs : List Value} (he : cellOf g ad S o = .inr (ci, fs)) (hc : vwCl[ci]? = some (C, T, N)) (k : Nat) (hk : k < N) (hlink : Cond.fieldLink own index ref (T k).2.1 (T k).2.2.1 ∈ gw_tbl) (href : ref = (T k).1) (hfin : (T k).2.2.2 = false) {v : Value} (hn : narrow (ty0 k) v = v) (hfit : fits (ty0 k) v = true) (hl : k < fs.length) (S1 : St) (h1 : cellOf g ad S1 o = .inr (ci, fs.set k v)) (h2 : ∀ x, x ≠ o → cellOf g ad S1 x = cellOf g ad S x)
    (hdg : decode cc pc = .ok (.putfield index, 3)) (kk : ∀ S2, S2 = S1 → ∀ (H1 : Heap) (locs1 : List Loc), GW g A ad L S2 H1 → va_S A H0 H1 locs1 → W p l e R s m args below meth c H1 locs1 cells slots Q (F0 m (pc + 3) ls rest)) : W p l e R s m args below meth c H locs cells slots Q (F0 m pc ls (v :: .ref (ad o) :: rest)) := by
  obtain ⟨q, hq, hq2⟩ := gls_at (g := g) (ad := ad) (S := S) ho
  rw [he] at hq2
  have hset := gls_set (S1 := S1) hW.2 hq h1 h2
  refine va_put hexec hb hts hin ty0 hty hnm hown hK hW.1 hW.2 hS q hq2 hc k hk (hts _ hlink) (fun x h => by rw [href]; exact h) hfin (hty k hk) hn hfit hl hdg (fun H1 locs1 hP hD hS1 => ?_)
  rw [hset] at hP hD
  exact kk S1 rfl H1 locs1 ⟨hP, hD⟩ hS1
theorem g_iald (hexec : p.tables.exec = Jvm.exec) (hb : c.code = cc) (hK : va_K g.1 vwCl (gtys g) s) (hW : GW g A ad L S H) {o n : Nat} (ho : o ∈ L) (he : cellOf g ad S o = .inl (g.2.2.1, n, .inl (S.1 o))) {i : Int32} (hin : ¬ (i < 0 ∨ n ≤ ix i)) (hdg : decode cc pc = .ok (.iaload, 1))
    (kk : W p l e R s m args below meth c H locs cells slots Q (F0 m (pc + 1) ls (.int (gv S o (ix i)) :: rest))) : W p l e R s m args below meth c H locs cells slots Q (F0 m pc ls (.int i :: .ref (ad o) :: rest)) := by
  obtain ⟨q, hq, hq2⟩ := gls_at (g := g) (ad := ad) (S := S) ho
  rw [he] at hq2
  exact va_iald hexec hb hK hW.1 q 1 hq2 rfl hin hdg kk
theorem g_bald (hexec : p.tables.exec = Jvm.exec) (hb : c.code = cc) (hK : va_K g.1 vwCl (gtys g) s) (hW : GW g A ad L S H) {o n : Nat} (ho : o ∈ L) (he : cellOf g ad S o = .inl (g.2.1, n, .inl (S.1 o))) {i : Int32} (hin : ¬ (i < 0 ∨ n ≤ ix i)) (hdg : decode cc pc = .ok (.baload, 1))
    (kk : W p l e R s m args below meth c H locs cells slots Q (F0 m (pc + 1) ls (.int (gv S o (ix i)) :: rest))) : W p l e R s m args below meth c H locs cells slots Q (F0 m pc ls (.int i :: .ref (ad o) :: rest)) := by
  obtain ⟨q, hq, hq2⟩ := gls_at (g := g) (ad := ad) (S := S) ho
  rw [he] at hq2
  exact va_bald hexec hb hK hW.1 q 0 hq2 rfl hin hdg kk
theorem g_zald (hexec : p.tables.exec = Jvm.exec) (hb : c.code = cc) (hK : va_K g.1 vwCl (gtys g) s) (hW : GW g A ad L S H) {o n : Nat} (ho : o ∈ L) (he : cellOf g ad S o = .inl (g.2.2.2.1, n, .inl (S.1 o))) {i : Int32} (hin : ¬ (i < 0 ∨ n ≤ ix i)) (hdg : decode cc pc = .ok (.baload, 1))
    (kk : W p l e R s m args below meth c H locs cells slots Q (F0 m (pc + 1) ls (.int (gv S o (ix i)) :: rest))) : W p l e R s m args below meth c H locs cells slots Q (F0 m pc ls (.int i :: .ref (ad o) :: rest)) := by
  obtain ⟨q, hq, hq2⟩ := gls_at (g := g) (ad := ad) (S := S) ho
  rw [he] at hq2
  exact va_zald hexec hb hK hW.1 q 2 hq2 rfl hin hdg kk
theorem sv_row {S : St} {o k : Nat} {x : Int32} : (sv S o k x).1 o = upd (S.1 o) k x := by
  show up2 S.1 o k x o = _
  rw [up2_at]
  rfl
theorem g_iast (hexec : p.tables.exec = Jvm.exec) (hb : c.code = cc) (hK : va_K g.1 vwCl (gtys g) s) (hW : GW g A ad L S H) (hS : va_S A H0 H locs) {o n : Nat} (ho : o ∈ L) (he : ∀ S : St, cellOf g ad S o = .inl (g.2.2.1, n, .inl (S.1 o))) {i x : Int32} (hin : ¬ (i < 0 ∨ n ≤ ix i)) (hdg : decode cc pc = .ok (.iastore, 1))
    (kk : ∀ S2, S2 = sv S o (ix i) x → ∀ (H1 : Heap) (locs1 : List Loc), GW g A ad L S2 H1 → va_S A H0 H1 locs1 → W p l e R s m args below meth c H1 locs1 cells slots Q (F0 m (pc + 1) ls rest)) : W p l e R s m args below meth c H locs cells slots Q (F0 m pc ls (.int x :: .int i :: .ref (ad o) :: rest)) := by
  obtain ⟨q, hq, hq2⟩ := gls_at (g := g) (ad := ad) (S := S) ho
  rw [he S] at hq2
  refine va_iast hexec hb hK hW.1 hW.2 hS q 1 hq2 rfl hin hdg (fun H1 locs1 hP hD hS1 => ?_)
  rw [gls_set (S1 := sv S o (ix i) x) hW.2 hq (by rw [he, sv_row]) cellOf_sv] at hP hD
  exact kk _ rfl H1 locs1 ⟨hP, hD⟩ hS1
theorem g_bast (hexec : p.tables.exec = Jvm.exec) (hb : c.code = cc) (hK : va_K g.1 vwCl (gtys g) s) (hW : GW g A ad L S H) (hS : va_S A H0 H locs) {o n : Nat} (ho : o ∈ L) (he : ∀ S : St, cellOf g ad S o = .inl (g.2.1, n, .inl (S.1 o))) {i x y : Int32} (hy : vp_nar .byte x = y) (hin : ¬ (i < 0 ∨ n ≤ ix i)) (hdg : decode cc pc = .ok (.bastore, 1))
    (kk : ∀ S2, S2 = sv S o (ix i) y → ∀ (H1 : Heap) (locs1 : List Loc), GW g A ad L S2 H1 → va_S A H0 H1 locs1 → W p l e R s m args below meth c H1 locs1 cells slots Q (F0 m (pc + 1) ls rest)) : W p l e R s m args below meth c H locs cells slots Q (F0 m pc ls (.int x :: .int i :: .ref (ad o) :: rest)) := by
  obtain ⟨q, hq, hq2⟩ := gls_at (g := g) (ad := ad) (S := S) ho
  rw [he S] at hq2
  refine va_bast hexec hb hK hW.1 hW.2 hS q 0 hq2 rfl hin hdg (fun H1 locs1 hP hD hS1 => ?_)
  rw [hy] at hP hD
  rw [gls_set (S1 := sv S o (ix i) y) hW.2 hq (by rw [he, sv_row]) cellOf_sv] at hP hD
  exact kk _ rfl H1 locs1 ⟨hP, hD⟩ hS1
theorem g_zast (hexec : p.tables.exec = Jvm.exec) (hb : c.code = cc) (hK : va_K g.1 vwCl (gtys g) s) (hW : GW g A ad L S H) (hS : va_S A H0 H locs) {o n : Nat} (ho : o ∈ L) (he : ∀ S : St, cellOf g ad S o = .inl (g.2.2.2.1, n, .inl (S.1 o))) {i x y : Int32} (hy : vp_nar .boolean x = y) (hin : ¬ (i < 0 ∨ n ≤ ix i)) (hdg : decode cc pc = .ok (.bastore, 1))
    (kk : ∀ S2, S2 = sv S o (ix i) y → ∀ (H1 : Heap) (locs1 : List Loc), GW g A ad L S2 H1 → va_S A H0 H1 locs1 → W p l e R s m args below meth c H1 locs1 cells slots Q (F0 m (pc + 1) ls rest)) : W p l e R s m args below meth c H locs cells slots Q (F0 m pc ls (.int x :: .int i :: .ref (ad o) :: rest)) := by
  obtain ⟨q, hq, hq2⟩ := gls_at (g := g) (ad := ad) (S := S) ho
  rw [he S] at hq2
  refine va_zast hexec hb hK hW.1 hW.2 hS q 2 hq2 rfl hin hdg (fun H1 locs1 hP hD hS1 => ?_)
  rw [hy] at hP hD
  rw [gls_set (S1 := sv S o (ix i) y) hW.2 hq (by rw [he, sv_row]) cellOf_sv] at hP hD
  exact kk _ rfl H1 locs1 ⟨hP, hD⟩ hS1
theorem g_alen (hexec : p.tables.exec = Jvm.exec) (hb : c.code = cc) (hK : va_K g.1 vwCl (gtys g) s) (hW : GW g A ad L S H) {o n : Nat} (ho : o ∈ L) {f : Nat → Int32} (t0 : Nat) {cA : ClassId} {ty : FieldType} (ht : (gtys g)[t0]? = some (cA, ty)) (he : cellOf g ad S o = .inl (cA, n, .inl f)) {v : Int32} (hv : Int32.ofNat n = v) (hdg : decode cc pc = .ok (.arraylength, 1))
    (kk : W p l e R s m args below meth c H locs cells slots Q (F0 m (pc + 1) ls (.int v :: rest))) : W p l e R s m args below meth c H locs cells slots Q (F0 m pc ls (.ref (ad o) :: rest)) := by
  obtain ⟨q, hq, hq2⟩ := gls_at (g := g) (ad := ad) (S := S) ho
  rw [he] at hq2
  exact va_alen hexec hb hK hW.1 q t0 hq2 ht hv hdg kk
/-- a row of references -/
theorem g_aald (hexec : p.tables.exec = Jvm.exec) (hb : c.code = cc) (hK : va_K g.1 vwCl (gtys g) s) (hW : GW g A ad L S H) (ho : 6 ∈ L) {i : Int32} (hin : ¬ (i < 0 ∨ 6 ≤ ix i)) (hdg : decode cc pc = .ok (.aaload, 1))
    (kk : W p l e R s m args below meth c H locs cells slots Q (F0 m (pc + 1) ls (va_re ad (gr S 6 (ix i)) :: rest))) : W p l e R s m args below meth c H locs cells slots Q (F0 m pc ls (.int i :: .ref (ad 6) :: rest)) := by
  obtain ⟨q, hq, hq2⟩ := gls_at (g := g) (ad := ad) (S := S) ho
  exact va_aldq hexec hb hK hW.1 q 3 (C := "DroveRoads$Herd") hq2 rfl hin hdg kk
/-! ends -/
abbrev qi (g : Cx) (A : Nat → Prop) (ad : Nat → Nat) (L : List Nat) (r : Int32) (S2 : St) : Array Value → State → Outcome → State → Prop := va_Qi (fun (x : Int32) (_ : Unit) => x = r) (fun _ t => GW g A ad L S2 t.heap) A
abbrev qz (g : Cx) (A : Nat → Prop) (ad : Nat → Nat) (L : List Nat) (r : Int32) (S2 : St) : Array Value → State → Outcome → State → Prop := va_Qi (fun (x : Int32) (_ : Unit) => x = r ∧ bz x) (fun _ t => GW g A ad L S2 t.heap) A
abbrev qv (g : Cx) (A : Nat → Prop) (ad : Nat → Nat) (L : List Nat) (S2 : St) : Array Value → State → Outcome → State → Prop := va_Qv (fun (_ : Unit) => True) (fun _ t => GW g A ad L S2 t.heap) A
abbrev qr (g : Cx) (A : Nat → Prop) (ad : Nat → Nat) (L : List Nat) (r : Option Nat) (S2 : St) : Array Value → State → Outcome → State → Prop := va_Qe ad (fun (x : Option Nat) (_ : Unit) => x = r) (fun _ t => GW g A ad L S2 t.heap) A
theorem g_iret (hexec : p.tables.exec = Jvm.exec) (hb : c.code = cc) (hr : meth.sig.returnType = some .int) (hlocks : meth.locks = false) (hW : GW g A ad L S H) (hS : va_S A s.heap H locs) {v : Int32} (hdg : decode cc pc = .ok (.ireturn, 1)) : W p l e R s m args below meth c H locs cells slots (MQ below (qi g A ad L v S) args s cells slots A) (F0 m pc ls [.int v]) :=
  W.iret (v := v) hexec hb hr (fun t ht _ => ⟨⟨v, (), rfl, rfl, show GW g A ad L S t.heap from ht.symm ▸ hW⟩, hS.F ht⟩) hS.2.2 hdg hlocks
theorem g_zret (hexec : p.tables.exec = Jvm.exec) (hb : c.code = cc) (hr : meth.sig.returnType = some .boolean) (hlocks : meth.locks = false) (hW : GW g A ad L S H) (hS : va_S A s.heap H locs) {v : Int32} (hz : bz v) (hdg : decode cc pc = .ok (.ireturn, 1)) : W p l e R s m args below meth c H locs cells slots (MQ below (qz g A ad L v S) args s cells slots A) (F0 m pc ls [.int v]) :=
  W.zret (v := v) hexec hb hr hz (fun t ht _ => ⟨⟨v, (), rfl, ⟨rfl, hz⟩, show GW g A ad L S t.heap from ht.symm ▸ hW⟩, hS.F ht⟩) hS.2.2 hdg hlocks
theorem g_vret (hexec : p.tables.exec = Jvm.exec) (hb : c.code = cc) (hr : meth.sig.returnType = none) (hlocks : meth.locks = false) (hW : GW g A ad L S H) (hS : va_S A s.heap H locs) (hdg : decode cc pc = .ok (.return_, 1)) : W p l e R s m args below meth c H locs cells slots (MQ below (qv g A ad L S) args s cells slots A) (F0 m pc ls []) :=
  W.vret hexec hb hr (fun t ht _ => ⟨⟨(), rfl, trivial, show GW g A ad L S t.heap from ht.symm ▸ hW⟩, hS.F ht⟩) hS.2.2 hdg hlocks
theorem g_aret (hexec : p.tables.exec = Jvm.exec) (hb : c.code = cc) {C : String} (hr : meth.sig.returnType = some (.object C)) (hlocks : meth.locks = false) (hW : GW g A ad L S H) (hS : va_S A s.heap H locs) {r : Option Nat} {v : Value} (hv : va_re ad r = v) (hdg : decode cc pc = .ok (.areturn, 1)) : W p l e R s m args below meth c H locs cells slots (MQ below (qr g A ad L r S) args s cells slots A) (F0 m pc ls [v]) := by
  subst hv
  exact W.aret hexec hb hr (Or.inl ⟨C, rfl⟩) (va_re_or ad r) (fun t ht _ => ⟨⟨r, (), rfl, rfl, show GW g A ad L S t.heap from ht.symm ▸ hW⟩, hS.F ht⟩) hS.2.2 hdg hlocks
/-! entry -/
theorem g_met {y : MethodName} {maxL : Nat} {ret : Option FieldType} {rm : Room} {Qc : Array Value → State → Outcome → State → Prop} {mc ms : Nat} (av : List Value) (hy : plainName y.cls = true) (hav : (lg_sl av).length ≤ maxL)
    (body : ∀ (p : Program) (e : Env) (s : State) (m : MethodId) (below : List Frame) (meth : Method) (c : Code) (ls : Array Slot), MC p s m av.toArray meth c cc maxL ret y.cls g A → GW g A ad L S s.heap → lv_has ls maxL (lv_args 0 av) → meth.name = y.name →
      W p l e rm s m av.toArray below meth c s.heap [] 0 0 (MQ below Qc av.toArray s mc ms A) (F0 m 0 ls [])) : Met l y (gws y cc maxL ret) rm (va_Pc av (WU g A ad L S)) Qc mc ms A := by
  refine Met.ofW (cc := cc) (maxL := maxL) (ret := ret) hy rfl ?_
  intro p e s m args below meth c s₁ B hml hv
  obtain ⟨rfl, hW, hK, hN, hT⟩ := hv
  have hts := atoms_spec (ws := gws y cc maxL ret) B.pre
  have hl := lv_entry av (n := maxL) hav
  rw [lg_entry_eq]
  exact body p e s m below meth c _ ⟨B.exec, B.bytes, hml, findClass_of_methodNamed B.named, fun w hw => hts w (List.mem_cons_of_mem _ hw), B.returns, B.notSynchronized, hK, hN, hT⟩ hW hl (name_of_methodNamed B.named B.method).1
/-! calls -/
theorem g_blind {av : List Value} : FrameBlind (va_Pc av (WU g A ad L S)) := fun a U g2 mk q => by
  obtain ⟨q0, qP, qK, qN, qT⟩ := q
  exact ⟨q0, qP, va_K.moved (u := U) (U := U.calling g2 mk a) (Vm.Alike.refl U.vm) qK, qN.calling, qT.calling⟩
theorem g_preS (hW : GW g A ad L S H) (hK : va_K g.1 vwCl (gtys g) s) (hN : NW s) (hT : SW g A s) (hS : va_S A s.heap H locs) {As : List Value} : PreS s H (va_Pc As (WU g A ad L S)) As :=
  ⟨g_blind, fun U hU hwm => ⟨rfl, by rw [hU]; exact hW, va_K.moved hwm.alike hK, hN.warm hwm, hT.at hS hU hwm⟩⟩
theorem g_preV (hW : GW g A ad L S H) (hK : va_K g.1 vwCl (gtys g) s) (hN : NW s) (hT : SW g A s) (hS : va_S A s.heap H locs) {As : List Value} {o ci : Nat} {fs : List Value} {q : vw_C} (ho : o ∈ L) (he : cellOf g ad S o = .inr (ci, fs)) (hc : vwCl[ci]? = some q) : PreV s H q.1 (ad o) (va_Pc (.ref (ad o) :: As) (WU g A ad L S)) As := by
  refine ⟨g_blind, ?_, fun U hU hwm => ⟨rfl, by rw [hU]; exact hW, va_K.moved hwm.alike hK, hN.warm hwm, hT.at hS hU hwm⟩⟩
  obtain ⟨k, hq, hq2⟩ := gls_at (g := g) (ad := ad) (S := S) ho
  rw [he] at hq2
  exact va_recv hK hW.1 hc hq2
variable {y : MethodName} {bytes : ByteArray} {maxL nL mc ms n index k : Nat} {ret : Option FieldType} {rm : Room} {own : String} {As : List Value} {S1 : St} {r : Int32} {ro : Option Nat} {Qc : Array Value → State → Outcome → State → Prop}
def roomy (rm R : Room) (maxL : Nat) : Prop := rm.frames + 1 ≤ R.frames ∧ 8 + (maxL + 11) + rm.locals ≤ R.locals
/-- a call on an object -/
theorem g_runV {q : vw_C} {ci o : Nat} {fs : List Value} (hx : p.tables.exec = Jvm.exec) (hb : c.code = cc) (hml : c.maxLocals = nL) (hown : s.vm.findClass own = some m.cls) (hts : ∀ w ∈ gw_tbl, w.before args s = true) (hK : va_K g.1 vwCl (gtys g) s) (hN : NW s) (hT : SW g A s) (hS : va_S A s.heap H locs) (hW : GW g A ad L S H)
    (hM : Met l y (gws y bytes maxL ret) rm (va_Pc (.ref (ad o) :: As) (WU g A ad L S)) Qc mc ms A) (ho : o ∈ L) (he : cellOf g ad S o = .inr (ci, fs)) (hc : vwCl[ci]? = some q) (hg : GoodIn gw_tbl (wsV own index q.1 y (gws y bytes maxL ret)))
    (hd : y.cls = q.1 ∧ y.cls ≠ "java/lang/invoke/MethodHandle" ∧ y.cls ≠ "java/lang/invoke/VarHandle" ∧ (parseMethodDescriptor y.desc).map (fun d => d.parameters.length) = some n) (hn : As.length = n) (hrc : rm.cells = mc) (hrs : rm.slots = ms) (hroom : roomy rm R maxL) (hsz : ls.size = nL) (hcat : (rest.map fun v => v.category).sum ≤ 8) (hdg : decode cc pc = .ok (.invokevirtual index, 3)) {st : List Value} (hst : st = As.reverse ++ .ref (ad o) :: rest) (hf : cells + mc ≤ R.cells ∧ slots + ms ≤ R.slots) :
    va_Run p l e R s m args below meth c H locs cells slots mc ms (F0 m pc ls st) rest (Qc (Value.ref (ad o) :: As).toArray) A := by
  subst hst
  exact va_runV (As := As) (rest := rest) ⟨hx, hb, hml, hown, hts⟩ hM (cwV n hts hg rfl hrc hrs hd hroom) (g_preV hW hK hN hT hS ho he hc) rfl hn hsz rfl (lv_room hcat) hdg hf
theorem g_runS (hx : p.tables.exec = Jvm.exec) (hb : c.code = cc) (hml : c.maxLocals = nL) (hown : s.vm.findClass own = some m.cls) (hts : ∀ w ∈ gw_tbl, w.before args s = true) (hK : va_K g.1 vwCl (gtys g) s) (hN : NW s) (hT : SW g A s) (hS : va_S A s.heap H locs) (hW : GW g A ad L S H)
    (hM : Met l y (gws y bytes maxL ret) rm (va_Pc As (WU g A ad L S)) Qc mc ms A) (hg : GoodIn gw_tbl (va_wsS own index y (gws y bytes maxL ret)))
    (hd : y.cls ≠ "java/lang/invoke/MethodHandle" ∧ y.cls ≠ "java/lang/invoke/VarHandle" ∧ (parseMethodDescriptor y.desc).map (fun d => d.parameters.length) = some n) (hn : As.length = n) (hrc : rm.cells = mc) (hrs : rm.slots = ms) (hroom : roomy rm R maxL) (hsz : ls.size = nL) (hcat : (rest.map fun v => v.category).sum ≤ 8) (hdg : decode cc pc = .ok (.invokestatic index, 3)) {st : List Value} (hst : st = As.reverse ++ rest) (hf : cells + mc ≤ R.cells ∧ slots + ms ≤ R.slots) :
    va_Run p l e R s m args below meth c H locs cells slots mc ms (F0 m pc ls st) rest (Qc As.toArray) A := by
  subst hst
  exact va_runS (As := As) (rest := rest) ⟨hx, hb, hml, hown, hts⟩ hM (va_cwS n hts hg rfl hrc hrs hd hroom) (g_preS hW hK hN hT hS) rfl hn hsz rfl (lv_room hcat) hdg hf
theorem g_runSN (hx : p.tables.exec = Jvm.exec) (hb : c.code = cc) (hml : c.maxLocals = nL) (hown : s.vm.findClass own = some m.cls) (hts : ∀ w ∈ gw_tbl, w.before args s = true) (hK : va_K g.1 vwCl (gtys g) s) (hN : NW s) (hT : SW g A s) (hS : va_S A s.heap H locs) (hW : GW g A ad L S H)
    (hM : Met l y (gws y bytes maxL ret) rm (va_Pc As (WU g A ad L S)) Qc mc ms A) (h5 : Cond.code y bytes maxL ret ∈ gw_tbl) (hl : (own, index, y) ∈ nestL) (hini : Cond.initialized y.cls ∈ gw_tbl) (hstat : Cond.static y ∈ gw_tbl)
    (hd : y.cls ≠ "java/lang/invoke/MethodHandle" ∧ y.cls ≠ "java/lang/invoke/VarHandle" ∧ (parseMethodDescriptor y.desc).map (fun d => d.parameters.length) = some n) (hn : As.length = n) (hrc : rm.cells = mc) (hrs : rm.slots = ms) (hroom : roomy rm R maxL) (hsz : ls.size = nL) (hcat : (rest.map fun v => v.category).sum ≤ 8) (hdg : decode cc pc = .ok (.invokestatic index, 3)) {st : List Value} (hst : st = As.reverse ++ rest) (hf : cells + mc ≤ R.cells ∧ slots + ms ≤ R.slots) :
    va_Run p l e R s m args below meth c H locs cells slots mc ms (F0 m pc ls st) rest (Qc As.toArray) A := by
  subst hst
  exact va_runSN (As := As) (rest := rest) (host := "DroveRoads") ⟨hx, hb, hml, hown, hts⟩ hM ⟨va_cnB n hts (gw_GoodIn (gw_gws h5)) rfl hrc hrs (hN.1 _ hl) (hts _ hini) hd hroom, hts _ hstat, trivial⟩ (g_preS hW hK hN hT hS) rfl hn hsz rfl (lv_room hcat) hdg hf
theorem g_ci {a : Array Value} {st : List Value} (hr : va_Run p l e R s m args below meth c H locs cells slots 0 0 (F0 m pc ls st) rest (qi g A ad L r S1 a) A) (hS : va_S A H0 H locs)
    (kk : ∀ (H1 : Heap) (locs1 : List Loc), GW g A ad L S1 H1 → va_S A H0 H1 locs1 → W p l e R s m args below meth c H1 locs1 cells slots Q (F0 m (pc + 3) ls (.int r :: rest))) : W p l e R s m args below meth c H locs cells slots Q (F0 m pc ls st) :=
  va_calli hr hS (fun _ _ h => h) (fun _ h => h) (fun r2 _ t H1 locs1 ht _ hp hB _ _ hS1 => by subst hp; subst ht; exact kk _ locs1 hB hS1)
theorem g_cz {a : Array Value} {st : List Value} (hr : va_Run p l e R s m args below meth c H locs cells slots 0 0 (F0 m pc ls st) rest (qz g A ad L r S1 a) A) (hS : va_S A H0 H locs)
    (kk : bz r → ∀ (H1 : Heap) (locs1 : List Loc), GW g A ad L S1 H1 → va_S A H0 H1 locs1 → W p l e R s m args below meth c H1 locs1 cells slots Q (F0 m (pc + 3) ls (.int r :: rest))) : W p l e R s m args below meth c H locs cells slots Q (F0 m pc ls st) :=
  va_calli hr hS (fun _ _ h => h) (fun _ h => h) (fun r2 _ t H1 locs1 ht _ hp hB _ _ hS1 => by obtain ⟨hp, hz⟩ := hp; subst hp; subst ht; exact kk hz _ locs1 hB hS1)
theorem g_cv {a : Array Value} {st : List Value} (hr : va_Run p l e R s m args below meth c H locs cells slots 0 0 (F0 m pc ls st) rest (qv g A ad L S1 a) A) (hS : va_S A H0 H locs)
    (kk : ∀ (H1 : Heap) (locs1 : List Loc), GW g A ad L S1 H1 → va_S A H0 H1 locs1 → W p l e R s m args below meth c H1 locs1 cells slots Q (F0 m (pc + 3) ls rest)) : W p l e R s m args below meth c H locs cells slots Q (F0 m pc ls st) :=
  va_callv hr hS (fun _ _ h => h) (fun _ h => h) (fun _ t H1 locs1 ht _ hp hB _ _ hS1 => by subst ht; exact kk _ locs1 hB hS1)
theorem g_cr {a : Array Value} {st : List Value} (hr : va_Run p l e R s m args below meth c H locs cells slots 0 0 (F0 m pc ls st) rest (qr g A ad L ro S1 a) A) (hS : va_S A H0 H locs)
    (kk : ∀ (H1 : Heap) (locs1 : List Loc), GW g A ad L S1 H1 → va_S A H0 H1 locs1 → W p l e R s m args below meth c H1 locs1 cells slots Q (F0 m (pc + 3) ls (va_re ad ro :: rest))) : W p l e R s m args below meth c H locs cells slots Q (F0 m pc ls st) :=
  va_calle hr hS (fun _ _ h => h) (fun _ h => h) (fun r2 _ t H1 locs1 ht _ hp hB _ _ hS1 => by subst hp; subst ht; exact kk _ locs1 hB hS1)
/-- int and long fields of the world's objects -/
theorem fs_int {fs : List Value} {k : Nat} {x : Int32} (h : fs[k]? = some (.int x)) : k < fs.length := (List.getElem?_eq_some_iff.mp h).1
theorem bz_of {x : Int32} (h : x = 0 ∨ x = 1) : bz x := by rcases h with rfl | rfl <;> rfl
def swL (i : Nat) : Int32 := Int32.ofNat (sw_len.getD i 0)
def swB (i k : Nat) : Int32 := (sw_byt.getD i []).getD k 0
abbrev qn (ty : FieldType) (g : Cx) (A : Nat → Prop) (ad : Nat → Nat) (L : List Nat) (r : Int32) (S2 : St) : Array Value → State → Outcome → State → Prop := va_Qi (fun (x : Int32) (_ : Unit) => x = r ∧ narrow ty (.int x) = .int x) (fun _ t => GW g A ad L S2 t.heap) A
theorem g_nret {ty : FieldType} (hexec : p.tables.exec = Jvm.exec) (hb : c.code = cc) (hr : meth.sig.returnType = some ty) (hlocks : meth.locks = false) (hW : GW g A ad L S H) (hS : va_S A s.heap H locs) {v : Int32} (hz : narrow ty (.int v) = .int v) (hdg : decode cc pc = .ok (.ireturn, 1)) : W p l e R s m args below meth c H locs cells slots (MQ below (qn ty g A ad L v S) args s cells slots A) (F0 m pc ls [.int v]) :=
  W.zret (v := v) hexec hb hr hz (fun t ht _ => ⟨⟨v, (), rfl, ⟨rfl, hz⟩, show GW g A ad L S t.heap from ht.symm ▸ hW⟩, hS.F ht⟩) hS.2.2 hdg hlocks
theorem g_cn {ty : FieldType} {a : Array Value} {st : List Value} (hr : va_Run p l e R s m args below meth c H locs cells slots 0 0 (F0 m pc ls st) rest (qn ty g A ad L r S1 a) A) (hS : va_S A H0 H locs)
    (kk : narrow ty (.int r) = .int r → ∀ (H1 : Heap) (locs1 : List Loc), GW g A ad L S1 H1 → va_S A H0 H1 locs1 → W p l e R s m args below meth c H1 locs1 cells slots Q (F0 m (pc + 3) ls (.int r :: rest))) : W p l e R s m args below meth c H locs cells slots Q (F0 m pc ls st) :=
  va_calli hr hS (fun _ _ h => h) (fun _ h => h) (fun r2 _ t H1 locs1 ht _ hp hB _ _ hS1 => by obtain ⟨hp, hz⟩ := hp; subst hp; subst ht; exact kk hz _ locs1 hB hS1)
theorem g_runVs {i : Nat} (hx : p.tables.exec = Jvm.exec) (hb : c.code = cc) (hml : c.maxLocals = nL) (hown : s.vm.findClass own = some m.cls) (hts : ∀ w ∈ gw_tbl, w.before args s = true) (hK : va_K g.1 vwCl (gtys g) s) (hN : NW s) (hT : SW g A s) (hS : va_S A s.heap H locs) (hW : GW g A ad L S H)
    (hM : Met l y (gws y bytes maxL ret) rm (va_Pc (.ref (g.2.2.2.2.2.1 i) :: As) (WU g A ad L S)) Qc mc ms A) (hi : i < 2) (hg : GoodIn gw_tbl (wsV own index "java/lang/String" y (gws y bytes maxL ret)))
    (hd : y.cls = "java/lang/String" ∧ y.cls ≠ "java/lang/invoke/MethodHandle" ∧ y.cls ≠ "java/lang/invoke/VarHandle" ∧ (parseMethodDescriptor y.desc).map (fun d => d.parameters.length) = some n) (hn : As.length = n) (hrc : rm.cells = mc) (hrs : rm.slots = ms) (hroom : roomy rm R maxL) (hsz : ls.size = nL) (hcat : (rest.map fun v => v.category).sum ≤ 8) (hdg : decode cc pc = .ok (.invokevirtual index, 3)) {st : List Value} (hst : st = As.reverse ++ .ref (g.2.2.2.2.2.1 i) :: rest) (hf : cells + mc ≤ R.cells ∧ slots + ms ≤ R.slots) :
    va_Run p l e R s m args below meth c H locs cells slots mc ms (F0 m pc ls st) rest (Qc (Value.ref (g.2.2.2.2.2.1 i) :: As).toArray) A := by
  subst hst
  exact va_runV (As := As) (rest := rest) ⟨hx, hb, hml, hown, hts⟩ hM (cwV n hts hg rfl hrc hrs hd hroom) ⟨g_blind, vk_recv hT.2.2.1 hi hS, fun U hU hwm => ⟨rfl, by rw [hU]; exact hW, va_K.moved hwm.alike hK, hN.warm hwm, hT.at hS hU hwm⟩⟩ rfl hn hsz rfl (lv_room hcat) hdg hf
theorem rm_ok {a b maxL : Nat} (h : a + 1 ≤ b) (hm : maxL ≤ 40) : roomy (rmk a) (rmk b) maxL := by
  unfold roomy rmk
  dsimp only
  omega
/-- Math.max, Math.min -/
theorem g_max (hx : p.tables.exec = Jvm.exec) (hb : c.code = cc) (hml : c.maxLocals = nL) (hsz : ls.size = nL) (hown : s.vm.findClass own = some m.cls) (hts : ∀ w ∈ gw_tbl, w.before args s = true) (h1 : Cond.methodLink own index Lib.Math.max.name ∈ gw_tbl) (h2 : Cond.static Lib.Math.max.name ∈ gw_tbl) (h3 : Cond.initialized "java/lang/Math" ∈ gw_tbl) (h4 : Cond.code Lib.Math.max.name Lib.Math.max.code 2 (some .int) ∈ gw_tbl)
    (hf : 1 ≤ R.frames) (hlo : (rest.map fun v => v.category).sum + 13 ≤ R.locals) (hce : cells ≤ R.cells) (hsl : slots ≤ R.slots) {x z : Int32} (hdg : decode cc pc = .ok (.invokestatic index, 3))
    (kk : ∀ w : Int32, w = (if x < z then z else x) → W p l e R s m args below meth c H locs cells slots Q (F0 m (pc + 3) ls (.int w :: rest))) : W p l e R s m args below meth c H locs cells slots Q (F0 m pc ls (.int z :: .int x :: rest)) :=
  va_mmax hx hb (hml.trans hsz.symm) hown (hts _ h1) (hts _ h2) (hts _ h3) (hts _ h4) hf hlo hce hsl hdg (kk _ rfl)
theorem g_min (hx : p.tables.exec = Jvm.exec) (hb : c.code = cc) (hml : c.maxLocals = nL) (hsz : ls.size = nL) (hown : s.vm.findClass own = some m.cls) (hts : ∀ w ∈ gw_tbl, w.before args s = true) (h1 : Cond.methodLink own index Lib.Math.min.name ∈ gw_tbl) (h2 : Cond.static Lib.Math.min.name ∈ gw_tbl) (h3 : Cond.initialized "java/lang/Math" ∈ gw_tbl) (h4 : Cond.code Lib.Math.min.name Lib.Math.min.code 2 (some .int) ∈ gw_tbl)
    (hf : 1 ≤ R.frames) (hlo : (rest.map fun v => v.category).sum + 13 ≤ R.locals) (hce : cells ≤ R.cells) (hsl : slots ≤ R.slots) {x z : Int32} (hdg : decode cc pc = .ok (.invokestatic index, 3))
    (kk : ∀ w : Int32, w = (if z < x then z else x) → W p l e R s m args below meth c H locs cells slots Q (F0 m (pc + 3) ls (.int w :: rest))) : W p l e R s m args below meth c H locs cells slots Q (F0 m pc ls (.int z :: .int x :: rest)) :=
  va_mmin hx hb (hml.trans hsz.symm) hown (hts _ h1) (hts _ h2) (hts _ h3) (hts _ h4) hf hlo hce hsl hdg (kk _ rfl)
theorem sv_row2 {S : St} {o k : Nat} {x : Int32} : (sv S o k x).1 o = va_up (S.1 o) k x := up2_at _ _ _ _
theorem sr_row2 {S : St} {o k : Nat} {x : Option Nat} : (sr S o k x).2.1 o = va_up (S.2.1 o) k x := up2_at _ _ _ _
end ROWS
